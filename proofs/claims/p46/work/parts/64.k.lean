section
variable {p : Program} {l : Launch} {e : Env} {s : State} {m : MethodId} {args : Array Value} {below : List Frame} {meth : Method} {c : Code} {E : Ev} {K : Kd} {z : Nat}

theorem dX8_advance_0 : decode cX8_advance 0 = .ok (.aload_n 0, 1) := by decide +kernel
theorem dX8_advance_1 : decode cX8_advance 1 = .ok (.getfield 34, 3) := by decide +kernel
theorem dX8_advance_4 : decode cX8_advance 4 = .ok (.aload_n 0, 1) := by decide +kernel
theorem dX8_advance_5 : decode cX8_advance 5 = .ok (.getfield 30, 3) := by decide +kernel
theorem dX8_advance_8 : decode cX8_advance 8 = .ok (.if_icmp .ge 44, 3) := by decide +kernel
theorem dX8_advance_11 : decode cX8_advance 11 = .ok (.aload_n 0, 1) := by decide +kernel
theorem dX8_advance_12 : decode cX8_advance 12 = .ok (.getfield 9, 3) := by decide +kernel
theorem dX8_advance_15 : decode cX8_advance 15 = .ok (.aload_n 0, 1) := by decide +kernel
theorem dX8_advance_16 : decode cX8_advance 16 = .ok (.getfield 34, 3) := by decide +kernel
theorem dX8_advance_19 : decode cX8_advance 19 = .ok (.baload, 1) := by decide +kernel
theorem dX8_advance_20 : decode cX8_advance 20 = .ok (.bipush 32, 2) := by decide +kernel
theorem dX8_advance_22 : decode cX8_advance 22 = .ok (.if_icmp .eq 17, 3) := by decide +kernel
theorem dX8_advance_25 : decode cX8_advance 25 = .ok (.aload_n 0, 1) := by decide +kernel
theorem dX8_advance_26 : decode cX8_advance 26 = .ok (.getfield 9, 3) := by decide +kernel
theorem dX8_advance_29 : decode cX8_advance 29 = .ok (.aload_n 0, 1) := by decide +kernel
theorem dX8_advance_30 : decode cX8_advance 30 = .ok (.getfield 34, 3) := by decide +kernel
theorem dX8_advance_33 : decode cX8_advance 33 = .ok (.baload, 1) := by decide +kernel
theorem dX8_advance_34 : decode cX8_advance 34 = .ok (.bipush 10, 2) := by decide +kernel
theorem dX8_advance_36 : decode cX8_advance 36 = .ok (.if_icmp .ne 16, 3) := by decide +kernel
theorem dX8_advance_39 : decode cX8_advance 39 = .ok (.aload_n 0, 1) := by decide +kernel
theorem dX8_advance_40 : decode cX8_advance 40 = .ok (.dup, 1) := by decide +kernel
theorem dX8_advance_41 : decode cX8_advance 41 = .ok (.getfield 34, 3) := by decide +kernel
theorem dX8_advance_44 : decode cX8_advance 44 = .ok (.iconst 1, 1) := by decide +kernel
theorem dX8_advance_45 : decode cX8_advance 45 = .ok (.iadd, 1) := by decide +kernel
theorem dX8_advance_46 : decode cX8_advance 46 = .ok (.putfield 34, 3) := by decide +kernel
theorem dX8_advance_49 : decode cX8_advance 49 = .ok (.goto (-49), 3) := by decide +kernel
theorem dX8_advance_52 : decode cX8_advance 52 = .ok (.aload_n 0, 1) := by decide +kernel
theorem dX8_advance_53 : decode cX8_advance 53 = .ok (.aload_n 0, 1) := by decide +kernel
theorem dX8_advance_54 : decode cX8_advance 54 = .ok (.getfield 34, 3) := by decide +kernel
theorem dX8_advance_57 : decode cX8_advance 57 = .ok (.putfield 40, 3) := by decide +kernel
theorem dX8_advance_60 : decode cX8_advance 60 = .ok (.aload_n 0, 1) := by decide +kernel
theorem dX8_advance_61 : decode cX8_advance 61 = .ok (.lconst 0, 1) := by decide +kernel
theorem dX8_advance_62 : decode cX8_advance 62 = .ok (.putfield 43, 3) := by decide +kernel
theorem dX8_advance_65 : decode cX8_advance 65 = .ok (.aload_n 0, 1) := by decide +kernel
theorem dX8_advance_66 : decode cX8_advance 66 = .ok (.iconst 0, 1) := by decide +kernel
theorem dX8_advance_67 : decode cX8_advance 67 = .ok (.putfield 47, 3) := by decide +kernel
theorem dX8_advance_70 : decode cX8_advance 70 = .ok (.aload_n 0, 1) := by decide +kernel
theorem dX8_advance_71 : decode cX8_advance 71 = .ok (.getfield 34, 3) := by decide +kernel
theorem dX8_advance_74 : decode cX8_advance 74 = .ok (.aload_n 0, 1) := by decide +kernel
theorem dX8_advance_75 : decode cX8_advance 75 = .ok (.getfield 30, 3) := by decide +kernel
theorem dX8_advance_78 : decode cX8_advance 78 = .ok (.if_icmp .lt 13, 3) := by decide +kernel
theorem dX8_advance_81 : decode cX8_advance 81 = .ok (.aload_n 0, 1) := by decide +kernel
theorem dX8_advance_82 : decode cX8_advance 82 = .ok (.getstatic 15, 3) := by decide +kernel
theorem dX8_advance_85 : decode cX8_advance 85 = .ok (.putfield 21, 3) := by decide +kernel
theorem dX8_advance_88 : decode cX8_advance 88 = .ok (.goto 257, 3) := by decide +kernel
theorem dX8_advance_91 : decode cX8_advance 91 = .ok (.aload_n 0, 1) := by decide +kernel
theorem dX8_advance_92 : decode cX8_advance 92 = .ok (.getfield 9, 3) := by decide +kernel
theorem dX8_advance_95 : decode cX8_advance 95 = .ok (.aload_n 0, 1) := by decide +kernel
theorem dX8_advance_96 : decode cX8_advance 96 = .ok (.getfield 34, 3) := by decide +kernel
theorem dX8_advance_99 : decode cX8_advance 99 = .ok (.baload, 1) := by decide +kernel
theorem dX8_advance_100 : decode cX8_advance 100 = .ok (.invokestatic 50, 3) := by decide +kernel
theorem dX8_advance_103 : decode cX8_advance 103 = .ok (.ifCond .eq 98, 3) := by decide +kernel
theorem dX8_advance_106 : decode cX8_advance 106 = .ok (.aload_n 0, 1) := by decide +kernel
theorem dX8_advance_107 : decode cX8_advance 107 = .ok (.getfield 34, 3) := by decide +kernel
theorem dX8_advance_110 : decode cX8_advance 110 = .ok (.aload_n 0, 1) := by decide +kernel
theorem dX8_advance_111 : decode cX8_advance 111 = .ok (.getfield 30, 3) := by decide +kernel
theorem dX8_advance_114 : decode cX8_advance 114 = .ok (.if_icmp .ge 53, 3) := by decide +kernel
theorem dX8_advance_117 : decode cX8_advance 117 = .ok (.aload_n 0, 1) := by decide +kernel
theorem dX8_advance_118 : decode cX8_advance 118 = .ok (.getfield 9, 3) := by decide +kernel
theorem dX8_advance_121 : decode cX8_advance 121 = .ok (.aload_n 0, 1) := by decide +kernel
theorem dX8_advance_122 : decode cX8_advance 122 = .ok (.getfield 34, 3) := by decide +kernel
theorem dX8_advance_125 : decode cX8_advance 125 = .ok (.baload, 1) := by decide +kernel
theorem dX8_advance_126 : decode cX8_advance 126 = .ok (.invokestatic 50, 3) := by decide +kernel
theorem dX8_advance_129 : decode cX8_advance 129 = .ok (.ifCond .eq 38, 3) := by decide +kernel
theorem dX8_advance_132 : decode cX8_advance 132 = .ok (.aload_n 0, 1) := by decide +kernel
theorem dX8_advance_133 : decode cX8_advance 133 = .ok (.aload_n 0, 1) := by decide +kernel
theorem dX8_advance_134 : decode cX8_advance 134 = .ok (.getfield 43, 3) := by decide +kernel
theorem dX8_advance_137 : decode cX8_advance 137 = .ok (.bipush 8, 2) := by decide +kernel
theorem dX8_advance_139 : decode cX8_advance 139 = .ok (.lshl, 1) := by decide +kernel
theorem dX8_advance_140 : decode cX8_advance 140 = .ok (.aload_n 0, 1) := by decide +kernel
theorem dX8_advance_141 : decode cX8_advance 141 = .ok (.getfield 9, 3) := by decide +kernel
theorem dX8_advance_144 : decode cX8_advance 144 = .ok (.aload_n 0, 1) := by decide +kernel
theorem dX8_advance_145 : decode cX8_advance 145 = .ok (.getfield 34, 3) := by decide +kernel
theorem dX8_advance_148 : decode cX8_advance 148 = .ok (.baload, 1) := by decide +kernel
theorem dX8_advance_149 : decode cX8_advance 149 = .ok (.i2l, 1) := by decide +kernel
theorem dX8_advance_150 : decode cX8_advance 150 = .ok (.lor, 1) := by decide +kernel
theorem dX8_advance_151 : decode cX8_advance 151 = .ok (.putfield 43, 3) := by decide +kernel
theorem dX8_advance_154 : decode cX8_advance 154 = .ok (.aload_n 0, 1) := by decide +kernel
theorem dX8_advance_155 : decode cX8_advance 155 = .ok (.dup, 1) := by decide +kernel
theorem dX8_advance_156 : decode cX8_advance 156 = .ok (.getfield 34, 3) := by decide +kernel
theorem dX8_advance_159 : decode cX8_advance 159 = .ok (.iconst 1, 1) := by decide +kernel
theorem dX8_advance_160 : decode cX8_advance 160 = .ok (.iadd, 1) := by decide +kernel
theorem dX8_advance_161 : decode cX8_advance 161 = .ok (.putfield 34, 3) := by decide +kernel
theorem dX8_advance_164 : decode cX8_advance 164 = .ok (.goto (-58), 3) := by decide +kernel
theorem dX8_advance_167 : decode cX8_advance 167 = .ok (.aload_n 0, 1) := by decide +kernel
theorem dX8_advance_168 : decode cX8_advance 168 = .ok (.aload_n 0, 1) := by decide +kernel
theorem dX8_advance_169 : decode cX8_advance 169 = .ok (.getfield 34, 3) := by decide +kernel
theorem dX8_advance_172 : decode cX8_advance 172 = .ok (.aload_n 0, 1) := by decide +kernel
theorem dX8_advance_173 : decode cX8_advance 173 = .ok (.getfield 40, 3) := by decide +kernel
theorem dX8_advance_176 : decode cX8_advance 176 = .ok (.isub, 1) := by decide +kernel
theorem dX8_advance_177 : decode cX8_advance 177 = .ok (.bipush 8, 2) := by decide +kernel
theorem dX8_advance_179 : decode cX8_advance 179 = .ok (.if_icmp .le 9, 3) := by decide +kernel
theorem dX8_advance_182 : decode cX8_advance 182 = .ok (.getstatic 54, 3) := by decide +kernel
theorem dX8_advance_185 : decode cX8_advance 185 = .ok (.goto 10, 3) := by decide +kernel
theorem dX8_advance_188 : decode cX8_advance 188 = .ok (.aload_n 0, 1) := by decide +kernel
theorem dX8_advance_189 : decode cX8_advance 189 = .ok (.getfield 43, 3) := by decide +kernel
theorem dX8_advance_192 : decode cX8_advance 192 = .ok (.invokestatic 57, 3) := by decide +kernel
theorem dX8_advance_195 : decode cX8_advance 195 = .ok (.putfield 21, 3) := by decide +kernel
theorem dX8_advance_198 : decode cX8_advance 198 = .ok (.goto 147, 3) := by decide +kernel
theorem dX8_advance_201 : decode cX8_advance 201 = .ok (.aload_n 0, 1) := by decide +kernel
theorem dX8_advance_202 : decode cX8_advance 202 = .ok (.getfield 9, 3) := by decide +kernel
theorem dX8_advance_205 : decode cX8_advance 205 = .ok (.aload_n 0, 1) := by decide +kernel
theorem dX8_advance_206 : decode cX8_advance 206 = .ok (.getfield 34, 3) := by decide +kernel
theorem dX8_advance_209 : decode cX8_advance 209 = .ok (.baload, 1) := by decide +kernel
theorem dX8_advance_210 : decode cX8_advance 210 = .ok (.invokestatic 61, 3) := by decide +kernel
theorem dX8_advance_213 : decode cX8_advance 213 = .ok (.ifCond .eq 95, 3) := by decide +kernel
theorem dX8_advance_216 : decode cX8_advance 216 = .ok (.aload_n 0, 1) := by decide +kernel
theorem dX8_advance_217 : decode cX8_advance 217 = .ok (.getfield 34, 3) := by decide +kernel
theorem dX8_advance_220 : decode cX8_advance 220 = .ok (.aload_n 0, 1) := by decide +kernel
theorem dX8_advance_221 : decode cX8_advance 221 = .ok (.getfield 30, 3) := by decide +kernel
theorem dX8_advance_224 : decode cX8_advance 224 = .ok (.if_icmp .ge 55, 3) := by decide +kernel
theorem dX8_advance_227 : decode cX8_advance 227 = .ok (.aload_n 0, 1) := by decide +kernel
theorem dX8_advance_228 : decode cX8_advance 228 = .ok (.getfield 9, 3) := by decide +kernel
theorem dX8_advance_231 : decode cX8_advance 231 = .ok (.aload_n 0, 1) := by decide +kernel
theorem dX8_advance_232 : decode cX8_advance 232 = .ok (.getfield 34, 3) := by decide +kernel
theorem dX8_advance_235 : decode cX8_advance 235 = .ok (.baload, 1) := by decide +kernel
theorem dX8_advance_236 : decode cX8_advance 236 = .ok (.invokestatic 61, 3) := by decide +kernel
theorem dX8_advance_239 : decode cX8_advance 239 = .ok (.ifCond .eq 40, 3) := by decide +kernel
theorem dX8_advance_242 : decode cX8_advance 242 = .ok (.aload_n 0, 1) := by decide +kernel
theorem dX8_advance_243 : decode cX8_advance 243 = .ok (.aload_n 0, 1) := by decide +kernel
theorem dX8_advance_244 : decode cX8_advance 244 = .ok (.getfield 47, 3) := by decide +kernel
theorem dX8_advance_247 : decode cX8_advance 247 = .ok (.bipush 10, 2) := by decide +kernel
theorem dX8_advance_249 : decode cX8_advance 249 = .ok (.imul, 1) := by decide +kernel
theorem dX8_advance_250 : decode cX8_advance 250 = .ok (.aload_n 0, 1) := by decide +kernel
theorem dX8_advance_251 : decode cX8_advance 251 = .ok (.getfield 9, 3) := by decide +kernel
theorem dX8_advance_254 : decode cX8_advance 254 = .ok (.aload_n 0, 1) := by decide +kernel
theorem dX8_advance_255 : decode cX8_advance 255 = .ok (.getfield 34, 3) := by decide +kernel
theorem dX8_advance_258 : decode cX8_advance 258 = .ok (.baload, 1) := by decide +kernel
theorem dX8_advance_259 : decode cX8_advance 259 = .ok (.bipush 48, 2) := by decide +kernel
theorem dX8_advance_261 : decode cX8_advance 261 = .ok (.isub, 1) := by decide +kernel
theorem dX8_advance_262 : decode cX8_advance 262 = .ok (.iadd, 1) := by decide +kernel
theorem dX8_advance_263 : decode cX8_advance 263 = .ok (.putfield 47, 3) := by decide +kernel
theorem dX8_advance_266 : decode cX8_advance 266 = .ok (.aload_n 0, 1) := by decide +kernel
theorem dX8_advance_267 : decode cX8_advance 267 = .ok (.dup, 1) := by decide +kernel
theorem dX8_advance_268 : decode cX8_advance 268 = .ok (.getfield 34, 3) := by decide +kernel
theorem dX8_advance_271 : decode cX8_advance 271 = .ok (.iconst 1, 1) := by decide +kernel
theorem dX8_advance_272 : decode cX8_advance 272 = .ok (.iadd, 1) := by decide +kernel
theorem dX8_advance_273 : decode cX8_advance 273 = .ok (.putfield 34, 3) := by decide +kernel
theorem dX8_advance_276 : decode cX8_advance 276 = .ok (.goto (-60), 3) := by decide +kernel
theorem dX8_advance_279 : decode cX8_advance 279 = .ok (.aload_n 0, 1) := by decide +kernel
theorem dX8_advance_280 : decode cX8_advance 280 = .ok (.aload_n 0, 1) := by decide +kernel
theorem dX8_advance_281 : decode cX8_advance 281 = .ok (.getfield 34, 3) := by decide +kernel
theorem dX8_advance_284 : decode cX8_advance 284 = .ok (.aload_n 0, 1) := by decide +kernel
theorem dX8_advance_285 : decode cX8_advance 285 = .ok (.getfield 40, 3) := by decide +kernel
theorem dX8_advance_288 : decode cX8_advance 288 = .ok (.isub, 1) := by decide +kernel
theorem dX8_advance_289 : decode cX8_advance 289 = .ok (.iconst 3, 1) := by decide +kernel
theorem dX8_advance_290 : decode cX8_advance 290 = .ok (.if_icmp .le 9, 3) := by decide +kernel
theorem dX8_advance_293 : decode cX8_advance 293 = .ok (.getstatic 54, 3) := by decide +kernel
theorem dX8_advance_296 : decode cX8_advance 296 = .ok (.goto 6, 3) := by decide +kernel
theorem dX8_advance_299 : decode cX8_advance 299 = .ok (.getstatic 64, 3) := by decide +kernel
theorem dX8_advance_302 : decode cX8_advance 302 = .ok (.putfield 21, 3) := by decide +kernel
theorem dX8_advance_305 : decode cX8_advance 305 = .ok (.goto 40, 3) := by decide +kernel
theorem dX8_advance_308 : decode cX8_advance 308 = .ok (.aload_n 0, 1) := by decide +kernel
theorem dX8_advance_309 : decode cX8_advance 309 = .ok (.aload_n 0, 1) := by decide +kernel
theorem dX8_advance_310 : decode cX8_advance 310 = .ok (.getfield 9, 3) := by decide +kernel
theorem dX8_advance_313 : decode cX8_advance 313 = .ok (.aload_n 0, 1) := by decide +kernel
theorem dX8_advance_314 : decode cX8_advance 314 = .ok (.getfield 34, 3) := by decide +kernel
theorem dX8_advance_317 : decode cX8_advance 317 = .ok (.baload, 1) := by decide +kernel
theorem dX8_advance_318 : decode cX8_advance 318 = .ok (.bipush 59, 2) := by decide +kernel
theorem dX8_advance_320 : decode cX8_advance 320 = .ok (.if_icmp .ne 9, 3) := by decide +kernel
theorem dX8_advance_323 : decode cX8_advance 323 = .ok (.getstatic 67, 3) := by decide +kernel
theorem dX8_advance_326 : decode cX8_advance 326 = .ok (.goto 6, 3) := by decide +kernel
theorem dX8_advance_329 : decode cX8_advance 329 = .ok (.getstatic 54, 3) := by decide +kernel
theorem dX8_advance_332 : decode cX8_advance 332 = .ok (.putfield 21, 3) := by decide +kernel
theorem dX8_advance_335 : decode cX8_advance 335 = .ok (.aload_n 0, 1) := by decide +kernel
theorem dX8_advance_336 : decode cX8_advance 336 = .ok (.dup, 1) := by decide +kernel
theorem dX8_advance_337 : decode cX8_advance 337 = .ok (.getfield 34, 3) := by decide +kernel
theorem dX8_advance_340 : decode cX8_advance 340 = .ok (.iconst 1, 1) := by decide +kernel
theorem dX8_advance_341 : decode cX8_advance 341 = .ok (.iadd, 1) := by decide +kernel
theorem dX8_advance_342 : decode cX8_advance 342 = .ok (.putfield 34, 3) := by decide +kernel
theorem dX8_advance_345 : decode cX8_advance 345 = .ok (.return_, 1) := by decide +kernel
theorem hd_X8_advance : yX8_advance.cls = RX8 ∧ yX8_advance.cls ≠ "java/lang/invoke/MethodHandle" ∧ yX8_advance.cls ≠ "java/lang/invoke/VarHandle" ∧ (parseMethodDescriptor yX8_advance.desc).map (fun d => d.parameters.length) = some 0 := by decide +kernel
theorem hs_X8_advance : yX8_advance.cls ≠ "java/lang/invoke/MethodHandle" ∧ yX8_advance.cls ≠ "java/lang/invoke/VarHandle" ∧ (parseMethodDescriptor yX8_advance.desc).map (fun d => d.parameters.length) = some 0 := by decide +kernel
set_option maxHeartbeats 4000000 in
set_option maxRecDepth 100000 in
theorem l_X8_advance_L0 (C : CX p l e s m args meth c cX8_advance 1 RX8 (Option.none : Option Jvm.ClassFile.FieldType) E) {o : Nat} (ho : K o = some (7, 0)) {w' : Wd} (k : Wd → Option Wd) (hk : ∀ (w : Wd) (H : Heap) (locs : List Loc) (ls : Array Slot), HQ E K z w s H locs → lv_has ls 1 [(0, rv E (some o))] → k w = some w' → W p l e ({ frames := 1, cells := 0, slots := 0, locals := 22 } : Room) s m args below meth c H locs 0 0 (MQ below (QV E K z w') args s 0 0 (hA E)) (F0 m 52 ls [])) : ∀ (n : Nat) (w : Wd) (H : Heap) (locs : List Loc) (ls : Array Slot), HQ E K z w s H locs → lv_has ls 1 [(0, rv E (some o))] → f_X8_advance_L0 K o k n w = some w' → W p l e ({ frames := 1, cells := 0, slots := 0, locals := 22 } : Room) s m args below meth c H locs 0 0 (MQ below (QV E K z w') args s 0 0 (hA E)) (F0 m 0 ls []) := by
  obtain ⟨hx, hb, hml, hown, hts, hKs, hT, hb0, hlocks, hret⟩ := id C
  intro n
  induction n with
  | zero =>
    intro w H locs ls hH hl hf
    cases hf
  | succ n ih =>
    intro w H locs ls hH hl hf
    rw [f_X8_advance_L0] at hf
    refine hl_aload_n hx hb dX8_advance_0 rfl (lv_at hl 0 rfl) ?_
    refine g8_3 hx hb hts hown hKs hH rfl ho m1_239 dX8_advance_1 ?_
    refine hl_aload_n hx hb dX8_advance_4 rfl (lv_at hl 0 rfl) ?_
    refine g8_1 hx hb hts hown hKs hH rfl ho m1_236 dX8_advance_5 ?_
    refine lv_icmp_ge (tgt := 52) hx hb dX8_advance_8 (by decide) (fun c2 => ?_) (fun c2 => ?_)
    · replace hf := (if_pos c2).symm.trans hf
      exact hk _ _ _ _ hH (lv_sub hl [0] rfl) hf
    · replace hf := (if_neg c2).symm.trans hf
      refine hl_aload_n hx hb dX8_advance_11 rfl (lv_at hl 0 rfl) ?_
      refine g8_0 hx hb hts hown hKs hH rfl ho m1_235 dX8_advance_12 ?_
      refine hl_aload_n hx hb dX8_advance_15 rfl (lv_at hl 0 rfl) ?_
      refine g8_3 hx hb hts hown hKs hH rfl ho m1_239 dX8_advance_16 ?_
      obtain ⟨a3, ha3, hf⟩ := bnd hf
      replace ha3 := cha_some ha3
      obtain ⟨j4, hj4, hf⟩ := bnd hf
      refine hw_bald hx hb hKs hH ha3.1 ha3.2 hj4 dX8_advance_19 ?_
      refine lv_bipush (v := 32) hx hb dX8_advance_20 (by decide) ?_
      refine lv_icmp_eq (tgt := 39) hx hb dX8_advance_22 (by decide) (fun c5 => ?_) (fun c5 => ?_)
      · replace hf := (if_pos c5).symm.trans hf
        refine hl_aload_n hx hb dX8_advance_39 rfl (lv_at hl 0 rfl) ?_
        refine lv_dup hx hb dX8_advance_40 rv_cat ?_
        refine g8_3 hx hb hts hown hKs hH rfl ho m1_239 dX8_advance_41 ?_
        refine lv_iconst (v := 1) hx hb dX8_advance_44 (by decide) ?_
        refine lv_iadd hx hb dX8_advance_45 ?_
        obtain ⟨w6, hw6, hf⟩ := bnd hf
        replace hw6 := Option.some.inj hw6
        refine p8_3 (v := ((wI w 803 o) + 1)) hx hb hts hown hKs hH rfl ho m1_239 dX8_advance_46 (fun H locs hH => ?_)
        rw [hw6] at hH
        refine lv_goto (tgt := 0) hx hb dX8_advance_49 (by decide) ?_
        exact ih _ _ _ _ hH (lv_sub hl [0] rfl) hf
      · replace hf := (if_neg c5).symm.trans hf
        refine hl_aload_n hx hb dX8_advance_25 rfl (lv_at hl 0 rfl) ?_
        refine g8_0 hx hb hts hown hKs hH rfl ho m1_235 dX8_advance_26 ?_
        refine hl_aload_n hx hb dX8_advance_29 rfl (lv_at hl 0 rfl) ?_
        refine g8_3 hx hb hts hown hKs hH rfl ho m1_239 dX8_advance_30 ?_
        obtain ⟨j7, hj7, hf⟩ := bnd hf
        refine hw_bald hx hb hKs hH ha3.1 ha3.2 hj7 dX8_advance_33 ?_
        refine lv_bipush (v := 10) hx hb dX8_advance_34 (by decide) ?_
        refine lv_icmp_ne (tgt := 52) hx hb dX8_advance_36 (by decide) (fun c8 => ?_) (fun c8 => ?_)
        · replace hf := (if_neg c8).symm.trans hf
          exact hk _ _ _ _ hH (lv_sub hl [0] rfl) hf
        · replace hf := (if_pos c8).symm.trans hf
          refine hl_aload_n hx hb dX8_advance_39 rfl (lv_at hl 0 rfl) ?_
          refine lv_dup hx hb dX8_advance_40 rv_cat ?_
          refine g8_3 hx hb hts hown hKs hH rfl ho m1_239 dX8_advance_41 ?_
          refine lv_iconst (v := 1) hx hb dX8_advance_44 (by decide) ?_
          refine lv_iadd hx hb dX8_advance_45 ?_
          obtain ⟨w9, hw9, hf⟩ := bnd hf
          replace hw9 := Option.some.inj hw9
          refine p8_3 (v := ((wI w 803 o) + 1)) hx hb hts hown hKs hH rfl ho m1_239 dX8_advance_46 (fun H locs hH => ?_)
          rw [hw9] at hH
          refine lv_goto (tgt := 0) hx hb dX8_advance_49 (by decide) ?_
          exact ih _ _ _ _ hH (lv_sub hl [0] rfl) hf
set_option maxHeartbeats 4000000 in
set_option maxRecDepth 100000 in
theorem l_X8_advance_L216 (C : CX p l e s m args meth c cX8_advance 1 RX8 (Option.none : Option Jvm.ClassFile.FieldType) E) {o : Nat} (ho : K o = some (7, 0)) {w' : Wd} (k : Wd → Option Wd) (hk : ∀ (w : Wd) (H : Heap) (locs : List Loc) (ls : Array Slot), HQ E K z w s H locs → lv_has ls 1 [(0, rv E (some o))] → k w = some w' → W p l e ({ frames := 1, cells := 0, slots := 0, locals := 22 } : Room) s m args below meth c H locs 0 0 (MQ below (QV E K z w') args s 0 0 (hA E)) (F0 m 279 ls [])) : ∀ (n : Nat) (w : Wd) (H : Heap) (locs : List Loc) (ls : Array Slot), HQ E K z w s H locs → lv_has ls 1 [(0, rv E (some o))] → f_X8_advance_L216 K o k n w = some w' → W p l e ({ frames := 1, cells := 0, slots := 0, locals := 22 } : Room) s m args below meth c H locs 0 0 (MQ below (QV E K z w') args s 0 0 (hA E)) (F0 m 216 ls []) := by
  obtain ⟨hx, hb, hml, hown, hts, hKs, hT, hb0, hlocks, hret⟩ := id C
  intro n
  induction n with
  | zero =>
    intro w H locs ls hH hl hf
    cases hf
  | succ n ih =>
    intro w H locs ls hH hl hf
    rw [f_X8_advance_L216] at hf
    refine hl_aload_n hx hb dX8_advance_216 rfl (lv_at hl 0 rfl) ?_
    refine g8_3 hx hb hts hown hKs hH rfl ho m1_239 dX8_advance_217 ?_
    refine hl_aload_n hx hb dX8_advance_220 rfl (lv_at hl 0 rfl) ?_
    refine g8_1 hx hb hts hown hKs hH rfl ho m1_236 dX8_advance_221 ?_
    refine lv_icmp_ge (tgt := 279) hx hb dX8_advance_224 (by decide) (fun c30 => ?_) (fun c30 => ?_)
    · replace hf := (if_pos c30).symm.trans hf
      exact hk _ _ _ _ hH (lv_sub hl [0] rfl) hf
    · replace hf := (if_neg c30).symm.trans hf
      refine hl_aload_n hx hb dX8_advance_227 rfl (lv_at hl 0 rfl) ?_
      refine g8_0 hx hb hts hown hKs hH rfl ho m1_235 dX8_advance_228 ?_
      refine hl_aload_n hx hb dX8_advance_231 rfl (lv_at hl 0 rfl) ?_
      refine g8_3 hx hb hts hown hKs hH rfl ho m1_239 dX8_advance_232 ?_
      obtain ⟨a31, ha31, hf⟩ := bnd hf
      replace ha31 := cha_some ha31
      obtain ⟨j32, hj32, hf⟩ := bnd hf
      refine hw_bald hx hb hKs hH ha31.1 ha31.2 hj32 dX8_advance_235 ?_
      obtain ⟨q33, hq33, hf⟩ := bnd hf
      refine hcS_i hx hb hml hown hts hKs hT hb0 hH (As := [.int ((aI w a31.1 j32))]) (rest := []) (k_X8_isDigit l E K H.size (aI w a31.1 j32) w hq33) (gS m4_163 m4_164 m1_9 m4_165) hs_X8_isDigit ⟨Nat.le_of_ble_eq_true rfl, Nat.le_of_ble_eq_true rfl, rfl, rfl⟩ hl.1 rfl rc0 rfl dX8_advance_236 ⟨Nat.zero_le _, Nat.zero_le _⟩ (fun H locs hH => ?_)
      refine lv_if_eq (tgt := 279) hx hb dX8_advance_239 (by decide) (fun c34 => ?_) (fun c34 => ?_)
      · replace hf := (if_pos c34).symm.trans hf
        exact hk _ _ _ _ hH (lv_sub hl [0] rfl) hf
      · replace hf := (if_neg c34).symm.trans hf
        refine hl_aload_n hx hb dX8_advance_242 rfl (lv_at hl 0 rfl) ?_
        refine hl_aload_n hx hb dX8_advance_243 rfl (lv_at hl 0 rfl) ?_
        refine g8_6 hx hb hts hown hKs hH rfl ho m2_4 dX8_advance_244 ?_
        refine lv_bipush (v := 10) hx hb dX8_advance_247 (by decide) ?_
        refine lv_imul hx hb dX8_advance_249 ?_
        refine hl_aload_n hx hb dX8_advance_250 rfl (lv_at hl 0 rfl) ?_
        refine g8_0 hx hb hts hown hKs hH rfl ho m1_235 dX8_advance_251 ?_
        refine hl_aload_n hx hb dX8_advance_254 rfl (lv_at hl 0 rfl) ?_
        refine g8_3 hx hb hts hown hKs hH rfl ho m1_239 dX8_advance_255 ?_
        obtain ⟨a35, ha35, hf⟩ := bnd hf
        replace ha35 := cha_some ha35
        obtain ⟨j36, hj36, hf⟩ := bnd hf
        refine hw_bald hx hb hKs hH ha35.1 ha35.2 hj36 dX8_advance_258 ?_
        refine lv_bipush (v := 48) hx hb dX8_advance_259 (by decide) ?_
        refine lv_isub hx hb dX8_advance_261 ?_
        refine lv_iadd hx hb dX8_advance_262 ?_
        obtain ⟨w37, hw37, hf⟩ := bnd hf
        replace hw37 := Option.some.inj hw37
        refine p8_6 (v := (((wI q33.2 806 o) * 10) + ((aI q33.2 a35.1 j36) - 48))) hx hb hts hown hKs hH rfl ho m2_4 dX8_advance_263 (fun H locs hH => ?_)
        rw [hw37] at hH
        refine hl_aload_n hx hb dX8_advance_266 rfl (lv_at hl 0 rfl) ?_
        refine lv_dup hx hb dX8_advance_267 rv_cat ?_
        refine g8_3 hx hb hts hown hKs hH rfl ho m1_239 dX8_advance_268 ?_
        refine lv_iconst (v := 1) hx hb dX8_advance_271 (by decide) ?_
        refine lv_iadd hx hb dX8_advance_272 ?_
        obtain ⟨w38, hw38, hf⟩ := bnd hf
        replace hw38 := Option.some.inj hw38
        refine p8_3 (v := ((wI w37 803 o) + 1)) hx hb hts hown hKs hH rfl ho m1_239 dX8_advance_273 (fun H locs hH => ?_)
        rw [hw38] at hH
        refine lv_goto (tgt := 216) hx hb dX8_advance_276 (by decide) ?_
        exact ih _ _ _ _ hH (lv_sub hl [0] rfl) hf
set_option maxHeartbeats 4000000 in
set_option maxRecDepth 100000 in
theorem l_X8_advance_L106 (C : CX p l e s m args meth c cX8_advance 1 RX8 (Option.none : Option Jvm.ClassFile.FieldType) E) {o : Nat} (ho : K o = some (7, 0)) {w' : Wd} (k : Wd → Option Wd) (hk : ∀ (w : Wd) (H : Heap) (locs : List Loc) (ls : Array Slot), HQ E K z w s H locs → lv_has ls 1 [(0, rv E (some o))] → k w = some w' → W p l e ({ frames := 1, cells := 0, slots := 0, locals := 22 } : Room) s m args below meth c H locs 0 0 (MQ below (QV E K z w') args s 0 0 (hA E)) (F0 m 167 ls [])) : ∀ (n : Nat) (w : Wd) (H : Heap) (locs : List Loc) (ls : Array Slot), HQ E K z w s H locs → lv_has ls 1 [(0, rv E (some o))] → f_X8_advance_L106 K o k n w = some w' → W p l e ({ frames := 1, cells := 0, slots := 0, locals := 22 } : Room) s m args below meth c H locs 0 0 (MQ below (QV E K z w') args s 0 0 (hA E)) (F0 m 106 ls []) := by
  obtain ⟨hx, hb, hml, hown, hts, hKs, hT, hb0, hlocks, hret⟩ := id C
  intro n
  induction n with
  | zero =>
    intro w H locs ls hH hl hf
    cases hf
  | succ n ih =>
    intro w H locs ls hH hl hf
    rw [f_X8_advance_L106] at hf
    refine hl_aload_n hx hb dX8_advance_106 rfl (lv_at hl 0 rfl) ?_
    refine g8_3 hx hb hts hown hKs hH rfl ho m1_239 dX8_advance_107 ?_
    refine hl_aload_n hx hb dX8_advance_110 rfl (lv_at hl 0 rfl) ?_
    refine g8_1 hx hb hts hown hKs hH rfl ho m1_236 dX8_advance_111 ?_
    refine lv_icmp_ge (tgt := 167) hx hb dX8_advance_114 (by decide) (fun c43 => ?_) (fun c43 => ?_)
    · replace hf := (if_pos c43).symm.trans hf
      exact hk _ _ _ _ hH (lv_sub hl [0] rfl) hf
    · replace hf := (if_neg c43).symm.trans hf
      refine hl_aload_n hx hb dX8_advance_117 rfl (lv_at hl 0 rfl) ?_
      refine g8_0 hx hb hts hown hKs hH rfl ho m1_235 dX8_advance_118 ?_
      refine hl_aload_n hx hb dX8_advance_121 rfl (lv_at hl 0 rfl) ?_
      refine g8_3 hx hb hts hown hKs hH rfl ho m1_239 dX8_advance_122 ?_
      obtain ⟨a44, ha44, hf⟩ := bnd hf
      replace ha44 := cha_some ha44
      obtain ⟨j45, hj45, hf⟩ := bnd hf
      refine hw_bald hx hb hKs hH ha44.1 ha44.2 hj45 dX8_advance_125 ?_
      obtain ⟨q46, hq46, hf⟩ := bnd hf
      refine hcM_i hx hb hml hown hts hKs hT hb0 hH (As := [.int ((aI w a44.1 j45))]) (rest := []) (k_X12_isLetter l E K H.size (aI w a44.1 j45) w hq46) m4_151 m4_152 m1_1 m4_153 hs_X12_isLetter ⟨Nat.le_of_ble_eq_true rfl, Nat.le_of_ble_eq_true rfl, rfl, rfl⟩ hl.1 rfl rc0 rfl dX8_advance_126 ⟨Nat.zero_le _, Nat.zero_le _⟩ (fun H locs hH => ?_)
      refine lv_if_eq (tgt := 167) hx hb dX8_advance_129 (by decide) (fun c47 => ?_) (fun c47 => ?_)
      · replace hf := (if_pos c47).symm.trans hf
        exact hk _ _ _ _ hH (lv_sub hl [0] rfl) hf
      · replace hf := (if_neg c47).symm.trans hf
        refine hl_aload_n hx hb dX8_advance_132 rfl (lv_at hl 0 rfl) ?_
        refine hl_aload_n hx hb dX8_advance_133 rfl (lv_at hl 0 rfl) ?_
        refine g8_5 hx hb hts hown hKs hH rfl ho m2_2 dX8_advance_134 ?_
        refine lv_bipush (v := 8) hx hb dX8_advance_137 (by decide) ?_
        refine lv_lshl (v := (lsl (wJ q46.2 805 o) 8)) hx hb dX8_advance_139 rfl ?_
        refine hl_aload_n hx hb dX8_advance_140 rfl (lv_at hl 0 rfl) ?_
        refine g8_0 hx hb hts hown hKs hH rfl ho m1_235 dX8_advance_141 ?_
        refine hl_aload_n hx hb dX8_advance_144 rfl (lv_at hl 0 rfl) ?_
        refine g8_3 hx hb hts hown hKs hH rfl ho m1_239 dX8_advance_145 ?_
        obtain ⟨a48, ha48, hf⟩ := bnd hf
        replace ha48 := cha_some ha48
        obtain ⟨j49, hj49, hf⟩ := bnd hf
        refine hw_bald hx hb hKs hH ha48.1 ha48.2 hj49 dX8_advance_148 ?_
        refine lv_i2l (v := ((aI q46.2 a48.1 j49).toInt64)) hx hb dX8_advance_149 rfl ?_
        refine lv_lor hx hb dX8_advance_150 ?_
        obtain ⟨w50, hw50, hf⟩ := bnd hf
        replace hw50 := Option.some.inj hw50
        refine p8_5 (v := ((lsl (wJ q46.2 805 o) 8) ||| ((aI q46.2 a48.1 j49).toInt64))) hx hb hts hown hKs hH rfl ho m2_2 dX8_advance_151 (fun H locs hH => ?_)
        rw [hw50] at hH
        refine hl_aload_n hx hb dX8_advance_154 rfl (lv_at hl 0 rfl) ?_
        refine lv_dup hx hb dX8_advance_155 rv_cat ?_
        refine g8_3 hx hb hts hown hKs hH rfl ho m1_239 dX8_advance_156 ?_
        refine lv_iconst (v := 1) hx hb dX8_advance_159 (by decide) ?_
        refine lv_iadd hx hb dX8_advance_160 ?_
        obtain ⟨w51, hw51, hf⟩ := bnd hf
        replace hw51 := Option.some.inj hw51
        refine p8_3 (v := ((wI w50 803 o) + 1)) hx hb hts hown hKs hH rfl ho m1_239 dX8_advance_161 (fun H locs hH => ?_)
        rw [hw51] at hH
        refine lv_goto (tgt := 106) hx hb dX8_advance_164 (by decide) ?_
        exact ih _ _ _ _ hH (lv_sub hl [0] rfl) hf
set_option maxHeartbeats 4000000 in
set_option maxRecDepth 100000 in
theorem k_X8_advance (l : Launch) (E : Ev) (K : Kd) (z : Nat) (o : Nat) (w : Wd) (ho : K o = some (7, 0)) {w' : Wd} (hf : f_X8_advance K o w = some w') : Met l yX8_advance (Cond.code yX8_advance cX8_advance 1 (Option.none : Option Jvm.ClassFile.FieldType) :: bt) ({ frames := 1, cells := 0, slots := 0, locals := 22 } : Room) (va_Pc [rv E (some o)] (HB E K w z)) (QV E K z w') 0 0 (hA E) := by
  refine Met.ofW (cc := cX8_advance) (maxL := 1) (ret := (Option.none : Option Jvm.ClassFile.FieldType)) (by decide) rfl ?_
  intro p e s m args below meth c s₁ B hml hv
  obtain ⟨rfl, hz, hP, hKs, hT, hb0⟩ := hv
  have C : CX p l e s m _ meth c cX8_advance 1 RX8 (Option.none : Option Jvm.ClassFile.FieldType) E := ⟨B.exec, B.bytes, hml, findClass_of_methodNamed B.named, fun w h => atoms_spec (ws := Cond.code yX8_advance cX8_advance 1 (Option.none : Option Jvm.ClassFile.FieldType) :: bt) B.pre w (List.mem_cons_of_mem _ h), hKs, hT, by rw [hz]; exact hb0, B.notSynchronized, B.returns⟩
  have hH : HQ E K z w s s.heap [] := ⟨hP, va_S.rf, hz⟩
  obtain ⟨hx, hb, hml, hown, hts, hKs, hT, hb0, hlocks, hret⟩ := id C
  have hl := lv_entry [rv E (some o)] (n := 1) (by simp [lg_len_nil, lg_len_i, lg_len_j, lg_len_q, lg_len_f, lg_len_d, lg_len_r])
  rw [lg_entry_eq]
  generalize (lg_sl [rv E (some o)] ++ List.replicate (1 - (lg_sl [rv E (some o)]).length) Slot.unset).toArray = ls at hl ⊢
  replace hl : lv_has ls 1 [(0, rv E (some o))] := by simpa only [lv_args, cat_q, cat_i, cat_j, reduceIte, Nat.reduceEqDiff, Nat.reduceAdd, Nat.zero_add] using hl
  generalize s.heap = H at hH ⊢
  unfold f_X8_advance at hf
  refine l_X8_advance_L0  C ho _ (fun w1 H locs ls hH hl hf => ?_) fu  w _ _ _ hH (lv_sub hl [0] rfl) hf
  refine hl_aload_n hx hb dX8_advance_52 rfl (lv_at hl 0 rfl) ?_
  refine hl_aload_n hx hb dX8_advance_53 rfl (lv_at hl 0 rfl) ?_
  refine g8_3 hx hb hts hown hKs hH rfl ho m1_239 dX8_advance_54 ?_
  obtain ⟨w10, hw10, hf⟩ := bnd hf
  replace hw10 := Option.some.inj hw10
  refine p8_2 (v := (wI w1 803 o)) hx hb hts hown hKs hH rfl ho m1_237 dX8_advance_57 (fun H locs hH => ?_)
  rw [hw10] at hH
  refine hl_aload_n hx hb dX8_advance_60 rfl (lv_at hl 0 rfl) ?_
  refine lv_lconst (v := 0) hx hb dX8_advance_61 rfl ?_
  obtain ⟨w11, hw11, hf⟩ := bnd hf
  replace hw11 := Option.some.inj hw11
  refine p8_5 (v := 0) hx hb hts hown hKs hH rfl ho m2_2 dX8_advance_62 (fun H locs hH => ?_)
  rw [hw11] at hH
  refine hl_aload_n hx hb dX8_advance_65 rfl (lv_at hl 0 rfl) ?_
  refine lv_iconst (v := 0) hx hb dX8_advance_66 (by decide) ?_
  obtain ⟨w12, hw12, hf⟩ := bnd hf
  replace hw12 := Option.some.inj hw12
  refine p8_6 (v := 0) hx hb hts hown hKs hH rfl ho m2_4 dX8_advance_67 (fun H locs hH => ?_)
  rw [hw12] at hH
  refine hl_aload_n hx hb dX8_advance_70 rfl (lv_at hl 0 rfl) ?_
  refine g8_3 hx hb hts hown hKs hH rfl ho m1_239 dX8_advance_71 ?_
  refine hl_aload_n hx hb dX8_advance_74 rfl (lv_at hl 0 rfl) ?_
  refine g8_1 hx hb hts hown hKs hH rfl ho m1_236 dX8_advance_75 ?_
  refine lv_icmp_lt (tgt := 91) hx hb dX8_advance_78 (by decide) (fun c13 => ?_) (fun c13 => ?_)
  · replace hf := (if_pos c13).symm.trans hf
    refine hl_aload_n hx hb dX8_advance_91 rfl (lv_at hl 0 rfl) ?_
    refine g8_0 hx hb hts hown hKs hH rfl ho m1_235 dX8_advance_92 ?_
    refine hl_aload_n hx hb dX8_advance_95 rfl (lv_at hl 0 rfl) ?_
    refine g8_3 hx hb hts hown hKs hH rfl ho m1_239 dX8_advance_96 ?_
    obtain ⟨a14, ha14, hf⟩ := bnd hf
    replace ha14 := cha_some ha14
    obtain ⟨j15, hj15, hf⟩ := bnd hf
    refine hw_bald hx hb hKs hH ha14.1 ha14.2 hj15 dX8_advance_99 ?_
    obtain ⟨q16, hq16, hf⟩ := bnd hf
    refine hcM_i hx hb hml hown hts hKs hT hb0 hH (As := [.int ((aI w12 a14.1 j15))]) (rest := []) (k_X12_isLetter l E K H.size (aI w12 a14.1 j15) w12 hq16) m4_151 m4_152 m1_1 m4_153 hs_X12_isLetter ⟨Nat.le_of_ble_eq_true rfl, Nat.le_of_ble_eq_true rfl, rfl, rfl⟩ hl.1 rfl rc0 rfl dX8_advance_100 ⟨Nat.zero_le _, Nat.zero_le _⟩ (fun H locs hH => ?_)
    refine lv_if_eq (tgt := 201) hx hb dX8_advance_103 (by decide) (fun c17 => ?_) (fun c17 => ?_)
    · replace hf := (if_pos c17).symm.trans hf
      refine hl_aload_n hx hb dX8_advance_201 rfl (lv_at hl 0 rfl) ?_
      refine g8_0 hx hb hts hown hKs hH rfl ho m1_235 dX8_advance_202 ?_
      refine hl_aload_n hx hb dX8_advance_205 rfl (lv_at hl 0 rfl) ?_
      refine g8_3 hx hb hts hown hKs hH rfl ho m1_239 dX8_advance_206 ?_
      obtain ⟨a18, ha18, hf⟩ := bnd hf
      replace ha18 := cha_some ha18
      obtain ⟨j19, hj19, hf⟩ := bnd hf
      refine hw_bald hx hb hKs hH ha18.1 ha18.2 hj19 dX8_advance_209 ?_
      obtain ⟨q20, hq20, hf⟩ := bnd hf
      refine hcS_i hx hb hml hown hts hKs hT hb0 hH (As := [.int ((aI q16.2 a18.1 j19))]) (rest := []) (k_X8_isDigit l E K H.size (aI q16.2 a18.1 j19) q16.2 hq20) (gS m4_163 m4_164 m1_9 m4_165) hs_X8_isDigit ⟨Nat.le_of_ble_eq_true rfl, Nat.le_of_ble_eq_true rfl, rfl, rfl⟩ hl.1 rfl rc0 rfl dX8_advance_210 ⟨Nat.zero_le _, Nat.zero_le _⟩ (fun H locs hH => ?_)
      refine lv_if_eq (tgt := 308) hx hb dX8_advance_213 (by decide) (fun c21 => ?_) (fun c21 => ?_)
      · replace hf := (if_pos c21).symm.trans hf
        refine hl_aload_n hx hb dX8_advance_308 rfl (lv_at hl 0 rfl) ?_
        refine hl_aload_n hx hb dX8_advance_309 rfl (lv_at hl 0 rfl) ?_
        refine g8_0 hx hb hts hown hKs hH rfl ho m1_235 dX8_advance_310 ?_
        refine hl_aload_n hx hb dX8_advance_313 rfl (lv_at hl 0 rfl) ?_
        refine g8_3 hx hb hts hown hKs hH rfl ho m1_239 dX8_advance_314 ?_
        obtain ⟨a22, ha22, hf⟩ := bnd hf
        replace ha22 := cha_some ha22
        obtain ⟨j23, hj23, hf⟩ := bnd hf
        refine hw_bald hx hb hKs hH ha22.1 ha22.2 hj23 dX8_advance_317 ?_
        refine lv_bipush (v := 59) hx hb dX8_advance_318 (by decide) ?_
        refine lv_icmp_ne (tgt := 329) hx hb dX8_advance_320 (by decide) (fun c24 => ?_) (fun c24 => ?_)
        · replace hf := (if_neg c24).symm.trans hf
          refine hw_tok hx hb 20 (by decide) hts hown hT hH m4_154 dX8_advance_329 ?_
          obtain ⟨w25, hw25, hf⟩ := bnd hf
          replace hw25 := Option.some.inj hw25
          refine p8_4 (v := (some 20)) hx hb hts hown hKs hH rfl ho m2_0 dX8_advance_332 (fun H locs hH => ?_)
          rw [hw25] at hH
          refine hl_aload_n hx hb dX8_advance_335 rfl (lv_at hl 0 rfl) ?_
          refine lv_dup hx hb dX8_advance_336 rv_cat ?_
          refine g8_3 hx hb hts hown hKs hH rfl ho m1_239 dX8_advance_337 ?_
          refine lv_iconst (v := 1) hx hb dX8_advance_340 (by decide) ?_
          refine lv_iadd hx hb dX8_advance_341 ?_
          obtain ⟨w26, hw26, hf⟩ := bnd hf
          replace hw26 := Option.some.inj hw26
          refine p8_3 (v := ((wI w25 803 o) + 1)) hx hb hts hown hKs hH rfl ho m1_239 dX8_advance_342 (fun H locs hH => ?_)
          rw [hw26] at hH
          exact hw_vret hx hb hret hf hH hlocks dX8_advance_345
        · replace hf := (if_pos c24).symm.trans hf
          refine hw_tok hx hb 18 (by decide) hts hown hT hH m4_168 dX8_advance_323 ?_
          refine lv_goto (tgt := 332) hx hb dX8_advance_326 (by decide) ?_
          obtain ⟨w27, hw27, hf⟩ := bnd hf
          replace hw27 := Option.some.inj hw27
          refine p8_4 (v := (some 18)) hx hb hts hown hKs hH rfl ho m2_0 dX8_advance_332 (fun H locs hH => ?_)
          rw [hw27] at hH
          refine hl_aload_n hx hb dX8_advance_335 rfl (lv_at hl 0 rfl) ?_
          refine lv_dup hx hb dX8_advance_336 rv_cat ?_
          refine g8_3 hx hb hts hown hKs hH rfl ho m1_239 dX8_advance_337 ?_
          refine lv_iconst (v := 1) hx hb dX8_advance_340 (by decide) ?_
          refine lv_iadd hx hb dX8_advance_341 ?_
          obtain ⟨w28, hw28, hf⟩ := bnd hf
          replace hw28 := Option.some.inj hw28
          refine p8_3 (v := ((wI w27 803 o) + 1)) hx hb hts hown hKs hH rfl ho m1_239 dX8_advance_342 (fun H locs hH => ?_)
          rw [hw28] at hH
          exact hw_vret hx hb hret hf hH hlocks dX8_advance_345
      · replace hf := (if_neg c21).symm.trans hf
        refine l_X8_advance_L216  C ho _ (fun w29 H locs ls hH hl hf => ?_) fu  q20.2 _ _ _ hH (lv_sub hl [0] rfl) hf
        refine hl_aload_n hx hb dX8_advance_279 rfl (lv_at hl 0 rfl) ?_
        refine hl_aload_n hx hb dX8_advance_280 rfl (lv_at hl 0 rfl) ?_
        refine g8_3 hx hb hts hown hKs hH rfl ho m1_239 dX8_advance_281 ?_
        refine hl_aload_n hx hb dX8_advance_284 rfl (lv_at hl 0 rfl) ?_
        refine g8_2 hx hb hts hown hKs hH rfl ho m1_237 dX8_advance_285 ?_
        refine lv_isub hx hb dX8_advance_288 ?_
        refine lv_iconst (v := 3) hx hb dX8_advance_289 (by decide) ?_
        refine lv_icmp_le (tgt := 299) hx hb dX8_advance_290 (by decide) (fun c39 => ?_) (fun c39 => ?_)
        · replace hf := (if_pos c39).symm.trans hf
          refine hw_tok hx hb 17 (by decide) hts hown hT hH m4_166 dX8_advance_299 ?_
          obtain ⟨w40, hw40, hf⟩ := bnd hf
          replace hw40 := Option.some.inj hw40
          refine p8_4 (v := (some 17)) hx hb hts hown hKs hH rfl ho m2_0 dX8_advance_302 (fun H locs hH => ?_)
          rw [hw40] at hH
          refine lv_goto (tgt := 345) hx hb dX8_advance_305 (by decide) ?_
          exact hw_vret hx hb hret hf hH hlocks dX8_advance_345
        · replace hf := (if_neg c39).symm.trans hf
          refine hw_tok hx hb 20 (by decide) hts hown hT hH m4_154 dX8_advance_293 ?_
          refine lv_goto (tgt := 302) hx hb dX8_advance_296 (by decide) ?_
          obtain ⟨w41, hw41, hf⟩ := bnd hf
          replace hw41 := Option.some.inj hw41
          refine p8_4 (v := (some 20)) hx hb hts hown hKs hH rfl ho m2_0 dX8_advance_302 (fun H locs hH => ?_)
          rw [hw41] at hH
          refine lv_goto (tgt := 345) hx hb dX8_advance_305 (by decide) ?_
          exact hw_vret hx hb hret hf hH hlocks dX8_advance_345
    · replace hf := (if_neg c17).symm.trans hf
      refine l_X8_advance_L106  C ho _ (fun w42 H locs ls hH hl hf => ?_) fu  q16.2 _ _ _ hH (lv_sub hl [0] rfl) hf
      refine hl_aload_n hx hb dX8_advance_167 rfl (lv_at hl 0 rfl) ?_
      refine hl_aload_n hx hb dX8_advance_168 rfl (lv_at hl 0 rfl) ?_
      refine g8_3 hx hb hts hown hKs hH rfl ho m1_239 dX8_advance_169 ?_
      refine hl_aload_n hx hb dX8_advance_172 rfl (lv_at hl 0 rfl) ?_
      refine g8_2 hx hb hts hown hKs hH rfl ho m1_237 dX8_advance_173 ?_
      refine lv_isub hx hb dX8_advance_176 ?_
      refine lv_bipush (v := 8) hx hb dX8_advance_177 (by decide) ?_
      refine lv_icmp_le (tgt := 188) hx hb dX8_advance_179 (by decide) (fun c52 => ?_) (fun c52 => ?_)
      · replace hf := (if_pos c52).symm.trans hf
        refine hl_aload_n hx hb dX8_advance_188 rfl (lv_at hl 0 rfl) ?_
        refine g8_5 hx hb hts hown hKs hH rfl ho m2_2 dX8_advance_189 ?_
        obtain ⟨q53, hq53, hf⟩ := bnd hf
        refine hcS_t hx hb hml hown hts hKs hT hb0 hH (As := [.long (wJ w42 805 o)]) (rest := [rv E (some o)]) (k_X11_ofWord l E K H.size (wJ w42 805 o) w42 hq53) (gS m4_156 m4_157 m1_11 m4_158) hs_X11_ofWord ⟨Nat.le_of_ble_eq_true rfl, Nat.le_of_ble_eq_true rfl, rfl, rfl⟩ hl.1 rfl (rcV rc0) rfl dX8_advance_192 ⟨Nat.zero_le _, Nat.zero_le _⟩ (fun H locs hH => ?_)
        obtain ⟨w54, hw54, hf⟩ := bnd hf
        replace hw54 := Option.some.inj hw54
        refine p8_4 (v := q53.1) hx hb hts hown hKs hH rfl ho m2_0 dX8_advance_195 (fun H locs hH => ?_)
        rw [hw54] at hH
        refine lv_goto (tgt := 345) hx hb dX8_advance_198 (by decide) ?_
        exact hw_vret hx hb hret hf hH hlocks dX8_advance_345
      · replace hf := (if_neg c52).symm.trans hf
        refine hw_tok hx hb 20 (by decide) hts hown hT hH m4_154 dX8_advance_182 ?_
        refine lv_goto (tgt := 195) hx hb dX8_advance_185 (by decide) ?_
        obtain ⟨w55, hw55, hf⟩ := bnd hf
        replace hw55 := Option.some.inj hw55
        refine p8_4 (v := (some 20)) hx hb hts hown hKs hH rfl ho m2_0 dX8_advance_195 (fun H locs hH => ?_)
        rw [hw55] at hH
        refine lv_goto (tgt := 345) hx hb dX8_advance_198 (by decide) ?_
        exact hw_vret hx hb hret hf hH hlocks dX8_advance_345
  · replace hf := (if_neg c13).symm.trans hf
    refine hl_aload_n hx hb dX8_advance_81 rfl (lv_at hl 0 rfl) ?_
    refine hw_tok hx hb 19 (by decide) hts hown hT hH m1_233 dX8_advance_82 ?_
    obtain ⟨w56, hw56, hf⟩ := bnd hf
    replace hw56 := Option.some.inj hw56
    refine p8_4 (v := (some 19)) hx hb hts hown hKs hH rfl ho m2_0 dX8_advance_85 (fun H locs hH => ?_)
    rw [hw56] at hH
    refine lv_goto (tgt := 345) hx hb dX8_advance_88 (by decide) ?_
    exact hw_vret hx hb hret hf hH hlocks dX8_advance_345

theorem dX9_clear_0 : decode cX9_clear 0 = .ok (.iconst 0, 1) := by decide +kernel
theorem dX9_clear_1 : decode cX9_clear 1 = .ok (.istore_n 1, 1) := by decide +kernel
theorem dX9_clear_2 : decode cX9_clear 2 = .ok (.iload_n 1, 1) := by decide +kernel
theorem dX9_clear_3 : decode cX9_clear 3 = .ok (.iconst 4, 1) := by decide +kernel
theorem dX9_clear_4 : decode cX9_clear 4 = .ok (.if_icmp .ge 19, 3) := by decide +kernel
theorem dX9_clear_7 : decode cX9_clear 7 = .ok (.aload_n 0, 1) := by decide +kernel
theorem dX9_clear_8 : decode cX9_clear 8 = .ok (.getfield 11, 3) := by decide +kernel
theorem dX9_clear_11 : decode cX9_clear 11 = .ok (.iload_n 1, 1) := by decide +kernel
theorem dX9_clear_12 : decode cX9_clear 12 = .ok (.aaload, 1) := by decide +kernel
theorem dX9_clear_13 : decode cX9_clear 13 = .ok (.iconst 0, 1) := by decide +kernel
theorem dX9_clear_14 : decode cX9_clear 14 = .ok (.putfield 65, 3) := by decide +kernel
theorem dX9_clear_17 : decode cX9_clear 17 = .ok (.iinc 1 1, 3) := by decide +kernel
theorem dX9_clear_20 : decode cX9_clear 20 = .ok (.goto (-18), 3) := by decide +kernel
theorem dX9_clear_23 : decode cX9_clear 23 = .ok (.iconst 0, 1) := by decide +kernel
theorem dX9_clear_24 : decode cX9_clear 24 = .ok (.istore_n 1, 1) := by decide +kernel
theorem dX9_clear_25 : decode cX9_clear 25 = .ok (.iload_n 1, 1) := by decide +kernel
theorem dX9_clear_26 : decode cX9_clear 26 = .ok (.bipush 12, 2) := by decide +kernel
theorem dX9_clear_28 : decode cX9_clear 28 = .ok (.if_icmp .ge 18, 3) := by decide +kernel
theorem dX9_clear_31 : decode cX9_clear 31 = .ok (.aload_n 0, 1) := by decide +kernel
theorem dX9_clear_32 : decode cX9_clear 32 = .ok (.getfield 44, 3) := by decide +kernel
theorem dX9_clear_35 : decode cX9_clear 35 = .ok (.iload_n 1, 1) := by decide +kernel
theorem dX9_clear_36 : decode cX9_clear 36 = .ok (.aaload, 1) := by decide +kernel
theorem dX9_clear_37 : decode cX9_clear 37 = .ok (.invokevirtual 69, 3) := by decide +kernel
theorem dX9_clear_40 : decode cX9_clear 40 = .ok (.iinc 1 1, 3) := by decide +kernel
theorem dX9_clear_43 : decode cX9_clear 43 = .ok (.goto (-18), 3) := by decide +kernel
theorem dX9_clear_46 : decode cX9_clear 46 = .ok (.aload_n 0, 1) := by decide +kernel
theorem dX9_clear_47 : decode cX9_clear 47 = .ok (.getfield 21, 3) := by decide +kernel
theorem dX9_clear_50 : decode cX9_clear 50 = .ok (.iconst 0, 1) := by decide +kernel
theorem dX9_clear_51 : decode cX9_clear 51 = .ok (.invokestatic 70, 3) := by decide +kernel
theorem dX9_clear_54 : decode cX9_clear 54 = .ok (.aload_n 0, 1) := by decide +kernel
theorem dX9_clear_55 : decode cX9_clear 55 = .ok (.getfield 51, 3) := by decide +kernel
theorem dX9_clear_58 : decode cX9_clear 58 = .ok (.invokevirtual 76, 3) := by decide +kernel
theorem dX9_clear_61 : decode cX9_clear 61 = .ok (.aload_n 0, 1) := by decide +kernel
theorem dX9_clear_62 : decode cX9_clear 62 = .ok (.getfield 55, 3) := by decide +kernel
theorem dX9_clear_65 : decode cX9_clear 65 = .ok (.iconst 0, 1) := by decide +kernel
theorem dX9_clear_66 : decode cX9_clear 66 = .ok (.bipush 10, 2) := by decide +kernel
theorem dX9_clear_68 : decode cX9_clear 68 = .ok (.iastore, 1) := by decide +kernel
theorem dX9_clear_69 : decode cX9_clear 69 = .ok (.aload_n 0, 1) := by decide +kernel
theorem dX9_clear_70 : decode cX9_clear 70 = .ok (.getfield 55, 3) := by decide +kernel
theorem dX9_clear_73 : decode cX9_clear 73 = .ok (.iconst 1, 1) := by decide +kernel
theorem dX9_clear_74 : decode cX9_clear 74 = .ok (.iconst 5, 1) := by decide +kernel
theorem dX9_clear_75 : decode cX9_clear 75 = .ok (.iastore, 1) := by decide +kernel
theorem dX9_clear_76 : decode cX9_clear 76 = .ok (.aload_n 0, 1) := by decide +kernel
theorem dX9_clear_77 : decode cX9_clear 77 = .ok (.getfield 55, 3) := by decide +kernel
theorem dX9_clear_80 : decode cX9_clear 80 = .ok (.iconst 2, 1) := by decide +kernel
theorem dX9_clear_81 : decode cX9_clear 81 = .ok (.iconst 0, 1) := by decide +kernel
theorem dX9_clear_82 : decode cX9_clear 82 = .ok (.iastore, 1) := by decide +kernel
theorem dX9_clear_83 : decode cX9_clear 83 = .ok (.aload_n 0, 1) := by decide +kernel
theorem dX9_clear_84 : decode cX9_clear 84 = .ok (.getfield 55, 3) := by decide +kernel
theorem dX9_clear_87 : decode cX9_clear 87 = .ok (.iconst 3, 1) := by decide +kernel
theorem dX9_clear_88 : decode cX9_clear 88 = .ok (.iconst 0, 1) := by decide +kernel
theorem dX9_clear_89 : decode cX9_clear 89 = .ok (.iastore, 1) := by decide +kernel
theorem dX9_clear_90 : decode cX9_clear 90 = .ok (.aload_n 0, 1) := by decide +kernel
theorem dX9_clear_91 : decode cX9_clear 91 = .ok (.iconst 0, 1) := by decide +kernel
theorem dX9_clear_92 : decode cX9_clear 92 = .ok (.putfield 77, 3) := by decide +kernel
theorem dX9_clear_95 : decode cX9_clear 95 = .ok (.aload_n 0, 1) := by decide +kernel
theorem dX9_clear_96 : decode cX9_clear 96 = .ok (.bipush 15, 2) := by decide +kernel
theorem dX9_clear_98 : decode cX9_clear 98 = .ok (.putfield 80, 3) := by decide +kernel
theorem dX9_clear_101 : decode cX9_clear 101 = .ok (.aload_n 0, 1) := by decide +kernel
theorem dX9_clear_102 : decode cX9_clear 102 = .ok (.iconst 0, 1) := by decide +kernel
theorem dX9_clear_103 : decode cX9_clear 103 = .ok (.putfield 83, 3) := by decide +kernel
theorem dX9_clear_106 : decode cX9_clear 106 = .ok (.return_, 1) := by decide +kernel
theorem hd_X9_clear : yX9_clear.cls = RX9 ∧ yX9_clear.cls ≠ "java/lang/invoke/MethodHandle" ∧ yX9_clear.cls ≠ "java/lang/invoke/VarHandle" ∧ (parseMethodDescriptor yX9_clear.desc).map (fun d => d.parameters.length) = some 0 := by decide +kernel
theorem hs_X9_clear : yX9_clear.cls ≠ "java/lang/invoke/MethodHandle" ∧ yX9_clear.cls ≠ "java/lang/invoke/VarHandle" ∧ (parseMethodDescriptor yX9_clear.desc).map (fun d => d.parameters.length) = some 0 := by decide +kernel
set_option maxHeartbeats 4000000 in
set_option maxRecDepth 100000 in
theorem l_X9_clear_L2 (C : CX p l e s m args meth c cX9_clear 2 RX9 (Option.none : Option Jvm.ClassFile.FieldType) E) {o : Nat} (ho : K o = some (8, 0)) {w' : Wd} (k : Int32 → Wd → Option Wd) (hk : ∀ (v1_2 : Int32) (w : Wd) (H : Heap) (locs : List Loc) (ls : Array Slot), HQ E K z w s H locs → lv_has ls 2 [(1, .int v1_2), (0, rv E (some o))] → k v1_2 w = some w' → W p l e ({ frames := 2, cells := 0, slots := 0, locals := 43 } : Room) s m args below meth c H locs 0 0 (MQ below (QV E K z w') args s 0 0 (hA E)) (F0 m 23 ls [])) : ∀ (n : Nat) (v1_2 : Int32) (w : Wd) (H : Heap) (locs : List Loc) (ls : Array Slot), HQ E K z w s H locs → lv_has ls 2 [(1, .int v1_2), (0, rv E (some o))] → f_X9_clear_L2 K o k n v1_2 w = some w' → W p l e ({ frames := 2, cells := 0, slots := 0, locals := 43 } : Room) s m args below meth c H locs 0 0 (MQ below (QV E K z w') args s 0 0 (hA E)) (F0 m 2 ls []) := by
  obtain ⟨hx, hb, hml, hown, hts, hKs, hT, hb0, hlocks, hret⟩ := id C
  intro n
  induction n with
  | zero =>
    intro v1_2 w H locs ls hH hl hf
    cases hf
  | succ n ih =>
    intro v1_2 w H locs ls hH hl hf
    rw [f_X9_clear_L2] at hf
    refine lv_iload_n hx hb dX9_clear_2 rfl (lv_at hl 0 rfl) ?_
    refine lv_iconst (v := 4) hx hb dX9_clear_3 (by decide) ?_
    refine lv_icmp_ge (tgt := 23) hx hb dX9_clear_4 (by decide) (fun c2 => ?_) (fun c2 => ?_)
    · replace hf := (if_pos c2).symm.trans hf
      exact hk v1_2 _ _ _ _ hH (lv_sub hl [0, 1] rfl) hf
    · replace hf := (if_neg c2).symm.trans hf
      refine hl_aload_n hx hb dX9_clear_7 rfl (lv_at hl 1 rfl) ?_
      refine g9_0 hx hb hts hown hKs hH rfl ho m1_151 dX9_clear_8 ?_
      refine lv_iload_n hx hb dX9_clear_11 rfl (lv_at hl 0 rfl) ?_
      obtain ⟨a3, ha3, hf⟩ := bnd hf
      replace ha3 := cha_some ha3
      obtain ⟨j4, hj4, hf⟩ := bnd hf
      refine hw_aald26 hx hb hKs hH ha3.1 ha3.2 hj4 dX9_clear_12 ?_
      refine lv_iconst (v := 0) hx hb dX9_clear_13 (by decide) ?_
      obtain ⟨a5, ha5, hf⟩ := bnd hf
      replace ha5 := chk_some ha5
      obtain ⟨w6, hw6, hf⟩ := bnd hf
      replace hw6 := Option.some.inj hw6
      refine pn4_1 (v := 0) hx hb hts hown hKs hH ha5.1 ha5.2 m1_78 dX9_clear_14 (fun H locs hH => ?_)
      rw [hw6] at hH
      refine lv_iinc (v := (v1_2 + 1)) (lv' := [(1, .int ((v1_2 + 1))), (0, rv E (some o))]) hx hb dX9_clear_17 hl (k := 0) rfl rfl (by decide) rfl (fun ls hl => ?_)
      refine lv_goto (tgt := 2) hx hb dX9_clear_20 (by decide) ?_
      exact ih (v1_2 + 1) _ _ _ _ hH (lv_sub hl [0, 1] rfl) hf
set_option maxHeartbeats 4000000 in
set_option maxRecDepth 100000 in
theorem l_X9_clear_L25 (C : CX p l e s m args meth c cX9_clear 2 RX9 (Option.none : Option Jvm.ClassFile.FieldType) E) {o : Nat} (ho : K o = some (8, 0)) {w' : Wd} (k : Int32 → Wd → Option Wd) (hk : ∀ (v1_25 : Int32) (w : Wd) (H : Heap) (locs : List Loc) (ls : Array Slot), HQ E K z w s H locs → lv_has ls 2 [(1, .int v1_25), (0, rv E (some o))] → k v1_25 w = some w' → W p l e ({ frames := 2, cells := 0, slots := 0, locals := 43 } : Room) s m args below meth c H locs 0 0 (MQ below (QV E K z w') args s 0 0 (hA E)) (F0 m 46 ls [])) : ∀ (n : Nat) (v1_25 : Int32) (w : Wd) (H : Heap) (locs : List Loc) (ls : Array Slot), HQ E K z w s H locs → lv_has ls 2 [(1, .int v1_25), (0, rv E (some o))] → f_X9_clear_L25 K o k n v1_25 w = some w' → W p l e ({ frames := 2, cells := 0, slots := 0, locals := 43 } : Room) s m args below meth c H locs 0 0 (MQ below (QV E K z w') args s 0 0 (hA E)) (F0 m 25 ls []) := by
  obtain ⟨hx, hb, hml, hown, hts, hKs, hT, hb0, hlocks, hret⟩ := id C
  intro n
  induction n with
  | zero =>
    intro v1_25 w H locs ls hH hl hf
    cases hf
  | succ n ih =>
    intro v1_25 w H locs ls hH hl hf
    rw [f_X9_clear_L25] at hf
    refine lv_iload_n hx hb dX9_clear_25 rfl (lv_at hl 0 rfl) ?_
    refine lv_bipush (v := 12) hx hb dX9_clear_26 (by decide) ?_
    refine lv_icmp_ge (tgt := 46) hx hb dX9_clear_28 (by decide) (fun c8 => ?_) (fun c8 => ?_)
    · replace hf := (if_pos c8).symm.trans hf
      exact hk v1_25 _ _ _ _ hH (lv_sub hl [0, 1] rfl) hf
    · replace hf := (if_neg c8).symm.trans hf
      refine hl_aload_n hx hb dX9_clear_31 rfl (lv_at hl 1 rfl) ?_
      refine g9_9 hx hb hts hown hKs hH rfl ho m1_171 dX9_clear_32 ?_
      refine lv_iload_n hx hb dX9_clear_35 rfl (lv_at hl 0 rfl) ?_
      obtain ⟨a9, ha9, hf⟩ := bnd hf
      replace ha9 := cha_some ha9
      obtain ⟨j10, hj10, hf⟩ := bnd hf
      refine hw_aald25 hx hb hKs hH ha9.1 ha9.2 hj10 dX9_clear_36 ?_
      obtain ⟨a11, ha11, hf⟩ := bnd hf
      replace ha11 := chk_some ha11
      obtain ⟨q12, hq12, hf⟩ := bnd hf
      refine hcV_v hx hb hml hown hts hKs hT hb0 hH (As := []) (rest := []) (k_X3_clear l E K H.size a11 w ha11.2 hq12) (gV m1_139 m1_140 m1_141 m1_6 m1_142) hd_X3_clear ⟨Nat.le_of_ble_eq_true rfl, Nat.le_of_ble_eq_true rfl, rfl, rfl⟩ ha11.1 ha11.2 rfl rfl rfl hl.1 rfl rc0 rfl dX9_clear_37 ⟨Nat.zero_le _, Nat.zero_le _⟩ (fun H locs hH => ?_)
      refine lv_iinc (v := (v1_25 + 1)) (lv' := [(1, .int ((v1_25 + 1))), (0, rv E (some o))]) hx hb dX9_clear_40 hl (k := 0) rfl rfl (by decide) rfl (fun ls hl => ?_)
      refine lv_goto (tgt := 25) hx hb dX9_clear_43 (by decide) ?_
      exact ih (v1_25 + 1) _ _ _ _ hH (lv_sub hl [0, 1] rfl) hf
set_option maxHeartbeats 4000000 in
set_option maxRecDepth 100000 in
theorem k_X9_clear (l : Launch) (E : Ev) (K : Kd) (z : Nat) (o : Nat) (w : Wd) (ho : K o = some (8, 0)) {w' : Wd} (hf : f_X9_clear K o w = some w') : Met l yX9_clear (Cond.code yX9_clear cX9_clear 2 (Option.none : Option Jvm.ClassFile.FieldType) :: bt) ({ frames := 2, cells := 0, slots := 0, locals := 43 } : Room) (va_Pc [rv E (some o)] (HB E K w z)) (QV E K z w') 0 0 (hA E) := by
  refine Met.ofW (cc := cX9_clear) (maxL := 2) (ret := (Option.none : Option Jvm.ClassFile.FieldType)) (by decide) rfl ?_
  intro p e s m args below meth c s₁ B hml hv
  obtain ⟨rfl, hz, hP, hKs, hT, hb0⟩ := hv
  have C : CX p l e s m _ meth c cX9_clear 2 RX9 (Option.none : Option Jvm.ClassFile.FieldType) E := ⟨B.exec, B.bytes, hml, findClass_of_methodNamed B.named, fun w h => atoms_spec (ws := Cond.code yX9_clear cX9_clear 2 (Option.none : Option Jvm.ClassFile.FieldType) :: bt) B.pre w (List.mem_cons_of_mem _ h), hKs, hT, by rw [hz]; exact hb0, B.notSynchronized, B.returns⟩
  have hH : HQ E K z w s s.heap [] := ⟨hP, va_S.rf, hz⟩
  obtain ⟨hx, hb, hml, hown, hts, hKs, hT, hb0, hlocks, hret⟩ := id C
  have hl := lv_entry [rv E (some o)] (n := 2) (by simp [lg_len_nil, lg_len_i, lg_len_j, lg_len_q, lg_len_f, lg_len_d, lg_len_r])
  rw [lg_entry_eq]
  generalize (lg_sl [rv E (some o)] ++ List.replicate (2 - (lg_sl [rv E (some o)]).length) Slot.unset).toArray = ls at hl ⊢
  replace hl : lv_has ls 2 [(0, rv E (some o))] := by simpa only [lv_args, cat_q, cat_i, cat_j, reduceIte, Nat.reduceEqDiff, Nat.reduceAdd, Nat.zero_add] using hl
  generalize s.heap = H at hH ⊢
  unfold f_X9_clear at hf
  refine lv_iconst (v := 0) hx hb dX9_clear_0 (by decide) ?_
  refine lv_istore_n (i := 1) (lv' := [(1, .int 0), (0, rv E (some o))]) hx hb dX9_clear_1 rfl hl (by decide) rfl (fun ls hl => ?_)
  refine l_X9_clear_L2  C ho _ (fun v1_2 w1 H locs ls hH hl hf => ?_) fu 0 w _ _ _ hH (lv_sub hl [0, 1] rfl) hf
  refine lv_iconst (v := 0) hx hb dX9_clear_23 (by decide) ?_
  refine lv_istore_n (i := 1) (lv' := [(1, .int 0), (0, rv E (some o))]) hx hb dX9_clear_24 rfl hl (by decide) rfl (fun ls hl => ?_)
  refine l_X9_clear_L25  C ho _ (fun v1_25 w7 H locs ls hH hl hf => ?_) fu 0 w1 _ _ _ hH (lv_sub hl [0, 1] rfl) hf
  refine hl_aload_n hx hb dX9_clear_46 rfl (lv_at hl 1 rfl) ?_
  refine g9_2 hx hb hts hown hKs hH rfl ho m1_156 dX9_clear_47 ?_
  refine lv_iconst (v := 0) hx hb dX9_clear_50 (by decide) ?_
  obtain ⟨q13, hq13, hf⟩ := bnd hf
  refine hcS_v hx hb hml hown hts hKs hT hb0 hH (As := [rv E (wR w7 902 o), .int 0]) (rest := []) (k_J7_fill_53178 l E K H.size (wR w7 902 o) 0 w7 hq13) (gS m1_143 m1_144 m1_7 m1_145) hs_J7_fill_53178 ⟨Nat.le_of_ble_eq_true rfl, Nat.le_of_ble_eq_true rfl, rfl, rfl⟩ hl.1 rfl rc0 rfl dX9_clear_51 ⟨Nat.zero_le _, Nat.zero_le _⟩ (fun H locs hH => ?_)
  refine hl_aload_n hx hb dX9_clear_54 rfl (lv_at hl 1 rfl) ?_
  refine g9_10 hx hb hts hown hKs hH rfl ho m1_176 dX9_clear_55 ?_
  obtain ⟨a14, ha14, hf⟩ := bnd hf
  replace ha14 := chk_some ha14
  obtain ⟨q15, hq15, hf⟩ := bnd hf
  refine hcV_v hx hb hml hown hts hKs hT hb0 hH (As := []) (rest := []) (k_X2_clear l E K H.size a14 q13 ha14.2 hq15) (gV m1_146 m1_147 m1_148 m1_3 m1_149) hd_X2_clear ⟨Nat.le_of_ble_eq_true rfl, Nat.le_of_ble_eq_true rfl, rfl, rfl⟩ ha14.1 ha14.2 rfl rfl rfl hl.1 rfl rc0 rfl dX9_clear_58 ⟨Nat.zero_le _, Nat.zero_le _⟩ (fun H locs hH => ?_)
  refine hl_aload_n hx hb dX9_clear_61 rfl (lv_at hl 1 rfl) ?_
  refine g9_11 hx hb hts hown hKs hH rfl ho m1_179 dX9_clear_62 ?_
  refine lv_iconst (v := 0) hx hb dX9_clear_65 (by decide) ?_
  refine lv_bipush (v := 10) hx hb dX9_clear_66 (by decide) ?_
  obtain ⟨a16, ha16, hf⟩ := bnd hf
  replace ha16 := cha_some ha16
  obtain ⟨j17, hj17, hf⟩ := bnd hf
  obtain ⟨w18, hw18, hf⟩ := bnd hf
  replace hw18 := Option.some.inj hw18
  refine hw_iast (x := 10) hx hb hKs hH ha16.1 ha16.2 hj17 dX9_clear_68 (fun H locs hH => ?_)
  rw [hw18] at hH
  refine hl_aload_n hx hb dX9_clear_69 rfl (lv_at hl 1 rfl) ?_
  refine g9_11 hx hb hts hown hKs hH rfl ho m1_179 dX9_clear_70 ?_
  refine lv_iconst (v := 1) hx hb dX9_clear_73 (by decide) ?_
  refine lv_iconst (v := 5) hx hb dX9_clear_74 (by decide) ?_
  obtain ⟨a19, ha19, hf⟩ := bnd hf
  replace ha19 := cha_some ha19
  obtain ⟨j20, hj20, hf⟩ := bnd hf
  obtain ⟨w21, hw21, hf⟩ := bnd hf
  replace hw21 := Option.some.inj hw21
  refine hw_iast (x := 5) hx hb hKs hH ha19.1 ha19.2 hj20 dX9_clear_75 (fun H locs hH => ?_)
  rw [hw21] at hH
  refine hl_aload_n hx hb dX9_clear_76 rfl (lv_at hl 1 rfl) ?_
  refine g9_11 hx hb hts hown hKs hH rfl ho m1_179 dX9_clear_77 ?_
  refine lv_iconst (v := 2) hx hb dX9_clear_80 (by decide) ?_
  refine lv_iconst (v := 0) hx hb dX9_clear_81 (by decide) ?_
  obtain ⟨a22, ha22, hf⟩ := bnd hf
  replace ha22 := cha_some ha22
  obtain ⟨j23, hj23, hf⟩ := bnd hf
  obtain ⟨w24, hw24, hf⟩ := bnd hf
  replace hw24 := Option.some.inj hw24
  refine hw_iast (x := 0) hx hb hKs hH ha22.1 ha22.2 hj23 dX9_clear_82 (fun H locs hH => ?_)
  rw [hw24] at hH
  refine hl_aload_n hx hb dX9_clear_83 rfl (lv_at hl 1 rfl) ?_
  refine g9_11 hx hb hts hown hKs hH rfl ho m1_179 dX9_clear_84 ?_
  refine lv_iconst (v := 3) hx hb dX9_clear_87 (by decide) ?_
  refine lv_iconst (v := 0) hx hb dX9_clear_88 (by decide) ?_
  obtain ⟨a25, ha25, hf⟩ := bnd hf
  replace ha25 := cha_some ha25
  obtain ⟨j26, hj26, hf⟩ := bnd hf
  obtain ⟨w27, hw27, hf⟩ := bnd hf
  replace hw27 := Option.some.inj hw27
  refine hw_iast (x := 0) hx hb hKs hH ha25.1 ha25.2 hj26 dX9_clear_89 (fun H locs hH => ?_)
  rw [hw27] at hH
  refine hl_aload_n hx hb dX9_clear_90 rfl (lv_at hl 1 rfl) ?_
  refine lv_iconst (v := 0) hx hb dX9_clear_91 (by decide) ?_
  obtain ⟨w28, hw28, hf⟩ := bnd hf
  replace hw28 := Option.some.inj hw28
  refine p9_12 (v := 0) hx hb hts hown hKs hH rfl ho m1_182 dX9_clear_92 (fun H locs hH => ?_)
  rw [hw28] at hH
  refine hl_aload_n hx hb dX9_clear_95 rfl (lv_at hl 1 rfl) ?_
  refine lv_bipush (v := 15) hx hb dX9_clear_96 (by decide) ?_
  obtain ⟨w29, hw29, hf⟩ := bnd hf
  replace hw29 := Option.some.inj hw29
  refine p9_13 (v := 15) hx hb hts hown hKs hH rfl ho m1_184 dX9_clear_98 (fun H locs hH => ?_)
  rw [hw29] at hH
  refine hl_aload_n hx hb dX9_clear_101 rfl (lv_at hl 1 rfl) ?_
  refine lv_iconst (v := 0) hx hb dX9_clear_102 (by decide) ?_
  obtain ⟨w30, hw30, hf⟩ := bnd hf
  replace hw30 := Option.some.inj hw30
  refine p9_14 (v := false) hx hb hts hown hKs hH rfl ho m1_188 dX9_clear_103 (fun H locs hH => ?_)
  rw [hw30] at hH
  exact hw_vret hx hb hret hf hH hlocks dX9_clear_106

theorem dX9_countConflicts_0 : decode cX9_countConflicts 0 = .ok (.iconst 0, 1) := by decide +kernel
theorem dX9_countConflicts_1 : decode cX9_countConflicts 1 = .ok (.istore_n 1, 1) := by decide +kernel
theorem dX9_countConflicts_2 : decode cX9_countConflicts 2 = .ok (.iconst 0, 1) := by decide +kernel
theorem dX9_countConflicts_3 : decode cX9_countConflicts 3 = .ok (.istore_n 2, 1) := by decide +kernel
theorem dX9_countConflicts_4 : decode cX9_countConflicts 4 = .ok (.iload_n 2, 1) := by decide +kernel
theorem dX9_countConflicts_5 : decode cX9_countConflicts 5 = .ok (.aload_n 0, 1) := by decide +kernel
theorem dX9_countConflicts_6 : decode cX9_countConflicts 6 = .ok (.iconst 3, 1) := by decide +kernel
theorem dX9_countConflicts_7 : decode cX9_countConflicts 7 = .ok (.invokevirtual 87, 3) := by decide +kernel
theorem dX9_countConflicts_10 : decode cX9_countConflicts 10 = .ok (.if_icmp .ge 24, 3) := by decide +kernel
theorem dX9_countConflicts_13 : decode cX9_countConflicts 13 = .ok (.iload_n 1, 1) := by decide +kernel
theorem dX9_countConflicts_14 : decode cX9_countConflicts 14 = .ok (.aload_n 0, 1) := by decide +kernel
theorem dX9_countConflicts_15 : decode cX9_countConflicts 15 = .ok (.getfield 44, 3) := by decide +kernel
theorem dX9_countConflicts_18 : decode cX9_countConflicts 18 = .ok (.iload_n 2, 1) := by decide +kernel
theorem dX9_countConflicts_19 : decode cX9_countConflicts 19 = .ok (.aaload, 1) := by decide +kernel
theorem dX9_countConflicts_20 : decode cX9_countConflicts 20 = .ok (.getfield 94, 3) := by decide +kernel
theorem dX9_countConflicts_23 : decode cX9_countConflicts 23 = .ok (.invokestatic 97, 3) := by decide +kernel
theorem dX9_countConflicts_26 : decode cX9_countConflicts 26 = .ok (.iadd, 1) := by decide +kernel
theorem dX9_countConflicts_27 : decode cX9_countConflicts 27 = .ok (.istore_n 1, 1) := by decide +kernel
theorem dX9_countConflicts_28 : decode cX9_countConflicts 28 = .ok (.iinc 2 1, 3) := by decide +kernel
theorem dX9_countConflicts_31 : decode cX9_countConflicts 31 = .ok (.goto (-27), 3) := by decide +kernel
theorem dX9_countConflicts_34 : decode cX9_countConflicts 34 = .ok (.iload_n 1, 1) := by decide +kernel
theorem dX9_countConflicts_35 : decode cX9_countConflicts 35 = .ok (.iconst 2, 1) := by decide +kernel
theorem dX9_countConflicts_36 : decode cX9_countConflicts 36 = .ok (.idiv, 1) := by decide +kernel
theorem dX9_countConflicts_37 : decode cX9_countConflicts 37 = .ok (.ireturn, 1) := by decide +kernel
theorem hd_X9_countConflicts : yX9_countConflicts.cls = RX9 ∧ yX9_countConflicts.cls ≠ "java/lang/invoke/MethodHandle" ∧ yX9_countConflicts.cls ≠ "java/lang/invoke/VarHandle" ∧ (parseMethodDescriptor yX9_countConflicts.desc).map (fun d => d.parameters.length) = some 0 := by decide +kernel
theorem hs_X9_countConflicts : yX9_countConflicts.cls ≠ "java/lang/invoke/MethodHandle" ∧ yX9_countConflicts.cls ≠ "java/lang/invoke/VarHandle" ∧ (parseMethodDescriptor yX9_countConflicts.desc).map (fun d => d.parameters.length) = some 0 := by decide +kernel
set_option maxHeartbeats 4000000 in
set_option maxRecDepth 100000 in
theorem l_X9_countConflicts_L4 (C : CX p l e s m args meth c cX9_countConflicts 3 RX9 (Option.some Jvm.ClassFile.FieldType.int) E) {o : Nat} (ho : K o = some (8, 0)) {r : Int32} {w' : Wd} (k : Int32 → Int32 → Wd → Option (Int32 × Wd)) (hk : ∀ (v1_4 : Int32) (v2_4 : Int32) (w : Wd) (H : Heap) (locs : List Loc) (ls : Array Slot), HQ E K z w s H locs → lv_has ls 3 [(1, .int v1_4), (2, .int v2_4), (0, rv E (some o))] → k v1_4 v2_4 w = some (r, w') → W p l e ({ frames := 1, cells := 0, slots := 0, locals := 21 } : Room) s m args below meth c H locs 0 0 (MQ below (QI E K z w' r) args s 0 0 (hA E)) (F0 m 34 ls [])) : ∀ (n : Nat) (v1_4 : Int32) (v2_4 : Int32) (w : Wd) (H : Heap) (locs : List Loc) (ls : Array Slot), HQ E K z w s H locs → lv_has ls 3 [(1, .int v1_4), (2, .int v2_4), (0, rv E (some o))] → f_X9_countConflicts_L4 K o k n v1_4 v2_4 w = some (r, w') → W p l e ({ frames := 1, cells := 0, slots := 0, locals := 21 } : Room) s m args below meth c H locs 0 0 (MQ below (QI E K z w' r) args s 0 0 (hA E)) (F0 m 4 ls []) := by
  obtain ⟨hx, hb, hml, hown, hts, hKs, hT, hb0, hlocks, hret⟩ := id C
  intro n
  induction n with
  | zero =>
    intro v1_4 v2_4 w H locs ls hH hl hf
    cases hf
  | succ n ih =>
    intro v1_4 v2_4 w H locs ls hH hl hf
    rw [f_X9_countConflicts_L4] at hf
    refine lv_iload_n hx hb dX9_countConflicts_4 rfl (lv_at hl 1 rfl) ?_
    refine hl_aload_n hx hb dX9_countConflicts_5 rfl (lv_at hl 2 rfl) ?_
    refine lv_iconst (v := 3) hx hb dX9_countConflicts_6 (by decide) ?_
    obtain ⟨q2, hq2, hf⟩ := bnd hf
    refine hcV_i hx hb hml hown hts hKs hT hb0 hH (As := [.int 3]) (rest := [.int v2_4]) (k_X9_size l E K H.size o 3 w ho hq2) (gV m3_40 m3_22 m3_23 m1_2 m3_24) hd_X9_size ⟨Nat.le_of_ble_eq_true rfl, Nat.le_of_ble_eq_true rfl, rfl, rfl⟩ rfl ho rfl rfl rfl hl.1 rfl (rcI rc0) rfl dX9_countConflicts_7 ⟨Nat.zero_le _, Nat.zero_le _⟩ (fun H locs hH => ?_)
    refine lv_icmp_ge (tgt := 34) hx hb dX9_countConflicts_10 (by decide) (fun c3 => ?_) (fun c3 => ?_)
    · replace hf := (if_pos c3).symm.trans hf
      exact hk v1_4 v2_4 _ _ _ _ hH (lv_sub hl [0, 1, 2] rfl) hf
    · replace hf := (if_neg c3).symm.trans hf
      refine lv_iload_n hx hb dX9_countConflicts_13 rfl (lv_at hl 0 rfl) ?_
      refine hl_aload_n hx hb dX9_countConflicts_14 rfl (lv_at hl 2 rfl) ?_
      refine g9_9 hx hb hts hown hKs hH rfl ho m1_171 dX9_countConflicts_15 ?_
      refine lv_iload_n hx hb dX9_countConflicts_18 rfl (lv_at hl 1 rfl) ?_
      obtain ⟨a4, ha4, hf⟩ := bnd hf
      replace ha4 := cha_some ha4
      obtain ⟨j5, hj5, hf⟩ := bnd hf
      refine hw_aald25 hx hb hKs hH ha4.1 ha4.2 hj5 dX9_countConflicts_19 ?_
      obtain ⟨a6, ha6, hf⟩ := bnd hf
      replace ha6 := chk_some ha6
      refine gn3_5 hx hb hts hown hKs hH ha6.1 ha6.2 m1_113 dX9_countConflicts_20 ?_
      obtain ⟨q7, hq7, hf⟩ := bnd hf
      refine hcS_i hx hb hml hown hts hKs hT hb0 hH (As := [.int ((wI q2.2 305 a6))]) (rest := [.int v1_4]) (k_J6_bitCount_0f7a4 l E K H.size (wI q2.2 305 a6) q2.2 hq7) (gS m3_41 m3_31 m1_25 m3_32) hs_J6_bitCount_0f7a4 ⟨Nat.le_of_ble_eq_true rfl, Nat.le_of_ble_eq_true rfl, rfl, rfl⟩ hl.1 rfl (rcI rc0) rfl dX9_countConflicts_23 ⟨Nat.zero_le _, Nat.zero_le _⟩ (fun H locs hH => ?_)
      refine lv_iadd hx hb dX9_countConflicts_26 ?_
      refine lv_istore_n (i := 1) (lv' := [(1, .int ((v1_4 + q7.1))), (2, .int v2_4), (0, rv E (some o))]) hx hb dX9_countConflicts_27 rfl hl (by decide) rfl (fun ls hl => ?_)
      refine lv_iinc (v := (v2_4 + 1)) (lv' := [(2, .int ((v2_4 + 1))), (1, .int ((v1_4 + q7.1))), (0, rv E (some o))]) hx hb dX9_countConflicts_28 hl (k := 1) rfl rfl (by decide) rfl (fun ls hl => ?_)
      refine lv_goto (tgt := 4) hx hb dX9_countConflicts_31 (by decide) ?_
      exact ih (v1_4 + q7.1) (v2_4 + 1) _ _ _ _ hH (lv_sub hl [1, 0, 2] rfl) hf
set_option maxHeartbeats 4000000 in
set_option maxRecDepth 100000 in
theorem k_X9_countConflicts (l : Launch) (E : Ev) (K : Kd) (z : Nat) (o : Nat) (w : Wd) (ho : K o = some (8, 0)) {r : Int32} {w' : Wd} (hf : f_X9_countConflicts K o w = some (r, w')) : Met l yX9_countConflicts (Cond.code yX9_countConflicts cX9_countConflicts 3 (Option.some Jvm.ClassFile.FieldType.int) :: bt) ({ frames := 1, cells := 0, slots := 0, locals := 21 } : Room) (va_Pc [rv E (some o)] (HB E K w z)) (QI E K z w' r) 0 0 (hA E) := by
  refine Met.ofW (cc := cX9_countConflicts) (maxL := 3) (ret := (Option.some Jvm.ClassFile.FieldType.int)) (by decide) rfl ?_
  intro p e s m args below meth c s₁ B hml hv
  obtain ⟨rfl, hz, hP, hKs, hT, hb0⟩ := hv
  have C : CX p l e s m _ meth c cX9_countConflicts 3 RX9 (Option.some Jvm.ClassFile.FieldType.int) E := ⟨B.exec, B.bytes, hml, findClass_of_methodNamed B.named, fun w h => atoms_spec (ws := Cond.code yX9_countConflicts cX9_countConflicts 3 (Option.some Jvm.ClassFile.FieldType.int) :: bt) B.pre w (List.mem_cons_of_mem _ h), hKs, hT, by rw [hz]; exact hb0, B.notSynchronized, B.returns⟩
  have hH : HQ E K z w s s.heap [] := ⟨hP, va_S.rf, hz⟩
  obtain ⟨hx, hb, hml, hown, hts, hKs, hT, hb0, hlocks, hret⟩ := id C
  have hl := lv_entry [rv E (some o)] (n := 3) (by simp [lg_len_nil, lg_len_i, lg_len_j, lg_len_q, lg_len_f, lg_len_d, lg_len_r])
  rw [lg_entry_eq]
  generalize (lg_sl [rv E (some o)] ++ List.replicate (3 - (lg_sl [rv E (some o)]).length) Slot.unset).toArray = ls at hl ⊢
  replace hl : lv_has ls 3 [(0, rv E (some o))] := by simpa only [lv_args, cat_q, cat_i, cat_j, reduceIte, Nat.reduceEqDiff, Nat.reduceAdd, Nat.zero_add] using hl
  generalize s.heap = H at hH ⊢
  unfold f_X9_countConflicts at hf
  refine lv_iconst (v := 0) hx hb dX9_countConflicts_0 (by decide) ?_
  refine lv_istore_n (i := 1) (lv' := [(1, .int 0), (0, rv E (some o))]) hx hb dX9_countConflicts_1 rfl hl (by decide) rfl (fun ls hl => ?_)
  refine lv_iconst (v := 0) hx hb dX9_countConflicts_2 (by decide) ?_
  refine lv_istore_n (i := 2) (lv' := [(2, .int 0), (1, .int 0), (0, rv E (some o))]) hx hb dX9_countConflicts_3 rfl hl (by decide) rfl (fun ls hl => ?_)
  refine l_X9_countConflicts_L4  C ho _ (fun v1_4 v2_4 w1 H locs ls hH hl hf => ?_) fu 0 0 w _ _ _ hH (lv_sub hl [1, 0, 2] rfl) hf
  refine lv_iload_n hx hb dX9_countConflicts_34 rfl (lv_at hl 0 rfl) ?_
  refine lv_iconst (v := 2) hx hb dX9_countConflicts_35 (by decide) ?_
  refine lv_idiv hx hb dX9_countConflicts_36 (by decide) ?_
  exact hw_iret hx hb hret hf hH hlocks dX9_countConflicts_37

theorem dX10_init_0 : decode cX10_init 0 = .ok (.aload_n 0, 1) := by decide +kernel
theorem dX10_init_1 : decode cX10_init 1 = .ok (.invokespecial 3, 3) := by decide +kernel
theorem dX10_init_4 : decode cX10_init 4 = .ok (.aload_n 0, 1) := by decide +kernel
theorem dX10_init_5 : decode cX10_init 5 = .ok (.new 9, 3) := by decide +kernel
theorem dX10_init_8 : decode cX10_init 8 = .ok (.dup, 1) := by decide +kernel
theorem dX10_init_9 : decode cX10_init 9 = .ok (.invokespecial 11, 3) := by decide +kernel
theorem dX10_init_12 : decode cX10_init 12 = .ok (.putfield 12, 3) := by decide +kernel
theorem dX10_init_15 : decode cX10_init 15 = .ok (.aload_n 0, 1) := by decide +kernel
theorem dX10_init_16 : decode cX10_init 16 = .ok (.bipush 12, 2) := by decide +kernel
theorem dX10_init_18 : decode cX10_init 18 = .ok (.newarray .int, 2) := by decide +kernel
theorem dX10_init_20 : decode cX10_init 20 = .ok (.putfield 18, 3) := by decide +kernel
theorem dX10_init_23 : decode cX10_init 23 = .ok (.aload_n 0, 1) := by decide +kernel
theorem dX10_init_24 : decode cX10_init 24 = .ok (.bipush 12, 2) := by decide +kernel
theorem dX10_init_26 : decode cX10_init 26 = .ok (.newarray .int, 2) := by decide +kernel
theorem dX10_init_28 : decode cX10_init 28 = .ok (.putfield 22, 3) := by decide +kernel
theorem dX10_init_31 : decode cX10_init 31 = .ok (.aload_n 0, 1) := by decide +kernel
theorem dX10_init_32 : decode cX10_init 32 = .ok (.bipush 12, 2) := by decide +kernel
theorem dX10_init_34 : decode cX10_init 34 = .ok (.anewarray 25, 3) := by decide +kernel
theorem dX10_init_37 : decode cX10_init 37 = .ok (.putfield 27, 3) := by decide +kernel
theorem dX10_init_40 : decode cX10_init 40 = .ok (.aload_n 0, 1) := by decide +kernel
theorem dX10_init_41 : decode cX10_init 41 = .ok (.aload_n 1, 1) := by decide +kernel
theorem dX10_init_42 : decode cX10_init 42 = .ok (.putfield 31, 3) := by decide +kernel
theorem dX10_init_45 : decode cX10_init 45 = .ok (.iconst 0, 1) := by decide +kernel
theorem dX10_init_46 : decode cX10_init 46 = .ok (.istore_n 2, 1) := by decide +kernel
theorem dX10_init_47 : decode cX10_init 47 = .ok (.iload_n 2, 1) := by decide +kernel
theorem dX10_init_48 : decode cX10_init 48 = .ok (.bipush 12, 2) := by decide +kernel
theorem dX10_init_50 : decode cX10_init 50 = .ok (.if_icmp .ge 31, 3) := by decide +kernel
theorem dX10_init_53 : decode cX10_init 53 = .ok (.aload_n 0, 1) := by decide +kernel
theorem dX10_init_54 : decode cX10_init 54 = .ok (.getfield 27, 3) := by decide +kernel
theorem dX10_init_57 : decode cX10_init 57 = .ok (.iload_n 2, 1) := by decide +kernel
theorem dX10_init_58 : decode cX10_init 58 = .ok (.new 25, 3) := by decide +kernel
theorem dX10_init_61 : decode cX10_init 61 = .ok (.dup, 1) := by decide +kernel
theorem dX10_init_62 : decode cX10_init 62 = .ok (.invokespecial 35, 3) := by decide +kernel
theorem dX10_init_65 : decode cX10_init 65 = .ok (.aastore, 1) := by decide +kernel
theorem dX10_init_66 : decode cX10_init 66 = .ok (.aload_n 0, 1) := by decide +kernel
theorem dX10_init_67 : decode cX10_init 67 = .ok (.getfield 27, 3) := by decide +kernel
theorem dX10_init_70 : decode cX10_init 70 = .ok (.iload_n 2, 1) := by decide +kernel
theorem dX10_init_71 : decode cX10_init 71 = .ok (.aaload, 1) := by decide +kernel
theorem dX10_init_72 : decode cX10_init 72 = .ok (.invokevirtual 36, 3) := by decide +kernel
theorem dX10_init_75 : decode cX10_init 75 = .ok (.iinc 2 1, 3) := by decide +kernel
theorem dX10_init_78 : decode cX10_init 78 = .ok (.goto (-31), 3) := by decide +kernel
theorem dX10_init_81 : decode cX10_init 81 = .ok (.return_, 1) := by decide +kernel
theorem hd_X10_init : yX10_init.cls = RX10 ∧ yX10_init.cls ≠ "java/lang/invoke/MethodHandle" ∧ yX10_init.cls ≠ "java/lang/invoke/VarHandle" ∧ (parseMethodDescriptor yX10_init.desc).map (fun d => d.parameters.length) = some 1 := by decide +kernel
theorem hs_X10_init : yX10_init.cls ≠ "java/lang/invoke/MethodHandle" ∧ yX10_init.cls ≠ "java/lang/invoke/VarHandle" ∧ (parseMethodDescriptor yX10_init.desc).map (fun d => d.parameters.length) = some 1 := by decide +kernel
set_option maxHeartbeats 4000000 in
set_option maxRecDepth 100000 in
theorem k_X10_init (l : Launch) (E : Ev) (K : Kd) (n : Nat) (o : Nat) (a_1 : Option Nat) (w : Wd) {K' : Kd} {n' : Nat} {w' : Wd} (hf : f_X10_init K n o a_1 w = some (K', n', w')) : Met l yX10_init (Cond.code yX10_init cX10_init 3 (Option.none : Option Jvm.ClassFile.FieldType) :: bt) ({ frames := 2, cells := 29, slots := 393, locals := 40 } : Room) (va_Pc [rv E (some o), rv E a_1] (HB E K w (E.2.1 + n))) (QV E K' (E.2.1 + n') w') 29 393 (hA E) := by
  refine Met.ofW (cc := cX10_init) (maxL := 3) (ret := (Option.none : Option Jvm.ClassFile.FieldType)) (by decide) rfl ?_
  intro p e s m args below meth c s₁ B hml hv
  have hn2 : meth.name = "<init>" := (name_of_methodNamed B.named B.method).1
  obtain ⟨rfl, hz, hP, hKs, hT, hb0⟩ := hv
  have C : CX p l e s m _ meth c cX10_init 3 RX10 (Option.none : Option Jvm.ClassFile.FieldType) E := ⟨B.exec, B.bytes, hml, findClass_of_methodNamed B.named, fun w h => atoms_spec (ws := Cond.code yX10_init cX10_init 3 (Option.none : Option Jvm.ClassFile.FieldType) :: bt) B.pre w (List.mem_cons_of_mem _ h), hKs, hT, by rw [hz]; exact hb0, B.notSynchronized, B.returns⟩
  have hH : HQ E K (E.2.1 + n) w s s.heap [] := ⟨hP, va_S.rf, hz⟩
  obtain ⟨hx, hb, hml, hown, hts, hKs, hT, hb0, hlocks, hret⟩ := id C
  have hl := lv_entry [rv E (some o), rv E a_1] (n := 3) (by simp [lg_len_nil, lg_len_i, lg_len_j, lg_len_q, lg_len_f, lg_len_d, lg_len_r])
  rw [lg_entry_eq]
  generalize (lg_sl [rv E (some o), rv E a_1] ++ List.replicate (3 - (lg_sl [rv E (some o), rv E a_1]).length) Slot.unset).toArray = ls at hl ⊢
  replace hl : lv_has ls 3 [(0, rv E (some o)), (1, rv E a_1)] := by simpa only [lv_args, cat_q, cat_i, cat_j, reduceIte, Nat.reduceEqDiff, Nat.reduceAdd, Nat.zero_add] using hl
  generalize s.heap = H at hH ⊢
  unfold f_X10_init at hf
  refine hl_aload_n hx hb dX10_init_0 rfl (lv_at hl 0 rfl) ?_
  refine hw_obj hx hb hml hl.1 hown hts m2_53 m1_40 m1_41 dX10_init_1 (Nat.le_of_ble_eq_true rfl) (Nat.le_of_ble_eq_true rfl) ?_
  refine hl_aload_n hx hb dX10_init_4 rfl (lv_at hl 0 rfl) ?_
  refine hw_new (ci := 1) (C := RX2) (T := TX2) (N := 2) hx hb hts iX2 tyX2 tyX2_ok hown m2_54 (hts _ m1_53) m1_3 hKs hb0 hH rfl rfl (fun j hj => dfX2 j hj) (Nat.le_of_ble_eq_true rfl) (Nat.le_of_ble_eq_true rfl) dX10_init_5 (fun H hH => ?_)
  obtain ⟨K1, hK1, hf⟩ := bnd hf
  replace hK1 := Option.some.inj hK1
  obtain ⟨w2, hw2, hf⟩ := bnd hf
  replace hw2 := Option.some.inj hw2
  rw [hK1, hw2] at hH
  refine lv_dup hx hb dX10_init_8 rv_cat ?_
  obtain ⟨q3, hq3, hf⟩ := bnd hf
  refine hcA hH (va_runIN (As := []) (rest := [rv E (some n), rv E (some o)]) ⟨hx, hb, hml, hown, hts⟩ (k_X2_init l E K1 (n + 1) n w2 hq3) ⟨va_cnB _ hts (gC m1_56) rfl rfl rfl (hKs.2.1 _ m2_55) (hts _ m1_3) hs_X2_init ⟨Nat.le_of_ble_eq_true rfl, Nat.le_of_ble_eq_true rfl⟩, rfl, hts _ m1_55⟩ ⟨HB.blind, HB.preN hKs hT hb0 hH⟩ rfl rfl hl.1 rfl (lv_room (rcV (rcV rc0))) dX10_init_9 ⟨Nat.le_of_ble_eq_true rfl, Nat.le_of_ble_eq_true rfl⟩) (fun H locs hH => ?_)
  obtain ⟨a4, ha4, hf⟩ := bnd hf
  replace ha4 := chk_some ha4
  obtain ⟨w5, hw5, hf⟩ := bnd hf
  replace hw5 := Option.some.inj hw5
  refine pf10_2 (v := (some n)) hx hb hts hown hKs hH ha4.1 ha4.2 hn2 m2_119 dX10_init_12 (fun H locs hH => ?_)
  rw [hw5] at hH
  refine hl_aload_n hx hb dX10_init_15 rfl (lv_at hl 0 rfl) ?_
  refine lv_bipush (v := 12) hx hb dX10_init_16 (by decide) ?_
  refine hw_newa20 (N := 12) hx hb hts m1_67 hKs hH (by decide) (by decide) (Nat.le_of_ble_eq_true rfl) (Nat.le_of_ble_eq_true rfl) (Nat.le_of_ble_eq_true rfl) dX10_init_18 (fun H hH => ?_)
  obtain ⟨K6, hK6, hf⟩ := bnd hf
  replace hK6 := Option.some.inj hK6
  obtain ⟨w7, hw7, hf⟩ := bnd hf
  replace hw7 := Option.some.inj hw7
  rw [hK6, hw7] at hH
  obtain ⟨a8, ha8, hf⟩ := bnd hf
  replace ha8 := chk_some ha8
  obtain ⟨w9, hw9, hf⟩ := bnd hf
  replace hw9 := Option.some.inj hw9
  refine pf10_3 (v := (some q3.2.1)) hx hb hts hown hKs hH ha8.1 ha8.2 hn2 m2_121 dX10_init_20 (fun H locs hH => ?_)
  rw [hw9] at hH
  refine hl_aload_n hx hb dX10_init_23 rfl (lv_at hl 0 rfl) ?_
  refine lv_bipush (v := 12) hx hb dX10_init_24 (by decide) ?_
  refine hw_newa20 (N := 12) hx hb hts m1_67 hKs hH (by decide) (by decide) (Nat.le_of_ble_eq_true rfl) (Nat.le_of_ble_eq_true rfl) (Nat.le_of_ble_eq_true rfl) dX10_init_26 (fun H hH => ?_)
  obtain ⟨K10, hK10, hf⟩ := bnd hf
  replace hK10 := Option.some.inj hK10
  obtain ⟨w11, hw11, hf⟩ := bnd hf
  replace hw11 := Option.some.inj hw11
  rw [hK10, hw11] at hH
  obtain ⟨a12, ha12, hf⟩ := bnd hf
  replace ha12 := chk_some ha12
  obtain ⟨w13, hw13, hf⟩ := bnd hf
  replace hw13 := Option.some.inj hw13
  refine pf10_4 (v := (some (q3.2.1 + 1))) hx hb hts hown hKs hH ha12.1 ha12.2 hn2 m2_123 dX10_init_28 (fun H locs hH => ?_)
  rw [hw13] at hH
  refine hl_aload_n hx hb dX10_init_31 rfl (lv_at hl 0 rfl) ?_
  refine lv_bipush (v := 12) hx hb dX10_init_32 (by decide) ?_
  refine hw_newq27 (N := 12) hx hb hts hown m2_56 (va_AO.use (hKs.2.2.2.2.2 _ (by decide))) hKs hH (by decide) (by decide) (Nat.le_of_ble_eq_true rfl) (Nat.le_of_ble_eq_true rfl) (Nat.le_of_ble_eq_true rfl) dX10_init_34 (fun H hH => ?_)
  obtain ⟨K14, hK14, hf⟩ := bnd hf
  replace hK14 := Option.some.inj hK14
  obtain ⟨w15, hw15, hf⟩ := bnd hf
  replace hw15 := Option.some.inj hw15
  rw [hK14, hw15] at hH
  obtain ⟨a16, ha16, hf⟩ := bnd hf
  replace ha16 := chk_some ha16
  obtain ⟨w17, hw17, hf⟩ := bnd hf
  replace hw17 := Option.some.inj hw17
  refine pf10_5 (v := (some ((q3.2.1 + 1) + 1))) hx hb hts hown hKs hH ha16.1 ha16.2 hn2 m2_125 dX10_init_37 (fun H locs hH => ?_)
  rw [hw17] at hH
  refine hl_aload_n hx hb dX10_init_40 rfl (lv_at hl 0 rfl) ?_
  refine hl_aload_n hx hb dX10_init_41 rfl (lv_at hl 1 rfl) ?_
  obtain ⟨w18, hw18, hf⟩ := bnd hf
  replace hw18 := Option.some.inj hw18
  refine p10_0 (v := a_1) hx hb hts hown hKs hH ha16.1 ha16.2 m2_113 dX10_init_42 (fun H locs hH => ?_)
  rw [hw18] at hH
  refine lv_iconst (v := 0) hx hb dX10_init_45 (by decide) ?_
  refine lv_istore_n (i := 2) (lv' := [(2, .int 0), (0, rv E (some o)), (1, rv E a_1)]) hx hb dX10_init_46 rfl hl (by decide) (by simp [List.filter_cons, cat_q, cat_i, cat_j, imax, imin]) (fun ls hl => ?_)
  refine lv_iload_n hx hb dX10_init_47 rfl (lv_at hl 0 rfl) ?_
  refine lv_bipush (v := 12) hx hb dX10_init_48 (by decide) ?_
  refine lv_icmp_ge (tgt := 81) hx hb dX10_init_50 (by decide) (fun c19 => ?_) (fun c19 => ?_)
  · exact (by revert c19; decide : False).elim
  · skip
    refine hl_aload_n hx hb dX10_init_53 rfl (lv_at hl 1 rfl) ?_
    refine g10_5 hx hb hts hown hKs hH ha16.1 ha16.2 m2_125 dX10_init_54 ?_
    refine lv_iload_n hx hb dX10_init_57 rfl (lv_at hl 0 rfl) ?_
    refine hw_new (ci := 6) (C := RX7) (T := TX7) (N := 8) hx hb hts iX7 tyX7 tyX7_ok hown m2_56 (hts _ m2_58) m1_13 hKs hb0 hH rfl rfl (fun j hj => dfX7 j hj) (Nat.le_of_ble_eq_true rfl) (Nat.le_of_ble_eq_true rfl) dX10_init_58 (fun H hH => ?_)
    obtain ⟨K20, hK20, hf⟩ := bnd hf
    replace hK20 := Option.some.inj hK20
    obtain ⟨w21, hw21, hf⟩ := bnd hf
    replace hw21 := Option.some.inj hw21
    rw [hK20, hw21] at hH
    refine lv_dup hx hb dX10_init_61 rv_cat ?_
    obtain ⟨q22, hq22, hf⟩ := bnd hf
    refine hcA hH (va_runIN (As := []) (rest := [rv E (some (((q3.2.1 + 1) + 1) + 1)), .int 0, rv E (wR w18 1005 a16)]) ⟨hx, hb, hml, hown, hts⟩ (k_X7_init l E K20 ((((q3.2.1 + 1) + 1) + 1) + 1) (((q3.2.1 + 1) + 1) + 1) w21 hq22) ⟨va_cnB _ hts (gC m2_61) rfl rfl rfl (hKs.2.1 _ m2_59) (hts _ m1_13) hs_X7_init ⟨Nat.le_of_ble_eq_true rfl, Nat.le_of_ble_eq_true rfl⟩, rfl, hts _ m2_60⟩ ⟨HB.blind, HB.preN hKs hT hb0 hH⟩ rfl rfl hl.1 rfl (lv_room (rcV (rcI (rcV rc0)))) dX10_init_62 ⟨Nat.le_of_ble_eq_true rfl, Nat.le_of_ble_eq_true rfl⟩) (fun H locs hH => ?_)
    obtain ⟨a23, ha23, hf⟩ := bnd hf
    replace ha23 := cha_some ha23
    obtain ⟨j24, hj24, hf⟩ := bnd hf
    obtain ⟨a25, ha25, hf⟩ := bnd hf
    replace ha25 := chk_some ha25
    obtain ⟨w26, hw26, hf⟩ := bnd hf
    replace hw26 := Option.some.inj hw26
    refine hw_aast27 hx hb hKs hH ha23.1 ha23.2 ha25.1 ha25.2 hj24 dX10_init_65 (fun H locs hH => ?_)
    rw [hw26] at hH
    refine hl_aload_n hx hb dX10_init_66 rfl (lv_at hl 1 rfl) ?_
    obtain ⟨a27, ha27, hf⟩ := bnd hf
    replace ha27 := chk_some ha27
    refine g10_5 hx hb hts hown hKs hH ha27.1 ha27.2 m2_125 dX10_init_67 ?_
    refine lv_iload_n hx hb dX10_init_70 rfl (lv_at hl 0 rfl) ?_
    obtain ⟨a28, ha28, hf⟩ := bnd hf
    replace ha28 := cha_some ha28
    obtain ⟨j29, hj29, hf⟩ := bnd hf
    refine hw_aald27 hx hb hKs hH ha28.1 ha28.2 hj29 dX10_init_71 ?_
    obtain ⟨a30, ha30, hf⟩ := bnd hf
    replace ha30 := chk_some ha30
    obtain ⟨q31, hq31, hf⟩ := bnd hf
    refine hcV_v hx hb hml hown hts hKs hT hb0 hH (As := []) (rest := []) (k_X7_clear l E q22.1 H.size a30 w26 ha30.2 hq31) (gV m2_105 m2_106 m2_107 m1_13 m2_108) hd_X7_clear ⟨Nat.le_of_ble_eq_true rfl, Nat.le_of_ble_eq_true rfl, rfl, rfl⟩ ha30.1 ha30.2 rfl rfl rfl hl.1 rfl rc0 rfl dX10_init_72 ⟨Nat.le_of_ble_eq_true rfl, Nat.le_of_ble_eq_true rfl⟩ (fun H locs hH => ?_)
    refine lv_iinc (v := 1) (lv' := [(2, .int 1), (0, rv E (some o)), (1, rv E a_1)]) hx hb dX10_init_75 hl (k := 0) rfl rfl (by decide) (by simp [List.filter_cons, cat_q, cat_i, cat_j, imax, imin]) (fun ls hl => ?_)
    refine lv_goto (tgt := 47) hx hb dX10_init_78 (by decide) ?_
    refine lv_iload_n hx hb dX10_init_47 rfl (lv_at hl 0 rfl) ?_
    refine lv_bipush (v := 12) hx hb dX10_init_48 (by decide) ?_
    refine lv_icmp_ge (tgt := 81) hx hb dX10_init_50 (by decide) (fun c32 => ?_) (fun c32 => ?_)
    · exact (by revert c32; decide : False).elim
    · skip
      refine hl_aload_n hx hb dX10_init_53 rfl (lv_at hl 1 rfl) ?_
      refine g10_5 hx hb hts hown hKs hH ha27.1 ha27.2 m2_125 dX10_init_54 ?_
      refine lv_iload_n hx hb dX10_init_57 rfl (lv_at hl 0 rfl) ?_
      refine hw_new (ci := 6) (C := RX7) (T := TX7) (N := 8) hx hb hts iX7 tyX7 tyX7_ok hown m2_56 (hts _ m2_58) m1_13 hKs hb0 hH rfl rfl (fun j hj => dfX7 j hj) (Nat.le_of_ble_eq_true rfl) (Nat.le_of_ble_eq_true rfl) dX10_init_58 (fun H hH => ?_)
      obtain ⟨K33, hK33, hf⟩ := bnd hf
      replace hK33 := Option.some.inj hK33
      obtain ⟨w34, hw34, hf⟩ := bnd hf
      replace hw34 := Option.some.inj hw34
      rw [hK33, hw34] at hH
      refine lv_dup hx hb dX10_init_61 rv_cat ?_
      obtain ⟨q35, hq35, hf⟩ := bnd hf
      refine hcA hH (va_runIN (As := []) (rest := [rv E (some q22.2.1), .int 1, rv E (wR q31 1005 a27)]) ⟨hx, hb, hml, hown, hts⟩ (k_X7_init l E K33 (q22.2.1 + 1) q22.2.1 w34 hq35) ⟨va_cnB _ hts (gC m2_61) rfl rfl rfl (hKs.2.1 _ m2_59) (hts _ m1_13) hs_X7_init ⟨Nat.le_of_ble_eq_true rfl, Nat.le_of_ble_eq_true rfl⟩, rfl, hts _ m2_60⟩ ⟨HB.blind, HB.preN hKs hT hb0 hH⟩ rfl rfl hl.1 rfl (lv_room (rcV (rcI (rcV rc0)))) dX10_init_62 ⟨Nat.le_of_ble_eq_true rfl, Nat.le_of_ble_eq_true rfl⟩) (fun H locs hH => ?_)
      obtain ⟨a36, ha36, hf⟩ := bnd hf
      replace ha36 := cha_some ha36
      obtain ⟨j37, hj37, hf⟩ := bnd hf
      obtain ⟨a38, ha38, hf⟩ := bnd hf
      replace ha38 := chk_some ha38
      obtain ⟨w39, hw39, hf⟩ := bnd hf
      replace hw39 := Option.some.inj hw39
      refine hw_aast27 hx hb hKs hH ha36.1 ha36.2 ha38.1 ha38.2 hj37 dX10_init_65 (fun H locs hH => ?_)
      rw [hw39] at hH
      refine hl_aload_n hx hb dX10_init_66 rfl (lv_at hl 1 rfl) ?_
      obtain ⟨a40, ha40, hf⟩ := bnd hf
      replace ha40 := chk_some ha40
      refine g10_5 hx hb hts hown hKs hH ha40.1 ha40.2 m2_125 dX10_init_67 ?_
      refine lv_iload_n hx hb dX10_init_70 rfl (lv_at hl 0 rfl) ?_
      obtain ⟨a41, ha41, hf⟩ := bnd hf
      replace ha41 := cha_some ha41
      obtain ⟨j42, hj42, hf⟩ := bnd hf
      refine hw_aald27 hx hb hKs hH ha41.1 ha41.2 hj42 dX10_init_71 ?_
      obtain ⟨a43, ha43, hf⟩ := bnd hf
      replace ha43 := chk_some ha43
      obtain ⟨q44, hq44, hf⟩ := bnd hf
      refine hcV_v hx hb hml hown hts hKs hT hb0 hH (As := []) (rest := []) (k_X7_clear l E q35.1 H.size a43 w39 ha43.2 hq44) (gV m2_105 m2_106 m2_107 m1_13 m2_108) hd_X7_clear ⟨Nat.le_of_ble_eq_true rfl, Nat.le_of_ble_eq_true rfl, rfl, rfl⟩ ha43.1 ha43.2 rfl rfl rfl hl.1 rfl rc0 rfl dX10_init_72 ⟨Nat.le_of_ble_eq_true rfl, Nat.le_of_ble_eq_true rfl⟩ (fun H locs hH => ?_)
      refine lv_iinc (v := 2) (lv' := [(2, .int 2), (0, rv E (some o)), (1, rv E a_1)]) hx hb dX10_init_75 hl (k := 0) rfl rfl (by decide) (by simp [List.filter_cons, cat_q, cat_i, cat_j, imax, imin]) (fun ls hl => ?_)
      refine lv_goto (tgt := 47) hx hb dX10_init_78 (by decide) ?_
      refine lv_iload_n hx hb dX10_init_47 rfl (lv_at hl 0 rfl) ?_
      refine lv_bipush (v := 12) hx hb dX10_init_48 (by decide) ?_
      refine lv_icmp_ge (tgt := 81) hx hb dX10_init_50 (by decide) (fun c45 => ?_) (fun c45 => ?_)
      · exact (by revert c45; decide : False).elim
      · skip
        refine hl_aload_n hx hb dX10_init_53 rfl (lv_at hl 1 rfl) ?_
        refine g10_5 hx hb hts hown hKs hH ha40.1 ha40.2 m2_125 dX10_init_54 ?_
        refine lv_iload_n hx hb dX10_init_57 rfl (lv_at hl 0 rfl) ?_
        refine hw_new (ci := 6) (C := RX7) (T := TX7) (N := 8) hx hb hts iX7 tyX7 tyX7_ok hown m2_56 (hts _ m2_58) m1_13 hKs hb0 hH rfl rfl (fun j hj => dfX7 j hj) (Nat.le_of_ble_eq_true rfl) (Nat.le_of_ble_eq_true rfl) dX10_init_58 (fun H hH => ?_)
        obtain ⟨K46, hK46, hf⟩ := bnd hf
        replace hK46 := Option.some.inj hK46
        obtain ⟨w47, hw47, hf⟩ := bnd hf
        replace hw47 := Option.some.inj hw47
        rw [hK46, hw47] at hH
        refine lv_dup hx hb dX10_init_61 rv_cat ?_
        obtain ⟨q48, hq48, hf⟩ := bnd hf
        refine hcA hH (va_runIN (As := []) (rest := [rv E (some q35.2.1), .int 2, rv E (wR q44 1005 a40)]) ⟨hx, hb, hml, hown, hts⟩ (k_X7_init l E K46 (q35.2.1 + 1) q35.2.1 w47 hq48) ⟨va_cnB _ hts (gC m2_61) rfl rfl rfl (hKs.2.1 _ m2_59) (hts _ m1_13) hs_X7_init ⟨Nat.le_of_ble_eq_true rfl, Nat.le_of_ble_eq_true rfl⟩, rfl, hts _ m2_60⟩ ⟨HB.blind, HB.preN hKs hT hb0 hH⟩ rfl rfl hl.1 rfl (lv_room (rcV (rcI (rcV rc0)))) dX10_init_62 ⟨Nat.le_of_ble_eq_true rfl, Nat.le_of_ble_eq_true rfl⟩) (fun H locs hH => ?_)
        obtain ⟨a49, ha49, hf⟩ := bnd hf
        replace ha49 := cha_some ha49
        obtain ⟨j50, hj50, hf⟩ := bnd hf
        obtain ⟨a51, ha51, hf⟩ := bnd hf
        replace ha51 := chk_some ha51
        obtain ⟨w52, hw52, hf⟩ := bnd hf
        replace hw52 := Option.some.inj hw52
        refine hw_aast27 hx hb hKs hH ha49.1 ha49.2 ha51.1 ha51.2 hj50 dX10_init_65 (fun H locs hH => ?_)
        rw [hw52] at hH
        refine hl_aload_n hx hb dX10_init_66 rfl (lv_at hl 1 rfl) ?_
        obtain ⟨a53, ha53, hf⟩ := bnd hf
        replace ha53 := chk_some ha53
        refine g10_5 hx hb hts hown hKs hH ha53.1 ha53.2 m2_125 dX10_init_67 ?_
        refine lv_iload_n hx hb dX10_init_70 rfl (lv_at hl 0 rfl) ?_
        obtain ⟨a54, ha54, hf⟩ := bnd hf
        replace ha54 := cha_some ha54
        obtain ⟨j55, hj55, hf⟩ := bnd hf
        refine hw_aald27 hx hb hKs hH ha54.1 ha54.2 hj55 dX10_init_71 ?_
        obtain ⟨a56, ha56, hf⟩ := bnd hf
        replace ha56 := chk_some ha56
        obtain ⟨q57, hq57, hf⟩ := bnd hf
        refine hcV_v hx hb hml hown hts hKs hT hb0 hH (As := []) (rest := []) (k_X7_clear l E q48.1 H.size a56 w52 ha56.2 hq57) (gV m2_105 m2_106 m2_107 m1_13 m2_108) hd_X7_clear ⟨Nat.le_of_ble_eq_true rfl, Nat.le_of_ble_eq_true rfl, rfl, rfl⟩ ha56.1 ha56.2 rfl rfl rfl hl.1 rfl rc0 rfl dX10_init_72 ⟨Nat.le_of_ble_eq_true rfl, Nat.le_of_ble_eq_true rfl⟩ (fun H locs hH => ?_)
        refine lv_iinc (v := 3) (lv' := [(2, .int 3), (0, rv E (some o)), (1, rv E a_1)]) hx hb dX10_init_75 hl (k := 0) rfl rfl (by decide) (by simp [List.filter_cons, cat_q, cat_i, cat_j, imax, imin]) (fun ls hl => ?_)
        refine lv_goto (tgt := 47) hx hb dX10_init_78 (by decide) ?_
        refine lv_iload_n hx hb dX10_init_47 rfl (lv_at hl 0 rfl) ?_
        refine lv_bipush (v := 12) hx hb dX10_init_48 (by decide) ?_
        refine lv_icmp_ge (tgt := 81) hx hb dX10_init_50 (by decide) (fun c58 => ?_) (fun c58 => ?_)
        · exact (by revert c58; decide : False).elim
        · skip
          refine hl_aload_n hx hb dX10_init_53 rfl (lv_at hl 1 rfl) ?_
          refine g10_5 hx hb hts hown hKs hH ha53.1 ha53.2 m2_125 dX10_init_54 ?_
          refine lv_iload_n hx hb dX10_init_57 rfl (lv_at hl 0 rfl) ?_
          refine hw_new (ci := 6) (C := RX7) (T := TX7) (N := 8) hx hb hts iX7 tyX7 tyX7_ok hown m2_56 (hts _ m2_58) m1_13 hKs hb0 hH rfl rfl (fun j hj => dfX7 j hj) (Nat.le_of_ble_eq_true rfl) (Nat.le_of_ble_eq_true rfl) dX10_init_58 (fun H hH => ?_)
          obtain ⟨K59, hK59, hf⟩ := bnd hf
          replace hK59 := Option.some.inj hK59
          obtain ⟨w60, hw60, hf⟩ := bnd hf
          replace hw60 := Option.some.inj hw60
          rw [hK59, hw60] at hH
          refine lv_dup hx hb dX10_init_61 rv_cat ?_
          obtain ⟨q61, hq61, hf⟩ := bnd hf
          refine hcA hH (va_runIN (As := []) (rest := [rv E (some q48.2.1), .int 3, rv E (wR q57 1005 a53)]) ⟨hx, hb, hml, hown, hts⟩ (k_X7_init l E K59 (q48.2.1 + 1) q48.2.1 w60 hq61) ⟨va_cnB _ hts (gC m2_61) rfl rfl rfl (hKs.2.1 _ m2_59) (hts _ m1_13) hs_X7_init ⟨Nat.le_of_ble_eq_true rfl, Nat.le_of_ble_eq_true rfl⟩, rfl, hts _ m2_60⟩ ⟨HB.blind, HB.preN hKs hT hb0 hH⟩ rfl rfl hl.1 rfl (lv_room (rcV (rcI (rcV rc0)))) dX10_init_62 ⟨Nat.le_of_ble_eq_true rfl, Nat.le_of_ble_eq_true rfl⟩) (fun H locs hH => ?_)
          obtain ⟨a62, ha62, hf⟩ := bnd hf
          replace ha62 := cha_some ha62
          obtain ⟨j63, hj63, hf⟩ := bnd hf
          obtain ⟨a64, ha64, hf⟩ := bnd hf
          replace ha64 := chk_some ha64
          obtain ⟨w65, hw65, hf⟩ := bnd hf
          replace hw65 := Option.some.inj hw65
          refine hw_aast27 hx hb hKs hH ha62.1 ha62.2 ha64.1 ha64.2 hj63 dX10_init_65 (fun H locs hH => ?_)
          rw [hw65] at hH
          refine hl_aload_n hx hb dX10_init_66 rfl (lv_at hl 1 rfl) ?_
          obtain ⟨a66, ha66, hf⟩ := bnd hf
          replace ha66 := chk_some ha66
          refine g10_5 hx hb hts hown hKs hH ha66.1 ha66.2 m2_125 dX10_init_67 ?_
          refine lv_iload_n hx hb dX10_init_70 rfl (lv_at hl 0 rfl) ?_
          obtain ⟨a67, ha67, hf⟩ := bnd hf
          replace ha67 := cha_some ha67
          obtain ⟨j68, hj68, hf⟩ := bnd hf
          refine hw_aald27 hx hb hKs hH ha67.1 ha67.2 hj68 dX10_init_71 ?_
          obtain ⟨a69, ha69, hf⟩ := bnd hf
          replace ha69 := chk_some ha69
          obtain ⟨q70, hq70, hf⟩ := bnd hf
          refine hcV_v hx hb hml hown hts hKs hT hb0 hH (As := []) (rest := []) (k_X7_clear l E q61.1 H.size a69 w65 ha69.2 hq70) (gV m2_105 m2_106 m2_107 m1_13 m2_108) hd_X7_clear ⟨Nat.le_of_ble_eq_true rfl, Nat.le_of_ble_eq_true rfl, rfl, rfl⟩ ha69.1 ha69.2 rfl rfl rfl hl.1 rfl rc0 rfl dX10_init_72 ⟨Nat.le_of_ble_eq_true rfl, Nat.le_of_ble_eq_true rfl⟩ (fun H locs hH => ?_)
          refine lv_iinc (v := 4) (lv' := [(2, .int 4), (0, rv E (some o)), (1, rv E a_1)]) hx hb dX10_init_75 hl (k := 0) rfl rfl (by decide) (by simp [List.filter_cons, cat_q, cat_i, cat_j, imax, imin]) (fun ls hl => ?_)
          refine lv_goto (tgt := 47) hx hb dX10_init_78 (by decide) ?_
          refine lv_iload_n hx hb dX10_init_47 rfl (lv_at hl 0 rfl) ?_
          refine lv_bipush (v := 12) hx hb dX10_init_48 (by decide) ?_
          refine lv_icmp_ge (tgt := 81) hx hb dX10_init_50 (by decide) (fun c71 => ?_) (fun c71 => ?_)
          · exact (by revert c71; decide : False).elim
          · skip
            refine hl_aload_n hx hb dX10_init_53 rfl (lv_at hl 1 rfl) ?_
            refine g10_5 hx hb hts hown hKs hH ha66.1 ha66.2 m2_125 dX10_init_54 ?_
            refine lv_iload_n hx hb dX10_init_57 rfl (lv_at hl 0 rfl) ?_
            refine hw_new (ci := 6) (C := RX7) (T := TX7) (N := 8) hx hb hts iX7 tyX7 tyX7_ok hown m2_56 (hts _ m2_58) m1_13 hKs hb0 hH rfl rfl (fun j hj => dfX7 j hj) (Nat.le_of_ble_eq_true rfl) (Nat.le_of_ble_eq_true rfl) dX10_init_58 (fun H hH => ?_)
            obtain ⟨K72, hK72, hf⟩ := bnd hf
            replace hK72 := Option.some.inj hK72
            obtain ⟨w73, hw73, hf⟩ := bnd hf
            replace hw73 := Option.some.inj hw73
            rw [hK72, hw73] at hH
            refine lv_dup hx hb dX10_init_61 rv_cat ?_
            obtain ⟨q74, hq74, hf⟩ := bnd hf
            refine hcA hH (va_runIN (As := []) (rest := [rv E (some q61.2.1), .int 4, rv E (wR q70 1005 a66)]) ⟨hx, hb, hml, hown, hts⟩ (k_X7_init l E K72 (q61.2.1 + 1) q61.2.1 w73 hq74) ⟨va_cnB _ hts (gC m2_61) rfl rfl rfl (hKs.2.1 _ m2_59) (hts _ m1_13) hs_X7_init ⟨Nat.le_of_ble_eq_true rfl, Nat.le_of_ble_eq_true rfl⟩, rfl, hts _ m2_60⟩ ⟨HB.blind, HB.preN hKs hT hb0 hH⟩ rfl rfl hl.1 rfl (lv_room (rcV (rcI (rcV rc0)))) dX10_init_62 ⟨Nat.le_of_ble_eq_true rfl, Nat.le_of_ble_eq_true rfl⟩) (fun H locs hH => ?_)
            obtain ⟨a75, ha75, hf⟩ := bnd hf
            replace ha75 := cha_some ha75
            obtain ⟨j76, hj76, hf⟩ := bnd hf
            obtain ⟨a77, ha77, hf⟩ := bnd hf
            replace ha77 := chk_some ha77
            obtain ⟨w78, hw78, hf⟩ := bnd hf
            replace hw78 := Option.some.inj hw78
            refine hw_aast27 hx hb hKs hH ha75.1 ha75.2 ha77.1 ha77.2 hj76 dX10_init_65 (fun H locs hH => ?_)
            rw [hw78] at hH
            refine hl_aload_n hx hb dX10_init_66 rfl (lv_at hl 1 rfl) ?_
            obtain ⟨a79, ha79, hf⟩ := bnd hf
            replace ha79 := chk_some ha79
            refine g10_5 hx hb hts hown hKs hH ha79.1 ha79.2 m2_125 dX10_init_67 ?_
            refine lv_iload_n hx hb dX10_init_70 rfl (lv_at hl 0 rfl) ?_
            obtain ⟨a80, ha80, hf⟩ := bnd hf
            replace ha80 := cha_some ha80
            obtain ⟨j81, hj81, hf⟩ := bnd hf
            refine hw_aald27 hx hb hKs hH ha80.1 ha80.2 hj81 dX10_init_71 ?_
            obtain ⟨a82, ha82, hf⟩ := bnd hf
            replace ha82 := chk_some ha82
            obtain ⟨q83, hq83, hf⟩ := bnd hf
            refine hcV_v hx hb hml hown hts hKs hT hb0 hH (As := []) (rest := []) (k_X7_clear l E q74.1 H.size a82 w78 ha82.2 hq83) (gV m2_105 m2_106 m2_107 m1_13 m2_108) hd_X7_clear ⟨Nat.le_of_ble_eq_true rfl, Nat.le_of_ble_eq_true rfl, rfl, rfl⟩ ha82.1 ha82.2 rfl rfl rfl hl.1 rfl rc0 rfl dX10_init_72 ⟨Nat.le_of_ble_eq_true rfl, Nat.le_of_ble_eq_true rfl⟩ (fun H locs hH => ?_)
            refine lv_iinc (v := 5) (lv' := [(2, .int 5), (0, rv E (some o)), (1, rv E a_1)]) hx hb dX10_init_75 hl (k := 0) rfl rfl (by decide) (by simp [List.filter_cons, cat_q, cat_i, cat_j, imax, imin]) (fun ls hl => ?_)
            refine lv_goto (tgt := 47) hx hb dX10_init_78 (by decide) ?_
            refine lv_iload_n hx hb dX10_init_47 rfl (lv_at hl 0 rfl) ?_
            refine lv_bipush (v := 12) hx hb dX10_init_48 (by decide) ?_
            refine lv_icmp_ge (tgt := 81) hx hb dX10_init_50 (by decide) (fun c84 => ?_) (fun c84 => ?_)
            · exact (by revert c84; decide : False).elim
            · skip
              refine hl_aload_n hx hb dX10_init_53 rfl (lv_at hl 1 rfl) ?_
              refine g10_5 hx hb hts hown hKs hH ha79.1 ha79.2 m2_125 dX10_init_54 ?_
              refine lv_iload_n hx hb dX10_init_57 rfl (lv_at hl 0 rfl) ?_
              refine hw_new (ci := 6) (C := RX7) (T := TX7) (N := 8) hx hb hts iX7 tyX7 tyX7_ok hown m2_56 (hts _ m2_58) m1_13 hKs hb0 hH rfl rfl (fun j hj => dfX7 j hj) (Nat.le_of_ble_eq_true rfl) (Nat.le_of_ble_eq_true rfl) dX10_init_58 (fun H hH => ?_)
              obtain ⟨K85, hK85, hf⟩ := bnd hf
              replace hK85 := Option.some.inj hK85
              obtain ⟨w86, hw86, hf⟩ := bnd hf
              replace hw86 := Option.some.inj hw86
              rw [hK85, hw86] at hH
              refine lv_dup hx hb dX10_init_61 rv_cat ?_
              obtain ⟨q87, hq87, hf⟩ := bnd hf
              refine hcA hH (va_runIN (As := []) (rest := [rv E (some q74.2.1), .int 5, rv E (wR q83 1005 a79)]) ⟨hx, hb, hml, hown, hts⟩ (k_X7_init l E K85 (q74.2.1 + 1) q74.2.1 w86 hq87) ⟨va_cnB _ hts (gC m2_61) rfl rfl rfl (hKs.2.1 _ m2_59) (hts _ m1_13) hs_X7_init ⟨Nat.le_of_ble_eq_true rfl, Nat.le_of_ble_eq_true rfl⟩, rfl, hts _ m2_60⟩ ⟨HB.blind, HB.preN hKs hT hb0 hH⟩ rfl rfl hl.1 rfl (lv_room (rcV (rcI (rcV rc0)))) dX10_init_62 ⟨Nat.le_of_ble_eq_true rfl, Nat.le_of_ble_eq_true rfl⟩) (fun H locs hH => ?_)
              obtain ⟨a88, ha88, hf⟩ := bnd hf
              replace ha88 := cha_some ha88
              obtain ⟨j89, hj89, hf⟩ := bnd hf
              obtain ⟨a90, ha90, hf⟩ := bnd hf
              replace ha90 := chk_some ha90
              obtain ⟨w91, hw91, hf⟩ := bnd hf
              replace hw91 := Option.some.inj hw91
              refine hw_aast27 hx hb hKs hH ha88.1 ha88.2 ha90.1 ha90.2 hj89 dX10_init_65 (fun H locs hH => ?_)
              rw [hw91] at hH
              refine hl_aload_n hx hb dX10_init_66 rfl (lv_at hl 1 rfl) ?_
              obtain ⟨a92, ha92, hf⟩ := bnd hf
              replace ha92 := chk_some ha92
              refine g10_5 hx hb hts hown hKs hH ha92.1 ha92.2 m2_125 dX10_init_67 ?_
              refine lv_iload_n hx hb dX10_init_70 rfl (lv_at hl 0 rfl) ?_
              obtain ⟨a93, ha93, hf⟩ := bnd hf
              replace ha93 := cha_some ha93
              obtain ⟨j94, hj94, hf⟩ := bnd hf
              refine hw_aald27 hx hb hKs hH ha93.1 ha93.2 hj94 dX10_init_71 ?_
              obtain ⟨a95, ha95, hf⟩ := bnd hf
              replace ha95 := chk_some ha95
              obtain ⟨q96, hq96, hf⟩ := bnd hf
              refine hcV_v hx hb hml hown hts hKs hT hb0 hH (As := []) (rest := []) (k_X7_clear l E q87.1 H.size a95 w91 ha95.2 hq96) (gV m2_105 m2_106 m2_107 m1_13 m2_108) hd_X7_clear ⟨Nat.le_of_ble_eq_true rfl, Nat.le_of_ble_eq_true rfl, rfl, rfl⟩ ha95.1 ha95.2 rfl rfl rfl hl.1 rfl rc0 rfl dX10_init_72 ⟨Nat.le_of_ble_eq_true rfl, Nat.le_of_ble_eq_true rfl⟩ (fun H locs hH => ?_)
              refine lv_iinc (v := 6) (lv' := [(2, .int 6), (0, rv E (some o)), (1, rv E a_1)]) hx hb dX10_init_75 hl (k := 0) rfl rfl (by decide) (by simp [List.filter_cons, cat_q, cat_i, cat_j, imax, imin]) (fun ls hl => ?_)
              refine lv_goto (tgt := 47) hx hb dX10_init_78 (by decide) ?_
              refine lv_iload_n hx hb dX10_init_47 rfl (lv_at hl 0 rfl) ?_
              refine lv_bipush (v := 12) hx hb dX10_init_48 (by decide) ?_
              refine lv_icmp_ge (tgt := 81) hx hb dX10_init_50 (by decide) (fun c97 => ?_) (fun c97 => ?_)
              · exact (by revert c97; decide : False).elim
              · skip
                refine hl_aload_n hx hb dX10_init_53 rfl (lv_at hl 1 rfl) ?_
                refine g10_5 hx hb hts hown hKs hH ha92.1 ha92.2 m2_125 dX10_init_54 ?_
                refine lv_iload_n hx hb dX10_init_57 rfl (lv_at hl 0 rfl) ?_
                refine hw_new (ci := 6) (C := RX7) (T := TX7) (N := 8) hx hb hts iX7 tyX7 tyX7_ok hown m2_56 (hts _ m2_58) m1_13 hKs hb0 hH rfl rfl (fun j hj => dfX7 j hj) (Nat.le_of_ble_eq_true rfl) (Nat.le_of_ble_eq_true rfl) dX10_init_58 (fun H hH => ?_)
                obtain ⟨K98, hK98, hf⟩ := bnd hf
                replace hK98 := Option.some.inj hK98
                obtain ⟨w99, hw99, hf⟩ := bnd hf
                replace hw99 := Option.some.inj hw99
                rw [hK98, hw99] at hH
                refine lv_dup hx hb dX10_init_61 rv_cat ?_
                obtain ⟨q100, hq100, hf⟩ := bnd hf
                refine hcA hH (va_runIN (As := []) (rest := [rv E (some q87.2.1), .int 6, rv E (wR q96 1005 a92)]) ⟨hx, hb, hml, hown, hts⟩ (k_X7_init l E K98 (q87.2.1 + 1) q87.2.1 w99 hq100) ⟨va_cnB _ hts (gC m2_61) rfl rfl rfl (hKs.2.1 _ m2_59) (hts _ m1_13) hs_X7_init ⟨Nat.le_of_ble_eq_true rfl, Nat.le_of_ble_eq_true rfl⟩, rfl, hts _ m2_60⟩ ⟨HB.blind, HB.preN hKs hT hb0 hH⟩ rfl rfl hl.1 rfl (lv_room (rcV (rcI (rcV rc0)))) dX10_init_62 ⟨Nat.le_of_ble_eq_true rfl, Nat.le_of_ble_eq_true rfl⟩) (fun H locs hH => ?_)
                obtain ⟨a101, ha101, hf⟩ := bnd hf
                replace ha101 := cha_some ha101
                obtain ⟨j102, hj102, hf⟩ := bnd hf
                obtain ⟨a103, ha103, hf⟩ := bnd hf
                replace ha103 := chk_some ha103
                obtain ⟨w104, hw104, hf⟩ := bnd hf
                replace hw104 := Option.some.inj hw104
                refine hw_aast27 hx hb hKs hH ha101.1 ha101.2 ha103.1 ha103.2 hj102 dX10_init_65 (fun H locs hH => ?_)
                rw [hw104] at hH
                refine hl_aload_n hx hb dX10_init_66 rfl (lv_at hl 1 rfl) ?_
                obtain ⟨a105, ha105, hf⟩ := bnd hf
                replace ha105 := chk_some ha105
                refine g10_5 hx hb hts hown hKs hH ha105.1 ha105.2 m2_125 dX10_init_67 ?_
                refine lv_iload_n hx hb dX10_init_70 rfl (lv_at hl 0 rfl) ?_
                obtain ⟨a106, ha106, hf⟩ := bnd hf
                replace ha106 := cha_some ha106
                obtain ⟨j107, hj107, hf⟩ := bnd hf
                refine hw_aald27 hx hb hKs hH ha106.1 ha106.2 hj107 dX10_init_71 ?_
                obtain ⟨a108, ha108, hf⟩ := bnd hf
                replace ha108 := chk_some ha108
                obtain ⟨q109, hq109, hf⟩ := bnd hf
                refine hcV_v hx hb hml hown hts hKs hT hb0 hH (As := []) (rest := []) (k_X7_clear l E q100.1 H.size a108 w104 ha108.2 hq109) (gV m2_105 m2_106 m2_107 m1_13 m2_108) hd_X7_clear ⟨Nat.le_of_ble_eq_true rfl, Nat.le_of_ble_eq_true rfl, rfl, rfl⟩ ha108.1 ha108.2 rfl rfl rfl hl.1 rfl rc0 rfl dX10_init_72 ⟨Nat.le_of_ble_eq_true rfl, Nat.le_of_ble_eq_true rfl⟩ (fun H locs hH => ?_)
                refine lv_iinc (v := 7) (lv' := [(2, .int 7), (0, rv E (some o)), (1, rv E a_1)]) hx hb dX10_init_75 hl (k := 0) rfl rfl (by decide) (by simp [List.filter_cons, cat_q, cat_i, cat_j, imax, imin]) (fun ls hl => ?_)
                refine lv_goto (tgt := 47) hx hb dX10_init_78 (by decide) ?_
                refine lv_iload_n hx hb dX10_init_47 rfl (lv_at hl 0 rfl) ?_
                refine lv_bipush (v := 12) hx hb dX10_init_48 (by decide) ?_
                refine lv_icmp_ge (tgt := 81) hx hb dX10_init_50 (by decide) (fun c110 => ?_) (fun c110 => ?_)
                · exact (by revert c110; decide : False).elim
                · skip
                  refine hl_aload_n hx hb dX10_init_53 rfl (lv_at hl 1 rfl) ?_
                  refine g10_5 hx hb hts hown hKs hH ha105.1 ha105.2 m2_125 dX10_init_54 ?_
                  refine lv_iload_n hx hb dX10_init_57 rfl (lv_at hl 0 rfl) ?_
                  refine hw_new (ci := 6) (C := RX7) (T := TX7) (N := 8) hx hb hts iX7 tyX7 tyX7_ok hown m2_56 (hts _ m2_58) m1_13 hKs hb0 hH rfl rfl (fun j hj => dfX7 j hj) (Nat.le_of_ble_eq_true rfl) (Nat.le_of_ble_eq_true rfl) dX10_init_58 (fun H hH => ?_)
                  obtain ⟨K111, hK111, hf⟩ := bnd hf
                  replace hK111 := Option.some.inj hK111
                  obtain ⟨w112, hw112, hf⟩ := bnd hf
                  replace hw112 := Option.some.inj hw112
                  rw [hK111, hw112] at hH
                  refine lv_dup hx hb dX10_init_61 rv_cat ?_
                  obtain ⟨q113, hq113, hf⟩ := bnd hf
                  refine hcA hH (va_runIN (As := []) (rest := [rv E (some q100.2.1), .int 7, rv E (wR q109 1005 a105)]) ⟨hx, hb, hml, hown, hts⟩ (k_X7_init l E K111 (q100.2.1 + 1) q100.2.1 w112 hq113) ⟨va_cnB _ hts (gC m2_61) rfl rfl rfl (hKs.2.1 _ m2_59) (hts _ m1_13) hs_X7_init ⟨Nat.le_of_ble_eq_true rfl, Nat.le_of_ble_eq_true rfl⟩, rfl, hts _ m2_60⟩ ⟨HB.blind, HB.preN hKs hT hb0 hH⟩ rfl rfl hl.1 rfl (lv_room (rcV (rcI (rcV rc0)))) dX10_init_62 ⟨Nat.le_of_ble_eq_true rfl, Nat.le_of_ble_eq_true rfl⟩) (fun H locs hH => ?_)
                  obtain ⟨a114, ha114, hf⟩ := bnd hf
                  replace ha114 := cha_some ha114
                  obtain ⟨j115, hj115, hf⟩ := bnd hf
                  obtain ⟨a116, ha116, hf⟩ := bnd hf
                  replace ha116 := chk_some ha116
                  obtain ⟨w117, hw117, hf⟩ := bnd hf
                  replace hw117 := Option.some.inj hw117
                  refine hw_aast27 hx hb hKs hH ha114.1 ha114.2 ha116.1 ha116.2 hj115 dX10_init_65 (fun H locs hH => ?_)
                  rw [hw117] at hH
                  refine hl_aload_n hx hb dX10_init_66 rfl (lv_at hl 1 rfl) ?_
                  obtain ⟨a118, ha118, hf⟩ := bnd hf
                  replace ha118 := chk_some ha118
                  refine g10_5 hx hb hts hown hKs hH ha118.1 ha118.2 m2_125 dX10_init_67 ?_
                  refine lv_iload_n hx hb dX10_init_70 rfl (lv_at hl 0 rfl) ?_
                  obtain ⟨a119, ha119, hf⟩ := bnd hf
                  replace ha119 := cha_some ha119
                  obtain ⟨j120, hj120, hf⟩ := bnd hf
                  refine hw_aald27 hx hb hKs hH ha119.1 ha119.2 hj120 dX10_init_71 ?_
                  obtain ⟨a121, ha121, hf⟩ := bnd hf
                  replace ha121 := chk_some ha121
                  obtain ⟨q122, hq122, hf⟩ := bnd hf
                  refine hcV_v hx hb hml hown hts hKs hT hb0 hH (As := []) (rest := []) (k_X7_clear l E q113.1 H.size a121 w117 ha121.2 hq122) (gV m2_105 m2_106 m2_107 m1_13 m2_108) hd_X7_clear ⟨Nat.le_of_ble_eq_true rfl, Nat.le_of_ble_eq_true rfl, rfl, rfl⟩ ha121.1 ha121.2 rfl rfl rfl hl.1 rfl rc0 rfl dX10_init_72 ⟨Nat.le_of_ble_eq_true rfl, Nat.le_of_ble_eq_true rfl⟩ (fun H locs hH => ?_)
                  refine lv_iinc (v := 8) (lv' := [(2, .int 8), (0, rv E (some o)), (1, rv E a_1)]) hx hb dX10_init_75 hl (k := 0) rfl rfl (by decide) (by simp [List.filter_cons, cat_q, cat_i, cat_j, imax, imin]) (fun ls hl => ?_)
                  refine lv_goto (tgt := 47) hx hb dX10_init_78 (by decide) ?_
                  refine lv_iload_n hx hb dX10_init_47 rfl (lv_at hl 0 rfl) ?_
                  refine lv_bipush (v := 12) hx hb dX10_init_48 (by decide) ?_
                  refine lv_icmp_ge (tgt := 81) hx hb dX10_init_50 (by decide) (fun c123 => ?_) (fun c123 => ?_)
                  · exact (by revert c123; decide : False).elim
                  · skip
                    refine hl_aload_n hx hb dX10_init_53 rfl (lv_at hl 1 rfl) ?_
                    refine g10_5 hx hb hts hown hKs hH ha118.1 ha118.2 m2_125 dX10_init_54 ?_
                    refine lv_iload_n hx hb dX10_init_57 rfl (lv_at hl 0 rfl) ?_
                    refine hw_new (ci := 6) (C := RX7) (T := TX7) (N := 8) hx hb hts iX7 tyX7 tyX7_ok hown m2_56 (hts _ m2_58) m1_13 hKs hb0 hH rfl rfl (fun j hj => dfX7 j hj) (Nat.le_of_ble_eq_true rfl) (Nat.le_of_ble_eq_true rfl) dX10_init_58 (fun H hH => ?_)
                    obtain ⟨K124, hK124, hf⟩ := bnd hf
                    replace hK124 := Option.some.inj hK124
                    obtain ⟨w125, hw125, hf⟩ := bnd hf
                    replace hw125 := Option.some.inj hw125
                    rw [hK124, hw125] at hH
                    refine lv_dup hx hb dX10_init_61 rv_cat ?_
                    obtain ⟨q126, hq126, hf⟩ := bnd hf
                    refine hcA hH (va_runIN (As := []) (rest := [rv E (some q113.2.1), .int 8, rv E (wR q122 1005 a118)]) ⟨hx, hb, hml, hown, hts⟩ (k_X7_init l E K124 (q113.2.1 + 1) q113.2.1 w125 hq126) ⟨va_cnB _ hts (gC m2_61) rfl rfl rfl (hKs.2.1 _ m2_59) (hts _ m1_13) hs_X7_init ⟨Nat.le_of_ble_eq_true rfl, Nat.le_of_ble_eq_true rfl⟩, rfl, hts _ m2_60⟩ ⟨HB.blind, HB.preN hKs hT hb0 hH⟩ rfl rfl hl.1 rfl (lv_room (rcV (rcI (rcV rc0)))) dX10_init_62 ⟨Nat.le_of_ble_eq_true rfl, Nat.le_of_ble_eq_true rfl⟩) (fun H locs hH => ?_)
                    obtain ⟨a127, ha127, hf⟩ := bnd hf
                    replace ha127 := cha_some ha127
                    obtain ⟨j128, hj128, hf⟩ := bnd hf
                    obtain ⟨a129, ha129, hf⟩ := bnd hf
                    replace ha129 := chk_some ha129
                    obtain ⟨w130, hw130, hf⟩ := bnd hf
                    replace hw130 := Option.some.inj hw130
                    refine hw_aast27 hx hb hKs hH ha127.1 ha127.2 ha129.1 ha129.2 hj128 dX10_init_65 (fun H locs hH => ?_)
                    rw [hw130] at hH
                    refine hl_aload_n hx hb dX10_init_66 rfl (lv_at hl 1 rfl) ?_
                    obtain ⟨a131, ha131, hf⟩ := bnd hf
                    replace ha131 := chk_some ha131
                    refine g10_5 hx hb hts hown hKs hH ha131.1 ha131.2 m2_125 dX10_init_67 ?_
                    refine lv_iload_n hx hb dX10_init_70 rfl (lv_at hl 0 rfl) ?_
                    obtain ⟨a132, ha132, hf⟩ := bnd hf
                    replace ha132 := cha_some ha132
                    obtain ⟨j133, hj133, hf⟩ := bnd hf
                    refine hw_aald27 hx hb hKs hH ha132.1 ha132.2 hj133 dX10_init_71 ?_
                    obtain ⟨a134, ha134, hf⟩ := bnd hf
                    replace ha134 := chk_some ha134
                    obtain ⟨q135, hq135, hf⟩ := bnd hf
                    refine hcV_v hx hb hml hown hts hKs hT hb0 hH (As := []) (rest := []) (k_X7_clear l E q126.1 H.size a134 w130 ha134.2 hq135) (gV m2_105 m2_106 m2_107 m1_13 m2_108) hd_X7_clear ⟨Nat.le_of_ble_eq_true rfl, Nat.le_of_ble_eq_true rfl, rfl, rfl⟩ ha134.1 ha134.2 rfl rfl rfl hl.1 rfl rc0 rfl dX10_init_72 ⟨Nat.le_of_ble_eq_true rfl, Nat.le_of_ble_eq_true rfl⟩ (fun H locs hH => ?_)
                    refine lv_iinc (v := 9) (lv' := [(2, .int 9), (0, rv E (some o)), (1, rv E a_1)]) hx hb dX10_init_75 hl (k := 0) rfl rfl (by decide) (by simp [List.filter_cons, cat_q, cat_i, cat_j, imax, imin]) (fun ls hl => ?_)
                    refine lv_goto (tgt := 47) hx hb dX10_init_78 (by decide) ?_
                    refine lv_iload_n hx hb dX10_init_47 rfl (lv_at hl 0 rfl) ?_
                    refine lv_bipush (v := 12) hx hb dX10_init_48 (by decide) ?_
                    refine lv_icmp_ge (tgt := 81) hx hb dX10_init_50 (by decide) (fun c136 => ?_) (fun c136 => ?_)
                    · exact (by revert c136; decide : False).elim
                    · skip
                      refine hl_aload_n hx hb dX10_init_53 rfl (lv_at hl 1 rfl) ?_
                      refine g10_5 hx hb hts hown hKs hH ha131.1 ha131.2 m2_125 dX10_init_54 ?_
                      refine lv_iload_n hx hb dX10_init_57 rfl (lv_at hl 0 rfl) ?_
                      refine hw_new (ci := 6) (C := RX7) (T := TX7) (N := 8) hx hb hts iX7 tyX7 tyX7_ok hown m2_56 (hts _ m2_58) m1_13 hKs hb0 hH rfl rfl (fun j hj => dfX7 j hj) (Nat.le_of_ble_eq_true rfl) (Nat.le_of_ble_eq_true rfl) dX10_init_58 (fun H hH => ?_)
                      obtain ⟨K137, hK137, hf⟩ := bnd hf
                      replace hK137 := Option.some.inj hK137
                      obtain ⟨w138, hw138, hf⟩ := bnd hf
                      replace hw138 := Option.some.inj hw138
                      rw [hK137, hw138] at hH
                      refine lv_dup hx hb dX10_init_61 rv_cat ?_
                      obtain ⟨q139, hq139, hf⟩ := bnd hf
                      refine hcA hH (va_runIN (As := []) (rest := [rv E (some q126.2.1), .int 9, rv E (wR q135 1005 a131)]) ⟨hx, hb, hml, hown, hts⟩ (k_X7_init l E K137 (q126.2.1 + 1) q126.2.1 w138 hq139) ⟨va_cnB _ hts (gC m2_61) rfl rfl rfl (hKs.2.1 _ m2_59) (hts _ m1_13) hs_X7_init ⟨Nat.le_of_ble_eq_true rfl, Nat.le_of_ble_eq_true rfl⟩, rfl, hts _ m2_60⟩ ⟨HB.blind, HB.preN hKs hT hb0 hH⟩ rfl rfl hl.1 rfl (lv_room (rcV (rcI (rcV rc0)))) dX10_init_62 ⟨Nat.le_of_ble_eq_true rfl, Nat.le_of_ble_eq_true rfl⟩) (fun H locs hH => ?_)
                      obtain ⟨a140, ha140, hf⟩ := bnd hf
                      replace ha140 := cha_some ha140
                      obtain ⟨j141, hj141, hf⟩ := bnd hf
                      obtain ⟨a142, ha142, hf⟩ := bnd hf
                      replace ha142 := chk_some ha142
                      obtain ⟨w143, hw143, hf⟩ := bnd hf
                      replace hw143 := Option.some.inj hw143
                      refine hw_aast27 hx hb hKs hH ha140.1 ha140.2 ha142.1 ha142.2 hj141 dX10_init_65 (fun H locs hH => ?_)
                      rw [hw143] at hH
                      refine hl_aload_n hx hb dX10_init_66 rfl (lv_at hl 1 rfl) ?_
                      obtain ⟨a144, ha144, hf⟩ := bnd hf
                      replace ha144 := chk_some ha144
                      refine g10_5 hx hb hts hown hKs hH ha144.1 ha144.2 m2_125 dX10_init_67 ?_
                      refine lv_iload_n hx hb dX10_init_70 rfl (lv_at hl 0 rfl) ?_
                      obtain ⟨a145, ha145, hf⟩ := bnd hf
                      replace ha145 := cha_some ha145
                      obtain ⟨j146, hj146, hf⟩ := bnd hf
                      refine hw_aald27 hx hb hKs hH ha145.1 ha145.2 hj146 dX10_init_71 ?_
                      obtain ⟨a147, ha147, hf⟩ := bnd hf
                      replace ha147 := chk_some ha147
                      obtain ⟨q148, hq148, hf⟩ := bnd hf
                      refine hcV_v hx hb hml hown hts hKs hT hb0 hH (As := []) (rest := []) (k_X7_clear l E q139.1 H.size a147 w143 ha147.2 hq148) (gV m2_105 m2_106 m2_107 m1_13 m2_108) hd_X7_clear ⟨Nat.le_of_ble_eq_true rfl, Nat.le_of_ble_eq_true rfl, rfl, rfl⟩ ha147.1 ha147.2 rfl rfl rfl hl.1 rfl rc0 rfl dX10_init_72 ⟨Nat.le_of_ble_eq_true rfl, Nat.le_of_ble_eq_true rfl⟩ (fun H locs hH => ?_)
                      refine lv_iinc (v := 10) (lv' := [(2, .int 10), (0, rv E (some o)), (1, rv E a_1)]) hx hb dX10_init_75 hl (k := 0) rfl rfl (by decide) (by simp [List.filter_cons, cat_q, cat_i, cat_j, imax, imin]) (fun ls hl => ?_)
                      refine lv_goto (tgt := 47) hx hb dX10_init_78 (by decide) ?_
                      refine lv_iload_n hx hb dX10_init_47 rfl (lv_at hl 0 rfl) ?_
                      refine lv_bipush (v := 12) hx hb dX10_init_48 (by decide) ?_
                      refine lv_icmp_ge (tgt := 81) hx hb dX10_init_50 (by decide) (fun c149 => ?_) (fun c149 => ?_)
                      · exact (by revert c149; decide : False).elim
                      · skip
                        refine hl_aload_n hx hb dX10_init_53 rfl (lv_at hl 1 rfl) ?_
                        refine g10_5 hx hb hts hown hKs hH ha144.1 ha144.2 m2_125 dX10_init_54 ?_
                        refine lv_iload_n hx hb dX10_init_57 rfl (lv_at hl 0 rfl) ?_
                        refine hw_new (ci := 6) (C := RX7) (T := TX7) (N := 8) hx hb hts iX7 tyX7 tyX7_ok hown m2_56 (hts _ m2_58) m1_13 hKs hb0 hH rfl rfl (fun j hj => dfX7 j hj) (Nat.le_of_ble_eq_true rfl) (Nat.le_of_ble_eq_true rfl) dX10_init_58 (fun H hH => ?_)
                        obtain ⟨K150, hK150, hf⟩ := bnd hf
                        replace hK150 := Option.some.inj hK150
                        obtain ⟨w151, hw151, hf⟩ := bnd hf
                        replace hw151 := Option.some.inj hw151
                        rw [hK150, hw151] at hH
                        refine lv_dup hx hb dX10_init_61 rv_cat ?_
                        obtain ⟨q152, hq152, hf⟩ := bnd hf
                        refine hcA hH (va_runIN (As := []) (rest := [rv E (some q139.2.1), .int 10, rv E (wR q148 1005 a144)]) ⟨hx, hb, hml, hown, hts⟩ (k_X7_init l E K150 (q139.2.1 + 1) q139.2.1 w151 hq152) ⟨va_cnB _ hts (gC m2_61) rfl rfl rfl (hKs.2.1 _ m2_59) (hts _ m1_13) hs_X7_init ⟨Nat.le_of_ble_eq_true rfl, Nat.le_of_ble_eq_true rfl⟩, rfl, hts _ m2_60⟩ ⟨HB.blind, HB.preN hKs hT hb0 hH⟩ rfl rfl hl.1 rfl (lv_room (rcV (rcI (rcV rc0)))) dX10_init_62 ⟨Nat.le_of_ble_eq_true rfl, Nat.le_of_ble_eq_true rfl⟩) (fun H locs hH => ?_)
                        obtain ⟨a153, ha153, hf⟩ := bnd hf
                        replace ha153 := cha_some ha153
                        obtain ⟨j154, hj154, hf⟩ := bnd hf
                        obtain ⟨a155, ha155, hf⟩ := bnd hf
                        replace ha155 := chk_some ha155
                        obtain ⟨w156, hw156, hf⟩ := bnd hf
                        replace hw156 := Option.some.inj hw156
                        refine hw_aast27 hx hb hKs hH ha153.1 ha153.2 ha155.1 ha155.2 hj154 dX10_init_65 (fun H locs hH => ?_)
                        rw [hw156] at hH
                        refine hl_aload_n hx hb dX10_init_66 rfl (lv_at hl 1 rfl) ?_
                        obtain ⟨a157, ha157, hf⟩ := bnd hf
                        replace ha157 := chk_some ha157
                        refine g10_5 hx hb hts hown hKs hH ha157.1 ha157.2 m2_125 dX10_init_67 ?_
                        refine lv_iload_n hx hb dX10_init_70 rfl (lv_at hl 0 rfl) ?_
                        obtain ⟨a158, ha158, hf⟩ := bnd hf
                        replace ha158 := cha_some ha158
                        obtain ⟨j159, hj159, hf⟩ := bnd hf
                        refine hw_aald27 hx hb hKs hH ha158.1 ha158.2 hj159 dX10_init_71 ?_
                        obtain ⟨a160, ha160, hf⟩ := bnd hf
                        replace ha160 := chk_some ha160
                        obtain ⟨q161, hq161, hf⟩ := bnd hf
                        refine hcV_v hx hb hml hown hts hKs hT hb0 hH (As := []) (rest := []) (k_X7_clear l E q152.1 H.size a160 w156 ha160.2 hq161) (gV m2_105 m2_106 m2_107 m1_13 m2_108) hd_X7_clear ⟨Nat.le_of_ble_eq_true rfl, Nat.le_of_ble_eq_true rfl, rfl, rfl⟩ ha160.1 ha160.2 rfl rfl rfl hl.1 rfl rc0 rfl dX10_init_72 ⟨Nat.le_of_ble_eq_true rfl, Nat.le_of_ble_eq_true rfl⟩ (fun H locs hH => ?_)
                        refine lv_iinc (v := 11) (lv' := [(2, .int 11), (0, rv E (some o)), (1, rv E a_1)]) hx hb dX10_init_75 hl (k := 0) rfl rfl (by decide) (by simp [List.filter_cons, cat_q, cat_i, cat_j, imax, imin]) (fun ls hl => ?_)
                        refine lv_goto (tgt := 47) hx hb dX10_init_78 (by decide) ?_
                        refine lv_iload_n hx hb dX10_init_47 rfl (lv_at hl 0 rfl) ?_
                        refine lv_bipush (v := 12) hx hb dX10_init_48 (by decide) ?_
                        refine lv_icmp_ge (tgt := 81) hx hb dX10_init_50 (by decide) (fun c162 => ?_) (fun c162 => ?_)
                        · exact (by revert c162; decide : False).elim
                        · skip
                          refine hl_aload_n hx hb dX10_init_53 rfl (lv_at hl 1 rfl) ?_
                          refine g10_5 hx hb hts hown hKs hH ha157.1 ha157.2 m2_125 dX10_init_54 ?_
                          refine lv_iload_n hx hb dX10_init_57 rfl (lv_at hl 0 rfl) ?_
                          refine hw_new (ci := 6) (C := RX7) (T := TX7) (N := 8) hx hb hts iX7 tyX7 tyX7_ok hown m2_56 (hts _ m2_58) m1_13 hKs hb0 hH rfl rfl (fun j hj => dfX7 j hj) (Nat.le_of_ble_eq_true rfl) (Nat.le_of_ble_eq_true rfl) dX10_init_58 (fun H hH => ?_)
                          obtain ⟨K163, hK163, hf⟩ := bnd hf
                          replace hK163 := Option.some.inj hK163
                          obtain ⟨w164, hw164, hf⟩ := bnd hf
                          replace hw164 := Option.some.inj hw164
                          rw [hK163, hw164] at hH
                          refine lv_dup hx hb dX10_init_61 rv_cat ?_
                          obtain ⟨q165, hq165, hf⟩ := bnd hf
                          refine hcA hH (va_runIN (As := []) (rest := [rv E (some q152.2.1), .int 11, rv E (wR q161 1005 a157)]) ⟨hx, hb, hml, hown, hts⟩ (k_X7_init l E K163 (q152.2.1 + 1) q152.2.1 w164 hq165) ⟨va_cnB _ hts (gC m2_61) rfl rfl rfl (hKs.2.1 _ m2_59) (hts _ m1_13) hs_X7_init ⟨Nat.le_of_ble_eq_true rfl, Nat.le_of_ble_eq_true rfl⟩, rfl, hts _ m2_60⟩ ⟨HB.blind, HB.preN hKs hT hb0 hH⟩ rfl rfl hl.1 rfl (lv_room (rcV (rcI (rcV rc0)))) dX10_init_62 ⟨Nat.le_of_ble_eq_true rfl, Nat.le_of_ble_eq_true rfl⟩) (fun H locs hH => ?_)
                          obtain ⟨a166, ha166, hf⟩ := bnd hf
                          replace ha166 := cha_some ha166
                          obtain ⟨j167, hj167, hf⟩ := bnd hf
                          obtain ⟨a168, ha168, hf⟩ := bnd hf
                          replace ha168 := chk_some ha168
                          obtain ⟨w169, hw169, hf⟩ := bnd hf
                          replace hw169 := Option.some.inj hw169
                          refine hw_aast27 hx hb hKs hH ha166.1 ha166.2 ha168.1 ha168.2 hj167 dX10_init_65 (fun H locs hH => ?_)
                          rw [hw169] at hH
                          refine hl_aload_n hx hb dX10_init_66 rfl (lv_at hl 1 rfl) ?_
                          obtain ⟨a170, ha170, hf⟩ := bnd hf
                          replace ha170 := chk_some ha170
                          refine g10_5 hx hb hts hown hKs hH ha170.1 ha170.2 m2_125 dX10_init_67 ?_
                          refine lv_iload_n hx hb dX10_init_70 rfl (lv_at hl 0 rfl) ?_
                          obtain ⟨a171, ha171, hf⟩ := bnd hf
                          replace ha171 := cha_some ha171
                          obtain ⟨j172, hj172, hf⟩ := bnd hf
                          refine hw_aald27 hx hb hKs hH ha171.1 ha171.2 hj172 dX10_init_71 ?_
                          obtain ⟨a173, ha173, hf⟩ := bnd hf
                          replace ha173 := chk_some ha173
                          obtain ⟨q174, hq174, hf⟩ := bnd hf
                          refine hcV_v hx hb hml hown hts hKs hT hb0 hH (As := []) (rest := []) (k_X7_clear l E q165.1 H.size a173 w169 ha173.2 hq174) (gV m2_105 m2_106 m2_107 m1_13 m2_108) hd_X7_clear ⟨Nat.le_of_ble_eq_true rfl, Nat.le_of_ble_eq_true rfl, rfl, rfl⟩ ha173.1 ha173.2 rfl rfl rfl hl.1 rfl rc0 rfl dX10_init_72 ⟨Nat.le_of_ble_eq_true rfl, Nat.le_of_ble_eq_true rfl⟩ (fun H locs hH => ?_)
                          refine lv_iinc (v := 12) (lv' := [(2, .int 12), (0, rv E (some o)), (1, rv E a_1)]) hx hb dX10_init_75 hl (k := 0) rfl rfl (by decide) (by simp [List.filter_cons, cat_q, cat_i, cat_j, imax, imin]) (fun ls hl => ?_)
                          refine lv_goto (tgt := 47) hx hb dX10_init_78 (by decide) ?_
                          refine lv_iload_n hx hb dX10_init_47 rfl (lv_at hl 0 rfl) ?_
                          refine lv_bipush (v := 12) hx hb dX10_init_48 (by decide) ?_
                          refine lv_icmp_ge (tgt := 81) hx hb dX10_init_50 (by decide) (fun c175 => ?_) (fun c175 => ?_)
                          · skip
                            exact hw_aret hx hb (Nat.le_of_ble_eq_true rfl) (Nat.le_of_ble_eq_true rfl) hret hf hH hlocks dX10_init_81
                          · exact (by revert c175; decide : False).elim

theorem dX10_begin_0 : decode cX10_begin 0 = .ok (.aload_n 0, 1) := by decide +kernel
theorem dX10_begin_1 : decode cX10_begin 1 = .ok (.aload_n 1, 1) := by decide +kernel
theorem dX10_begin_2 : decode cX10_begin 2 = .ok (.putfield 31, 3) := by decide +kernel
theorem dX10_begin_5 : decode cX10_begin 5 = .ok (.aload_n 0, 1) := by decide +kernel
theorem dX10_begin_6 : decode cX10_begin 6 = .ok (.iconst 0, 1) := by decide +kernel
theorem dX10_begin_7 : decode cX10_begin 7 = .ok (.putfield 39, 3) := by decide +kernel
theorem dX10_begin_10 : decode cX10_begin 10 = .ok (.aload_n 0, 1) := by decide +kernel
theorem dX10_begin_11 : decode cX10_begin 11 = .ok (.getfield 12, 3) := by decide +kernel
theorem dX10_begin_14 : decode cX10_begin 14 = .ok (.aload_n 1, 1) := by decide +kernel
theorem dX10_begin_15 : decode cX10_begin 15 = .ok (.getfield 43, 3) := by decide +kernel
theorem dX10_begin_18 : decode cX10_begin 18 = .ok (.invokevirtual 46, 3) := by decide +kernel
theorem dX10_begin_21 : decode cX10_begin 21 = .ok (.aload_n 1, 1) := by decide +kernel
theorem dX10_begin_22 : decode cX10_begin 22 = .ok (.getfield 50, 3) := by decide +kernel
theorem dX10_begin_25 : decode cX10_begin 25 = .ok (.iconst 0, 1) := by decide +kernel
theorem dX10_begin_26 : decode cX10_begin 26 = .ok (.aload_n 0, 1) := by decide +kernel
theorem dX10_begin_27 : decode cX10_begin 27 = .ok (.getfield 18, 3) := by decide +kernel
theorem dX10_begin_30 : decode cX10_begin 30 = .ok (.iconst 0, 1) := by decide +kernel
theorem dX10_begin_31 : decode cX10_begin 31 = .ok (.aload_n 0, 1) := by decide +kernel
theorem dX10_begin_32 : decode cX10_begin 32 = .ok (.getfield 18, 3) := by decide +kernel
theorem dX10_begin_35 : decode cX10_begin 35 = .ok (.arraylength, 1) := by decide +kernel
theorem dX10_begin_36 : decode cX10_begin 36 = .ok (.invokestatic 51, 3) := by decide +kernel
theorem dX10_begin_39 : decode cX10_begin 39 = .ok (.iconst 0, 1) := by decide +kernel
theorem dX10_begin_40 : decode cX10_begin 40 = .ok (.istore_n 2, 1) := by decide +kernel
theorem dX10_begin_41 : decode cX10_begin 41 = .ok (.iload_n 2, 1) := by decide +kernel
theorem dX10_begin_42 : decode cX10_begin 42 = .ok (.bipush 12, 2) := by decide +kernel
theorem dX10_begin_44 : decode cX10_begin 44 = .ok (.if_icmp .ge 33, 3) := by decide +kernel
theorem dX10_begin_47 : decode cX10_begin 47 = .ok (.aload_n 0, 1) := by decide +kernel
theorem dX10_begin_48 : decode cX10_begin 48 = .ok (.getfield 22, 3) := by decide +kernel
theorem dX10_begin_51 : decode cX10_begin 51 = .ok (.iload_n 2, 1) := by decide +kernel
theorem dX10_begin_52 : decode cX10_begin 52 = .ok (.aload_n 1, 1) := by decide +kernel
theorem dX10_begin_53 : decode cX10_begin 53 = .ok (.getfield 57, 3) := by decide +kernel
theorem dX10_begin_56 : decode cX10_begin 56 = .ok (.iload_n 2, 1) := by decide +kernel
theorem dX10_begin_57 : decode cX10_begin 57 = .ok (.aaload, 1) := by decide +kernel
theorem dX10_begin_58 : decode cX10_begin 58 = .ok (.getfield 61, 3) := by decide +kernel
theorem dX10_begin_61 : decode cX10_begin 61 = .ok (.iastore, 1) := by decide +kernel
theorem dX10_begin_62 : decode cX10_begin 62 = .ok (.aload_n 0, 1) := by decide +kernel
theorem dX10_begin_63 : decode cX10_begin 63 = .ok (.getfield 27, 3) := by decide +kernel
theorem dX10_begin_66 : decode cX10_begin 66 = .ok (.iload_n 2, 1) := by decide +kernel
theorem dX10_begin_67 : decode cX10_begin 67 = .ok (.aaload, 1) := by decide +kernel
theorem dX10_begin_68 : decode cX10_begin 68 = .ok (.invokevirtual 36, 3) := by decide +kernel
theorem dX10_begin_71 : decode cX10_begin 71 = .ok (.iinc 2 1, 3) := by decide +kernel
theorem dX10_begin_74 : decode cX10_begin 74 = .ok (.goto (-33), 3) := by decide +kernel
theorem dX10_begin_77 : decode cX10_begin 77 = .ok (.return_, 1) := by decide +kernel
theorem hd_X10_begin : yX10_begin.cls = RX10 ∧ yX10_begin.cls ≠ "java/lang/invoke/MethodHandle" ∧ yX10_begin.cls ≠ "java/lang/invoke/VarHandle" ∧ (parseMethodDescriptor yX10_begin.desc).map (fun d => d.parameters.length) = some 1 := by decide +kernel
theorem hs_X10_begin : yX10_begin.cls ≠ "java/lang/invoke/MethodHandle" ∧ yX10_begin.cls ≠ "java/lang/invoke/VarHandle" ∧ (parseMethodDescriptor yX10_begin.desc).map (fun d => d.parameters.length) = some 1 := by decide +kernel
set_option maxHeartbeats 4000000 in
set_option maxRecDepth 100000 in
theorem l_X10_begin_L41 (C : CX p l e s m args meth c cX10_begin 3 RX10 (Option.none : Option Jvm.ClassFile.FieldType) E) {o : Nat} (ho : K o = some (9, 0)) {w' : Wd} (k : Option Nat → Int32 → Wd → Option Wd) (hk : ∀ (v1_41 : Option Nat) (v2_41 : Int32) (w : Wd) (H : Heap) (locs : List Loc) (ls : Array Slot), HQ E K z w s H locs → lv_has ls 3 [(1, rv E v1_41), (2, .int v2_41), (0, rv E (some o))] → k v1_41 v2_41 w = some w' → W p l e ({ frames := 2, cells := 0, slots := 0, locals := 81 } : Room) s m args below meth c H locs 0 0 (MQ below (QV E K z w') args s 0 0 (hA E)) (F0 m 77 ls [])) : ∀ (n : Nat) (v1_41 : Option Nat) (v2_41 : Int32) (w : Wd) (H : Heap) (locs : List Loc) (ls : Array Slot), HQ E K z w s H locs → lv_has ls 3 [(1, rv E v1_41), (2, .int v2_41), (0, rv E (some o))] → f_X10_begin_L41 K o k n v1_41 v2_41 w = some w' → W p l e ({ frames := 2, cells := 0, slots := 0, locals := 81 } : Room) s m args below meth c H locs 0 0 (MQ below (QV E K z w') args s 0 0 (hA E)) (F0 m 41 ls []) := by
  obtain ⟨hx, hb, hml, hown, hts, hKs, hT, hb0, hlocks, hret⟩ := id C
  intro n
  induction n with
  | zero =>
    intro v1_41 v2_41 w H locs ls hH hl hf
    cases hf
  | succ n ih =>
    intro v1_41 v2_41 w H locs ls hH hl hf
    rw [f_X10_begin_L41] at hf
    refine lv_iload_n hx hb dX10_begin_41 rfl (lv_at hl 1 rfl) ?_
    refine lv_bipush (v := 12) hx hb dX10_begin_42 (by decide) ?_
    refine lv_icmp_ge (tgt := 77) hx hb dX10_begin_44 (by decide) (fun c11 => ?_) (fun c11 => ?_)
    · replace hf := (if_pos c11).symm.trans hf
      exact hk v1_41 v2_41 _ _ _ _ hH (lv_sub hl [0, 1, 2] rfl) hf
    · replace hf := (if_neg c11).symm.trans hf
      refine hl_aload_n hx hb dX10_begin_47 rfl (lv_at hl 2 rfl) ?_
      refine g10_4 hx hb hts hown hKs hH rfl ho m2_123 dX10_begin_48 ?_
      refine lv_iload_n hx hb dX10_begin_51 rfl (lv_at hl 1 rfl) ?_
      refine hl_aload_n hx hb dX10_begin_52 rfl (lv_at hl 0 rfl) ?_
      obtain ⟨a12, ha12, hf⟩ := bnd hf
      replace ha12 := chk_some ha12
      refine gn9_9 hx hb hts hown hKs hH ha12.1 ha12.2 m1_173 dX10_begin_53 ?_
      refine lv_iload_n hx hb dX10_begin_56 rfl (lv_at hl 1 rfl) ?_
      obtain ⟨a13, ha13, hf⟩ := bnd hf
      replace ha13 := cha_some ha13
      obtain ⟨j14, hj14, hf⟩ := bnd hf
      refine hw_aald25 hx hb hKs hH ha13.1 ha13.2 hj14 dX10_begin_57 ?_
      obtain ⟨a15, ha15, hf⟩ := bnd hf
      replace ha15 := chk_some ha15
      refine gn3_6 hx hb hts hown hKs hH ha15.1 ha15.2 m1_118 dX10_begin_58 ?_
      obtain ⟨a16, ha16, hf⟩ := bnd hf
      replace ha16 := cha_some ha16
      obtain ⟨j17, hj17, hf⟩ := bnd hf
      obtain ⟨w18, hw18, hf⟩ := bnd hf
      replace hw18 := Option.some.inj hw18
      refine hw_iast (x := (wI w 306 a15)) hx hb hKs hH ha16.1 ha16.2 hj17 dX10_begin_61 (fun H locs hH => ?_)
      rw [hw18] at hH
      refine hl_aload_n hx hb dX10_begin_62 rfl (lv_at hl 2 rfl) ?_
      refine g10_5 hx hb hts hown hKs hH rfl ho m2_125 dX10_begin_63 ?_
      refine lv_iload_n hx hb dX10_begin_66 rfl (lv_at hl 1 rfl) ?_
      obtain ⟨a19, ha19, hf⟩ := bnd hf
      replace ha19 := cha_some ha19
      obtain ⟨j20, hj20, hf⟩ := bnd hf
      refine hw_aald27 hx hb hKs hH ha19.1 ha19.2 hj20 dX10_begin_67 ?_
      obtain ⟨a21, ha21, hf⟩ := bnd hf
      replace ha21 := chk_some ha21
      obtain ⟨q22, hq22, hf⟩ := bnd hf
      refine hcV_v hx hb hml hown hts hKs hT hb0 hH (As := []) (rest := []) (k_X7_clear l E K H.size a21 w18 ha21.2 hq22) (gV m2_105 m2_106 m2_107 m1_13 m2_108) hd_X7_clear ⟨Nat.le_of_ble_eq_true rfl, Nat.le_of_ble_eq_true rfl, rfl, rfl⟩ ha21.1 ha21.2 rfl rfl rfl hl.1 rfl rc0 rfl dX10_begin_68 ⟨Nat.zero_le _, Nat.zero_le _⟩ (fun H locs hH => ?_)
      refine lv_iinc (v := (v2_41 + 1)) (lv' := [(2, .int ((v2_41 + 1))), (1, rv E v1_41), (0, rv E (some o))]) hx hb dX10_begin_71 hl (k := 1) rfl rfl (by decide) (by simp [List.filter_cons, cat_q, cat_i, cat_j, imax, imin]) (fun ls hl => ?_)
      refine lv_goto (tgt := 41) hx hb dX10_begin_74 (by decide) ?_
      exact ih v1_41 (v2_41 + 1) _ _ _ _ hH (lv_sub hl [1, 0, 2] rfl) hf
set_option maxHeartbeats 4000000 in
set_option maxRecDepth 100000 in
theorem k_X10_begin (l : Launch) (E : Ev) (K : Kd) (z : Nat) (o : Nat) (a_1 : Option Nat) (w : Wd) (ho : K o = some (9, 0)) {w' : Wd} (hf : f_X10_begin K o a_1 w = some w') : Met l yX10_begin (Cond.code yX10_begin cX10_begin 3 (Option.none : Option Jvm.ClassFile.FieldType) :: bt) ({ frames := 2, cells := 0, slots := 0, locals := 81 } : Room) (va_Pc [rv E (some o), rv E a_1] (HB E K w z)) (QV E K z w') 0 0 (hA E) := by
  refine Met.ofW (cc := cX10_begin) (maxL := 3) (ret := (Option.none : Option Jvm.ClassFile.FieldType)) (by decide) rfl ?_
  intro p e s m args below meth c s₁ B hml hv
  obtain ⟨rfl, hz, hP, hKs, hT, hb0⟩ := hv
  have C : CX p l e s m _ meth c cX10_begin 3 RX10 (Option.none : Option Jvm.ClassFile.FieldType) E := ⟨B.exec, B.bytes, hml, findClass_of_methodNamed B.named, fun w h => atoms_spec (ws := Cond.code yX10_begin cX10_begin 3 (Option.none : Option Jvm.ClassFile.FieldType) :: bt) B.pre w (List.mem_cons_of_mem _ h), hKs, hT, by rw [hz]; exact hb0, B.notSynchronized, B.returns⟩
  have hH : HQ E K z w s s.heap [] := ⟨hP, va_S.rf, hz⟩
  obtain ⟨hx, hb, hml, hown, hts, hKs, hT, hb0, hlocks, hret⟩ := id C
  have hl := lv_entry [rv E (some o), rv E a_1] (n := 3) (by simp [lg_len_nil, lg_len_i, lg_len_j, lg_len_q, lg_len_f, lg_len_d, lg_len_r])
  rw [lg_entry_eq]
  generalize (lg_sl [rv E (some o), rv E a_1] ++ List.replicate (3 - (lg_sl [rv E (some o), rv E a_1]).length) Slot.unset).toArray = ls at hl ⊢
  replace hl : lv_has ls 3 [(0, rv E (some o)), (1, rv E a_1)] := by simpa only [lv_args, cat_q, cat_i, cat_j, reduceIte, Nat.reduceEqDiff, Nat.reduceAdd, Nat.zero_add] using hl
  generalize s.heap = H at hH ⊢
  unfold f_X10_begin at hf
  refine hl_aload_n hx hb dX10_begin_0 rfl (lv_at hl 0 rfl) ?_
  refine hl_aload_n hx hb dX10_begin_1 rfl (lv_at hl 1 rfl) ?_
  obtain ⟨w1, hw1, hf⟩ := bnd hf
  replace hw1 := Option.some.inj hw1
  refine p10_0 (v := a_1) hx hb hts hown hKs hH rfl ho m2_113 dX10_begin_2 (fun H locs hH => ?_)
  rw [hw1] at hH
  refine hl_aload_n hx hb dX10_begin_5 rfl (lv_at hl 0 rfl) ?_
  refine lv_iconst (v := 0) hx hb dX10_begin_6 (by decide) ?_
  obtain ⟨w2, hw2, hf⟩ := bnd hf
  replace hw2 := Option.some.inj hw2
  refine p10_1 (v := 0) hx hb hts hown hKs hH rfl ho m2_116 dX10_begin_7 (fun H locs hH => ?_)
  rw [hw2] at hH
  refine hl_aload_n hx hb dX10_begin_10 rfl (lv_at hl 0 rfl) ?_
  refine g10_2 hx hb hts hown hKs hH rfl ho m2_119 dX10_begin_11 ?_
  refine hl_aload_n hx hb dX10_begin_14 rfl (lv_at hl 1 rfl) ?_
  obtain ⟨a3, ha3, hf⟩ := bnd hf
  replace ha3 := chk_some ha3
  refine gn9_10 hx hb hts hown hKs hH ha3.1 ha3.2 m1_177 dX10_begin_15 ?_
  obtain ⟨a4, ha4, hf⟩ := bnd hf
  replace ha4 := chk_some ha4
  obtain ⟨q5, hq5, hf⟩ := bnd hf
  refine hcV_v hx hb hml hown hts hKs hT hb0 hH (As := [rv E (wR w2 910 a3)]) (rest := []) (k_X2_copyFrom l E K H.size a4 (wR w2 910 a3) w2 ha4.2 hq5) (gV m3_127 m3_128 m3_129 m1_3 m3_130) hd_X2_copyFrom ⟨Nat.le_of_ble_eq_true rfl, Nat.le_of_ble_eq_true rfl, rfl, rfl⟩ ha4.1 ha4.2 rfl rfl rfl hl.1 rfl rc0 rfl dX10_begin_18 ⟨Nat.zero_le _, Nat.zero_le _⟩ (fun H locs hH => ?_)
  refine hl_aload_n hx hb dX10_begin_21 rfl (lv_at hl 1 rfl) ?_
  refine gn9_6 hx hb hts hown hKs hH ha3.1 ha3.2 m1_163 dX10_begin_22 ?_
  refine lv_iconst (v := 0) hx hb dX10_begin_25 (by decide) ?_
  refine hl_aload_n hx hb dX10_begin_26 rfl (lv_at hl 0 rfl) ?_
  refine g10_3 hx hb hts hown hKs hH rfl ho m2_121 dX10_begin_27 ?_
  refine lv_iconst (v := 0) hx hb dX10_begin_30 (by decide) ?_
  refine hl_aload_n hx hb dX10_begin_31 rfl (lv_at hl 0 rfl) ?_
  refine g10_3 hx hb hts hown hKs hH rfl ho m2_121 dX10_begin_32 ?_
  obtain ⟨a6, ha6, hf⟩ := bnd hf
  replace ha6 := cha_some ha6
  refine hw_alen20 hx hb hKs hH ha6.1 ha6.2 dX10_begin_35 ?_
  obtain ⟨a7, ha7, hf⟩ := bnd hf
  replace ha7 := cha_some ha7
  obtain ⟨_, hg8, hf⟩ := bnd hf
  replace hg8 := grd_some hg8
  obtain ⟨w9, hw9, hf⟩ := bnd hf
  replace hw9 := Option.some.inj hw9
  refine hw_copy hx hb (hml.trans hl.1.symm) hown (hts _ m3_134) (va_Nw.use rfl hKs.2.2.2.2.1) (hts _ m3_132) (hts _ m1_21) hKs hH ha7.1 ha7.2 ha6.1 ha6.2 hg8.1 hg8.2.1 hg8.2.2.1 hg8.2.2.2.1 hg8.2.2.2.2 (Nat.le_of_ble_eq_true rfl) (by decide) dX10_begin_36 (fun H locs hH => ?_)
  rw [hw9] at hH
  refine lv_iconst (v := 0) hx hb dX10_begin_39 (by decide) ?_
  refine lv_istore_n (i := 2) (lv' := [(2, .int 0), (0, rv E (some o)), (1, rv E a_1)]) hx hb dX10_begin_40 rfl hl (by decide) (by simp [List.filter_cons, cat_q, cat_i, cat_j, imax, imin]) (fun ls hl => ?_)
  refine l_X10_begin_L41  C ho _ (fun v1_41 v2_41 w10 H locs ls hH hl hf => ?_) fu a_1 0 w9 _ _ _ hH (lv_sub hl [2, 0, 1] rfl) hf
  exact hw_vret hx hb hret hf hH hlocks dX10_begin_77

theorem dX10_countBars_0 : decode cX10_countBars 0 = .ok (.iconst 0, 1) := by decide +kernel
theorem dX10_countBars_1 : decode cX10_countBars 1 = .ok (.istore_n 1, 1) := by decide +kernel
theorem dX10_countBars_2 : decode cX10_countBars 2 = .ok (.iconst 0, 1) := by decide +kernel
theorem dX10_countBars_3 : decode cX10_countBars 3 = .ok (.istore_n 2, 1) := by decide +kernel
theorem dX10_countBars_4 : decode cX10_countBars 4 = .ok (.iload_n 2, 1) := by decide +kernel
theorem dX10_countBars_5 : decode cX10_countBars 5 = .ok (.aload_n 0, 1) := by decide +kernel
theorem dX10_countBars_6 : decode cX10_countBars 6 = .ok (.getfield 31, 3) := by decide +kernel
theorem dX10_countBars_9 : decode cX10_countBars 9 = .ok (.iconst 3, 1) := by decide +kernel
theorem dX10_countBars_10 : decode cX10_countBars 10 = .ok (.invokevirtual 92, 3) := by decide +kernel
theorem dX10_countBars_13 : decode cX10_countBars 13 = .ok (.if_icmp .ge 21, 3) := by decide +kernel
theorem dX10_countBars_16 : decode cX10_countBars 16 = .ok (.iload_n 1, 1) := by decide +kernel
theorem dX10_countBars_17 : decode cX10_countBars 17 = .ok (.aload_n 0, 1) := by decide +kernel
theorem dX10_countBars_18 : decode cX10_countBars 18 = .ok (.getfield 22, 3) := by decide +kernel
theorem dX10_countBars_21 : decode cX10_countBars 21 = .ok (.iload_n 2, 1) := by decide +kernel
theorem dX10_countBars_22 : decode cX10_countBars 22 = .ok (.iaload, 1) := by decide +kernel
theorem dX10_countBars_23 : decode cX10_countBars 23 = .ok (.invokestatic 98, 3) := by decide +kernel
theorem dX10_countBars_26 : decode cX10_countBars 26 = .ok (.iadd, 1) := by decide +kernel
theorem dX10_countBars_27 : decode cX10_countBars 27 = .ok (.istore_n 1, 1) := by decide +kernel
theorem dX10_countBars_28 : decode cX10_countBars 28 = .ok (.iinc 2 1, 3) := by decide +kernel
theorem dX10_countBars_31 : decode cX10_countBars 31 = .ok (.goto (-27), 3) := by decide +kernel
theorem dX10_countBars_34 : decode cX10_countBars 34 = .ok (.iload_n 1, 1) := by decide +kernel
theorem dX10_countBars_35 : decode cX10_countBars 35 = .ok (.ireturn, 1) := by decide +kernel
theorem hd_X10_countBars : yX10_countBars.cls = RX10 ∧ yX10_countBars.cls ≠ "java/lang/invoke/MethodHandle" ∧ yX10_countBars.cls ≠ "java/lang/invoke/VarHandle" ∧ (parseMethodDescriptor yX10_countBars.desc).map (fun d => d.parameters.length) = some 0 := by decide +kernel
theorem hs_X10_countBars : yX10_countBars.cls ≠ "java/lang/invoke/MethodHandle" ∧ yX10_countBars.cls ≠ "java/lang/invoke/VarHandle" ∧ (parseMethodDescriptor yX10_countBars.desc).map (fun d => d.parameters.length) = some 0 := by decide +kernel
set_option maxHeartbeats 4000000 in
set_option maxRecDepth 100000 in
theorem l_X10_countBars_L4 (C : CX p l e s m args meth c cX10_countBars 3 RX10 (Option.some Jvm.ClassFile.FieldType.int) E) {o : Nat} (ho : K o = some (9, 0)) {r : Int32} {w' : Wd} (k : Int32 → Int32 → Wd → Option (Int32 × Wd)) (hk : ∀ (v1_4 : Int32) (v2_4 : Int32) (w : Wd) (H : Heap) (locs : List Loc) (ls : Array Slot), HQ E K z w s H locs → lv_has ls 3 [(1, .int v1_4), (2, .int v2_4), (0, rv E (some o))] → k v1_4 v2_4 w = some (r, w') → W p l e ({ frames := 1, cells := 0, slots := 0, locals := 21 } : Room) s m args below meth c H locs 0 0 (MQ below (QI E K z w' r) args s 0 0 (hA E)) (F0 m 34 ls [])) : ∀ (n : Nat) (v1_4 : Int32) (v2_4 : Int32) (w : Wd) (H : Heap) (locs : List Loc) (ls : Array Slot), HQ E K z w s H locs → lv_has ls 3 [(1, .int v1_4), (2, .int v2_4), (0, rv E (some o))] → f_X10_countBars_L4 K o k n v1_4 v2_4 w = some (r, w') → W p l e ({ frames := 1, cells := 0, slots := 0, locals := 21 } : Room) s m args below meth c H locs 0 0 (MQ below (QI E K z w' r) args s 0 0 (hA E)) (F0 m 4 ls []) := by
  obtain ⟨hx, hb, hml, hown, hts, hKs, hT, hb0, hlocks, hret⟩ := id C
  intro n
  induction n with
  | zero =>
    intro v1_4 v2_4 w H locs ls hH hl hf
    cases hf
  | succ n ih =>
    intro v1_4 v2_4 w H locs ls hH hl hf
    rw [f_X10_countBars_L4] at hf
    refine lv_iload_n hx hb dX10_countBars_4 rfl (lv_at hl 1 rfl) ?_
    refine hl_aload_n hx hb dX10_countBars_5 rfl (lv_at hl 2 rfl) ?_
    refine g10_0 hx hb hts hown hKs hH rfl ho m2_113 dX10_countBars_6 ?_
    refine lv_iconst (v := 3) hx hb dX10_countBars_9 (by decide) ?_
    obtain ⟨a2, ha2, hf⟩ := bnd hf
    replace ha2 := chk_some ha2
    obtain ⟨q3, hq3, hf⟩ := bnd hf
    refine hcV_i hx hb hml hown hts hKs hT hb0 hH (As := [.int 3]) (rest := [.int v2_4]) (k_X9_size l E K H.size a2 3 w ha2.2 hq3) (gV m3_29 m3_22 m3_23 m1_2 m3_24) hd_X9_size ⟨Nat.le_of_ble_eq_true rfl, Nat.le_of_ble_eq_true rfl, rfl, rfl⟩ ha2.1 ha2.2 rfl rfl rfl hl.1 rfl (rcI rc0) rfl dX10_countBars_10 ⟨Nat.zero_le _, Nat.zero_le _⟩ (fun H locs hH => ?_)
    refine lv_icmp_ge (tgt := 34) hx hb dX10_countBars_13 (by decide) (fun c4 => ?_) (fun c4 => ?_)
    · replace hf := (if_pos c4).symm.trans hf
      exact hk v1_4 v2_4 _ _ _ _ hH (lv_sub hl [0, 1, 2] rfl) hf
    · replace hf := (if_neg c4).symm.trans hf
      refine lv_iload_n hx hb dX10_countBars_16 rfl (lv_at hl 0 rfl) ?_
      refine hl_aload_n hx hb dX10_countBars_17 rfl (lv_at hl 2 rfl) ?_
      refine g10_4 hx hb hts hown hKs hH rfl ho m2_123 dX10_countBars_18 ?_
      refine lv_iload_n hx hb dX10_countBars_21 rfl (lv_at hl 1 rfl) ?_
      obtain ⟨a5, ha5, hf⟩ := bnd hf
      replace ha5 := cha_some ha5
      obtain ⟨j6, hj6, hf⟩ := bnd hf
      refine hw_iald hx hb hKs hH ha5.1 ha5.2 hj6 dX10_countBars_22 ?_
      obtain ⟨q7, hq7, hf⟩ := bnd hf
      refine hcS_i hx hb hml hown hts hKs hT hb0 hH (As := [.int ((aI q3.2 a5.1 j6))]) (rest := [.int v1_4]) (k_J6_bitCount_0f7a4 l E K H.size (aI q3.2 a5.1 j6) q3.2 hq7) (gS m3_30 m3_31 m1_25 m3_32) hs_J6_bitCount_0f7a4 ⟨Nat.le_of_ble_eq_true rfl, Nat.le_of_ble_eq_true rfl, rfl, rfl⟩ hl.1 rfl (rcI rc0) rfl dX10_countBars_23 ⟨Nat.zero_le _, Nat.zero_le _⟩ (fun H locs hH => ?_)
      refine lv_iadd hx hb dX10_countBars_26 ?_
      refine lv_istore_n (i := 1) (lv' := [(1, .int ((v1_4 + q7.1))), (2, .int v2_4), (0, rv E (some o))]) hx hb dX10_countBars_27 rfl hl (by decide) rfl (fun ls hl => ?_)
      refine lv_iinc (v := (v2_4 + 1)) (lv' := [(2, .int ((v2_4 + 1))), (1, .int ((v1_4 + q7.1))), (0, rv E (some o))]) hx hb dX10_countBars_28 hl (k := 1) rfl rfl (by decide) rfl (fun ls hl => ?_)
      refine lv_goto (tgt := 4) hx hb dX10_countBars_31 (by decide) ?_
      exact ih (v1_4 + q7.1) (v2_4 + 1) _ _ _ _ hH (lv_sub hl [1, 0, 2] rfl) hf
set_option maxHeartbeats 4000000 in
set_option maxRecDepth 100000 in
theorem k_X10_countBars (l : Launch) (E : Ev) (K : Kd) (z : Nat) (o : Nat) (w : Wd) (ho : K o = some (9, 0)) {r : Int32} {w' : Wd} (hf : f_X10_countBars K o w = some (r, w')) : Met l yX10_countBars (Cond.code yX10_countBars cX10_countBars 3 (Option.some Jvm.ClassFile.FieldType.int) :: bt) ({ frames := 1, cells := 0, slots := 0, locals := 21 } : Room) (va_Pc [rv E (some o)] (HB E K w z)) (QI E K z w' r) 0 0 (hA E) := by
  refine Met.ofW (cc := cX10_countBars) (maxL := 3) (ret := (Option.some Jvm.ClassFile.FieldType.int)) (by decide) rfl ?_
  intro p e s m args below meth c s₁ B hml hv
  obtain ⟨rfl, hz, hP, hKs, hT, hb0⟩ := hv
  have C : CX p l e s m _ meth c cX10_countBars 3 RX10 (Option.some Jvm.ClassFile.FieldType.int) E := ⟨B.exec, B.bytes, hml, findClass_of_methodNamed B.named, fun w h => atoms_spec (ws := Cond.code yX10_countBars cX10_countBars 3 (Option.some Jvm.ClassFile.FieldType.int) :: bt) B.pre w (List.mem_cons_of_mem _ h), hKs, hT, by rw [hz]; exact hb0, B.notSynchronized, B.returns⟩
  have hH : HQ E K z w s s.heap [] := ⟨hP, va_S.rf, hz⟩
  obtain ⟨hx, hb, hml, hown, hts, hKs, hT, hb0, hlocks, hret⟩ := id C
  have hl := lv_entry [rv E (some o)] (n := 3) (by simp [lg_len_nil, lg_len_i, lg_len_j, lg_len_q, lg_len_f, lg_len_d, lg_len_r])
  rw [lg_entry_eq]
  generalize (lg_sl [rv E (some o)] ++ List.replicate (3 - (lg_sl [rv E (some o)]).length) Slot.unset).toArray = ls at hl ⊢
  replace hl : lv_has ls 3 [(0, rv E (some o))] := by simpa only [lv_args, cat_q, cat_i, cat_j, reduceIte, Nat.reduceEqDiff, Nat.reduceAdd, Nat.zero_add] using hl
  generalize s.heap = H at hH ⊢
  unfold f_X10_countBars at hf
  refine lv_iconst (v := 0) hx hb dX10_countBars_0 (by decide) ?_
  refine lv_istore_n (i := 1) (lv' := [(1, .int 0), (0, rv E (some o))]) hx hb dX10_countBars_1 rfl hl (by decide) rfl (fun ls hl => ?_)
  refine lv_iconst (v := 0) hx hb dX10_countBars_2 (by decide) ?_
  refine lv_istore_n (i := 2) (lv' := [(2, .int 0), (1, .int 0), (0, rv E (some o))]) hx hb dX10_countBars_3 rfl hl (by decide) rfl (fun ls hl => ?_)
  refine l_X10_countBars_L4  C ho _ (fun v1_4 v2_4 w1 H locs ls hH hl hf => ?_) fu 0 0 w _ _ _ hH (lv_sub hl [1, 0, 2] rfl) hf
  refine lv_iload_n hx hb dX10_countBars_34 rfl (lv_at hl 0 rfl) ?_
  exact hw_iret hx hb hret hf hH hlocks dX10_countBars_35

theorem dX10_caseTaking_0 : decode cX10_caseTaking 0 = .ok (.iconst 0, 1) := by decide +kernel
theorem dX10_caseTaking_1 : decode cX10_caseTaking 1 = .ok (.istore 4, 2) := by decide +kernel
theorem dX10_caseTaking_3 : decode cX10_caseTaking 3 = .ok (.iload 4, 2) := by decide +kernel
theorem dX10_caseTaking_5 : decode cX10_caseTaking 5 = .ok (.aload_n 0, 1) := by decide +kernel
theorem dX10_caseTaking_6 : decode cX10_caseTaking 6 = .ok (.getfield 31, 3) := by decide +kernel
theorem dX10_caseTaking_9 : decode cX10_caseTaking 9 = .ok (.iconst 3, 1) := by decide +kernel
theorem dX10_caseTaking_10 : decode cX10_caseTaking 10 = .ok (.invokevirtual 92, 3) := by decide +kernel
theorem dX10_caseTaking_13 : decode cX10_caseTaking 13 = .ok (.if_icmp .ge 53, 3) := by decide +kernel
theorem dX10_caseTaking_16 : decode cX10_caseTaking 16 = .ok (.aload_n 0, 1) := by decide +kernel
theorem dX10_caseTaking_17 : decode cX10_caseTaking 17 = .ok (.getfield 27, 3) := by decide +kernel
theorem dX10_caseTaking_20 : decode cX10_caseTaking 20 = .ok (.iload 4, 2) := by decide +kernel
theorem dX10_caseTaking_22 : decode cX10_caseTaking 22 = .ok (.aaload, 1) := by decide +kernel
theorem dX10_caseTaking_23 : decode cX10_caseTaking 23 = .ok (.iload_n 2, 1) := by decide +kernel
theorem dX10_caseTaking_24 : decode cX10_caseTaking 24 = .ok (.invokevirtual 120, 3) := by decide +kernel
theorem dX10_caseTaking_27 : decode cX10_caseTaking 27 = .ok (.ifCond .eq 33, 3) := by decide +kernel
theorem dX10_caseTaking_30 : decode cX10_caseTaking 30 = .ok (.aload_n 0, 1) := by decide +kernel
theorem dX10_caseTaking_31 : decode cX10_caseTaking 31 = .ok (.getfield 27, 3) := by decide +kernel
theorem dX10_caseTaking_34 : decode cX10_caseTaking 34 = .ok (.iload 4, 2) := by decide +kernel
theorem dX10_caseTaking_36 : decode cX10_caseTaking 36 = .ok (.aaload, 1) := by decide +kernel
theorem dX10_caseTaking_37 : decode cX10_caseTaking 37 = .ok (.getfield 116, 3) := by decide +kernel
theorem dX10_caseTaking_40 : decode cX10_caseTaking 40 = .ok (.iload_n 1, 1) := by decide +kernel
theorem dX10_caseTaking_41 : decode cX10_caseTaking 41 = .ok (.if_icmp .ne 19, 3) := by decide +kernel
theorem dX10_caseTaking_44 : decode cX10_caseTaking 44 = .ok (.aload_n 0, 1) := by decide +kernel
theorem dX10_caseTaking_45 : decode cX10_caseTaking 45 = .ok (.iload 4, 2) := by decide +kernel
theorem dX10_caseTaking_47 : decode cX10_caseTaking 47 = .ok (.invokevirtual 123, 3) := by decide +kernel
theorem dX10_caseTaking_50 : decode cX10_caseTaking 50 = .ok (.iload_n 3, 1) := by decide +kernel
theorem dX10_caseTaking_51 : decode cX10_caseTaking 51 = .ok (.invokestatic 106, 3) := by decide +kernel
theorem dX10_caseTaking_54 : decode cX10_caseTaking 54 = .ok (.ifCond .eq 6, 3) := by decide +kernel
theorem dX10_caseTaking_57 : decode cX10_caseTaking 57 = .ok (.iload 4, 2) := by decide +kernel
theorem dX10_caseTaking_59 : decode cX10_caseTaking 59 = .ok (.ireturn, 1) := by decide +kernel
theorem dX10_caseTaking_60 : decode cX10_caseTaking 60 = .ok (.iinc 4 1, 3) := by decide +kernel
theorem dX10_caseTaking_63 : decode cX10_caseTaking 63 = .ok (.goto (-60), 3) := by decide +kernel
theorem dX10_caseTaking_66 : decode cX10_caseTaking 66 = .ok (.iconst (-1), 1) := by decide +kernel
theorem dX10_caseTaking_67 : decode cX10_caseTaking 67 = .ok (.ireturn, 1) := by decide +kernel
theorem hd_X10_caseTaking : yX10_caseTaking.cls = RX10 ∧ yX10_caseTaking.cls ≠ "java/lang/invoke/MethodHandle" ∧ yX10_caseTaking.cls ≠ "java/lang/invoke/VarHandle" ∧ (parseMethodDescriptor yX10_caseTaking.desc).map (fun d => d.parameters.length) = some 3 := by decide +kernel
theorem hs_X10_caseTaking : yX10_caseTaking.cls ≠ "java/lang/invoke/MethodHandle" ∧ yX10_caseTaking.cls ≠ "java/lang/invoke/VarHandle" ∧ (parseMethodDescriptor yX10_caseTaking.desc).map (fun d => d.parameters.length) = some 3 := by decide +kernel
set_option maxHeartbeats 4000000 in
set_option maxRecDepth 100000 in
theorem l_X10_caseTaking_L3 (C : CX p l e s m args meth c cX10_caseTaking 5 RX10 (Option.some Jvm.ClassFile.FieldType.int) E) {o : Nat} (ho : K o = some (9, 0)) {r : Int32} {w' : Wd} (k : Int32 → Int32 → Int32 → Int32 → Wd → Option (Int32 × Wd)) (hk : ∀ (v1_3 : Int32) (v2_3 : Int32) (v3_3 : Int32) (v4_3 : Int32) (w : Wd) (H : Heap) (locs : List Loc) (ls : Array Slot), HQ E K z w s H locs → lv_has ls 5 [(1, .int v1_3), (2, .int v2_3), (3, .int v3_3), (4, .int v4_3), (0, rv E (some o))] → k v1_3 v2_3 v3_3 v4_3 w = some (r, w') → W p l e ({ frames := 2, cells := 0, slots := 0, locals := 42 } : Room) s m args below meth c H locs 0 0 (MQ below (QI E K z w' r) args s 0 0 (hA E)) (F0 m 66 ls [])) : ∀ (n : Nat) (v1_3 : Int32) (v2_3 : Int32) (v3_3 : Int32) (v4_3 : Int32) (w : Wd) (H : Heap) (locs : List Loc) (ls : Array Slot), HQ E K z w s H locs → lv_has ls 5 [(1, .int v1_3), (2, .int v2_3), (3, .int v3_3), (4, .int v4_3), (0, rv E (some o))] → f_X10_caseTaking_L3 K o k n v1_3 v2_3 v3_3 v4_3 w = some (r, w') → W p l e ({ frames := 2, cells := 0, slots := 0, locals := 42 } : Room) s m args below meth c H locs 0 0 (MQ below (QI E K z w' r) args s 0 0 (hA E)) (F0 m 3 ls []) := by
  obtain ⟨hx, hb, hml, hown, hts, hKs, hT, hb0, hlocks, hret⟩ := id C
  intro n
  induction n with
  | zero =>
    intro v1_3 v2_3 v3_3 v4_3 w H locs ls hH hl hf
    cases hf
  | succ n ih =>
    intro v1_3 v2_3 v3_3 v4_3 w H locs ls hH hl hf
    rw [f_X10_caseTaking_L3] at hf
    refine lv_iload hx hb dX10_caseTaking_3 (lv_at hl 3 rfl) ?_
    refine hl_aload_n hx hb dX10_caseTaking_5 rfl (lv_at hl 4 rfl) ?_
    refine g10_0 hx hb hts hown hKs hH rfl ho m2_113 dX10_caseTaking_6 ?_
    refine lv_iconst (v := 3) hx hb dX10_caseTaking_9 (by decide) ?_
    obtain ⟨a2, ha2, hf⟩ := bnd hf
    replace ha2 := chk_some ha2
    obtain ⟨q3, hq3, hf⟩ := bnd hf
    refine hcV_i hx hb hml hown hts hKs hT hb0 hH (As := [.int 3]) (rest := [.int v4_3]) (k_X9_size l E K H.size a2 3 w ha2.2 hq3) (gV m3_29 m3_22 m3_23 m1_2 m3_24) hd_X9_size ⟨Nat.le_of_ble_eq_true rfl, Nat.le_of_ble_eq_true rfl, rfl, rfl⟩ ha2.1 ha2.2 rfl rfl rfl hl.1 rfl (rcI rc0) rfl dX10_caseTaking_10 ⟨Nat.zero_le _, Nat.zero_le _⟩ (fun H locs hH => ?_)
    refine lv_icmp_ge (tgt := 66) hx hb dX10_caseTaking_13 (by decide) (fun c4 => ?_) (fun c4 => ?_)
    · replace hf := (if_pos c4).symm.trans hf
      exact hk v1_3 v2_3 v3_3 v4_3 _ _ _ _ hH (lv_sub hl [0, 1, 2, 3, 4] rfl) hf
    · replace hf := (if_neg c4).symm.trans hf
      refine hl_aload_n hx hb dX10_caseTaking_16 rfl (lv_at hl 4 rfl) ?_
      refine g10_5 hx hb hts hown hKs hH rfl ho m2_125 dX10_caseTaking_17 ?_
      refine lv_iload hx hb dX10_caseTaking_20 (lv_at hl 3 rfl) ?_
      obtain ⟨a5, ha5, hf⟩ := bnd hf
      replace ha5 := cha_some ha5
      obtain ⟨j6, hj6, hf⟩ := bnd hf
      refine hw_aald27 hx hb hKs hH ha5.1 ha5.2 hj6 dX10_caseTaking_22 ?_
      refine lv_iload_n hx hb dX10_caseTaking_23 rfl (lv_at hl 1 rfl) ?_
      obtain ⟨a7, ha7, hf⟩ := bnd hf
      replace ha7 := chk_some ha7
      obtain ⟨q8, hq8, hf⟩ := bnd hf
      refine hcV_i hx hb hml hown hts hKs hT hb0 hH (As := [.int v2_3]) (rest := []) (k_X7_isOn l E K H.size a7 v2_3 q3.2 ha7.2 hq8) (gV m6_211 m3_232 m3_233 m1_13 m3_234) hd_X7_isOn ⟨Nat.le_of_ble_eq_true rfl, Nat.le_of_ble_eq_true rfl, rfl, rfl⟩ ha7.1 ha7.2 rfl rfl rfl hl.1 rfl rc0 rfl dX10_caseTaking_24 ⟨Nat.zero_le _, Nat.zero_le _⟩ (fun H locs hH => ?_)
      refine lv_if_eq (tgt := 60) hx hb dX10_caseTaking_27 (by decide) (fun c9 => ?_) (fun c9 => ?_)
      · replace hf := (if_pos c9).symm.trans hf
        refine lv_iinc (v := (v4_3 + 1)) (lv' := [(4, .int ((v4_3 + 1))), (1, .int v1_3), (2, .int v2_3), (3, .int v3_3), (0, rv E (some o))]) hx hb dX10_caseTaking_60 hl (k := 3) rfl rfl (by decide) rfl (fun ls hl => ?_)
        refine lv_goto (tgt := 3) hx hb dX10_caseTaking_63 (by decide) ?_
        exact ih v1_3 v2_3 v3_3 (v4_3 + 1) _ _ _ _ hH (lv_sub hl [1, 2, 3, 0, 4] rfl) hf
      · replace hf := (if_neg c9).symm.trans hf
        refine hl_aload_n hx hb dX10_caseTaking_30 rfl (lv_at hl 4 rfl) ?_
        refine g10_5 hx hb hts hown hKs hH rfl ho m2_125 dX10_caseTaking_31 ?_
        refine lv_iload hx hb dX10_caseTaking_34 (lv_at hl 3 rfl) ?_
        obtain ⟨a10, ha10, hf⟩ := bnd hf
        replace ha10 := cha_some ha10
        obtain ⟨j11, hj11, hf⟩ := bnd hf
        refine hw_aald27 hx hb hKs hH ha10.1 ha10.2 hj11 dX10_caseTaking_36 ?_
        obtain ⟨a12, ha12, hf⟩ := bnd hf
        replace ha12 := chk_some ha12
        refine gn7_4 hx hb hts hown hKs hH ha12.1 ha12.2 m2_76 dX10_caseTaking_37 ?_
        refine lv_iload_n hx hb dX10_caseTaking_40 rfl (lv_at hl 0 rfl) ?_
        refine lv_icmp_ne (tgt := 60) hx hb dX10_caseTaking_41 (by decide) (fun c13 => ?_) (fun c13 => ?_)
        · replace hf := (if_neg c13).symm.trans hf
          refine lv_iinc (v := (v4_3 + 1)) (lv' := [(4, .int ((v4_3 + 1))), (1, .int v1_3), (2, .int v2_3), (3, .int v3_3), (0, rv E (some o))]) hx hb dX10_caseTaking_60 hl (k := 3) rfl rfl (by decide) rfl (fun ls hl => ?_)
          refine lv_goto (tgt := 3) hx hb dX10_caseTaking_63 (by decide) ?_
          exact ih v1_3 v2_3 v3_3 (v4_3 + 1) _ _ _ _ hH (lv_sub hl [1, 2, 3, 0, 4] rfl) hf
        · replace hf := (if_pos c13).symm.trans hf
          refine hl_aload_n hx hb dX10_caseTaking_44 rfl (lv_at hl 4 rfl) ?_
          refine lv_iload hx hb dX10_caseTaking_45 (lv_at hl 3 rfl) ?_
          obtain ⟨q14, hq14, hf⟩ := bnd hf
          refine hcV_i hx hb hml hown hts hKs hT hb0 hH (As := [.int v4_3]) (rest := []) (k_X10_slotsOf l E K H.size o v4_3 q8.2 ho hq14) (gV m6_212 m3_236 m3_237 m1_12 m3_238) hd_X10_slotsOf ⟨Nat.le_of_ble_eq_true rfl, Nat.le_of_ble_eq_true rfl, rfl, rfl⟩ rfl ho rfl rfl rfl hl.1 rfl rc0 rfl dX10_caseTaking_47 ⟨Nat.zero_le _, Nat.zero_le _⟩ (fun H locs hH => ?_)
          refine lv_iload_n hx hb dX10_caseTaking_50 rfl (lv_at hl 2 rfl) ?_
          obtain ⟨q15, hq15, hf⟩ := bnd hf
          refine hcM_i hx hb hml hown hts hKs hT hb0 hH (As := [.int (q14.1), .int v3_3]) (rest := []) (k_X12_has l E K H.size q14.1 v3_3 q14.2 hq15) m3_187 m3_188 m1_1 m3_189 hs_X12_has ⟨Nat.le_of_ble_eq_true rfl, Nat.le_of_ble_eq_true rfl, rfl, rfl⟩ hl.1 rfl rc0 rfl dX10_caseTaking_51 ⟨Nat.zero_le _, Nat.zero_le _⟩ (fun H locs hH => ?_)
          refine lv_if_eq (tgt := 60) hx hb dX10_caseTaking_54 (by decide) (fun c16 => ?_) (fun c16 => ?_)
          · replace hf := (if_pos c16).symm.trans hf
            refine lv_iinc (v := (v4_3 + 1)) (lv' := [(4, .int ((v4_3 + 1))), (1, .int v1_3), (2, .int v2_3), (3, .int v3_3), (0, rv E (some o))]) hx hb dX10_caseTaking_60 hl (k := 3) rfl rfl (by decide) rfl (fun ls hl => ?_)
            refine lv_goto (tgt := 3) hx hb dX10_caseTaking_63 (by decide) ?_
            exact ih v1_3 v2_3 v3_3 (v4_3 + 1) _ _ _ _ hH (lv_sub hl [1, 2, 3, 0, 4] rfl) hf
          · replace hf := (if_neg c16).symm.trans hf
            refine lv_iload hx hb dX10_caseTaking_57 (lv_at hl 3 rfl) ?_
            exact hw_iret hx hb hret hf hH hlocks dX10_caseTaking_59
set_option maxHeartbeats 4000000 in
set_option maxRecDepth 100000 in
theorem k_X10_caseTaking (l : Launch) (E : Ev) (K : Kd) (z : Nat) (o : Nat) (a_1 : Int32) (a_2 : Int32) (a_3 : Int32) (w : Wd) (ho : K o = some (9, 0)) {r : Int32} {w' : Wd} (hf : f_X10_caseTaking K o a_1 a_2 a_3 w = some (r, w')) : Met l yX10_caseTaking (Cond.code yX10_caseTaking cX10_caseTaking 5 (Option.some Jvm.ClassFile.FieldType.int) :: bt) ({ frames := 2, cells := 0, slots := 0, locals := 42 } : Room) (va_Pc [rv E (some o), .int a_1, .int a_2, .int a_3] (HB E K w z)) (QI E K z w' r) 0 0 (hA E) := by
  refine Met.ofW (cc := cX10_caseTaking) (maxL := 5) (ret := (Option.some Jvm.ClassFile.FieldType.int)) (by decide) rfl ?_
  intro p e s m args below meth c s₁ B hml hv
  obtain ⟨rfl, hz, hP, hKs, hT, hb0⟩ := hv
  have C : CX p l e s m _ meth c cX10_caseTaking 5 RX10 (Option.some Jvm.ClassFile.FieldType.int) E := ⟨B.exec, B.bytes, hml, findClass_of_methodNamed B.named, fun w h => atoms_spec (ws := Cond.code yX10_caseTaking cX10_caseTaking 5 (Option.some Jvm.ClassFile.FieldType.int) :: bt) B.pre w (List.mem_cons_of_mem _ h), hKs, hT, by rw [hz]; exact hb0, B.notSynchronized, B.returns⟩
  have hH : HQ E K z w s s.heap [] := ⟨hP, va_S.rf, hz⟩
  obtain ⟨hx, hb, hml, hown, hts, hKs, hT, hb0, hlocks, hret⟩ := id C
  have hl := lv_entry [rv E (some o), .int a_1, .int a_2, .int a_3] (n := 5) (by simp [lg_len_nil, lg_len_i, lg_len_j, lg_len_q, lg_len_f, lg_len_d, lg_len_r])
  rw [lg_entry_eq]
  generalize (lg_sl [rv E (some o), .int a_1, .int a_2, .int a_3] ++ List.replicate (5 - (lg_sl [rv E (some o), .int a_1, .int a_2, .int a_3]).length) Slot.unset).toArray = ls at hl ⊢
  replace hl : lv_has ls 5 [(0, rv E (some o)), (1, .int a_1), (2, .int a_2), (3, .int a_3)] := by simpa only [lv_args, cat_q, cat_i, cat_j, reduceIte, Nat.reduceEqDiff, Nat.reduceAdd, Nat.zero_add] using hl
  generalize s.heap = H at hH ⊢
  unfold f_X10_caseTaking at hf
  refine lv_iconst (v := 0) hx hb dX10_caseTaking_0 (by decide) ?_
  refine lv_istore (i := 4) (lv' := [(4, .int 0), (0, rv E (some o)), (1, .int a_1), (2, .int a_2), (3, .int a_3)]) hx hb dX10_caseTaking_1 hl (by decide) rfl (fun ls hl => ?_)
  refine l_X10_caseTaking_L3  C ho _ (fun v1_3 v2_3 v3_3 v4_3 w1 H locs ls hH hl hf => ?_) fu a_1 a_2 a_3 0 w _ _ _ hH (lv_sub hl [2, 3, 4, 0, 1] rfl) hf
  refine lv_iconst (v := (-1)) hx hb dX10_caseTaking_66 (by decide) ?_
  exact hw_iret hx hb hret hf hH hlocks dX10_caseTaking_67

theorem dX10_sortWaiting_0 : decode cX10_sortWaiting 0 = .ok (.iconst 0, 1) := by decide +kernel
theorem dX10_sortWaiting_1 : decode cX10_sortWaiting 1 = .ok (.istore_n 2, 1) := by decide +kernel
theorem dX10_sortWaiting_2 : decode cX10_sortWaiting 2 = .ok (.iconst 0, 1) := by decide +kernel
theorem dX10_sortWaiting_3 : decode cX10_sortWaiting 3 = .ok (.istore_n 3, 1) := by decide +kernel
theorem dX10_sortWaiting_4 : decode cX10_sortWaiting 4 = .ok (.iload_n 3, 1) := by decide +kernel
theorem dX10_sortWaiting_5 : decode cX10_sortWaiting 5 = .ok (.aload_n 0, 1) := by decide +kernel
theorem dX10_sortWaiting_6 : decode cX10_sortWaiting 6 = .ok (.getfield 31, 3) := by decide +kernel
theorem dX10_sortWaiting_9 : decode cX10_sortWaiting 9 = .ok (.iconst 3, 1) := by decide +kernel
theorem dX10_sortWaiting_10 : decode cX10_sortWaiting 10 = .ok (.invokevirtual 92, 3) := by decide +kernel
theorem dX10_sortWaiting_13 : decode cX10_sortWaiting 13 = .ok (.if_icmp .ge 40, 3) := by decide +kernel
theorem dX10_sortWaiting_16 : decode cX10_sortWaiting 16 = .ok (.iload_n 2, 1) := by decide +kernel
theorem dX10_sortWaiting_17 : decode cX10_sortWaiting 17 = .ok (.aload_n 1, 1) := by decide +kernel
theorem dX10_sortWaiting_18 : decode cX10_sortWaiting 18 = .ok (.arraylength, 1) := by decide +kernel
theorem dX10_sortWaiting_19 : decode cX10_sortWaiting 19 = .ok (.if_icmp .ge 34, 3) := by decide +kernel
theorem dX10_sortWaiting_22 : decode cX10_sortWaiting 22 = .ok (.aload_n 0, 1) := by decide +kernel
theorem dX10_sortWaiting_23 : decode cX10_sortWaiting 23 = .ok (.getfield 27, 3) := by decide +kernel
theorem dX10_sortWaiting_26 : decode cX10_sortWaiting 26 = .ok (.iload_n 3, 1) := by decide +kernel
theorem dX10_sortWaiting_27 : decode cX10_sortWaiting 27 = .ok (.aaload, 1) := by decide +kernel
theorem dX10_sortWaiting_28 : decode cX10_sortWaiting 28 = .ok (.getfield 95, 3) := by decide +kernel
theorem dX10_sortWaiting_31 : decode cX10_sortWaiting 31 = .ok (.ifCond .ne 16, 3) := by decide +kernel
theorem dX10_sortWaiting_34 : decode cX10_sortWaiting 34 = .ok (.aload_n 1, 1) := by decide +kernel
theorem dX10_sortWaiting_35 : decode cX10_sortWaiting 35 = .ok (.iload_n 2, 1) := by decide +kernel
theorem dX10_sortWaiting_36 : decode cX10_sortWaiting 36 = .ok (.aload_n 0, 1) := by decide +kernel
theorem dX10_sortWaiting_37 : decode cX10_sortWaiting 37 = .ok (.iload_n 3, 1) := by decide +kernel
theorem dX10_sortWaiting_38 : decode cX10_sortWaiting 38 = .ok (.invokevirtual 144, 3) := by decide +kernel
theorem dX10_sortWaiting_41 : decode cX10_sortWaiting 41 = .ok (.invokestatic 147, 3) := by decide +kernel
theorem dX10_sortWaiting_44 : decode cX10_sortWaiting 44 = .ok (.iinc 2 1, 3) := by decide +kernel
theorem dX10_sortWaiting_47 : decode cX10_sortWaiting 47 = .ok (.iinc 3 1, 3) := by decide +kernel
theorem dX10_sortWaiting_50 : decode cX10_sortWaiting 50 = .ok (.goto (-46), 3) := by decide +kernel
theorem dX10_sortWaiting_53 : decode cX10_sortWaiting 53 = .ok (.iconst 0, 1) := by decide +kernel
theorem dX10_sortWaiting_54 : decode cX10_sortWaiting 54 = .ok (.istore_n 3, 1) := by decide +kernel
theorem dX10_sortWaiting_55 : decode cX10_sortWaiting 55 = .ok (.iload_n 3, 1) := by decide +kernel
theorem dX10_sortWaiting_56 : decode cX10_sortWaiting 56 = .ok (.iload_n 2, 1) := by decide +kernel
theorem dX10_sortWaiting_57 : decode cX10_sortWaiting 57 = .ok (.if_icmp .ge 17, 3) := by decide +kernel
theorem dX10_sortWaiting_60 : decode cX10_sortWaiting 60 = .ok (.aload_n 1, 1) := by decide +kernel
theorem dX10_sortWaiting_61 : decode cX10_sortWaiting 61 = .ok (.iload_n 3, 1) := by decide +kernel
theorem dX10_sortWaiting_62 : decode cX10_sortWaiting 62 = .ok (.dup2, 1) := by decide +kernel
theorem dX10_sortWaiting_63 : decode cX10_sortWaiting 63 = .ok (.iaload, 1) := by decide +kernel
theorem dX10_sortWaiting_64 : decode cX10_sortWaiting 64 = .ok (.bipush 12, 2) := by decide +kernel
theorem dX10_sortWaiting_66 : decode cX10_sortWaiting 66 = .ok (.irem, 1) := by decide +kernel
theorem dX10_sortWaiting_67 : decode cX10_sortWaiting 67 = .ok (.iastore, 1) := by decide +kernel
theorem dX10_sortWaiting_68 : decode cX10_sortWaiting 68 = .ok (.iinc 3 1, 3) := by decide +kernel
theorem dX10_sortWaiting_71 : decode cX10_sortWaiting 71 = .ok (.goto (-16), 3) := by decide +kernel
theorem dX10_sortWaiting_74 : decode cX10_sortWaiting 74 = .ok (.iload_n 2, 1) := by decide +kernel
theorem dX10_sortWaiting_75 : decode cX10_sortWaiting 75 = .ok (.ireturn, 1) := by decide +kernel
theorem hd_X10_sortWaiting : yX10_sortWaiting.cls = RX10 ∧ yX10_sortWaiting.cls ≠ "java/lang/invoke/MethodHandle" ∧ yX10_sortWaiting.cls ≠ "java/lang/invoke/VarHandle" ∧ (parseMethodDescriptor yX10_sortWaiting.desc).map (fun d => d.parameters.length) = some 1 := by decide +kernel
theorem hs_X10_sortWaiting : yX10_sortWaiting.cls ≠ "java/lang/invoke/MethodHandle" ∧ yX10_sortWaiting.cls ≠ "java/lang/invoke/VarHandle" ∧ (parseMethodDescriptor yX10_sortWaiting.desc).map (fun d => d.parameters.length) = some 1 := by decide +kernel
set_option maxHeartbeats 4000000 in
set_option maxRecDepth 100000 in
theorem l_X10_sortWaiting_L4 (C : CX p l e s m args meth c cX10_sortWaiting 4 RX10 (Option.some Jvm.ClassFile.FieldType.int) E) {o : Nat} (ho : K o = some (9, 0)) {r : Int32} {w' : Wd} (k : Option Nat → Int32 → Int32 → Wd → Option (Int32 × Wd)) (hk : ∀ (v1_4 : Option Nat) (v2_4 : Int32) (v3_4 : Int32) (w : Wd) (H : Heap) (locs : List Loc) (ls : Array Slot), HQ E K z w s H locs → lv_has ls 4 [(1, rv E v1_4), (2, .int v2_4), (3, .int v3_4), (0, rv E (some o))] → k v1_4 v2_4 v3_4 w = some (r, w') → W p l e ({ frames := 4, cells := 0, slots := 0, locals := 88 } : Room) s m args below meth c H locs 0 0 (MQ below (QI E K z w' r) args s 0 0 (hA E)) (F0 m 53 ls [])) : ∀ (n : Nat) (v1_4 : Option Nat) (v2_4 : Int32) (v3_4 : Int32) (w : Wd) (H : Heap) (locs : List Loc) (ls : Array Slot), HQ E K z w s H locs → lv_has ls 4 [(1, rv E v1_4), (2, .int v2_4), (3, .int v3_4), (0, rv E (some o))] → f_X10_sortWaiting_L4 K o k n v1_4 v2_4 v3_4 w = some (r, w') → W p l e ({ frames := 4, cells := 0, slots := 0, locals := 88 } : Room) s m args below meth c H locs 0 0 (MQ below (QI E K z w' r) args s 0 0 (hA E)) (F0 m 4 ls []) := by
  obtain ⟨hx, hb, hml, hown, hts, hKs, hT, hb0, hlocks, hret⟩ := id C
  intro n
  induction n with
  | zero =>
    intro v1_4 v2_4 v3_4 w H locs ls hH hl hf
    cases hf
  | succ n ih =>
    intro v1_4 v2_4 v3_4 w H locs ls hH hl hf
    rw [f_X10_sortWaiting_L4] at hf
    refine lv_iload_n hx hb dX10_sortWaiting_4 rfl (lv_at hl 2 rfl) ?_
    refine hl_aload_n hx hb dX10_sortWaiting_5 rfl (lv_at hl 3 rfl) ?_
    refine g10_0 hx hb hts hown hKs hH rfl ho m2_113 dX10_sortWaiting_6 ?_
    refine lv_iconst (v := 3) hx hb dX10_sortWaiting_9 (by decide) ?_
    obtain ⟨a2, ha2, hf⟩ := bnd hf
    replace ha2 := chk_some ha2
    obtain ⟨q3, hq3, hf⟩ := bnd hf
    refine hcV_i hx hb hml hown hts hKs hT hb0 hH (As := [.int 3]) (rest := [.int v3_4]) (k_X9_size l E K H.size a2 3 w ha2.2 hq3) (gV m3_29 m3_22 m3_23 m1_2 m3_24) hd_X9_size ⟨Nat.le_of_ble_eq_true rfl, Nat.le_of_ble_eq_true rfl, rfl, rfl⟩ ha2.1 ha2.2 rfl rfl rfl hl.1 rfl (rcI rc0) rfl dX10_sortWaiting_10 ⟨Nat.zero_le _, Nat.zero_le _⟩ (fun H locs hH => ?_)
    refine lv_icmp_ge (tgt := 53) hx hb dX10_sortWaiting_13 (by decide) (fun c4 => ?_) (fun c4 => ?_)
    · replace hf := (if_pos c4).symm.trans hf
      exact hk v1_4 v2_4 v3_4 _ _ _ _ hH (lv_sub hl [0, 1, 2, 3] rfl) hf
    · replace hf := (if_neg c4).symm.trans hf
      refine lv_iload_n hx hb dX10_sortWaiting_16 rfl (lv_at hl 1 rfl) ?_
      refine hl_aload_n hx hb dX10_sortWaiting_17 rfl (lv_at hl 0 rfl) ?_
      obtain ⟨a5, ha5, hf⟩ := bnd hf
      replace ha5 := cha_some ha5
      refine hw_alen20 hx hb hKs hH ha5.1 ha5.2 dX10_sortWaiting_18 ?_
      refine lv_icmp_ge (tgt := 53) hx hb dX10_sortWaiting_19 (by decide) (fun c6 => ?_) (fun c6 => ?_)
      · replace hf := (if_pos c6).symm.trans hf
        exact hk v1_4 v2_4 v3_4 _ _ _ _ hH (lv_sub hl [0, 1, 2, 3] rfl) hf
      · replace hf := (if_neg c6).symm.trans hf
        refine hl_aload_n hx hb dX10_sortWaiting_22 rfl (lv_at hl 3 rfl) ?_
        refine g10_5 hx hb hts hown hKs hH rfl ho m2_125 dX10_sortWaiting_23 ?_
        refine lv_iload_n hx hb dX10_sortWaiting_26 rfl (lv_at hl 2 rfl) ?_
        obtain ⟨a7, ha7, hf⟩ := bnd hf
        replace ha7 := cha_some ha7
        obtain ⟨j8, hj8, hf⟩ := bnd hf
        refine hw_aald27 hx hb hKs hH ha7.1 ha7.2 hj8 dX10_sortWaiting_27 ?_
        obtain ⟨a9, ha9, hf⟩ := bnd hf
        replace ha9 := chk_some ha9
        refine gn7_0 hx hb hts hown hKs hH ha9.1 ha9.2 m2_64 dX10_sortWaiting_28 ?_
        refine lv_if_ne (tgt := 47) hx hb dX10_sortWaiting_31 (by decide) (fun c10 => ?_) (fun c10 => ?_)
        · replace hf := (if_neg c10).symm.trans hf
          refine lv_iinc (v := (v3_4 + 1)) (lv' := [(3, .int ((v3_4 + 1))), (1, rv E v1_4), (2, .int v2_4), (0, rv E (some o))]) hx hb dX10_sortWaiting_47 hl (k := 2) rfl rfl (by decide) rfl (fun ls hl => ?_)
          refine lv_goto (tgt := 4) hx hb dX10_sortWaiting_50 (by decide) ?_
          exact ih v1_4 v2_4 (v3_4 + 1) _ _ _ _ hH (lv_sub hl [1, 2, 0, 3] rfl) hf
        · replace hf := (if_pos c10).symm.trans hf
          refine hl_aload_n hx hb dX10_sortWaiting_34 rfl (lv_at hl 0 rfl) ?_
          refine lv_iload_n hx hb dX10_sortWaiting_35 rfl (lv_at hl 1 rfl) ?_
          refine hl_aload_n hx hb dX10_sortWaiting_36 rfl (lv_at hl 3 rfl) ?_
          refine lv_iload_n hx hb dX10_sortWaiting_37 rfl (lv_at hl 2 rfl) ?_
          obtain ⟨q11, hq11, hf⟩ := bnd hf
          refine hcV_i hx hb hml hown hts hKs hT hb0 hH (As := [.int v3_4]) (rest := [.int v2_4, rv E v1_4]) (k_X10_urgencyKey l E K H.size o v3_4 q3.2 ho hq11) (gV m3_168 m3_170 ms_3 m1_12 m3_171) hd_X10_urgencyKey ⟨Nat.le_of_ble_eq_true rfl, Nat.le_of_ble_eq_true rfl, rfl, rfl⟩ rfl ho rfl rfl rfl hl.1 rfl (rcI (rcV rc0)) rfl dX10_sortWaiting_38 ⟨Nat.zero_le _, Nat.zero_le _⟩ (fun H locs hH => ?_)
          obtain ⟨q12, hq12, hf⟩ := bnd hf
          refine hcS_v hx hb hml hown hts hKs hT hb0 hH (As := [rv E v1_4, .int v2_4, .int (q11.1)]) (rest := []) (k_X10_insert l E K H.size v1_4 v2_4 q11.1 q11.2 hq12) (gS m3_172 m3_173 m1_12 m3_174) hs_X10_insert ⟨Nat.le_of_ble_eq_true rfl, Nat.le_of_ble_eq_true rfl, rfl, rfl⟩ hl.1 rfl rc0 rfl dX10_sortWaiting_41 ⟨Nat.zero_le _, Nat.zero_le _⟩ (fun H locs hH => ?_)
          refine lv_iinc (v := (v2_4 + 1)) (lv' := [(2, .int ((v2_4 + 1))), (1, rv E v1_4), (3, .int v3_4), (0, rv E (some o))]) hx hb dX10_sortWaiting_44 hl (k := 1) rfl rfl (by decide) (by simp [List.filter_cons, cat_q, cat_i, cat_j, imax, imin]) (fun ls hl => ?_)
          refine lv_iinc (v := (v3_4 + 1)) (lv' := [(3, .int ((v3_4 + 1))), (2, .int ((v2_4 + 1))), (1, rv E v1_4), (0, rv E (some o))]) hx hb dX10_sortWaiting_47 hl (k := 2) rfl rfl (by decide) rfl (fun ls hl => ?_)
          refine lv_goto (tgt := 4) hx hb dX10_sortWaiting_50 (by decide) ?_
          exact ih v1_4 (v2_4 + 1) (v3_4 + 1) _ _ _ _ hH (lv_sub hl [2, 1, 0, 3] rfl) hf
set_option maxHeartbeats 4000000 in
set_option maxRecDepth 100000 in
theorem l_X10_sortWaiting_L55 (C : CX p l e s m args meth c cX10_sortWaiting 4 RX10 (Option.some Jvm.ClassFile.FieldType.int) E) {o : Nat} (ho : K o = some (9, 0)) {r : Int32} {w' : Wd} (k : Option Nat → Int32 → Int32 → Wd → Option (Int32 × Wd)) (hk : ∀ (v1_55 : Option Nat) (v2_55 : Int32) (v3_55 : Int32) (w : Wd) (H : Heap) (locs : List Loc) (ls : Array Slot), HQ E K z w s H locs → lv_has ls 4 [(1, rv E v1_55), (2, .int v2_55), (3, .int v3_55), (0, rv E (some o))] → k v1_55 v2_55 v3_55 w = some (r, w') → W p l e ({ frames := 4, cells := 0, slots := 0, locals := 88 } : Room) s m args below meth c H locs 0 0 (MQ below (QI E K z w' r) args s 0 0 (hA E)) (F0 m 74 ls [])) : ∀ (n : Nat) (v1_55 : Option Nat) (v2_55 : Int32) (v3_55 : Int32) (w : Wd) (H : Heap) (locs : List Loc) (ls : Array Slot), HQ E K z w s H locs → lv_has ls 4 [(1, rv E v1_55), (2, .int v2_55), (3, .int v3_55), (0, rv E (some o))] → f_X10_sortWaiting_L55 K o k n v1_55 v2_55 v3_55 w = some (r, w') → W p l e ({ frames := 4, cells := 0, slots := 0, locals := 88 } : Room) s m args below meth c H locs 0 0 (MQ below (QI E K z w' r) args s 0 0 (hA E)) (F0 m 55 ls []) := by
  obtain ⟨hx, hb, hml, hown, hts, hKs, hT, hb0, hlocks, hret⟩ := id C
  intro n
  induction n with
  | zero =>
    intro v1_55 v2_55 v3_55 w H locs ls hH hl hf
    cases hf
  | succ n ih =>
    intro v1_55 v2_55 v3_55 w H locs ls hH hl hf
    rw [f_X10_sortWaiting_L55] at hf
    refine lv_iload_n hx hb dX10_sortWaiting_55 rfl (lv_at hl 2 rfl) ?_
    refine lv_iload_n hx hb dX10_sortWaiting_56 rfl (lv_at hl 1 rfl) ?_
    refine lv_icmp_ge (tgt := 74) hx hb dX10_sortWaiting_57 (by decide) (fun c14 => ?_) (fun c14 => ?_)
    · replace hf := (if_pos c14).symm.trans hf
      exact hk v1_55 v2_55 v3_55 _ _ _ _ hH (lv_sub hl [0, 1, 2, 3] rfl) hf
    · replace hf := (if_neg c14).symm.trans hf
      refine hl_aload_n hx hb dX10_sortWaiting_60 rfl (lv_at hl 0 rfl) ?_
      refine lv_iload_n hx hb dX10_sortWaiting_61 rfl (lv_at hl 2 rfl) ?_
      refine lv_dup2_11 hx hb dX10_sortWaiting_62 rfl rv_cat ?_
      obtain ⟨a15, ha15, hf⟩ := bnd hf
      replace ha15 := cha_some ha15
      obtain ⟨j16, hj16, hf⟩ := bnd hf
      refine hw_iald hx hb hKs hH ha15.1 ha15.2 hj16 dX10_sortWaiting_63 ?_
      refine lv_bipush (v := 12) hx hb dX10_sortWaiting_64 (by decide) ?_
      refine lv_irem hx hb dX10_sortWaiting_66 (by decide) ?_
      obtain ⟨j17, hj17, hf⟩ := bnd hf
      obtain ⟨w18, hw18, hf⟩ := bnd hf
      replace hw18 := Option.some.inj hw18
      refine hw_iast (x := ((aI w a15.1 j16) - (aI w a15.1 j16) / 12 * 12)) hx hb hKs hH ha15.1 ha15.2 hj17 dX10_sortWaiting_67 (fun H locs hH => ?_)
      rw [hw18] at hH
      refine lv_iinc (v := (v3_55 + 1)) (lv' := [(3, .int ((v3_55 + 1))), (1, rv E v1_55), (2, .int v2_55), (0, rv E (some o))]) hx hb dX10_sortWaiting_68 hl (k := 2) rfl rfl (by decide) rfl (fun ls hl => ?_)
      refine lv_goto (tgt := 55) hx hb dX10_sortWaiting_71 (by decide) ?_
      exact ih v1_55 v2_55 (v3_55 + 1) _ _ _ _ hH (lv_sub hl [1, 2, 0, 3] rfl) hf
set_option maxHeartbeats 4000000 in
set_option maxRecDepth 100000 in
theorem k_X10_sortWaiting (l : Launch) (E : Ev) (K : Kd) (z : Nat) (o : Nat) (a_1 : Option Nat) (w : Wd) (ho : K o = some (9, 0)) {r : Int32} {w' : Wd} (hf : f_X10_sortWaiting K o a_1 w = some (r, w')) : Met l yX10_sortWaiting (Cond.code yX10_sortWaiting cX10_sortWaiting 4 (Option.some Jvm.ClassFile.FieldType.int) :: bt) ({ frames := 4, cells := 0, slots := 0, locals := 88 } : Room) (va_Pc [rv E (some o), rv E a_1] (HB E K w z)) (QI E K z w' r) 0 0 (hA E) := by
  refine Met.ofW (cc := cX10_sortWaiting) (maxL := 4) (ret := (Option.some Jvm.ClassFile.FieldType.int)) (by decide) rfl ?_
  intro p e s m args below meth c s₁ B hml hv
  obtain ⟨rfl, hz, hP, hKs, hT, hb0⟩ := hv
  have C : CX p l e s m _ meth c cX10_sortWaiting 4 RX10 (Option.some Jvm.ClassFile.FieldType.int) E := ⟨B.exec, B.bytes, hml, findClass_of_methodNamed B.named, fun w h => atoms_spec (ws := Cond.code yX10_sortWaiting cX10_sortWaiting 4 (Option.some Jvm.ClassFile.FieldType.int) :: bt) B.pre w (List.mem_cons_of_mem _ h), hKs, hT, by rw [hz]; exact hb0, B.notSynchronized, B.returns⟩
  have hH : HQ E K z w s s.heap [] := ⟨hP, va_S.rf, hz⟩
  obtain ⟨hx, hb, hml, hown, hts, hKs, hT, hb0, hlocks, hret⟩ := id C
  have hl := lv_entry [rv E (some o), rv E a_1] (n := 4) (by simp [lg_len_nil, lg_len_i, lg_len_j, lg_len_q, lg_len_f, lg_len_d, lg_len_r])
  rw [lg_entry_eq]
  generalize (lg_sl [rv E (some o), rv E a_1] ++ List.replicate (4 - (lg_sl [rv E (some o), rv E a_1]).length) Slot.unset).toArray = ls at hl ⊢
  replace hl : lv_has ls 4 [(0, rv E (some o)), (1, rv E a_1)] := by simpa only [lv_args, cat_q, cat_i, cat_j, reduceIte, Nat.reduceEqDiff, Nat.reduceAdd, Nat.zero_add] using hl
  generalize s.heap = H at hH ⊢
  unfold f_X10_sortWaiting at hf
  refine lv_iconst (v := 0) hx hb dX10_sortWaiting_0 (by decide) ?_
  refine lv_istore_n (i := 2) (lv' := [(2, .int 0), (0, rv E (some o)), (1, rv E a_1)]) hx hb dX10_sortWaiting_1 rfl hl (by decide) (by simp [List.filter_cons, cat_q, cat_i, cat_j, imax, imin]) (fun ls hl => ?_)
  refine lv_iconst (v := 0) hx hb dX10_sortWaiting_2 (by decide) ?_
  refine lv_istore_n (i := 3) (lv' := [(3, .int 0), (2, .int 0), (0, rv E (some o)), (1, rv E a_1)]) hx hb dX10_sortWaiting_3 rfl hl (by decide) rfl (fun ls hl => ?_)
  refine l_X10_sortWaiting_L4  C ho _ (fun v1_4 v2_4 v3_4 w1 H locs ls hH hl hf => ?_) fu a_1 0 0 w _ _ _ hH (lv_sub hl [3, 1, 0, 2] rfl) hf
  refine lv_iconst (v := 0) hx hb dX10_sortWaiting_53 (by decide) ?_
  refine lv_istore_n (i := 3) (lv' := [(3, .int 0), (1, rv E v1_4), (2, .int v2_4), (0, rv E (some o))]) hx hb dX10_sortWaiting_54 rfl hl (by decide) rfl (fun ls hl => ?_)
  refine l_X10_sortWaiting_L55  C ho _ (fun v1_55 v2_55 v3_55 w13 H locs ls hH hl hf => ?_) fu v1_4 v2_4 0 w1 _ _ _ hH (lv_sub hl [1, 2, 0, 3] rfl) hf
  refine lv_iload_n hx hb dX10_sortWaiting_74 rfl (lv_at hl 1 rfl) ?_
  exact hw_iret hx hb hret hf hH hlocks dX10_sortWaiting_75

theorem dJ0_checkIndex_df160_0 : decode cJ0_checkIndex_df160 0 = .ok (.iload_n 0, 1) := by decide +kernel
theorem dJ0_checkIndex_df160_1 : decode cJ0_checkIndex_df160 1 = .ok (.iload_n 1, 1) := by decide +kernel
theorem dJ0_checkIndex_df160_2 : decode cJ0_checkIndex_df160 2 = .ok (.getstatic 1053, 3) := by decide +kernel
theorem dJ0_checkIndex_df160_5 : decode cJ0_checkIndex_df160 5 = .ok (.invokestatic 1059, 3) := by decide +kernel
theorem dJ0_checkIndex_df160_8 : decode cJ0_checkIndex_df160 8 = .ok (.pop, 1) := by decide +kernel
theorem dJ0_checkIndex_df160_9 : decode cJ0_checkIndex_df160 9 = .ok (.return_, 1) := by decide +kernel
theorem hs_J0_checkIndex_df160 : yJ0_checkIndex_df160.cls ≠ "java/lang/invoke/MethodHandle" ∧ yJ0_checkIndex_df160.cls ≠ "java/lang/invoke/VarHandle" ∧ (parseMethodDescriptor yJ0_checkIndex_df160.desc).map (fun d => d.parameters.length) = some 2 := by decide +kernel
set_option maxHeartbeats 4000000 in
set_option maxRecDepth 100000 in
theorem k_J0_checkIndex_df160 (l : Launch) (E : Ev) (K : Kd) (z : Nat) (a_0 : Int32) (a_1 : Int32) (w : Wd) {w' : Wd} (hf : f_J0_checkIndex_df160 K a_0 a_1 w = some w') : Met l yJ0_checkIndex_df160 (Cond.code yJ0_checkIndex_df160 cJ0_checkIndex_df160 2 (Option.none : Option Jvm.ClassFile.FieldType) :: bt) ({ frames := 1, cells := 0, slots := 0, locals := 22 } : Room) (va_Pc [.int a_0, .int a_1] (HB E K w z)) (QV E K z w') 0 0 (hA E) := by
  refine Met.ofW (cc := cJ0_checkIndex_df160) (maxL := 2) (ret := (Option.none : Option Jvm.ClassFile.FieldType)) (by decide) rfl ?_
  intro p e s m args below meth c s₁ B hml hv
  obtain ⟨rfl, hz, hP, hKs, hT, hb0⟩ := hv
  have C : CX p l e s m _ meth c cJ0_checkIndex_df160 2 RJ0 (Option.none : Option Jvm.ClassFile.FieldType) E := ⟨B.exec, B.bytes, hml, findClass_of_methodNamed B.named, fun w h => atoms_spec (ws := Cond.code yJ0_checkIndex_df160 cJ0_checkIndex_df160 2 (Option.none : Option Jvm.ClassFile.FieldType) :: bt) B.pre w (List.mem_cons_of_mem _ h), hKs, hT, by rw [hz]; exact hb0, B.notSynchronized, B.returns⟩
  have hH : HQ E K z w s s.heap [] := ⟨hP, va_S.rf, hz⟩
  obtain ⟨hx, hb, hml, hown, hts, hKs, hT, hb0, hlocks, hret⟩ := id C
  have hl := lv_entry [.int a_0, .int a_1] (n := 2) (by simp [lg_len_nil, lg_len_i, lg_len_j, lg_len_q, lg_len_f, lg_len_d, lg_len_r])
  rw [lg_entry_eq]
  generalize (lg_sl [.int a_0, .int a_1] ++ List.replicate (2 - (lg_sl [.int a_0, .int a_1]).length) Slot.unset).toArray = ls at hl ⊢
  replace hl : lv_has ls 2 [(0, .int a_0), (1, .int a_1)] := by simpa only [lv_args, cat_q, cat_i, cat_j, reduceIte, Nat.reduceEqDiff, Nat.reduceAdd, Nat.zero_add] using hl
  generalize s.heap = H at hH ⊢
  unfold f_J0_checkIndex_df160 at hf
  refine lv_iload_n hx hb dJ0_checkIndex_df160_0 rfl (lv_at hl 0 rfl) ?_
  refine lv_iload_n hx hb dJ0_checkIndex_df160_1 rfl (lv_at hl 1 rfl) ?_
  refine hw_fmt hx hb hts hown hT hH m4_97 dJ0_checkIndex_df160_2 (fun x1 => ?_)
  obtain ⟨q2, hq2, hf⟩ := bnd hf
  refine hcG_i hH (va_runS (As := [.int a_0, .int a_1, va_rf x1]) (rest := []) ⟨hx, hb, hml, hown, hts⟩ (k_J3_checkIndex_8e157 l E K H.size a_0 a_1 w x1  hq2) (va_cwS _ hts (gS m4_99 m4_100 m1_22 m4_101) rfl rfl rfl hs_J3_checkIndex_8e157 ⟨Nat.le_of_ble_eq_true rfl, Nat.le_of_ble_eq_true rfl⟩) ⟨HB.blind, HB.pre hKs hT hb0 hH⟩ rfl rfl hl.1 rfl (lv_room rc0) dJ0_checkIndex_df160_5 ⟨Nat.zero_le _, Nat.zero_le _⟩) (fun H locs hH => ?_)
  refine lv_pop hx hb dJ0_checkIndex_df160_8 rfl ?_
  exact hw_vret hx hb hret hf hH hlocks dJ0_checkIndex_df160_9

theorem dJ0_length_8abf5_0 : decode cJ0_length_8abf5 0 = .ok (.aload_n 0, 1) := by decide +kernel
theorem dJ0_length_8abf5_1 : decode cJ0_length_8abf5 1 = .ok (.getfield 9, 3) := by decide +kernel
theorem dJ0_length_8abf5_4 : decode cJ0_length_8abf5 4 = .ok (.arraylength, 1) := by decide +kernel
theorem dJ0_length_8abf5_5 : decode cJ0_length_8abf5 5 = .ok (.aload_n 0, 1) := by decide +kernel
theorem dJ0_length_8abf5_6 : decode cJ0_length_8abf5 6 = .ok (.invokevirtual 335, 3) := by decide +kernel
theorem dJ0_length_8abf5_9 : decode cJ0_length_8abf5 9 = .ok (.ishr, 1) := by decide +kernel
theorem dJ0_length_8abf5_10 : decode cJ0_length_8abf5 10 = .ok (.ireturn, 1) := by decide +kernel
theorem hd_J0_length_8abf5 : yJ0_length_8abf5.cls = RJ0 ∧ yJ0_length_8abf5.cls ≠ "java/lang/invoke/MethodHandle" ∧ yJ0_length_8abf5.cls ≠ "java/lang/invoke/VarHandle" ∧ (parseMethodDescriptor yJ0_length_8abf5.desc).map (fun d => d.parameters.length) = some 0 := by decide +kernel
theorem hs_J0_length_8abf5 : yJ0_length_8abf5.cls ≠ "java/lang/invoke/MethodHandle" ∧ yJ0_length_8abf5.cls ≠ "java/lang/invoke/VarHandle" ∧ (parseMethodDescriptor yJ0_length_8abf5.desc).map (fun d => d.parameters.length) = some 0 := by decide +kernel
set_option maxHeartbeats 4000000 in
set_option maxRecDepth 100000 in
theorem k_J0_length_8abf5 (l : Launch) (E : Ev) (K : Kd) (z : Nat) (o : Nat) (w : Wd) (ho : K o = some (11, 0)) {r : Int32} {w' : Wd} (hf : f_J0_length_8abf5 K o w = some (r, w')) : Met l yJ0_length_8abf5 (Cond.code yJ0_length_8abf5 cJ0_length_8abf5 1 (Option.some Jvm.ClassFile.FieldType.int) :: bt) ({ frames := 1, cells := 0, slots := 0, locals := 20 } : Room) (va_Pc [rv E (some o)] (HB E K w z)) (QI E K z w' r) 0 0 (hA E) := by
  refine Met.ofW (cc := cJ0_length_8abf5) (maxL := 1) (ret := (Option.some Jvm.ClassFile.FieldType.int)) (by decide) rfl ?_
  intro p e s m args below meth c s₁ B hml hv
  obtain ⟨rfl, hz, hP, hKs, hT, hb0⟩ := hv
  have C : CX p l e s m _ meth c cJ0_length_8abf5 1 RJ0 (Option.some Jvm.ClassFile.FieldType.int) E := ⟨B.exec, B.bytes, hml, findClass_of_methodNamed B.named, fun w h => atoms_spec (ws := Cond.code yJ0_length_8abf5 cJ0_length_8abf5 1 (Option.some Jvm.ClassFile.FieldType.int) :: bt) B.pre w (List.mem_cons_of_mem _ h), hKs, hT, by rw [hz]; exact hb0, B.notSynchronized, B.returns⟩
  have hH : HQ E K z w s s.heap [] := ⟨hP, va_S.rf, hz⟩
  obtain ⟨hx, hb, hml, hown, hts, hKs, hT, hb0, hlocks, hret⟩ := id C
  have hl := lv_entry [rv E (some o)] (n := 1) (by simp [lg_len_nil, lg_len_i, lg_len_j, lg_len_q, lg_len_f, lg_len_d, lg_len_r])
  rw [lg_entry_eq]
  generalize (lg_sl [rv E (some o)] ++ List.replicate (1 - (lg_sl [rv E (some o)]).length) Slot.unset).toArray = ls at hl ⊢
  replace hl : lv_has ls 1 [(0, rv E (some o))] := by simpa only [lv_args, cat_q, cat_i, cat_j, reduceIte, Nat.reduceEqDiff, Nat.reduceAdd, Nat.zero_add] using hl
  generalize s.heap = H at hH ⊢
  unfold f_J0_length_8abf5 at hf
  refine hl_aload_n hx hb dJ0_length_8abf5_0 rfl (lv_at hl 0 rfl) ?_
  refine g20_0 hx hb hts hown hKs hH rfl ho m6_68 dJ0_length_8abf5_1 ?_
  obtain ⟨a1, ha1, hf⟩ := bnd hf
  replace ha1 := cha_some ha1
  refine hw_alen21 hx hb hKs hH ha1.1 ha1.2 dJ0_length_8abf5_4 ?_
  refine hl_aload_n hx hb dJ0_length_8abf5_5 rfl (lv_at hl 0 rfl) ?_
  obtain ⟨q2, hq2, hf⟩ := bnd hf
  refine hcG_i hH (hrV (As := []) (rest := [.int ((nI a1.2))]) rfl ⟨hx, hb, hml, hown, hts⟩ (k_J0_coder_7d493 l E K H.size o w ho hq2) (cwV _ hts (gV m4_77 m4_78 m4_79 m1_18 m4_80) rfl rfl rfl hd_J0_coder_7d493 ⟨Nat.le_of_ble_eq_true rfl, Nat.le_of_ble_eq_true rfl⟩) ⟨HB.blind, hH.1.recv hKs ho rfl rfl, HB.pre hKs hT hb0 hH⟩ rfl hl.1 rfl (rcI rc0) dJ0_length_8abf5_6 ⟨Nat.zero_le _, Nat.zero_le _⟩) (fun H locs hH => ?_)
  refine lv_ishr hx hb dJ0_length_8abf5_9 ?_
  exact hw_iret hx hb hret hf hH hlocks dJ0_length_8abf5_10

theorem dCJ0_length_8abf5_0 : decode cJ0_length_8abf5 0 = .ok (.aload_n 0, 1) := by decide +kernel
theorem dCJ0_length_8abf5_1 : decode cJ0_length_8abf5 1 = .ok (.getfield 9, 3) := by decide +kernel
theorem dCJ0_length_8abf5_4 : decode cJ0_length_8abf5 4 = .ok (.arraylength, 1) := by decide +kernel
theorem dCJ0_length_8abf5_5 : decode cJ0_length_8abf5 5 = .ok (.aload_n 0, 1) := by decide +kernel
theorem dCJ0_length_8abf5_6 : decode cJ0_length_8abf5 6 = .ok (.invokevirtual 335, 3) := by decide +kernel
theorem dCJ0_length_8abf5_9 : decode cJ0_length_8abf5 9 = .ok (.ishr, 1) := by decide +kernel
theorem dCJ0_length_8abf5_10 : decode cJ0_length_8abf5 10 = .ok (.ireturn, 1) := by decide +kernel
theorem hd_CJ0_length_8abf5 : yJ0_length_8abf5.cls = RJ0 ∧ yJ0_length_8abf5.cls ≠ "java/lang/invoke/MethodHandle" ∧ yJ0_length_8abf5.cls ≠ "java/lang/invoke/VarHandle" ∧ (parseMethodDescriptor yJ0_length_8abf5.desc).map (fun d => d.parameters.length) = some 0 := by decide +kernel
theorem hs_CJ0_length_8abf5 : yJ0_length_8abf5.cls ≠ "java/lang/invoke/MethodHandle" ∧ yJ0_length_8abf5.cls ≠ "java/lang/invoke/VarHandle" ∧ (parseMethodDescriptor yJ0_length_8abf5.desc).map (fun d => d.parameters.length) = some 0 := by decide +kernel
set_option maxHeartbeats 4000000 in
set_option maxRecDepth 100000 in
theorem k_CJ0_length_8abf5 (l : Launch) (E : Ev) (K : Kd) (z : Nat) (i : Nat) (w : Wd) (hi : i < 15) {r : Int32} {w' : Wd} (hf : f_CJ0_length_8abf5 K i w = some (r, w')) : Met l yJ0_length_8abf5 (Cond.code yJ0_length_8abf5 cJ0_length_8abf5 1 (Option.some Jvm.ClassFile.FieldType.int) :: bt) ({ frames := 1, cells := 0, slots := 0, locals := 20 } : Room) (va_Pc [.ref (E.2.2.2.1 (300 + i))] (HB E K w z)) (QI E K z w' r) 0 0 (hA E) := by
  refine Met.ofW (cc := cJ0_length_8abf5) (maxL := 1) (ret := (Option.some Jvm.ClassFile.FieldType.int)) (by decide) rfl ?_
  intro p e s m args below meth c s₁ B hml hv
  obtain ⟨rfl, hz, hP, hKs, hT, hb0⟩ := hv
  have C : CX p l e s m _ meth c cJ0_length_8abf5 1 RJ0 (Option.some Jvm.ClassFile.FieldType.int) E := ⟨B.exec, B.bytes, hml, findClass_of_methodNamed B.named, fun w h => atoms_spec (ws := Cond.code yJ0_length_8abf5 cJ0_length_8abf5 1 (Option.some Jvm.ClassFile.FieldType.int) :: bt) B.pre w (List.mem_cons_of_mem _ h), hKs, hT, by rw [hz]; exact hb0, B.notSynchronized, B.returns⟩
  have hH : HQ E K z w s s.heap [] := ⟨hP, va_S.rf, hz⟩
  obtain ⟨hx, hb, hml, hown, hts, hKs, hT, hb0, hlocks, hret⟩ := id C
  have hl := lv_entry [.ref (E.2.2.2.1 (300 + i))] (n := 1) (by simp [lg_len_nil, lg_len_i, lg_len_j, lg_len_q, lg_len_f, lg_len_d, lg_len_r])
  rw [lg_entry_eq]
  generalize (lg_sl [.ref (E.2.2.2.1 (300 + i))] ++ List.replicate (1 - (lg_sl [.ref (E.2.2.2.1 (300 + i))]).length) Slot.unset).toArray = ls at hl ⊢
  replace hl : lv_has ls 1 [(0, .ref (E.2.2.2.1 (300 + i)))] := by simpa only [lv_args, cat_q, cat_i, cat_j, (show ∀ x : Nat, (Value.ref x).category = 1 from fun _ => rfl), reduceIte, Nat.reduceEqDiff, Nat.reduceAdd, Nat.zero_add] using hl
  generalize s.heap = H at hH ⊢
  unfold f_CJ0_length_8abf5 at hf
  refine lv_aload_n hx hb dCJ0_length_8abf5_0 rfl (lv_at hl 0 rfl) ?_
  refine hw_value hx hb hi hts hown hT hH m6_68 dCJ0_length_8abf5_1 ?_
  refine hw_blen hx hb hi hT hH dCJ0_length_8abf5_4 ?_
  refine lv_aload_n hx hb dCJ0_length_8abf5_5 rfl (lv_at hl 0 rfl) ?_
  obtain ⟨q1, hq1, hf⟩ := bnd hf
  refine hcG_i hH (va_runV (As := []) (rest := [.int ((nI (strL.getD i 0)))]) ⟨hx, hb, hml, hown, hts⟩ (k_CJ0_coder_7d493 l E K H.size i w hi hq1) (cwV _ hts (gV m4_77 m4_78 m4_79 m1_18 m4_80) rfl rfl rfl hd_CJ0_coder_7d493 ⟨Nat.le_of_ble_eq_true rfl, Nat.le_of_ble_eq_true rfl⟩) ⟨HB.blind, strRecv hi hT hH, HB.pre hKs hT hb0 hH⟩ rfl rfl hl.1 rfl (lv_room (rcI rc0)) dCJ0_length_8abf5_6 ⟨Nat.zero_le _, Nat.zero_le _⟩) (fun H locs hH => ?_)
  refine lv_ishr hx hb dCJ0_length_8abf5_9 ?_
  exact hw_iret hx hb hret hf hH hlocks dCJ0_length_8abf5_10

theorem dCJ5_append_cf1ce_0 : decode cJ5_append_cf1ce 0 = .ok (.aload_n 1, 1) := by decide +kernel
theorem dCJ5_append_cf1ce_1 : decode cJ5_append_cf1ce 1 = .ok (.ifnonnull 8, 3) := by decide +kernel
theorem dCJ5_append_cf1ce_9 : decode cJ5_append_cf1ce 9 = .ok (.aload_n 1, 1) := by decide +kernel
theorem dCJ5_append_cf1ce_10 : decode cJ5_append_cf1ce 10 = .ok (.invokevirtual 32, 3) := by decide +kernel
theorem dCJ5_append_cf1ce_13 : decode cJ5_append_cf1ce 13 = .ok (.istore_n 2, 1) := by decide +kernel
theorem dCJ5_append_cf1ce_14 : decode cJ5_append_cf1ce 14 = .ok (.aload_n 0, 1) := by decide +kernel
theorem dCJ5_append_cf1ce_15 : decode cJ5_append_cf1ce 15 = .ok (.aload_n 0, 1) := by decide +kernel
theorem dCJ5_append_cf1ce_16 : decode cJ5_append_cf1ce 16 = .ok (.getfield 79, 3) := by decide +kernel
theorem dCJ5_append_cf1ce_19 : decode cJ5_append_cf1ce 19 = .ok (.iload_n 2, 1) := by decide +kernel
theorem dCJ5_append_cf1ce_20 : decode cJ5_append_cf1ce 20 = .ok (.iadd, 1) := by decide +kernel
theorem dCJ5_append_cf1ce_21 : decode cJ5_append_cf1ce 21 = .ok (.invokevirtual 100, 3) := by decide +kernel
theorem dCJ5_append_cf1ce_24 : decode cJ5_append_cf1ce 24 = .ok (.aload_n 0, 1) := by decide +kernel
theorem dCJ5_append_cf1ce_25 : decode cJ5_append_cf1ce 25 = .ok (.aload_n 0, 1) := by decide +kernel
theorem dCJ5_append_cf1ce_26 : decode cJ5_append_cf1ce 26 = .ok (.getfield 79, 3) := by decide +kernel
theorem dCJ5_append_cf1ce_29 : decode cJ5_append_cf1ce 29 = .ok (.aload_n 1, 1) := by decide +kernel
theorem dCJ5_append_cf1ce_30 : decode cJ5_append_cf1ce 30 = .ok (.invokevirtual 208, 3) := by decide +kernel
theorem dCJ5_append_cf1ce_33 : decode cJ5_append_cf1ce 33 = .ok (.aload_n 0, 1) := by decide +kernel
theorem dCJ5_append_cf1ce_34 : decode cJ5_append_cf1ce 34 = .ok (.dup, 1) := by decide +kernel
theorem dCJ5_append_cf1ce_35 : decode cJ5_append_cf1ce 35 = .ok (.getfield 79, 3) := by decide +kernel
theorem dCJ5_append_cf1ce_38 : decode cJ5_append_cf1ce 38 = .ok (.iload_n 2, 1) := by decide +kernel
theorem dCJ5_append_cf1ce_39 : decode cJ5_append_cf1ce 39 = .ok (.iadd, 1) := by decide +kernel
theorem dCJ5_append_cf1ce_40 : decode cJ5_append_cf1ce 40 = .ok (.putfield 79, 3) := by decide +kernel
theorem dCJ5_append_cf1ce_43 : decode cJ5_append_cf1ce 43 = .ok (.aload_n 0, 1) := by decide +kernel
theorem dCJ5_append_cf1ce_44 : decode cJ5_append_cf1ce 44 = .ok (.areturn, 1) := by decide +kernel
theorem hd_CJ5_append_cf1ce : yJ5_append_cf1ce.cls = RJ5 ∧ yJ5_append_cf1ce.cls ≠ "java/lang/invoke/MethodHandle" ∧ yJ5_append_cf1ce.cls ≠ "java/lang/invoke/VarHandle" ∧ (parseMethodDescriptor yJ5_append_cf1ce.desc).map (fun d => d.parameters.length) = some 1 := by decide +kernel
theorem hs_CJ5_append_cf1ce : yJ5_append_cf1ce.cls ≠ "java/lang/invoke/MethodHandle" ∧ yJ5_append_cf1ce.cls ≠ "java/lang/invoke/VarHandle" ∧ (parseMethodDescriptor yJ5_append_cf1ce.desc).map (fun d => d.parameters.length) = some 1 := by decide +kernel
set_option maxHeartbeats 4000000 in
set_option maxRecDepth 100000 in
theorem k_CJ5_append_cf1ce (l : Launch) (E : Ev) (K : Kd) (n : Nat) (o : Nat) (i : Nat) (w : Wd) (hi : i < 15) {K' : Kd} {n' : Nat} {r : Option Nat} {w' : Wd} (hf : f_CJ5_append_cf1ce K n o i w = some (K', n', r, w')) : Met l yJ5_append_cf1ce (Cond.code yJ5_append_cf1ce cJ5_append_cf1ce 3 (Option.some (Jvm.ClassFile.FieldType.object RJ5)) :: bt) ({ frames := 4, cells := 1, slots := 1200, locals := 105 } : Room) (va_Pc [rv E (some o), .ref (E.2.2.2.1 (300 + i))] (HB E K w (E.2.1 + n))) (QR E K' (E.2.1 + n') w' r) 1 1200 (hA E) := by
  refine Met.ofW (cc := cJ5_append_cf1ce) (maxL := 3) (ret := (Option.some (Jvm.ClassFile.FieldType.object RJ5))) (by decide) rfl ?_
  intro p e s m args below meth c s₁ B hml hv
  obtain ⟨rfl, hz, hP, hKs, hT, hb0⟩ := hv
  have C : CX p l e s m _ meth c cJ5_append_cf1ce 3 RJ5 (Option.some (Jvm.ClassFile.FieldType.object RJ5)) E := ⟨B.exec, B.bytes, hml, findClass_of_methodNamed B.named, fun w h => atoms_spec (ws := Cond.code yJ5_append_cf1ce cJ5_append_cf1ce 3 (Option.some (Jvm.ClassFile.FieldType.object RJ5)) :: bt) B.pre w (List.mem_cons_of_mem _ h), hKs, hT, by rw [hz]; exact hb0, B.notSynchronized, B.returns⟩
  have hH : HQ E K (E.2.1 + n) w s s.heap [] := ⟨hP, va_S.rf, hz⟩
  obtain ⟨hx, hb, hml, hown, hts, hKs, hT, hb0, hlocks, hret⟩ := id C
  have hl := lv_entry [rv E (some o), .ref (E.2.2.2.1 (300 + i))] (n := 3) (by simp [lg_len_nil, lg_len_i, lg_len_j, lg_len_q, lg_len_f, lg_len_d, lg_len_r])
  rw [lg_entry_eq]
  generalize (lg_sl [rv E (some o), .ref (E.2.2.2.1 (300 + i))] ++ List.replicate (3 - (lg_sl [rv E (some o), .ref (E.2.2.2.1 (300 + i))]).length) Slot.unset).toArray = ls at hl ⊢
  replace hl : lv_has ls 3 [(0, rv E (some o)), (1, .ref (E.2.2.2.1 (300 + i)))] := by simpa only [lv_args, cat_q, cat_i, cat_j, (show ∀ x : Nat, (Value.ref x).category = 1 from fun _ => rfl), reduceIte, Nat.reduceEqDiff, Nat.reduceAdd, Nat.zero_add] using hl
  generalize s.heap = H at hH ⊢
  unfold f_CJ5_append_cf1ce at hf
  refine lv_aload_n hx hb dCJ5_append_cf1ce_0 rfl (lv_at hl 1 rfl) ?_
  refine lv_ifnonnull (tgt := 9) hx hb dCJ5_append_cf1ce_1 (by decide) ?_
  refine lv_aload_n hx hb dCJ5_append_cf1ce_9 rfl (lv_at hl 1 rfl) ?_
  obtain ⟨q1, hq1, hf⟩ := bnd hf
  refine hcG_i hH (va_runV (As := []) (rest := []) ⟨hx, hb, hml, hown, hts⟩ (k_CJ0_length_8abf5 l E K H.size i w hi hq1) (cwV _ hts (gV m5_156 m4_74 m4_75 m1_18 m4_76) rfl rfl rfl hd_CJ0_length_8abf5 ⟨Nat.le_of_ble_eq_true rfl, Nat.le_of_ble_eq_true rfl⟩) ⟨HB.blind, strRecv hi hT hH, HB.pre hKs hT hb0 hH⟩ rfl rfl hl.1 rfl (lv_room rc0) dCJ5_append_cf1ce_10 ⟨Nat.le_of_ble_eq_true rfl, Nat.le_of_ble_eq_true rfl⟩) (fun H locs hH => ?_)
  refine lv_istore_n (i := 2) (lv' := [(2, .int (q1.1)), (0, rv E (some o)), (1, .ref (E.2.2.2.1 (300 + i)))]) hx hb dCJ5_append_cf1ce_13 rfl hl (by decide) rfl (fun ls hl => ?_)
  refine hl_aload_n hx hb dCJ5_append_cf1ce_14 rfl (lv_at hl 1 rfl) ?_
  refine hl_aload_n hx hb dCJ5_append_cf1ce_15 rfl (lv_at hl 1 rfl) ?_
  obtain ⟨a2, ha2, hf⟩ := bnd hf
  replace ha2 := chk_some ha2
  refine g21_3 hx hb hts hown hKs hH ha2.1 ha2.2 m5_85 dCJ5_append_cf1ce_16 ?_
  refine lv_iload_n hx hb dCJ5_append_cf1ce_19 rfl (lv_at hl 0 rfl) ?_
  refine lv_iadd hx hb dCJ5_append_cf1ce_20 ?_
  obtain ⟨q3, hq3, hf⟩ := bnd hf
  refine hcA hH (hrU (As := [.int (((wI q1.2 2103 a2) + q1.1))]) (rest := []) ha2.1 ⟨hx, hb, hml, hown, hts⟩ (k_J5_ensureCapacityInternal_d00df l E K n a2 ((wI q1.2 2103 a2) + q1.1) q1.2  hq3) (va_cwU _ hts (gU m5_107 m7_12 m5_109 ma_0 m1_16 m5_110) rfl rfl rfl rfl hs_J5_ensureCapacityInternal_d00df ⟨Nat.le_of_ble_eq_true rfl, Nat.le_of_ble_eq_true rfl⟩) ⟨HB.blind, hH.1.recv hKs ha2.2 rfl rfl, HB.preN hKs hT hb0 hH⟩ rfl hl.1 rfl rc0 dCJ5_append_cf1ce_21 ⟨Nat.le_of_ble_eq_true rfl, Nat.le_of_ble_eq_true rfl⟩) (fun H locs hH => ?_)
  refine hl_aload_n hx hb dCJ5_append_cf1ce_24 rfl (lv_at hl 1 rfl) ?_
  refine hl_aload_n hx hb dCJ5_append_cf1ce_25 rfl (lv_at hl 1 rfl) ?_
  obtain ⟨a4, ha4, hf⟩ := bnd hf
  replace ha4 := chk_some ha4
  refine g21_3 hx hb hts hown hKs hH ha4.1 ha4.2 m5_85 dCJ5_append_cf1ce_26 ?_
  refine lv_aload_n hx hb dCJ5_append_cf1ce_29 rfl (lv_at hl 2 rfl) ?_
  obtain ⟨q5, hq5, hf⟩ := bnd hf
  refine hcG_v hH (hrU (As := [.int ((wI q3.2.2 2103 a4)), .ref (E.2.2.2.1 (300 + i))]) (rest := []) ha4.1 ⟨hx, hb, hml, hown, hts⟩ (k_CJ5_putStringAt_47b60 l E q3.1 H.size a4 (wI q3.2.2 2103 a4) i q3.2.2 hi ha4.2 hq5) (va_cwU _ hts (gU m5_157 m7_14 m5_159 ma_2 m1_16 m5_160) rfl rfl rfl rfl hs_CJ5_putStringAt_47b60 ⟨Nat.le_of_ble_eq_true rfl, Nat.le_of_ble_eq_true rfl⟩) ⟨HB.blind, hH.1.recv hKs ha4.2 rfl rfl, HB.pre hKs hT hb0 hH⟩ rfl hl.1 rfl rc0 dCJ5_append_cf1ce_30 ⟨Nat.le_of_ble_eq_true rfl, Nat.le_of_ble_eq_true rfl⟩) (fun H locs hH => ?_)
  refine hl_aload_n hx hb dCJ5_append_cf1ce_33 rfl (lv_at hl 1 rfl) ?_
  refine lv_dup hx hb dCJ5_append_cf1ce_34 rv_cat ?_
  refine g21_3 hx hb hts hown hKs hH ha4.1 ha4.2 m5_85 dCJ5_append_cf1ce_35 ?_
  refine lv_iload_n hx hb dCJ5_append_cf1ce_38 rfl (lv_at hl 0 rfl) ?_
  refine lv_iadd hx hb dCJ5_append_cf1ce_39 ?_
  obtain ⟨w6, hw6, hf⟩ := bnd hf
  replace hw6 := Option.some.inj hw6
  refine p21_3 (v := ((wI q5 2103 a4) + q1.1)) hx hb hts hown hKs hH ha4.1 ha4.2 m5_85 dCJ5_append_cf1ce_40 (fun H locs hH => ?_)
  rw [hw6] at hH
  refine hl_aload_n hx hb dCJ5_append_cf1ce_43 rfl (lv_at hl 1 rfl) ?_
  exact hw_aqret hx hb (Nat.le_of_ble_eq_true rfl) (Nat.le_of_ble_eq_true rfl) hret (by simp) hf hH hlocks dCJ5_append_cf1ce_44
end
