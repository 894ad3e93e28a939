section
variable {p : Program} {l : Launch} {e : Env} {s : State} {m : MethodId} {args : Array Value} {below : List Frame} {meth : Method} {c : Code} {E : Ev} {K : Kd} {z : Nat}

theorem dL_isGood_0 : decode cL_isGood 0 = .ok (.aload_n 0, 1) := by decide +kernel
theorem dL_isGood_1 : decode cL_isGood 1 = .ok (.bipush 10, 2) := by decide +kernel
theorem dL_isGood_3 : decode cL_isGood 3 = .ok (.invokevirtual 140, 3) := by decide +kernel
theorem dL_isGood_6 : decode cL_isGood 6 = .ok (.aload_n 0, 1) := by decide +kernel
theorem dL_isGood_7 : decode cL_isGood 7 = .ok (.bipush 11, 2) := by decide +kernel
theorem dL_isGood_9 : decode cL_isGood 9 = .ok (.invokevirtual 140, 3) := by decide +kernel
theorem dL_isGood_12 : decode cL_isGood 12 = .ok (.iadd, 1) := by decide +kernel
theorem dL_isGood_13 : decode cL_isGood 13 = .ok (.aload_n 0, 1) := by decide +kernel
theorem dL_isGood_14 : decode cL_isGood 14 = .ok (.bipush 12, 2) := by decide +kernel
theorem dL_isGood_16 : decode cL_isGood 16 = .ok (.invokevirtual 140, 3) := by decide +kernel
theorem dL_isGood_19 : decode cL_isGood 19 = .ok (.iadd, 1) := by decide +kernel
theorem dL_isGood_20 : decode cL_isGood 20 = .ok (.aload_n 0, 1) := by decide +kernel
theorem dL_isGood_21 : decode cL_isGood 21 = .ok (.bipush 13, 2) := by decide +kernel
theorem dL_isGood_23 : decode cL_isGood 23 = .ok (.invokevirtual 140, 3) := by decide +kernel
theorem dL_isGood_26 : decode cL_isGood 26 = .ok (.iadd, 1) := by decide +kernel
theorem dL_isGood_27 : decode cL_isGood 27 = .ok (.iconst 4, 1) := by decide +kernel
theorem dL_isGood_28 : decode cL_isGood 28 = .ok (.if_icmp .eq 5, 3) := by decide +kernel
theorem dL_isGood_31 : decode cL_isGood 31 = .ok (.iconst 0, 1) := by decide +kernel
theorem dL_isGood_33 : decode cL_isGood 33 = .ok (.iconst 2, 1) := by decide +kernel
theorem dL_isGood_34 : decode cL_isGood 34 = .ok (.newarray .int, 2) := by decide +kernel
theorem dL_isGood_36 : decode cL_isGood 36 = .ok (.astore_n 1, 1) := by decide +kernel
theorem dL_isGood_37 : decode cL_isGood 37 = .ok (.iconst 0, 1) := by decide +kernel
theorem dL_isGood_38 : decode cL_isGood 38 = .ok (.istore_n 2, 1) := by decide +kernel
theorem dL_isGood_39 : decode cL_isGood 39 = .ok (.iload_n 2, 1) := by decide +kernel
theorem dL_isGood_40 : decode cL_isGood 40 = .ok (.iconst 4, 1) := by decide +kernel
theorem dL_isGood_41 : decode cL_isGood 41 = .ok (.if_icmp .ge 241, 3) := by decide +kernel
theorem dL_isGood_44 : decode cL_isGood 44 = .ok (.aload_n 0, 1) := by decide +kernel
theorem dL_isGood_45 : decode cL_isGood 45 = .ok (.iload_n 2, 1) := by decide +kernel
theorem dL_isGood_46 : decode cL_isGood 46 = .ok (.iconst 5, 1) := by decide +kernel
theorem dL_isGood_47 : decode cL_isGood 47 = .ok (.invokevirtual 143, 3) := by decide +kernel
theorem dL_isGood_50 : decode cL_isGood 50 = .ok (.istore_n 3, 1) := by decide +kernel
theorem dL_isGood_51 : decode cL_isGood 51 = .ok (.iload_n 3, 1) := by decide +kernel
theorem dL_isGood_52 : decode cL_isGood 52 = .ok (.iconst 1, 1) := by decide +kernel
theorem dL_isGood_53 : decode cL_isGood 53 = .ok (.if_icmp .eq 8, 3) := by decide +kernel
theorem dL_isGood_56 : decode cL_isGood 56 = .ok (.iload_n 3, 1) := by decide +kernel
theorem dL_isGood_57 : decode cL_isGood 57 = .ok (.iconst 2, 1) := by decide +kernel
theorem dL_isGood_58 : decode cL_isGood 58 = .ok (.if_icmp .ne 7, 3) := by decide +kernel
theorem dL_isGood_61 : decode cL_isGood 61 = .ok (.iconst 1, 1) := by decide +kernel
theorem dL_isGood_62 : decode cL_isGood 62 = .ok (.goto 4, 3) := by decide +kernel
theorem dL_isGood_65 : decode cL_isGood 65 = .ok (.iconst 0, 1) := by decide +kernel
theorem dL_isGood_66 : decode cL_isGood 66 = .ok (.aload_n 0, 1) := by decide +kernel
theorem dL_isGood_67 : decode cL_isGood 67 = .ok (.iload_n 2, 1) := by decide +kernel
theorem dL_isGood_68 : decode cL_isGood 68 = .ok (.iconst 0, 1) := by decide +kernel
theorem dL_isGood_69 : decode cL_isGood 69 = .ok (.invokevirtual 146, 3) := by decide +kernel
theorem dL_isGood_72 : decode cL_isGood 72 = .ok (.ifCond .lt 7, 3) := by decide +kernel
theorem dL_isGood_75 : decode cL_isGood 75 = .ok (.iconst 1, 1) := by decide +kernel
theorem dL_isGood_76 : decode cL_isGood 76 = .ok (.goto 4, 3) := by decide +kernel
theorem dL_isGood_79 : decode cL_isGood 79 = .ok (.iconst 0, 1) := by decide +kernel
theorem dL_isGood_80 : decode cL_isGood 80 = .ok (.if_icmp .ne 48, 3) := by decide +kernel
theorem dL_isGood_83 : decode cL_isGood 83 = .ok (.iload_n 3, 1) := by decide +kernel
theorem dL_isGood_84 : decode cL_isGood 84 = .ok (.ifCond .ne 18, 3) := by decide +kernel
theorem dL_isGood_87 : decode cL_isGood 87 = .ok (.aload_n 0, 1) := by decide +kernel
theorem dL_isGood_88 : decode cL_isGood 88 = .ok (.iload_n 2, 1) := by decide +kernel
theorem dL_isGood_89 : decode cL_isGood 89 = .ok (.iconst 4, 1) := by decide +kernel
theorem dL_isGood_90 : decode cL_isGood 90 = .ok (.invokevirtual 143, 3) := by decide +kernel
theorem dL_isGood_93 : decode cL_isGood 93 = .ok (.aload_n 0, 1) := by decide +kernel
theorem dL_isGood_94 : decode cL_isGood 94 = .ok (.bipush 7, 2) := by decide +kernel
theorem dL_isGood_96 : decode cL_isGood 96 = .ok (.invokevirtual 140, 3) := by decide +kernel
theorem dL_isGood_99 : decode cL_isGood 99 = .ok (.if_icmp .lt 29, 3) := by decide +kernel
theorem dL_isGood_102 : decode cL_isGood 102 = .ok (.aload_n 0, 1) := by decide +kernel
theorem dL_isGood_103 : decode cL_isGood 103 = .ok (.iload_n 2, 1) := by decide +kernel
theorem dL_isGood_104 : decode cL_isGood 104 = .ok (.bipush 6, 2) := by decide +kernel
theorem dL_isGood_106 : decode cL_isGood 106 = .ok (.invokevirtual 143, 3) := by decide +kernel
theorem dL_isGood_109 : decode cL_isGood 109 = .ok (.iconst 1, 1) := by decide +kernel
theorem dL_isGood_110 : decode cL_isGood 110 = .ok (.if_icmp .ne 20, 3) := by decide +kernel
theorem dL_isGood_113 : decode cL_isGood 113 = .ok (.aload_n 0, 1) := by decide +kernel
theorem dL_isGood_114 : decode cL_isGood 114 = .ok (.iload_n 2, 1) := by decide +kernel
theorem dL_isGood_115 : decode cL_isGood 115 = .ok (.iconst 3, 1) := by decide +kernel
theorem dL_isGood_116 : decode cL_isGood 116 = .ok (.invokevirtual 143, 3) := by decide +kernel
theorem dL_isGood_119 : decode cL_isGood 119 = .ok (.aload_n 0, 1) := by decide +kernel
theorem dL_isGood_120 : decode cL_isGood 120 = .ok (.bipush 8, 2) := by decide +kernel
theorem dL_isGood_122 : decode cL_isGood 122 = .ok (.invokevirtual 140, 3) := by decide +kernel
theorem dL_isGood_125 : decode cL_isGood 125 = .ok (.if_icmp .le 5, 3) := by decide +kernel
theorem dL_isGood_128 : decode cL_isGood 128 = .ok (.iconst 0, 1) := by decide +kernel
theorem dL_isGood_129 : decode cL_isGood 129 = .ok (.ireturn, 1) := by decide +kernel
theorem dL_isGood_130 : decode cL_isGood 130 = .ok (.iconst 0, 1) := by decide +kernel
theorem dL_isGood_131 : decode cL_isGood 131 = .ok (.istore 4, 2) := by decide +kernel
theorem dL_isGood_133 : decode cL_isGood 133 = .ok (.iconst 0, 1) := by decide +kernel
theorem dL_isGood_134 : decode cL_isGood 134 = .ok (.istore 5, 2) := by decide +kernel
theorem dL_isGood_136 : decode cL_isGood 136 = .ok (.iload 5, 2) := by decide +kernel
theorem dL_isGood_138 : decode cL_isGood 138 = .ok (.aload_n 0, 1) := by decide +kernel
theorem dL_isGood_139 : decode cL_isGood 139 = .ok (.iload_n 2, 1) := by decide +kernel
theorem dL_isGood_140 : decode cL_isGood 140 = .ok (.bipush 7, 2) := by decide +kernel
theorem dL_isGood_142 : decode cL_isGood 142 = .ok (.invokevirtual 143, 3) := by decide +kernel
theorem dL_isGood_145 : decode cL_isGood 145 = .ok (.if_icmp .ge 22, 3) := by decide +kernel
theorem dL_isGood_148 : decode cL_isGood 148 = .ok (.iload 4, 2) := by decide +kernel
theorem dL_isGood_150 : decode cL_isGood 150 = .ok (.aload_n 0, 1) := by decide +kernel
theorem dL_isGood_151 : decode cL_isGood 151 = .ok (.iload_n 2, 1) := by decide +kernel
theorem dL_isGood_152 : decode cL_isGood 152 = .ok (.iload 5, 2) := by decide +kernel
theorem dL_isGood_154 : decode cL_isGood 154 = .ok (.iconst 3, 1) := by decide +kernel
theorem dL_isGood_155 : decode cL_isGood 155 = .ok (.invokevirtual 149, 3) := by decide +kernel
theorem dL_isGood_158 : decode cL_isGood 158 = .ok (.iadd, 1) := by decide +kernel
theorem dL_isGood_159 : decode cL_isGood 159 = .ok (.istore 4, 2) := by decide +kernel
theorem dL_isGood_161 : decode cL_isGood 161 = .ok (.iinc 5 1, 3) := by decide +kernel
theorem dL_isGood_164 : decode cL_isGood 164 = .ok (.goto (-28), 3) := by decide +kernel
theorem dL_isGood_167 : decode cL_isGood 167 = .ok (.iload 4, 2) := by decide +kernel
theorem dL_isGood_169 : decode cL_isGood 169 = .ok (.aload_n 0, 1) := by decide +kernel
theorem dL_isGood_170 : decode cL_isGood 170 = .ok (.iload_n 2, 1) := by decide +kernel
theorem dL_isGood_171 : decode cL_isGood 171 = .ok (.iconst 3, 1) := by decide +kernel
theorem dL_isGood_172 : decode cL_isGood 172 = .ok (.invokevirtual 143, 3) := by decide +kernel
theorem dL_isGood_175 : decode cL_isGood 175 = .ok (.if_icmp .eq 5, 3) := by decide +kernel
theorem dL_isGood_178 : decode cL_isGood 178 = .ok (.iconst 0, 1) := by decide +kernel
theorem dL_isGood_179 : decode cL_isGood 179 = .ok (.ireturn, 1) := by decide +kernel
theorem dL_isGood_180 : decode cL_isGood 180 = .ok (.aload_n 0, 1) := by decide +kernel
theorem dL_isGood_181 : decode cL_isGood 181 = .ok (.iload_n 2, 1) := by decide +kernel
theorem dL_isGood_182 : decode cL_isGood 182 = .ok (.iconst 0, 1) := by decide +kernel
theorem dL_isGood_183 : decode cL_isGood 183 = .ok (.invokevirtual 146, 3) := by decide +kernel
theorem dL_isGood_186 : decode cL_isGood 186 = .ok (.ifCond .ge 6, 3) := by decide +kernel
theorem dL_isGood_189 : decode cL_isGood 189 = .ok (.goto 87, 3) := by decide +kernel
theorem dL_isGood_192 : decode cL_isGood 192 = .ok (.aload_n 1, 1) := by decide +kernel
theorem dL_isGood_193 : decode cL_isGood 193 = .ok (.aload_n 0, 1) := by decide +kernel
theorem dL_isGood_194 : decode cL_isGood 194 = .ok (.iload_n 2, 1) := by decide +kernel
theorem dL_isGood_195 : decode cL_isGood 195 = .ok (.iconst 3, 1) := by decide +kernel
theorem dL_isGood_196 : decode cL_isGood 196 = .ok (.invokevirtual 146, 3) := by decide +kernel
theorem dL_isGood_199 : decode cL_isGood 199 = .ok (.dup2, 1) := by decide +kernel
theorem dL_isGood_200 : decode cL_isGood 200 = .ok (.iaload, 1) := by decide +kernel
theorem dL_isGood_201 : decode cL_isGood 201 = .ok (.aload_n 0, 1) := by decide +kernel
theorem dL_isGood_202 : decode cL_isGood 202 = .ok (.iload_n 2, 1) := by decide +kernel
theorem dL_isGood_203 : decode cL_isGood 203 = .ok (.iconst 1, 1) := by decide +kernel
theorem dL_isGood_204 : decode cL_isGood 204 = .ok (.invokevirtual 143, 3) := by decide +kernel
theorem dL_isGood_207 : decode cL_isGood 207 = .ok (.iadd, 1) := by decide +kernel
theorem dL_isGood_208 : decode cL_isGood 208 = .ok (.iastore, 1) := by decide +kernel
theorem dL_isGood_209 : decode cL_isGood 209 = .ok (.aload_n 0, 1) := by decide +kernel
theorem dL_isGood_210 : decode cL_isGood 210 = .ok (.aload_n 0, 1) := by decide +kernel
theorem dL_isGood_211 : decode cL_isGood 211 = .ok (.iload_n 2, 1) := by decide +kernel
theorem dL_isGood_212 : decode cL_isGood 212 = .ok (.iconst 2, 1) := by decide +kernel
theorem dL_isGood_213 : decode cL_isGood 213 = .ok (.invokevirtual 146, 3) := by decide +kernel
theorem dL_isGood_216 : decode cL_isGood 216 = .ok (.aload_n 0, 1) := by decide +kernel
theorem dL_isGood_217 : decode cL_isGood 217 = .ok (.iload_n 2, 1) := by decide +kernel
theorem dL_isGood_218 : decode cL_isGood 218 = .ok (.iconst 0, 1) := by decide +kernel
theorem dL_isGood_219 : decode cL_isGood 219 = .ok (.invokevirtual 146, 3) := by decide +kernel
theorem dL_isGood_222 : decode cL_isGood 222 = .ok (.aload_n 0, 1) := by decide +kernel
theorem dL_isGood_223 : decode cL_isGood 223 = .ok (.iload_n 2, 1) := by decide +kernel
theorem dL_isGood_224 : decode cL_isGood 224 = .ok (.iconst 1, 1) := by decide +kernel
theorem dL_isGood_225 : decode cL_isGood 225 = .ok (.invokevirtual 146, 3) := by decide +kernel
theorem dL_isGood_228 : decode cL_isGood 228 = .ok (.invokevirtual 153, 3) := by decide +kernel
theorem dL_isGood_231 : decode cL_isGood 231 = .ok (.iload_n 2, 1) := by decide +kernel
theorem dL_isGood_232 : decode cL_isGood 232 = .ok (.if_icmp .eq 5, 3) := by decide +kernel
theorem dL_isGood_235 : decode cL_isGood 235 = .ok (.iconst 0, 1) := by decide +kernel
theorem dL_isGood_236 : decode cL_isGood 236 = .ok (.ireturn, 1) := by decide +kernel
theorem dL_isGood_237 : decode cL_isGood 237 = .ok (.iload_n 3, 1) := by decide +kernel
theorem dL_isGood_238 : decode cL_isGood 238 = .ok (.iconst 1, 1) := by decide +kernel
theorem dL_isGood_239 : decode cL_isGood 239 = .ok (.if_icmp .ne 37, 3) := by decide +kernel
theorem dL_isGood_242 : decode cL_isGood 242 = .ok (.aload_n 0, 1) := by decide +kernel
theorem dL_isGood_243 : decode cL_isGood 243 = .ok (.iload_n 2, 1) := by decide +kernel
theorem dL_isGood_244 : decode cL_isGood 244 = .ok (.aload_n 0, 1) := by decide +kernel
theorem dL_isGood_245 : decode cL_isGood 245 = .ok (.iload_n 2, 1) := by decide +kernel
theorem dL_isGood_246 : decode cL_isGood 246 = .ok (.iconst 0, 1) := by decide +kernel
theorem dL_isGood_247 : decode cL_isGood 247 = .ok (.invokevirtual 146, 3) := by decide +kernel
theorem dL_isGood_250 : decode cL_isGood 250 = .ok (.aload_n 0, 1) := by decide +kernel
theorem dL_isGood_251 : decode cL_isGood 251 = .ok (.iload_n 2, 1) := by decide +kernel
theorem dL_isGood_252 : decode cL_isGood 252 = .ok (.iconst 1, 1) := by decide +kernel
theorem dL_isGood_253 : decode cL_isGood 253 = .ok (.invokevirtual 146, 3) := by decide +kernel
theorem dL_isGood_256 : decode cL_isGood 256 = .ok (.aload_n 0, 1) := by decide +kernel
theorem dL_isGood_257 : decode cL_isGood 257 = .ok (.iload_n 2, 1) := by decide +kernel
theorem dL_isGood_258 : decode cL_isGood 258 = .ok (.iconst 2, 1) := by decide +kernel
theorem dL_isGood_259 : decode cL_isGood 259 = .ok (.invokevirtual 146, 3) := by decide +kernel
theorem dL_isGood_262 : decode cL_isGood 262 = .ok (.aload_n 0, 1) := by decide +kernel
theorem dL_isGood_263 : decode cL_isGood 263 = .ok (.iload_n 2, 1) := by decide +kernel
theorem dL_isGood_264 : decode cL_isGood 264 = .ok (.iconst 3, 1) := by decide +kernel
theorem dL_isGood_265 : decode cL_isGood 265 = .ok (.invokevirtual 146, 3) := by decide +kernel
theorem dL_isGood_268 : decode cL_isGood 268 = .ok (.invokevirtual 156, 3) := by decide +kernel
theorem dL_isGood_271 : decode cL_isGood 271 = .ok (.ifCond .eq 5, 3) := by decide +kernel
theorem dL_isGood_274 : decode cL_isGood 274 = .ok (.iconst 0, 1) := by decide +kernel
theorem dL_isGood_275 : decode cL_isGood 275 = .ok (.ireturn, 1) := by decide +kernel
theorem dL_isGood_276 : decode cL_isGood 276 = .ok (.iinc 2 1, 3) := by decide +kernel
theorem dL_isGood_279 : decode cL_isGood 279 = .ok (.goto (-240), 3) := by decide +kernel
theorem dL_isGood_282 : decode cL_isGood 282 = .ok (.aload_n 1, 1) := by decide +kernel
theorem dL_isGood_283 : decode cL_isGood 283 = .ok (.iconst 0, 1) := by decide +kernel
theorem dL_isGood_284 : decode cL_isGood 284 = .ok (.iaload, 1) := by decide +kernel
theorem dL_isGood_285 : decode cL_isGood 285 = .ok (.aload_n 0, 1) := by decide +kernel
theorem dL_isGood_286 : decode cL_isGood 286 = .ok (.iconst 0, 1) := by decide +kernel
theorem dL_isGood_287 : decode cL_isGood 287 = .ok (.invokevirtual 159, 3) := by decide +kernel
theorem dL_isGood_290 : decode cL_isGood 290 = .ok (.if_icmp .ne 18, 3) := by decide +kernel
theorem dL_isGood_293 : decode cL_isGood 293 = .ok (.aload_n 1, 1) := by decide +kernel
theorem dL_isGood_294 : decode cL_isGood 294 = .ok (.iconst 1, 1) := by decide +kernel
theorem dL_isGood_295 : decode cL_isGood 295 = .ok (.iaload, 1) := by decide +kernel
theorem dL_isGood_296 : decode cL_isGood 296 = .ok (.aload_n 0, 1) := by decide +kernel
theorem dL_isGood_297 : decode cL_isGood 297 = .ok (.iconst 1, 1) := by decide +kernel
theorem dL_isGood_298 : decode cL_isGood 298 = .ok (.invokevirtual 159, 3) := by decide +kernel
theorem dL_isGood_301 : decode cL_isGood 301 = .ok (.if_icmp .ne 7, 3) := by decide +kernel
theorem dL_isGood_304 : decode cL_isGood 304 = .ok (.iconst 1, 1) := by decide +kernel
theorem dL_isGood_305 : decode cL_isGood 305 = .ok (.goto 4, 3) := by decide +kernel
theorem dL_isGood_308 : decode cL_isGood 308 = .ok (.iconst 0, 1) := by decide +kernel
theorem dL_isGood_309 : decode cL_isGood 309 = .ok (.ireturn, 1) := by decide +kernel
theorem hs_L_isGood : yL_isGood.cls ≠ "java/lang/invoke/MethodHandle" ∧ yL_isGood.cls ≠ "java/lang/invoke/VarHandle" ∧ (parseMethodDescriptor yL_isGood.desc).map (fun d => d.parameters.length) = some 1 := by decide +kernel
set_option maxHeartbeats 4000000 in
set_option maxRecDepth 100000 in
theorem l_L_isGood_L136 (C : CX p l e s m args meth c cL_isGood 6 RL (Option.some Jvm.ClassFile.FieldType.boolean) E) {r : Bool} {w' : Wd} (k : Option Nat → Option Nat → Int32 → Int32 → Int32 → Int32 → Wd → Option (Bool × Wd)) (hk : ∀ (v0_136 : Option Nat) (v1_136 : Option Nat) (v2_136 : Int32) (v3_136 : Int32) (v4_136 : Int32) (v5_136 : Int32) (w : Wd) (H : Heap) (locs : List Loc) (ls : Array Slot), HQ E K z w s H locs → lv_has ls 6 [(0, rv E v0_136), (1, rv E v1_136), (2, .int v2_136), (3, .int v3_136), (4, .int v4_136), (5, .int v5_136)] → k v0_136 v1_136 v2_136 v3_136 v4_136 v5_136 w = some (r, w') → W p l e ({ frames := 5, cells := 1, slots := 6, locals := 129 } : Room) s m args below meth c H locs 1 2 (MQ below (QW E K w' (b2i r)) args s 1 6 (hA E)) (F0 m 167 ls [])) : ∀ (n : Nat) (v0_136 : Option Nat) (v1_136 : Option Nat) (v2_136 : Int32) (v3_136 : Int32) (v4_136 : Int32) (v5_136 : Int32) (w : Wd) (H : Heap) (locs : List Loc) (ls : Array Slot), HQ E K z w s H locs → lv_has ls 6 [(0, rv E v0_136), (1, rv E v1_136), (2, .int v2_136), (3, .int v3_136), (4, .int v4_136), (5, .int v5_136)] → f_L_isGood_L136 K k n v0_136 v1_136 v2_136 v3_136 v4_136 v5_136 w = some (r, w') → W p l e ({ frames := 5, cells := 1, slots := 6, locals := 129 } : Room) s m args below meth c H locs 1 2 (MQ below (QW E K w' (b2i r)) args s 1 6 (hA E)) (F0 m 136 ls []) := by
  obtain ⟨hx, hb, hml, hown, hts, hKs, hT, hb0, hlocks, hret⟩ := id C
  intro n
  induction n with
  | zero =>
    intro v0_136 v1_136 v2_136 v3_136 v4_136 v5_136 w H locs ls hH hl hf
    cases hf
  | succ n ih =>
    intro v0_136 v1_136 v2_136 v3_136 v4_136 v5_136 w H locs ls hH hl hf
    rw [f_L_isGood_L136] at hf
    refine lv_iload hx hb dL_isGood_136 (lv_at hl 5 rfl) ?_
    refine hl_aload_n hx hb dL_isGood_138 rfl (lv_at hl 0 rfl) ?_
    refine lv_iload_n hx hb dL_isGood_139 rfl (lv_at hl 2 rfl) ?_
    refine lv_bipush (v := 7) hx hb dL_isGood_140 (by decide) ?_
    obtain ⟨a21, ha21, hf⟩ := bnd hf
    replace ha21 := chk_some ha21
    obtain ⟨q22, hq22, hf⟩ := bnd hf
    refine hcV_i hx hb hml hown hts hKs hT hb0 hH (As := [.int v2_136, .int 7]) (rest := [.int v5_136]) (k_NX12_matter l E K H.size a21 v2_136 7 w ha21.2 hq22) (gV m6_182 m6_183 m6_184 m1_1 m6_185) hd_NX12_matter ⟨Nat.le_of_ble_eq_true rfl, Nat.le_of_ble_eq_true rfl, rfl, rfl⟩ ha21.1 ha21.2 rfl rfl rfl hl.1 rfl (rcI rc0) rfl dL_isGood_142 ⟨Nat.le_of_ble_eq_true rfl, Nat.le_of_ble_eq_true rfl⟩ (fun H locs hH => ?_)
    refine lv_icmp_ge (tgt := 167) hx hb dL_isGood_145 (by decide) (fun c23 => ?_) (fun c23 => ?_)
    · replace hf := (if_pos c23).symm.trans hf
      exact hk v0_136 v1_136 v2_136 v3_136 v4_136 v5_136 _ _ _ _ hH (lv_sub hl [0, 1, 2, 3, 4, 5] rfl) hf
    · replace hf := (if_neg c23).symm.trans hf
      refine lv_iload hx hb dL_isGood_148 (lv_at hl 4 rfl) ?_
      refine hl_aload_n hx hb dL_isGood_150 rfl (lv_at hl 0 rfl) ?_
      refine lv_iload_n hx hb dL_isGood_151 rfl (lv_at hl 2 rfl) ?_
      refine lv_iload hx hb dL_isGood_152 (lv_at hl 5 rfl) ?_
      refine lv_iconst (v := 3) hx hb dL_isGood_154 (by decide) ?_
      obtain ⟨q24, hq24, hf⟩ := bnd hf
      refine hcV_i hx hb hml hown hts hKs hT hb0 hH (As := [.int v2_136, .int v5_136, .int 3]) (rest := [.int v4_136]) (k_NX12_adjournment l E K H.size a21 v2_136 v5_136 3 q22.2 ha21.2 hq24) (gV m6_191 m6_192 m6_193 m1_1 m6_194) hd_NX12_adjournment ⟨Nat.le_of_ble_eq_true rfl, Nat.le_of_ble_eq_true rfl, rfl, rfl⟩ ha21.1 ha21.2 rfl rfl rfl hl.1 rfl (rcI rc0) rfl dL_isGood_155 ⟨Nat.le_of_ble_eq_true rfl, Nat.le_of_ble_eq_true rfl⟩ (fun H locs hH => ?_)
      refine lv_iadd hx hb dL_isGood_158 ?_
      refine lv_istore (i := 4) (lv' := [(4, .int ((v4_136 + q24.1))), (0, rv E v0_136), (1, rv E v1_136), (2, .int v2_136), (3, .int v3_136), (5, .int v5_136)]) hx hb dL_isGood_159 hl (by decide) rfl (fun ls hl => ?_)
      refine lv_iinc (v := (v5_136 + 1)) (lv' := [(5, .int ((v5_136 + 1))), (4, .int ((v4_136 + q24.1))), (0, rv E v0_136), (1, rv E v1_136), (2, .int v2_136), (3, .int v3_136)]) hx hb dL_isGood_161 hl (k := 5) rfl rfl (by decide) rfl (fun ls hl => ?_)
      refine lv_goto (tgt := 136) hx hb dL_isGood_164 (by decide) ?_
      exact ih v0_136 v1_136 v2_136 v3_136 (v4_136 + q24.1) (v5_136 + 1) _ _ _ _ hH (lv_sub hl [2, 3, 4, 5, 1, 0] rfl) hf
set_option maxHeartbeats 4000000 in
set_option maxRecDepth 100000 in
theorem l_L_isGood_L39 (C : CX p l e s m args meth c cL_isGood 6 RL (Option.some Jvm.ClassFile.FieldType.boolean) E) {r : Bool} {w' : Wd} (k : Option Nat → Option Nat → Int32 → Wd → Option (Bool × Wd)) (hk : ∀ (v0_39 : Option Nat) (v1_39 : Option Nat) (v2_39 : Int32) (w : Wd) (H : Heap) (locs : List Loc) (ls : Array Slot), HQ E K z w s H locs → lv_has ls 6 [(0, rv E v0_39), (1, rv E v1_39), (2, .int v2_39)] → k v0_39 v1_39 v2_39 w = some (r, w') → W p l e ({ frames := 5, cells := 1, slots := 6, locals := 129 } : Room) s m args below meth c H locs 1 2 (MQ below (QW E K w' (b2i r)) args s 1 6 (hA E)) (F0 m 282 ls [])) : ∀ (n : Nat) (v0_39 : Option Nat) (v1_39 : Option Nat) (v2_39 : Int32) (w : Wd) (H : Heap) (locs : List Loc) (ls : Array Slot), HQ E K z w s H locs → lv_has ls 6 [(0, rv E v0_39), (1, rv E v1_39), (2, .int v2_39)] → f_L_isGood_L39 K k n v0_39 v1_39 v2_39 w = some (r, w') → W p l e ({ frames := 5, cells := 1, slots := 6, locals := 129 } : Room) s m args below meth c H locs 1 2 (MQ below (QW E K w' (b2i r)) args s 1 6 (hA E)) (F0 m 39 ls []) := by
  obtain ⟨hx, hb, hml, hown, hts, hKs, hT, hb0, hlocks, hret⟩ := id C
  intro n
  induction n with
  | zero =>
    intro v0_39 v1_39 v2_39 w H locs ls hH hl hf
    cases hf
  | succ n ih =>
    intro v0_39 v1_39 v2_39 w H locs ls hH hl hf
    rw [f_L_isGood_L39] at hf
    refine lv_iload_n hx hb dL_isGood_39 rfl (lv_at hl 2 rfl) ?_
    refine lv_iconst (v := 4) hx hb dL_isGood_40 (by decide) ?_
    refine lv_icmp_ge (tgt := 282) hx hb dL_isGood_41 (by decide) (fun c9 => ?_) (fun c9 => ?_)
    · replace hf := (if_pos c9).symm.trans hf
      exact hk v0_39 v1_39 v2_39 _ _ _ _ hH (lv_sub hl [0, 1, 2] rfl) hf
    · replace hf := (if_neg c9).symm.trans hf
      refine hl_aload_n hx hb dL_isGood_44 rfl (lv_at hl 0 rfl) ?_
      refine lv_iload_n hx hb dL_isGood_45 rfl (lv_at hl 2 rfl) ?_
      refine lv_iconst (v := 5) hx hb dL_isGood_46 (by decide) ?_
      obtain ⟨a10, ha10, hf⟩ := bnd hf
      replace ha10 := chk_some ha10
      obtain ⟨q11, hq11, hf⟩ := bnd hf
      refine hcV_i hx hb hml hown hts hKs hT hb0 hH (As := [.int v2_39, .int 5]) (rest := []) (k_NX12_matter l E K H.size a10 v2_39 5 w ha10.2 hq11) (gV m6_182 m6_183 m6_184 m1_1 m6_185) hd_NX12_matter ⟨Nat.le_of_ble_eq_true rfl, Nat.le_of_ble_eq_true rfl, rfl, rfl⟩ ha10.1 ha10.2 rfl rfl rfl hl.1 rfl rc0 rfl dL_isGood_47 ⟨Nat.le_of_ble_eq_true rfl, Nat.le_of_ble_eq_true rfl⟩ (fun H locs hH => ?_)
      refine lv_istore_n (i := 3) (lv' := [(3, .int (q11.1)), (0, rv E v0_39), (1, rv E v1_39), (2, .int v2_39)]) hx hb dL_isGood_50 rfl hl (by decide) rfl (fun ls hl => ?_)
      refine lv_iload_n hx hb dL_isGood_51 rfl (lv_at hl 0 rfl) ?_
      refine lv_iconst (v := 1) hx hb dL_isGood_52 (by decide) ?_
      refine lv_icmp_eq (tgt := 61) hx hb dL_isGood_53 (by decide) (fun c12 => ?_) (fun c12 => ?_)
      · replace hf := (if_pos c12).symm.trans hf
        refine lv_iconst (v := 1) hx hb dL_isGood_61 (by decide) ?_
        refine lv_goto (tgt := 66) hx hb dL_isGood_62 (by decide) ?_
        refine hl_aload_n hx hb dL_isGood_66 rfl (lv_at hl 1 rfl) ?_
        refine lv_iload_n hx hb dL_isGood_67 rfl (lv_at hl 3 rfl) ?_
        refine lv_iconst (v := 0) hx hb dL_isGood_68 (by decide) ?_
        obtain ⟨q13, hq13, hf⟩ := bnd hf
        refine hcV_i hx hb hml hown hts hKs hT hb0 hH (As := [.int v2_39, .int 0]) (rest := [.int 1]) (k_NX12_hearing l E K H.size a10 v2_39 0 q11.2 ha10.2 hq13) (gV m6_187 m6_188 m6_189 m1_1 m6_190) hd_NX12_hearing ⟨Nat.le_of_ble_eq_true rfl, Nat.le_of_ble_eq_true rfl, rfl, rfl⟩ ha10.1 ha10.2 rfl rfl rfl hl.1 rfl (rcI rc0) rfl dL_isGood_69 ⟨Nat.le_of_ble_eq_true rfl, Nat.le_of_ble_eq_true rfl⟩ (fun H locs hH => ?_)
        refine lv_if_lt (tgt := 79) hx hb dL_isGood_72 (by decide) (fun c14 => ?_) (fun c14 => ?_)
        · replace hf := (if_pos c14).symm.trans hf
          refine lv_iconst (v := 0) hx hb dL_isGood_79 (by decide) ?_
          refine lv_icmp_ne (tgt := 128) hx hb dL_isGood_80 (by decide) (fun c15 => ?_) (fun c15 => ?_)
          · skip
            refine lv_iconst (v := 0) hx hb dL_isGood_128 (by decide) ?_
            exact hw_wretz hx hb (Nat.le_of_ble_eq_true rfl) (Nat.le_of_ble_eq_true rfl) hret rfl hf hH hlocks dL_isGood_129
          · exact (by revert c15; decide : False).elim
        · replace hf := (if_neg c14).symm.trans hf
          refine lv_iconst (v := 1) hx hb dL_isGood_75 (by decide) ?_
          refine lv_goto (tgt := 80) hx hb dL_isGood_76 (by decide) ?_
          refine lv_icmp_ne (tgt := 128) hx hb dL_isGood_80 (by decide) (fun c16 => ?_) (fun c16 => ?_)
          · exact (by revert c16; decide : False).elim
          · skip
            refine lv_iload_n hx hb dL_isGood_83 rfl (lv_at hl 0 rfl) ?_
            refine lv_if_ne (tgt := 102) hx hb dL_isGood_84 (by decide) (fun c17 => ?_) (fun c17 => ?_)
            · replace hf := (if_neg c17).symm.trans hf
              refine hl_aload_n hx hb dL_isGood_102 rfl (lv_at hl 1 rfl) ?_
              refine lv_iload_n hx hb dL_isGood_103 rfl (lv_at hl 3 rfl) ?_
              refine lv_bipush (v := 6) hx hb dL_isGood_104 (by decide) ?_
              obtain ⟨q18, hq18, hf⟩ := bnd hf
              refine hcV_i hx hb hml hown hts hKs hT hb0 hH (As := [.int v2_39, .int 6]) (rest := []) (k_NX12_matter l E K H.size a10 v2_39 6 q13.2 ha10.2 hq18) (gV m6_182 m6_183 m6_184 m1_1 m6_185) hd_NX12_matter ⟨Nat.le_of_ble_eq_true rfl, Nat.le_of_ble_eq_true rfl, rfl, rfl⟩ ha10.1 ha10.2 rfl rfl rfl hl.1 rfl rc0 rfl dL_isGood_106 ⟨Nat.le_of_ble_eq_true rfl, Nat.le_of_ble_eq_true rfl⟩ (fun H locs hH => ?_)
              refine lv_iconst (v := 1) hx hb dL_isGood_109 (by decide) ?_
              refine lv_icmp_ne (tgt := 130) hx hb dL_isGood_110 (by decide) (fun c19 => ?_) (fun c19 => ?_)
              · replace hf := (if_neg c19).symm.trans hf
                refine lv_iconst (v := 0) hx hb dL_isGood_130 (by decide) ?_
                refine lv_istore (i := 4) (lv' := [(4, .int 0), (3, .int (q11.1)), (0, rv E v0_39), (1, rv E v1_39), (2, .int v2_39)]) hx hb dL_isGood_131 hl (by decide) rfl (fun ls hl => ?_)
                refine lv_iconst (v := 0) hx hb dL_isGood_133 (by decide) ?_
                refine lv_istore (i := 5) (lv' := [(5, .int 0), (4, .int 0), (3, .int (q11.1)), (0, rv E v0_39), (1, rv E v1_39), (2, .int v2_39)]) hx hb dL_isGood_134 hl (by decide) rfl (fun ls hl => ?_)
                refine l_L_isGood_L136  C _ (fun v0_136 v1_136 v2_136 v3_136 v4_136 v5_136 w20 H locs ls hH hl hf => ?_) fu v0_39 v1_39 v2_39 q11.1 0 0 q18.2 _ _ _ hH (lv_sub hl [3, 4, 5, 2, 1, 0] rfl) hf
                refine lv_iload hx hb dL_isGood_167 (lv_at hl 4 rfl) ?_
                refine hl_aload_n hx hb dL_isGood_169 rfl (lv_at hl 0 rfl) ?_
                refine lv_iload_n hx hb dL_isGood_170 rfl (lv_at hl 2 rfl) ?_
                refine lv_iconst (v := 3) hx hb dL_isGood_171 (by decide) ?_
                obtain ⟨a25, ha25, hf⟩ := bnd hf
                replace ha25 := chk_some ha25
                obtain ⟨q26, hq26, hf⟩ := bnd hf
                refine hcV_i hx hb hml hown hts hKs hT hb0 hH (As := [.int v2_136, .int 3]) (rest := [.int v4_136]) (k_NX12_matter l E K H.size a25 v2_136 3 w20 ha25.2 hq26) (gV m6_182 m6_183 m6_184 m1_1 m6_185) hd_NX12_matter ⟨Nat.le_of_ble_eq_true rfl, Nat.le_of_ble_eq_true rfl, rfl, rfl⟩ ha25.1 ha25.2 rfl rfl rfl hl.1 rfl (rcI rc0) rfl dL_isGood_172 ⟨Nat.le_of_ble_eq_true rfl, Nat.le_of_ble_eq_true rfl⟩ (fun H locs hH => ?_)
                refine lv_icmp_eq (tgt := 180) hx hb dL_isGood_175 (by decide) (fun c27 => ?_) (fun c27 => ?_)
                · replace hf := (if_pos c27).symm.trans hf
                  refine hl_aload_n hx hb dL_isGood_180 rfl (lv_at hl 0 rfl) ?_
                  refine lv_iload_n hx hb dL_isGood_181 rfl (lv_at hl 2 rfl) ?_
                  refine lv_iconst (v := 0) hx hb dL_isGood_182 (by decide) ?_
                  obtain ⟨q28, hq28, hf⟩ := bnd hf
                  refine hcV_i hx hb hml hown hts hKs hT hb0 hH (As := [.int v2_136, .int 0]) (rest := []) (k_NX12_hearing l E K H.size a25 v2_136 0 q26.2 ha25.2 hq28) (gV m6_187 m6_188 m6_189 m1_1 m6_190) hd_NX12_hearing ⟨Nat.le_of_ble_eq_true rfl, Nat.le_of_ble_eq_true rfl, rfl, rfl⟩ ha25.1 ha25.2 rfl rfl rfl hl.1 rfl rc0 rfl dL_isGood_183 ⟨Nat.le_of_ble_eq_true rfl, Nat.le_of_ble_eq_true rfl⟩ (fun H locs hH => ?_)
                  refine lv_if_ge (tgt := 192) hx hb dL_isGood_186 (by decide) (fun c29 => ?_) (fun c29 => ?_)
                  · replace hf := (if_pos c29).symm.trans hf
                    refine hl_aload_n hx hb dL_isGood_192 rfl (lv_at hl 1 rfl) ?_
                    refine hl_aload_n hx hb dL_isGood_193 rfl (lv_at hl 0 rfl) ?_
                    refine lv_iload_n hx hb dL_isGood_194 rfl (lv_at hl 2 rfl) ?_
                    refine lv_iconst (v := 3) hx hb dL_isGood_195 (by decide) ?_
                    obtain ⟨q30, hq30, hf⟩ := bnd hf
                    refine hcV_i hx hb hml hown hts hKs hT hb0 hH (As := [.int v2_136, .int 3]) (rest := [rv E v1_136]) (k_NX12_hearing l E K H.size a25 v2_136 3 q28.2 ha25.2 hq30) (gV m6_187 m6_188 m6_189 m1_1 m6_190) hd_NX12_hearing ⟨Nat.le_of_ble_eq_true rfl, Nat.le_of_ble_eq_true rfl, rfl, rfl⟩ ha25.1 ha25.2 rfl rfl rfl hl.1 rfl (rcV rc0) rfl dL_isGood_196 ⟨Nat.le_of_ble_eq_true rfl, Nat.le_of_ble_eq_true rfl⟩ (fun H locs hH => ?_)
                    refine lv_dup2_11 hx hb dL_isGood_199 rfl rv_cat ?_
                    obtain ⟨a31, ha31, hf⟩ := bnd hf
                    replace ha31 := cha_some ha31
                    obtain ⟨j32, hj32, hf⟩ := bnd hf
                    refine hw_iald hx hb hKs hH ha31.1 ha31.2 hj32 dL_isGood_200 ?_
                    refine hl_aload_n hx hb dL_isGood_201 rfl (lv_at hl 0 rfl) ?_
                    refine lv_iload_n hx hb dL_isGood_202 rfl (lv_at hl 2 rfl) ?_
                    refine lv_iconst (v := 1) hx hb dL_isGood_203 (by decide) ?_
                    obtain ⟨q33, hq33, hf⟩ := bnd hf
                    refine hcV_i hx hb hml hown hts hKs hT hb0 hH (As := [.int v2_136, .int 1]) (rest := [.int ((aI q30.2 a31.1 j32)), .int (q30.1), rv E v1_136]) (k_NX12_matter l E K H.size a25 v2_136 1 q30.2 ha25.2 hq33) (gV m6_182 m6_183 m6_184 m1_1 m6_185) hd_NX12_matter ⟨Nat.le_of_ble_eq_true rfl, Nat.le_of_ble_eq_true rfl, rfl, rfl⟩ ha25.1 ha25.2 rfl rfl rfl hl.1 rfl (rcI (rcI (rcV rc0))) rfl dL_isGood_204 ⟨Nat.le_of_ble_eq_true rfl, Nat.le_of_ble_eq_true rfl⟩ (fun H locs hH => ?_)
                    refine lv_iadd hx hb dL_isGood_207 ?_
                    obtain ⟨j34, hj34, hf⟩ := bnd hf
                    obtain ⟨w35, hw35, hf⟩ := bnd hf
                    replace hw35 := Option.some.inj hw35
                    refine hw_iast (x := ((aI q30.2 a31.1 j32) + q33.1)) hx hb hKs hH ha31.1 ha31.2 hj34 dL_isGood_208 (fun H locs hH => ?_)
                    rw [hw35] at hH
                    refine hl_aload_n hx hb dL_isGood_209 rfl (lv_at hl 0 rfl) ?_
                    refine hl_aload_n hx hb dL_isGood_210 rfl (lv_at hl 0 rfl) ?_
                    refine lv_iload_n hx hb dL_isGood_211 rfl (lv_at hl 2 rfl) ?_
                    refine lv_iconst (v := 2) hx hb dL_isGood_212 (by decide) ?_
                    obtain ⟨q36, hq36, hf⟩ := bnd hf
                    refine hcV_i hx hb hml hown hts hKs hT hb0 hH (As := [.int v2_136, .int 2]) (rest := [rv E v0_136]) (k_NX12_hearing l E K H.size a25 v2_136 2 w35 ha25.2 hq36) (gV m6_187 m6_188 m6_189 m1_1 m6_190) hd_NX12_hearing ⟨Nat.le_of_ble_eq_true rfl, Nat.le_of_ble_eq_true rfl, rfl, rfl⟩ ha25.1 ha25.2 rfl rfl rfl hl.1 rfl (rcV rc0) rfl dL_isGood_213 ⟨Nat.le_of_ble_eq_true rfl, Nat.le_of_ble_eq_true rfl⟩ (fun H locs hH => ?_)
                    refine hl_aload_n hx hb dL_isGood_216 rfl (lv_at hl 0 rfl) ?_
                    refine lv_iload_n hx hb dL_isGood_217 rfl (lv_at hl 2 rfl) ?_
                    refine lv_iconst (v := 0) hx hb dL_isGood_218 (by decide) ?_
                    obtain ⟨q37, hq37, hf⟩ := bnd hf
                    refine hcV_i hx hb hml hown hts hKs hT hb0 hH (As := [.int v2_136, .int 0]) (rest := [.int (q36.1), rv E v0_136]) (k_NX12_hearing l E K H.size a25 v2_136 0 q36.2 ha25.2 hq37) (gV m6_187 m6_188 m6_189 m1_1 m6_190) hd_NX12_hearing ⟨Nat.le_of_ble_eq_true rfl, Nat.le_of_ble_eq_true rfl, rfl, rfl⟩ ha25.1 ha25.2 rfl rfl rfl hl.1 rfl (rcI (rcV rc0)) rfl dL_isGood_219 ⟨Nat.le_of_ble_eq_true rfl, Nat.le_of_ble_eq_true rfl⟩ (fun H locs hH => ?_)
                    refine hl_aload_n hx hb dL_isGood_222 rfl (lv_at hl 0 rfl) ?_
                    refine lv_iload_n hx hb dL_isGood_223 rfl (lv_at hl 2 rfl) ?_
                    refine lv_iconst (v := 1) hx hb dL_isGood_224 (by decide) ?_
                    obtain ⟨q38, hq38, hf⟩ := bnd hf
                    refine hcV_i hx hb hml hown hts hKs hT hb0 hH (As := [.int v2_136, .int 1]) (rest := [.int (q37.1), .int (q36.1), rv E v0_136]) (k_NX12_hearing l E K H.size a25 v2_136 1 q37.2 ha25.2 hq38) (gV m6_187 m6_188 m6_189 m1_1 m6_190) hd_NX12_hearing ⟨Nat.le_of_ble_eq_true rfl, Nat.le_of_ble_eq_true rfl, rfl, rfl⟩ ha25.1 ha25.2 rfl rfl rfl hl.1 rfl (rcI (rcI (rcV rc0))) rfl dL_isGood_225 ⟨Nat.le_of_ble_eq_true rfl, Nat.le_of_ble_eq_true rfl⟩ (fun H locs hH => ?_)
                    obtain ⟨q39, hq39, hf⟩ := bnd hf
                    refine hcV_i hx hb hml hown hts hKs hT hb0 hH (As := [.int (q36.1), .int (q37.1), .int (q38.1)]) (rest := []) (k_NX12_caseAt l E K H.size a25 q36.1 q37.1 q38.1 q38.2 ha25.2 hq39) (gV m6_195 m6_196 m6_197 m1_1 m6_198) hd_NX12_caseAt ⟨Nat.le_of_ble_eq_true rfl, Nat.le_of_ble_eq_true rfl, rfl, rfl⟩ ha25.1 ha25.2 rfl rfl rfl hl.1 rfl rc0 rfl dL_isGood_228 ⟨Nat.le_of_ble_eq_true rfl, Nat.le_of_ble_eq_true rfl⟩ (fun H locs hH => ?_)
                    refine lv_iload_n hx hb dL_isGood_231 rfl (lv_at hl 2 rfl) ?_
                    refine lv_icmp_eq (tgt := 237) hx hb dL_isGood_232 (by decide) (fun c40 => ?_) (fun c40 => ?_)
                    · replace hf := (if_pos c40).symm.trans hf
                      refine lv_iload_n hx hb dL_isGood_237 rfl (lv_at hl 3 rfl) ?_
                      refine lv_iconst (v := 1) hx hb dL_isGood_238 (by decide) ?_
                      refine lv_icmp_ne (tgt := 276) hx hb dL_isGood_239 (by decide) (fun c41 => ?_) (fun c41 => ?_)
                      · replace hf := (if_neg c41).symm.trans hf
                        refine lv_iinc (v := (v2_136 + 1)) (lv' := [(2, .int ((v2_136 + 1))), (0, rv E v0_136), (1, rv E v1_136), (3, .int v3_136), (4, .int v4_136), (5, .int v5_136)]) hx hb dL_isGood_276 hl (k := 2) rfl rfl (by decide) (by simp [List.filter_cons, cat_q, cat_i, cat_j, imax, imin]) (fun ls hl => ?_)
                        refine lv_goto (tgt := 39) hx hb dL_isGood_279 (by decide) ?_
                        exact ih v0_136 v1_136 (v2_136 + 1) _ _ _ _ hH (lv_sub hl [1, 2, 0] rfl) hf
                      · replace hf := (if_pos c41).symm.trans hf
                        refine hl_aload_n hx hb dL_isGood_242 rfl (lv_at hl 0 rfl) ?_
                        refine lv_iload_n hx hb dL_isGood_243 rfl (lv_at hl 2 rfl) ?_
                        refine hl_aload_n hx hb dL_isGood_244 rfl (lv_at hl 0 rfl) ?_
                        refine lv_iload_n hx hb dL_isGood_245 rfl (lv_at hl 2 rfl) ?_
                        refine lv_iconst (v := 0) hx hb dL_isGood_246 (by decide) ?_
                        obtain ⟨q42, hq42, hf⟩ := bnd hf
                        refine hcV_i hx hb hml hown hts hKs hT hb0 hH (As := [.int v2_136, .int 0]) (rest := [.int v2_136, rv E v0_136]) (k_NX12_hearing l E K H.size a25 v2_136 0 q39.2 ha25.2 hq42) (gV m6_187 m6_188 m6_189 m1_1 m6_190) hd_NX12_hearing ⟨Nat.le_of_ble_eq_true rfl, Nat.le_of_ble_eq_true rfl, rfl, rfl⟩ ha25.1 ha25.2 rfl rfl rfl hl.1 rfl (rcI (rcV rc0)) rfl dL_isGood_247 ⟨Nat.le_of_ble_eq_true rfl, Nat.le_of_ble_eq_true rfl⟩ (fun H locs hH => ?_)
                        refine hl_aload_n hx hb dL_isGood_250 rfl (lv_at hl 0 rfl) ?_
                        refine lv_iload_n hx hb dL_isGood_251 rfl (lv_at hl 2 rfl) ?_
                        refine lv_iconst (v := 1) hx hb dL_isGood_252 (by decide) ?_
                        obtain ⟨q43, hq43, hf⟩ := bnd hf
                        refine hcV_i hx hb hml hown hts hKs hT hb0 hH (As := [.int v2_136, .int 1]) (rest := [.int (q42.1), .int v2_136, rv E v0_136]) (k_NX12_hearing l E K H.size a25 v2_136 1 q42.2 ha25.2 hq43) (gV m6_187 m6_188 m6_189 m1_1 m6_190) hd_NX12_hearing ⟨Nat.le_of_ble_eq_true rfl, Nat.le_of_ble_eq_true rfl, rfl, rfl⟩ ha25.1 ha25.2 rfl rfl rfl hl.1 rfl (rcI (rcI (rcV rc0))) rfl dL_isGood_253 ⟨Nat.le_of_ble_eq_true rfl, Nat.le_of_ble_eq_true rfl⟩ (fun H locs hH => ?_)
                        refine hl_aload_n hx hb dL_isGood_256 rfl (lv_at hl 0 rfl) ?_
                        refine lv_iload_n hx hb dL_isGood_257 rfl (lv_at hl 2 rfl) ?_
                        refine lv_iconst (v := 2) hx hb dL_isGood_258 (by decide) ?_
                        obtain ⟨q44, hq44, hf⟩ := bnd hf
                        refine hcV_i hx hb hml hown hts hKs hT hb0 hH (As := [.int v2_136, .int 2]) (rest := [.int (q43.1), .int (q42.1), .int v2_136, rv E v0_136]) (k_NX12_hearing l E K H.size a25 v2_136 2 q43.2 ha25.2 hq44) (gV m6_187 m6_188 m6_189 m1_1 m6_190) hd_NX12_hearing ⟨Nat.le_of_ble_eq_true rfl, Nat.le_of_ble_eq_true rfl, rfl, rfl⟩ ha25.1 ha25.2 rfl rfl rfl hl.1 rfl (rcI (rcI (rcI (rcV rc0)))) rfl dL_isGood_259 ⟨Nat.le_of_ble_eq_true rfl, Nat.le_of_ble_eq_true rfl⟩ (fun H locs hH => ?_)
                        refine hl_aload_n hx hb dL_isGood_262 rfl (lv_at hl 0 rfl) ?_
                        refine lv_iload_n hx hb dL_isGood_263 rfl (lv_at hl 2 rfl) ?_
                        refine lv_iconst (v := 3) hx hb dL_isGood_264 (by decide) ?_
                        obtain ⟨q45, hq45, hf⟩ := bnd hf
                        refine hcV_i hx hb hml hown hts hKs hT hb0 hH (As := [.int v2_136, .int 3]) (rest := [.int (q44.1), .int (q43.1), .int (q42.1), .int v2_136, rv E v0_136]) (k_NX12_hearing l E K H.size a25 v2_136 3 q44.2 ha25.2 hq45) (gV m6_187 m6_188 m6_189 m1_1 m6_190) hd_NX12_hearing ⟨Nat.le_of_ble_eq_true rfl, Nat.le_of_ble_eq_true rfl, rfl, rfl⟩ ha25.1 ha25.2 rfl rfl rfl hl.1 rfl (rcI (rcI (rcI (rcI (rcV rc0))))) rfl dL_isGood_265 ⟨Nat.le_of_ble_eq_true rfl, Nat.le_of_ble_eq_true rfl⟩ (fun H locs hH => ?_)
                        obtain ⟨q46, hq46, hf⟩ := bnd hf
                        refine hcV_i hx hb hml hown hts hKs hT hb0 hH (As := [.int v2_136, .int (q42.1), .int (q43.1), .int (q44.1), .int (q45.1)]) (rest := []) (k_NX12_problem l E K H.size a25 v2_136 q42.1 q43.1 q44.1 q45.1 q45.2 ha25.2 hq46) (gV m6_213 m6_214 m6_215 m1_1 m6_216) hd_NX12_problem ⟨Nat.le_of_ble_eq_true rfl, Nat.le_of_ble_eq_true rfl, rfl, rfl⟩ ha25.1 ha25.2 rfl rfl rfl hl.1 rfl rc0 rfl dL_isGood_268 ⟨Nat.le_of_ble_eq_true rfl, Nat.le_of_ble_eq_true rfl⟩ (fun H locs hH => ?_)
                        refine lv_if_eq (tgt := 276) hx hb dL_isGood_271 (by decide) (fun c47 => ?_) (fun c47 => ?_)
                        · replace hf := (if_pos c47).symm.trans hf
                          refine lv_iinc (v := (v2_136 + 1)) (lv' := [(2, .int ((v2_136 + 1))), (0, rv E v0_136), (1, rv E v1_136), (3, .int v3_136), (4, .int v4_136), (5, .int v5_136)]) hx hb dL_isGood_276 hl (k := 2) rfl rfl (by decide) (by simp [List.filter_cons, cat_q, cat_i, cat_j, imax, imin]) (fun ls hl => ?_)
                          refine lv_goto (tgt := 39) hx hb dL_isGood_279 (by decide) ?_
                          exact ih v0_136 v1_136 (v2_136 + 1) _ _ _ _ hH (lv_sub hl [1, 2, 0] rfl) hf
                        · replace hf := (if_neg c47).symm.trans hf
                          refine lv_iconst (v := 0) hx hb dL_isGood_274 (by decide) ?_
                          exact hw_wretz hx hb (Nat.le_of_ble_eq_true rfl) (Nat.le_of_ble_eq_true rfl) hret rfl hf hH hlocks dL_isGood_275
                    · replace hf := (if_neg c40).symm.trans hf
                      refine lv_iconst (v := 0) hx hb dL_isGood_235 (by decide) ?_
                      exact hw_wretz hx hb (Nat.le_of_ble_eq_true rfl) (Nat.le_of_ble_eq_true rfl) hret rfl hf hH hlocks dL_isGood_236
                  · replace hf := (if_neg c29).symm.trans hf
                    refine lv_goto (tgt := 276) hx hb dL_isGood_189 (by decide) ?_
                    refine lv_iinc (v := (v2_136 + 1)) (lv' := [(2, .int ((v2_136 + 1))), (0, rv E v0_136), (1, rv E v1_136), (3, .int v3_136), (4, .int v4_136), (5, .int v5_136)]) hx hb dL_isGood_276 hl (k := 2) rfl rfl (by decide) (by simp [List.filter_cons, cat_q, cat_i, cat_j, imax, imin]) (fun ls hl => ?_)
                    refine lv_goto (tgt := 39) hx hb dL_isGood_279 (by decide) ?_
                    exact ih v0_136 v1_136 (v2_136 + 1) _ _ _ _ hH (lv_sub hl [1, 2, 0] rfl) hf
                · replace hf := (if_neg c27).symm.trans hf
                  refine lv_iconst (v := 0) hx hb dL_isGood_178 (by decide) ?_
                  exact hw_wretz hx hb (Nat.le_of_ble_eq_true rfl) (Nat.le_of_ble_eq_true rfl) hret rfl hf hH hlocks dL_isGood_179
              · replace hf := (if_pos c19).symm.trans hf
                refine hl_aload_n hx hb dL_isGood_113 rfl (lv_at hl 1 rfl) ?_
                refine lv_iload_n hx hb dL_isGood_114 rfl (lv_at hl 3 rfl) ?_
                refine lv_iconst (v := 3) hx hb dL_isGood_115 (by decide) ?_
                obtain ⟨q48, hq48, hf⟩ := bnd hf
                refine hcV_i hx hb hml hown hts hKs hT hb0 hH (As := [.int v2_39, .int 3]) (rest := []) (k_NX12_matter l E K H.size a10 v2_39 3 q18.2 ha10.2 hq48) (gV m6_182 m6_183 m6_184 m1_1 m6_185) hd_NX12_matter ⟨Nat.le_of_ble_eq_true rfl, Nat.le_of_ble_eq_true rfl, rfl, rfl⟩ ha10.1 ha10.2 rfl rfl rfl hl.1 rfl rc0 rfl dL_isGood_116 ⟨Nat.le_of_ble_eq_true rfl, Nat.le_of_ble_eq_true rfl⟩ (fun H locs hH => ?_)
                refine hl_aload_n hx hb dL_isGood_119 rfl (lv_at hl 1 rfl) ?_
                refine lv_bipush (v := 8) hx hb dL_isGood_120 (by decide) ?_
                obtain ⟨q49, hq49, hf⟩ := bnd hf
                refine hcV_i hx hb hml hown hts hKs hT hb0 hH (As := [.int 8]) (rest := [.int (q48.1)]) (k_X12_count l E K H.size a10 8 q48.2 ha10.2 hq49) (gV m3_17 m3_18 m3_19 m1_1 m3_20) hd_X12_count ⟨Nat.le_of_ble_eq_true rfl, Nat.le_of_ble_eq_true rfl, rfl, rfl⟩ ha10.1 ha10.2 rfl rfl rfl hl.1 rfl (rcI rc0) rfl dL_isGood_122 ⟨Nat.le_of_ble_eq_true rfl, Nat.le_of_ble_eq_true rfl⟩ (fun H locs hH => ?_)
                refine lv_icmp_le (tgt := 130) hx hb dL_isGood_125 (by decide) (fun c50 => ?_) (fun c50 => ?_)
                · replace hf := (if_pos c50).symm.trans hf
                  refine lv_iconst (v := 0) hx hb dL_isGood_130 (by decide) ?_
                  refine lv_istore (i := 4) (lv' := [(4, .int 0), (3, .int (q11.1)), (0, rv E v0_39), (1, rv E v1_39), (2, .int v2_39)]) hx hb dL_isGood_131 hl (by decide) rfl (fun ls hl => ?_)
                  refine lv_iconst (v := 0) hx hb dL_isGood_133 (by decide) ?_
                  refine lv_istore (i := 5) (lv' := [(5, .int 0), (4, .int 0), (3, .int (q11.1)), (0, rv E v0_39), (1, rv E v1_39), (2, .int v2_39)]) hx hb dL_isGood_134 hl (by decide) rfl (fun ls hl => ?_)
                  refine l_L_isGood_L136  C _ (fun v0_136 v1_136 v2_136 v3_136 v4_136 v5_136 w51 H locs ls hH hl hf => ?_) fu v0_39 v1_39 v2_39 q11.1 0 0 q49.2 _ _ _ hH (lv_sub hl [3, 4, 5, 2, 1, 0] rfl) hf
                  refine lv_iload hx hb dL_isGood_167 (lv_at hl 4 rfl) ?_
                  refine hl_aload_n hx hb dL_isGood_169 rfl (lv_at hl 0 rfl) ?_
                  refine lv_iload_n hx hb dL_isGood_170 rfl (lv_at hl 2 rfl) ?_
                  refine lv_iconst (v := 3) hx hb dL_isGood_171 (by decide) ?_
                  obtain ⟨a52, ha52, hf⟩ := bnd hf
                  replace ha52 := chk_some ha52
                  obtain ⟨q53, hq53, hf⟩ := bnd hf
                  refine hcV_i hx hb hml hown hts hKs hT hb0 hH (As := [.int v2_136, .int 3]) (rest := [.int v4_136]) (k_NX12_matter l E K H.size a52 v2_136 3 w51 ha52.2 hq53) (gV m6_182 m6_183 m6_184 m1_1 m6_185) hd_NX12_matter ⟨Nat.le_of_ble_eq_true rfl, Nat.le_of_ble_eq_true rfl, rfl, rfl⟩ ha52.1 ha52.2 rfl rfl rfl hl.1 rfl (rcI rc0) rfl dL_isGood_172 ⟨Nat.le_of_ble_eq_true rfl, Nat.le_of_ble_eq_true rfl⟩ (fun H locs hH => ?_)
                  refine lv_icmp_eq (tgt := 180) hx hb dL_isGood_175 (by decide) (fun c54 => ?_) (fun c54 => ?_)
                  · replace hf := (if_pos c54).symm.trans hf
                    refine hl_aload_n hx hb dL_isGood_180 rfl (lv_at hl 0 rfl) ?_
                    refine lv_iload_n hx hb dL_isGood_181 rfl (lv_at hl 2 rfl) ?_
                    refine lv_iconst (v := 0) hx hb dL_isGood_182 (by decide) ?_
                    obtain ⟨q55, hq55, hf⟩ := bnd hf
                    refine hcV_i hx hb hml hown hts hKs hT hb0 hH (As := [.int v2_136, .int 0]) (rest := []) (k_NX12_hearing l E K H.size a52 v2_136 0 q53.2 ha52.2 hq55) (gV m6_187 m6_188 m6_189 m1_1 m6_190) hd_NX12_hearing ⟨Nat.le_of_ble_eq_true rfl, Nat.le_of_ble_eq_true rfl, rfl, rfl⟩ ha52.1 ha52.2 rfl rfl rfl hl.1 rfl rc0 rfl dL_isGood_183 ⟨Nat.le_of_ble_eq_true rfl, Nat.le_of_ble_eq_true rfl⟩ (fun H locs hH => ?_)
                    refine lv_if_ge (tgt := 192) hx hb dL_isGood_186 (by decide) (fun c56 => ?_) (fun c56 => ?_)
                    · replace hf := (if_pos c56).symm.trans hf
                      refine hl_aload_n hx hb dL_isGood_192 rfl (lv_at hl 1 rfl) ?_
                      refine hl_aload_n hx hb dL_isGood_193 rfl (lv_at hl 0 rfl) ?_
                      refine lv_iload_n hx hb dL_isGood_194 rfl (lv_at hl 2 rfl) ?_
                      refine lv_iconst (v := 3) hx hb dL_isGood_195 (by decide) ?_
                      obtain ⟨q57, hq57, hf⟩ := bnd hf
                      refine hcV_i hx hb hml hown hts hKs hT hb0 hH (As := [.int v2_136, .int 3]) (rest := [rv E v1_136]) (k_NX12_hearing l E K H.size a52 v2_136 3 q55.2 ha52.2 hq57) (gV m6_187 m6_188 m6_189 m1_1 m6_190) hd_NX12_hearing ⟨Nat.le_of_ble_eq_true rfl, Nat.le_of_ble_eq_true rfl, rfl, rfl⟩ ha52.1 ha52.2 rfl rfl rfl hl.1 rfl (rcV rc0) rfl dL_isGood_196 ⟨Nat.le_of_ble_eq_true rfl, Nat.le_of_ble_eq_true rfl⟩ (fun H locs hH => ?_)
                      refine lv_dup2_11 hx hb dL_isGood_199 rfl rv_cat ?_
                      obtain ⟨a58, ha58, hf⟩ := bnd hf
                      replace ha58 := cha_some ha58
                      obtain ⟨j59, hj59, hf⟩ := bnd hf
                      refine hw_iald hx hb hKs hH ha58.1 ha58.2 hj59 dL_isGood_200 ?_
                      refine hl_aload_n hx hb dL_isGood_201 rfl (lv_at hl 0 rfl) ?_
                      refine lv_iload_n hx hb dL_isGood_202 rfl (lv_at hl 2 rfl) ?_
                      refine lv_iconst (v := 1) hx hb dL_isGood_203 (by decide) ?_
                      obtain ⟨q60, hq60, hf⟩ := bnd hf
                      refine hcV_i hx hb hml hown hts hKs hT hb0 hH (As := [.int v2_136, .int 1]) (rest := [.int ((aI q57.2 a58.1 j59)), .int (q57.1), rv E v1_136]) (k_NX12_matter l E K H.size a52 v2_136 1 q57.2 ha52.2 hq60) (gV m6_182 m6_183 m6_184 m1_1 m6_185) hd_NX12_matter ⟨Nat.le_of_ble_eq_true rfl, Nat.le_of_ble_eq_true rfl, rfl, rfl⟩ ha52.1 ha52.2 rfl rfl rfl hl.1 rfl (rcI (rcI (rcV rc0))) rfl dL_isGood_204 ⟨Nat.le_of_ble_eq_true rfl, Nat.le_of_ble_eq_true rfl⟩ (fun H locs hH => ?_)
                      refine lv_iadd hx hb dL_isGood_207 ?_
                      obtain ⟨j61, hj61, hf⟩ := bnd hf
                      obtain ⟨w62, hw62, hf⟩ := bnd hf
                      replace hw62 := Option.some.inj hw62
                      refine hw_iast (x := ((aI q57.2 a58.1 j59) + q60.1)) hx hb hKs hH ha58.1 ha58.2 hj61 dL_isGood_208 (fun H locs hH => ?_)
                      rw [hw62] at hH
                      refine hl_aload_n hx hb dL_isGood_209 rfl (lv_at hl 0 rfl) ?_
                      refine hl_aload_n hx hb dL_isGood_210 rfl (lv_at hl 0 rfl) ?_
                      refine lv_iload_n hx hb dL_isGood_211 rfl (lv_at hl 2 rfl) ?_
                      refine lv_iconst (v := 2) hx hb dL_isGood_212 (by decide) ?_
                      obtain ⟨q63, hq63, hf⟩ := bnd hf
                      refine hcV_i hx hb hml hown hts hKs hT hb0 hH (As := [.int v2_136, .int 2]) (rest := [rv E v0_136]) (k_NX12_hearing l E K H.size a52 v2_136 2 w62 ha52.2 hq63) (gV m6_187 m6_188 m6_189 m1_1 m6_190) hd_NX12_hearing ⟨Nat.le_of_ble_eq_true rfl, Nat.le_of_ble_eq_true rfl, rfl, rfl⟩ ha52.1 ha52.2 rfl rfl rfl hl.1 rfl (rcV rc0) rfl dL_isGood_213 ⟨Nat.le_of_ble_eq_true rfl, Nat.le_of_ble_eq_true rfl⟩ (fun H locs hH => ?_)
                      refine hl_aload_n hx hb dL_isGood_216 rfl (lv_at hl 0 rfl) ?_
                      refine lv_iload_n hx hb dL_isGood_217 rfl (lv_at hl 2 rfl) ?_
                      refine lv_iconst (v := 0) hx hb dL_isGood_218 (by decide) ?_
                      obtain ⟨q64, hq64, hf⟩ := bnd hf
                      refine hcV_i hx hb hml hown hts hKs hT hb0 hH (As := [.int v2_136, .int 0]) (rest := [.int (q63.1), rv E v0_136]) (k_NX12_hearing l E K H.size a52 v2_136 0 q63.2 ha52.2 hq64) (gV m6_187 m6_188 m6_189 m1_1 m6_190) hd_NX12_hearing ⟨Nat.le_of_ble_eq_true rfl, Nat.le_of_ble_eq_true rfl, rfl, rfl⟩ ha52.1 ha52.2 rfl rfl rfl hl.1 rfl (rcI (rcV rc0)) rfl dL_isGood_219 ⟨Nat.le_of_ble_eq_true rfl, Nat.le_of_ble_eq_true rfl⟩ (fun H locs hH => ?_)
                      refine hl_aload_n hx hb dL_isGood_222 rfl (lv_at hl 0 rfl) ?_
                      refine lv_iload_n hx hb dL_isGood_223 rfl (lv_at hl 2 rfl) ?_
                      refine lv_iconst (v := 1) hx hb dL_isGood_224 (by decide) ?_
                      obtain ⟨q65, hq65, hf⟩ := bnd hf
                      refine hcV_i hx hb hml hown hts hKs hT hb0 hH (As := [.int v2_136, .int 1]) (rest := [.int (q64.1), .int (q63.1), rv E v0_136]) (k_NX12_hearing l E K H.size a52 v2_136 1 q64.2 ha52.2 hq65) (gV m6_187 m6_188 m6_189 m1_1 m6_190) hd_NX12_hearing ⟨Nat.le_of_ble_eq_true rfl, Nat.le_of_ble_eq_true rfl, rfl, rfl⟩ ha52.1 ha52.2 rfl rfl rfl hl.1 rfl (rcI (rcI (rcV rc0))) rfl dL_isGood_225 ⟨Nat.le_of_ble_eq_true rfl, Nat.le_of_ble_eq_true rfl⟩ (fun H locs hH => ?_)
                      obtain ⟨q66, hq66, hf⟩ := bnd hf
                      refine hcV_i hx hb hml hown hts hKs hT hb0 hH (As := [.int (q63.1), .int (q64.1), .int (q65.1)]) (rest := []) (k_NX12_caseAt l E K H.size a52 q63.1 q64.1 q65.1 q65.2 ha52.2 hq66) (gV m6_195 m6_196 m6_197 m1_1 m6_198) hd_NX12_caseAt ⟨Nat.le_of_ble_eq_true rfl, Nat.le_of_ble_eq_true rfl, rfl, rfl⟩ ha52.1 ha52.2 rfl rfl rfl hl.1 rfl rc0 rfl dL_isGood_228 ⟨Nat.le_of_ble_eq_true rfl, Nat.le_of_ble_eq_true rfl⟩ (fun H locs hH => ?_)
                      refine lv_iload_n hx hb dL_isGood_231 rfl (lv_at hl 2 rfl) ?_
                      refine lv_icmp_eq (tgt := 237) hx hb dL_isGood_232 (by decide) (fun c67 => ?_) (fun c67 => ?_)
                      · replace hf := (if_pos c67).symm.trans hf
                        refine lv_iload_n hx hb dL_isGood_237 rfl (lv_at hl 3 rfl) ?_
                        refine lv_iconst (v := 1) hx hb dL_isGood_238 (by decide) ?_
                        refine lv_icmp_ne (tgt := 276) hx hb dL_isGood_239 (by decide) (fun c68 => ?_) (fun c68 => ?_)
                        · replace hf := (if_neg c68).symm.trans hf
                          refine lv_iinc (v := (v2_136 + 1)) (lv' := [(2, .int ((v2_136 + 1))), (0, rv E v0_136), (1, rv E v1_136), (3, .int v3_136), (4, .int v4_136), (5, .int v5_136)]) hx hb dL_isGood_276 hl (k := 2) rfl rfl (by decide) (by simp [List.filter_cons, cat_q, cat_i, cat_j, imax, imin]) (fun ls hl => ?_)
                          refine lv_goto (tgt := 39) hx hb dL_isGood_279 (by decide) ?_
                          exact ih v0_136 v1_136 (v2_136 + 1) _ _ _ _ hH (lv_sub hl [1, 2, 0] rfl) hf
                        · replace hf := (if_pos c68).symm.trans hf
                          refine hl_aload_n hx hb dL_isGood_242 rfl (lv_at hl 0 rfl) ?_
                          refine lv_iload_n hx hb dL_isGood_243 rfl (lv_at hl 2 rfl) ?_
                          refine hl_aload_n hx hb dL_isGood_244 rfl (lv_at hl 0 rfl) ?_
                          refine lv_iload_n hx hb dL_isGood_245 rfl (lv_at hl 2 rfl) ?_
                          refine lv_iconst (v := 0) hx hb dL_isGood_246 (by decide) ?_
                          obtain ⟨q69, hq69, hf⟩ := bnd hf
                          refine hcV_i hx hb hml hown hts hKs hT hb0 hH (As := [.int v2_136, .int 0]) (rest := [.int v2_136, rv E v0_136]) (k_NX12_hearing l E K H.size a52 v2_136 0 q66.2 ha52.2 hq69) (gV m6_187 m6_188 m6_189 m1_1 m6_190) hd_NX12_hearing ⟨Nat.le_of_ble_eq_true rfl, Nat.le_of_ble_eq_true rfl, rfl, rfl⟩ ha52.1 ha52.2 rfl rfl rfl hl.1 rfl (rcI (rcV rc0)) rfl dL_isGood_247 ⟨Nat.le_of_ble_eq_true rfl, Nat.le_of_ble_eq_true rfl⟩ (fun H locs hH => ?_)
                          refine hl_aload_n hx hb dL_isGood_250 rfl (lv_at hl 0 rfl) ?_
                          refine lv_iload_n hx hb dL_isGood_251 rfl (lv_at hl 2 rfl) ?_
                          refine lv_iconst (v := 1) hx hb dL_isGood_252 (by decide) ?_
                          obtain ⟨q70, hq70, hf⟩ := bnd hf
                          refine hcV_i hx hb hml hown hts hKs hT hb0 hH (As := [.int v2_136, .int 1]) (rest := [.int (q69.1), .int v2_136, rv E v0_136]) (k_NX12_hearing l E K H.size a52 v2_136 1 q69.2 ha52.2 hq70) (gV m6_187 m6_188 m6_189 m1_1 m6_190) hd_NX12_hearing ⟨Nat.le_of_ble_eq_true rfl, Nat.le_of_ble_eq_true rfl, rfl, rfl⟩ ha52.1 ha52.2 rfl rfl rfl hl.1 rfl (rcI (rcI (rcV rc0))) rfl dL_isGood_253 ⟨Nat.le_of_ble_eq_true rfl, Nat.le_of_ble_eq_true rfl⟩ (fun H locs hH => ?_)
                          refine hl_aload_n hx hb dL_isGood_256 rfl (lv_at hl 0 rfl) ?_
                          refine lv_iload_n hx hb dL_isGood_257 rfl (lv_at hl 2 rfl) ?_
                          refine lv_iconst (v := 2) hx hb dL_isGood_258 (by decide) ?_
                          obtain ⟨q71, hq71, hf⟩ := bnd hf
                          refine hcV_i hx hb hml hown hts hKs hT hb0 hH (As := [.int v2_136, .int 2]) (rest := [.int (q70.1), .int (q69.1), .int v2_136, rv E v0_136]) (k_NX12_hearing l E K H.size a52 v2_136 2 q70.2 ha52.2 hq71) (gV m6_187 m6_188 m6_189 m1_1 m6_190) hd_NX12_hearing ⟨Nat.le_of_ble_eq_true rfl, Nat.le_of_ble_eq_true rfl, rfl, rfl⟩ ha52.1 ha52.2 rfl rfl rfl hl.1 rfl (rcI (rcI (rcI (rcV rc0)))) rfl dL_isGood_259 ⟨Nat.le_of_ble_eq_true rfl, Nat.le_of_ble_eq_true rfl⟩ (fun H locs hH => ?_)
                          refine hl_aload_n hx hb dL_isGood_262 rfl (lv_at hl 0 rfl) ?_
                          refine lv_iload_n hx hb dL_isGood_263 rfl (lv_at hl 2 rfl) ?_
                          refine lv_iconst (v := 3) hx hb dL_isGood_264 (by decide) ?_
                          obtain ⟨q72, hq72, hf⟩ := bnd hf
                          refine hcV_i hx hb hml hown hts hKs hT hb0 hH (As := [.int v2_136, .int 3]) (rest := [.int (q71.1), .int (q70.1), .int (q69.1), .int v2_136, rv E v0_136]) (k_NX12_hearing l E K H.size a52 v2_136 3 q71.2 ha52.2 hq72) (gV m6_187 m6_188 m6_189 m1_1 m6_190) hd_NX12_hearing ⟨Nat.le_of_ble_eq_true rfl, Nat.le_of_ble_eq_true rfl, rfl, rfl⟩ ha52.1 ha52.2 rfl rfl rfl hl.1 rfl (rcI (rcI (rcI (rcI (rcV rc0))))) rfl dL_isGood_265 ⟨Nat.le_of_ble_eq_true rfl, Nat.le_of_ble_eq_true rfl⟩ (fun H locs hH => ?_)
                          obtain ⟨q73, hq73, hf⟩ := bnd hf
                          refine hcV_i hx hb hml hown hts hKs hT hb0 hH (As := [.int v2_136, .int (q69.1), .int (q70.1), .int (q71.1), .int (q72.1)]) (rest := []) (k_NX12_problem l E K H.size a52 v2_136 q69.1 q70.1 q71.1 q72.1 q72.2 ha52.2 hq73) (gV m6_213 m6_214 m6_215 m1_1 m6_216) hd_NX12_problem ⟨Nat.le_of_ble_eq_true rfl, Nat.le_of_ble_eq_true rfl, rfl, rfl⟩ ha52.1 ha52.2 rfl rfl rfl hl.1 rfl rc0 rfl dL_isGood_268 ⟨Nat.le_of_ble_eq_true rfl, Nat.le_of_ble_eq_true rfl⟩ (fun H locs hH => ?_)
                          refine lv_if_eq (tgt := 276) hx hb dL_isGood_271 (by decide) (fun c74 => ?_) (fun c74 => ?_)
                          · replace hf := (if_pos c74).symm.trans hf
                            refine lv_iinc (v := (v2_136 + 1)) (lv' := [(2, .int ((v2_136 + 1))), (0, rv E v0_136), (1, rv E v1_136), (3, .int v3_136), (4, .int v4_136), (5, .int v5_136)]) hx hb dL_isGood_276 hl (k := 2) rfl rfl (by decide) (by simp [List.filter_cons, cat_q, cat_i, cat_j, imax, imin]) (fun ls hl => ?_)
                            refine lv_goto (tgt := 39) hx hb dL_isGood_279 (by decide) ?_
                            exact ih v0_136 v1_136 (v2_136 + 1) _ _ _ _ hH (lv_sub hl [1, 2, 0] rfl) hf
                          · replace hf := (if_neg c74).symm.trans hf
                            refine lv_iconst (v := 0) hx hb dL_isGood_274 (by decide) ?_
                            exact hw_wretz hx hb (Nat.le_of_ble_eq_true rfl) (Nat.le_of_ble_eq_true rfl) hret rfl hf hH hlocks dL_isGood_275
                      · replace hf := (if_neg c67).symm.trans hf
                        refine lv_iconst (v := 0) hx hb dL_isGood_235 (by decide) ?_
                        exact hw_wretz hx hb (Nat.le_of_ble_eq_true rfl) (Nat.le_of_ble_eq_true rfl) hret rfl hf hH hlocks dL_isGood_236
                    · replace hf := (if_neg c56).symm.trans hf
                      refine lv_goto (tgt := 276) hx hb dL_isGood_189 (by decide) ?_
                      refine lv_iinc (v := (v2_136 + 1)) (lv' := [(2, .int ((v2_136 + 1))), (0, rv E v0_136), (1, rv E v1_136), (3, .int v3_136), (4, .int v4_136), (5, .int v5_136)]) hx hb dL_isGood_276 hl (k := 2) rfl rfl (by decide) (by simp [List.filter_cons, cat_q, cat_i, cat_j, imax, imin]) (fun ls hl => ?_)
                      refine lv_goto (tgt := 39) hx hb dL_isGood_279 (by decide) ?_
                      exact ih v0_136 v1_136 (v2_136 + 1) _ _ _ _ hH (lv_sub hl [1, 2, 0] rfl) hf
                  · replace hf := (if_neg c54).symm.trans hf
                    refine lv_iconst (v := 0) hx hb dL_isGood_178 (by decide) ?_
                    exact hw_wretz hx hb (Nat.le_of_ble_eq_true rfl) (Nat.le_of_ble_eq_true rfl) hret rfl hf hH hlocks dL_isGood_179
                · replace hf := (if_neg c50).symm.trans hf
                  refine lv_iconst (v := 0) hx hb dL_isGood_128 (by decide) ?_
                  exact hw_wretz hx hb (Nat.le_of_ble_eq_true rfl) (Nat.le_of_ble_eq_true rfl) hret rfl hf hH hlocks dL_isGood_129
            · replace hf := (if_pos c17).symm.trans hf
              refine hl_aload_n hx hb dL_isGood_87 rfl (lv_at hl 1 rfl) ?_
              refine lv_iload_n hx hb dL_isGood_88 rfl (lv_at hl 3 rfl) ?_
              refine lv_iconst (v := 4) hx hb dL_isGood_89 (by decide) ?_
              obtain ⟨q75, hq75, hf⟩ := bnd hf
              refine hcV_i hx hb hml hown hts hKs hT hb0 hH (As := [.int v2_39, .int 4]) (rest := []) (k_NX12_matter l E K H.size a10 v2_39 4 q13.2 ha10.2 hq75) (gV m6_182 m6_183 m6_184 m1_1 m6_185) hd_NX12_matter ⟨Nat.le_of_ble_eq_true rfl, Nat.le_of_ble_eq_true rfl, rfl, rfl⟩ ha10.1 ha10.2 rfl rfl rfl hl.1 rfl rc0 rfl dL_isGood_90 ⟨Nat.le_of_ble_eq_true rfl, Nat.le_of_ble_eq_true rfl⟩ (fun H locs hH => ?_)
              refine hl_aload_n hx hb dL_isGood_93 rfl (lv_at hl 1 rfl) ?_
              refine lv_bipush (v := 7) hx hb dL_isGood_94 (by decide) ?_
              obtain ⟨q76, hq76, hf⟩ := bnd hf
              refine hcV_i hx hb hml hown hts hKs hT hb0 hH (As := [.int 7]) (rest := [.int (q75.1)]) (k_X12_count l E K H.size a10 7 q75.2 ha10.2 hq76) (gV m3_17 m3_18 m3_19 m1_1 m3_20) hd_X12_count ⟨Nat.le_of_ble_eq_true rfl, Nat.le_of_ble_eq_true rfl, rfl, rfl⟩ ha10.1 ha10.2 rfl rfl rfl hl.1 rfl (rcI rc0) rfl dL_isGood_96 ⟨Nat.le_of_ble_eq_true rfl, Nat.le_of_ble_eq_true rfl⟩ (fun H locs hH => ?_)
              refine lv_icmp_lt (tgt := 128) hx hb dL_isGood_99 (by decide) (fun c77 => ?_) (fun c77 => ?_)
              · replace hf := (if_pos c77).symm.trans hf
                refine lv_iconst (v := 0) hx hb dL_isGood_128 (by decide) ?_
                exact hw_wretz hx hb (Nat.le_of_ble_eq_true rfl) (Nat.le_of_ble_eq_true rfl) hret rfl hf hH hlocks dL_isGood_129
              · replace hf := (if_neg c77).symm.trans hf
                refine hl_aload_n hx hb dL_isGood_102 rfl (lv_at hl 1 rfl) ?_
                refine lv_iload_n hx hb dL_isGood_103 rfl (lv_at hl 3 rfl) ?_
                refine lv_bipush (v := 6) hx hb dL_isGood_104 (by decide) ?_
                obtain ⟨q78, hq78, hf⟩ := bnd hf
                refine hcV_i hx hb hml hown hts hKs hT hb0 hH (As := [.int v2_39, .int 6]) (rest := []) (k_NX12_matter l E K H.size a10 v2_39 6 q76.2 ha10.2 hq78) (gV m6_182 m6_183 m6_184 m1_1 m6_185) hd_NX12_matter ⟨Nat.le_of_ble_eq_true rfl, Nat.le_of_ble_eq_true rfl, rfl, rfl⟩ ha10.1 ha10.2 rfl rfl rfl hl.1 rfl rc0 rfl dL_isGood_106 ⟨Nat.le_of_ble_eq_true rfl, Nat.le_of_ble_eq_true rfl⟩ (fun H locs hH => ?_)
                refine lv_iconst (v := 1) hx hb dL_isGood_109 (by decide) ?_
                refine lv_icmp_ne (tgt := 130) hx hb dL_isGood_110 (by decide) (fun c79 => ?_) (fun c79 => ?_)
                · replace hf := (if_neg c79).symm.trans hf
                  refine lv_iconst (v := 0) hx hb dL_isGood_130 (by decide) ?_
                  refine lv_istore (i := 4) (lv' := [(4, .int 0), (3, .int (q11.1)), (0, rv E v0_39), (1, rv E v1_39), (2, .int v2_39)]) hx hb dL_isGood_131 hl (by decide) rfl (fun ls hl => ?_)
                  refine lv_iconst (v := 0) hx hb dL_isGood_133 (by decide) ?_
                  refine lv_istore (i := 5) (lv' := [(5, .int 0), (4, .int 0), (3, .int (q11.1)), (0, rv E v0_39), (1, rv E v1_39), (2, .int v2_39)]) hx hb dL_isGood_134 hl (by decide) rfl (fun ls hl => ?_)
                  refine l_L_isGood_L136  C _ (fun v0_136 v1_136 v2_136 v3_136 v4_136 v5_136 w80 H locs ls hH hl hf => ?_) fu v0_39 v1_39 v2_39 q11.1 0 0 q78.2 _ _ _ hH (lv_sub hl [3, 4, 5, 2, 1, 0] rfl) hf
                  refine lv_iload hx hb dL_isGood_167 (lv_at hl 4 rfl) ?_
                  refine hl_aload_n hx hb dL_isGood_169 rfl (lv_at hl 0 rfl) ?_
                  refine lv_iload_n hx hb dL_isGood_170 rfl (lv_at hl 2 rfl) ?_
                  refine lv_iconst (v := 3) hx hb dL_isGood_171 (by decide) ?_
                  obtain ⟨a81, ha81, hf⟩ := bnd hf
                  replace ha81 := chk_some ha81
                  obtain ⟨q82, hq82, hf⟩ := bnd hf
                  refine hcV_i hx hb hml hown hts hKs hT hb0 hH (As := [.int v2_136, .int 3]) (rest := [.int v4_136]) (k_NX12_matter l E K H.size a81 v2_136 3 w80 ha81.2 hq82) (gV m6_182 m6_183 m6_184 m1_1 m6_185) hd_NX12_matter ⟨Nat.le_of_ble_eq_true rfl, Nat.le_of_ble_eq_true rfl, rfl, rfl⟩ ha81.1 ha81.2 rfl rfl rfl hl.1 rfl (rcI rc0) rfl dL_isGood_172 ⟨Nat.le_of_ble_eq_true rfl, Nat.le_of_ble_eq_true rfl⟩ (fun H locs hH => ?_)
                  refine lv_icmp_eq (tgt := 180) hx hb dL_isGood_175 (by decide) (fun c83 => ?_) (fun c83 => ?_)
                  · replace hf := (if_pos c83).symm.trans hf
                    refine hl_aload_n hx hb dL_isGood_180 rfl (lv_at hl 0 rfl) ?_
                    refine lv_iload_n hx hb dL_isGood_181 rfl (lv_at hl 2 rfl) ?_
                    refine lv_iconst (v := 0) hx hb dL_isGood_182 (by decide) ?_
                    obtain ⟨q84, hq84, hf⟩ := bnd hf
                    refine hcV_i hx hb hml hown hts hKs hT hb0 hH (As := [.int v2_136, .int 0]) (rest := []) (k_NX12_hearing l E K H.size a81 v2_136 0 q82.2 ha81.2 hq84) (gV m6_187 m6_188 m6_189 m1_1 m6_190) hd_NX12_hearing ⟨Nat.le_of_ble_eq_true rfl, Nat.le_of_ble_eq_true rfl, rfl, rfl⟩ ha81.1 ha81.2 rfl rfl rfl hl.1 rfl rc0 rfl dL_isGood_183 ⟨Nat.le_of_ble_eq_true rfl, Nat.le_of_ble_eq_true rfl⟩ (fun H locs hH => ?_)
                    refine lv_if_ge (tgt := 192) hx hb dL_isGood_186 (by decide) (fun c85 => ?_) (fun c85 => ?_)
                    · replace hf := (if_pos c85).symm.trans hf
                      refine hl_aload_n hx hb dL_isGood_192 rfl (lv_at hl 1 rfl) ?_
                      refine hl_aload_n hx hb dL_isGood_193 rfl (lv_at hl 0 rfl) ?_
                      refine lv_iload_n hx hb dL_isGood_194 rfl (lv_at hl 2 rfl) ?_
                      refine lv_iconst (v := 3) hx hb dL_isGood_195 (by decide) ?_
                      obtain ⟨q86, hq86, hf⟩ := bnd hf
                      refine hcV_i hx hb hml hown hts hKs hT hb0 hH (As := [.int v2_136, .int 3]) (rest := [rv E v1_136]) (k_NX12_hearing l E K H.size a81 v2_136 3 q84.2 ha81.2 hq86) (gV m6_187 m6_188 m6_189 m1_1 m6_190) hd_NX12_hearing ⟨Nat.le_of_ble_eq_true rfl, Nat.le_of_ble_eq_true rfl, rfl, rfl⟩ ha81.1 ha81.2 rfl rfl rfl hl.1 rfl (rcV rc0) rfl dL_isGood_196 ⟨Nat.le_of_ble_eq_true rfl, Nat.le_of_ble_eq_true rfl⟩ (fun H locs hH => ?_)
                      refine lv_dup2_11 hx hb dL_isGood_199 rfl rv_cat ?_
                      obtain ⟨a87, ha87, hf⟩ := bnd hf
                      replace ha87 := cha_some ha87
                      obtain ⟨j88, hj88, hf⟩ := bnd hf
                      refine hw_iald hx hb hKs hH ha87.1 ha87.2 hj88 dL_isGood_200 ?_
                      refine hl_aload_n hx hb dL_isGood_201 rfl (lv_at hl 0 rfl) ?_
                      refine lv_iload_n hx hb dL_isGood_202 rfl (lv_at hl 2 rfl) ?_
                      refine lv_iconst (v := 1) hx hb dL_isGood_203 (by decide) ?_
                      obtain ⟨q89, hq89, hf⟩ := bnd hf
                      refine hcV_i hx hb hml hown hts hKs hT hb0 hH (As := [.int v2_136, .int 1]) (rest := [.int ((aI q86.2 a87.1 j88)), .int (q86.1), rv E v1_136]) (k_NX12_matter l E K H.size a81 v2_136 1 q86.2 ha81.2 hq89) (gV m6_182 m6_183 m6_184 m1_1 m6_185) hd_NX12_matter ⟨Nat.le_of_ble_eq_true rfl, Nat.le_of_ble_eq_true rfl, rfl, rfl⟩ ha81.1 ha81.2 rfl rfl rfl hl.1 rfl (rcI (rcI (rcV rc0))) rfl dL_isGood_204 ⟨Nat.le_of_ble_eq_true rfl, Nat.le_of_ble_eq_true rfl⟩ (fun H locs hH => ?_)
                      refine lv_iadd hx hb dL_isGood_207 ?_
                      obtain ⟨j90, hj90, hf⟩ := bnd hf
                      obtain ⟨w91, hw91, hf⟩ := bnd hf
                      replace hw91 := Option.some.inj hw91
                      refine hw_iast (x := ((aI q86.2 a87.1 j88) + q89.1)) hx hb hKs hH ha87.1 ha87.2 hj90 dL_isGood_208 (fun H locs hH => ?_)
                      rw [hw91] at hH
                      refine hl_aload_n hx hb dL_isGood_209 rfl (lv_at hl 0 rfl) ?_
                      refine hl_aload_n hx hb dL_isGood_210 rfl (lv_at hl 0 rfl) ?_
                      refine lv_iload_n hx hb dL_isGood_211 rfl (lv_at hl 2 rfl) ?_
                      refine lv_iconst (v := 2) hx hb dL_isGood_212 (by decide) ?_
                      obtain ⟨q92, hq92, hf⟩ := bnd hf
                      refine hcV_i hx hb hml hown hts hKs hT hb0 hH (As := [.int v2_136, .int 2]) (rest := [rv E v0_136]) (k_NX12_hearing l E K H.size a81 v2_136 2 w91 ha81.2 hq92) (gV m6_187 m6_188 m6_189 m1_1 m6_190) hd_NX12_hearing ⟨Nat.le_of_ble_eq_true rfl, Nat.le_of_ble_eq_true rfl, rfl, rfl⟩ ha81.1 ha81.2 rfl rfl rfl hl.1 rfl (rcV rc0) rfl dL_isGood_213 ⟨Nat.le_of_ble_eq_true rfl, Nat.le_of_ble_eq_true rfl⟩ (fun H locs hH => ?_)
                      refine hl_aload_n hx hb dL_isGood_216 rfl (lv_at hl 0 rfl) ?_
                      refine lv_iload_n hx hb dL_isGood_217 rfl (lv_at hl 2 rfl) ?_
                      refine lv_iconst (v := 0) hx hb dL_isGood_218 (by decide) ?_
                      obtain ⟨q93, hq93, hf⟩ := bnd hf
                      refine hcV_i hx hb hml hown hts hKs hT hb0 hH (As := [.int v2_136, .int 0]) (rest := [.int (q92.1), rv E v0_136]) (k_NX12_hearing l E K H.size a81 v2_136 0 q92.2 ha81.2 hq93) (gV m6_187 m6_188 m6_189 m1_1 m6_190) hd_NX12_hearing ⟨Nat.le_of_ble_eq_true rfl, Nat.le_of_ble_eq_true rfl, rfl, rfl⟩ ha81.1 ha81.2 rfl rfl rfl hl.1 rfl (rcI (rcV rc0)) rfl dL_isGood_219 ⟨Nat.le_of_ble_eq_true rfl, Nat.le_of_ble_eq_true rfl⟩ (fun H locs hH => ?_)
                      refine hl_aload_n hx hb dL_isGood_222 rfl (lv_at hl 0 rfl) ?_
                      refine lv_iload_n hx hb dL_isGood_223 rfl (lv_at hl 2 rfl) ?_
                      refine lv_iconst (v := 1) hx hb dL_isGood_224 (by decide) ?_
                      obtain ⟨q94, hq94, hf⟩ := bnd hf
                      refine hcV_i hx hb hml hown hts hKs hT hb0 hH (As := [.int v2_136, .int 1]) (rest := [.int (q93.1), .int (q92.1), rv E v0_136]) (k_NX12_hearing l E K H.size a81 v2_136 1 q93.2 ha81.2 hq94) (gV m6_187 m6_188 m6_189 m1_1 m6_190) hd_NX12_hearing ⟨Nat.le_of_ble_eq_true rfl, Nat.le_of_ble_eq_true rfl, rfl, rfl⟩ ha81.1 ha81.2 rfl rfl rfl hl.1 rfl (rcI (rcI (rcV rc0))) rfl dL_isGood_225 ⟨Nat.le_of_ble_eq_true rfl, Nat.le_of_ble_eq_true rfl⟩ (fun H locs hH => ?_)
                      obtain ⟨q95, hq95, hf⟩ := bnd hf
                      refine hcV_i hx hb hml hown hts hKs hT hb0 hH (As := [.int (q92.1), .int (q93.1), .int (q94.1)]) (rest := []) (k_NX12_caseAt l E K H.size a81 q92.1 q93.1 q94.1 q94.2 ha81.2 hq95) (gV m6_195 m6_196 m6_197 m1_1 m6_198) hd_NX12_caseAt ⟨Nat.le_of_ble_eq_true rfl, Nat.le_of_ble_eq_true rfl, rfl, rfl⟩ ha81.1 ha81.2 rfl rfl rfl hl.1 rfl rc0 rfl dL_isGood_228 ⟨Nat.le_of_ble_eq_true rfl, Nat.le_of_ble_eq_true rfl⟩ (fun H locs hH => ?_)
                      refine lv_iload_n hx hb dL_isGood_231 rfl (lv_at hl 2 rfl) ?_
                      refine lv_icmp_eq (tgt := 237) hx hb dL_isGood_232 (by decide) (fun c96 => ?_) (fun c96 => ?_)
                      · replace hf := (if_pos c96).symm.trans hf
                        refine lv_iload_n hx hb dL_isGood_237 rfl (lv_at hl 3 rfl) ?_
                        refine lv_iconst (v := 1) hx hb dL_isGood_238 (by decide) ?_
                        refine lv_icmp_ne (tgt := 276) hx hb dL_isGood_239 (by decide) (fun c97 => ?_) (fun c97 => ?_)
                        · replace hf := (if_neg c97).symm.trans hf
                          refine lv_iinc (v := (v2_136 + 1)) (lv' := [(2, .int ((v2_136 + 1))), (0, rv E v0_136), (1, rv E v1_136), (3, .int v3_136), (4, .int v4_136), (5, .int v5_136)]) hx hb dL_isGood_276 hl (k := 2) rfl rfl (by decide) (by simp [List.filter_cons, cat_q, cat_i, cat_j, imax, imin]) (fun ls hl => ?_)
                          refine lv_goto (tgt := 39) hx hb dL_isGood_279 (by decide) ?_
                          exact ih v0_136 v1_136 (v2_136 + 1) _ _ _ _ hH (lv_sub hl [1, 2, 0] rfl) hf
                        · replace hf := (if_pos c97).symm.trans hf
                          refine hl_aload_n hx hb dL_isGood_242 rfl (lv_at hl 0 rfl) ?_
                          refine lv_iload_n hx hb dL_isGood_243 rfl (lv_at hl 2 rfl) ?_
                          refine hl_aload_n hx hb dL_isGood_244 rfl (lv_at hl 0 rfl) ?_
                          refine lv_iload_n hx hb dL_isGood_245 rfl (lv_at hl 2 rfl) ?_
                          refine lv_iconst (v := 0) hx hb dL_isGood_246 (by decide) ?_
                          obtain ⟨q98, hq98, hf⟩ := bnd hf
                          refine hcV_i hx hb hml hown hts hKs hT hb0 hH (As := [.int v2_136, .int 0]) (rest := [.int v2_136, rv E v0_136]) (k_NX12_hearing l E K H.size a81 v2_136 0 q95.2 ha81.2 hq98) (gV m6_187 m6_188 m6_189 m1_1 m6_190) hd_NX12_hearing ⟨Nat.le_of_ble_eq_true rfl, Nat.le_of_ble_eq_true rfl, rfl, rfl⟩ ha81.1 ha81.2 rfl rfl rfl hl.1 rfl (rcI (rcV rc0)) rfl dL_isGood_247 ⟨Nat.le_of_ble_eq_true rfl, Nat.le_of_ble_eq_true rfl⟩ (fun H locs hH => ?_)
                          refine hl_aload_n hx hb dL_isGood_250 rfl (lv_at hl 0 rfl) ?_
                          refine lv_iload_n hx hb dL_isGood_251 rfl (lv_at hl 2 rfl) ?_
                          refine lv_iconst (v := 1) hx hb dL_isGood_252 (by decide) ?_
                          obtain ⟨q99, hq99, hf⟩ := bnd hf
                          refine hcV_i hx hb hml hown hts hKs hT hb0 hH (As := [.int v2_136, .int 1]) (rest := [.int (q98.1), .int v2_136, rv E v0_136]) (k_NX12_hearing l E K H.size a81 v2_136 1 q98.2 ha81.2 hq99) (gV m6_187 m6_188 m6_189 m1_1 m6_190) hd_NX12_hearing ⟨Nat.le_of_ble_eq_true rfl, Nat.le_of_ble_eq_true rfl, rfl, rfl⟩ ha81.1 ha81.2 rfl rfl rfl hl.1 rfl (rcI (rcI (rcV rc0))) rfl dL_isGood_253 ⟨Nat.le_of_ble_eq_true rfl, Nat.le_of_ble_eq_true rfl⟩ (fun H locs hH => ?_)
                          refine hl_aload_n hx hb dL_isGood_256 rfl (lv_at hl 0 rfl) ?_
                          refine lv_iload_n hx hb dL_isGood_257 rfl (lv_at hl 2 rfl) ?_
                          refine lv_iconst (v := 2) hx hb dL_isGood_258 (by decide) ?_
                          obtain ⟨q100, hq100, hf⟩ := bnd hf
                          refine hcV_i hx hb hml hown hts hKs hT hb0 hH (As := [.int v2_136, .int 2]) (rest := [.int (q99.1), .int (q98.1), .int v2_136, rv E v0_136]) (k_NX12_hearing l E K H.size a81 v2_136 2 q99.2 ha81.2 hq100) (gV m6_187 m6_188 m6_189 m1_1 m6_190) hd_NX12_hearing ⟨Nat.le_of_ble_eq_true rfl, Nat.le_of_ble_eq_true rfl, rfl, rfl⟩ ha81.1 ha81.2 rfl rfl rfl hl.1 rfl (rcI (rcI (rcI (rcV rc0)))) rfl dL_isGood_259 ⟨Nat.le_of_ble_eq_true rfl, Nat.le_of_ble_eq_true rfl⟩ (fun H locs hH => ?_)
                          refine hl_aload_n hx hb dL_isGood_262 rfl (lv_at hl 0 rfl) ?_
                          refine lv_iload_n hx hb dL_isGood_263 rfl (lv_at hl 2 rfl) ?_
                          refine lv_iconst (v := 3) hx hb dL_isGood_264 (by decide) ?_
                          obtain ⟨q101, hq101, hf⟩ := bnd hf
                          refine hcV_i hx hb hml hown hts hKs hT hb0 hH (As := [.int v2_136, .int 3]) (rest := [.int (q100.1), .int (q99.1), .int (q98.1), .int v2_136, rv E v0_136]) (k_NX12_hearing l E K H.size a81 v2_136 3 q100.2 ha81.2 hq101) (gV m6_187 m6_188 m6_189 m1_1 m6_190) hd_NX12_hearing ⟨Nat.le_of_ble_eq_true rfl, Nat.le_of_ble_eq_true rfl, rfl, rfl⟩ ha81.1 ha81.2 rfl rfl rfl hl.1 rfl (rcI (rcI (rcI (rcI (rcV rc0))))) rfl dL_isGood_265 ⟨Nat.le_of_ble_eq_true rfl, Nat.le_of_ble_eq_true rfl⟩ (fun H locs hH => ?_)
                          obtain ⟨q102, hq102, hf⟩ := bnd hf
                          refine hcV_i hx hb hml hown hts hKs hT hb0 hH (As := [.int v2_136, .int (q98.1), .int (q99.1), .int (q100.1), .int (q101.1)]) (rest := []) (k_NX12_problem l E K H.size a81 v2_136 q98.1 q99.1 q100.1 q101.1 q101.2 ha81.2 hq102) (gV m6_213 m6_214 m6_215 m1_1 m6_216) hd_NX12_problem ⟨Nat.le_of_ble_eq_true rfl, Nat.le_of_ble_eq_true rfl, rfl, rfl⟩ ha81.1 ha81.2 rfl rfl rfl hl.1 rfl rc0 rfl dL_isGood_268 ⟨Nat.le_of_ble_eq_true rfl, Nat.le_of_ble_eq_true rfl⟩ (fun H locs hH => ?_)
                          refine lv_if_eq (tgt := 276) hx hb dL_isGood_271 (by decide) (fun c103 => ?_) (fun c103 => ?_)
                          · replace hf := (if_pos c103).symm.trans hf
                            refine lv_iinc (v := (v2_136 + 1)) (lv' := [(2, .int ((v2_136 + 1))), (0, rv E v0_136), (1, rv E v1_136), (3, .int v3_136), (4, .int v4_136), (5, .int v5_136)]) hx hb dL_isGood_276 hl (k := 2) rfl rfl (by decide) (by simp [List.filter_cons, cat_q, cat_i, cat_j, imax, imin]) (fun ls hl => ?_)
                            refine lv_goto (tgt := 39) hx hb dL_isGood_279 (by decide) ?_
                            exact ih v0_136 v1_136 (v2_136 + 1) _ _ _ _ hH (lv_sub hl [1, 2, 0] rfl) hf
                          · replace hf := (if_neg c103).symm.trans hf
                            refine lv_iconst (v := 0) hx hb dL_isGood_274 (by decide) ?_
                            exact hw_wretz hx hb (Nat.le_of_ble_eq_true rfl) (Nat.le_of_ble_eq_true rfl) hret rfl hf hH hlocks dL_isGood_275
                      · replace hf := (if_neg c96).symm.trans hf
                        refine lv_iconst (v := 0) hx hb dL_isGood_235 (by decide) ?_
                        exact hw_wretz hx hb (Nat.le_of_ble_eq_true rfl) (Nat.le_of_ble_eq_true rfl) hret rfl hf hH hlocks dL_isGood_236
                    · replace hf := (if_neg c85).symm.trans hf
                      refine lv_goto (tgt := 276) hx hb dL_isGood_189 (by decide) ?_
                      refine lv_iinc (v := (v2_136 + 1)) (lv' := [(2, .int ((v2_136 + 1))), (0, rv E v0_136), (1, rv E v1_136), (3, .int v3_136), (4, .int v4_136), (5, .int v5_136)]) hx hb dL_isGood_276 hl (k := 2) rfl rfl (by decide) (by simp [List.filter_cons, cat_q, cat_i, cat_j, imax, imin]) (fun ls hl => ?_)
                      refine lv_goto (tgt := 39) hx hb dL_isGood_279 (by decide) ?_
                      exact ih v0_136 v1_136 (v2_136 + 1) _ _ _ _ hH (lv_sub hl [1, 2, 0] rfl) hf
                  · replace hf := (if_neg c83).symm.trans hf
                    refine lv_iconst (v := 0) hx hb dL_isGood_178 (by decide) ?_
                    exact hw_wretz hx hb (Nat.le_of_ble_eq_true rfl) (Nat.le_of_ble_eq_true rfl) hret rfl hf hH hlocks dL_isGood_179
                · replace hf := (if_pos c79).symm.trans hf
                  refine hl_aload_n hx hb dL_isGood_113 rfl (lv_at hl 1 rfl) ?_
                  refine lv_iload_n hx hb dL_isGood_114 rfl (lv_at hl 3 rfl) ?_
                  refine lv_iconst (v := 3) hx hb dL_isGood_115 (by decide) ?_
                  obtain ⟨q104, hq104, hf⟩ := bnd hf
                  refine hcV_i hx hb hml hown hts hKs hT hb0 hH (As := [.int v2_39, .int 3]) (rest := []) (k_NX12_matter l E K H.size a10 v2_39 3 q78.2 ha10.2 hq104) (gV m6_182 m6_183 m6_184 m1_1 m6_185) hd_NX12_matter ⟨Nat.le_of_ble_eq_true rfl, Nat.le_of_ble_eq_true rfl, rfl, rfl⟩ ha10.1 ha10.2 rfl rfl rfl hl.1 rfl rc0 rfl dL_isGood_116 ⟨Nat.le_of_ble_eq_true rfl, Nat.le_of_ble_eq_true rfl⟩ (fun H locs hH => ?_)
                  refine hl_aload_n hx hb dL_isGood_119 rfl (lv_at hl 1 rfl) ?_
                  refine lv_bipush (v := 8) hx hb dL_isGood_120 (by decide) ?_
                  obtain ⟨q105, hq105, hf⟩ := bnd hf
                  refine hcV_i hx hb hml hown hts hKs hT hb0 hH (As := [.int 8]) (rest := [.int (q104.1)]) (k_X12_count l E K H.size a10 8 q104.2 ha10.2 hq105) (gV m3_17 m3_18 m3_19 m1_1 m3_20) hd_X12_count ⟨Nat.le_of_ble_eq_true rfl, Nat.le_of_ble_eq_true rfl, rfl, rfl⟩ ha10.1 ha10.2 rfl rfl rfl hl.1 rfl (rcI rc0) rfl dL_isGood_122 ⟨Nat.le_of_ble_eq_true rfl, Nat.le_of_ble_eq_true rfl⟩ (fun H locs hH => ?_)
                  refine lv_icmp_le (tgt := 130) hx hb dL_isGood_125 (by decide) (fun c106 => ?_) (fun c106 => ?_)
                  · replace hf := (if_pos c106).symm.trans hf
                    refine lv_iconst (v := 0) hx hb dL_isGood_130 (by decide) ?_
                    refine lv_istore (i := 4) (lv' := [(4, .int 0), (3, .int (q11.1)), (0, rv E v0_39), (1, rv E v1_39), (2, .int v2_39)]) hx hb dL_isGood_131 hl (by decide) rfl (fun ls hl => ?_)
                    refine lv_iconst (v := 0) hx hb dL_isGood_133 (by decide) ?_
                    refine lv_istore (i := 5) (lv' := [(5, .int 0), (4, .int 0), (3, .int (q11.1)), (0, rv E v0_39), (1, rv E v1_39), (2, .int v2_39)]) hx hb dL_isGood_134 hl (by decide) rfl (fun ls hl => ?_)
                    refine l_L_isGood_L136  C _ (fun v0_136 v1_136 v2_136 v3_136 v4_136 v5_136 w107 H locs ls hH hl hf => ?_) fu v0_39 v1_39 v2_39 q11.1 0 0 q105.2 _ _ _ hH (lv_sub hl [3, 4, 5, 2, 1, 0] rfl) hf
                    refine lv_iload hx hb dL_isGood_167 (lv_at hl 4 rfl) ?_
                    refine hl_aload_n hx hb dL_isGood_169 rfl (lv_at hl 0 rfl) ?_
                    refine lv_iload_n hx hb dL_isGood_170 rfl (lv_at hl 2 rfl) ?_
                    refine lv_iconst (v := 3) hx hb dL_isGood_171 (by decide) ?_
                    obtain ⟨a108, ha108, hf⟩ := bnd hf
                    replace ha108 := chk_some ha108
                    obtain ⟨q109, hq109, hf⟩ := bnd hf
                    refine hcV_i hx hb hml hown hts hKs hT hb0 hH (As := [.int v2_136, .int 3]) (rest := [.int v4_136]) (k_NX12_matter l E K H.size a108 v2_136 3 w107 ha108.2 hq109) (gV m6_182 m6_183 m6_184 m1_1 m6_185) hd_NX12_matter ⟨Nat.le_of_ble_eq_true rfl, Nat.le_of_ble_eq_true rfl, rfl, rfl⟩ ha108.1 ha108.2 rfl rfl rfl hl.1 rfl (rcI rc0) rfl dL_isGood_172 ⟨Nat.le_of_ble_eq_true rfl, Nat.le_of_ble_eq_true rfl⟩ (fun H locs hH => ?_)
                    refine lv_icmp_eq (tgt := 180) hx hb dL_isGood_175 (by decide) (fun c110 => ?_) (fun c110 => ?_)
                    · replace hf := (if_pos c110).symm.trans hf
                      refine hl_aload_n hx hb dL_isGood_180 rfl (lv_at hl 0 rfl) ?_
                      refine lv_iload_n hx hb dL_isGood_181 rfl (lv_at hl 2 rfl) ?_
                      refine lv_iconst (v := 0) hx hb dL_isGood_182 (by decide) ?_
                      obtain ⟨q111, hq111, hf⟩ := bnd hf
                      refine hcV_i hx hb hml hown hts hKs hT hb0 hH (As := [.int v2_136, .int 0]) (rest := []) (k_NX12_hearing l E K H.size a108 v2_136 0 q109.2 ha108.2 hq111) (gV m6_187 m6_188 m6_189 m1_1 m6_190) hd_NX12_hearing ⟨Nat.le_of_ble_eq_true rfl, Nat.le_of_ble_eq_true rfl, rfl, rfl⟩ ha108.1 ha108.2 rfl rfl rfl hl.1 rfl rc0 rfl dL_isGood_183 ⟨Nat.le_of_ble_eq_true rfl, Nat.le_of_ble_eq_true rfl⟩ (fun H locs hH => ?_)
                      refine lv_if_ge (tgt := 192) hx hb dL_isGood_186 (by decide) (fun c112 => ?_) (fun c112 => ?_)
                      · replace hf := (if_pos c112).symm.trans hf
                        refine hl_aload_n hx hb dL_isGood_192 rfl (lv_at hl 1 rfl) ?_
                        refine hl_aload_n hx hb dL_isGood_193 rfl (lv_at hl 0 rfl) ?_
                        refine lv_iload_n hx hb dL_isGood_194 rfl (lv_at hl 2 rfl) ?_
                        refine lv_iconst (v := 3) hx hb dL_isGood_195 (by decide) ?_
                        obtain ⟨q113, hq113, hf⟩ := bnd hf
                        refine hcV_i hx hb hml hown hts hKs hT hb0 hH (As := [.int v2_136, .int 3]) (rest := [rv E v1_136]) (k_NX12_hearing l E K H.size a108 v2_136 3 q111.2 ha108.2 hq113) (gV m6_187 m6_188 m6_189 m1_1 m6_190) hd_NX12_hearing ⟨Nat.le_of_ble_eq_true rfl, Nat.le_of_ble_eq_true rfl, rfl, rfl⟩ ha108.1 ha108.2 rfl rfl rfl hl.1 rfl (rcV rc0) rfl dL_isGood_196 ⟨Nat.le_of_ble_eq_true rfl, Nat.le_of_ble_eq_true rfl⟩ (fun H locs hH => ?_)
                        refine lv_dup2_11 hx hb dL_isGood_199 rfl rv_cat ?_
                        obtain ⟨a114, ha114, hf⟩ := bnd hf
                        replace ha114 := cha_some ha114
                        obtain ⟨j115, hj115, hf⟩ := bnd hf
                        refine hw_iald hx hb hKs hH ha114.1 ha114.2 hj115 dL_isGood_200 ?_
                        refine hl_aload_n hx hb dL_isGood_201 rfl (lv_at hl 0 rfl) ?_
                        refine lv_iload_n hx hb dL_isGood_202 rfl (lv_at hl 2 rfl) ?_
                        refine lv_iconst (v := 1) hx hb dL_isGood_203 (by decide) ?_
                        obtain ⟨q116, hq116, hf⟩ := bnd hf
                        refine hcV_i hx hb hml hown hts hKs hT hb0 hH (As := [.int v2_136, .int 1]) (rest := [.int ((aI q113.2 a114.1 j115)), .int (q113.1), rv E v1_136]) (k_NX12_matter l E K H.size a108 v2_136 1 q113.2 ha108.2 hq116) (gV m6_182 m6_183 m6_184 m1_1 m6_185) hd_NX12_matter ⟨Nat.le_of_ble_eq_true rfl, Nat.le_of_ble_eq_true rfl, rfl, rfl⟩ ha108.1 ha108.2 rfl rfl rfl hl.1 rfl (rcI (rcI (rcV rc0))) rfl dL_isGood_204 ⟨Nat.le_of_ble_eq_true rfl, Nat.le_of_ble_eq_true rfl⟩ (fun H locs hH => ?_)
                        refine lv_iadd hx hb dL_isGood_207 ?_
                        obtain ⟨j117, hj117, hf⟩ := bnd hf
                        obtain ⟨w118, hw118, hf⟩ := bnd hf
                        replace hw118 := Option.some.inj hw118
                        refine hw_iast (x := ((aI q113.2 a114.1 j115) + q116.1)) hx hb hKs hH ha114.1 ha114.2 hj117 dL_isGood_208 (fun H locs hH => ?_)
                        rw [hw118] at hH
                        refine hl_aload_n hx hb dL_isGood_209 rfl (lv_at hl 0 rfl) ?_
                        refine hl_aload_n hx hb dL_isGood_210 rfl (lv_at hl 0 rfl) ?_
                        refine lv_iload_n hx hb dL_isGood_211 rfl (lv_at hl 2 rfl) ?_
                        refine lv_iconst (v := 2) hx hb dL_isGood_212 (by decide) ?_
                        obtain ⟨q119, hq119, hf⟩ := bnd hf
                        refine hcV_i hx hb hml hown hts hKs hT hb0 hH (As := [.int v2_136, .int 2]) (rest := [rv E v0_136]) (k_NX12_hearing l E K H.size a108 v2_136 2 w118 ha108.2 hq119) (gV m6_187 m6_188 m6_189 m1_1 m6_190) hd_NX12_hearing ⟨Nat.le_of_ble_eq_true rfl, Nat.le_of_ble_eq_true rfl, rfl, rfl⟩ ha108.1 ha108.2 rfl rfl rfl hl.1 rfl (rcV rc0) rfl dL_isGood_213 ⟨Nat.le_of_ble_eq_true rfl, Nat.le_of_ble_eq_true rfl⟩ (fun H locs hH => ?_)
                        refine hl_aload_n hx hb dL_isGood_216 rfl (lv_at hl 0 rfl) ?_
                        refine lv_iload_n hx hb dL_isGood_217 rfl (lv_at hl 2 rfl) ?_
                        refine lv_iconst (v := 0) hx hb dL_isGood_218 (by decide) ?_
                        obtain ⟨q120, hq120, hf⟩ := bnd hf
                        refine hcV_i hx hb hml hown hts hKs hT hb0 hH (As := [.int v2_136, .int 0]) (rest := [.int (q119.1), rv E v0_136]) (k_NX12_hearing l E K H.size a108 v2_136 0 q119.2 ha108.2 hq120) (gV m6_187 m6_188 m6_189 m1_1 m6_190) hd_NX12_hearing ⟨Nat.le_of_ble_eq_true rfl, Nat.le_of_ble_eq_true rfl, rfl, rfl⟩ ha108.1 ha108.2 rfl rfl rfl hl.1 rfl (rcI (rcV rc0)) rfl dL_isGood_219 ⟨Nat.le_of_ble_eq_true rfl, Nat.le_of_ble_eq_true rfl⟩ (fun H locs hH => ?_)
                        refine hl_aload_n hx hb dL_isGood_222 rfl (lv_at hl 0 rfl) ?_
                        refine lv_iload_n hx hb dL_isGood_223 rfl (lv_at hl 2 rfl) ?_
                        refine lv_iconst (v := 1) hx hb dL_isGood_224 (by decide) ?_
                        obtain ⟨q121, hq121, hf⟩ := bnd hf
                        refine hcV_i hx hb hml hown hts hKs hT hb0 hH (As := [.int v2_136, .int 1]) (rest := [.int (q120.1), .int (q119.1), rv E v0_136]) (k_NX12_hearing l E K H.size a108 v2_136 1 q120.2 ha108.2 hq121) (gV m6_187 m6_188 m6_189 m1_1 m6_190) hd_NX12_hearing ⟨Nat.le_of_ble_eq_true rfl, Nat.le_of_ble_eq_true rfl, rfl, rfl⟩ ha108.1 ha108.2 rfl rfl rfl hl.1 rfl (rcI (rcI (rcV rc0))) rfl dL_isGood_225 ⟨Nat.le_of_ble_eq_true rfl, Nat.le_of_ble_eq_true rfl⟩ (fun H locs hH => ?_)
                        obtain ⟨q122, hq122, hf⟩ := bnd hf
                        refine hcV_i hx hb hml hown hts hKs hT hb0 hH (As := [.int (q119.1), .int (q120.1), .int (q121.1)]) (rest := []) (k_NX12_caseAt l E K H.size a108 q119.1 q120.1 q121.1 q121.2 ha108.2 hq122) (gV m6_195 m6_196 m6_197 m1_1 m6_198) hd_NX12_caseAt ⟨Nat.le_of_ble_eq_true rfl, Nat.le_of_ble_eq_true rfl, rfl, rfl⟩ ha108.1 ha108.2 rfl rfl rfl hl.1 rfl rc0 rfl dL_isGood_228 ⟨Nat.le_of_ble_eq_true rfl, Nat.le_of_ble_eq_true rfl⟩ (fun H locs hH => ?_)
                        refine lv_iload_n hx hb dL_isGood_231 rfl (lv_at hl 2 rfl) ?_
                        refine lv_icmp_eq (tgt := 237) hx hb dL_isGood_232 (by decide) (fun c123 => ?_) (fun c123 => ?_)
                        · replace hf := (if_pos c123).symm.trans hf
                          refine lv_iload_n hx hb dL_isGood_237 rfl (lv_at hl 3 rfl) ?_
                          refine lv_iconst (v := 1) hx hb dL_isGood_238 (by decide) ?_
                          refine lv_icmp_ne (tgt := 276) hx hb dL_isGood_239 (by decide) (fun c124 => ?_) (fun c124 => ?_)
                          · replace hf := (if_neg c124).symm.trans hf
                            refine lv_iinc (v := (v2_136 + 1)) (lv' := [(2, .int ((v2_136 + 1))), (0, rv E v0_136), (1, rv E v1_136), (3, .int v3_136), (4, .int v4_136), (5, .int v5_136)]) hx hb dL_isGood_276 hl (k := 2) rfl rfl (by decide) (by simp [List.filter_cons, cat_q, cat_i, cat_j, imax, imin]) (fun ls hl => ?_)
                            refine lv_goto (tgt := 39) hx hb dL_isGood_279 (by decide) ?_
                            exact ih v0_136 v1_136 (v2_136 + 1) _ _ _ _ hH (lv_sub hl [1, 2, 0] rfl) hf
                          · replace hf := (if_pos c124).symm.trans hf
                            refine hl_aload_n hx hb dL_isGood_242 rfl (lv_at hl 0 rfl) ?_
                            refine lv_iload_n hx hb dL_isGood_243 rfl (lv_at hl 2 rfl) ?_
                            refine hl_aload_n hx hb dL_isGood_244 rfl (lv_at hl 0 rfl) ?_
                            refine lv_iload_n hx hb dL_isGood_245 rfl (lv_at hl 2 rfl) ?_
                            refine lv_iconst (v := 0) hx hb dL_isGood_246 (by decide) ?_
                            obtain ⟨q125, hq125, hf⟩ := bnd hf
                            refine hcV_i hx hb hml hown hts hKs hT hb0 hH (As := [.int v2_136, .int 0]) (rest := [.int v2_136, rv E v0_136]) (k_NX12_hearing l E K H.size a108 v2_136 0 q122.2 ha108.2 hq125) (gV m6_187 m6_188 m6_189 m1_1 m6_190) hd_NX12_hearing ⟨Nat.le_of_ble_eq_true rfl, Nat.le_of_ble_eq_true rfl, rfl, rfl⟩ ha108.1 ha108.2 rfl rfl rfl hl.1 rfl (rcI (rcV rc0)) rfl dL_isGood_247 ⟨Nat.le_of_ble_eq_true rfl, Nat.le_of_ble_eq_true rfl⟩ (fun H locs hH => ?_)
                            refine hl_aload_n hx hb dL_isGood_250 rfl (lv_at hl 0 rfl) ?_
                            refine lv_iload_n hx hb dL_isGood_251 rfl (lv_at hl 2 rfl) ?_
                            refine lv_iconst (v := 1) hx hb dL_isGood_252 (by decide) ?_
                            obtain ⟨q126, hq126, hf⟩ := bnd hf
                            refine hcV_i hx hb hml hown hts hKs hT hb0 hH (As := [.int v2_136, .int 1]) (rest := [.int (q125.1), .int v2_136, rv E v0_136]) (k_NX12_hearing l E K H.size a108 v2_136 1 q125.2 ha108.2 hq126) (gV m6_187 m6_188 m6_189 m1_1 m6_190) hd_NX12_hearing ⟨Nat.le_of_ble_eq_true rfl, Nat.le_of_ble_eq_true rfl, rfl, rfl⟩ ha108.1 ha108.2 rfl rfl rfl hl.1 rfl (rcI (rcI (rcV rc0))) rfl dL_isGood_253 ⟨Nat.le_of_ble_eq_true rfl, Nat.le_of_ble_eq_true rfl⟩ (fun H locs hH => ?_)
                            refine hl_aload_n hx hb dL_isGood_256 rfl (lv_at hl 0 rfl) ?_
                            refine lv_iload_n hx hb dL_isGood_257 rfl (lv_at hl 2 rfl) ?_
                            refine lv_iconst (v := 2) hx hb dL_isGood_258 (by decide) ?_
                            obtain ⟨q127, hq127, hf⟩ := bnd hf
                            refine hcV_i hx hb hml hown hts hKs hT hb0 hH (As := [.int v2_136, .int 2]) (rest := [.int (q126.1), .int (q125.1), .int v2_136, rv E v0_136]) (k_NX12_hearing l E K H.size a108 v2_136 2 q126.2 ha108.2 hq127) (gV m6_187 m6_188 m6_189 m1_1 m6_190) hd_NX12_hearing ⟨Nat.le_of_ble_eq_true rfl, Nat.le_of_ble_eq_true rfl, rfl, rfl⟩ ha108.1 ha108.2 rfl rfl rfl hl.1 rfl (rcI (rcI (rcI (rcV rc0)))) rfl dL_isGood_259 ⟨Nat.le_of_ble_eq_true rfl, Nat.le_of_ble_eq_true rfl⟩ (fun H locs hH => ?_)
                            refine hl_aload_n hx hb dL_isGood_262 rfl (lv_at hl 0 rfl) ?_
                            refine lv_iload_n hx hb dL_isGood_263 rfl (lv_at hl 2 rfl) ?_
                            refine lv_iconst (v := 3) hx hb dL_isGood_264 (by decide) ?_
                            obtain ⟨q128, hq128, hf⟩ := bnd hf
                            refine hcV_i hx hb hml hown hts hKs hT hb0 hH (As := [.int v2_136, .int 3]) (rest := [.int (q127.1), .int (q126.1), .int (q125.1), .int v2_136, rv E v0_136]) (k_NX12_hearing l E K H.size a108 v2_136 3 q127.2 ha108.2 hq128) (gV m6_187 m6_188 m6_189 m1_1 m6_190) hd_NX12_hearing ⟨Nat.le_of_ble_eq_true rfl, Nat.le_of_ble_eq_true rfl, rfl, rfl⟩ ha108.1 ha108.2 rfl rfl rfl hl.1 rfl (rcI (rcI (rcI (rcI (rcV rc0))))) rfl dL_isGood_265 ⟨Nat.le_of_ble_eq_true rfl, Nat.le_of_ble_eq_true rfl⟩ (fun H locs hH => ?_)
                            obtain ⟨q129, hq129, hf⟩ := bnd hf
                            refine hcV_i hx hb hml hown hts hKs hT hb0 hH (As := [.int v2_136, .int (q125.1), .int (q126.1), .int (q127.1), .int (q128.1)]) (rest := []) (k_NX12_problem l E K H.size a108 v2_136 q125.1 q126.1 q127.1 q128.1 q128.2 ha108.2 hq129) (gV m6_213 m6_214 m6_215 m1_1 m6_216) hd_NX12_problem ⟨Nat.le_of_ble_eq_true rfl, Nat.le_of_ble_eq_true rfl, rfl, rfl⟩ ha108.1 ha108.2 rfl rfl rfl hl.1 rfl rc0 rfl dL_isGood_268 ⟨Nat.le_of_ble_eq_true rfl, Nat.le_of_ble_eq_true rfl⟩ (fun H locs hH => ?_)
                            refine lv_if_eq (tgt := 276) hx hb dL_isGood_271 (by decide) (fun c130 => ?_) (fun c130 => ?_)
                            · replace hf := (if_pos c130).symm.trans hf
                              refine lv_iinc (v := (v2_136 + 1)) (lv' := [(2, .int ((v2_136 + 1))), (0, rv E v0_136), (1, rv E v1_136), (3, .int v3_136), (4, .int v4_136), (5, .int v5_136)]) hx hb dL_isGood_276 hl (k := 2) rfl rfl (by decide) (by simp [List.filter_cons, cat_q, cat_i, cat_j, imax, imin]) (fun ls hl => ?_)
                              refine lv_goto (tgt := 39) hx hb dL_isGood_279 (by decide) ?_
                              exact ih v0_136 v1_136 (v2_136 + 1) _ _ _ _ hH (lv_sub hl [1, 2, 0] rfl) hf
                            · replace hf := (if_neg c130).symm.trans hf
                              refine lv_iconst (v := 0) hx hb dL_isGood_274 (by decide) ?_
                              exact hw_wretz hx hb (Nat.le_of_ble_eq_true rfl) (Nat.le_of_ble_eq_true rfl) hret rfl hf hH hlocks dL_isGood_275
                        · replace hf := (if_neg c123).symm.trans hf
                          refine lv_iconst (v := 0) hx hb dL_isGood_235 (by decide) ?_
                          exact hw_wretz hx hb (Nat.le_of_ble_eq_true rfl) (Nat.le_of_ble_eq_true rfl) hret rfl hf hH hlocks dL_isGood_236
                      · replace hf := (if_neg c112).symm.trans hf
                        refine lv_goto (tgt := 276) hx hb dL_isGood_189 (by decide) ?_
                        refine lv_iinc (v := (v2_136 + 1)) (lv' := [(2, .int ((v2_136 + 1))), (0, rv E v0_136), (1, rv E v1_136), (3, .int v3_136), (4, .int v4_136), (5, .int v5_136)]) hx hb dL_isGood_276 hl (k := 2) rfl rfl (by decide) (by simp [List.filter_cons, cat_q, cat_i, cat_j, imax, imin]) (fun ls hl => ?_)
                        refine lv_goto (tgt := 39) hx hb dL_isGood_279 (by decide) ?_
                        exact ih v0_136 v1_136 (v2_136 + 1) _ _ _ _ hH (lv_sub hl [1, 2, 0] rfl) hf
                    · replace hf := (if_neg c110).symm.trans hf
                      refine lv_iconst (v := 0) hx hb dL_isGood_178 (by decide) ?_
                      exact hw_wretz hx hb (Nat.le_of_ble_eq_true rfl) (Nat.le_of_ble_eq_true rfl) hret rfl hf hH hlocks dL_isGood_179
                  · replace hf := (if_neg c106).symm.trans hf
                    refine lv_iconst (v := 0) hx hb dL_isGood_128 (by decide) ?_
                    exact hw_wretz hx hb (Nat.le_of_ble_eq_true rfl) (Nat.le_of_ble_eq_true rfl) hret rfl hf hH hlocks dL_isGood_129
      · replace hf := (if_neg c12).symm.trans hf
        refine lv_iload_n hx hb dL_isGood_56 rfl (lv_at hl 0 rfl) ?_
        refine lv_iconst (v := 2) hx hb dL_isGood_57 (by decide) ?_
        refine lv_icmp_ne (tgt := 65) hx hb dL_isGood_58 (by decide) (fun c131 => ?_) (fun c131 => ?_)
        · replace hf := (if_neg c131).symm.trans hf
          refine lv_iconst (v := 0) hx hb dL_isGood_65 (by decide) ?_
          refine hl_aload_n hx hb dL_isGood_66 rfl (lv_at hl 1 rfl) ?_
          refine lv_iload_n hx hb dL_isGood_67 rfl (lv_at hl 3 rfl) ?_
          refine lv_iconst (v := 0) hx hb dL_isGood_68 (by decide) ?_
          obtain ⟨q132, hq132, hf⟩ := bnd hf
          refine hcV_i hx hb hml hown hts hKs hT hb0 hH (As := [.int v2_39, .int 0]) (rest := [.int 0]) (k_NX12_hearing l E K H.size a10 v2_39 0 q11.2 ha10.2 hq132) (gV m6_187 m6_188 m6_189 m1_1 m6_190) hd_NX12_hearing ⟨Nat.le_of_ble_eq_true rfl, Nat.le_of_ble_eq_true rfl, rfl, rfl⟩ ha10.1 ha10.2 rfl rfl rfl hl.1 rfl (rcI rc0) rfl dL_isGood_69 ⟨Nat.le_of_ble_eq_true rfl, Nat.le_of_ble_eq_true rfl⟩ (fun H locs hH => ?_)
          refine lv_if_lt (tgt := 79) hx hb dL_isGood_72 (by decide) (fun c133 => ?_) (fun c133 => ?_)
          · replace hf := (if_pos c133).symm.trans hf
            refine lv_iconst (v := 0) hx hb dL_isGood_79 (by decide) ?_
            refine lv_icmp_ne (tgt := 128) hx hb dL_isGood_80 (by decide) (fun c134 => ?_) (fun c134 => ?_)
            · exact (by revert c134; decide : False).elim
            · skip
              refine lv_iload_n hx hb dL_isGood_83 rfl (lv_at hl 0 rfl) ?_
              refine lv_if_ne (tgt := 102) hx hb dL_isGood_84 (by decide) (fun c135 => ?_) (fun c135 => ?_)
              · replace hf := (if_neg c135).symm.trans hf
                refine hl_aload_n hx hb dL_isGood_102 rfl (lv_at hl 1 rfl) ?_
                refine lv_iload_n hx hb dL_isGood_103 rfl (lv_at hl 3 rfl) ?_
                refine lv_bipush (v := 6) hx hb dL_isGood_104 (by decide) ?_
                obtain ⟨q136, hq136, hf⟩ := bnd hf
                refine hcV_i hx hb hml hown hts hKs hT hb0 hH (As := [.int v2_39, .int 6]) (rest := []) (k_NX12_matter l E K H.size a10 v2_39 6 q132.2 ha10.2 hq136) (gV m6_182 m6_183 m6_184 m1_1 m6_185) hd_NX12_matter ⟨Nat.le_of_ble_eq_true rfl, Nat.le_of_ble_eq_true rfl, rfl, rfl⟩ ha10.1 ha10.2 rfl rfl rfl hl.1 rfl rc0 rfl dL_isGood_106 ⟨Nat.le_of_ble_eq_true rfl, Nat.le_of_ble_eq_true rfl⟩ (fun H locs hH => ?_)
                refine lv_iconst (v := 1) hx hb dL_isGood_109 (by decide) ?_
                refine lv_icmp_ne (tgt := 130) hx hb dL_isGood_110 (by decide) (fun c137 => ?_) (fun c137 => ?_)
                · replace hf := (if_neg c137).symm.trans hf
                  refine lv_iconst (v := 0) hx hb dL_isGood_130 (by decide) ?_
                  refine lv_istore (i := 4) (lv' := [(4, .int 0), (3, .int (q11.1)), (0, rv E v0_39), (1, rv E v1_39), (2, .int v2_39)]) hx hb dL_isGood_131 hl (by decide) rfl (fun ls hl => ?_)
                  refine lv_iconst (v := 0) hx hb dL_isGood_133 (by decide) ?_
                  refine lv_istore (i := 5) (lv' := [(5, .int 0), (4, .int 0), (3, .int (q11.1)), (0, rv E v0_39), (1, rv E v1_39), (2, .int v2_39)]) hx hb dL_isGood_134 hl (by decide) rfl (fun ls hl => ?_)
                  refine l_L_isGood_L136  C _ (fun v0_136 v1_136 v2_136 v3_136 v4_136 v5_136 w138 H locs ls hH hl hf => ?_) fu v0_39 v1_39 v2_39 q11.1 0 0 q136.2 _ _ _ hH (lv_sub hl [3, 4, 5, 2, 1, 0] rfl) hf
                  refine lv_iload hx hb dL_isGood_167 (lv_at hl 4 rfl) ?_
                  refine hl_aload_n hx hb dL_isGood_169 rfl (lv_at hl 0 rfl) ?_
                  refine lv_iload_n hx hb dL_isGood_170 rfl (lv_at hl 2 rfl) ?_
                  refine lv_iconst (v := 3) hx hb dL_isGood_171 (by decide) ?_
                  obtain ⟨a139, ha139, hf⟩ := bnd hf
                  replace ha139 := chk_some ha139
                  obtain ⟨q140, hq140, hf⟩ := bnd hf
                  refine hcV_i hx hb hml hown hts hKs hT hb0 hH (As := [.int v2_136, .int 3]) (rest := [.int v4_136]) (k_NX12_matter l E K H.size a139 v2_136 3 w138 ha139.2 hq140) (gV m6_182 m6_183 m6_184 m1_1 m6_185) hd_NX12_matter ⟨Nat.le_of_ble_eq_true rfl, Nat.le_of_ble_eq_true rfl, rfl, rfl⟩ ha139.1 ha139.2 rfl rfl rfl hl.1 rfl (rcI rc0) rfl dL_isGood_172 ⟨Nat.le_of_ble_eq_true rfl, Nat.le_of_ble_eq_true rfl⟩ (fun H locs hH => ?_)
                  refine lv_icmp_eq (tgt := 180) hx hb dL_isGood_175 (by decide) (fun c141 => ?_) (fun c141 => ?_)
                  · replace hf := (if_pos c141).symm.trans hf
                    refine hl_aload_n hx hb dL_isGood_180 rfl (lv_at hl 0 rfl) ?_
                    refine lv_iload_n hx hb dL_isGood_181 rfl (lv_at hl 2 rfl) ?_
                    refine lv_iconst (v := 0) hx hb dL_isGood_182 (by decide) ?_
                    obtain ⟨q142, hq142, hf⟩ := bnd hf
                    refine hcV_i hx hb hml hown hts hKs hT hb0 hH (As := [.int v2_136, .int 0]) (rest := []) (k_NX12_hearing l E K H.size a139 v2_136 0 q140.2 ha139.2 hq142) (gV m6_187 m6_188 m6_189 m1_1 m6_190) hd_NX12_hearing ⟨Nat.le_of_ble_eq_true rfl, Nat.le_of_ble_eq_true rfl, rfl, rfl⟩ ha139.1 ha139.2 rfl rfl rfl hl.1 rfl rc0 rfl dL_isGood_183 ⟨Nat.le_of_ble_eq_true rfl, Nat.le_of_ble_eq_true rfl⟩ (fun H locs hH => ?_)
                    refine lv_if_ge (tgt := 192) hx hb dL_isGood_186 (by decide) (fun c143 => ?_) (fun c143 => ?_)
                    · replace hf := (if_pos c143).symm.trans hf
                      refine hl_aload_n hx hb dL_isGood_192 rfl (lv_at hl 1 rfl) ?_
                      refine hl_aload_n hx hb dL_isGood_193 rfl (lv_at hl 0 rfl) ?_
                      refine lv_iload_n hx hb dL_isGood_194 rfl (lv_at hl 2 rfl) ?_
                      refine lv_iconst (v := 3) hx hb dL_isGood_195 (by decide) ?_
                      obtain ⟨q144, hq144, hf⟩ := bnd hf
                      refine hcV_i hx hb hml hown hts hKs hT hb0 hH (As := [.int v2_136, .int 3]) (rest := [rv E v1_136]) (k_NX12_hearing l E K H.size a139 v2_136 3 q142.2 ha139.2 hq144) (gV m6_187 m6_188 m6_189 m1_1 m6_190) hd_NX12_hearing ⟨Nat.le_of_ble_eq_true rfl, Nat.le_of_ble_eq_true rfl, rfl, rfl⟩ ha139.1 ha139.2 rfl rfl rfl hl.1 rfl (rcV rc0) rfl dL_isGood_196 ⟨Nat.le_of_ble_eq_true rfl, Nat.le_of_ble_eq_true rfl⟩ (fun H locs hH => ?_)
                      refine lv_dup2_11 hx hb dL_isGood_199 rfl rv_cat ?_
                      obtain ⟨a145, ha145, hf⟩ := bnd hf
                      replace ha145 := cha_some ha145
                      obtain ⟨j146, hj146, hf⟩ := bnd hf
                      refine hw_iald hx hb hKs hH ha145.1 ha145.2 hj146 dL_isGood_200 ?_
                      refine hl_aload_n hx hb dL_isGood_201 rfl (lv_at hl 0 rfl) ?_
                      refine lv_iload_n hx hb dL_isGood_202 rfl (lv_at hl 2 rfl) ?_
                      refine lv_iconst (v := 1) hx hb dL_isGood_203 (by decide) ?_
                      obtain ⟨q147, hq147, hf⟩ := bnd hf
                      refine hcV_i hx hb hml hown hts hKs hT hb0 hH (As := [.int v2_136, .int 1]) (rest := [.int ((aI q144.2 a145.1 j146)), .int (q144.1), rv E v1_136]) (k_NX12_matter l E K H.size a139 v2_136 1 q144.2 ha139.2 hq147) (gV m6_182 m6_183 m6_184 m1_1 m6_185) hd_NX12_matter ⟨Nat.le_of_ble_eq_true rfl, Nat.le_of_ble_eq_true rfl, rfl, rfl⟩ ha139.1 ha139.2 rfl rfl rfl hl.1 rfl (rcI (rcI (rcV rc0))) rfl dL_isGood_204 ⟨Nat.le_of_ble_eq_true rfl, Nat.le_of_ble_eq_true rfl⟩ (fun H locs hH => ?_)
                      refine lv_iadd hx hb dL_isGood_207 ?_
                      obtain ⟨j148, hj148, hf⟩ := bnd hf
                      obtain ⟨w149, hw149, hf⟩ := bnd hf
                      replace hw149 := Option.some.inj hw149
                      refine hw_iast (x := ((aI q144.2 a145.1 j146) + q147.1)) hx hb hKs hH ha145.1 ha145.2 hj148 dL_isGood_208 (fun H locs hH => ?_)
                      rw [hw149] at hH
                      refine hl_aload_n hx hb dL_isGood_209 rfl (lv_at hl 0 rfl) ?_
                      refine hl_aload_n hx hb dL_isGood_210 rfl (lv_at hl 0 rfl) ?_
                      refine lv_iload_n hx hb dL_isGood_211 rfl (lv_at hl 2 rfl) ?_
                      refine lv_iconst (v := 2) hx hb dL_isGood_212 (by decide) ?_
                      obtain ⟨q150, hq150, hf⟩ := bnd hf
                      refine hcV_i hx hb hml hown hts hKs hT hb0 hH (As := [.int v2_136, .int 2]) (rest := [rv E v0_136]) (k_NX12_hearing l E K H.size a139 v2_136 2 w149 ha139.2 hq150) (gV m6_187 m6_188 m6_189 m1_1 m6_190) hd_NX12_hearing ⟨Nat.le_of_ble_eq_true rfl, Nat.le_of_ble_eq_true rfl, rfl, rfl⟩ ha139.1 ha139.2 rfl rfl rfl hl.1 rfl (rcV rc0) rfl dL_isGood_213 ⟨Nat.le_of_ble_eq_true rfl, Nat.le_of_ble_eq_true rfl⟩ (fun H locs hH => ?_)
                      refine hl_aload_n hx hb dL_isGood_216 rfl (lv_at hl 0 rfl) ?_
                      refine lv_iload_n hx hb dL_isGood_217 rfl (lv_at hl 2 rfl) ?_
                      refine lv_iconst (v := 0) hx hb dL_isGood_218 (by decide) ?_
                      obtain ⟨q151, hq151, hf⟩ := bnd hf
                      refine hcV_i hx hb hml hown hts hKs hT hb0 hH (As := [.int v2_136, .int 0]) (rest := [.int (q150.1), rv E v0_136]) (k_NX12_hearing l E K H.size a139 v2_136 0 q150.2 ha139.2 hq151) (gV m6_187 m6_188 m6_189 m1_1 m6_190) hd_NX12_hearing ⟨Nat.le_of_ble_eq_true rfl, Nat.le_of_ble_eq_true rfl, rfl, rfl⟩ ha139.1 ha139.2 rfl rfl rfl hl.1 rfl (rcI (rcV rc0)) rfl dL_isGood_219 ⟨Nat.le_of_ble_eq_true rfl, Nat.le_of_ble_eq_true rfl⟩ (fun H locs hH => ?_)
                      refine hl_aload_n hx hb dL_isGood_222 rfl (lv_at hl 0 rfl) ?_
                      refine lv_iload_n hx hb dL_isGood_223 rfl (lv_at hl 2 rfl) ?_
                      refine lv_iconst (v := 1) hx hb dL_isGood_224 (by decide) ?_
                      obtain ⟨q152, hq152, hf⟩ := bnd hf
                      refine hcV_i hx hb hml hown hts hKs hT hb0 hH (As := [.int v2_136, .int 1]) (rest := [.int (q151.1), .int (q150.1), rv E v0_136]) (k_NX12_hearing l E K H.size a139 v2_136 1 q151.2 ha139.2 hq152) (gV m6_187 m6_188 m6_189 m1_1 m6_190) hd_NX12_hearing ⟨Nat.le_of_ble_eq_true rfl, Nat.le_of_ble_eq_true rfl, rfl, rfl⟩ ha139.1 ha139.2 rfl rfl rfl hl.1 rfl (rcI (rcI (rcV rc0))) rfl dL_isGood_225 ⟨Nat.le_of_ble_eq_true rfl, Nat.le_of_ble_eq_true rfl⟩ (fun H locs hH => ?_)
                      obtain ⟨q153, hq153, hf⟩ := bnd hf
                      refine hcV_i hx hb hml hown hts hKs hT hb0 hH (As := [.int (q150.1), .int (q151.1), .int (q152.1)]) (rest := []) (k_NX12_caseAt l E K H.size a139 q150.1 q151.1 q152.1 q152.2 ha139.2 hq153) (gV m6_195 m6_196 m6_197 m1_1 m6_198) hd_NX12_caseAt ⟨Nat.le_of_ble_eq_true rfl, Nat.le_of_ble_eq_true rfl, rfl, rfl⟩ ha139.1 ha139.2 rfl rfl rfl hl.1 rfl rc0 rfl dL_isGood_228 ⟨Nat.le_of_ble_eq_true rfl, Nat.le_of_ble_eq_true rfl⟩ (fun H locs hH => ?_)
                      refine lv_iload_n hx hb dL_isGood_231 rfl (lv_at hl 2 rfl) ?_
                      refine lv_icmp_eq (tgt := 237) hx hb dL_isGood_232 (by decide) (fun c154 => ?_) (fun c154 => ?_)
                      · replace hf := (if_pos c154).symm.trans hf
                        refine lv_iload_n hx hb dL_isGood_237 rfl (lv_at hl 3 rfl) ?_
                        refine lv_iconst (v := 1) hx hb dL_isGood_238 (by decide) ?_
                        refine lv_icmp_ne (tgt := 276) hx hb dL_isGood_239 (by decide) (fun c155 => ?_) (fun c155 => ?_)
                        · replace hf := (if_neg c155).symm.trans hf
                          refine lv_iinc (v := (v2_136 + 1)) (lv' := [(2, .int ((v2_136 + 1))), (0, rv E v0_136), (1, rv E v1_136), (3, .int v3_136), (4, .int v4_136), (5, .int v5_136)]) hx hb dL_isGood_276 hl (k := 2) rfl rfl (by decide) (by simp [List.filter_cons, cat_q, cat_i, cat_j, imax, imin]) (fun ls hl => ?_)
                          refine lv_goto (tgt := 39) hx hb dL_isGood_279 (by decide) ?_
                          exact ih v0_136 v1_136 (v2_136 + 1) _ _ _ _ hH (lv_sub hl [1, 2, 0] rfl) hf
                        · replace hf := (if_pos c155).symm.trans hf
                          refine hl_aload_n hx hb dL_isGood_242 rfl (lv_at hl 0 rfl) ?_
                          refine lv_iload_n hx hb dL_isGood_243 rfl (lv_at hl 2 rfl) ?_
                          refine hl_aload_n hx hb dL_isGood_244 rfl (lv_at hl 0 rfl) ?_
                          refine lv_iload_n hx hb dL_isGood_245 rfl (lv_at hl 2 rfl) ?_
                          refine lv_iconst (v := 0) hx hb dL_isGood_246 (by decide) ?_
                          obtain ⟨q156, hq156, hf⟩ := bnd hf
                          refine hcV_i hx hb hml hown hts hKs hT hb0 hH (As := [.int v2_136, .int 0]) (rest := [.int v2_136, rv E v0_136]) (k_NX12_hearing l E K H.size a139 v2_136 0 q153.2 ha139.2 hq156) (gV m6_187 m6_188 m6_189 m1_1 m6_190) hd_NX12_hearing ⟨Nat.le_of_ble_eq_true rfl, Nat.le_of_ble_eq_true rfl, rfl, rfl⟩ ha139.1 ha139.2 rfl rfl rfl hl.1 rfl (rcI (rcV rc0)) rfl dL_isGood_247 ⟨Nat.le_of_ble_eq_true rfl, Nat.le_of_ble_eq_true rfl⟩ (fun H locs hH => ?_)
                          refine hl_aload_n hx hb dL_isGood_250 rfl (lv_at hl 0 rfl) ?_
                          refine lv_iload_n hx hb dL_isGood_251 rfl (lv_at hl 2 rfl) ?_
                          refine lv_iconst (v := 1) hx hb dL_isGood_252 (by decide) ?_
                          obtain ⟨q157, hq157, hf⟩ := bnd hf
                          refine hcV_i hx hb hml hown hts hKs hT hb0 hH (As := [.int v2_136, .int 1]) (rest := [.int (q156.1), .int v2_136, rv E v0_136]) (k_NX12_hearing l E K H.size a139 v2_136 1 q156.2 ha139.2 hq157) (gV m6_187 m6_188 m6_189 m1_1 m6_190) hd_NX12_hearing ⟨Nat.le_of_ble_eq_true rfl, Nat.le_of_ble_eq_true rfl, rfl, rfl⟩ ha139.1 ha139.2 rfl rfl rfl hl.1 rfl (rcI (rcI (rcV rc0))) rfl dL_isGood_253 ⟨Nat.le_of_ble_eq_true rfl, Nat.le_of_ble_eq_true rfl⟩ (fun H locs hH => ?_)
                          refine hl_aload_n hx hb dL_isGood_256 rfl (lv_at hl 0 rfl) ?_
                          refine lv_iload_n hx hb dL_isGood_257 rfl (lv_at hl 2 rfl) ?_
                          refine lv_iconst (v := 2) hx hb dL_isGood_258 (by decide) ?_
                          obtain ⟨q158, hq158, hf⟩ := bnd hf
                          refine hcV_i hx hb hml hown hts hKs hT hb0 hH (As := [.int v2_136, .int 2]) (rest := [.int (q157.1), .int (q156.1), .int v2_136, rv E v0_136]) (k_NX12_hearing l E K H.size a139 v2_136 2 q157.2 ha139.2 hq158) (gV m6_187 m6_188 m6_189 m1_1 m6_190) hd_NX12_hearing ⟨Nat.le_of_ble_eq_true rfl, Nat.le_of_ble_eq_true rfl, rfl, rfl⟩ ha139.1 ha139.2 rfl rfl rfl hl.1 rfl (rcI (rcI (rcI (rcV rc0)))) rfl dL_isGood_259 ⟨Nat.le_of_ble_eq_true rfl, Nat.le_of_ble_eq_true rfl⟩ (fun H locs hH => ?_)
                          refine hl_aload_n hx hb dL_isGood_262 rfl (lv_at hl 0 rfl) ?_
                          refine lv_iload_n hx hb dL_isGood_263 rfl (lv_at hl 2 rfl) ?_
                          refine lv_iconst (v := 3) hx hb dL_isGood_264 (by decide) ?_
                          obtain ⟨q159, hq159, hf⟩ := bnd hf
                          refine hcV_i hx hb hml hown hts hKs hT hb0 hH (As := [.int v2_136, .int 3]) (rest := [.int (q158.1), .int (q157.1), .int (q156.1), .int v2_136, rv E v0_136]) (k_NX12_hearing l E K H.size a139 v2_136 3 q158.2 ha139.2 hq159) (gV m6_187 m6_188 m6_189 m1_1 m6_190) hd_NX12_hearing ⟨Nat.le_of_ble_eq_true rfl, Nat.le_of_ble_eq_true rfl, rfl, rfl⟩ ha139.1 ha139.2 rfl rfl rfl hl.1 rfl (rcI (rcI (rcI (rcI (rcV rc0))))) rfl dL_isGood_265 ⟨Nat.le_of_ble_eq_true rfl, Nat.le_of_ble_eq_true rfl⟩ (fun H locs hH => ?_)
                          obtain ⟨q160, hq160, hf⟩ := bnd hf
                          refine hcV_i hx hb hml hown hts hKs hT hb0 hH (As := [.int v2_136, .int (q156.1), .int (q157.1), .int (q158.1), .int (q159.1)]) (rest := []) (k_NX12_problem l E K H.size a139 v2_136 q156.1 q157.1 q158.1 q159.1 q159.2 ha139.2 hq160) (gV m6_213 m6_214 m6_215 m1_1 m6_216) hd_NX12_problem ⟨Nat.le_of_ble_eq_true rfl, Nat.le_of_ble_eq_true rfl, rfl, rfl⟩ ha139.1 ha139.2 rfl rfl rfl hl.1 rfl rc0 rfl dL_isGood_268 ⟨Nat.le_of_ble_eq_true rfl, Nat.le_of_ble_eq_true rfl⟩ (fun H locs hH => ?_)
                          refine lv_if_eq (tgt := 276) hx hb dL_isGood_271 (by decide) (fun c161 => ?_) (fun c161 => ?_)
                          · replace hf := (if_pos c161).symm.trans hf
                            refine lv_iinc (v := (v2_136 + 1)) (lv' := [(2, .int ((v2_136 + 1))), (0, rv E v0_136), (1, rv E v1_136), (3, .int v3_136), (4, .int v4_136), (5, .int v5_136)]) hx hb dL_isGood_276 hl (k := 2) rfl rfl (by decide) (by simp [List.filter_cons, cat_q, cat_i, cat_j, imax, imin]) (fun ls hl => ?_)
                            refine lv_goto (tgt := 39) hx hb dL_isGood_279 (by decide) ?_
                            exact ih v0_136 v1_136 (v2_136 + 1) _ _ _ _ hH (lv_sub hl [1, 2, 0] rfl) hf
                          · replace hf := (if_neg c161).symm.trans hf
                            refine lv_iconst (v := 0) hx hb dL_isGood_274 (by decide) ?_
                            exact hw_wretz hx hb (Nat.le_of_ble_eq_true rfl) (Nat.le_of_ble_eq_true rfl) hret rfl hf hH hlocks dL_isGood_275
                      · replace hf := (if_neg c154).symm.trans hf
                        refine lv_iconst (v := 0) hx hb dL_isGood_235 (by decide) ?_
                        exact hw_wretz hx hb (Nat.le_of_ble_eq_true rfl) (Nat.le_of_ble_eq_true rfl) hret rfl hf hH hlocks dL_isGood_236
                    · replace hf := (if_neg c143).symm.trans hf
                      refine lv_goto (tgt := 276) hx hb dL_isGood_189 (by decide) ?_
                      refine lv_iinc (v := (v2_136 + 1)) (lv' := [(2, .int ((v2_136 + 1))), (0, rv E v0_136), (1, rv E v1_136), (3, .int v3_136), (4, .int v4_136), (5, .int v5_136)]) hx hb dL_isGood_276 hl (k := 2) rfl rfl (by decide) (by simp [List.filter_cons, cat_q, cat_i, cat_j, imax, imin]) (fun ls hl => ?_)
                      refine lv_goto (tgt := 39) hx hb dL_isGood_279 (by decide) ?_
                      exact ih v0_136 v1_136 (v2_136 + 1) _ _ _ _ hH (lv_sub hl [1, 2, 0] rfl) hf
                  · replace hf := (if_neg c141).symm.trans hf
                    refine lv_iconst (v := 0) hx hb dL_isGood_178 (by decide) ?_
                    exact hw_wretz hx hb (Nat.le_of_ble_eq_true rfl) (Nat.le_of_ble_eq_true rfl) hret rfl hf hH hlocks dL_isGood_179
                · replace hf := (if_pos c137).symm.trans hf
                  refine hl_aload_n hx hb dL_isGood_113 rfl (lv_at hl 1 rfl) ?_
                  refine lv_iload_n hx hb dL_isGood_114 rfl (lv_at hl 3 rfl) ?_
                  refine lv_iconst (v := 3) hx hb dL_isGood_115 (by decide) ?_
                  obtain ⟨q162, hq162, hf⟩ := bnd hf
                  refine hcV_i hx hb hml hown hts hKs hT hb0 hH (As := [.int v2_39, .int 3]) (rest := []) (k_NX12_matter l E K H.size a10 v2_39 3 q136.2 ha10.2 hq162) (gV m6_182 m6_183 m6_184 m1_1 m6_185) hd_NX12_matter ⟨Nat.le_of_ble_eq_true rfl, Nat.le_of_ble_eq_true rfl, rfl, rfl⟩ ha10.1 ha10.2 rfl rfl rfl hl.1 rfl rc0 rfl dL_isGood_116 ⟨Nat.le_of_ble_eq_true rfl, Nat.le_of_ble_eq_true rfl⟩ (fun H locs hH => ?_)
                  refine hl_aload_n hx hb dL_isGood_119 rfl (lv_at hl 1 rfl) ?_
                  refine lv_bipush (v := 8) hx hb dL_isGood_120 (by decide) ?_
                  obtain ⟨q163, hq163, hf⟩ := bnd hf
                  refine hcV_i hx hb hml hown hts hKs hT hb0 hH (As := [.int 8]) (rest := [.int (q162.1)]) (k_X12_count l E K H.size a10 8 q162.2 ha10.2 hq163) (gV m3_17 m3_18 m3_19 m1_1 m3_20) hd_X12_count ⟨Nat.le_of_ble_eq_true rfl, Nat.le_of_ble_eq_true rfl, rfl, rfl⟩ ha10.1 ha10.2 rfl rfl rfl hl.1 rfl (rcI rc0) rfl dL_isGood_122 ⟨Nat.le_of_ble_eq_true rfl, Nat.le_of_ble_eq_true rfl⟩ (fun H locs hH => ?_)
                  refine lv_icmp_le (tgt := 130) hx hb dL_isGood_125 (by decide) (fun c164 => ?_) (fun c164 => ?_)
                  · replace hf := (if_pos c164).symm.trans hf
                    refine lv_iconst (v := 0) hx hb dL_isGood_130 (by decide) ?_
                    refine lv_istore (i := 4) (lv' := [(4, .int 0), (3, .int (q11.1)), (0, rv E v0_39), (1, rv E v1_39), (2, .int v2_39)]) hx hb dL_isGood_131 hl (by decide) rfl (fun ls hl => ?_)
                    refine lv_iconst (v := 0) hx hb dL_isGood_133 (by decide) ?_
                    refine lv_istore (i := 5) (lv' := [(5, .int 0), (4, .int 0), (3, .int (q11.1)), (0, rv E v0_39), (1, rv E v1_39), (2, .int v2_39)]) hx hb dL_isGood_134 hl (by decide) rfl (fun ls hl => ?_)
                    refine l_L_isGood_L136  C _ (fun v0_136 v1_136 v2_136 v3_136 v4_136 v5_136 w165 H locs ls hH hl hf => ?_) fu v0_39 v1_39 v2_39 q11.1 0 0 q163.2 _ _ _ hH (lv_sub hl [3, 4, 5, 2, 1, 0] rfl) hf
                    refine lv_iload hx hb dL_isGood_167 (lv_at hl 4 rfl) ?_
                    refine hl_aload_n hx hb dL_isGood_169 rfl (lv_at hl 0 rfl) ?_
                    refine lv_iload_n hx hb dL_isGood_170 rfl (lv_at hl 2 rfl) ?_
                    refine lv_iconst (v := 3) hx hb dL_isGood_171 (by decide) ?_
                    obtain ⟨a166, ha166, hf⟩ := bnd hf
                    replace ha166 := chk_some ha166
                    obtain ⟨q167, hq167, hf⟩ := bnd hf
                    refine hcV_i hx hb hml hown hts hKs hT hb0 hH (As := [.int v2_136, .int 3]) (rest := [.int v4_136]) (k_NX12_matter l E K H.size a166 v2_136 3 w165 ha166.2 hq167) (gV m6_182 m6_183 m6_184 m1_1 m6_185) hd_NX12_matter ⟨Nat.le_of_ble_eq_true rfl, Nat.le_of_ble_eq_true rfl, rfl, rfl⟩ ha166.1 ha166.2 rfl rfl rfl hl.1 rfl (rcI rc0) rfl dL_isGood_172 ⟨Nat.le_of_ble_eq_true rfl, Nat.le_of_ble_eq_true rfl⟩ (fun H locs hH => ?_)
                    refine lv_icmp_eq (tgt := 180) hx hb dL_isGood_175 (by decide) (fun c168 => ?_) (fun c168 => ?_)
                    · replace hf := (if_pos c168).symm.trans hf
                      refine hl_aload_n hx hb dL_isGood_180 rfl (lv_at hl 0 rfl) ?_
                      refine lv_iload_n hx hb dL_isGood_181 rfl (lv_at hl 2 rfl) ?_
                      refine lv_iconst (v := 0) hx hb dL_isGood_182 (by decide) ?_
                      obtain ⟨q169, hq169, hf⟩ := bnd hf
                      refine hcV_i hx hb hml hown hts hKs hT hb0 hH (As := [.int v2_136, .int 0]) (rest := []) (k_NX12_hearing l E K H.size a166 v2_136 0 q167.2 ha166.2 hq169) (gV m6_187 m6_188 m6_189 m1_1 m6_190) hd_NX12_hearing ⟨Nat.le_of_ble_eq_true rfl, Nat.le_of_ble_eq_true rfl, rfl, rfl⟩ ha166.1 ha166.2 rfl rfl rfl hl.1 rfl rc0 rfl dL_isGood_183 ⟨Nat.le_of_ble_eq_true rfl, Nat.le_of_ble_eq_true rfl⟩ (fun H locs hH => ?_)
                      refine lv_if_ge (tgt := 192) hx hb dL_isGood_186 (by decide) (fun c170 => ?_) (fun c170 => ?_)
                      · replace hf := (if_pos c170).symm.trans hf
                        refine hl_aload_n hx hb dL_isGood_192 rfl (lv_at hl 1 rfl) ?_
                        refine hl_aload_n hx hb dL_isGood_193 rfl (lv_at hl 0 rfl) ?_
                        refine lv_iload_n hx hb dL_isGood_194 rfl (lv_at hl 2 rfl) ?_
                        refine lv_iconst (v := 3) hx hb dL_isGood_195 (by decide) ?_
                        obtain ⟨q171, hq171, hf⟩ := bnd hf
                        refine hcV_i hx hb hml hown hts hKs hT hb0 hH (As := [.int v2_136, .int 3]) (rest := [rv E v1_136]) (k_NX12_hearing l E K H.size a166 v2_136 3 q169.2 ha166.2 hq171) (gV m6_187 m6_188 m6_189 m1_1 m6_190) hd_NX12_hearing ⟨Nat.le_of_ble_eq_true rfl, Nat.le_of_ble_eq_true rfl, rfl, rfl⟩ ha166.1 ha166.2 rfl rfl rfl hl.1 rfl (rcV rc0) rfl dL_isGood_196 ⟨Nat.le_of_ble_eq_true rfl, Nat.le_of_ble_eq_true rfl⟩ (fun H locs hH => ?_)
                        refine lv_dup2_11 hx hb dL_isGood_199 rfl rv_cat ?_
                        obtain ⟨a172, ha172, hf⟩ := bnd hf
                        replace ha172 := cha_some ha172
                        obtain ⟨j173, hj173, hf⟩ := bnd hf
                        refine hw_iald hx hb hKs hH ha172.1 ha172.2 hj173 dL_isGood_200 ?_
                        refine hl_aload_n hx hb dL_isGood_201 rfl (lv_at hl 0 rfl) ?_
                        refine lv_iload_n hx hb dL_isGood_202 rfl (lv_at hl 2 rfl) ?_
                        refine lv_iconst (v := 1) hx hb dL_isGood_203 (by decide) ?_
                        obtain ⟨q174, hq174, hf⟩ := bnd hf
                        refine hcV_i hx hb hml hown hts hKs hT hb0 hH (As := [.int v2_136, .int 1]) (rest := [.int ((aI q171.2 a172.1 j173)), .int (q171.1), rv E v1_136]) (k_NX12_matter l E K H.size a166 v2_136 1 q171.2 ha166.2 hq174) (gV m6_182 m6_183 m6_184 m1_1 m6_185) hd_NX12_matter ⟨Nat.le_of_ble_eq_true rfl, Nat.le_of_ble_eq_true rfl, rfl, rfl⟩ ha166.1 ha166.2 rfl rfl rfl hl.1 rfl (rcI (rcI (rcV rc0))) rfl dL_isGood_204 ⟨Nat.le_of_ble_eq_true rfl, Nat.le_of_ble_eq_true rfl⟩ (fun H locs hH => ?_)
                        refine lv_iadd hx hb dL_isGood_207 ?_
                        obtain ⟨j175, hj175, hf⟩ := bnd hf
                        obtain ⟨w176, hw176, hf⟩ := bnd hf
                        replace hw176 := Option.some.inj hw176
                        refine hw_iast (x := ((aI q171.2 a172.1 j173) + q174.1)) hx hb hKs hH ha172.1 ha172.2 hj175 dL_isGood_208 (fun H locs hH => ?_)
                        rw [hw176] at hH
                        refine hl_aload_n hx hb dL_isGood_209 rfl (lv_at hl 0 rfl) ?_
                        refine hl_aload_n hx hb dL_isGood_210 rfl (lv_at hl 0 rfl) ?_
                        refine lv_iload_n hx hb dL_isGood_211 rfl (lv_at hl 2 rfl) ?_
                        refine lv_iconst (v := 2) hx hb dL_isGood_212 (by decide) ?_
                        obtain ⟨q177, hq177, hf⟩ := bnd hf
                        refine hcV_i hx hb hml hown hts hKs hT hb0 hH (As := [.int v2_136, .int 2]) (rest := [rv E v0_136]) (k_NX12_hearing l E K H.size a166 v2_136 2 w176 ha166.2 hq177) (gV m6_187 m6_188 m6_189 m1_1 m6_190) hd_NX12_hearing ⟨Nat.le_of_ble_eq_true rfl, Nat.le_of_ble_eq_true rfl, rfl, rfl⟩ ha166.1 ha166.2 rfl rfl rfl hl.1 rfl (rcV rc0) rfl dL_isGood_213 ⟨Nat.le_of_ble_eq_true rfl, Nat.le_of_ble_eq_true rfl⟩ (fun H locs hH => ?_)
                        refine hl_aload_n hx hb dL_isGood_216 rfl (lv_at hl 0 rfl) ?_
                        refine lv_iload_n hx hb dL_isGood_217 rfl (lv_at hl 2 rfl) ?_
                        refine lv_iconst (v := 0) hx hb dL_isGood_218 (by decide) ?_
                        obtain ⟨q178, hq178, hf⟩ := bnd hf
                        refine hcV_i hx hb hml hown hts hKs hT hb0 hH (As := [.int v2_136, .int 0]) (rest := [.int (q177.1), rv E v0_136]) (k_NX12_hearing l E K H.size a166 v2_136 0 q177.2 ha166.2 hq178) (gV m6_187 m6_188 m6_189 m1_1 m6_190) hd_NX12_hearing ⟨Nat.le_of_ble_eq_true rfl, Nat.le_of_ble_eq_true rfl, rfl, rfl⟩ ha166.1 ha166.2 rfl rfl rfl hl.1 rfl (rcI (rcV rc0)) rfl dL_isGood_219 ⟨Nat.le_of_ble_eq_true rfl, Nat.le_of_ble_eq_true rfl⟩ (fun H locs hH => ?_)
                        refine hl_aload_n hx hb dL_isGood_222 rfl (lv_at hl 0 rfl) ?_
                        refine lv_iload_n hx hb dL_isGood_223 rfl (lv_at hl 2 rfl) ?_
                        refine lv_iconst (v := 1) hx hb dL_isGood_224 (by decide) ?_
                        obtain ⟨q179, hq179, hf⟩ := bnd hf
                        refine hcV_i hx hb hml hown hts hKs hT hb0 hH (As := [.int v2_136, .int 1]) (rest := [.int (q178.1), .int (q177.1), rv E v0_136]) (k_NX12_hearing l E K H.size a166 v2_136 1 q178.2 ha166.2 hq179) (gV m6_187 m6_188 m6_189 m1_1 m6_190) hd_NX12_hearing ⟨Nat.le_of_ble_eq_true rfl, Nat.le_of_ble_eq_true rfl, rfl, rfl⟩ ha166.1 ha166.2 rfl rfl rfl hl.1 rfl (rcI (rcI (rcV rc0))) rfl dL_isGood_225 ⟨Nat.le_of_ble_eq_true rfl, Nat.le_of_ble_eq_true rfl⟩ (fun H locs hH => ?_)
                        obtain ⟨q180, hq180, hf⟩ := bnd hf
                        refine hcV_i hx hb hml hown hts hKs hT hb0 hH (As := [.int (q177.1), .int (q178.1), .int (q179.1)]) (rest := []) (k_NX12_caseAt l E K H.size a166 q177.1 q178.1 q179.1 q179.2 ha166.2 hq180) (gV m6_195 m6_196 m6_197 m1_1 m6_198) hd_NX12_caseAt ⟨Nat.le_of_ble_eq_true rfl, Nat.le_of_ble_eq_true rfl, rfl, rfl⟩ ha166.1 ha166.2 rfl rfl rfl hl.1 rfl rc0 rfl dL_isGood_228 ⟨Nat.le_of_ble_eq_true rfl, Nat.le_of_ble_eq_true rfl⟩ (fun H locs hH => ?_)
                        refine lv_iload_n hx hb dL_isGood_231 rfl (lv_at hl 2 rfl) ?_
                        refine lv_icmp_eq (tgt := 237) hx hb dL_isGood_232 (by decide) (fun c181 => ?_) (fun c181 => ?_)
                        · replace hf := (if_pos c181).symm.trans hf
                          refine lv_iload_n hx hb dL_isGood_237 rfl (lv_at hl 3 rfl) ?_
                          refine lv_iconst (v := 1) hx hb dL_isGood_238 (by decide) ?_
                          refine lv_icmp_ne (tgt := 276) hx hb dL_isGood_239 (by decide) (fun c182 => ?_) (fun c182 => ?_)
                          · replace hf := (if_neg c182).symm.trans hf
                            refine lv_iinc (v := (v2_136 + 1)) (lv' := [(2, .int ((v2_136 + 1))), (0, rv E v0_136), (1, rv E v1_136), (3, .int v3_136), (4, .int v4_136), (5, .int v5_136)]) hx hb dL_isGood_276 hl (k := 2) rfl rfl (by decide) (by simp [List.filter_cons, cat_q, cat_i, cat_j, imax, imin]) (fun ls hl => ?_)
                            refine lv_goto (tgt := 39) hx hb dL_isGood_279 (by decide) ?_
                            exact ih v0_136 v1_136 (v2_136 + 1) _ _ _ _ hH (lv_sub hl [1, 2, 0] rfl) hf
                          · replace hf := (if_pos c182).symm.trans hf
                            refine hl_aload_n hx hb dL_isGood_242 rfl (lv_at hl 0 rfl) ?_
                            refine lv_iload_n hx hb dL_isGood_243 rfl (lv_at hl 2 rfl) ?_
                            refine hl_aload_n hx hb dL_isGood_244 rfl (lv_at hl 0 rfl) ?_
                            refine lv_iload_n hx hb dL_isGood_245 rfl (lv_at hl 2 rfl) ?_
                            refine lv_iconst (v := 0) hx hb dL_isGood_246 (by decide) ?_
                            obtain ⟨q183, hq183, hf⟩ := bnd hf
                            refine hcV_i hx hb hml hown hts hKs hT hb0 hH (As := [.int v2_136, .int 0]) (rest := [.int v2_136, rv E v0_136]) (k_NX12_hearing l E K H.size a166 v2_136 0 q180.2 ha166.2 hq183) (gV m6_187 m6_188 m6_189 m1_1 m6_190) hd_NX12_hearing ⟨Nat.le_of_ble_eq_true rfl, Nat.le_of_ble_eq_true rfl, rfl, rfl⟩ ha166.1 ha166.2 rfl rfl rfl hl.1 rfl (rcI (rcV rc0)) rfl dL_isGood_247 ⟨Nat.le_of_ble_eq_true rfl, Nat.le_of_ble_eq_true rfl⟩ (fun H locs hH => ?_)
                            refine hl_aload_n hx hb dL_isGood_250 rfl (lv_at hl 0 rfl) ?_
                            refine lv_iload_n hx hb dL_isGood_251 rfl (lv_at hl 2 rfl) ?_
                            refine lv_iconst (v := 1) hx hb dL_isGood_252 (by decide) ?_
                            obtain ⟨q184, hq184, hf⟩ := bnd hf
                            refine hcV_i hx hb hml hown hts hKs hT hb0 hH (As := [.int v2_136, .int 1]) (rest := [.int (q183.1), .int v2_136, rv E v0_136]) (k_NX12_hearing l E K H.size a166 v2_136 1 q183.2 ha166.2 hq184) (gV m6_187 m6_188 m6_189 m1_1 m6_190) hd_NX12_hearing ⟨Nat.le_of_ble_eq_true rfl, Nat.le_of_ble_eq_true rfl, rfl, rfl⟩ ha166.1 ha166.2 rfl rfl rfl hl.1 rfl (rcI (rcI (rcV rc0))) rfl dL_isGood_253 ⟨Nat.le_of_ble_eq_true rfl, Nat.le_of_ble_eq_true rfl⟩ (fun H locs hH => ?_)
                            refine hl_aload_n hx hb dL_isGood_256 rfl (lv_at hl 0 rfl) ?_
                            refine lv_iload_n hx hb dL_isGood_257 rfl (lv_at hl 2 rfl) ?_
                            refine lv_iconst (v := 2) hx hb dL_isGood_258 (by decide) ?_
                            obtain ⟨q185, hq185, hf⟩ := bnd hf
                            refine hcV_i hx hb hml hown hts hKs hT hb0 hH (As := [.int v2_136, .int 2]) (rest := [.int (q184.1), .int (q183.1), .int v2_136, rv E v0_136]) (k_NX12_hearing l E K H.size a166 v2_136 2 q184.2 ha166.2 hq185) (gV m6_187 m6_188 m6_189 m1_1 m6_190) hd_NX12_hearing ⟨Nat.le_of_ble_eq_true rfl, Nat.le_of_ble_eq_true rfl, rfl, rfl⟩ ha166.1 ha166.2 rfl rfl rfl hl.1 rfl (rcI (rcI (rcI (rcV rc0)))) rfl dL_isGood_259 ⟨Nat.le_of_ble_eq_true rfl, Nat.le_of_ble_eq_true rfl⟩ (fun H locs hH => ?_)
                            refine hl_aload_n hx hb dL_isGood_262 rfl (lv_at hl 0 rfl) ?_
                            refine lv_iload_n hx hb dL_isGood_263 rfl (lv_at hl 2 rfl) ?_
                            refine lv_iconst (v := 3) hx hb dL_isGood_264 (by decide) ?_
                            obtain ⟨q186, hq186, hf⟩ := bnd hf
                            refine hcV_i hx hb hml hown hts hKs hT hb0 hH (As := [.int v2_136, .int 3]) (rest := [.int (q185.1), .int (q184.1), .int (q183.1), .int v2_136, rv E v0_136]) (k_NX12_hearing l E K H.size a166 v2_136 3 q185.2 ha166.2 hq186) (gV m6_187 m6_188 m6_189 m1_1 m6_190) hd_NX12_hearing ⟨Nat.le_of_ble_eq_true rfl, Nat.le_of_ble_eq_true rfl, rfl, rfl⟩ ha166.1 ha166.2 rfl rfl rfl hl.1 rfl (rcI (rcI (rcI (rcI (rcV rc0))))) rfl dL_isGood_265 ⟨Nat.le_of_ble_eq_true rfl, Nat.le_of_ble_eq_true rfl⟩ (fun H locs hH => ?_)
                            obtain ⟨q187, hq187, hf⟩ := bnd hf
                            refine hcV_i hx hb hml hown hts hKs hT hb0 hH (As := [.int v2_136, .int (q183.1), .int (q184.1), .int (q185.1), .int (q186.1)]) (rest := []) (k_NX12_problem l E K H.size a166 v2_136 q183.1 q184.1 q185.1 q186.1 q186.2 ha166.2 hq187) (gV m6_213 m6_214 m6_215 m1_1 m6_216) hd_NX12_problem ⟨Nat.le_of_ble_eq_true rfl, Nat.le_of_ble_eq_true rfl, rfl, rfl⟩ ha166.1 ha166.2 rfl rfl rfl hl.1 rfl rc0 rfl dL_isGood_268 ⟨Nat.le_of_ble_eq_true rfl, Nat.le_of_ble_eq_true rfl⟩ (fun H locs hH => ?_)
                            refine lv_if_eq (tgt := 276) hx hb dL_isGood_271 (by decide) (fun c188 => ?_) (fun c188 => ?_)
                            · replace hf := (if_pos c188).symm.trans hf
                              refine lv_iinc (v := (v2_136 + 1)) (lv' := [(2, .int ((v2_136 + 1))), (0, rv E v0_136), (1, rv E v1_136), (3, .int v3_136), (4, .int v4_136), (5, .int v5_136)]) hx hb dL_isGood_276 hl (k := 2) rfl rfl (by decide) (by simp [List.filter_cons, cat_q, cat_i, cat_j, imax, imin]) (fun ls hl => ?_)
                              refine lv_goto (tgt := 39) hx hb dL_isGood_279 (by decide) ?_
                              exact ih v0_136 v1_136 (v2_136 + 1) _ _ _ _ hH (lv_sub hl [1, 2, 0] rfl) hf
                            · replace hf := (if_neg c188).symm.trans hf
                              refine lv_iconst (v := 0) hx hb dL_isGood_274 (by decide) ?_
                              exact hw_wretz hx hb (Nat.le_of_ble_eq_true rfl) (Nat.le_of_ble_eq_true rfl) hret rfl hf hH hlocks dL_isGood_275
                        · replace hf := (if_neg c181).symm.trans hf
                          refine lv_iconst (v := 0) hx hb dL_isGood_235 (by decide) ?_
                          exact hw_wretz hx hb (Nat.le_of_ble_eq_true rfl) (Nat.le_of_ble_eq_true rfl) hret rfl hf hH hlocks dL_isGood_236
                      · replace hf := (if_neg c170).symm.trans hf
                        refine lv_goto (tgt := 276) hx hb dL_isGood_189 (by decide) ?_
                        refine lv_iinc (v := (v2_136 + 1)) (lv' := [(2, .int ((v2_136 + 1))), (0, rv E v0_136), (1, rv E v1_136), (3, .int v3_136), (4, .int v4_136), (5, .int v5_136)]) hx hb dL_isGood_276 hl (k := 2) rfl rfl (by decide) (by simp [List.filter_cons, cat_q, cat_i, cat_j, imax, imin]) (fun ls hl => ?_)
                        refine lv_goto (tgt := 39) hx hb dL_isGood_279 (by decide) ?_
                        exact ih v0_136 v1_136 (v2_136 + 1) _ _ _ _ hH (lv_sub hl [1, 2, 0] rfl) hf
                    · replace hf := (if_neg c168).symm.trans hf
                      refine lv_iconst (v := 0) hx hb dL_isGood_178 (by decide) ?_
                      exact hw_wretz hx hb (Nat.le_of_ble_eq_true rfl) (Nat.le_of_ble_eq_true rfl) hret rfl hf hH hlocks dL_isGood_179
                  · replace hf := (if_neg c164).symm.trans hf
                    refine lv_iconst (v := 0) hx hb dL_isGood_128 (by decide) ?_
                    exact hw_wretz hx hb (Nat.le_of_ble_eq_true rfl) (Nat.le_of_ble_eq_true rfl) hret rfl hf hH hlocks dL_isGood_129
              · replace hf := (if_pos c135).symm.trans hf
                refine hl_aload_n hx hb dL_isGood_87 rfl (lv_at hl 1 rfl) ?_
                refine lv_iload_n hx hb dL_isGood_88 rfl (lv_at hl 3 rfl) ?_
                refine lv_iconst (v := 4) hx hb dL_isGood_89 (by decide) ?_
                obtain ⟨q189, hq189, hf⟩ := bnd hf
                refine hcV_i hx hb hml hown hts hKs hT hb0 hH (As := [.int v2_39, .int 4]) (rest := []) (k_NX12_matter l E K H.size a10 v2_39 4 q132.2 ha10.2 hq189) (gV m6_182 m6_183 m6_184 m1_1 m6_185) hd_NX12_matter ⟨Nat.le_of_ble_eq_true rfl, Nat.le_of_ble_eq_true rfl, rfl, rfl⟩ ha10.1 ha10.2 rfl rfl rfl hl.1 rfl rc0 rfl dL_isGood_90 ⟨Nat.le_of_ble_eq_true rfl, Nat.le_of_ble_eq_true rfl⟩ (fun H locs hH => ?_)
                refine hl_aload_n hx hb dL_isGood_93 rfl (lv_at hl 1 rfl) ?_
                refine lv_bipush (v := 7) hx hb dL_isGood_94 (by decide) ?_
                obtain ⟨q190, hq190, hf⟩ := bnd hf
                refine hcV_i hx hb hml hown hts hKs hT hb0 hH (As := [.int 7]) (rest := [.int (q189.1)]) (k_X12_count l E K H.size a10 7 q189.2 ha10.2 hq190) (gV m3_17 m3_18 m3_19 m1_1 m3_20) hd_X12_count ⟨Nat.le_of_ble_eq_true rfl, Nat.le_of_ble_eq_true rfl, rfl, rfl⟩ ha10.1 ha10.2 rfl rfl rfl hl.1 rfl (rcI rc0) rfl dL_isGood_96 ⟨Nat.le_of_ble_eq_true rfl, Nat.le_of_ble_eq_true rfl⟩ (fun H locs hH => ?_)
                refine lv_icmp_lt (tgt := 128) hx hb dL_isGood_99 (by decide) (fun c191 => ?_) (fun c191 => ?_)
                · replace hf := (if_pos c191).symm.trans hf
                  refine lv_iconst (v := 0) hx hb dL_isGood_128 (by decide) ?_
                  exact hw_wretz hx hb (Nat.le_of_ble_eq_true rfl) (Nat.le_of_ble_eq_true rfl) hret rfl hf hH hlocks dL_isGood_129
                · replace hf := (if_neg c191).symm.trans hf
                  refine hl_aload_n hx hb dL_isGood_102 rfl (lv_at hl 1 rfl) ?_
                  refine lv_iload_n hx hb dL_isGood_103 rfl (lv_at hl 3 rfl) ?_
                  refine lv_bipush (v := 6) hx hb dL_isGood_104 (by decide) ?_
                  obtain ⟨q192, hq192, hf⟩ := bnd hf
                  refine hcV_i hx hb hml hown hts hKs hT hb0 hH (As := [.int v2_39, .int 6]) (rest := []) (k_NX12_matter l E K H.size a10 v2_39 6 q190.2 ha10.2 hq192) (gV m6_182 m6_183 m6_184 m1_1 m6_185) hd_NX12_matter ⟨Nat.le_of_ble_eq_true rfl, Nat.le_of_ble_eq_true rfl, rfl, rfl⟩ ha10.1 ha10.2 rfl rfl rfl hl.1 rfl rc0 rfl dL_isGood_106 ⟨Nat.le_of_ble_eq_true rfl, Nat.le_of_ble_eq_true rfl⟩ (fun H locs hH => ?_)
                  refine lv_iconst (v := 1) hx hb dL_isGood_109 (by decide) ?_
                  refine lv_icmp_ne (tgt := 130) hx hb dL_isGood_110 (by decide) (fun c193 => ?_) (fun c193 => ?_)
                  · replace hf := (if_neg c193).symm.trans hf
                    refine lv_iconst (v := 0) hx hb dL_isGood_130 (by decide) ?_
                    refine lv_istore (i := 4) (lv' := [(4, .int 0), (3, .int (q11.1)), (0, rv E v0_39), (1, rv E v1_39), (2, .int v2_39)]) hx hb dL_isGood_131 hl (by decide) rfl (fun ls hl => ?_)
                    refine lv_iconst (v := 0) hx hb dL_isGood_133 (by decide) ?_
                    refine lv_istore (i := 5) (lv' := [(5, .int 0), (4, .int 0), (3, .int (q11.1)), (0, rv E v0_39), (1, rv E v1_39), (2, .int v2_39)]) hx hb dL_isGood_134 hl (by decide) rfl (fun ls hl => ?_)
                    refine l_L_isGood_L136  C _ (fun v0_136 v1_136 v2_136 v3_136 v4_136 v5_136 w194 H locs ls hH hl hf => ?_) fu v0_39 v1_39 v2_39 q11.1 0 0 q192.2 _ _ _ hH (lv_sub hl [3, 4, 5, 2, 1, 0] rfl) hf
                    refine lv_iload hx hb dL_isGood_167 (lv_at hl 4 rfl) ?_
                    refine hl_aload_n hx hb dL_isGood_169 rfl (lv_at hl 0 rfl) ?_
                    refine lv_iload_n hx hb dL_isGood_170 rfl (lv_at hl 2 rfl) ?_
                    refine lv_iconst (v := 3) hx hb dL_isGood_171 (by decide) ?_
                    obtain ⟨a195, ha195, hf⟩ := bnd hf
                    replace ha195 := chk_some ha195
                    obtain ⟨q196, hq196, hf⟩ := bnd hf
                    refine hcV_i hx hb hml hown hts hKs hT hb0 hH (As := [.int v2_136, .int 3]) (rest := [.int v4_136]) (k_NX12_matter l E K H.size a195 v2_136 3 w194 ha195.2 hq196) (gV m6_182 m6_183 m6_184 m1_1 m6_185) hd_NX12_matter ⟨Nat.le_of_ble_eq_true rfl, Nat.le_of_ble_eq_true rfl, rfl, rfl⟩ ha195.1 ha195.2 rfl rfl rfl hl.1 rfl (rcI rc0) rfl dL_isGood_172 ⟨Nat.le_of_ble_eq_true rfl, Nat.le_of_ble_eq_true rfl⟩ (fun H locs hH => ?_)
                    refine lv_icmp_eq (tgt := 180) hx hb dL_isGood_175 (by decide) (fun c197 => ?_) (fun c197 => ?_)
                    · replace hf := (if_pos c197).symm.trans hf
                      refine hl_aload_n hx hb dL_isGood_180 rfl (lv_at hl 0 rfl) ?_
                      refine lv_iload_n hx hb dL_isGood_181 rfl (lv_at hl 2 rfl) ?_
                      refine lv_iconst (v := 0) hx hb dL_isGood_182 (by decide) ?_
                      obtain ⟨q198, hq198, hf⟩ := bnd hf
                      refine hcV_i hx hb hml hown hts hKs hT hb0 hH (As := [.int v2_136, .int 0]) (rest := []) (k_NX12_hearing l E K H.size a195 v2_136 0 q196.2 ha195.2 hq198) (gV m6_187 m6_188 m6_189 m1_1 m6_190) hd_NX12_hearing ⟨Nat.le_of_ble_eq_true rfl, Nat.le_of_ble_eq_true rfl, rfl, rfl⟩ ha195.1 ha195.2 rfl rfl rfl hl.1 rfl rc0 rfl dL_isGood_183 ⟨Nat.le_of_ble_eq_true rfl, Nat.le_of_ble_eq_true rfl⟩ (fun H locs hH => ?_)
                      refine lv_if_ge (tgt := 192) hx hb dL_isGood_186 (by decide) (fun c199 => ?_) (fun c199 => ?_)
                      · replace hf := (if_pos c199).symm.trans hf
                        refine hl_aload_n hx hb dL_isGood_192 rfl (lv_at hl 1 rfl) ?_
                        refine hl_aload_n hx hb dL_isGood_193 rfl (lv_at hl 0 rfl) ?_
                        refine lv_iload_n hx hb dL_isGood_194 rfl (lv_at hl 2 rfl) ?_
                        refine lv_iconst (v := 3) hx hb dL_isGood_195 (by decide) ?_
                        obtain ⟨q200, hq200, hf⟩ := bnd hf
                        refine hcV_i hx hb hml hown hts hKs hT hb0 hH (As := [.int v2_136, .int 3]) (rest := [rv E v1_136]) (k_NX12_hearing l E K H.size a195 v2_136 3 q198.2 ha195.2 hq200) (gV m6_187 m6_188 m6_189 m1_1 m6_190) hd_NX12_hearing ⟨Nat.le_of_ble_eq_true rfl, Nat.le_of_ble_eq_true rfl, rfl, rfl⟩ ha195.1 ha195.2 rfl rfl rfl hl.1 rfl (rcV rc0) rfl dL_isGood_196 ⟨Nat.le_of_ble_eq_true rfl, Nat.le_of_ble_eq_true rfl⟩ (fun H locs hH => ?_)
                        refine lv_dup2_11 hx hb dL_isGood_199 rfl rv_cat ?_
                        obtain ⟨a201, ha201, hf⟩ := bnd hf
                        replace ha201 := cha_some ha201
                        obtain ⟨j202, hj202, hf⟩ := bnd hf
                        refine hw_iald hx hb hKs hH ha201.1 ha201.2 hj202 dL_isGood_200 ?_
                        refine hl_aload_n hx hb dL_isGood_201 rfl (lv_at hl 0 rfl) ?_
                        refine lv_iload_n hx hb dL_isGood_202 rfl (lv_at hl 2 rfl) ?_
                        refine lv_iconst (v := 1) hx hb dL_isGood_203 (by decide) ?_
                        obtain ⟨q203, hq203, hf⟩ := bnd hf
                        refine hcV_i hx hb hml hown hts hKs hT hb0 hH (As := [.int v2_136, .int 1]) (rest := [.int ((aI q200.2 a201.1 j202)), .int (q200.1), rv E v1_136]) (k_NX12_matter l E K H.size a195 v2_136 1 q200.2 ha195.2 hq203) (gV m6_182 m6_183 m6_184 m1_1 m6_185) hd_NX12_matter ⟨Nat.le_of_ble_eq_true rfl, Nat.le_of_ble_eq_true rfl, rfl, rfl⟩ ha195.1 ha195.2 rfl rfl rfl hl.1 rfl (rcI (rcI (rcV rc0))) rfl dL_isGood_204 ⟨Nat.le_of_ble_eq_true rfl, Nat.le_of_ble_eq_true rfl⟩ (fun H locs hH => ?_)
                        refine lv_iadd hx hb dL_isGood_207 ?_
                        obtain ⟨j204, hj204, hf⟩ := bnd hf
                        obtain ⟨w205, hw205, hf⟩ := bnd hf
                        replace hw205 := Option.some.inj hw205
                        refine hw_iast (x := ((aI q200.2 a201.1 j202) + q203.1)) hx hb hKs hH ha201.1 ha201.2 hj204 dL_isGood_208 (fun H locs hH => ?_)
                        rw [hw205] at hH
                        refine hl_aload_n hx hb dL_isGood_209 rfl (lv_at hl 0 rfl) ?_
                        refine hl_aload_n hx hb dL_isGood_210 rfl (lv_at hl 0 rfl) ?_
                        refine lv_iload_n hx hb dL_isGood_211 rfl (lv_at hl 2 rfl) ?_
                        refine lv_iconst (v := 2) hx hb dL_isGood_212 (by decide) ?_
                        obtain ⟨q206, hq206, hf⟩ := bnd hf
                        refine hcV_i hx hb hml hown hts hKs hT hb0 hH (As := [.int v2_136, .int 2]) (rest := [rv E v0_136]) (k_NX12_hearing l E K H.size a195 v2_136 2 w205 ha195.2 hq206) (gV m6_187 m6_188 m6_189 m1_1 m6_190) hd_NX12_hearing ⟨Nat.le_of_ble_eq_true rfl, Nat.le_of_ble_eq_true rfl, rfl, rfl⟩ ha195.1 ha195.2 rfl rfl rfl hl.1 rfl (rcV rc0) rfl dL_isGood_213 ⟨Nat.le_of_ble_eq_true rfl, Nat.le_of_ble_eq_true rfl⟩ (fun H locs hH => ?_)
                        refine hl_aload_n hx hb dL_isGood_216 rfl (lv_at hl 0 rfl) ?_
                        refine lv_iload_n hx hb dL_isGood_217 rfl (lv_at hl 2 rfl) ?_
                        refine lv_iconst (v := 0) hx hb dL_isGood_218 (by decide) ?_
                        obtain ⟨q207, hq207, hf⟩ := bnd hf
                        refine hcV_i hx hb hml hown hts hKs hT hb0 hH (As := [.int v2_136, .int 0]) (rest := [.int (q206.1), rv E v0_136]) (k_NX12_hearing l E K H.size a195 v2_136 0 q206.2 ha195.2 hq207) (gV m6_187 m6_188 m6_189 m1_1 m6_190) hd_NX12_hearing ⟨Nat.le_of_ble_eq_true rfl, Nat.le_of_ble_eq_true rfl, rfl, rfl⟩ ha195.1 ha195.2 rfl rfl rfl hl.1 rfl (rcI (rcV rc0)) rfl dL_isGood_219 ⟨Nat.le_of_ble_eq_true rfl, Nat.le_of_ble_eq_true rfl⟩ (fun H locs hH => ?_)
                        refine hl_aload_n hx hb dL_isGood_222 rfl (lv_at hl 0 rfl) ?_
                        refine lv_iload_n hx hb dL_isGood_223 rfl (lv_at hl 2 rfl) ?_
                        refine lv_iconst (v := 1) hx hb dL_isGood_224 (by decide) ?_
                        obtain ⟨q208, hq208, hf⟩ := bnd hf
                        refine hcV_i hx hb hml hown hts hKs hT hb0 hH (As := [.int v2_136, .int 1]) (rest := [.int (q207.1), .int (q206.1), rv E v0_136]) (k_NX12_hearing l E K H.size a195 v2_136 1 q207.2 ha195.2 hq208) (gV m6_187 m6_188 m6_189 m1_1 m6_190) hd_NX12_hearing ⟨Nat.le_of_ble_eq_true rfl, Nat.le_of_ble_eq_true rfl, rfl, rfl⟩ ha195.1 ha195.2 rfl rfl rfl hl.1 rfl (rcI (rcI (rcV rc0))) rfl dL_isGood_225 ⟨Nat.le_of_ble_eq_true rfl, Nat.le_of_ble_eq_true rfl⟩ (fun H locs hH => ?_)
                        obtain ⟨q209, hq209, hf⟩ := bnd hf
                        refine hcV_i hx hb hml hown hts hKs hT hb0 hH (As := [.int (q206.1), .int (q207.1), .int (q208.1)]) (rest := []) (k_NX12_caseAt l E K H.size a195 q206.1 q207.1 q208.1 q208.2 ha195.2 hq209) (gV m6_195 m6_196 m6_197 m1_1 m6_198) hd_NX12_caseAt ⟨Nat.le_of_ble_eq_true rfl, Nat.le_of_ble_eq_true rfl, rfl, rfl⟩ ha195.1 ha195.2 rfl rfl rfl hl.1 rfl rc0 rfl dL_isGood_228 ⟨Nat.le_of_ble_eq_true rfl, Nat.le_of_ble_eq_true rfl⟩ (fun H locs hH => ?_)
                        refine lv_iload_n hx hb dL_isGood_231 rfl (lv_at hl 2 rfl) ?_
                        refine lv_icmp_eq (tgt := 237) hx hb dL_isGood_232 (by decide) (fun c210 => ?_) (fun c210 => ?_)
                        · replace hf := (if_pos c210).symm.trans hf
                          refine lv_iload_n hx hb dL_isGood_237 rfl (lv_at hl 3 rfl) ?_
                          refine lv_iconst (v := 1) hx hb dL_isGood_238 (by decide) ?_
                          refine lv_icmp_ne (tgt := 276) hx hb dL_isGood_239 (by decide) (fun c211 => ?_) (fun c211 => ?_)
                          · replace hf := (if_neg c211).symm.trans hf
                            refine lv_iinc (v := (v2_136 + 1)) (lv' := [(2, .int ((v2_136 + 1))), (0, rv E v0_136), (1, rv E v1_136), (3, .int v3_136), (4, .int v4_136), (5, .int v5_136)]) hx hb dL_isGood_276 hl (k := 2) rfl rfl (by decide) (by simp [List.filter_cons, cat_q, cat_i, cat_j, imax, imin]) (fun ls hl => ?_)
                            refine lv_goto (tgt := 39) hx hb dL_isGood_279 (by decide) ?_
                            exact ih v0_136 v1_136 (v2_136 + 1) _ _ _ _ hH (lv_sub hl [1, 2, 0] rfl) hf
                          · replace hf := (if_pos c211).symm.trans hf
                            refine hl_aload_n hx hb dL_isGood_242 rfl (lv_at hl 0 rfl) ?_
                            refine lv_iload_n hx hb dL_isGood_243 rfl (lv_at hl 2 rfl) ?_
                            refine hl_aload_n hx hb dL_isGood_244 rfl (lv_at hl 0 rfl) ?_
                            refine lv_iload_n hx hb dL_isGood_245 rfl (lv_at hl 2 rfl) ?_
                            refine lv_iconst (v := 0) hx hb dL_isGood_246 (by decide) ?_
                            obtain ⟨q212, hq212, hf⟩ := bnd hf
                            refine hcV_i hx hb hml hown hts hKs hT hb0 hH (As := [.int v2_136, .int 0]) (rest := [.int v2_136, rv E v0_136]) (k_NX12_hearing l E K H.size a195 v2_136 0 q209.2 ha195.2 hq212) (gV m6_187 m6_188 m6_189 m1_1 m6_190) hd_NX12_hearing ⟨Nat.le_of_ble_eq_true rfl, Nat.le_of_ble_eq_true rfl, rfl, rfl⟩ ha195.1 ha195.2 rfl rfl rfl hl.1 rfl (rcI (rcV rc0)) rfl dL_isGood_247 ⟨Nat.le_of_ble_eq_true rfl, Nat.le_of_ble_eq_true rfl⟩ (fun H locs hH => ?_)
                            refine hl_aload_n hx hb dL_isGood_250 rfl (lv_at hl 0 rfl) ?_
                            refine lv_iload_n hx hb dL_isGood_251 rfl (lv_at hl 2 rfl) ?_
                            refine lv_iconst (v := 1) hx hb dL_isGood_252 (by decide) ?_
                            obtain ⟨q213, hq213, hf⟩ := bnd hf
                            refine hcV_i hx hb hml hown hts hKs hT hb0 hH (As := [.int v2_136, .int 1]) (rest := [.int (q212.1), .int v2_136, rv E v0_136]) (k_NX12_hearing l E K H.size a195 v2_136 1 q212.2 ha195.2 hq213) (gV m6_187 m6_188 m6_189 m1_1 m6_190) hd_NX12_hearing ⟨Nat.le_of_ble_eq_true rfl, Nat.le_of_ble_eq_true rfl, rfl, rfl⟩ ha195.1 ha195.2 rfl rfl rfl hl.1 rfl (rcI (rcI (rcV rc0))) rfl dL_isGood_253 ⟨Nat.le_of_ble_eq_true rfl, Nat.le_of_ble_eq_true rfl⟩ (fun H locs hH => ?_)
                            refine hl_aload_n hx hb dL_isGood_256 rfl (lv_at hl 0 rfl) ?_
                            refine lv_iload_n hx hb dL_isGood_257 rfl (lv_at hl 2 rfl) ?_
                            refine lv_iconst (v := 2) hx hb dL_isGood_258 (by decide) ?_
                            obtain ⟨q214, hq214, hf⟩ := bnd hf
                            refine hcV_i hx hb hml hown hts hKs hT hb0 hH (As := [.int v2_136, .int 2]) (rest := [.int (q213.1), .int (q212.1), .int v2_136, rv E v0_136]) (k_NX12_hearing l E K H.size a195 v2_136 2 q213.2 ha195.2 hq214) (gV m6_187 m6_188 m6_189 m1_1 m6_190) hd_NX12_hearing ⟨Nat.le_of_ble_eq_true rfl, Nat.le_of_ble_eq_true rfl, rfl, rfl⟩ ha195.1 ha195.2 rfl rfl rfl hl.1 rfl (rcI (rcI (rcI (rcV rc0)))) rfl dL_isGood_259 ⟨Nat.le_of_ble_eq_true rfl, Nat.le_of_ble_eq_true rfl⟩ (fun H locs hH => ?_)
                            refine hl_aload_n hx hb dL_isGood_262 rfl (lv_at hl 0 rfl) ?_
                            refine lv_iload_n hx hb dL_isGood_263 rfl (lv_at hl 2 rfl) ?_
                            refine lv_iconst (v := 3) hx hb dL_isGood_264 (by decide) ?_
                            obtain ⟨q215, hq215, hf⟩ := bnd hf
                            refine hcV_i hx hb hml hown hts hKs hT hb0 hH (As := [.int v2_136, .int 3]) (rest := [.int (q214.1), .int (q213.1), .int (q212.1), .int v2_136, rv E v0_136]) (k_NX12_hearing l E K H.size a195 v2_136 3 q214.2 ha195.2 hq215) (gV m6_187 m6_188 m6_189 m1_1 m6_190) hd_NX12_hearing ⟨Nat.le_of_ble_eq_true rfl, Nat.le_of_ble_eq_true rfl, rfl, rfl⟩ ha195.1 ha195.2 rfl rfl rfl hl.1 rfl (rcI (rcI (rcI (rcI (rcV rc0))))) rfl dL_isGood_265 ⟨Nat.le_of_ble_eq_true rfl, Nat.le_of_ble_eq_true rfl⟩ (fun H locs hH => ?_)
                            obtain ⟨q216, hq216, hf⟩ := bnd hf
                            refine hcV_i hx hb hml hown hts hKs hT hb0 hH (As := [.int v2_136, .int (q212.1), .int (q213.1), .int (q214.1), .int (q215.1)]) (rest := []) (k_NX12_problem l E K H.size a195 v2_136 q212.1 q213.1 q214.1 q215.1 q215.2 ha195.2 hq216) (gV m6_213 m6_214 m6_215 m1_1 m6_216) hd_NX12_problem ⟨Nat.le_of_ble_eq_true rfl, Nat.le_of_ble_eq_true rfl, rfl, rfl⟩ ha195.1 ha195.2 rfl rfl rfl hl.1 rfl rc0 rfl dL_isGood_268 ⟨Nat.le_of_ble_eq_true rfl, Nat.le_of_ble_eq_true rfl⟩ (fun H locs hH => ?_)
                            refine lv_if_eq (tgt := 276) hx hb dL_isGood_271 (by decide) (fun c217 => ?_) (fun c217 => ?_)
                            · replace hf := (if_pos c217).symm.trans hf
                              refine lv_iinc (v := (v2_136 + 1)) (lv' := [(2, .int ((v2_136 + 1))), (0, rv E v0_136), (1, rv E v1_136), (3, .int v3_136), (4, .int v4_136), (5, .int v5_136)]) hx hb dL_isGood_276 hl (k := 2) rfl rfl (by decide) (by simp [List.filter_cons, cat_q, cat_i, cat_j, imax, imin]) (fun ls hl => ?_)
                              refine lv_goto (tgt := 39) hx hb dL_isGood_279 (by decide) ?_
                              exact ih v0_136 v1_136 (v2_136 + 1) _ _ _ _ hH (lv_sub hl [1, 2, 0] rfl) hf
                            · replace hf := (if_neg c217).symm.trans hf
                              refine lv_iconst (v := 0) hx hb dL_isGood_274 (by decide) ?_
                              exact hw_wretz hx hb (Nat.le_of_ble_eq_true rfl) (Nat.le_of_ble_eq_true rfl) hret rfl hf hH hlocks dL_isGood_275
                        · replace hf := (if_neg c210).symm.trans hf
                          refine lv_iconst (v := 0) hx hb dL_isGood_235 (by decide) ?_
                          exact hw_wretz hx hb (Nat.le_of_ble_eq_true rfl) (Nat.le_of_ble_eq_true rfl) hret rfl hf hH hlocks dL_isGood_236
                      · replace hf := (if_neg c199).symm.trans hf
                        refine lv_goto (tgt := 276) hx hb dL_isGood_189 (by decide) ?_
                        refine lv_iinc (v := (v2_136 + 1)) (lv' := [(2, .int ((v2_136 + 1))), (0, rv E v0_136), (1, rv E v1_136), (3, .int v3_136), (4, .int v4_136), (5, .int v5_136)]) hx hb dL_isGood_276 hl (k := 2) rfl rfl (by decide) (by simp [List.filter_cons, cat_q, cat_i, cat_j, imax, imin]) (fun ls hl => ?_)
                        refine lv_goto (tgt := 39) hx hb dL_isGood_279 (by decide) ?_
                        exact ih v0_136 v1_136 (v2_136 + 1) _ _ _ _ hH (lv_sub hl [1, 2, 0] rfl) hf
                    · replace hf := (if_neg c197).symm.trans hf
                      refine lv_iconst (v := 0) hx hb dL_isGood_178 (by decide) ?_
                      exact hw_wretz hx hb (Nat.le_of_ble_eq_true rfl) (Nat.le_of_ble_eq_true rfl) hret rfl hf hH hlocks dL_isGood_179
                  · replace hf := (if_pos c193).symm.trans hf
                    refine hl_aload_n hx hb dL_isGood_113 rfl (lv_at hl 1 rfl) ?_
                    refine lv_iload_n hx hb dL_isGood_114 rfl (lv_at hl 3 rfl) ?_
                    refine lv_iconst (v := 3) hx hb dL_isGood_115 (by decide) ?_
                    obtain ⟨q218, hq218, hf⟩ := bnd hf
                    refine hcV_i hx hb hml hown hts hKs hT hb0 hH (As := [.int v2_39, .int 3]) (rest := []) (k_NX12_matter l E K H.size a10 v2_39 3 q192.2 ha10.2 hq218) (gV m6_182 m6_183 m6_184 m1_1 m6_185) hd_NX12_matter ⟨Nat.le_of_ble_eq_true rfl, Nat.le_of_ble_eq_true rfl, rfl, rfl⟩ ha10.1 ha10.2 rfl rfl rfl hl.1 rfl rc0 rfl dL_isGood_116 ⟨Nat.le_of_ble_eq_true rfl, Nat.le_of_ble_eq_true rfl⟩ (fun H locs hH => ?_)
                    refine hl_aload_n hx hb dL_isGood_119 rfl (lv_at hl 1 rfl) ?_
                    refine lv_bipush (v := 8) hx hb dL_isGood_120 (by decide) ?_
                    obtain ⟨q219, hq219, hf⟩ := bnd hf
                    refine hcV_i hx hb hml hown hts hKs hT hb0 hH (As := [.int 8]) (rest := [.int (q218.1)]) (k_X12_count l E K H.size a10 8 q218.2 ha10.2 hq219) (gV m3_17 m3_18 m3_19 m1_1 m3_20) hd_X12_count ⟨Nat.le_of_ble_eq_true rfl, Nat.le_of_ble_eq_true rfl, rfl, rfl⟩ ha10.1 ha10.2 rfl rfl rfl hl.1 rfl (rcI rc0) rfl dL_isGood_122 ⟨Nat.le_of_ble_eq_true rfl, Nat.le_of_ble_eq_true rfl⟩ (fun H locs hH => ?_)
                    refine lv_icmp_le (tgt := 130) hx hb dL_isGood_125 (by decide) (fun c220 => ?_) (fun c220 => ?_)
                    · replace hf := (if_pos c220).symm.trans hf
                      refine lv_iconst (v := 0) hx hb dL_isGood_130 (by decide) ?_
                      refine lv_istore (i := 4) (lv' := [(4, .int 0), (3, .int (q11.1)), (0, rv E v0_39), (1, rv E v1_39), (2, .int v2_39)]) hx hb dL_isGood_131 hl (by decide) rfl (fun ls hl => ?_)
                      refine lv_iconst (v := 0) hx hb dL_isGood_133 (by decide) ?_
                      refine lv_istore (i := 5) (lv' := [(5, .int 0), (4, .int 0), (3, .int (q11.1)), (0, rv E v0_39), (1, rv E v1_39), (2, .int v2_39)]) hx hb dL_isGood_134 hl (by decide) rfl (fun ls hl => ?_)
                      refine l_L_isGood_L136  C _ (fun v0_136 v1_136 v2_136 v3_136 v4_136 v5_136 w221 H locs ls hH hl hf => ?_) fu v0_39 v1_39 v2_39 q11.1 0 0 q219.2 _ _ _ hH (lv_sub hl [3, 4, 5, 2, 1, 0] rfl) hf
                      refine lv_iload hx hb dL_isGood_167 (lv_at hl 4 rfl) ?_
                      refine hl_aload_n hx hb dL_isGood_169 rfl (lv_at hl 0 rfl) ?_
                      refine lv_iload_n hx hb dL_isGood_170 rfl (lv_at hl 2 rfl) ?_
                      refine lv_iconst (v := 3) hx hb dL_isGood_171 (by decide) ?_
                      obtain ⟨a222, ha222, hf⟩ := bnd hf
                      replace ha222 := chk_some ha222
                      obtain ⟨q223, hq223, hf⟩ := bnd hf
                      refine hcV_i hx hb hml hown hts hKs hT hb0 hH (As := [.int v2_136, .int 3]) (rest := [.int v4_136]) (k_NX12_matter l E K H.size a222 v2_136 3 w221 ha222.2 hq223) (gV m6_182 m6_183 m6_184 m1_1 m6_185) hd_NX12_matter ⟨Nat.le_of_ble_eq_true rfl, Nat.le_of_ble_eq_true rfl, rfl, rfl⟩ ha222.1 ha222.2 rfl rfl rfl hl.1 rfl (rcI rc0) rfl dL_isGood_172 ⟨Nat.le_of_ble_eq_true rfl, Nat.le_of_ble_eq_true rfl⟩ (fun H locs hH => ?_)
                      refine lv_icmp_eq (tgt := 180) hx hb dL_isGood_175 (by decide) (fun c224 => ?_) (fun c224 => ?_)
                      · replace hf := (if_pos c224).symm.trans hf
                        refine hl_aload_n hx hb dL_isGood_180 rfl (lv_at hl 0 rfl) ?_
                        refine lv_iload_n hx hb dL_isGood_181 rfl (lv_at hl 2 rfl) ?_
                        refine lv_iconst (v := 0) hx hb dL_isGood_182 (by decide) ?_
                        obtain ⟨q225, hq225, hf⟩ := bnd hf
                        refine hcV_i hx hb hml hown hts hKs hT hb0 hH (As := [.int v2_136, .int 0]) (rest := []) (k_NX12_hearing l E K H.size a222 v2_136 0 q223.2 ha222.2 hq225) (gV m6_187 m6_188 m6_189 m1_1 m6_190) hd_NX12_hearing ⟨Nat.le_of_ble_eq_true rfl, Nat.le_of_ble_eq_true rfl, rfl, rfl⟩ ha222.1 ha222.2 rfl rfl rfl hl.1 rfl rc0 rfl dL_isGood_183 ⟨Nat.le_of_ble_eq_true rfl, Nat.le_of_ble_eq_true rfl⟩ (fun H locs hH => ?_)
                        refine lv_if_ge (tgt := 192) hx hb dL_isGood_186 (by decide) (fun c226 => ?_) (fun c226 => ?_)
                        · replace hf := (if_pos c226).symm.trans hf
                          refine hl_aload_n hx hb dL_isGood_192 rfl (lv_at hl 1 rfl) ?_
                          refine hl_aload_n hx hb dL_isGood_193 rfl (lv_at hl 0 rfl) ?_
                          refine lv_iload_n hx hb dL_isGood_194 rfl (lv_at hl 2 rfl) ?_
                          refine lv_iconst (v := 3) hx hb dL_isGood_195 (by decide) ?_
                          obtain ⟨q227, hq227, hf⟩ := bnd hf
                          refine hcV_i hx hb hml hown hts hKs hT hb0 hH (As := [.int v2_136, .int 3]) (rest := [rv E v1_136]) (k_NX12_hearing l E K H.size a222 v2_136 3 q225.2 ha222.2 hq227) (gV m6_187 m6_188 m6_189 m1_1 m6_190) hd_NX12_hearing ⟨Nat.le_of_ble_eq_true rfl, Nat.le_of_ble_eq_true rfl, rfl, rfl⟩ ha222.1 ha222.2 rfl rfl rfl hl.1 rfl (rcV rc0) rfl dL_isGood_196 ⟨Nat.le_of_ble_eq_true rfl, Nat.le_of_ble_eq_true rfl⟩ (fun H locs hH => ?_)
                          refine lv_dup2_11 hx hb dL_isGood_199 rfl rv_cat ?_
                          obtain ⟨a228, ha228, hf⟩ := bnd hf
                          replace ha228 := cha_some ha228
                          obtain ⟨j229, hj229, hf⟩ := bnd hf
                          refine hw_iald hx hb hKs hH ha228.1 ha228.2 hj229 dL_isGood_200 ?_
                          refine hl_aload_n hx hb dL_isGood_201 rfl (lv_at hl 0 rfl) ?_
                          refine lv_iload_n hx hb dL_isGood_202 rfl (lv_at hl 2 rfl) ?_
                          refine lv_iconst (v := 1) hx hb dL_isGood_203 (by decide) ?_
                          obtain ⟨q230, hq230, hf⟩ := bnd hf
                          refine hcV_i hx hb hml hown hts hKs hT hb0 hH (As := [.int v2_136, .int 1]) (rest := [.int ((aI q227.2 a228.1 j229)), .int (q227.1), rv E v1_136]) (k_NX12_matter l E K H.size a222 v2_136 1 q227.2 ha222.2 hq230) (gV m6_182 m6_183 m6_184 m1_1 m6_185) hd_NX12_matter ⟨Nat.le_of_ble_eq_true rfl, Nat.le_of_ble_eq_true rfl, rfl, rfl⟩ ha222.1 ha222.2 rfl rfl rfl hl.1 rfl (rcI (rcI (rcV rc0))) rfl dL_isGood_204 ⟨Nat.le_of_ble_eq_true rfl, Nat.le_of_ble_eq_true rfl⟩ (fun H locs hH => ?_)
                          refine lv_iadd hx hb dL_isGood_207 ?_
                          obtain ⟨j231, hj231, hf⟩ := bnd hf
                          obtain ⟨w232, hw232, hf⟩ := bnd hf
                          replace hw232 := Option.some.inj hw232
                          refine hw_iast (x := ((aI q227.2 a228.1 j229) + q230.1)) hx hb hKs hH ha228.1 ha228.2 hj231 dL_isGood_208 (fun H locs hH => ?_)
                          rw [hw232] at hH
                          refine hl_aload_n hx hb dL_isGood_209 rfl (lv_at hl 0 rfl) ?_
                          refine hl_aload_n hx hb dL_isGood_210 rfl (lv_at hl 0 rfl) ?_
                          refine lv_iload_n hx hb dL_isGood_211 rfl (lv_at hl 2 rfl) ?_
                          refine lv_iconst (v := 2) hx hb dL_isGood_212 (by decide) ?_
                          obtain ⟨q233, hq233, hf⟩ := bnd hf
                          refine hcV_i hx hb hml hown hts hKs hT hb0 hH (As := [.int v2_136, .int 2]) (rest := [rv E v0_136]) (k_NX12_hearing l E K H.size a222 v2_136 2 w232 ha222.2 hq233) (gV m6_187 m6_188 m6_189 m1_1 m6_190) hd_NX12_hearing ⟨Nat.le_of_ble_eq_true rfl, Nat.le_of_ble_eq_true rfl, rfl, rfl⟩ ha222.1 ha222.2 rfl rfl rfl hl.1 rfl (rcV rc0) rfl dL_isGood_213 ⟨Nat.le_of_ble_eq_true rfl, Nat.le_of_ble_eq_true rfl⟩ (fun H locs hH => ?_)
                          refine hl_aload_n hx hb dL_isGood_216 rfl (lv_at hl 0 rfl) ?_
                          refine lv_iload_n hx hb dL_isGood_217 rfl (lv_at hl 2 rfl) ?_
                          refine lv_iconst (v := 0) hx hb dL_isGood_218 (by decide) ?_
                          obtain ⟨q234, hq234, hf⟩ := bnd hf
                          refine hcV_i hx hb hml hown hts hKs hT hb0 hH (As := [.int v2_136, .int 0]) (rest := [.int (q233.1), rv E v0_136]) (k_NX12_hearing l E K H.size a222 v2_136 0 q233.2 ha222.2 hq234) (gV m6_187 m6_188 m6_189 m1_1 m6_190) hd_NX12_hearing ⟨Nat.le_of_ble_eq_true rfl, Nat.le_of_ble_eq_true rfl, rfl, rfl⟩ ha222.1 ha222.2 rfl rfl rfl hl.1 rfl (rcI (rcV rc0)) rfl dL_isGood_219 ⟨Nat.le_of_ble_eq_true rfl, Nat.le_of_ble_eq_true rfl⟩ (fun H locs hH => ?_)
                          refine hl_aload_n hx hb dL_isGood_222 rfl (lv_at hl 0 rfl) ?_
                          refine lv_iload_n hx hb dL_isGood_223 rfl (lv_at hl 2 rfl) ?_
                          refine lv_iconst (v := 1) hx hb dL_isGood_224 (by decide) ?_
                          obtain ⟨q235, hq235, hf⟩ := bnd hf
                          refine hcV_i hx hb hml hown hts hKs hT hb0 hH (As := [.int v2_136, .int 1]) (rest := [.int (q234.1), .int (q233.1), rv E v0_136]) (k_NX12_hearing l E K H.size a222 v2_136 1 q234.2 ha222.2 hq235) (gV m6_187 m6_188 m6_189 m1_1 m6_190) hd_NX12_hearing ⟨Nat.le_of_ble_eq_true rfl, Nat.le_of_ble_eq_true rfl, rfl, rfl⟩ ha222.1 ha222.2 rfl rfl rfl hl.1 rfl (rcI (rcI (rcV rc0))) rfl dL_isGood_225 ⟨Nat.le_of_ble_eq_true rfl, Nat.le_of_ble_eq_true rfl⟩ (fun H locs hH => ?_)
                          obtain ⟨q236, hq236, hf⟩ := bnd hf
                          refine hcV_i hx hb hml hown hts hKs hT hb0 hH (As := [.int (q233.1), .int (q234.1), .int (q235.1)]) (rest := []) (k_NX12_caseAt l E K H.size a222 q233.1 q234.1 q235.1 q235.2 ha222.2 hq236) (gV m6_195 m6_196 m6_197 m1_1 m6_198) hd_NX12_caseAt ⟨Nat.le_of_ble_eq_true rfl, Nat.le_of_ble_eq_true rfl, rfl, rfl⟩ ha222.1 ha222.2 rfl rfl rfl hl.1 rfl rc0 rfl dL_isGood_228 ⟨Nat.le_of_ble_eq_true rfl, Nat.le_of_ble_eq_true rfl⟩ (fun H locs hH => ?_)
                          refine lv_iload_n hx hb dL_isGood_231 rfl (lv_at hl 2 rfl) ?_
                          refine lv_icmp_eq (tgt := 237) hx hb dL_isGood_232 (by decide) (fun c237 => ?_) (fun c237 => ?_)
                          · replace hf := (if_pos c237).symm.trans hf
                            refine lv_iload_n hx hb dL_isGood_237 rfl (lv_at hl 3 rfl) ?_
                            refine lv_iconst (v := 1) hx hb dL_isGood_238 (by decide) ?_
                            refine lv_icmp_ne (tgt := 276) hx hb dL_isGood_239 (by decide) (fun c238 => ?_) (fun c238 => ?_)
                            · replace hf := (if_neg c238).symm.trans hf
                              refine lv_iinc (v := (v2_136 + 1)) (lv' := [(2, .int ((v2_136 + 1))), (0, rv E v0_136), (1, rv E v1_136), (3, .int v3_136), (4, .int v4_136), (5, .int v5_136)]) hx hb dL_isGood_276 hl (k := 2) rfl rfl (by decide) (by simp [List.filter_cons, cat_q, cat_i, cat_j, imax, imin]) (fun ls hl => ?_)
                              refine lv_goto (tgt := 39) hx hb dL_isGood_279 (by decide) ?_
                              exact ih v0_136 v1_136 (v2_136 + 1) _ _ _ _ hH (lv_sub hl [1, 2, 0] rfl) hf
                            · replace hf := (if_pos c238).symm.trans hf
                              refine hl_aload_n hx hb dL_isGood_242 rfl (lv_at hl 0 rfl) ?_
                              refine lv_iload_n hx hb dL_isGood_243 rfl (lv_at hl 2 rfl) ?_
                              refine hl_aload_n hx hb dL_isGood_244 rfl (lv_at hl 0 rfl) ?_
                              refine lv_iload_n hx hb dL_isGood_245 rfl (lv_at hl 2 rfl) ?_
                              refine lv_iconst (v := 0) hx hb dL_isGood_246 (by decide) ?_
                              obtain ⟨q239, hq239, hf⟩ := bnd hf
                              refine hcV_i hx hb hml hown hts hKs hT hb0 hH (As := [.int v2_136, .int 0]) (rest := [.int v2_136, rv E v0_136]) (k_NX12_hearing l E K H.size a222 v2_136 0 q236.2 ha222.2 hq239) (gV m6_187 m6_188 m6_189 m1_1 m6_190) hd_NX12_hearing ⟨Nat.le_of_ble_eq_true rfl, Nat.le_of_ble_eq_true rfl, rfl, rfl⟩ ha222.1 ha222.2 rfl rfl rfl hl.1 rfl (rcI (rcV rc0)) rfl dL_isGood_247 ⟨Nat.le_of_ble_eq_true rfl, Nat.le_of_ble_eq_true rfl⟩ (fun H locs hH => ?_)
                              refine hl_aload_n hx hb dL_isGood_250 rfl (lv_at hl 0 rfl) ?_
                              refine lv_iload_n hx hb dL_isGood_251 rfl (lv_at hl 2 rfl) ?_
                              refine lv_iconst (v := 1) hx hb dL_isGood_252 (by decide) ?_
                              obtain ⟨q240, hq240, hf⟩ := bnd hf
                              refine hcV_i hx hb hml hown hts hKs hT hb0 hH (As := [.int v2_136, .int 1]) (rest := [.int (q239.1), .int v2_136, rv E v0_136]) (k_NX12_hearing l E K H.size a222 v2_136 1 q239.2 ha222.2 hq240) (gV m6_187 m6_188 m6_189 m1_1 m6_190) hd_NX12_hearing ⟨Nat.le_of_ble_eq_true rfl, Nat.le_of_ble_eq_true rfl, rfl, rfl⟩ ha222.1 ha222.2 rfl rfl rfl hl.1 rfl (rcI (rcI (rcV rc0))) rfl dL_isGood_253 ⟨Nat.le_of_ble_eq_true rfl, Nat.le_of_ble_eq_true rfl⟩ (fun H locs hH => ?_)
                              refine hl_aload_n hx hb dL_isGood_256 rfl (lv_at hl 0 rfl) ?_
                              refine lv_iload_n hx hb dL_isGood_257 rfl (lv_at hl 2 rfl) ?_
                              refine lv_iconst (v := 2) hx hb dL_isGood_258 (by decide) ?_
                              obtain ⟨q241, hq241, hf⟩ := bnd hf
                              refine hcV_i hx hb hml hown hts hKs hT hb0 hH (As := [.int v2_136, .int 2]) (rest := [.int (q240.1), .int (q239.1), .int v2_136, rv E v0_136]) (k_NX12_hearing l E K H.size a222 v2_136 2 q240.2 ha222.2 hq241) (gV m6_187 m6_188 m6_189 m1_1 m6_190) hd_NX12_hearing ⟨Nat.le_of_ble_eq_true rfl, Nat.le_of_ble_eq_true rfl, rfl, rfl⟩ ha222.1 ha222.2 rfl rfl rfl hl.1 rfl (rcI (rcI (rcI (rcV rc0)))) rfl dL_isGood_259 ⟨Nat.le_of_ble_eq_true rfl, Nat.le_of_ble_eq_true rfl⟩ (fun H locs hH => ?_)
                              refine hl_aload_n hx hb dL_isGood_262 rfl (lv_at hl 0 rfl) ?_
                              refine lv_iload_n hx hb dL_isGood_263 rfl (lv_at hl 2 rfl) ?_
                              refine lv_iconst (v := 3) hx hb dL_isGood_264 (by decide) ?_
                              obtain ⟨q242, hq242, hf⟩ := bnd hf
                              refine hcV_i hx hb hml hown hts hKs hT hb0 hH (As := [.int v2_136, .int 3]) (rest := [.int (q241.1), .int (q240.1), .int (q239.1), .int v2_136, rv E v0_136]) (k_NX12_hearing l E K H.size a222 v2_136 3 q241.2 ha222.2 hq242) (gV m6_187 m6_188 m6_189 m1_1 m6_190) hd_NX12_hearing ⟨Nat.le_of_ble_eq_true rfl, Nat.le_of_ble_eq_true rfl, rfl, rfl⟩ ha222.1 ha222.2 rfl rfl rfl hl.1 rfl (rcI (rcI (rcI (rcI (rcV rc0))))) rfl dL_isGood_265 ⟨Nat.le_of_ble_eq_true rfl, Nat.le_of_ble_eq_true rfl⟩ (fun H locs hH => ?_)
                              obtain ⟨q243, hq243, hf⟩ := bnd hf
                              refine hcV_i hx hb hml hown hts hKs hT hb0 hH (As := [.int v2_136, .int (q239.1), .int (q240.1), .int (q241.1), .int (q242.1)]) (rest := []) (k_NX12_problem l E K H.size a222 v2_136 q239.1 q240.1 q241.1 q242.1 q242.2 ha222.2 hq243) (gV m6_213 m6_214 m6_215 m1_1 m6_216) hd_NX12_problem ⟨Nat.le_of_ble_eq_true rfl, Nat.le_of_ble_eq_true rfl, rfl, rfl⟩ ha222.1 ha222.2 rfl rfl rfl hl.1 rfl rc0 rfl dL_isGood_268 ⟨Nat.le_of_ble_eq_true rfl, Nat.le_of_ble_eq_true rfl⟩ (fun H locs hH => ?_)
                              refine lv_if_eq (tgt := 276) hx hb dL_isGood_271 (by decide) (fun c244 => ?_) (fun c244 => ?_)
                              · replace hf := (if_pos c244).symm.trans hf
                                refine lv_iinc (v := (v2_136 + 1)) (lv' := [(2, .int ((v2_136 + 1))), (0, rv E v0_136), (1, rv E v1_136), (3, .int v3_136), (4, .int v4_136), (5, .int v5_136)]) hx hb dL_isGood_276 hl (k := 2) rfl rfl (by decide) (by simp [List.filter_cons, cat_q, cat_i, cat_j, imax, imin]) (fun ls hl => ?_)
                                refine lv_goto (tgt := 39) hx hb dL_isGood_279 (by decide) ?_
                                exact ih v0_136 v1_136 (v2_136 + 1) _ _ _ _ hH (lv_sub hl [1, 2, 0] rfl) hf
                              · replace hf := (if_neg c244).symm.trans hf
                                refine lv_iconst (v := 0) hx hb dL_isGood_274 (by decide) ?_
                                exact hw_wretz hx hb (Nat.le_of_ble_eq_true rfl) (Nat.le_of_ble_eq_true rfl) hret rfl hf hH hlocks dL_isGood_275
                          · replace hf := (if_neg c237).symm.trans hf
                            refine lv_iconst (v := 0) hx hb dL_isGood_235 (by decide) ?_
                            exact hw_wretz hx hb (Nat.le_of_ble_eq_true rfl) (Nat.le_of_ble_eq_true rfl) hret rfl hf hH hlocks dL_isGood_236
                        · replace hf := (if_neg c226).symm.trans hf
                          refine lv_goto (tgt := 276) hx hb dL_isGood_189 (by decide) ?_
                          refine lv_iinc (v := (v2_136 + 1)) (lv' := [(2, .int ((v2_136 + 1))), (0, rv E v0_136), (1, rv E v1_136), (3, .int v3_136), (4, .int v4_136), (5, .int v5_136)]) hx hb dL_isGood_276 hl (k := 2) rfl rfl (by decide) (by simp [List.filter_cons, cat_q, cat_i, cat_j, imax, imin]) (fun ls hl => ?_)
                          refine lv_goto (tgt := 39) hx hb dL_isGood_279 (by decide) ?_
                          exact ih v0_136 v1_136 (v2_136 + 1) _ _ _ _ hH (lv_sub hl [1, 2, 0] rfl) hf
                      · replace hf := (if_neg c224).symm.trans hf
                        refine lv_iconst (v := 0) hx hb dL_isGood_178 (by decide) ?_
                        exact hw_wretz hx hb (Nat.le_of_ble_eq_true rfl) (Nat.le_of_ble_eq_true rfl) hret rfl hf hH hlocks dL_isGood_179
                    · replace hf := (if_neg c220).symm.trans hf
                      refine lv_iconst (v := 0) hx hb dL_isGood_128 (by decide) ?_
                      exact hw_wretz hx hb (Nat.le_of_ble_eq_true rfl) (Nat.le_of_ble_eq_true rfl) hret rfl hf hH hlocks dL_isGood_129
          · replace hf := (if_neg c133).symm.trans hf
            refine lv_iconst (v := 1) hx hb dL_isGood_75 (by decide) ?_
            refine lv_goto (tgt := 80) hx hb dL_isGood_76 (by decide) ?_
            refine lv_icmp_ne (tgt := 128) hx hb dL_isGood_80 (by decide) (fun c245 => ?_) (fun c245 => ?_)
            · skip
              refine lv_iconst (v := 0) hx hb dL_isGood_128 (by decide) ?_
              exact hw_wretz hx hb (Nat.le_of_ble_eq_true rfl) (Nat.le_of_ble_eq_true rfl) hret rfl hf hH hlocks dL_isGood_129
            · exact (by revert c245; decide : False).elim
        · replace hf := (if_pos c131).symm.trans hf
          refine lv_iconst (v := 1) hx hb dL_isGood_61 (by decide) ?_
          refine lv_goto (tgt := 66) hx hb dL_isGood_62 (by decide) ?_
          refine hl_aload_n hx hb dL_isGood_66 rfl (lv_at hl 1 rfl) ?_
          refine lv_iload_n hx hb dL_isGood_67 rfl (lv_at hl 3 rfl) ?_
          refine lv_iconst (v := 0) hx hb dL_isGood_68 (by decide) ?_
          obtain ⟨q246, hq246, hf⟩ := bnd hf
          refine hcV_i hx hb hml hown hts hKs hT hb0 hH (As := [.int v2_39, .int 0]) (rest := [.int 1]) (k_NX12_hearing l E K H.size a10 v2_39 0 q11.2 ha10.2 hq246) (gV m6_187 m6_188 m6_189 m1_1 m6_190) hd_NX12_hearing ⟨Nat.le_of_ble_eq_true rfl, Nat.le_of_ble_eq_true rfl, rfl, rfl⟩ ha10.1 ha10.2 rfl rfl rfl hl.1 rfl (rcI rc0) rfl dL_isGood_69 ⟨Nat.le_of_ble_eq_true rfl, Nat.le_of_ble_eq_true rfl⟩ (fun H locs hH => ?_)
          refine lv_if_lt (tgt := 79) hx hb dL_isGood_72 (by decide) (fun c247 => ?_) (fun c247 => ?_)
          · replace hf := (if_pos c247).symm.trans hf
            refine lv_iconst (v := 0) hx hb dL_isGood_79 (by decide) ?_
            refine lv_icmp_ne (tgt := 128) hx hb dL_isGood_80 (by decide) (fun c248 => ?_) (fun c248 => ?_)
            · skip
              refine lv_iconst (v := 0) hx hb dL_isGood_128 (by decide) ?_
              exact hw_wretz hx hb (Nat.le_of_ble_eq_true rfl) (Nat.le_of_ble_eq_true rfl) hret rfl hf hH hlocks dL_isGood_129
            · exact (by revert c248; decide : False).elim
          · replace hf := (if_neg c247).symm.trans hf
            refine lv_iconst (v := 1) hx hb dL_isGood_75 (by decide) ?_
            refine lv_goto (tgt := 80) hx hb dL_isGood_76 (by decide) ?_
            refine lv_icmp_ne (tgt := 128) hx hb dL_isGood_80 (by decide) (fun c249 => ?_) (fun c249 => ?_)
            · exact (by revert c249; decide : False).elim
            · skip
              refine lv_iload_n hx hb dL_isGood_83 rfl (lv_at hl 0 rfl) ?_
              refine lv_if_ne (tgt := 102) hx hb dL_isGood_84 (by decide) (fun c250 => ?_) (fun c250 => ?_)
              · replace hf := (if_neg c250).symm.trans hf
                refine hl_aload_n hx hb dL_isGood_102 rfl (lv_at hl 1 rfl) ?_
                refine lv_iload_n hx hb dL_isGood_103 rfl (lv_at hl 3 rfl) ?_
                refine lv_bipush (v := 6) hx hb dL_isGood_104 (by decide) ?_
                obtain ⟨q251, hq251, hf⟩ := bnd hf
                refine hcV_i hx hb hml hown hts hKs hT hb0 hH (As := [.int v2_39, .int 6]) (rest := []) (k_NX12_matter l E K H.size a10 v2_39 6 q246.2 ha10.2 hq251) (gV m6_182 m6_183 m6_184 m1_1 m6_185) hd_NX12_matter ⟨Nat.le_of_ble_eq_true rfl, Nat.le_of_ble_eq_true rfl, rfl, rfl⟩ ha10.1 ha10.2 rfl rfl rfl hl.1 rfl rc0 rfl dL_isGood_106 ⟨Nat.le_of_ble_eq_true rfl, Nat.le_of_ble_eq_true rfl⟩ (fun H locs hH => ?_)
                refine lv_iconst (v := 1) hx hb dL_isGood_109 (by decide) ?_
                refine lv_icmp_ne (tgt := 130) hx hb dL_isGood_110 (by decide) (fun c252 => ?_) (fun c252 => ?_)
                · replace hf := (if_neg c252).symm.trans hf
                  refine lv_iconst (v := 0) hx hb dL_isGood_130 (by decide) ?_
                  refine lv_istore (i := 4) (lv' := [(4, .int 0), (3, .int (q11.1)), (0, rv E v0_39), (1, rv E v1_39), (2, .int v2_39)]) hx hb dL_isGood_131 hl (by decide) rfl (fun ls hl => ?_)
                  refine lv_iconst (v := 0) hx hb dL_isGood_133 (by decide) ?_
                  refine lv_istore (i := 5) (lv' := [(5, .int 0), (4, .int 0), (3, .int (q11.1)), (0, rv E v0_39), (1, rv E v1_39), (2, .int v2_39)]) hx hb dL_isGood_134 hl (by decide) rfl (fun ls hl => ?_)
                  refine l_L_isGood_L136  C _ (fun v0_136 v1_136 v2_136 v3_136 v4_136 v5_136 w253 H locs ls hH hl hf => ?_) fu v0_39 v1_39 v2_39 q11.1 0 0 q251.2 _ _ _ hH (lv_sub hl [3, 4, 5, 2, 1, 0] rfl) hf
                  refine lv_iload hx hb dL_isGood_167 (lv_at hl 4 rfl) ?_
                  refine hl_aload_n hx hb dL_isGood_169 rfl (lv_at hl 0 rfl) ?_
                  refine lv_iload_n hx hb dL_isGood_170 rfl (lv_at hl 2 rfl) ?_
                  refine lv_iconst (v := 3) hx hb dL_isGood_171 (by decide) ?_
                  obtain ⟨a254, ha254, hf⟩ := bnd hf
                  replace ha254 := chk_some ha254
                  obtain ⟨q255, hq255, hf⟩ := bnd hf
                  refine hcV_i hx hb hml hown hts hKs hT hb0 hH (As := [.int v2_136, .int 3]) (rest := [.int v4_136]) (k_NX12_matter l E K H.size a254 v2_136 3 w253 ha254.2 hq255) (gV m6_182 m6_183 m6_184 m1_1 m6_185) hd_NX12_matter ⟨Nat.le_of_ble_eq_true rfl, Nat.le_of_ble_eq_true rfl, rfl, rfl⟩ ha254.1 ha254.2 rfl rfl rfl hl.1 rfl (rcI rc0) rfl dL_isGood_172 ⟨Nat.le_of_ble_eq_true rfl, Nat.le_of_ble_eq_true rfl⟩ (fun H locs hH => ?_)
                  refine lv_icmp_eq (tgt := 180) hx hb dL_isGood_175 (by decide) (fun c256 => ?_) (fun c256 => ?_)
                  · replace hf := (if_pos c256).symm.trans hf
                    refine hl_aload_n hx hb dL_isGood_180 rfl (lv_at hl 0 rfl) ?_
                    refine lv_iload_n hx hb dL_isGood_181 rfl (lv_at hl 2 rfl) ?_
                    refine lv_iconst (v := 0) hx hb dL_isGood_182 (by decide) ?_
                    obtain ⟨q257, hq257, hf⟩ := bnd hf
                    refine hcV_i hx hb hml hown hts hKs hT hb0 hH (As := [.int v2_136, .int 0]) (rest := []) (k_NX12_hearing l E K H.size a254 v2_136 0 q255.2 ha254.2 hq257) (gV m6_187 m6_188 m6_189 m1_1 m6_190) hd_NX12_hearing ⟨Nat.le_of_ble_eq_true rfl, Nat.le_of_ble_eq_true rfl, rfl, rfl⟩ ha254.1 ha254.2 rfl rfl rfl hl.1 rfl rc0 rfl dL_isGood_183 ⟨Nat.le_of_ble_eq_true rfl, Nat.le_of_ble_eq_true rfl⟩ (fun H locs hH => ?_)
                    refine lv_if_ge (tgt := 192) hx hb dL_isGood_186 (by decide) (fun c258 => ?_) (fun c258 => ?_)
                    · replace hf := (if_pos c258).symm.trans hf
                      refine hl_aload_n hx hb dL_isGood_192 rfl (lv_at hl 1 rfl) ?_
                      refine hl_aload_n hx hb dL_isGood_193 rfl (lv_at hl 0 rfl) ?_
                      refine lv_iload_n hx hb dL_isGood_194 rfl (lv_at hl 2 rfl) ?_
                      refine lv_iconst (v := 3) hx hb dL_isGood_195 (by decide) ?_
                      obtain ⟨q259, hq259, hf⟩ := bnd hf
                      refine hcV_i hx hb hml hown hts hKs hT hb0 hH (As := [.int v2_136, .int 3]) (rest := [rv E v1_136]) (k_NX12_hearing l E K H.size a254 v2_136 3 q257.2 ha254.2 hq259) (gV m6_187 m6_188 m6_189 m1_1 m6_190) hd_NX12_hearing ⟨Nat.le_of_ble_eq_true rfl, Nat.le_of_ble_eq_true rfl, rfl, rfl⟩ ha254.1 ha254.2 rfl rfl rfl hl.1 rfl (rcV rc0) rfl dL_isGood_196 ⟨Nat.le_of_ble_eq_true rfl, Nat.le_of_ble_eq_true rfl⟩ (fun H locs hH => ?_)
                      refine lv_dup2_11 hx hb dL_isGood_199 rfl rv_cat ?_
                      obtain ⟨a260, ha260, hf⟩ := bnd hf
                      replace ha260 := cha_some ha260
                      obtain ⟨j261, hj261, hf⟩ := bnd hf
                      refine hw_iald hx hb hKs hH ha260.1 ha260.2 hj261 dL_isGood_200 ?_
                      refine hl_aload_n hx hb dL_isGood_201 rfl (lv_at hl 0 rfl) ?_
                      refine lv_iload_n hx hb dL_isGood_202 rfl (lv_at hl 2 rfl) ?_
                      refine lv_iconst (v := 1) hx hb dL_isGood_203 (by decide) ?_
                      obtain ⟨q262, hq262, hf⟩ := bnd hf
                      refine hcV_i hx hb hml hown hts hKs hT hb0 hH (As := [.int v2_136, .int 1]) (rest := [.int ((aI q259.2 a260.1 j261)), .int (q259.1), rv E v1_136]) (k_NX12_matter l E K H.size a254 v2_136 1 q259.2 ha254.2 hq262) (gV m6_182 m6_183 m6_184 m1_1 m6_185) hd_NX12_matter ⟨Nat.le_of_ble_eq_true rfl, Nat.le_of_ble_eq_true rfl, rfl, rfl⟩ ha254.1 ha254.2 rfl rfl rfl hl.1 rfl (rcI (rcI (rcV rc0))) rfl dL_isGood_204 ⟨Nat.le_of_ble_eq_true rfl, Nat.le_of_ble_eq_true rfl⟩ (fun H locs hH => ?_)
                      refine lv_iadd hx hb dL_isGood_207 ?_
                      obtain ⟨j263, hj263, hf⟩ := bnd hf
                      obtain ⟨w264, hw264, hf⟩ := bnd hf
                      replace hw264 := Option.some.inj hw264
                      refine hw_iast (x := ((aI q259.2 a260.1 j261) + q262.1)) hx hb hKs hH ha260.1 ha260.2 hj263 dL_isGood_208 (fun H locs hH => ?_)
                      rw [hw264] at hH
                      refine hl_aload_n hx hb dL_isGood_209 rfl (lv_at hl 0 rfl) ?_
                      refine hl_aload_n hx hb dL_isGood_210 rfl (lv_at hl 0 rfl) ?_
                      refine lv_iload_n hx hb dL_isGood_211 rfl (lv_at hl 2 rfl) ?_
                      refine lv_iconst (v := 2) hx hb dL_isGood_212 (by decide) ?_
                      obtain ⟨q265, hq265, hf⟩ := bnd hf
                      refine hcV_i hx hb hml hown hts hKs hT hb0 hH (As := [.int v2_136, .int 2]) (rest := [rv E v0_136]) (k_NX12_hearing l E K H.size a254 v2_136 2 w264 ha254.2 hq265) (gV m6_187 m6_188 m6_189 m1_1 m6_190) hd_NX12_hearing ⟨Nat.le_of_ble_eq_true rfl, Nat.le_of_ble_eq_true rfl, rfl, rfl⟩ ha254.1 ha254.2 rfl rfl rfl hl.1 rfl (rcV rc0) rfl dL_isGood_213 ⟨Nat.le_of_ble_eq_true rfl, Nat.le_of_ble_eq_true rfl⟩ (fun H locs hH => ?_)
                      refine hl_aload_n hx hb dL_isGood_216 rfl (lv_at hl 0 rfl) ?_
                      refine lv_iload_n hx hb dL_isGood_217 rfl (lv_at hl 2 rfl) ?_
                      refine lv_iconst (v := 0) hx hb dL_isGood_218 (by decide) ?_
                      obtain ⟨q266, hq266, hf⟩ := bnd hf
                      refine hcV_i hx hb hml hown hts hKs hT hb0 hH (As := [.int v2_136, .int 0]) (rest := [.int (q265.1), rv E v0_136]) (k_NX12_hearing l E K H.size a254 v2_136 0 q265.2 ha254.2 hq266) (gV m6_187 m6_188 m6_189 m1_1 m6_190) hd_NX12_hearing ⟨Nat.le_of_ble_eq_true rfl, Nat.le_of_ble_eq_true rfl, rfl, rfl⟩ ha254.1 ha254.2 rfl rfl rfl hl.1 rfl (rcI (rcV rc0)) rfl dL_isGood_219 ⟨Nat.le_of_ble_eq_true rfl, Nat.le_of_ble_eq_true rfl⟩ (fun H locs hH => ?_)
                      refine hl_aload_n hx hb dL_isGood_222 rfl (lv_at hl 0 rfl) ?_
                      refine lv_iload_n hx hb dL_isGood_223 rfl (lv_at hl 2 rfl) ?_
                      refine lv_iconst (v := 1) hx hb dL_isGood_224 (by decide) ?_
                      obtain ⟨q267, hq267, hf⟩ := bnd hf
                      refine hcV_i hx hb hml hown hts hKs hT hb0 hH (As := [.int v2_136, .int 1]) (rest := [.int (q266.1), .int (q265.1), rv E v0_136]) (k_NX12_hearing l E K H.size a254 v2_136 1 q266.2 ha254.2 hq267) (gV m6_187 m6_188 m6_189 m1_1 m6_190) hd_NX12_hearing ⟨Nat.le_of_ble_eq_true rfl, Nat.le_of_ble_eq_true rfl, rfl, rfl⟩ ha254.1 ha254.2 rfl rfl rfl hl.1 rfl (rcI (rcI (rcV rc0))) rfl dL_isGood_225 ⟨Nat.le_of_ble_eq_true rfl, Nat.le_of_ble_eq_true rfl⟩ (fun H locs hH => ?_)
                      obtain ⟨q268, hq268, hf⟩ := bnd hf
                      refine hcV_i hx hb hml hown hts hKs hT hb0 hH (As := [.int (q265.1), .int (q266.1), .int (q267.1)]) (rest := []) (k_NX12_caseAt l E K H.size a254 q265.1 q266.1 q267.1 q267.2 ha254.2 hq268) (gV m6_195 m6_196 m6_197 m1_1 m6_198) hd_NX12_caseAt ⟨Nat.le_of_ble_eq_true rfl, Nat.le_of_ble_eq_true rfl, rfl, rfl⟩ ha254.1 ha254.2 rfl rfl rfl hl.1 rfl rc0 rfl dL_isGood_228 ⟨Nat.le_of_ble_eq_true rfl, Nat.le_of_ble_eq_true rfl⟩ (fun H locs hH => ?_)
                      refine lv_iload_n hx hb dL_isGood_231 rfl (lv_at hl 2 rfl) ?_
                      refine lv_icmp_eq (tgt := 237) hx hb dL_isGood_232 (by decide) (fun c269 => ?_) (fun c269 => ?_)
                      · replace hf := (if_pos c269).symm.trans hf
                        refine lv_iload_n hx hb dL_isGood_237 rfl (lv_at hl 3 rfl) ?_
                        refine lv_iconst (v := 1) hx hb dL_isGood_238 (by decide) ?_
                        refine lv_icmp_ne (tgt := 276) hx hb dL_isGood_239 (by decide) (fun c270 => ?_) (fun c270 => ?_)
                        · replace hf := (if_neg c270).symm.trans hf
                          refine lv_iinc (v := (v2_136 + 1)) (lv' := [(2, .int ((v2_136 + 1))), (0, rv E v0_136), (1, rv E v1_136), (3, .int v3_136), (4, .int v4_136), (5, .int v5_136)]) hx hb dL_isGood_276 hl (k := 2) rfl rfl (by decide) (by simp [List.filter_cons, cat_q, cat_i, cat_j, imax, imin]) (fun ls hl => ?_)
                          refine lv_goto (tgt := 39) hx hb dL_isGood_279 (by decide) ?_
                          exact ih v0_136 v1_136 (v2_136 + 1) _ _ _ _ hH (lv_sub hl [1, 2, 0] rfl) hf
                        · replace hf := (if_pos c270).symm.trans hf
                          refine hl_aload_n hx hb dL_isGood_242 rfl (lv_at hl 0 rfl) ?_
                          refine lv_iload_n hx hb dL_isGood_243 rfl (lv_at hl 2 rfl) ?_
                          refine hl_aload_n hx hb dL_isGood_244 rfl (lv_at hl 0 rfl) ?_
                          refine lv_iload_n hx hb dL_isGood_245 rfl (lv_at hl 2 rfl) ?_
                          refine lv_iconst (v := 0) hx hb dL_isGood_246 (by decide) ?_
                          obtain ⟨q271, hq271, hf⟩ := bnd hf
                          refine hcV_i hx hb hml hown hts hKs hT hb0 hH (As := [.int v2_136, .int 0]) (rest := [.int v2_136, rv E v0_136]) (k_NX12_hearing l E K H.size a254 v2_136 0 q268.2 ha254.2 hq271) (gV m6_187 m6_188 m6_189 m1_1 m6_190) hd_NX12_hearing ⟨Nat.le_of_ble_eq_true rfl, Nat.le_of_ble_eq_true rfl, rfl, rfl⟩ ha254.1 ha254.2 rfl rfl rfl hl.1 rfl (rcI (rcV rc0)) rfl dL_isGood_247 ⟨Nat.le_of_ble_eq_true rfl, Nat.le_of_ble_eq_true rfl⟩ (fun H locs hH => ?_)
                          refine hl_aload_n hx hb dL_isGood_250 rfl (lv_at hl 0 rfl) ?_
                          refine lv_iload_n hx hb dL_isGood_251 rfl (lv_at hl 2 rfl) ?_
                          refine lv_iconst (v := 1) hx hb dL_isGood_252 (by decide) ?_
                          obtain ⟨q272, hq272, hf⟩ := bnd hf
                          refine hcV_i hx hb hml hown hts hKs hT hb0 hH (As := [.int v2_136, .int 1]) (rest := [.int (q271.1), .int v2_136, rv E v0_136]) (k_NX12_hearing l E K H.size a254 v2_136 1 q271.2 ha254.2 hq272) (gV m6_187 m6_188 m6_189 m1_1 m6_190) hd_NX12_hearing ⟨Nat.le_of_ble_eq_true rfl, Nat.le_of_ble_eq_true rfl, rfl, rfl⟩ ha254.1 ha254.2 rfl rfl rfl hl.1 rfl (rcI (rcI (rcV rc0))) rfl dL_isGood_253 ⟨Nat.le_of_ble_eq_true rfl, Nat.le_of_ble_eq_true rfl⟩ (fun H locs hH => ?_)
                          refine hl_aload_n hx hb dL_isGood_256 rfl (lv_at hl 0 rfl) ?_
                          refine lv_iload_n hx hb dL_isGood_257 rfl (lv_at hl 2 rfl) ?_
                          refine lv_iconst (v := 2) hx hb dL_isGood_258 (by decide) ?_
                          obtain ⟨q273, hq273, hf⟩ := bnd hf
                          refine hcV_i hx hb hml hown hts hKs hT hb0 hH (As := [.int v2_136, .int 2]) (rest := [.int (q272.1), .int (q271.1), .int v2_136, rv E v0_136]) (k_NX12_hearing l E K H.size a254 v2_136 2 q272.2 ha254.2 hq273) (gV m6_187 m6_188 m6_189 m1_1 m6_190) hd_NX12_hearing ⟨Nat.le_of_ble_eq_true rfl, Nat.le_of_ble_eq_true rfl, rfl, rfl⟩ ha254.1 ha254.2 rfl rfl rfl hl.1 rfl (rcI (rcI (rcI (rcV rc0)))) rfl dL_isGood_259 ⟨Nat.le_of_ble_eq_true rfl, Nat.le_of_ble_eq_true rfl⟩ (fun H locs hH => ?_)
                          refine hl_aload_n hx hb dL_isGood_262 rfl (lv_at hl 0 rfl) ?_
                          refine lv_iload_n hx hb dL_isGood_263 rfl (lv_at hl 2 rfl) ?_
                          refine lv_iconst (v := 3) hx hb dL_isGood_264 (by decide) ?_
                          obtain ⟨q274, hq274, hf⟩ := bnd hf
                          refine hcV_i hx hb hml hown hts hKs hT hb0 hH (As := [.int v2_136, .int 3]) (rest := [.int (q273.1), .int (q272.1), .int (q271.1), .int v2_136, rv E v0_136]) (k_NX12_hearing l E K H.size a254 v2_136 3 q273.2 ha254.2 hq274) (gV m6_187 m6_188 m6_189 m1_1 m6_190) hd_NX12_hearing ⟨Nat.le_of_ble_eq_true rfl, Nat.le_of_ble_eq_true rfl, rfl, rfl⟩ ha254.1 ha254.2 rfl rfl rfl hl.1 rfl (rcI (rcI (rcI (rcI (rcV rc0))))) rfl dL_isGood_265 ⟨Nat.le_of_ble_eq_true rfl, Nat.le_of_ble_eq_true rfl⟩ (fun H locs hH => ?_)
                          obtain ⟨q275, hq275, hf⟩ := bnd hf
                          refine hcV_i hx hb hml hown hts hKs hT hb0 hH (As := [.int v2_136, .int (q271.1), .int (q272.1), .int (q273.1), .int (q274.1)]) (rest := []) (k_NX12_problem l E K H.size a254 v2_136 q271.1 q272.1 q273.1 q274.1 q274.2 ha254.2 hq275) (gV m6_213 m6_214 m6_215 m1_1 m6_216) hd_NX12_problem ⟨Nat.le_of_ble_eq_true rfl, Nat.le_of_ble_eq_true rfl, rfl, rfl⟩ ha254.1 ha254.2 rfl rfl rfl hl.1 rfl rc0 rfl dL_isGood_268 ⟨Nat.le_of_ble_eq_true rfl, Nat.le_of_ble_eq_true rfl⟩ (fun H locs hH => ?_)
                          refine lv_if_eq (tgt := 276) hx hb dL_isGood_271 (by decide) (fun c276 => ?_) (fun c276 => ?_)
                          · replace hf := (if_pos c276).symm.trans hf
                            refine lv_iinc (v := (v2_136 + 1)) (lv' := [(2, .int ((v2_136 + 1))), (0, rv E v0_136), (1, rv E v1_136), (3, .int v3_136), (4, .int v4_136), (5, .int v5_136)]) hx hb dL_isGood_276 hl (k := 2) rfl rfl (by decide) (by simp [List.filter_cons, cat_q, cat_i, cat_j, imax, imin]) (fun ls hl => ?_)
                            refine lv_goto (tgt := 39) hx hb dL_isGood_279 (by decide) ?_
                            exact ih v0_136 v1_136 (v2_136 + 1) _ _ _ _ hH (lv_sub hl [1, 2, 0] rfl) hf
                          · replace hf := (if_neg c276).symm.trans hf
                            refine lv_iconst (v := 0) hx hb dL_isGood_274 (by decide) ?_
                            exact hw_wretz hx hb (Nat.le_of_ble_eq_true rfl) (Nat.le_of_ble_eq_true rfl) hret rfl hf hH hlocks dL_isGood_275
                      · replace hf := (if_neg c269).symm.trans hf
                        refine lv_iconst (v := 0) hx hb dL_isGood_235 (by decide) ?_
                        exact hw_wretz hx hb (Nat.le_of_ble_eq_true rfl) (Nat.le_of_ble_eq_true rfl) hret rfl hf hH hlocks dL_isGood_236
                    · replace hf := (if_neg c258).symm.trans hf
                      refine lv_goto (tgt := 276) hx hb dL_isGood_189 (by decide) ?_
                      refine lv_iinc (v := (v2_136 + 1)) (lv' := [(2, .int ((v2_136 + 1))), (0, rv E v0_136), (1, rv E v1_136), (3, .int v3_136), (4, .int v4_136), (5, .int v5_136)]) hx hb dL_isGood_276 hl (k := 2) rfl rfl (by decide) (by simp [List.filter_cons, cat_q, cat_i, cat_j, imax, imin]) (fun ls hl => ?_)
                      refine lv_goto (tgt := 39) hx hb dL_isGood_279 (by decide) ?_
                      exact ih v0_136 v1_136 (v2_136 + 1) _ _ _ _ hH (lv_sub hl [1, 2, 0] rfl) hf
                  · replace hf := (if_neg c256).symm.trans hf
                    refine lv_iconst (v := 0) hx hb dL_isGood_178 (by decide) ?_
                    exact hw_wretz hx hb (Nat.le_of_ble_eq_true rfl) (Nat.le_of_ble_eq_true rfl) hret rfl hf hH hlocks dL_isGood_179
                · replace hf := (if_pos c252).symm.trans hf
                  refine hl_aload_n hx hb dL_isGood_113 rfl (lv_at hl 1 rfl) ?_
                  refine lv_iload_n hx hb dL_isGood_114 rfl (lv_at hl 3 rfl) ?_
                  refine lv_iconst (v := 3) hx hb dL_isGood_115 (by decide) ?_
                  obtain ⟨q277, hq277, hf⟩ := bnd hf
                  refine hcV_i hx hb hml hown hts hKs hT hb0 hH (As := [.int v2_39, .int 3]) (rest := []) (k_NX12_matter l E K H.size a10 v2_39 3 q251.2 ha10.2 hq277) (gV m6_182 m6_183 m6_184 m1_1 m6_185) hd_NX12_matter ⟨Nat.le_of_ble_eq_true rfl, Nat.le_of_ble_eq_true rfl, rfl, rfl⟩ ha10.1 ha10.2 rfl rfl rfl hl.1 rfl rc0 rfl dL_isGood_116 ⟨Nat.le_of_ble_eq_true rfl, Nat.le_of_ble_eq_true rfl⟩ (fun H locs hH => ?_)
                  refine hl_aload_n hx hb dL_isGood_119 rfl (lv_at hl 1 rfl) ?_
                  refine lv_bipush (v := 8) hx hb dL_isGood_120 (by decide) ?_
                  obtain ⟨q278, hq278, hf⟩ := bnd hf
                  refine hcV_i hx hb hml hown hts hKs hT hb0 hH (As := [.int 8]) (rest := [.int (q277.1)]) (k_X12_count l E K H.size a10 8 q277.2 ha10.2 hq278) (gV m3_17 m3_18 m3_19 m1_1 m3_20) hd_X12_count ⟨Nat.le_of_ble_eq_true rfl, Nat.le_of_ble_eq_true rfl, rfl, rfl⟩ ha10.1 ha10.2 rfl rfl rfl hl.1 rfl (rcI rc0) rfl dL_isGood_122 ⟨Nat.le_of_ble_eq_true rfl, Nat.le_of_ble_eq_true rfl⟩ (fun H locs hH => ?_)
                  refine lv_icmp_le (tgt := 130) hx hb dL_isGood_125 (by decide) (fun c279 => ?_) (fun c279 => ?_)
                  · replace hf := (if_pos c279).symm.trans hf
                    refine lv_iconst (v := 0) hx hb dL_isGood_130 (by decide) ?_
                    refine lv_istore (i := 4) (lv' := [(4, .int 0), (3, .int (q11.1)), (0, rv E v0_39), (1, rv E v1_39), (2, .int v2_39)]) hx hb dL_isGood_131 hl (by decide) rfl (fun ls hl => ?_)
                    refine lv_iconst (v := 0) hx hb dL_isGood_133 (by decide) ?_
                    refine lv_istore (i := 5) (lv' := [(5, .int 0), (4, .int 0), (3, .int (q11.1)), (0, rv E v0_39), (1, rv E v1_39), (2, .int v2_39)]) hx hb dL_isGood_134 hl (by decide) rfl (fun ls hl => ?_)
                    refine l_L_isGood_L136  C _ (fun v0_136 v1_136 v2_136 v3_136 v4_136 v5_136 w280 H locs ls hH hl hf => ?_) fu v0_39 v1_39 v2_39 q11.1 0 0 q278.2 _ _ _ hH (lv_sub hl [3, 4, 5, 2, 1, 0] rfl) hf
                    refine lv_iload hx hb dL_isGood_167 (lv_at hl 4 rfl) ?_
                    refine hl_aload_n hx hb dL_isGood_169 rfl (lv_at hl 0 rfl) ?_
                    refine lv_iload_n hx hb dL_isGood_170 rfl (lv_at hl 2 rfl) ?_
                    refine lv_iconst (v := 3) hx hb dL_isGood_171 (by decide) ?_
                    obtain ⟨a281, ha281, hf⟩ := bnd hf
                    replace ha281 := chk_some ha281
                    obtain ⟨q282, hq282, hf⟩ := bnd hf
                    refine hcV_i hx hb hml hown hts hKs hT hb0 hH (As := [.int v2_136, .int 3]) (rest := [.int v4_136]) (k_NX12_matter l E K H.size a281 v2_136 3 w280 ha281.2 hq282) (gV m6_182 m6_183 m6_184 m1_1 m6_185) hd_NX12_matter ⟨Nat.le_of_ble_eq_true rfl, Nat.le_of_ble_eq_true rfl, rfl, rfl⟩ ha281.1 ha281.2 rfl rfl rfl hl.1 rfl (rcI rc0) rfl dL_isGood_172 ⟨Nat.le_of_ble_eq_true rfl, Nat.le_of_ble_eq_true rfl⟩ (fun H locs hH => ?_)
                    refine lv_icmp_eq (tgt := 180) hx hb dL_isGood_175 (by decide) (fun c283 => ?_) (fun c283 => ?_)
                    · replace hf := (if_pos c283).symm.trans hf
                      refine hl_aload_n hx hb dL_isGood_180 rfl (lv_at hl 0 rfl) ?_
                      refine lv_iload_n hx hb dL_isGood_181 rfl (lv_at hl 2 rfl) ?_
                      refine lv_iconst (v := 0) hx hb dL_isGood_182 (by decide) ?_
                      obtain ⟨q284, hq284, hf⟩ := bnd hf
                      refine hcV_i hx hb hml hown hts hKs hT hb0 hH (As := [.int v2_136, .int 0]) (rest := []) (k_NX12_hearing l E K H.size a281 v2_136 0 q282.2 ha281.2 hq284) (gV m6_187 m6_188 m6_189 m1_1 m6_190) hd_NX12_hearing ⟨Nat.le_of_ble_eq_true rfl, Nat.le_of_ble_eq_true rfl, rfl, rfl⟩ ha281.1 ha281.2 rfl rfl rfl hl.1 rfl rc0 rfl dL_isGood_183 ⟨Nat.le_of_ble_eq_true rfl, Nat.le_of_ble_eq_true rfl⟩ (fun H locs hH => ?_)
                      refine lv_if_ge (tgt := 192) hx hb dL_isGood_186 (by decide) (fun c285 => ?_) (fun c285 => ?_)
                      · replace hf := (if_pos c285).symm.trans hf
                        refine hl_aload_n hx hb dL_isGood_192 rfl (lv_at hl 1 rfl) ?_
                        refine hl_aload_n hx hb dL_isGood_193 rfl (lv_at hl 0 rfl) ?_
                        refine lv_iload_n hx hb dL_isGood_194 rfl (lv_at hl 2 rfl) ?_
                        refine lv_iconst (v := 3) hx hb dL_isGood_195 (by decide) ?_
                        obtain ⟨q286, hq286, hf⟩ := bnd hf
                        refine hcV_i hx hb hml hown hts hKs hT hb0 hH (As := [.int v2_136, .int 3]) (rest := [rv E v1_136]) (k_NX12_hearing l E K H.size a281 v2_136 3 q284.2 ha281.2 hq286) (gV m6_187 m6_188 m6_189 m1_1 m6_190) hd_NX12_hearing ⟨Nat.le_of_ble_eq_true rfl, Nat.le_of_ble_eq_true rfl, rfl, rfl⟩ ha281.1 ha281.2 rfl rfl rfl hl.1 rfl (rcV rc0) rfl dL_isGood_196 ⟨Nat.le_of_ble_eq_true rfl, Nat.le_of_ble_eq_true rfl⟩ (fun H locs hH => ?_)
                        refine lv_dup2_11 hx hb dL_isGood_199 rfl rv_cat ?_
                        obtain ⟨a287, ha287, hf⟩ := bnd hf
                        replace ha287 := cha_some ha287
                        obtain ⟨j288, hj288, hf⟩ := bnd hf
                        refine hw_iald hx hb hKs hH ha287.1 ha287.2 hj288 dL_isGood_200 ?_
                        refine hl_aload_n hx hb dL_isGood_201 rfl (lv_at hl 0 rfl) ?_
                        refine lv_iload_n hx hb dL_isGood_202 rfl (lv_at hl 2 rfl) ?_
                        refine lv_iconst (v := 1) hx hb dL_isGood_203 (by decide) ?_
                        obtain ⟨q289, hq289, hf⟩ := bnd hf
                        refine hcV_i hx hb hml hown hts hKs hT hb0 hH (As := [.int v2_136, .int 1]) (rest := [.int ((aI q286.2 a287.1 j288)), .int (q286.1), rv E v1_136]) (k_NX12_matter l E K H.size a281 v2_136 1 q286.2 ha281.2 hq289) (gV m6_182 m6_183 m6_184 m1_1 m6_185) hd_NX12_matter ⟨Nat.le_of_ble_eq_true rfl, Nat.le_of_ble_eq_true rfl, rfl, rfl⟩ ha281.1 ha281.2 rfl rfl rfl hl.1 rfl (rcI (rcI (rcV rc0))) rfl dL_isGood_204 ⟨Nat.le_of_ble_eq_true rfl, Nat.le_of_ble_eq_true rfl⟩ (fun H locs hH => ?_)
                        refine lv_iadd hx hb dL_isGood_207 ?_
                        obtain ⟨j290, hj290, hf⟩ := bnd hf
                        obtain ⟨w291, hw291, hf⟩ := bnd hf
                        replace hw291 := Option.some.inj hw291
                        refine hw_iast (x := ((aI q286.2 a287.1 j288) + q289.1)) hx hb hKs hH ha287.1 ha287.2 hj290 dL_isGood_208 (fun H locs hH => ?_)
                        rw [hw291] at hH
                        refine hl_aload_n hx hb dL_isGood_209 rfl (lv_at hl 0 rfl) ?_
                        refine hl_aload_n hx hb dL_isGood_210 rfl (lv_at hl 0 rfl) ?_
                        refine lv_iload_n hx hb dL_isGood_211 rfl (lv_at hl 2 rfl) ?_
                        refine lv_iconst (v := 2) hx hb dL_isGood_212 (by decide) ?_
                        obtain ⟨q292, hq292, hf⟩ := bnd hf
                        refine hcV_i hx hb hml hown hts hKs hT hb0 hH (As := [.int v2_136, .int 2]) (rest := [rv E v0_136]) (k_NX12_hearing l E K H.size a281 v2_136 2 w291 ha281.2 hq292) (gV m6_187 m6_188 m6_189 m1_1 m6_190) hd_NX12_hearing ⟨Nat.le_of_ble_eq_true rfl, Nat.le_of_ble_eq_true rfl, rfl, rfl⟩ ha281.1 ha281.2 rfl rfl rfl hl.1 rfl (rcV rc0) rfl dL_isGood_213 ⟨Nat.le_of_ble_eq_true rfl, Nat.le_of_ble_eq_true rfl⟩ (fun H locs hH => ?_)
                        refine hl_aload_n hx hb dL_isGood_216 rfl (lv_at hl 0 rfl) ?_
                        refine lv_iload_n hx hb dL_isGood_217 rfl (lv_at hl 2 rfl) ?_
                        refine lv_iconst (v := 0) hx hb dL_isGood_218 (by decide) ?_
                        obtain ⟨q293, hq293, hf⟩ := bnd hf
                        refine hcV_i hx hb hml hown hts hKs hT hb0 hH (As := [.int v2_136, .int 0]) (rest := [.int (q292.1), rv E v0_136]) (k_NX12_hearing l E K H.size a281 v2_136 0 q292.2 ha281.2 hq293) (gV m6_187 m6_188 m6_189 m1_1 m6_190) hd_NX12_hearing ⟨Nat.le_of_ble_eq_true rfl, Nat.le_of_ble_eq_true rfl, rfl, rfl⟩ ha281.1 ha281.2 rfl rfl rfl hl.1 rfl (rcI (rcV rc0)) rfl dL_isGood_219 ⟨Nat.le_of_ble_eq_true rfl, Nat.le_of_ble_eq_true rfl⟩ (fun H locs hH => ?_)
                        refine hl_aload_n hx hb dL_isGood_222 rfl (lv_at hl 0 rfl) ?_
                        refine lv_iload_n hx hb dL_isGood_223 rfl (lv_at hl 2 rfl) ?_
                        refine lv_iconst (v := 1) hx hb dL_isGood_224 (by decide) ?_
                        obtain ⟨q294, hq294, hf⟩ := bnd hf
                        refine hcV_i hx hb hml hown hts hKs hT hb0 hH (As := [.int v2_136, .int 1]) (rest := [.int (q293.1), .int (q292.1), rv E v0_136]) (k_NX12_hearing l E K H.size a281 v2_136 1 q293.2 ha281.2 hq294) (gV m6_187 m6_188 m6_189 m1_1 m6_190) hd_NX12_hearing ⟨Nat.le_of_ble_eq_true rfl, Nat.le_of_ble_eq_true rfl, rfl, rfl⟩ ha281.1 ha281.2 rfl rfl rfl hl.1 rfl (rcI (rcI (rcV rc0))) rfl dL_isGood_225 ⟨Nat.le_of_ble_eq_true rfl, Nat.le_of_ble_eq_true rfl⟩ (fun H locs hH => ?_)
                        obtain ⟨q295, hq295, hf⟩ := bnd hf
                        refine hcV_i hx hb hml hown hts hKs hT hb0 hH (As := [.int (q292.1), .int (q293.1), .int (q294.1)]) (rest := []) (k_NX12_caseAt l E K H.size a281 q292.1 q293.1 q294.1 q294.2 ha281.2 hq295) (gV m6_195 m6_196 m6_197 m1_1 m6_198) hd_NX12_caseAt ⟨Nat.le_of_ble_eq_true rfl, Nat.le_of_ble_eq_true rfl, rfl, rfl⟩ ha281.1 ha281.2 rfl rfl rfl hl.1 rfl rc0 rfl dL_isGood_228 ⟨Nat.le_of_ble_eq_true rfl, Nat.le_of_ble_eq_true rfl⟩ (fun H locs hH => ?_)
                        refine lv_iload_n hx hb dL_isGood_231 rfl (lv_at hl 2 rfl) ?_
                        refine lv_icmp_eq (tgt := 237) hx hb dL_isGood_232 (by decide) (fun c296 => ?_) (fun c296 => ?_)
                        · replace hf := (if_pos c296).symm.trans hf
                          refine lv_iload_n hx hb dL_isGood_237 rfl (lv_at hl 3 rfl) ?_
                          refine lv_iconst (v := 1) hx hb dL_isGood_238 (by decide) ?_
                          refine lv_icmp_ne (tgt := 276) hx hb dL_isGood_239 (by decide) (fun c297 => ?_) (fun c297 => ?_)
                          · replace hf := (if_neg c297).symm.trans hf
                            refine lv_iinc (v := (v2_136 + 1)) (lv' := [(2, .int ((v2_136 + 1))), (0, rv E v0_136), (1, rv E v1_136), (3, .int v3_136), (4, .int v4_136), (5, .int v5_136)]) hx hb dL_isGood_276 hl (k := 2) rfl rfl (by decide) (by simp [List.filter_cons, cat_q, cat_i, cat_j, imax, imin]) (fun ls hl => ?_)
                            refine lv_goto (tgt := 39) hx hb dL_isGood_279 (by decide) ?_
                            exact ih v0_136 v1_136 (v2_136 + 1) _ _ _ _ hH (lv_sub hl [1, 2, 0] rfl) hf
                          · replace hf := (if_pos c297).symm.trans hf
                            refine hl_aload_n hx hb dL_isGood_242 rfl (lv_at hl 0 rfl) ?_
                            refine lv_iload_n hx hb dL_isGood_243 rfl (lv_at hl 2 rfl) ?_
                            refine hl_aload_n hx hb dL_isGood_244 rfl (lv_at hl 0 rfl) ?_
                            refine lv_iload_n hx hb dL_isGood_245 rfl (lv_at hl 2 rfl) ?_
                            refine lv_iconst (v := 0) hx hb dL_isGood_246 (by decide) ?_
                            obtain ⟨q298, hq298, hf⟩ := bnd hf
                            refine hcV_i hx hb hml hown hts hKs hT hb0 hH (As := [.int v2_136, .int 0]) (rest := [.int v2_136, rv E v0_136]) (k_NX12_hearing l E K H.size a281 v2_136 0 q295.2 ha281.2 hq298) (gV m6_187 m6_188 m6_189 m1_1 m6_190) hd_NX12_hearing ⟨Nat.le_of_ble_eq_true rfl, Nat.le_of_ble_eq_true rfl, rfl, rfl⟩ ha281.1 ha281.2 rfl rfl rfl hl.1 rfl (rcI (rcV rc0)) rfl dL_isGood_247 ⟨Nat.le_of_ble_eq_true rfl, Nat.le_of_ble_eq_true rfl⟩ (fun H locs hH => ?_)
                            refine hl_aload_n hx hb dL_isGood_250 rfl (lv_at hl 0 rfl) ?_
                            refine lv_iload_n hx hb dL_isGood_251 rfl (lv_at hl 2 rfl) ?_
                            refine lv_iconst (v := 1) hx hb dL_isGood_252 (by decide) ?_
                            obtain ⟨q299, hq299, hf⟩ := bnd hf
                            refine hcV_i hx hb hml hown hts hKs hT hb0 hH (As := [.int v2_136, .int 1]) (rest := [.int (q298.1), .int v2_136, rv E v0_136]) (k_NX12_hearing l E K H.size a281 v2_136 1 q298.2 ha281.2 hq299) (gV m6_187 m6_188 m6_189 m1_1 m6_190) hd_NX12_hearing ⟨Nat.le_of_ble_eq_true rfl, Nat.le_of_ble_eq_true rfl, rfl, rfl⟩ ha281.1 ha281.2 rfl rfl rfl hl.1 rfl (rcI (rcI (rcV rc0))) rfl dL_isGood_253 ⟨Nat.le_of_ble_eq_true rfl, Nat.le_of_ble_eq_true rfl⟩ (fun H locs hH => ?_)
                            refine hl_aload_n hx hb dL_isGood_256 rfl (lv_at hl 0 rfl) ?_
                            refine lv_iload_n hx hb dL_isGood_257 rfl (lv_at hl 2 rfl) ?_
                            refine lv_iconst (v := 2) hx hb dL_isGood_258 (by decide) ?_
                            obtain ⟨q300, hq300, hf⟩ := bnd hf
                            refine hcV_i hx hb hml hown hts hKs hT hb0 hH (As := [.int v2_136, .int 2]) (rest := [.int (q299.1), .int (q298.1), .int v2_136, rv E v0_136]) (k_NX12_hearing l E K H.size a281 v2_136 2 q299.2 ha281.2 hq300) (gV m6_187 m6_188 m6_189 m1_1 m6_190) hd_NX12_hearing ⟨Nat.le_of_ble_eq_true rfl, Nat.le_of_ble_eq_true rfl, rfl, rfl⟩ ha281.1 ha281.2 rfl rfl rfl hl.1 rfl (rcI (rcI (rcI (rcV rc0)))) rfl dL_isGood_259 ⟨Nat.le_of_ble_eq_true rfl, Nat.le_of_ble_eq_true rfl⟩ (fun H locs hH => ?_)
                            refine hl_aload_n hx hb dL_isGood_262 rfl (lv_at hl 0 rfl) ?_
                            refine lv_iload_n hx hb dL_isGood_263 rfl (lv_at hl 2 rfl) ?_
                            refine lv_iconst (v := 3) hx hb dL_isGood_264 (by decide) ?_
                            obtain ⟨q301, hq301, hf⟩ := bnd hf
                            refine hcV_i hx hb hml hown hts hKs hT hb0 hH (As := [.int v2_136, .int 3]) (rest := [.int (q300.1), .int (q299.1), .int (q298.1), .int v2_136, rv E v0_136]) (k_NX12_hearing l E K H.size a281 v2_136 3 q300.2 ha281.2 hq301) (gV m6_187 m6_188 m6_189 m1_1 m6_190) hd_NX12_hearing ⟨Nat.le_of_ble_eq_true rfl, Nat.le_of_ble_eq_true rfl, rfl, rfl⟩ ha281.1 ha281.2 rfl rfl rfl hl.1 rfl (rcI (rcI (rcI (rcI (rcV rc0))))) rfl dL_isGood_265 ⟨Nat.le_of_ble_eq_true rfl, Nat.le_of_ble_eq_true rfl⟩ (fun H locs hH => ?_)
                            obtain ⟨q302, hq302, hf⟩ := bnd hf
                            refine hcV_i hx hb hml hown hts hKs hT hb0 hH (As := [.int v2_136, .int (q298.1), .int (q299.1), .int (q300.1), .int (q301.1)]) (rest := []) (k_NX12_problem l E K H.size a281 v2_136 q298.1 q299.1 q300.1 q301.1 q301.2 ha281.2 hq302) (gV m6_213 m6_214 m6_215 m1_1 m6_216) hd_NX12_problem ⟨Nat.le_of_ble_eq_true rfl, Nat.le_of_ble_eq_true rfl, rfl, rfl⟩ ha281.1 ha281.2 rfl rfl rfl hl.1 rfl rc0 rfl dL_isGood_268 ⟨Nat.le_of_ble_eq_true rfl, Nat.le_of_ble_eq_true rfl⟩ (fun H locs hH => ?_)
                            refine lv_if_eq (tgt := 276) hx hb dL_isGood_271 (by decide) (fun c303 => ?_) (fun c303 => ?_)
                            · replace hf := (if_pos c303).symm.trans hf
                              refine lv_iinc (v := (v2_136 + 1)) (lv' := [(2, .int ((v2_136 + 1))), (0, rv E v0_136), (1, rv E v1_136), (3, .int v3_136), (4, .int v4_136), (5, .int v5_136)]) hx hb dL_isGood_276 hl (k := 2) rfl rfl (by decide) (by simp [List.filter_cons, cat_q, cat_i, cat_j, imax, imin]) (fun ls hl => ?_)
                              refine lv_goto (tgt := 39) hx hb dL_isGood_279 (by decide) ?_
                              exact ih v0_136 v1_136 (v2_136 + 1) _ _ _ _ hH (lv_sub hl [1, 2, 0] rfl) hf
                            · replace hf := (if_neg c303).symm.trans hf
                              refine lv_iconst (v := 0) hx hb dL_isGood_274 (by decide) ?_
                              exact hw_wretz hx hb (Nat.le_of_ble_eq_true rfl) (Nat.le_of_ble_eq_true rfl) hret rfl hf hH hlocks dL_isGood_275
                        · replace hf := (if_neg c296).symm.trans hf
                          refine lv_iconst (v := 0) hx hb dL_isGood_235 (by decide) ?_
                          exact hw_wretz hx hb (Nat.le_of_ble_eq_true rfl) (Nat.le_of_ble_eq_true rfl) hret rfl hf hH hlocks dL_isGood_236
                      · replace hf := (if_neg c285).symm.trans hf
                        refine lv_goto (tgt := 276) hx hb dL_isGood_189 (by decide) ?_
                        refine lv_iinc (v := (v2_136 + 1)) (lv' := [(2, .int ((v2_136 + 1))), (0, rv E v0_136), (1, rv E v1_136), (3, .int v3_136), (4, .int v4_136), (5, .int v5_136)]) hx hb dL_isGood_276 hl (k := 2) rfl rfl (by decide) (by simp [List.filter_cons, cat_q, cat_i, cat_j, imax, imin]) (fun ls hl => ?_)
                        refine lv_goto (tgt := 39) hx hb dL_isGood_279 (by decide) ?_
                        exact ih v0_136 v1_136 (v2_136 + 1) _ _ _ _ hH (lv_sub hl [1, 2, 0] rfl) hf
                    · replace hf := (if_neg c283).symm.trans hf
                      refine lv_iconst (v := 0) hx hb dL_isGood_178 (by decide) ?_
                      exact hw_wretz hx hb (Nat.le_of_ble_eq_true rfl) (Nat.le_of_ble_eq_true rfl) hret rfl hf hH hlocks dL_isGood_179
                  · replace hf := (if_neg c279).symm.trans hf
                    refine lv_iconst (v := 0) hx hb dL_isGood_128 (by decide) ?_
                    exact hw_wretz hx hb (Nat.le_of_ble_eq_true rfl) (Nat.le_of_ble_eq_true rfl) hret rfl hf hH hlocks dL_isGood_129
              · replace hf := (if_pos c250).symm.trans hf
                refine hl_aload_n hx hb dL_isGood_87 rfl (lv_at hl 1 rfl) ?_
                refine lv_iload_n hx hb dL_isGood_88 rfl (lv_at hl 3 rfl) ?_
                refine lv_iconst (v := 4) hx hb dL_isGood_89 (by decide) ?_
                obtain ⟨q304, hq304, hf⟩ := bnd hf
                refine hcV_i hx hb hml hown hts hKs hT hb0 hH (As := [.int v2_39, .int 4]) (rest := []) (k_NX12_matter l E K H.size a10 v2_39 4 q246.2 ha10.2 hq304) (gV m6_182 m6_183 m6_184 m1_1 m6_185) hd_NX12_matter ⟨Nat.le_of_ble_eq_true rfl, Nat.le_of_ble_eq_true rfl, rfl, rfl⟩ ha10.1 ha10.2 rfl rfl rfl hl.1 rfl rc0 rfl dL_isGood_90 ⟨Nat.le_of_ble_eq_true rfl, Nat.le_of_ble_eq_true rfl⟩ (fun H locs hH => ?_)
                refine hl_aload_n hx hb dL_isGood_93 rfl (lv_at hl 1 rfl) ?_
                refine lv_bipush (v := 7) hx hb dL_isGood_94 (by decide) ?_
                obtain ⟨q305, hq305, hf⟩ := bnd hf
                refine hcV_i hx hb hml hown hts hKs hT hb0 hH (As := [.int 7]) (rest := [.int (q304.1)]) (k_X12_count l E K H.size a10 7 q304.2 ha10.2 hq305) (gV m3_17 m3_18 m3_19 m1_1 m3_20) hd_X12_count ⟨Nat.le_of_ble_eq_true rfl, Nat.le_of_ble_eq_true rfl, rfl, rfl⟩ ha10.1 ha10.2 rfl rfl rfl hl.1 rfl (rcI rc0) rfl dL_isGood_96 ⟨Nat.le_of_ble_eq_true rfl, Nat.le_of_ble_eq_true rfl⟩ (fun H locs hH => ?_)
                refine lv_icmp_lt (tgt := 128) hx hb dL_isGood_99 (by decide) (fun c306 => ?_) (fun c306 => ?_)
                · replace hf := (if_pos c306).symm.trans hf
                  refine lv_iconst (v := 0) hx hb dL_isGood_128 (by decide) ?_
                  exact hw_wretz hx hb (Nat.le_of_ble_eq_true rfl) (Nat.le_of_ble_eq_true rfl) hret rfl hf hH hlocks dL_isGood_129
                · replace hf := (if_neg c306).symm.trans hf
                  refine hl_aload_n hx hb dL_isGood_102 rfl (lv_at hl 1 rfl) ?_
                  refine lv_iload_n hx hb dL_isGood_103 rfl (lv_at hl 3 rfl) ?_
                  refine lv_bipush (v := 6) hx hb dL_isGood_104 (by decide) ?_
                  obtain ⟨q307, hq307, hf⟩ := bnd hf
                  refine hcV_i hx hb hml hown hts hKs hT hb0 hH (As := [.int v2_39, .int 6]) (rest := []) (k_NX12_matter l E K H.size a10 v2_39 6 q305.2 ha10.2 hq307) (gV m6_182 m6_183 m6_184 m1_1 m6_185) hd_NX12_matter ⟨Nat.le_of_ble_eq_true rfl, Nat.le_of_ble_eq_true rfl, rfl, rfl⟩ ha10.1 ha10.2 rfl rfl rfl hl.1 rfl rc0 rfl dL_isGood_106 ⟨Nat.le_of_ble_eq_true rfl, Nat.le_of_ble_eq_true rfl⟩ (fun H locs hH => ?_)
                  refine lv_iconst (v := 1) hx hb dL_isGood_109 (by decide) ?_
                  refine lv_icmp_ne (tgt := 130) hx hb dL_isGood_110 (by decide) (fun c308 => ?_) (fun c308 => ?_)
                  · replace hf := (if_neg c308).symm.trans hf
                    refine lv_iconst (v := 0) hx hb dL_isGood_130 (by decide) ?_
                    refine lv_istore (i := 4) (lv' := [(4, .int 0), (3, .int (q11.1)), (0, rv E v0_39), (1, rv E v1_39), (2, .int v2_39)]) hx hb dL_isGood_131 hl (by decide) rfl (fun ls hl => ?_)
                    refine lv_iconst (v := 0) hx hb dL_isGood_133 (by decide) ?_
                    refine lv_istore (i := 5) (lv' := [(5, .int 0), (4, .int 0), (3, .int (q11.1)), (0, rv E v0_39), (1, rv E v1_39), (2, .int v2_39)]) hx hb dL_isGood_134 hl (by decide) rfl (fun ls hl => ?_)
                    refine l_L_isGood_L136  C _ (fun v0_136 v1_136 v2_136 v3_136 v4_136 v5_136 w309 H locs ls hH hl hf => ?_) fu v0_39 v1_39 v2_39 q11.1 0 0 q307.2 _ _ _ hH (lv_sub hl [3, 4, 5, 2, 1, 0] rfl) hf
                    refine lv_iload hx hb dL_isGood_167 (lv_at hl 4 rfl) ?_
                    refine hl_aload_n hx hb dL_isGood_169 rfl (lv_at hl 0 rfl) ?_
                    refine lv_iload_n hx hb dL_isGood_170 rfl (lv_at hl 2 rfl) ?_
                    refine lv_iconst (v := 3) hx hb dL_isGood_171 (by decide) ?_
                    obtain ⟨a310, ha310, hf⟩ := bnd hf
                    replace ha310 := chk_some ha310
                    obtain ⟨q311, hq311, hf⟩ := bnd hf
                    refine hcV_i hx hb hml hown hts hKs hT hb0 hH (As := [.int v2_136, .int 3]) (rest := [.int v4_136]) (k_NX12_matter l E K H.size a310 v2_136 3 w309 ha310.2 hq311) (gV m6_182 m6_183 m6_184 m1_1 m6_185) hd_NX12_matter ⟨Nat.le_of_ble_eq_true rfl, Nat.le_of_ble_eq_true rfl, rfl, rfl⟩ ha310.1 ha310.2 rfl rfl rfl hl.1 rfl (rcI rc0) rfl dL_isGood_172 ⟨Nat.le_of_ble_eq_true rfl, Nat.le_of_ble_eq_true rfl⟩ (fun H locs hH => ?_)
                    refine lv_icmp_eq (tgt := 180) hx hb dL_isGood_175 (by decide) (fun c312 => ?_) (fun c312 => ?_)
                    · replace hf := (if_pos c312).symm.trans hf
                      refine hl_aload_n hx hb dL_isGood_180 rfl (lv_at hl 0 rfl) ?_
                      refine lv_iload_n hx hb dL_isGood_181 rfl (lv_at hl 2 rfl) ?_
                      refine lv_iconst (v := 0) hx hb dL_isGood_182 (by decide) ?_
                      obtain ⟨q313, hq313, hf⟩ := bnd hf
                      refine hcV_i hx hb hml hown hts hKs hT hb0 hH (As := [.int v2_136, .int 0]) (rest := []) (k_NX12_hearing l E K H.size a310 v2_136 0 q311.2 ha310.2 hq313) (gV m6_187 m6_188 m6_189 m1_1 m6_190) hd_NX12_hearing ⟨Nat.le_of_ble_eq_true rfl, Nat.le_of_ble_eq_true rfl, rfl, rfl⟩ ha310.1 ha310.2 rfl rfl rfl hl.1 rfl rc0 rfl dL_isGood_183 ⟨Nat.le_of_ble_eq_true rfl, Nat.le_of_ble_eq_true rfl⟩ (fun H locs hH => ?_)
                      refine lv_if_ge (tgt := 192) hx hb dL_isGood_186 (by decide) (fun c314 => ?_) (fun c314 => ?_)
                      · replace hf := (if_pos c314).symm.trans hf
                        refine hl_aload_n hx hb dL_isGood_192 rfl (lv_at hl 1 rfl) ?_
                        refine hl_aload_n hx hb dL_isGood_193 rfl (lv_at hl 0 rfl) ?_
                        refine lv_iload_n hx hb dL_isGood_194 rfl (lv_at hl 2 rfl) ?_
                        refine lv_iconst (v := 3) hx hb dL_isGood_195 (by decide) ?_
                        obtain ⟨q315, hq315, hf⟩ := bnd hf
                        refine hcV_i hx hb hml hown hts hKs hT hb0 hH (As := [.int v2_136, .int 3]) (rest := [rv E v1_136]) (k_NX12_hearing l E K H.size a310 v2_136 3 q313.2 ha310.2 hq315) (gV m6_187 m6_188 m6_189 m1_1 m6_190) hd_NX12_hearing ⟨Nat.le_of_ble_eq_true rfl, Nat.le_of_ble_eq_true rfl, rfl, rfl⟩ ha310.1 ha310.2 rfl rfl rfl hl.1 rfl (rcV rc0) rfl dL_isGood_196 ⟨Nat.le_of_ble_eq_true rfl, Nat.le_of_ble_eq_true rfl⟩ (fun H locs hH => ?_)
                        refine lv_dup2_11 hx hb dL_isGood_199 rfl rv_cat ?_
                        obtain ⟨a316, ha316, hf⟩ := bnd hf
                        replace ha316 := cha_some ha316
                        obtain ⟨j317, hj317, hf⟩ := bnd hf
                        refine hw_iald hx hb hKs hH ha316.1 ha316.2 hj317 dL_isGood_200 ?_
                        refine hl_aload_n hx hb dL_isGood_201 rfl (lv_at hl 0 rfl) ?_
                        refine lv_iload_n hx hb dL_isGood_202 rfl (lv_at hl 2 rfl) ?_
                        refine lv_iconst (v := 1) hx hb dL_isGood_203 (by decide) ?_
                        obtain ⟨q318, hq318, hf⟩ := bnd hf
                        refine hcV_i hx hb hml hown hts hKs hT hb0 hH (As := [.int v2_136, .int 1]) (rest := [.int ((aI q315.2 a316.1 j317)), .int (q315.1), rv E v1_136]) (k_NX12_matter l E K H.size a310 v2_136 1 q315.2 ha310.2 hq318) (gV m6_182 m6_183 m6_184 m1_1 m6_185) hd_NX12_matter ⟨Nat.le_of_ble_eq_true rfl, Nat.le_of_ble_eq_true rfl, rfl, rfl⟩ ha310.1 ha310.2 rfl rfl rfl hl.1 rfl (rcI (rcI (rcV rc0))) rfl dL_isGood_204 ⟨Nat.le_of_ble_eq_true rfl, Nat.le_of_ble_eq_true rfl⟩ (fun H locs hH => ?_)
                        refine lv_iadd hx hb dL_isGood_207 ?_
                        obtain ⟨j319, hj319, hf⟩ := bnd hf
                        obtain ⟨w320, hw320, hf⟩ := bnd hf
                        replace hw320 := Option.some.inj hw320
                        refine hw_iast (x := ((aI q315.2 a316.1 j317) + q318.1)) hx hb hKs hH ha316.1 ha316.2 hj319 dL_isGood_208 (fun H locs hH => ?_)
                        rw [hw320] at hH
                        refine hl_aload_n hx hb dL_isGood_209 rfl (lv_at hl 0 rfl) ?_
                        refine hl_aload_n hx hb dL_isGood_210 rfl (lv_at hl 0 rfl) ?_
                        refine lv_iload_n hx hb dL_isGood_211 rfl (lv_at hl 2 rfl) ?_
                        refine lv_iconst (v := 2) hx hb dL_isGood_212 (by decide) ?_
                        obtain ⟨q321, hq321, hf⟩ := bnd hf
                        refine hcV_i hx hb hml hown hts hKs hT hb0 hH (As := [.int v2_136, .int 2]) (rest := [rv E v0_136]) (k_NX12_hearing l E K H.size a310 v2_136 2 w320 ha310.2 hq321) (gV m6_187 m6_188 m6_189 m1_1 m6_190) hd_NX12_hearing ⟨Nat.le_of_ble_eq_true rfl, Nat.le_of_ble_eq_true rfl, rfl, rfl⟩ ha310.1 ha310.2 rfl rfl rfl hl.1 rfl (rcV rc0) rfl dL_isGood_213 ⟨Nat.le_of_ble_eq_true rfl, Nat.le_of_ble_eq_true rfl⟩ (fun H locs hH => ?_)
                        refine hl_aload_n hx hb dL_isGood_216 rfl (lv_at hl 0 rfl) ?_
                        refine lv_iload_n hx hb dL_isGood_217 rfl (lv_at hl 2 rfl) ?_
                        refine lv_iconst (v := 0) hx hb dL_isGood_218 (by decide) ?_
                        obtain ⟨q322, hq322, hf⟩ := bnd hf
                        refine hcV_i hx hb hml hown hts hKs hT hb0 hH (As := [.int v2_136, .int 0]) (rest := [.int (q321.1), rv E v0_136]) (k_NX12_hearing l E K H.size a310 v2_136 0 q321.2 ha310.2 hq322) (gV m6_187 m6_188 m6_189 m1_1 m6_190) hd_NX12_hearing ⟨Nat.le_of_ble_eq_true rfl, Nat.le_of_ble_eq_true rfl, rfl, rfl⟩ ha310.1 ha310.2 rfl rfl rfl hl.1 rfl (rcI (rcV rc0)) rfl dL_isGood_219 ⟨Nat.le_of_ble_eq_true rfl, Nat.le_of_ble_eq_true rfl⟩ (fun H locs hH => ?_)
                        refine hl_aload_n hx hb dL_isGood_222 rfl (lv_at hl 0 rfl) ?_
                        refine lv_iload_n hx hb dL_isGood_223 rfl (lv_at hl 2 rfl) ?_
                        refine lv_iconst (v := 1) hx hb dL_isGood_224 (by decide) ?_
                        obtain ⟨q323, hq323, hf⟩ := bnd hf
                        refine hcV_i hx hb hml hown hts hKs hT hb0 hH (As := [.int v2_136, .int 1]) (rest := [.int (q322.1), .int (q321.1), rv E v0_136]) (k_NX12_hearing l E K H.size a310 v2_136 1 q322.2 ha310.2 hq323) (gV m6_187 m6_188 m6_189 m1_1 m6_190) hd_NX12_hearing ⟨Nat.le_of_ble_eq_true rfl, Nat.le_of_ble_eq_true rfl, rfl, rfl⟩ ha310.1 ha310.2 rfl rfl rfl hl.1 rfl (rcI (rcI (rcV rc0))) rfl dL_isGood_225 ⟨Nat.le_of_ble_eq_true rfl, Nat.le_of_ble_eq_true rfl⟩ (fun H locs hH => ?_)
                        obtain ⟨q324, hq324, hf⟩ := bnd hf
                        refine hcV_i hx hb hml hown hts hKs hT hb0 hH (As := [.int (q321.1), .int (q322.1), .int (q323.1)]) (rest := []) (k_NX12_caseAt l E K H.size a310 q321.1 q322.1 q323.1 q323.2 ha310.2 hq324) (gV m6_195 m6_196 m6_197 m1_1 m6_198) hd_NX12_caseAt ⟨Nat.le_of_ble_eq_true rfl, Nat.le_of_ble_eq_true rfl, rfl, rfl⟩ ha310.1 ha310.2 rfl rfl rfl hl.1 rfl rc0 rfl dL_isGood_228 ⟨Nat.le_of_ble_eq_true rfl, Nat.le_of_ble_eq_true rfl⟩ (fun H locs hH => ?_)
                        refine lv_iload_n hx hb dL_isGood_231 rfl (lv_at hl 2 rfl) ?_
                        refine lv_icmp_eq (tgt := 237) hx hb dL_isGood_232 (by decide) (fun c325 => ?_) (fun c325 => ?_)
                        · replace hf := (if_pos c325).symm.trans hf
                          refine lv_iload_n hx hb dL_isGood_237 rfl (lv_at hl 3 rfl) ?_
                          refine lv_iconst (v := 1) hx hb dL_isGood_238 (by decide) ?_
                          refine lv_icmp_ne (tgt := 276) hx hb dL_isGood_239 (by decide) (fun c326 => ?_) (fun c326 => ?_)
                          · replace hf := (if_neg c326).symm.trans hf
                            refine lv_iinc (v := (v2_136 + 1)) (lv' := [(2, .int ((v2_136 + 1))), (0, rv E v0_136), (1, rv E v1_136), (3, .int v3_136), (4, .int v4_136), (5, .int v5_136)]) hx hb dL_isGood_276 hl (k := 2) rfl rfl (by decide) (by simp [List.filter_cons, cat_q, cat_i, cat_j, imax, imin]) (fun ls hl => ?_)
                            refine lv_goto (tgt := 39) hx hb dL_isGood_279 (by decide) ?_
                            exact ih v0_136 v1_136 (v2_136 + 1) _ _ _ _ hH (lv_sub hl [1, 2, 0] rfl) hf
                          · replace hf := (if_pos c326).symm.trans hf
                            refine hl_aload_n hx hb dL_isGood_242 rfl (lv_at hl 0 rfl) ?_
                            refine lv_iload_n hx hb dL_isGood_243 rfl (lv_at hl 2 rfl) ?_
                            refine hl_aload_n hx hb dL_isGood_244 rfl (lv_at hl 0 rfl) ?_
                            refine lv_iload_n hx hb dL_isGood_245 rfl (lv_at hl 2 rfl) ?_
                            refine lv_iconst (v := 0) hx hb dL_isGood_246 (by decide) ?_
                            obtain ⟨q327, hq327, hf⟩ := bnd hf
                            refine hcV_i hx hb hml hown hts hKs hT hb0 hH (As := [.int v2_136, .int 0]) (rest := [.int v2_136, rv E v0_136]) (k_NX12_hearing l E K H.size a310 v2_136 0 q324.2 ha310.2 hq327) (gV m6_187 m6_188 m6_189 m1_1 m6_190) hd_NX12_hearing ⟨Nat.le_of_ble_eq_true rfl, Nat.le_of_ble_eq_true rfl, rfl, rfl⟩ ha310.1 ha310.2 rfl rfl rfl hl.1 rfl (rcI (rcV rc0)) rfl dL_isGood_247 ⟨Nat.le_of_ble_eq_true rfl, Nat.le_of_ble_eq_true rfl⟩ (fun H locs hH => ?_)
                            refine hl_aload_n hx hb dL_isGood_250 rfl (lv_at hl 0 rfl) ?_
                            refine lv_iload_n hx hb dL_isGood_251 rfl (lv_at hl 2 rfl) ?_
                            refine lv_iconst (v := 1) hx hb dL_isGood_252 (by decide) ?_
                            obtain ⟨q328, hq328, hf⟩ := bnd hf
                            refine hcV_i hx hb hml hown hts hKs hT hb0 hH (As := [.int v2_136, .int 1]) (rest := [.int (q327.1), .int v2_136, rv E v0_136]) (k_NX12_hearing l E K H.size a310 v2_136 1 q327.2 ha310.2 hq328) (gV m6_187 m6_188 m6_189 m1_1 m6_190) hd_NX12_hearing ⟨Nat.le_of_ble_eq_true rfl, Nat.le_of_ble_eq_true rfl, rfl, rfl⟩ ha310.1 ha310.2 rfl rfl rfl hl.1 rfl (rcI (rcI (rcV rc0))) rfl dL_isGood_253 ⟨Nat.le_of_ble_eq_true rfl, Nat.le_of_ble_eq_true rfl⟩ (fun H locs hH => ?_)
                            refine hl_aload_n hx hb dL_isGood_256 rfl (lv_at hl 0 rfl) ?_
                            refine lv_iload_n hx hb dL_isGood_257 rfl (lv_at hl 2 rfl) ?_
                            refine lv_iconst (v := 2) hx hb dL_isGood_258 (by decide) ?_
                            obtain ⟨q329, hq329, hf⟩ := bnd hf
                            refine hcV_i hx hb hml hown hts hKs hT hb0 hH (As := [.int v2_136, .int 2]) (rest := [.int (q328.1), .int (q327.1), .int v2_136, rv E v0_136]) (k_NX12_hearing l E K H.size a310 v2_136 2 q328.2 ha310.2 hq329) (gV m6_187 m6_188 m6_189 m1_1 m6_190) hd_NX12_hearing ⟨Nat.le_of_ble_eq_true rfl, Nat.le_of_ble_eq_true rfl, rfl, rfl⟩ ha310.1 ha310.2 rfl rfl rfl hl.1 rfl (rcI (rcI (rcI (rcV rc0)))) rfl dL_isGood_259 ⟨Nat.le_of_ble_eq_true rfl, Nat.le_of_ble_eq_true rfl⟩ (fun H locs hH => ?_)
                            refine hl_aload_n hx hb dL_isGood_262 rfl (lv_at hl 0 rfl) ?_
                            refine lv_iload_n hx hb dL_isGood_263 rfl (lv_at hl 2 rfl) ?_
                            refine lv_iconst (v := 3) hx hb dL_isGood_264 (by decide) ?_
                            obtain ⟨q330, hq330, hf⟩ := bnd hf
                            refine hcV_i hx hb hml hown hts hKs hT hb0 hH (As := [.int v2_136, .int 3]) (rest := [.int (q329.1), .int (q328.1), .int (q327.1), .int v2_136, rv E v0_136]) (k_NX12_hearing l E K H.size a310 v2_136 3 q329.2 ha310.2 hq330) (gV m6_187 m6_188 m6_189 m1_1 m6_190) hd_NX12_hearing ⟨Nat.le_of_ble_eq_true rfl, Nat.le_of_ble_eq_true rfl, rfl, rfl⟩ ha310.1 ha310.2 rfl rfl rfl hl.1 rfl (rcI (rcI (rcI (rcI (rcV rc0))))) rfl dL_isGood_265 ⟨Nat.le_of_ble_eq_true rfl, Nat.le_of_ble_eq_true rfl⟩ (fun H locs hH => ?_)
                            obtain ⟨q331, hq331, hf⟩ := bnd hf
                            refine hcV_i hx hb hml hown hts hKs hT hb0 hH (As := [.int v2_136, .int (q327.1), .int (q328.1), .int (q329.1), .int (q330.1)]) (rest := []) (k_NX12_problem l E K H.size a310 v2_136 q327.1 q328.1 q329.1 q330.1 q330.2 ha310.2 hq331) (gV m6_213 m6_214 m6_215 m1_1 m6_216) hd_NX12_problem ⟨Nat.le_of_ble_eq_true rfl, Nat.le_of_ble_eq_true rfl, rfl, rfl⟩ ha310.1 ha310.2 rfl rfl rfl hl.1 rfl rc0 rfl dL_isGood_268 ⟨Nat.le_of_ble_eq_true rfl, Nat.le_of_ble_eq_true rfl⟩ (fun H locs hH => ?_)
                            refine lv_if_eq (tgt := 276) hx hb dL_isGood_271 (by decide) (fun c332 => ?_) (fun c332 => ?_)
                            · replace hf := (if_pos c332).symm.trans hf
                              refine lv_iinc (v := (v2_136 + 1)) (lv' := [(2, .int ((v2_136 + 1))), (0, rv E v0_136), (1, rv E v1_136), (3, .int v3_136), (4, .int v4_136), (5, .int v5_136)]) hx hb dL_isGood_276 hl (k := 2) rfl rfl (by decide) (by simp [List.filter_cons, cat_q, cat_i, cat_j, imax, imin]) (fun ls hl => ?_)
                              refine lv_goto (tgt := 39) hx hb dL_isGood_279 (by decide) ?_
                              exact ih v0_136 v1_136 (v2_136 + 1) _ _ _ _ hH (lv_sub hl [1, 2, 0] rfl) hf
                            · replace hf := (if_neg c332).symm.trans hf
                              refine lv_iconst (v := 0) hx hb dL_isGood_274 (by decide) ?_
                              exact hw_wretz hx hb (Nat.le_of_ble_eq_true rfl) (Nat.le_of_ble_eq_true rfl) hret rfl hf hH hlocks dL_isGood_275
                        · replace hf := (if_neg c325).symm.trans hf
                          refine lv_iconst (v := 0) hx hb dL_isGood_235 (by decide) ?_
                          exact hw_wretz hx hb (Nat.le_of_ble_eq_true rfl) (Nat.le_of_ble_eq_true rfl) hret rfl hf hH hlocks dL_isGood_236
                      · replace hf := (if_neg c314).symm.trans hf
                        refine lv_goto (tgt := 276) hx hb dL_isGood_189 (by decide) ?_
                        refine lv_iinc (v := (v2_136 + 1)) (lv' := [(2, .int ((v2_136 + 1))), (0, rv E v0_136), (1, rv E v1_136), (3, .int v3_136), (4, .int v4_136), (5, .int v5_136)]) hx hb dL_isGood_276 hl (k := 2) rfl rfl (by decide) (by simp [List.filter_cons, cat_q, cat_i, cat_j, imax, imin]) (fun ls hl => ?_)
                        refine lv_goto (tgt := 39) hx hb dL_isGood_279 (by decide) ?_
                        exact ih v0_136 v1_136 (v2_136 + 1) _ _ _ _ hH (lv_sub hl [1, 2, 0] rfl) hf
                    · replace hf := (if_neg c312).symm.trans hf
                      refine lv_iconst (v := 0) hx hb dL_isGood_178 (by decide) ?_
                      exact hw_wretz hx hb (Nat.le_of_ble_eq_true rfl) (Nat.le_of_ble_eq_true rfl) hret rfl hf hH hlocks dL_isGood_179
                  · replace hf := (if_pos c308).symm.trans hf
                    refine hl_aload_n hx hb dL_isGood_113 rfl (lv_at hl 1 rfl) ?_
                    refine lv_iload_n hx hb dL_isGood_114 rfl (lv_at hl 3 rfl) ?_
                    refine lv_iconst (v := 3) hx hb dL_isGood_115 (by decide) ?_
                    obtain ⟨q333, hq333, hf⟩ := bnd hf
                    refine hcV_i hx hb hml hown hts hKs hT hb0 hH (As := [.int v2_39, .int 3]) (rest := []) (k_NX12_matter l E K H.size a10 v2_39 3 q307.2 ha10.2 hq333) (gV m6_182 m6_183 m6_184 m1_1 m6_185) hd_NX12_matter ⟨Nat.le_of_ble_eq_true rfl, Nat.le_of_ble_eq_true rfl, rfl, rfl⟩ ha10.1 ha10.2 rfl rfl rfl hl.1 rfl rc0 rfl dL_isGood_116 ⟨Nat.le_of_ble_eq_true rfl, Nat.le_of_ble_eq_true rfl⟩ (fun H locs hH => ?_)
                    refine hl_aload_n hx hb dL_isGood_119 rfl (lv_at hl 1 rfl) ?_
                    refine lv_bipush (v := 8) hx hb dL_isGood_120 (by decide) ?_
                    obtain ⟨q334, hq334, hf⟩ := bnd hf
                    refine hcV_i hx hb hml hown hts hKs hT hb0 hH (As := [.int 8]) (rest := [.int (q333.1)]) (k_X12_count l E K H.size a10 8 q333.2 ha10.2 hq334) (gV m3_17 m3_18 m3_19 m1_1 m3_20) hd_X12_count ⟨Nat.le_of_ble_eq_true rfl, Nat.le_of_ble_eq_true rfl, rfl, rfl⟩ ha10.1 ha10.2 rfl rfl rfl hl.1 rfl (rcI rc0) rfl dL_isGood_122 ⟨Nat.le_of_ble_eq_true rfl, Nat.le_of_ble_eq_true rfl⟩ (fun H locs hH => ?_)
                    refine lv_icmp_le (tgt := 130) hx hb dL_isGood_125 (by decide) (fun c335 => ?_) (fun c335 => ?_)
                    · replace hf := (if_pos c335).symm.trans hf
                      refine lv_iconst (v := 0) hx hb dL_isGood_130 (by decide) ?_
                      refine lv_istore (i := 4) (lv' := [(4, .int 0), (3, .int (q11.1)), (0, rv E v0_39), (1, rv E v1_39), (2, .int v2_39)]) hx hb dL_isGood_131 hl (by decide) rfl (fun ls hl => ?_)
                      refine lv_iconst (v := 0) hx hb dL_isGood_133 (by decide) ?_
                      refine lv_istore (i := 5) (lv' := [(5, .int 0), (4, .int 0), (3, .int (q11.1)), (0, rv E v0_39), (1, rv E v1_39), (2, .int v2_39)]) hx hb dL_isGood_134 hl (by decide) rfl (fun ls hl => ?_)
                      refine l_L_isGood_L136  C _ (fun v0_136 v1_136 v2_136 v3_136 v4_136 v5_136 w336 H locs ls hH hl hf => ?_) fu v0_39 v1_39 v2_39 q11.1 0 0 q334.2 _ _ _ hH (lv_sub hl [3, 4, 5, 2, 1, 0] rfl) hf
                      refine lv_iload hx hb dL_isGood_167 (lv_at hl 4 rfl) ?_
                      refine hl_aload_n hx hb dL_isGood_169 rfl (lv_at hl 0 rfl) ?_
                      refine lv_iload_n hx hb dL_isGood_170 rfl (lv_at hl 2 rfl) ?_
                      refine lv_iconst (v := 3) hx hb dL_isGood_171 (by decide) ?_
                      obtain ⟨a337, ha337, hf⟩ := bnd hf
                      replace ha337 := chk_some ha337
                      obtain ⟨q338, hq338, hf⟩ := bnd hf
                      refine hcV_i hx hb hml hown hts hKs hT hb0 hH (As := [.int v2_136, .int 3]) (rest := [.int v4_136]) (k_NX12_matter l E K H.size a337 v2_136 3 w336 ha337.2 hq338) (gV m6_182 m6_183 m6_184 m1_1 m6_185) hd_NX12_matter ⟨Nat.le_of_ble_eq_true rfl, Nat.le_of_ble_eq_true rfl, rfl, rfl⟩ ha337.1 ha337.2 rfl rfl rfl hl.1 rfl (rcI rc0) rfl dL_isGood_172 ⟨Nat.le_of_ble_eq_true rfl, Nat.le_of_ble_eq_true rfl⟩ (fun H locs hH => ?_)
                      refine lv_icmp_eq (tgt := 180) hx hb dL_isGood_175 (by decide) (fun c339 => ?_) (fun c339 => ?_)
                      · replace hf := (if_pos c339).symm.trans hf
                        refine hl_aload_n hx hb dL_isGood_180 rfl (lv_at hl 0 rfl) ?_
                        refine lv_iload_n hx hb dL_isGood_181 rfl (lv_at hl 2 rfl) ?_
                        refine lv_iconst (v := 0) hx hb dL_isGood_182 (by decide) ?_
                        obtain ⟨q340, hq340, hf⟩ := bnd hf
                        refine hcV_i hx hb hml hown hts hKs hT hb0 hH (As := [.int v2_136, .int 0]) (rest := []) (k_NX12_hearing l E K H.size a337 v2_136 0 q338.2 ha337.2 hq340) (gV m6_187 m6_188 m6_189 m1_1 m6_190) hd_NX12_hearing ⟨Nat.le_of_ble_eq_true rfl, Nat.le_of_ble_eq_true rfl, rfl, rfl⟩ ha337.1 ha337.2 rfl rfl rfl hl.1 rfl rc0 rfl dL_isGood_183 ⟨Nat.le_of_ble_eq_true rfl, Nat.le_of_ble_eq_true rfl⟩ (fun H locs hH => ?_)
                        refine lv_if_ge (tgt := 192) hx hb dL_isGood_186 (by decide) (fun c341 => ?_) (fun c341 => ?_)
                        · replace hf := (if_pos c341).symm.trans hf
                          refine hl_aload_n hx hb dL_isGood_192 rfl (lv_at hl 1 rfl) ?_
                          refine hl_aload_n hx hb dL_isGood_193 rfl (lv_at hl 0 rfl) ?_
                          refine lv_iload_n hx hb dL_isGood_194 rfl (lv_at hl 2 rfl) ?_
                          refine lv_iconst (v := 3) hx hb dL_isGood_195 (by decide) ?_
                          obtain ⟨q342, hq342, hf⟩ := bnd hf
                          refine hcV_i hx hb hml hown hts hKs hT hb0 hH (As := [.int v2_136, .int 3]) (rest := [rv E v1_136]) (k_NX12_hearing l E K H.size a337 v2_136 3 q340.2 ha337.2 hq342) (gV m6_187 m6_188 m6_189 m1_1 m6_190) hd_NX12_hearing ⟨Nat.le_of_ble_eq_true rfl, Nat.le_of_ble_eq_true rfl, rfl, rfl⟩ ha337.1 ha337.2 rfl rfl rfl hl.1 rfl (rcV rc0) rfl dL_isGood_196 ⟨Nat.le_of_ble_eq_true rfl, Nat.le_of_ble_eq_true rfl⟩ (fun H locs hH => ?_)
                          refine lv_dup2_11 hx hb dL_isGood_199 rfl rv_cat ?_
                          obtain ⟨a343, ha343, hf⟩ := bnd hf
                          replace ha343 := cha_some ha343
                          obtain ⟨j344, hj344, hf⟩ := bnd hf
                          refine hw_iald hx hb hKs hH ha343.1 ha343.2 hj344 dL_isGood_200 ?_
                          refine hl_aload_n hx hb dL_isGood_201 rfl (lv_at hl 0 rfl) ?_
                          refine lv_iload_n hx hb dL_isGood_202 rfl (lv_at hl 2 rfl) ?_
                          refine lv_iconst (v := 1) hx hb dL_isGood_203 (by decide) ?_
                          obtain ⟨q345, hq345, hf⟩ := bnd hf
                          refine hcV_i hx hb hml hown hts hKs hT hb0 hH (As := [.int v2_136, .int 1]) (rest := [.int ((aI q342.2 a343.1 j344)), .int (q342.1), rv E v1_136]) (k_NX12_matter l E K H.size a337 v2_136 1 q342.2 ha337.2 hq345) (gV m6_182 m6_183 m6_184 m1_1 m6_185) hd_NX12_matter ⟨Nat.le_of_ble_eq_true rfl, Nat.le_of_ble_eq_true rfl, rfl, rfl⟩ ha337.1 ha337.2 rfl rfl rfl hl.1 rfl (rcI (rcI (rcV rc0))) rfl dL_isGood_204 ⟨Nat.le_of_ble_eq_true rfl, Nat.le_of_ble_eq_true rfl⟩ (fun H locs hH => ?_)
                          refine lv_iadd hx hb dL_isGood_207 ?_
                          obtain ⟨j346, hj346, hf⟩ := bnd hf
                          obtain ⟨w347, hw347, hf⟩ := bnd hf
                          replace hw347 := Option.some.inj hw347
                          refine hw_iast (x := ((aI q342.2 a343.1 j344) + q345.1)) hx hb hKs hH ha343.1 ha343.2 hj346 dL_isGood_208 (fun H locs hH => ?_)
                          rw [hw347] at hH
                          refine hl_aload_n hx hb dL_isGood_209 rfl (lv_at hl 0 rfl) ?_
                          refine hl_aload_n hx hb dL_isGood_210 rfl (lv_at hl 0 rfl) ?_
                          refine lv_iload_n hx hb dL_isGood_211 rfl (lv_at hl 2 rfl) ?_
                          refine lv_iconst (v := 2) hx hb dL_isGood_212 (by decide) ?_
                          obtain ⟨q348, hq348, hf⟩ := bnd hf
                          refine hcV_i hx hb hml hown hts hKs hT hb0 hH (As := [.int v2_136, .int 2]) (rest := [rv E v0_136]) (k_NX12_hearing l E K H.size a337 v2_136 2 w347 ha337.2 hq348) (gV m6_187 m6_188 m6_189 m1_1 m6_190) hd_NX12_hearing ⟨Nat.le_of_ble_eq_true rfl, Nat.le_of_ble_eq_true rfl, rfl, rfl⟩ ha337.1 ha337.2 rfl rfl rfl hl.1 rfl (rcV rc0) rfl dL_isGood_213 ⟨Nat.le_of_ble_eq_true rfl, Nat.le_of_ble_eq_true rfl⟩ (fun H locs hH => ?_)
                          refine hl_aload_n hx hb dL_isGood_216 rfl (lv_at hl 0 rfl) ?_
                          refine lv_iload_n hx hb dL_isGood_217 rfl (lv_at hl 2 rfl) ?_
                          refine lv_iconst (v := 0) hx hb dL_isGood_218 (by decide) ?_
                          obtain ⟨q349, hq349, hf⟩ := bnd hf
                          refine hcV_i hx hb hml hown hts hKs hT hb0 hH (As := [.int v2_136, .int 0]) (rest := [.int (q348.1), rv E v0_136]) (k_NX12_hearing l E K H.size a337 v2_136 0 q348.2 ha337.2 hq349) (gV m6_187 m6_188 m6_189 m1_1 m6_190) hd_NX12_hearing ⟨Nat.le_of_ble_eq_true rfl, Nat.le_of_ble_eq_true rfl, rfl, rfl⟩ ha337.1 ha337.2 rfl rfl rfl hl.1 rfl (rcI (rcV rc0)) rfl dL_isGood_219 ⟨Nat.le_of_ble_eq_true rfl, Nat.le_of_ble_eq_true rfl⟩ (fun H locs hH => ?_)
                          refine hl_aload_n hx hb dL_isGood_222 rfl (lv_at hl 0 rfl) ?_
                          refine lv_iload_n hx hb dL_isGood_223 rfl (lv_at hl 2 rfl) ?_
                          refine lv_iconst (v := 1) hx hb dL_isGood_224 (by decide) ?_
                          obtain ⟨q350, hq350, hf⟩ := bnd hf
                          refine hcV_i hx hb hml hown hts hKs hT hb0 hH (As := [.int v2_136, .int 1]) (rest := [.int (q349.1), .int (q348.1), rv E v0_136]) (k_NX12_hearing l E K H.size a337 v2_136 1 q349.2 ha337.2 hq350) (gV m6_187 m6_188 m6_189 m1_1 m6_190) hd_NX12_hearing ⟨Nat.le_of_ble_eq_true rfl, Nat.le_of_ble_eq_true rfl, rfl, rfl⟩ ha337.1 ha337.2 rfl rfl rfl hl.1 rfl (rcI (rcI (rcV rc0))) rfl dL_isGood_225 ⟨Nat.le_of_ble_eq_true rfl, Nat.le_of_ble_eq_true rfl⟩ (fun H locs hH => ?_)
                          obtain ⟨q351, hq351, hf⟩ := bnd hf
                          refine hcV_i hx hb hml hown hts hKs hT hb0 hH (As := [.int (q348.1), .int (q349.1), .int (q350.1)]) (rest := []) (k_NX12_caseAt l E K H.size a337 q348.1 q349.1 q350.1 q350.2 ha337.2 hq351) (gV m6_195 m6_196 m6_197 m1_1 m6_198) hd_NX12_caseAt ⟨Nat.le_of_ble_eq_true rfl, Nat.le_of_ble_eq_true rfl, rfl, rfl⟩ ha337.1 ha337.2 rfl rfl rfl hl.1 rfl rc0 rfl dL_isGood_228 ⟨Nat.le_of_ble_eq_true rfl, Nat.le_of_ble_eq_true rfl⟩ (fun H locs hH => ?_)
                          refine lv_iload_n hx hb dL_isGood_231 rfl (lv_at hl 2 rfl) ?_
                          refine lv_icmp_eq (tgt := 237) hx hb dL_isGood_232 (by decide) (fun c352 => ?_) (fun c352 => ?_)
                          · replace hf := (if_pos c352).symm.trans hf
                            refine lv_iload_n hx hb dL_isGood_237 rfl (lv_at hl 3 rfl) ?_
                            refine lv_iconst (v := 1) hx hb dL_isGood_238 (by decide) ?_
                            refine lv_icmp_ne (tgt := 276) hx hb dL_isGood_239 (by decide) (fun c353 => ?_) (fun c353 => ?_)
                            · replace hf := (if_neg c353).symm.trans hf
                              refine lv_iinc (v := (v2_136 + 1)) (lv' := [(2, .int ((v2_136 + 1))), (0, rv E v0_136), (1, rv E v1_136), (3, .int v3_136), (4, .int v4_136), (5, .int v5_136)]) hx hb dL_isGood_276 hl (k := 2) rfl rfl (by decide) (by simp [List.filter_cons, cat_q, cat_i, cat_j, imax, imin]) (fun ls hl => ?_)
                              refine lv_goto (tgt := 39) hx hb dL_isGood_279 (by decide) ?_
                              exact ih v0_136 v1_136 (v2_136 + 1) _ _ _ _ hH (lv_sub hl [1, 2, 0] rfl) hf
                            · replace hf := (if_pos c353).symm.trans hf
                              refine hl_aload_n hx hb dL_isGood_242 rfl (lv_at hl 0 rfl) ?_
                              refine lv_iload_n hx hb dL_isGood_243 rfl (lv_at hl 2 rfl) ?_
                              refine hl_aload_n hx hb dL_isGood_244 rfl (lv_at hl 0 rfl) ?_
                              refine lv_iload_n hx hb dL_isGood_245 rfl (lv_at hl 2 rfl) ?_
                              refine lv_iconst (v := 0) hx hb dL_isGood_246 (by decide) ?_
                              obtain ⟨q354, hq354, hf⟩ := bnd hf
                              refine hcV_i hx hb hml hown hts hKs hT hb0 hH (As := [.int v2_136, .int 0]) (rest := [.int v2_136, rv E v0_136]) (k_NX12_hearing l E K H.size a337 v2_136 0 q351.2 ha337.2 hq354) (gV m6_187 m6_188 m6_189 m1_1 m6_190) hd_NX12_hearing ⟨Nat.le_of_ble_eq_true rfl, Nat.le_of_ble_eq_true rfl, rfl, rfl⟩ ha337.1 ha337.2 rfl rfl rfl hl.1 rfl (rcI (rcV rc0)) rfl dL_isGood_247 ⟨Nat.le_of_ble_eq_true rfl, Nat.le_of_ble_eq_true rfl⟩ (fun H locs hH => ?_)
                              refine hl_aload_n hx hb dL_isGood_250 rfl (lv_at hl 0 rfl) ?_
                              refine lv_iload_n hx hb dL_isGood_251 rfl (lv_at hl 2 rfl) ?_
                              refine lv_iconst (v := 1) hx hb dL_isGood_252 (by decide) ?_
                              obtain ⟨q355, hq355, hf⟩ := bnd hf
                              refine hcV_i hx hb hml hown hts hKs hT hb0 hH (As := [.int v2_136, .int 1]) (rest := [.int (q354.1), .int v2_136, rv E v0_136]) (k_NX12_hearing l E K H.size a337 v2_136 1 q354.2 ha337.2 hq355) (gV m6_187 m6_188 m6_189 m1_1 m6_190) hd_NX12_hearing ⟨Nat.le_of_ble_eq_true rfl, Nat.le_of_ble_eq_true rfl, rfl, rfl⟩ ha337.1 ha337.2 rfl rfl rfl hl.1 rfl (rcI (rcI (rcV rc0))) rfl dL_isGood_253 ⟨Nat.le_of_ble_eq_true rfl, Nat.le_of_ble_eq_true rfl⟩ (fun H locs hH => ?_)
                              refine hl_aload_n hx hb dL_isGood_256 rfl (lv_at hl 0 rfl) ?_
                              refine lv_iload_n hx hb dL_isGood_257 rfl (lv_at hl 2 rfl) ?_
                              refine lv_iconst (v := 2) hx hb dL_isGood_258 (by decide) ?_
                              obtain ⟨q356, hq356, hf⟩ := bnd hf
                              refine hcV_i hx hb hml hown hts hKs hT hb0 hH (As := [.int v2_136, .int 2]) (rest := [.int (q355.1), .int (q354.1), .int v2_136, rv E v0_136]) (k_NX12_hearing l E K H.size a337 v2_136 2 q355.2 ha337.2 hq356) (gV m6_187 m6_188 m6_189 m1_1 m6_190) hd_NX12_hearing ⟨Nat.le_of_ble_eq_true rfl, Nat.le_of_ble_eq_true rfl, rfl, rfl⟩ ha337.1 ha337.2 rfl rfl rfl hl.1 rfl (rcI (rcI (rcI (rcV rc0)))) rfl dL_isGood_259 ⟨Nat.le_of_ble_eq_true rfl, Nat.le_of_ble_eq_true rfl⟩ (fun H locs hH => ?_)
                              refine hl_aload_n hx hb dL_isGood_262 rfl (lv_at hl 0 rfl) ?_
                              refine lv_iload_n hx hb dL_isGood_263 rfl (lv_at hl 2 rfl) ?_
                              refine lv_iconst (v := 3) hx hb dL_isGood_264 (by decide) ?_
                              obtain ⟨q357, hq357, hf⟩ := bnd hf
                              refine hcV_i hx hb hml hown hts hKs hT hb0 hH (As := [.int v2_136, .int 3]) (rest := [.int (q356.1), .int (q355.1), .int (q354.1), .int v2_136, rv E v0_136]) (k_NX12_hearing l E K H.size a337 v2_136 3 q356.2 ha337.2 hq357) (gV m6_187 m6_188 m6_189 m1_1 m6_190) hd_NX12_hearing ⟨Nat.le_of_ble_eq_true rfl, Nat.le_of_ble_eq_true rfl, rfl, rfl⟩ ha337.1 ha337.2 rfl rfl rfl hl.1 rfl (rcI (rcI (rcI (rcI (rcV rc0))))) rfl dL_isGood_265 ⟨Nat.le_of_ble_eq_true rfl, Nat.le_of_ble_eq_true rfl⟩ (fun H locs hH => ?_)
                              obtain ⟨q358, hq358, hf⟩ := bnd hf
                              refine hcV_i hx hb hml hown hts hKs hT hb0 hH (As := [.int v2_136, .int (q354.1), .int (q355.1), .int (q356.1), .int (q357.1)]) (rest := []) (k_NX12_problem l E K H.size a337 v2_136 q354.1 q355.1 q356.1 q357.1 q357.2 ha337.2 hq358) (gV m6_213 m6_214 m6_215 m1_1 m6_216) hd_NX12_problem ⟨Nat.le_of_ble_eq_true rfl, Nat.le_of_ble_eq_true rfl, rfl, rfl⟩ ha337.1 ha337.2 rfl rfl rfl hl.1 rfl rc0 rfl dL_isGood_268 ⟨Nat.le_of_ble_eq_true rfl, Nat.le_of_ble_eq_true rfl⟩ (fun H locs hH => ?_)
                              refine lv_if_eq (tgt := 276) hx hb dL_isGood_271 (by decide) (fun c359 => ?_) (fun c359 => ?_)
                              · replace hf := (if_pos c359).symm.trans hf
                                refine lv_iinc (v := (v2_136 + 1)) (lv' := [(2, .int ((v2_136 + 1))), (0, rv E v0_136), (1, rv E v1_136), (3, .int v3_136), (4, .int v4_136), (5, .int v5_136)]) hx hb dL_isGood_276 hl (k := 2) rfl rfl (by decide) (by simp [List.filter_cons, cat_q, cat_i, cat_j, imax, imin]) (fun ls hl => ?_)
                                refine lv_goto (tgt := 39) hx hb dL_isGood_279 (by decide) ?_
                                exact ih v0_136 v1_136 (v2_136 + 1) _ _ _ _ hH (lv_sub hl [1, 2, 0] rfl) hf
                              · replace hf := (if_neg c359).symm.trans hf
                                refine lv_iconst (v := 0) hx hb dL_isGood_274 (by decide) ?_
                                exact hw_wretz hx hb (Nat.le_of_ble_eq_true rfl) (Nat.le_of_ble_eq_true rfl) hret rfl hf hH hlocks dL_isGood_275
                          · replace hf := (if_neg c352).symm.trans hf
                            refine lv_iconst (v := 0) hx hb dL_isGood_235 (by decide) ?_
                            exact hw_wretz hx hb (Nat.le_of_ble_eq_true rfl) (Nat.le_of_ble_eq_true rfl) hret rfl hf hH hlocks dL_isGood_236
                        · replace hf := (if_neg c341).symm.trans hf
                          refine lv_goto (tgt := 276) hx hb dL_isGood_189 (by decide) ?_
                          refine lv_iinc (v := (v2_136 + 1)) (lv' := [(2, .int ((v2_136 + 1))), (0, rv E v0_136), (1, rv E v1_136), (3, .int v3_136), (4, .int v4_136), (5, .int v5_136)]) hx hb dL_isGood_276 hl (k := 2) rfl rfl (by decide) (by simp [List.filter_cons, cat_q, cat_i, cat_j, imax, imin]) (fun ls hl => ?_)
                          refine lv_goto (tgt := 39) hx hb dL_isGood_279 (by decide) ?_
                          exact ih v0_136 v1_136 (v2_136 + 1) _ _ _ _ hH (lv_sub hl [1, 2, 0] rfl) hf
                      · replace hf := (if_neg c339).symm.trans hf
                        refine lv_iconst (v := 0) hx hb dL_isGood_178 (by decide) ?_
                        exact hw_wretz hx hb (Nat.le_of_ble_eq_true rfl) (Nat.le_of_ble_eq_true rfl) hret rfl hf hH hlocks dL_isGood_179
                    · replace hf := (if_neg c335).symm.trans hf
                      refine lv_iconst (v := 0) hx hb dL_isGood_128 (by decide) ?_
                      exact hw_wretz hx hb (Nat.le_of_ble_eq_true rfl) (Nat.le_of_ble_eq_true rfl) hret rfl hf hH hlocks dL_isGood_129
set_option maxHeartbeats 4000000 in
set_option maxRecDepth 100000 in
theorem k_L_isGood (l : Launch) (E : Ev) (K : Kd) (n : Nat) (a_0 : Option Nat) (w : Wd) {r : Bool} {w' : Wd} (hf : f_L_isGood K n a_0 w = some (r, w')) : Met l yL_isGood (Cond.code yL_isGood cL_isGood 6 (Option.some Jvm.ClassFile.FieldType.boolean) :: bt) ({ frames := 5, cells := 1, slots := 6, locals := 129 } : Room) (va_Pc [rv E a_0] (HB E K w (E.2.1 + n))) (QW E (kup K n (20, 2)) w' (b2i r)) 1 6 (hA E) := by
  refine Met.ofW (cc := cL_isGood) (maxL := 6) (ret := (Option.some Jvm.ClassFile.FieldType.boolean)) (by decide) rfl ?_
  intro p e s m args below meth c s₁ B hml hv
  obtain ⟨rfl, hz, hP, hKs, hT, hb0⟩ := hv
  have C : CX p l e s m _ meth c cL_isGood 6 RL (Option.some Jvm.ClassFile.FieldType.boolean) E := ⟨B.exec, B.bytes, hml, findClass_of_methodNamed B.named, fun w h => atoms_spec (ws := Cond.code yL_isGood cL_isGood 6 (Option.some Jvm.ClassFile.FieldType.boolean) :: bt) B.pre w (List.mem_cons_of_mem _ h), hKs, hT, by rw [hz]; exact hb0, B.notSynchronized, B.returns⟩
  have hH : HQ E K (E.2.1 + n) w s s.heap [] := ⟨hP, va_S.rf, hz⟩
  obtain ⟨hx, hb, hml, hown, hts, hKs, hT, hb0, hlocks, hret⟩ := id C
  have hl := lv_entry [rv E a_0] (n := 6) (by simp [lg_len_nil, lg_len_i, lg_len_j, lg_len_q, lg_len_f, lg_len_d, lg_len_r])
  rw [lg_entry_eq]
  generalize (lg_sl [rv E a_0] ++ List.replicate (6 - (lg_sl [rv E a_0]).length) Slot.unset).toArray = ls at hl ⊢
  replace hl : lv_has ls 6 [(0, rv E a_0)] := by simpa only [lv_args, cat_q, cat_i, cat_j, reduceIte, Nat.reduceEqDiff, Nat.reduceAdd, Nat.zero_add] using hl
  generalize s.heap = H at hH ⊢
  unfold f_L_isGood at hf
  refine hl_aload_n hx hb dL_isGood_0 rfl (lv_at hl 0 rfl) ?_
  refine lv_bipush (v := 10) hx hb dL_isGood_1 (by decide) ?_
  obtain ⟨a1, ha1, hf⟩ := bnd hf
  replace ha1 := chk_some ha1
  obtain ⟨q2, hq2, hf⟩ := bnd hf
  refine hcV_i hx hb hml hown hts hKs hT hb0 hH (As := [.int 10]) (rest := []) (k_X12_count l E K H.size a1 10 w ha1.2 hq2) (gV m3_17 m3_18 m3_19 m1_1 m3_20) hd_X12_count ⟨Nat.le_of_ble_eq_true rfl, Nat.le_of_ble_eq_true rfl, rfl, rfl⟩ ha1.1 ha1.2 rfl rfl rfl hl.1 rfl rc0 rfl dL_isGood_3 ⟨Nat.le_of_ble_eq_true rfl, Nat.le_of_ble_eq_true rfl⟩ (fun H locs hH => ?_)
  refine hl_aload_n hx hb dL_isGood_6 rfl (lv_at hl 0 rfl) ?_
  refine lv_bipush (v := 11) hx hb dL_isGood_7 (by decide) ?_
  obtain ⟨q3, hq3, hf⟩ := bnd hf
  refine hcV_i hx hb hml hown hts hKs hT hb0 hH (As := [.int 11]) (rest := [.int (q2.1)]) (k_X12_count l E K H.size a1 11 q2.2 ha1.2 hq3) (gV m3_17 m3_18 m3_19 m1_1 m3_20) hd_X12_count ⟨Nat.le_of_ble_eq_true rfl, Nat.le_of_ble_eq_true rfl, rfl, rfl⟩ ha1.1 ha1.2 rfl rfl rfl hl.1 rfl (rcI rc0) rfl dL_isGood_9 ⟨Nat.le_of_ble_eq_true rfl, Nat.le_of_ble_eq_true rfl⟩ (fun H locs hH => ?_)
  refine lv_iadd hx hb dL_isGood_12 ?_
  refine hl_aload_n hx hb dL_isGood_13 rfl (lv_at hl 0 rfl) ?_
  refine lv_bipush (v := 12) hx hb dL_isGood_14 (by decide) ?_
  obtain ⟨q4, hq4, hf⟩ := bnd hf
  refine hcV_i hx hb hml hown hts hKs hT hb0 hH (As := [.int 12]) (rest := [.int ((q2.1 + q3.1))]) (k_X12_count l E K H.size a1 12 q3.2 ha1.2 hq4) (gV m3_17 m3_18 m3_19 m1_1 m3_20) hd_X12_count ⟨Nat.le_of_ble_eq_true rfl, Nat.le_of_ble_eq_true rfl, rfl, rfl⟩ ha1.1 ha1.2 rfl rfl rfl hl.1 rfl (rcI rc0) rfl dL_isGood_16 ⟨Nat.le_of_ble_eq_true rfl, Nat.le_of_ble_eq_true rfl⟩ (fun H locs hH => ?_)
  refine lv_iadd hx hb dL_isGood_19 ?_
  refine hl_aload_n hx hb dL_isGood_20 rfl (lv_at hl 0 rfl) ?_
  refine lv_bipush (v := 13) hx hb dL_isGood_21 (by decide) ?_
  obtain ⟨q5, hq5, hf⟩ := bnd hf
  refine hcV_i hx hb hml hown hts hKs hT hb0 hH (As := [.int 13]) (rest := [.int (((q2.1 + q3.1) + q4.1))]) (k_X12_count l E K H.size a1 13 q4.2 ha1.2 hq5) (gV m3_17 m3_18 m3_19 m1_1 m3_20) hd_X12_count ⟨Nat.le_of_ble_eq_true rfl, Nat.le_of_ble_eq_true rfl, rfl, rfl⟩ ha1.1 ha1.2 rfl rfl rfl hl.1 rfl (rcI rc0) rfl dL_isGood_23 ⟨Nat.le_of_ble_eq_true rfl, Nat.le_of_ble_eq_true rfl⟩ (fun H locs hH => ?_)
  refine lv_iadd hx hb dL_isGood_26 ?_
  refine lv_iconst (v := 4) hx hb dL_isGood_27 (by decide) ?_
  refine lv_icmp_eq (tgt := 33) hx hb dL_isGood_28 (by decide) (fun c6 => ?_) (fun c6 => ?_)
  · replace hf := (if_pos c6).symm.trans hf
    refine lv_iconst (v := 2) hx hb dL_isGood_33 (by decide) ?_
    refine hw_newa20 (N := 2) hx hb hts m1_67 hKs hH (by decide) (by decide) (Nat.le_of_ble_eq_true rfl) (Nat.le_of_ble_eq_true rfl) (Nat.le_of_ble_eq_true rfl) dL_isGood_34 (fun H hH => ?_)
    obtain ⟨w7, hw7, hf⟩ := bnd hf
    replace hw7 := Option.some.inj hw7
    rw [hw7] at hH
    refine hl_astore_n (i := 1) (lv' := [(1, rv E (some n)), (0, rv E a_0)]) hx hb dL_isGood_36 rfl hl (by decide) (by simp [List.filter_cons, cat_q, cat_i, cat_j, imax, imin]; rfl) (fun ls hl => ?_)
    refine lv_iconst (v := 0) hx hb dL_isGood_37 (by decide) ?_
    refine lv_istore_n (i := 2) (lv' := [(2, .int 0), (1, rv E (some n)), (0, rv E a_0)]) hx hb dL_isGood_38 rfl hl (by decide) (by simp [List.filter_cons, cat_q, cat_i, cat_j, imax, imin]) (fun ls hl => ?_)
    refine l_L_isGood_L39  C _ (fun v0_39 v1_39 v2_39 w8 H locs ls hH hl hf => ?_) fu a_0 (some n) 0 w7 _ _ _ hH (lv_sub hl [2, 1, 0] rfl) hf
    refine hl_aload_n hx hb dL_isGood_282 rfl (lv_at hl 1 rfl) ?_
    refine lv_iconst (v := 0) hx hb dL_isGood_283 (by decide) ?_
    obtain ⟨a360, ha360, hf⟩ := bnd hf
    replace ha360 := cha_some ha360
    obtain ⟨j361, hj361, hf⟩ := bnd hf
    refine hw_iald hx hb hKs hH ha360.1 ha360.2 hj361 dL_isGood_284 ?_
    refine hl_aload_n hx hb dL_isGood_285 rfl (lv_at hl 0 rfl) ?_
    refine lv_iconst (v := 0) hx hb dL_isGood_286 (by decide) ?_
    obtain ⟨a362, ha362, hf⟩ := bnd hf
    replace ha362 := chk_some ha362
    obtain ⟨q363, hq363, hf⟩ := bnd hf
    refine hcV_i hx hb hml hown hts hKs hT hb0 hH (As := [.int 0]) (rest := [.int ((aI w8 a360.1 j361))]) (k_NX12_load l E (kup K n (20, 2)) H.size a362 0 w8 ha362.2 hq363) (gV m6_229 m6_230 m6_231 m1_1 m6_232) hd_NX12_load ⟨Nat.le_of_ble_eq_true rfl, Nat.le_of_ble_eq_true rfl, rfl, rfl⟩ ha362.1 ha362.2 rfl rfl rfl hl.1 rfl (rcI rc0) rfl dL_isGood_287 ⟨Nat.le_of_ble_eq_true rfl, Nat.le_of_ble_eq_true rfl⟩ (fun H locs hH => ?_)
    refine lv_icmp_ne (tgt := 308) hx hb dL_isGood_290 (by decide) (fun c364 => ?_) (fun c364 => ?_)
    · replace hf := (if_neg c364).symm.trans hf
      refine lv_iconst (v := 0) hx hb dL_isGood_308 (by decide) ?_
      exact hw_wretz hx hb (Nat.le_of_ble_eq_true rfl) (Nat.le_of_ble_eq_true rfl) hret rfl hf hH hlocks dL_isGood_309
    · replace hf := (if_pos c364).symm.trans hf
      refine hl_aload_n hx hb dL_isGood_293 rfl (lv_at hl 1 rfl) ?_
      refine lv_iconst (v := 1) hx hb dL_isGood_294 (by decide) ?_
      obtain ⟨j365, hj365, hf⟩ := bnd hf
      refine hw_iald hx hb hKs hH ha360.1 ha360.2 hj365 dL_isGood_295 ?_
      refine hl_aload_n hx hb dL_isGood_296 rfl (lv_at hl 0 rfl) ?_
      refine lv_iconst (v := 1) hx hb dL_isGood_297 (by decide) ?_
      obtain ⟨q366, hq366, hf⟩ := bnd hf
      refine hcV_i hx hb hml hown hts hKs hT hb0 hH (As := [.int 1]) (rest := [.int ((aI q363.2 a360.1 j365))]) (k_NX12_load l E (kup K n (20, 2)) H.size a362 1 q363.2 ha362.2 hq366) (gV m6_229 m6_230 m6_231 m1_1 m6_232) hd_NX12_load ⟨Nat.le_of_ble_eq_true rfl, Nat.le_of_ble_eq_true rfl, rfl, rfl⟩ ha362.1 ha362.2 rfl rfl rfl hl.1 rfl (rcI rc0) rfl dL_isGood_298 ⟨Nat.le_of_ble_eq_true rfl, Nat.le_of_ble_eq_true rfl⟩ (fun H locs hH => ?_)
      refine lv_icmp_ne (tgt := 308) hx hb dL_isGood_301 (by decide) (fun c367 => ?_) (fun c367 => ?_)
      · replace hf := (if_neg c367).symm.trans hf
        refine lv_iconst (v := 0) hx hb dL_isGood_308 (by decide) ?_
        exact hw_wretz hx hb (Nat.le_of_ble_eq_true rfl) (Nat.le_of_ble_eq_true rfl) hret rfl hf hH hlocks dL_isGood_309
      · replace hf := (if_pos c367).symm.trans hf
        refine lv_iconst (v := 1) hx hb dL_isGood_304 (by decide) ?_
        refine lv_goto (tgt := 309) hx hb dL_isGood_305 (by decide) ?_
        exact hw_wretz hx hb (Nat.le_of_ble_eq_true rfl) (Nat.le_of_ble_eq_true rfl) hret rfl hf hH hlocks dL_isGood_309
  · replace hf := (if_neg c6).symm.trans hf
    refine lv_iconst (v := 0) hx hb dL_isGood_31 (by decide) ?_
    cases hf
end
