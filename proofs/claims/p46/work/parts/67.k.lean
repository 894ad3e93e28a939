section
variable {p : Program} {l : Launch} {e : Env} {s : State} {m : MethodId} {args : Array Value} {below : List Frame} {meth : Method} {c : Code} {E : Ev} {K : Kd} {z : Nat}

theorem dL_setup_0 : decode cL_setup 0 = .ok (.new 65, 3) := by decide +kernel
theorem dL_setup_3 : decode cL_setup 3 = .ok (.dup, 1) := by decide +kernel
theorem dL_setup_4 : decode cL_setup 4 = .ok (.invokespecial 67, 3) := by decide +kernel
theorem dL_setup_7 : decode cL_setup 7 = .ok (.astore_n 1, 1) := by decide +kernel
theorem dL_setup_8 : decode cL_setup 8 = .ok (.iconst 0, 1) := by decide +kernel
theorem dL_setup_9 : decode cL_setup 9 = .ok (.istore_n 2, 1) := by decide +kernel
theorem dL_setup_10 : decode cL_setup 10 = .ok (.iload_n 2, 1) := by decide +kernel
theorem dL_setup_11 : decode cL_setup 11 = .ok (.iconst 2, 1) := by decide +kernel
theorem dL_setup_12 : decode cL_setup 12 = .ok (.if_icmp .ge 62, 3) := by decide +kernel
theorem dL_setup_15 : decode cL_setup 15 = .ok (.aload_n 1, 1) := by decide +kernel
theorem dL_setup_16 : decode cL_setup 16 = .ok (.ldc 68, 2) := by decide +kernel
theorem dL_setup_18 : decode cL_setup 18 = .ok (.invokevirtual 70, 3) := by decide +kernel
theorem dL_setup_21 : decode cL_setup 21 = .ok (.bipush 114, 2) := by decide +kernel
theorem dL_setup_23 : decode cL_setup 23 = .ok (.iload_n 2, 1) := by decide +kernel
theorem dL_setup_24 : decode cL_setup 24 = .ok (.iadd, 1) := by decide +kernel
theorem dL_setup_25 : decode cL_setup 25 = .ok (.i2c, 1) := by decide +kernel
theorem dL_setup_26 : decode cL_setup 26 = .ok (.invokevirtual 74, 3) := by decide +kernel
theorem dL_setup_29 : decode cL_setup 29 = .ok (.ldc 77, 2) := by decide +kernel
theorem dL_setup_31 : decode cL_setup 31 = .ok (.invokevirtual 70, 3) := by decide +kernel
theorem dL_setup_34 : decode cL_setup 34 = .ok (.aload_n 0, 1) := by decide +kernel
theorem dL_setup_35 : decode cL_setup 35 = .ok (.iload_n 2, 1) := by decide +kernel
theorem dL_setup_36 : decode cL_setup 36 = .ok (.iconst 0, 1) := by decide +kernel
theorem dL_setup_37 : decode cL_setup 37 = .ok (.iconst 2, 1) := by decide +kernel
theorem dL_setup_38 : decode cL_setup 38 = .ok (.invokestatic 79, 3) := by decide +kernel
theorem dL_setup_41 : decode cL_setup 41 = .ok (.invokevirtual 83, 3) := by decide +kernel
theorem dL_setup_44 : decode cL_setup 44 = .ok (.bipush 32, 2) := by decide +kernel
theorem dL_setup_46 : decode cL_setup 46 = .ok (.invokevirtual 74, 3) := by decide +kernel
theorem dL_setup_49 : decode cL_setup 49 = .ok (.aload_n 0, 1) := by decide +kernel
theorem dL_setup_50 : decode cL_setup 50 = .ok (.iconst 2, 1) := by decide +kernel
theorem dL_setup_51 : decode cL_setup 51 = .ok (.iload_n 2, 1) := by decide +kernel
theorem dL_setup_52 : decode cL_setup 52 = .ok (.iadd, 1) := by decide +kernel
theorem dL_setup_53 : decode cL_setup 53 = .ok (.iconst 3, 1) := by decide +kernel
theorem dL_setup_54 : decode cL_setup 54 = .ok (.bipush 7, 2) := by decide +kernel
theorem dL_setup_56 : decode cL_setup 56 = .ok (.invokestatic 79, 3) := by decide +kernel
theorem dL_setup_59 : decode cL_setup 59 = .ok (.invokevirtual 83, 3) := by decide +kernel
theorem dL_setup_62 : decode cL_setup 62 = .ok (.bipush 59, 2) := by decide +kernel
theorem dL_setup_64 : decode cL_setup 64 = .ok (.invokevirtual 74, 3) := by decide +kernel
theorem dL_setup_67 : decode cL_setup 67 = .ok (.pop, 1) := by decide +kernel
theorem dL_setup_68 : decode cL_setup 68 = .ok (.iinc 2 1, 3) := by decide +kernel
theorem dL_setup_71 : decode cL_setup 71 = .ok (.goto (-61), 3) := by decide +kernel
theorem dL_setup_74 : decode cL_setup 74 = .ok (.iconst 0, 1) := by decide +kernel
theorem dL_setup_75 : decode cL_setup 75 = .ok (.istore_n 2, 1) := by decide +kernel
theorem dL_setup_76 : decode cL_setup 76 = .ok (.iload_n 2, 1) := by decide +kernel
theorem dL_setup_77 : decode cL_setup 77 = .ok (.iconst 2, 1) := by decide +kernel
theorem dL_setup_78 : decode cL_setup 78 = .ok (.if_icmp .ge 67, 3) := by decide +kernel
theorem dL_setup_81 : decode cL_setup 81 = .ok (.aload_n 1, 1) := by decide +kernel
theorem dL_setup_82 : decode cL_setup 82 = .ok (.ldc 86, 2) := by decide +kernel
theorem dL_setup_84 : decode cL_setup 84 = .ok (.invokevirtual 70, 3) := by decide +kernel
theorem dL_setup_87 : decode cL_setup 87 = .ok (.bipush 111, 2) := by decide +kernel
theorem dL_setup_89 : decode cL_setup 89 = .ok (.iload_n 2, 1) := by decide +kernel
theorem dL_setup_90 : decode cL_setup 90 = .ok (.iadd, 1) := by decide +kernel
theorem dL_setup_91 : decode cL_setup 91 = .ok (.i2c, 1) := by decide +kernel
theorem dL_setup_92 : decode cL_setup 92 = .ok (.invokevirtual 74, 3) := by decide +kernel
theorem dL_setup_95 : decode cL_setup 95 = .ok (.ldc 88, 2) := by decide +kernel
theorem dL_setup_97 : decode cL_setup 97 = .ok (.invokevirtual 70, 3) := by decide +kernel
theorem dL_setup_100 : decode cL_setup 100 = .ok (.aload_n 0, 1) := by decide +kernel
theorem dL_setup_101 : decode cL_setup 101 = .ok (.iconst 4, 1) := by decide +kernel
theorem dL_setup_102 : decode cL_setup 102 = .ok (.iload_n 2, 1) := by decide +kernel
theorem dL_setup_103 : decode cL_setup 103 = .ok (.iadd, 1) := by decide +kernel
theorem dL_setup_104 : decode cL_setup 104 = .ok (.iconst 0, 1) := by decide +kernel
theorem dL_setup_105 : decode cL_setup 105 = .ok (.bipush 9, 2) := by decide +kernel
theorem dL_setup_107 : decode cL_setup 107 = .ok (.invokestatic 79, 3) := by decide +kernel
theorem dL_setup_110 : decode cL_setup 110 = .ok (.invokevirtual 83, 3) := by decide +kernel
theorem dL_setup_113 : decode cL_setup 113 = .ok (.bipush 32, 2) := by decide +kernel
theorem dL_setup_115 : decode cL_setup 115 = .ok (.invokevirtual 74, 3) := by decide +kernel
theorem dL_setup_118 : decode cL_setup 118 = .ok (.aload_n 0, 1) := by decide +kernel
theorem dL_setup_119 : decode cL_setup 119 = .ok (.bipush 6, 2) := by decide +kernel
theorem dL_setup_121 : decode cL_setup 121 = .ok (.iload_n 2, 1) := by decide +kernel
theorem dL_setup_122 : decode cL_setup 122 = .ok (.iadd, 1) := by decide +kernel
theorem dL_setup_123 : decode cL_setup 123 = .ok (.bipush 9, 2) := by decide +kernel
theorem dL_setup_125 : decode cL_setup 125 = .ok (.bipush 15, 2) := by decide +kernel
theorem dL_setup_127 : decode cL_setup 127 = .ok (.invokestatic 79, 3) := by decide +kernel
theorem dL_setup_130 : decode cL_setup 130 = .ok (.invokevirtual 83, 3) := by decide +kernel
theorem dL_setup_133 : decode cL_setup 133 = .ok (.bipush 59, 2) := by decide +kernel
theorem dL_setup_135 : decode cL_setup 135 = .ok (.invokevirtual 74, 3) := by decide +kernel
theorem dL_setup_138 : decode cL_setup 138 = .ok (.pop, 1) := by decide +kernel
theorem dL_setup_139 : decode cL_setup 139 = .ok (.iinc 2 1, 3) := by decide +kernel
theorem dL_setup_142 : decode cL_setup 142 = .ok (.goto (-66), 3) := by decide +kernel
theorem dL_setup_145 : decode cL_setup 145 = .ok (.iconst 0, 1) := by decide +kernel
theorem dL_setup_146 : decode cL_setup 146 = .ok (.istore_n 2, 1) := by decide +kernel
theorem dL_setup_147 : decode cL_setup 147 = .ok (.iload_n 2, 1) := by decide +kernel
theorem dL_setup_148 : decode cL_setup 148 = .ok (.iconst 2, 1) := by decide +kernel
theorem dL_setup_149 : decode cL_setup 149 = .ok (.if_icmp .ge 105, 3) := by decide +kernel
theorem dL_setup_152 : decode cL_setup 152 = .ok (.aload_n 1, 1) := by decide +kernel
theorem dL_setup_153 : decode cL_setup 153 = .ok (.ldc 90, 2) := by decide +kernel
theorem dL_setup_155 : decode cL_setup 155 = .ok (.invokevirtual 70, 3) := by decide +kernel
theorem dL_setup_158 : decode cL_setup 158 = .ok (.bipush 119, 2) := by decide +kernel
theorem dL_setup_160 : decode cL_setup 160 = .ok (.iload_n 2, 1) := by decide +kernel
theorem dL_setup_161 : decode cL_setup 161 = .ok (.iadd, 1) := by decide +kernel
theorem dL_setup_162 : decode cL_setup 162 = .ok (.i2c, 1) := by decide +kernel
theorem dL_setup_163 : decode cL_setup 163 = .ok (.invokevirtual 74, 3) := by decide +kernel
theorem dL_setup_166 : decode cL_setup 166 = .ok (.ldc 92, 2) := by decide +kernel
theorem dL_setup_168 : decode cL_setup 168 = .ok (.invokevirtual 70, 3) := by decide +kernel
theorem dL_setup_171 : decode cL_setup 171 = .ok (.aload_n 0, 1) := by decide +kernel
theorem dL_setup_172 : decode cL_setup 172 = .ok (.bipush 8, 2) := by decide +kernel
theorem dL_setup_174 : decode cL_setup 174 = .ok (.iload_n 2, 1) := by decide +kernel
theorem dL_setup_175 : decode cL_setup 175 = .ok (.iadd, 1) := by decide +kernel
theorem dL_setup_176 : decode cL_setup 176 = .ok (.iconst 0, 1) := by decide +kernel
theorem dL_setup_177 : decode cL_setup 177 = .ok (.bipush 9, 2) := by decide +kernel
theorem dL_setup_179 : decode cL_setup 179 = .ok (.invokestatic 79, 3) := by decide +kernel
theorem dL_setup_182 : decode cL_setup 182 = .ok (.invokevirtual 83, 3) := by decide +kernel
theorem dL_setup_185 : decode cL_setup 185 = .ok (.bipush 32, 2) := by decide +kernel
theorem dL_setup_187 : decode cL_setup 187 = .ok (.invokevirtual 74, 3) := by decide +kernel
theorem dL_setup_190 : decode cL_setup 190 = .ok (.aload_n 0, 1) := by decide +kernel
theorem dL_setup_191 : decode cL_setup 191 = .ok (.bipush 10, 2) := by decide +kernel
theorem dL_setup_193 : decode cL_setup 193 = .ok (.iload_n 2, 1) := by decide +kernel
theorem dL_setup_194 : decode cL_setup 194 = .ok (.iadd, 1) := by decide +kernel
theorem dL_setup_195 : decode cL_setup 195 = .ok (.bipush 9, 2) := by decide +kernel
theorem dL_setup_197 : decode cL_setup 197 = .ok (.bipush 60, 2) := by decide +kernel
theorem dL_setup_199 : decode cL_setup 199 = .ok (.invokestatic 79, 3) := by decide +kernel
theorem dL_setup_202 : decode cL_setup 202 = .ok (.invokevirtual 83, 3) := by decide +kernel
theorem dL_setup_205 : decode cL_setup 205 = .ok (.ldc 77, 2) := by decide +kernel
theorem dL_setup_207 : decode cL_setup 207 = .ok (.invokevirtual 70, 3) := by decide +kernel
theorem dL_setup_210 : decode cL_setup 210 = .ok (.aload_n 0, 1) := by decide +kernel
theorem dL_setup_211 : decode cL_setup 211 = .ok (.bipush 12, 2) := by decide +kernel
theorem dL_setup_213 : decode cL_setup 213 = .ok (.iload_n 2, 1) := by decide +kernel
theorem dL_setup_214 : decode cL_setup 214 = .ok (.iadd, 1) := by decide +kernel
theorem dL_setup_215 : decode cL_setup 215 = .ok (.iconst 0, 1) := by decide +kernel
theorem dL_setup_216 : decode cL_setup 216 = .ok (.iconst 1, 1) := by decide +kernel
theorem dL_setup_217 : decode cL_setup 217 = .ok (.invokestatic 79, 3) := by decide +kernel
theorem dL_setup_220 : decode cL_setup 220 = .ok (.invokevirtual 83, 3) := by decide +kernel
theorem dL_setup_223 : decode cL_setup 223 = .ok (.bipush 32, 2) := by decide +kernel
theorem dL_setup_225 : decode cL_setup 225 = .ok (.invokevirtual 74, 3) := by decide +kernel
theorem dL_setup_228 : decode cL_setup 228 = .ok (.aload_n 0, 1) := by decide +kernel
theorem dL_setup_229 : decode cL_setup 229 = .ok (.bipush 14, 2) := by decide +kernel
theorem dL_setup_231 : decode cL_setup 231 = .ok (.iload_n 2, 1) := by decide +kernel
theorem dL_setup_232 : decode cL_setup 232 = .ok (.iadd, 1) := by decide +kernel
theorem dL_setup_233 : decode cL_setup 233 = .ok (.iconst 4, 1) := by decide +kernel
theorem dL_setup_234 : decode cL_setup 234 = .ok (.bipush 7, 2) := by decide +kernel
theorem dL_setup_236 : decode cL_setup 236 = .ok (.invokestatic 79, 3) := by decide +kernel
theorem dL_setup_239 : decode cL_setup 239 = .ok (.invokevirtual 83, 3) := by decide +kernel
theorem dL_setup_242 : decode cL_setup 242 = .ok (.bipush 59, 2) := by decide +kernel
theorem dL_setup_244 : decode cL_setup 244 = .ok (.invokevirtual 74, 3) := by decide +kernel
theorem dL_setup_247 : decode cL_setup 247 = .ok (.pop, 1) := by decide +kernel
theorem dL_setup_248 : decode cL_setup 248 = .ok (.iinc 2 1, 3) := by decide +kernel
theorem dL_setup_251 : decode cL_setup 251 = .ok (.goto (-104), 3) := by decide +kernel
theorem dL_setup_254 : decode cL_setup 254 = .ok (.iconst 0, 1) := by decide +kernel
theorem dL_setup_255 : decode cL_setup 255 = .ok (.istore_n 2, 1) := by decide +kernel
theorem dL_setup_256 : decode cL_setup 256 = .ok (.iload_n 2, 1) := by decide +kernel
theorem dL_setup_257 : decode cL_setup 257 = .ok (.iconst 4, 1) := by decide +kernel
theorem dL_setup_258 : decode cL_setup 258 = .ok (.if_icmp .ge 138, 3) := by decide +kernel
theorem dL_setup_261 : decode cL_setup 261 = .ok (.aload_n 1, 1) := by decide +kernel
theorem dL_setup_262 : decode cL_setup 262 = .ok (.ldc 94, 2) := by decide +kernel
theorem dL_setup_264 : decode cL_setup 264 = .ok (.invokevirtual 70, 3) := by decide +kernel
theorem dL_setup_267 : decode cL_setup 267 = .ok (.bipush 97, 2) := by decide +kernel
theorem dL_setup_269 : decode cL_setup 269 = .ok (.iload_n 2, 1) := by decide +kernel
theorem dL_setup_270 : decode cL_setup 270 = .ok (.iadd, 1) := by decide +kernel
theorem dL_setup_271 : decode cL_setup 271 = .ok (.i2c, 1) := by decide +kernel
theorem dL_setup_272 : decode cL_setup 272 = .ok (.invokevirtual 74, 3) := by decide +kernel
theorem dL_setup_275 : decode cL_setup 275 = .ok (.ldc 96, 2) := by decide +kernel
theorem dL_setup_277 : decode cL_setup 277 = .ok (.invokevirtual 70, 3) := by decide +kernel
theorem dL_setup_280 : decode cL_setup 280 = .ok (.aload_n 0, 1) := by decide +kernel
theorem dL_setup_281 : decode cL_setup 281 = .ok (.bipush 16, 2) := by decide +kernel
theorem dL_setup_283 : decode cL_setup 283 = .ok (.iload_n 2, 1) := by decide +kernel
theorem dL_setup_284 : decode cL_setup 284 = .ok (.iadd, 1) := by decide +kernel
theorem dL_setup_285 : decode cL_setup 285 = .ok (.iconst 0, 1) := by decide +kernel
theorem dL_setup_286 : decode cL_setup 286 = .ok (.bipush 9, 2) := by decide +kernel
theorem dL_setup_288 : decode cL_setup 288 = .ok (.invokestatic 79, 3) := by decide +kernel
theorem dL_setup_291 : decode cL_setup 291 = .ok (.invokevirtual 83, 3) := by decide +kernel
theorem dL_setup_294 : decode cL_setup 294 = .ok (.ldc 77, 2) := by decide +kernel
theorem dL_setup_296 : decode cL_setup 296 = .ok (.invokevirtual 70, 3) := by decide +kernel
theorem dL_setup_299 : decode cL_setup 299 = .ok (.aload_n 0, 1) := by decide +kernel
theorem dL_setup_300 : decode cL_setup 300 = .ok (.bipush 20, 2) := by decide +kernel
theorem dL_setup_302 : decode cL_setup 302 = .ok (.iload_n 2, 1) := by decide +kernel
theorem dL_setup_303 : decode cL_setup 303 = .ok (.iadd, 1) := by decide +kernel
theorem dL_setup_304 : decode cL_setup 304 = .ok (.iconst 1, 1) := by decide +kernel
theorem dL_setup_305 : decode cL_setup 305 = .ok (.iconst 4, 1) := by decide +kernel
theorem dL_setup_306 : decode cL_setup 306 = .ok (.invokestatic 79, 3) := by decide +kernel
theorem dL_setup_309 : decode cL_setup 309 = .ok (.invokevirtual 83, 3) := by decide +kernel
theorem dL_setup_312 : decode cL_setup 312 = .ok (.ldc 98, 2) := by decide +kernel
theorem dL_setup_314 : decode cL_setup 314 = .ok (.invokevirtual 70, 3) := by decide +kernel
theorem dL_setup_317 : decode cL_setup 317 = .ok (.aload_n 0, 1) := by decide +kernel
theorem dL_setup_318 : decode cL_setup 318 = .ok (.bipush 24, 2) := by decide +kernel
theorem dL_setup_320 : decode cL_setup 320 = .ok (.iload_n 2, 1) := by decide +kernel
theorem dL_setup_321 : decode cL_setup 321 = .ok (.iadd, 1) := by decide +kernel
theorem dL_setup_322 : decode cL_setup 322 = .ok (.iconst 1, 1) := by decide +kernel
theorem dL_setup_323 : decode cL_setup 323 = .ok (.bipush 20, 2) := by decide +kernel
theorem dL_setup_325 : decode cL_setup 325 = .ok (.invokestatic 79, 3) := by decide +kernel
theorem dL_setup_328 : decode cL_setup 328 = .ok (.invokevirtual 83, 3) := by decide +kernel
theorem dL_setup_331 : decode cL_setup 331 = .ok (.iload_n 2, 1) := by decide +kernel
theorem dL_setup_332 : decode cL_setup 332 = .ok (.iconst 2, 1) := by decide +kernel
theorem dL_setup_333 : decode cL_setup 333 = .ok (.irem, 1) := by decide +kernel
theorem dL_setup_334 : decode cL_setup 334 = .ok (.ifCond .ne 8, 3) := by decide +kernel
theorem dL_setup_337 : decode cL_setup 337 = .ok (.ldc 100, 2) := by decide +kernel
theorem dL_setup_339 : decode cL_setup 339 = .ok (.goto 5, 3) := by decide +kernel
theorem dL_setup_342 : decode cL_setup 342 = .ok (.ldc 102, 2) := by decide +kernel
theorem dL_setup_344 : decode cL_setup 344 = .ok (.invokevirtual 70, 3) := by decide +kernel
theorem dL_setup_347 : decode cL_setup 347 = .ok (.aload_n 0, 1) := by decide +kernel
theorem dL_setup_348 : decode cL_setup 348 = .ok (.bipush 28, 2) := by decide +kernel
theorem dL_setup_350 : decode cL_setup 350 = .ok (.iload_n 2, 1) := by decide +kernel
theorem dL_setup_351 : decode cL_setup 351 = .ok (.iadd, 1) := by decide +kernel
theorem dL_setup_352 : decode cL_setup 352 = .ok (.iconst 0, 1) := by decide +kernel
theorem dL_setup_353 : decode cL_setup 353 = .ok (.iconst 2, 1) := by decide +kernel
theorem dL_setup_354 : decode cL_setup 354 = .ok (.invokestatic 79, 3) := by decide +kernel
theorem dL_setup_357 : decode cL_setup 357 = .ok (.ifCond .ne 8, 3) := by decide +kernel
theorem dL_setup_360 : decode cL_setup 360 = .ok (.ldc 104, 2) := by decide +kernel
theorem dL_setup_362 : decode cL_setup 362 = .ok (.goto 24, 3) := by decide +kernel
theorem dL_setup_365 : decode cL_setup 365 = .ok (.aload_n 0, 1) := by decide +kernel
theorem dL_setup_366 : decode cL_setup 366 = .ok (.bipush 28, 2) := by decide +kernel
theorem dL_setup_368 : decode cL_setup 368 = .ok (.iload_n 2, 1) := by decide +kernel
theorem dL_setup_369 : decode cL_setup 369 = .ok (.iadd, 1) := by decide +kernel
theorem dL_setup_370 : decode cL_setup 370 = .ok (.iconst 0, 1) := by decide +kernel
theorem dL_setup_371 : decode cL_setup 371 = .ok (.iconst 2, 1) := by decide +kernel
theorem dL_setup_372 : decode cL_setup 372 = .ok (.invokestatic 79, 3) := by decide +kernel
theorem dL_setup_375 : decode cL_setup 375 = .ok (.iconst 1, 1) := by decide +kernel
theorem dL_setup_376 : decode cL_setup 376 = .ok (.if_icmp .ne 8, 3) := by decide +kernel
theorem dL_setup_379 : decode cL_setup 379 = .ok (.ldc 106, 2) := by decide +kernel
theorem dL_setup_381 : decode cL_setup 381 = .ok (.goto 5, 3) := by decide +kernel
theorem dL_setup_384 : decode cL_setup 384 = .ok (.ldc 108, 2) := by decide +kernel
theorem dL_setup_386 : decode cL_setup 386 = .ok (.invokevirtual 70, 3) := by decide +kernel
theorem dL_setup_389 : decode cL_setup 389 = .ok (.pop, 1) := by decide +kernel
theorem dL_setup_390 : decode cL_setup 390 = .ok (.iinc 2 1, 3) := by decide +kernel
theorem dL_setup_393 : decode cL_setup 393 = .ok (.goto (-137), 3) := by decide +kernel
theorem dL_setup_396 : decode cL_setup 396 = .ok (.aload_n 1, 1) := by decide +kernel
theorem dL_setup_397 : decode cL_setup 397 = .ok (.ldc 110, 2) := by decide +kernel
theorem dL_setup_399 : decode cL_setup 399 = .ok (.invokevirtual 70, 3) := by decide +kernel
theorem dL_setup_402 : decode cL_setup 402 = .ok (.aload_n 0, 1) := by decide +kernel
theorem dL_setup_403 : decode cL_setup 403 = .ok (.bipush 32, 2) := by decide +kernel
theorem dL_setup_405 : decode cL_setup 405 = .ok (.iconst 0, 1) := by decide +kernel
theorem dL_setup_406 : decode cL_setup 406 = .ok (.bipush 20, 2) := by decide +kernel
theorem dL_setup_408 : decode cL_setup 408 = .ok (.invokestatic 79, 3) := by decide +kernel
theorem dL_setup_411 : decode cL_setup 411 = .ok (.invokevirtual 83, 3) := by decide +kernel
theorem dL_setup_414 : decode cL_setup 414 = .ok (.bipush 59, 2) := by decide +kernel
theorem dL_setup_416 : decode cL_setup 416 = .ok (.invokevirtual 74, 3) := by decide +kernel
theorem dL_setup_419 : decode cL_setup 419 = .ok (.invokevirtual 112, 3) := by decide +kernel
theorem dL_setup_422 : decode cL_setup 422 = .ok (.areturn, 1) := by decide +kernel
theorem hs_L_setup : yL_setup.cls ≠ "java/lang/invoke/MethodHandle" ∧ yL_setup.cls ≠ "java/lang/invoke/VarHandle" ∧ (parseMethodDescriptor yL_setup.desc).map (fun d => d.parameters.length) = some 1 := by decide +kernel
set_option maxHeartbeats 4000000 in
set_option maxRecDepth 100000 in
theorem l_L_setup_H256_4 (C : CX p l e s m args meth c cL_setup 3 RL (Option.some (Jvm.ClassFile.FieldType.object RJ0)) E) {L : Nat} {xs : Nat → Int32} (hLX : LX E L xs) {K' : Kd} {n' : Nat} {r : Option Nat} {w' : Wd} (K : Kd) (n : Nat) (u1 : Option Nat) (w : Wd) (H : Heap) (locs : List Loc) (ls : Array Slot) (hH : HQ E K (E.2.1 + n) w s H locs) (hl : lv_has ls 3 [(2, .int 4), (1, rv E u1), (0, .ref (E.2.2.2.1 500))]) (hf : f_L_setup_H256_4 L xs K n u1 w = some (K', n', r, w')) : W p l e ({ frames := 6, cells := 97, slots := 114008, locals := 171 } : Room) s m args below meth c H locs 92 109204 (MQ below (QR E K' (E.2.1 + n') w' r) args s 97 114008 (hA E)) (F0 m 256 ls []) := by
  obtain ⟨hx, hb, hml, hown, hts, hKs, hT, hb0, hlocks, hret⟩ := id C
  unfold f_L_setup_H256_4 at hf
  refine lv_iload_n hx hb dL_setup_256 rfl (lv_at hl 0 rfl) ?_
  refine lv_iconst (v := 4) hx hb dL_setup_257 (by decide) ?_
  refine lv_icmp_ge (tgt := 396) hx hb dL_setup_258 (by decide) (fun c245 => ?_) (fun c245 => ?_)
  · skip
    refine hl_aload_n hx hb dL_setup_396 rfl (lv_at hl 1 rfl) ?_
    refine hw_ldcS hx hb hown hKs 14 (by decide) rfl dL_setup_397 ?_
    obtain ⟨a246, ha246, hf⟩ := bnd hf
    replace ha246 := chk_some ha246
    obtain ⟨q247, hq247, hf⟩ := bnd hf
    refine hcAq hH (hrV (As := [.ref (E.2.2.2.1 (300 + 14))]) (rest := []) ha246.1 ⟨hx, hb, hml, hown, hts⟩ (k_CJ4_append_15ec4 l E K n a246 14 w (by decide) hq247) (cwV _ hts (gV m5_96 m5_97 m5_98 m1_17 m5_99) rfl rfl rfl hd_CJ4_append_15ec4 ⟨Nat.le_of_ble_eq_true rfl, Nat.le_of_ble_eq_true rfl⟩) ⟨HB.blind, hH.1.recv hKs ha246.2 rfl rfl, HB.preN hKs hT hb0 hH⟩ rfl hl.1 rfl rc0 dL_setup_399 ⟨Nat.le_of_ble_eq_true rfl, Nat.le_of_ble_eq_true rfl⟩) (fun H locs hH => ?_)
    refine lv_aload_n hx hb dL_setup_402 rfl (lv_at hl 2 rfl) ?_
    refine lv_bipush (v := 32) hx hb dL_setup_403 (by decide) ?_
    refine lv_iconst (v := 0) hx hb dL_setup_405 (by decide) ?_
    refine lv_bipush (v := 20) hx hb dL_setup_406 (by decide) ?_
    obtain ⟨q248, hq248, hf⟩ := bnd hf
    refine hcG_i hH (va_runS (As := [.ref (E.2.2.2.1 500), .int 32, .int 0, .int 20]) (rest := [rv E q247.2.2.1]) ⟨hx, hb, hml, hown, hts⟩ (k_L_draw l E hLX q247.1 H.size 32 0 20 q247.2.2.2  hq248) (va_cwS _ hts (gS m4_59 m4_60 m1_0 m4_61) rfl rfl rfl hs_L_draw ⟨Nat.le_of_ble_eq_true rfl, Nat.le_of_ble_eq_true rfl⟩) ⟨HB.blind, HB.pre hKs hT hb0 hH⟩ rfl rfl hl.1 rfl (lv_room (rcV rc0)) dL_setup_408 ⟨Nat.le_of_ble_eq_true rfl, Nat.le_of_ble_eq_true rfl⟩) (fun H locs hH => ?_)
    obtain ⟨a249, ha249, hf⟩ := bnd hf
    replace ha249 := chk_some ha249
    obtain ⟨q250, hq250, hf⟩ := bnd hf
    refine hcAq hH (hrV (As := [.int (q248.1)]) (rest := []) ha249.1 ⟨hx, hb, hml, hown, hts⟩ (k_J4_append_bf812 l E q247.1 q247.2.1 a249 q248.1 q248.2  hq250) (cwV _ hts (gV m5_205 m5_206 m5_207 m1_17 m5_208) rfl rfl rfl hd_J4_append_bf812 ⟨Nat.le_of_ble_eq_true rfl, Nat.le_of_ble_eq_true rfl⟩) ⟨HB.blind, hH.1.recv hKs ha249.2 rfl rfl, HB.preN hKs hT hb0 hH⟩ rfl hl.1 rfl rc0 dL_setup_411 ⟨Nat.le_of_ble_eq_true rfl, Nat.le_of_ble_eq_true rfl⟩) (fun H locs hH => ?_)
    refine lv_bipush (v := 59) hx hb dL_setup_414 (by decide) ?_
    obtain ⟨a251, ha251, hf⟩ := bnd hf
    replace ha251 := chk_some ha251
    obtain ⟨q252, hq252, hf⟩ := bnd hf
    refine hcAq hH (hrV (As := [.int 59]) (rest := []) ha251.1 ⟨hx, hb, hml, hown, hts⟩ (k_J4_append_cf468 l E q250.1 q250.2.1 a251 59 q250.2.2.2  hq252) (cwV _ hts (gV m5_191 m5_192 m5_193 m1_17 m5_194) rfl rfl rfl hd_J4_append_cf468 ⟨Nat.le_of_ble_eq_true rfl, Nat.le_of_ble_eq_true rfl⟩) ⟨HB.blind, hH.1.recv hKs ha251.2 rfl rfl, HB.preN hKs hT hb0 hH⟩ rfl hl.1 rfl rc0 dL_setup_416 ⟨Nat.le_of_ble_eq_true rfl, Nat.le_of_ble_eq_true rfl⟩) (fun H locs hH => ?_)
    obtain ⟨a253, ha253, hf⟩ := bnd hf
    replace ha253 := chk_some ha253
    obtain ⟨q254, hq254, hf⟩ := bnd hf
    refine hcAq hH (hrV (As := []) (rest := []) ha253.1 ⟨hx, hb, hml, hown, hts⟩ (k_J4_toString_0e30d l E q252.1 q252.2.1 a253 q252.2.2.2  hq254) (cwV _ hts (gV m6_3 m6_4 m6_5 m1_17 m6_6) rfl rfl rfl hd_J4_toString_0e30d ⟨Nat.le_of_ble_eq_true rfl, Nat.le_of_ble_eq_true rfl⟩) ⟨HB.blind, hH.1.recv hKs ha253.2 rfl rfl, HB.preN hKs hT hb0 hH⟩ rfl hl.1 rfl rc0 dL_setup_419 ⟨Nat.le_of_ble_eq_true rfl, Nat.le_of_ble_eq_true rfl⟩) (fun H locs hH => ?_)
    exact hw_aqret hx hb (Nat.le_of_ble_eq_true rfl) (Nat.le_of_ble_eq_true rfl) hret (by simp) hf hH hlocks dL_setup_422
  · exact (by revert c245; decide : False).elim
set_option maxHeartbeats 4000000 in
set_option maxRecDepth 100000 in
theorem l_L_setup_H256_3 (C : CX p l e s m args meth c cL_setup 3 RL (Option.some (Jvm.ClassFile.FieldType.object RJ0)) E) {L : Nat} {xs : Nat → Int32} (hLX : LX E L xs) {K' : Kd} {n' : Nat} {r : Option Nat} {w' : Wd} (K : Kd) (n : Nat) (u1 : Option Nat) (w : Wd) (H : Heap) (locs : List Loc) (ls : Array Slot) (hH : HQ E K (E.2.1 + n) w s H locs) (hl : lv_has ls 3 [(2, .int 3), (1, rv E u1), (0, .ref (E.2.2.2.1 500))]) (hf : f_L_setup_H256_3 L xs K n u1 w = some (K', n', r, w')) : W p l e ({ frames := 6, cells := 97, slots := 114008, locals := 171 } : Room) s m args below meth c H locs 82 97204 (MQ below (QR E K' (E.2.1 + n') w' r) args s 97 114008 (hA E)) (F0 m 256 ls []) := by
  obtain ⟨hx, hb, hml, hown, hts, hKs, hT, hb0, hlocks, hret⟩ := id C
  unfold f_L_setup_H256_3 at hf
  refine lv_iload_n hx hb dL_setup_256 rfl (lv_at hl 0 rfl) ?_
  refine lv_iconst (v := 4) hx hb dL_setup_257 (by decide) ?_
  refine lv_icmp_ge (tgt := 396) hx hb dL_setup_258 (by decide) (fun c216 => ?_) (fun c216 => ?_)
  · exact (by revert c216; decide : False).elim
  · skip
    refine hl_aload_n hx hb dL_setup_261 rfl (lv_at hl 1 rfl) ?_
    refine hw_ldcS hx hb hown hKs 6 (by decide) rfl dL_setup_262 ?_
    obtain ⟨a217, ha217, hf⟩ := bnd hf
    replace ha217 := chk_some ha217
    obtain ⟨q218, hq218, hf⟩ := bnd hf
    refine hcAq hH (hrV (As := [.ref (E.2.2.2.1 (300 + 6))]) (rest := []) ha217.1 ⟨hx, hb, hml, hown, hts⟩ (k_CJ4_append_15ec4 l E K n a217 6 w (by decide) hq218) (cwV _ hts (gV m5_96 m5_97 m5_98 m1_17 m5_99) rfl rfl rfl hd_CJ4_append_15ec4 ⟨Nat.le_of_ble_eq_true rfl, Nat.le_of_ble_eq_true rfl⟩) ⟨HB.blind, hH.1.recv hKs ha217.2 rfl rfl, HB.preN hKs hT hb0 hH⟩ rfl hl.1 rfl rc0 dL_setup_264 ⟨Nat.le_of_ble_eq_true rfl, Nat.le_of_ble_eq_true rfl⟩) (fun H locs hH => ?_)
    refine lv_bipush (v := 97) hx hb dL_setup_267 (by decide) ?_
    refine lv_iload_n hx hb dL_setup_269 rfl (lv_at hl 0 rfl) ?_
    refine lv_iadd hx hb dL_setup_270 ?_
    refine lv_i2c (v := (i2cI (97 + 3))) hx hb dL_setup_271 rfl ?_
    obtain ⟨a219, ha219, hf⟩ := bnd hf
    replace ha219 := chk_some ha219
    obtain ⟨q220, hq220, hf⟩ := bnd hf
    refine hcAq hH (hrV (As := [.int ((i2cI (97 + 3)))]) (rest := []) ha219.1 ⟨hx, hb, hml, hown, hts⟩ (k_J4_append_cf468 l E q218.1 q218.2.1 a219 (i2cI (97 + 3)) q218.2.2.2  hq220) (cwV _ hts (gV m5_191 m5_192 m5_193 m1_17 m5_194) rfl rfl rfl hd_J4_append_cf468 ⟨Nat.le_of_ble_eq_true rfl, Nat.le_of_ble_eq_true rfl⟩) ⟨HB.blind, hH.1.recv hKs ha219.2 rfl rfl, HB.preN hKs hT hb0 hH⟩ rfl hl.1 rfl rc0 dL_setup_272 ⟨Nat.le_of_ble_eq_true rfl, Nat.le_of_ble_eq_true rfl⟩) (fun H locs hH => ?_)
    refine hw_ldcS hx hb hown hKs 7 (by decide) rfl dL_setup_275 ?_
    obtain ⟨a221, ha221, hf⟩ := bnd hf
    replace ha221 := chk_some ha221
    obtain ⟨q222, hq222, hf⟩ := bnd hf
    refine hcAq hH (hrV (As := [.ref (E.2.2.2.1 (300 + 7))]) (rest := []) ha221.1 ⟨hx, hb, hml, hown, hts⟩ (k_CJ4_append_15ec4 l E q220.1 q220.2.1 a221 7 q220.2.2.2 (by decide) hq222) (cwV _ hts (gV m5_96 m5_97 m5_98 m1_17 m5_99) rfl rfl rfl hd_CJ4_append_15ec4 ⟨Nat.le_of_ble_eq_true rfl, Nat.le_of_ble_eq_true rfl⟩) ⟨HB.blind, hH.1.recv hKs ha221.2 rfl rfl, HB.preN hKs hT hb0 hH⟩ rfl hl.1 rfl rc0 dL_setup_277 ⟨Nat.le_of_ble_eq_true rfl, Nat.le_of_ble_eq_true rfl⟩) (fun H locs hH => ?_)
    refine lv_aload_n hx hb dL_setup_280 rfl (lv_at hl 2 rfl) ?_
    refine lv_bipush (v := 16) hx hb dL_setup_281 (by decide) ?_
    refine lv_iload_n hx hb dL_setup_283 rfl (lv_at hl 0 rfl) ?_
    refine lv_iadd hx hb dL_setup_284 ?_
    refine lv_iconst (v := 0) hx hb dL_setup_285 (by decide) ?_
    refine lv_bipush (v := 9) hx hb dL_setup_286 (by decide) ?_
    obtain ⟨q223, hq223, hf⟩ := bnd hf
    refine hcG_i hH (va_runS (As := [.ref (E.2.2.2.1 500), .int ((16 + 3)), .int 0, .int 9]) (rest := [rv E q222.2.2.1]) ⟨hx, hb, hml, hown, hts⟩ (k_L_draw l E hLX q222.1 H.size (16 + 3) 0 9 q222.2.2.2  hq223) (va_cwS _ hts (gS m4_59 m4_60 m1_0 m4_61) rfl rfl rfl hs_L_draw ⟨Nat.le_of_ble_eq_true rfl, Nat.le_of_ble_eq_true rfl⟩) ⟨HB.blind, HB.pre hKs hT hb0 hH⟩ rfl rfl hl.1 rfl (lv_room (rcV rc0)) dL_setup_288 ⟨Nat.le_of_ble_eq_true rfl, Nat.le_of_ble_eq_true rfl⟩) (fun H locs hH => ?_)
    obtain ⟨a224, ha224, hf⟩ := bnd hf
    replace ha224 := chk_some ha224
    obtain ⟨q225, hq225, hf⟩ := bnd hf
    refine hcAq hH (hrV (As := [.int (q223.1)]) (rest := []) ha224.1 ⟨hx, hb, hml, hown, hts⟩ (k_J4_append_bf812 l E q222.1 q222.2.1 a224 q223.1 q223.2  hq225) (cwV _ hts (gV m5_205 m5_206 m5_207 m1_17 m5_208) rfl rfl rfl hd_J4_append_bf812 ⟨Nat.le_of_ble_eq_true rfl, Nat.le_of_ble_eq_true rfl⟩) ⟨HB.blind, hH.1.recv hKs ha224.2 rfl rfl, HB.preN hKs hT hb0 hH⟩ rfl hl.1 rfl rc0 dL_setup_291 ⟨Nat.le_of_ble_eq_true rfl, Nat.le_of_ble_eq_true rfl⟩) (fun H locs hH => ?_)
    refine hw_ldcS hx hb hown hKs 1 (by decide) rfl dL_setup_294 ?_
    obtain ⟨a226, ha226, hf⟩ := bnd hf
    replace ha226 := chk_some ha226
    obtain ⟨q227, hq227, hf⟩ := bnd hf
    refine hcAq hH (hrV (As := [.ref (E.2.2.2.1 (300 + 1))]) (rest := []) ha226.1 ⟨hx, hb, hml, hown, hts⟩ (k_CJ4_append_15ec4 l E q225.1 q225.2.1 a226 1 q225.2.2.2 (by decide) hq227) (cwV _ hts (gV m5_96 m5_97 m5_98 m1_17 m5_99) rfl rfl rfl hd_CJ4_append_15ec4 ⟨Nat.le_of_ble_eq_true rfl, Nat.le_of_ble_eq_true rfl⟩) ⟨HB.blind, hH.1.recv hKs ha226.2 rfl rfl, HB.preN hKs hT hb0 hH⟩ rfl hl.1 rfl rc0 dL_setup_296 ⟨Nat.le_of_ble_eq_true rfl, Nat.le_of_ble_eq_true rfl⟩) (fun H locs hH => ?_)
    refine lv_aload_n hx hb dL_setup_299 rfl (lv_at hl 2 rfl) ?_
    refine lv_bipush (v := 20) hx hb dL_setup_300 (by decide) ?_
    refine lv_iload_n hx hb dL_setup_302 rfl (lv_at hl 0 rfl) ?_
    refine lv_iadd hx hb dL_setup_303 ?_
    refine lv_iconst (v := 1) hx hb dL_setup_304 (by decide) ?_
    refine lv_iconst (v := 4) hx hb dL_setup_305 (by decide) ?_
    obtain ⟨q228, hq228, hf⟩ := bnd hf
    refine hcG_i hH (va_runS (As := [.ref (E.2.2.2.1 500), .int ((20 + 3)), .int 1, .int 4]) (rest := [rv E q227.2.2.1]) ⟨hx, hb, hml, hown, hts⟩ (k_L_draw l E hLX q227.1 H.size (20 + 3) 1 4 q227.2.2.2  hq228) (va_cwS _ hts (gS m4_59 m4_60 m1_0 m4_61) rfl rfl rfl hs_L_draw ⟨Nat.le_of_ble_eq_true rfl, Nat.le_of_ble_eq_true rfl⟩) ⟨HB.blind, HB.pre hKs hT hb0 hH⟩ rfl rfl hl.1 rfl (lv_room (rcV rc0)) dL_setup_306 ⟨Nat.le_of_ble_eq_true rfl, Nat.le_of_ble_eq_true rfl⟩) (fun H locs hH => ?_)
    obtain ⟨a229, ha229, hf⟩ := bnd hf
    replace ha229 := chk_some ha229
    obtain ⟨q230, hq230, hf⟩ := bnd hf
    refine hcAq hH (hrV (As := [.int (q228.1)]) (rest := []) ha229.1 ⟨hx, hb, hml, hown, hts⟩ (k_J4_append_bf812 l E q227.1 q227.2.1 a229 q228.1 q228.2  hq230) (cwV _ hts (gV m5_205 m5_206 m5_207 m1_17 m5_208) rfl rfl rfl hd_J4_append_bf812 ⟨Nat.le_of_ble_eq_true rfl, Nat.le_of_ble_eq_true rfl⟩) ⟨HB.blind, hH.1.recv hKs ha229.2 rfl rfl, HB.preN hKs hT hb0 hH⟩ rfl hl.1 rfl rc0 dL_setup_309 ⟨Nat.le_of_ble_eq_true rfl, Nat.le_of_ble_eq_true rfl⟩) (fun H locs hH => ?_)
    refine hw_ldcS hx hb hown hKs 8 (by decide) rfl dL_setup_312 ?_
    obtain ⟨a231, ha231, hf⟩ := bnd hf
    replace ha231 := chk_some ha231
    obtain ⟨q232, hq232, hf⟩ := bnd hf
    refine hcAq hH (hrV (As := [.ref (E.2.2.2.1 (300 + 8))]) (rest := []) ha231.1 ⟨hx, hb, hml, hown, hts⟩ (k_CJ4_append_15ec4 l E q230.1 q230.2.1 a231 8 q230.2.2.2 (by decide) hq232) (cwV _ hts (gV m5_96 m5_97 m5_98 m1_17 m5_99) rfl rfl rfl hd_CJ4_append_15ec4 ⟨Nat.le_of_ble_eq_true rfl, Nat.le_of_ble_eq_true rfl⟩) ⟨HB.blind, hH.1.recv hKs ha231.2 rfl rfl, HB.preN hKs hT hb0 hH⟩ rfl hl.1 rfl rc0 dL_setup_314 ⟨Nat.le_of_ble_eq_true rfl, Nat.le_of_ble_eq_true rfl⟩) (fun H locs hH => ?_)
    refine lv_aload_n hx hb dL_setup_317 rfl (lv_at hl 2 rfl) ?_
    refine lv_bipush (v := 24) hx hb dL_setup_318 (by decide) ?_
    refine lv_iload_n hx hb dL_setup_320 rfl (lv_at hl 0 rfl) ?_
    refine lv_iadd hx hb dL_setup_321 ?_
    refine lv_iconst (v := 1) hx hb dL_setup_322 (by decide) ?_
    refine lv_bipush (v := 20) hx hb dL_setup_323 (by decide) ?_
    obtain ⟨q233, hq233, hf⟩ := bnd hf
    refine hcG_i hH (va_runS (As := [.ref (E.2.2.2.1 500), .int ((24 + 3)), .int 1, .int 20]) (rest := [rv E q232.2.2.1]) ⟨hx, hb, hml, hown, hts⟩ (k_L_draw l E hLX q232.1 H.size (24 + 3) 1 20 q232.2.2.2  hq233) (va_cwS _ hts (gS m4_59 m4_60 m1_0 m4_61) rfl rfl rfl hs_L_draw ⟨Nat.le_of_ble_eq_true rfl, Nat.le_of_ble_eq_true rfl⟩) ⟨HB.blind, HB.pre hKs hT hb0 hH⟩ rfl rfl hl.1 rfl (lv_room (rcV rc0)) dL_setup_325 ⟨Nat.le_of_ble_eq_true rfl, Nat.le_of_ble_eq_true rfl⟩) (fun H locs hH => ?_)
    obtain ⟨a234, ha234, hf⟩ := bnd hf
    replace ha234 := chk_some ha234
    obtain ⟨q235, hq235, hf⟩ := bnd hf
    refine hcAq hH (hrV (As := [.int (q233.1)]) (rest := []) ha234.1 ⟨hx, hb, hml, hown, hts⟩ (k_J4_append_bf812 l E q232.1 q232.2.1 a234 q233.1 q233.2  hq235) (cwV _ hts (gV m5_205 m5_206 m5_207 m1_17 m5_208) rfl rfl rfl hd_J4_append_bf812 ⟨Nat.le_of_ble_eq_true rfl, Nat.le_of_ble_eq_true rfl⟩) ⟨HB.blind, hH.1.recv hKs ha234.2 rfl rfl, HB.preN hKs hT hb0 hH⟩ rfl hl.1 rfl rc0 dL_setup_328 ⟨Nat.le_of_ble_eq_true rfl, Nat.le_of_ble_eq_true rfl⟩) (fun H locs hH => ?_)
    refine lv_iload_n hx hb dL_setup_331 rfl (lv_at hl 0 rfl) ?_
    refine lv_iconst (v := 2) hx hb dL_setup_332 (by decide) ?_
    refine lv_irem hx hb dL_setup_333 (by decide) ?_
    refine lv_if_ne (tgt := 342) hx hb dL_setup_334 (by decide) (fun c236 => ?_) (fun c236 => ?_)
    · skip
      refine hw_ldcS hx hb hown hKs 10 (by decide) rfl dL_setup_342 ?_
      obtain ⟨a237, ha237, hf⟩ := bnd hf
      replace ha237 := chk_some ha237
      obtain ⟨q238, hq238, hf⟩ := bnd hf
      refine hcAq hH (hrV (As := [.ref (E.2.2.2.1 (300 + 10))]) (rest := []) ha237.1 ⟨hx, hb, hml, hown, hts⟩ (k_CJ4_append_15ec4 l E q235.1 q235.2.1 a237 10 q235.2.2.2 (by decide) hq238) (cwV _ hts (gV m5_96 m5_97 m5_98 m1_17 m5_99) rfl rfl rfl hd_CJ4_append_15ec4 ⟨Nat.le_of_ble_eq_true rfl, Nat.le_of_ble_eq_true rfl⟩) ⟨HB.blind, hH.1.recv hKs ha237.2 rfl rfl, HB.preN hKs hT hb0 hH⟩ rfl hl.1 rfl rc0 dL_setup_344 ⟨Nat.le_of_ble_eq_true rfl, Nat.le_of_ble_eq_true rfl⟩) (fun H locs hH => ?_)
      refine lv_aload_n hx hb dL_setup_347 rfl (lv_at hl 2 rfl) ?_
      refine lv_bipush (v := 28) hx hb dL_setup_348 (by decide) ?_
      refine lv_iload_n hx hb dL_setup_350 rfl (lv_at hl 0 rfl) ?_
      refine lv_iadd hx hb dL_setup_351 ?_
      refine lv_iconst (v := 0) hx hb dL_setup_352 (by decide) ?_
      refine lv_iconst (v := 2) hx hb dL_setup_353 (by decide) ?_
      obtain ⟨q239, hq239, hf⟩ := bnd hf
      refine hcG_i hH (va_runS (As := [.ref (E.2.2.2.1 500), .int ((28 + 3)), .int 0, .int 2]) (rest := [rv E q238.2.2.1]) ⟨hx, hb, hml, hown, hts⟩ (k_L_draw l E hLX q238.1 H.size (28 + 3) 0 2 q238.2.2.2  hq239) (va_cwS _ hts (gS m4_59 m4_60 m1_0 m4_61) rfl rfl rfl hs_L_draw ⟨Nat.le_of_ble_eq_true rfl, Nat.le_of_ble_eq_true rfl⟩) ⟨HB.blind, HB.pre hKs hT hb0 hH⟩ rfl rfl hl.1 rfl (lv_room (rcV rc0)) dL_setup_354 ⟨Nat.le_of_ble_eq_true rfl, Nat.le_of_ble_eq_true rfl⟩) (fun H locs hH => ?_)
      refine lv_if_ne (tgt := 365) hx hb dL_setup_357 (by decide) (fun c240 => ?_) (fun c240 => ?_)
      · replace hf := (if_neg c240).symm.trans hf
        refine lv_aload_n hx hb dL_setup_365 rfl (lv_at hl 2 rfl) ?_
        refine lv_bipush (v := 28) hx hb dL_setup_366 (by decide) ?_
        refine lv_iload_n hx hb dL_setup_368 rfl (lv_at hl 0 rfl) ?_
        refine lv_iadd hx hb dL_setup_369 ?_
        refine lv_iconst (v := 0) hx hb dL_setup_370 (by decide) ?_
        refine lv_iconst (v := 2) hx hb dL_setup_371 (by decide) ?_
        obtain ⟨q241, hq241, hf⟩ := bnd hf
        refine hcG_i hH (va_runS (As := [.ref (E.2.2.2.1 500), .int ((28 + 3)), .int 0, .int 2]) (rest := [rv E q238.2.2.1]) ⟨hx, hb, hml, hown, hts⟩ (k_L_draw l E hLX q238.1 H.size (28 + 3) 0 2 q239.2  hq241) (va_cwS _ hts (gS m4_59 m4_60 m1_0 m4_61) rfl rfl rfl hs_L_draw ⟨Nat.le_of_ble_eq_true rfl, Nat.le_of_ble_eq_true rfl⟩) ⟨HB.blind, HB.pre hKs hT hb0 hH⟩ rfl rfl hl.1 rfl (lv_room (rcV rc0)) dL_setup_372 ⟨Nat.le_of_ble_eq_true rfl, Nat.le_of_ble_eq_true rfl⟩) (fun H locs hH => ?_)
        refine lv_iconst (v := 1) hx hb dL_setup_375 (by decide) ?_
        refine lv_icmp_ne (tgt := 384) hx hb dL_setup_376 (by decide) (fun c242 => ?_) (fun c242 => ?_)
        · replace hf := (if_neg c242).symm.trans hf
          refine hw_ldcS hx hb hown hKs 13 (by decide) rfl dL_setup_384 ?_
          obtain ⟨a243, ha243, hf⟩ := bnd hf
          replace ha243 := chk_some ha243
          obtain ⟨q244, hq244, hf⟩ := bnd hf
          refine hcAq hH (hrV (As := [.ref (E.2.2.2.1 (300 + 13))]) (rest := []) ha243.1 ⟨hx, hb, hml, hown, hts⟩ (k_CJ4_append_15ec4 l E q238.1 q238.2.1 a243 13 q241.2 (by decide) hq244) (cwV _ hts (gV m5_96 m5_97 m5_98 m1_17 m5_99) rfl rfl rfl hd_CJ4_append_15ec4 ⟨Nat.le_of_ble_eq_true rfl, Nat.le_of_ble_eq_true rfl⟩) ⟨HB.blind, hH.1.recv hKs ha243.2 rfl rfl, HB.preN hKs hT hb0 hH⟩ rfl hl.1 rfl rc0 dL_setup_386 ⟨Nat.le_of_ble_eq_true rfl, Nat.le_of_ble_eq_true rfl⟩) (fun H locs hH => ?_)
          refine lv_pop hx hb dL_setup_389 rv_cat ?_
          refine lv_iinc (v := 4) (lv' := [(2, .int 4), (1, rv E u1), (0, .ref (E.2.2.2.1 500))]) hx hb dL_setup_390 hl (k := 0) rfl rfl (by decide) (by simp [List.filter_cons, cat_q, cat_i, cat_j, imax, imin]) (fun ls hl => ?_)
          refine lv_goto (tgt := 256) hx hb dL_setup_393 (by decide) ?_
          exact l_L_setup_H256_4 C hLX q244.1 q244.2.1 u1 q244.2.2.2 _ _ _ hH hl hf
        · replace hf := (if_pos c242).symm.trans hf
          refine hw_ldcS hx hb hown hKs 12 (by decide) rfl dL_setup_379 ?_
          refine lv_goto (tgt := 386) hx hb dL_setup_381 (by decide) ?_
          obtain ⟨a255, ha255, hf⟩ := bnd hf
          replace ha255 := chk_some ha255
          obtain ⟨q256, hq256, hf⟩ := bnd hf
          refine hcAq hH (hrV (As := [.ref (E.2.2.2.1 (300 + 12))]) (rest := []) ha255.1 ⟨hx, hb, hml, hown, hts⟩ (k_CJ4_append_15ec4 l E q238.1 q238.2.1 a255 12 q241.2 (by decide) hq256) (cwV _ hts (gV m5_96 m5_97 m5_98 m1_17 m5_99) rfl rfl rfl hd_CJ4_append_15ec4 ⟨Nat.le_of_ble_eq_true rfl, Nat.le_of_ble_eq_true rfl⟩) ⟨HB.blind, hH.1.recv hKs ha255.2 rfl rfl, HB.preN hKs hT hb0 hH⟩ rfl hl.1 rfl rc0 dL_setup_386 ⟨Nat.le_of_ble_eq_true rfl, Nat.le_of_ble_eq_true rfl⟩) (fun H locs hH => ?_)
          refine lv_pop hx hb dL_setup_389 rv_cat ?_
          refine lv_iinc (v := 4) (lv' := [(2, .int 4), (1, rv E u1), (0, .ref (E.2.2.2.1 500))]) hx hb dL_setup_390 hl (k := 0) rfl rfl (by decide) (by simp [List.filter_cons, cat_q, cat_i, cat_j, imax, imin]) (fun ls hl => ?_)
          refine lv_goto (tgt := 256) hx hb dL_setup_393 (by decide) ?_
          exact l_L_setup_H256_4 C hLX q256.1 q256.2.1 u1 q256.2.2.2 _ _ _ hH hl hf
      · replace hf := (if_pos c240).symm.trans hf
        refine hw_ldcS hx hb hown hKs 11 (by decide) rfl dL_setup_360 ?_
        refine lv_goto (tgt := 386) hx hb dL_setup_362 (by decide) ?_
        obtain ⟨a257, ha257, hf⟩ := bnd hf
        replace ha257 := chk_some ha257
        obtain ⟨q258, hq258, hf⟩ := bnd hf
        refine hcAq hH (hrV (As := [.ref (E.2.2.2.1 (300 + 11))]) (rest := []) ha257.1 ⟨hx, hb, hml, hown, hts⟩ (k_CJ4_append_15ec4 l E q238.1 q238.2.1 a257 11 q239.2 (by decide) hq258) (cwV _ hts (gV m5_96 m5_97 m5_98 m1_17 m5_99) rfl rfl rfl hd_CJ4_append_15ec4 ⟨Nat.le_of_ble_eq_true rfl, Nat.le_of_ble_eq_true rfl⟩) ⟨HB.blind, hH.1.recv hKs ha257.2 rfl rfl, HB.preN hKs hT hb0 hH⟩ rfl hl.1 rfl rc0 dL_setup_386 ⟨Nat.le_of_ble_eq_true rfl, Nat.le_of_ble_eq_true rfl⟩) (fun H locs hH => ?_)
        refine lv_pop hx hb dL_setup_389 rv_cat ?_
        refine lv_iinc (v := 4) (lv' := [(2, .int 4), (1, rv E u1), (0, .ref (E.2.2.2.1 500))]) hx hb dL_setup_390 hl (k := 0) rfl rfl (by decide) (by simp [List.filter_cons, cat_q, cat_i, cat_j, imax, imin]) (fun ls hl => ?_)
        refine lv_goto (tgt := 256) hx hb dL_setup_393 (by decide) ?_
        exact l_L_setup_H256_4 C hLX q258.1 q258.2.1 u1 q258.2.2.2 _ _ _ hH hl hf
    · exact (by revert c236; decide : False).elim
set_option maxHeartbeats 4000000 in
set_option maxRecDepth 100000 in
theorem l_L_setup_H256_2 (C : CX p l e s m args meth c cL_setup 3 RL (Option.some (Jvm.ClassFile.FieldType.object RJ0)) E) {L : Nat} {xs : Nat → Int32} (hLX : LX E L xs) {K' : Kd} {n' : Nat} {r : Option Nat} {w' : Wd} (K : Kd) (n : Nat) (u1 : Option Nat) (w : Wd) (H : Heap) (locs : List Loc) (ls : Array Slot) (hH : HQ E K (E.2.1 + n) w s H locs) (hl : lv_has ls 3 [(2, .int 2), (1, rv E u1), (0, .ref (E.2.2.2.1 500))]) (hf : f_L_setup_H256_2 L xs K n u1 w = some (K', n', r, w')) : W p l e ({ frames := 6, cells := 97, slots := 114008, locals := 171 } : Room) s m args below meth c H locs 72 85204 (MQ below (QR E K' (E.2.1 + n') w' r) args s 97 114008 (hA E)) (F0 m 256 ls []) := by
  obtain ⟨hx, hb, hml, hown, hts, hKs, hT, hb0, hlocks, hret⟩ := id C
  unfold f_L_setup_H256_2 at hf
  refine lv_iload_n hx hb dL_setup_256 rfl (lv_at hl 0 rfl) ?_
  refine lv_iconst (v := 4) hx hb dL_setup_257 (by decide) ?_
  refine lv_icmp_ge (tgt := 396) hx hb dL_setup_258 (by decide) (fun c187 => ?_) (fun c187 => ?_)
  · exact (by revert c187; decide : False).elim
  · skip
    refine hl_aload_n hx hb dL_setup_261 rfl (lv_at hl 1 rfl) ?_
    refine hw_ldcS hx hb hown hKs 6 (by decide) rfl dL_setup_262 ?_
    obtain ⟨a188, ha188, hf⟩ := bnd hf
    replace ha188 := chk_some ha188
    obtain ⟨q189, hq189, hf⟩ := bnd hf
    refine hcAq hH (hrV (As := [.ref (E.2.2.2.1 (300 + 6))]) (rest := []) ha188.1 ⟨hx, hb, hml, hown, hts⟩ (k_CJ4_append_15ec4 l E K n a188 6 w (by decide) hq189) (cwV _ hts (gV m5_96 m5_97 m5_98 m1_17 m5_99) rfl rfl rfl hd_CJ4_append_15ec4 ⟨Nat.le_of_ble_eq_true rfl, Nat.le_of_ble_eq_true rfl⟩) ⟨HB.blind, hH.1.recv hKs ha188.2 rfl rfl, HB.preN hKs hT hb0 hH⟩ rfl hl.1 rfl rc0 dL_setup_264 ⟨Nat.le_of_ble_eq_true rfl, Nat.le_of_ble_eq_true rfl⟩) (fun H locs hH => ?_)
    refine lv_bipush (v := 97) hx hb dL_setup_267 (by decide) ?_
    refine lv_iload_n hx hb dL_setup_269 rfl (lv_at hl 0 rfl) ?_
    refine lv_iadd hx hb dL_setup_270 ?_
    refine lv_i2c (v := (i2cI (97 + 2))) hx hb dL_setup_271 rfl ?_
    obtain ⟨a190, ha190, hf⟩ := bnd hf
    replace ha190 := chk_some ha190
    obtain ⟨q191, hq191, hf⟩ := bnd hf
    refine hcAq hH (hrV (As := [.int ((i2cI (97 + 2)))]) (rest := []) ha190.1 ⟨hx, hb, hml, hown, hts⟩ (k_J4_append_cf468 l E q189.1 q189.2.1 a190 (i2cI (97 + 2)) q189.2.2.2  hq191) (cwV _ hts (gV m5_191 m5_192 m5_193 m1_17 m5_194) rfl rfl rfl hd_J4_append_cf468 ⟨Nat.le_of_ble_eq_true rfl, Nat.le_of_ble_eq_true rfl⟩) ⟨HB.blind, hH.1.recv hKs ha190.2 rfl rfl, HB.preN hKs hT hb0 hH⟩ rfl hl.1 rfl rc0 dL_setup_272 ⟨Nat.le_of_ble_eq_true rfl, Nat.le_of_ble_eq_true rfl⟩) (fun H locs hH => ?_)
    refine hw_ldcS hx hb hown hKs 7 (by decide) rfl dL_setup_275 ?_
    obtain ⟨a192, ha192, hf⟩ := bnd hf
    replace ha192 := chk_some ha192
    obtain ⟨q193, hq193, hf⟩ := bnd hf
    refine hcAq hH (hrV (As := [.ref (E.2.2.2.1 (300 + 7))]) (rest := []) ha192.1 ⟨hx, hb, hml, hown, hts⟩ (k_CJ4_append_15ec4 l E q191.1 q191.2.1 a192 7 q191.2.2.2 (by decide) hq193) (cwV _ hts (gV m5_96 m5_97 m5_98 m1_17 m5_99) rfl rfl rfl hd_CJ4_append_15ec4 ⟨Nat.le_of_ble_eq_true rfl, Nat.le_of_ble_eq_true rfl⟩) ⟨HB.blind, hH.1.recv hKs ha192.2 rfl rfl, HB.preN hKs hT hb0 hH⟩ rfl hl.1 rfl rc0 dL_setup_277 ⟨Nat.le_of_ble_eq_true rfl, Nat.le_of_ble_eq_true rfl⟩) (fun H locs hH => ?_)
    refine lv_aload_n hx hb dL_setup_280 rfl (lv_at hl 2 rfl) ?_
    refine lv_bipush (v := 16) hx hb dL_setup_281 (by decide) ?_
    refine lv_iload_n hx hb dL_setup_283 rfl (lv_at hl 0 rfl) ?_
    refine lv_iadd hx hb dL_setup_284 ?_
    refine lv_iconst (v := 0) hx hb dL_setup_285 (by decide) ?_
    refine lv_bipush (v := 9) hx hb dL_setup_286 (by decide) ?_
    obtain ⟨q194, hq194, hf⟩ := bnd hf
    refine hcG_i hH (va_runS (As := [.ref (E.2.2.2.1 500), .int ((16 + 2)), .int 0, .int 9]) (rest := [rv E q193.2.2.1]) ⟨hx, hb, hml, hown, hts⟩ (k_L_draw l E hLX q193.1 H.size (16 + 2) 0 9 q193.2.2.2  hq194) (va_cwS _ hts (gS m4_59 m4_60 m1_0 m4_61) rfl rfl rfl hs_L_draw ⟨Nat.le_of_ble_eq_true rfl, Nat.le_of_ble_eq_true rfl⟩) ⟨HB.blind, HB.pre hKs hT hb0 hH⟩ rfl rfl hl.1 rfl (lv_room (rcV rc0)) dL_setup_288 ⟨Nat.le_of_ble_eq_true rfl, Nat.le_of_ble_eq_true rfl⟩) (fun H locs hH => ?_)
    obtain ⟨a195, ha195, hf⟩ := bnd hf
    replace ha195 := chk_some ha195
    obtain ⟨q196, hq196, hf⟩ := bnd hf
    refine hcAq hH (hrV (As := [.int (q194.1)]) (rest := []) ha195.1 ⟨hx, hb, hml, hown, hts⟩ (k_J4_append_bf812 l E q193.1 q193.2.1 a195 q194.1 q194.2  hq196) (cwV _ hts (gV m5_205 m5_206 m5_207 m1_17 m5_208) rfl rfl rfl hd_J4_append_bf812 ⟨Nat.le_of_ble_eq_true rfl, Nat.le_of_ble_eq_true rfl⟩) ⟨HB.blind, hH.1.recv hKs ha195.2 rfl rfl, HB.preN hKs hT hb0 hH⟩ rfl hl.1 rfl rc0 dL_setup_291 ⟨Nat.le_of_ble_eq_true rfl, Nat.le_of_ble_eq_true rfl⟩) (fun H locs hH => ?_)
    refine hw_ldcS hx hb hown hKs 1 (by decide) rfl dL_setup_294 ?_
    obtain ⟨a197, ha197, hf⟩ := bnd hf
    replace ha197 := chk_some ha197
    obtain ⟨q198, hq198, hf⟩ := bnd hf
    refine hcAq hH (hrV (As := [.ref (E.2.2.2.1 (300 + 1))]) (rest := []) ha197.1 ⟨hx, hb, hml, hown, hts⟩ (k_CJ4_append_15ec4 l E q196.1 q196.2.1 a197 1 q196.2.2.2 (by decide) hq198) (cwV _ hts (gV m5_96 m5_97 m5_98 m1_17 m5_99) rfl rfl rfl hd_CJ4_append_15ec4 ⟨Nat.le_of_ble_eq_true rfl, Nat.le_of_ble_eq_true rfl⟩) ⟨HB.blind, hH.1.recv hKs ha197.2 rfl rfl, HB.preN hKs hT hb0 hH⟩ rfl hl.1 rfl rc0 dL_setup_296 ⟨Nat.le_of_ble_eq_true rfl, Nat.le_of_ble_eq_true rfl⟩) (fun H locs hH => ?_)
    refine lv_aload_n hx hb dL_setup_299 rfl (lv_at hl 2 rfl) ?_
    refine lv_bipush (v := 20) hx hb dL_setup_300 (by decide) ?_
    refine lv_iload_n hx hb dL_setup_302 rfl (lv_at hl 0 rfl) ?_
    refine lv_iadd hx hb dL_setup_303 ?_
    refine lv_iconst (v := 1) hx hb dL_setup_304 (by decide) ?_
    refine lv_iconst (v := 4) hx hb dL_setup_305 (by decide) ?_
    obtain ⟨q199, hq199, hf⟩ := bnd hf
    refine hcG_i hH (va_runS (As := [.ref (E.2.2.2.1 500), .int ((20 + 2)), .int 1, .int 4]) (rest := [rv E q198.2.2.1]) ⟨hx, hb, hml, hown, hts⟩ (k_L_draw l E hLX q198.1 H.size (20 + 2) 1 4 q198.2.2.2  hq199) (va_cwS _ hts (gS m4_59 m4_60 m1_0 m4_61) rfl rfl rfl hs_L_draw ⟨Nat.le_of_ble_eq_true rfl, Nat.le_of_ble_eq_true rfl⟩) ⟨HB.blind, HB.pre hKs hT hb0 hH⟩ rfl rfl hl.1 rfl (lv_room (rcV rc0)) dL_setup_306 ⟨Nat.le_of_ble_eq_true rfl, Nat.le_of_ble_eq_true rfl⟩) (fun H locs hH => ?_)
    obtain ⟨a200, ha200, hf⟩ := bnd hf
    replace ha200 := chk_some ha200
    obtain ⟨q201, hq201, hf⟩ := bnd hf
    refine hcAq hH (hrV (As := [.int (q199.1)]) (rest := []) ha200.1 ⟨hx, hb, hml, hown, hts⟩ (k_J4_append_bf812 l E q198.1 q198.2.1 a200 q199.1 q199.2  hq201) (cwV _ hts (gV m5_205 m5_206 m5_207 m1_17 m5_208) rfl rfl rfl hd_J4_append_bf812 ⟨Nat.le_of_ble_eq_true rfl, Nat.le_of_ble_eq_true rfl⟩) ⟨HB.blind, hH.1.recv hKs ha200.2 rfl rfl, HB.preN hKs hT hb0 hH⟩ rfl hl.1 rfl rc0 dL_setup_309 ⟨Nat.le_of_ble_eq_true rfl, Nat.le_of_ble_eq_true rfl⟩) (fun H locs hH => ?_)
    refine hw_ldcS hx hb hown hKs 8 (by decide) rfl dL_setup_312 ?_
    obtain ⟨a202, ha202, hf⟩ := bnd hf
    replace ha202 := chk_some ha202
    obtain ⟨q203, hq203, hf⟩ := bnd hf
    refine hcAq hH (hrV (As := [.ref (E.2.2.2.1 (300 + 8))]) (rest := []) ha202.1 ⟨hx, hb, hml, hown, hts⟩ (k_CJ4_append_15ec4 l E q201.1 q201.2.1 a202 8 q201.2.2.2 (by decide) hq203) (cwV _ hts (gV m5_96 m5_97 m5_98 m1_17 m5_99) rfl rfl rfl hd_CJ4_append_15ec4 ⟨Nat.le_of_ble_eq_true rfl, Nat.le_of_ble_eq_true rfl⟩) ⟨HB.blind, hH.1.recv hKs ha202.2 rfl rfl, HB.preN hKs hT hb0 hH⟩ rfl hl.1 rfl rc0 dL_setup_314 ⟨Nat.le_of_ble_eq_true rfl, Nat.le_of_ble_eq_true rfl⟩) (fun H locs hH => ?_)
    refine lv_aload_n hx hb dL_setup_317 rfl (lv_at hl 2 rfl) ?_
    refine lv_bipush (v := 24) hx hb dL_setup_318 (by decide) ?_
    refine lv_iload_n hx hb dL_setup_320 rfl (lv_at hl 0 rfl) ?_
    refine lv_iadd hx hb dL_setup_321 ?_
    refine lv_iconst (v := 1) hx hb dL_setup_322 (by decide) ?_
    refine lv_bipush (v := 20) hx hb dL_setup_323 (by decide) ?_
    obtain ⟨q204, hq204, hf⟩ := bnd hf
    refine hcG_i hH (va_runS (As := [.ref (E.2.2.2.1 500), .int ((24 + 2)), .int 1, .int 20]) (rest := [rv E q203.2.2.1]) ⟨hx, hb, hml, hown, hts⟩ (k_L_draw l E hLX q203.1 H.size (24 + 2) 1 20 q203.2.2.2  hq204) (va_cwS _ hts (gS m4_59 m4_60 m1_0 m4_61) rfl rfl rfl hs_L_draw ⟨Nat.le_of_ble_eq_true rfl, Nat.le_of_ble_eq_true rfl⟩) ⟨HB.blind, HB.pre hKs hT hb0 hH⟩ rfl rfl hl.1 rfl (lv_room (rcV rc0)) dL_setup_325 ⟨Nat.le_of_ble_eq_true rfl, Nat.le_of_ble_eq_true rfl⟩) (fun H locs hH => ?_)
    obtain ⟨a205, ha205, hf⟩ := bnd hf
    replace ha205 := chk_some ha205
    obtain ⟨q206, hq206, hf⟩ := bnd hf
    refine hcAq hH (hrV (As := [.int (q204.1)]) (rest := []) ha205.1 ⟨hx, hb, hml, hown, hts⟩ (k_J4_append_bf812 l E q203.1 q203.2.1 a205 q204.1 q204.2  hq206) (cwV _ hts (gV m5_205 m5_206 m5_207 m1_17 m5_208) rfl rfl rfl hd_J4_append_bf812 ⟨Nat.le_of_ble_eq_true rfl, Nat.le_of_ble_eq_true rfl⟩) ⟨HB.blind, hH.1.recv hKs ha205.2 rfl rfl, HB.preN hKs hT hb0 hH⟩ rfl hl.1 rfl rc0 dL_setup_328 ⟨Nat.le_of_ble_eq_true rfl, Nat.le_of_ble_eq_true rfl⟩) (fun H locs hH => ?_)
    refine lv_iload_n hx hb dL_setup_331 rfl (lv_at hl 0 rfl) ?_
    refine lv_iconst (v := 2) hx hb dL_setup_332 (by decide) ?_
    refine lv_irem hx hb dL_setup_333 (by decide) ?_
    refine lv_if_ne (tgt := 342) hx hb dL_setup_334 (by decide) (fun c207 => ?_) (fun c207 => ?_)
    · exact (by revert c207; decide : False).elim
    · skip
      refine hw_ldcS hx hb hown hKs 9 (by decide) rfl dL_setup_337 ?_
      refine lv_goto (tgt := 344) hx hb dL_setup_339 (by decide) ?_
      obtain ⟨a208, ha208, hf⟩ := bnd hf
      replace ha208 := chk_some ha208
      obtain ⟨q209, hq209, hf⟩ := bnd hf
      refine hcAq hH (hrV (As := [.ref (E.2.2.2.1 (300 + 9))]) (rest := []) ha208.1 ⟨hx, hb, hml, hown, hts⟩ (k_CJ4_append_15ec4 l E q206.1 q206.2.1 a208 9 q206.2.2.2 (by decide) hq209) (cwV _ hts (gV m5_96 m5_97 m5_98 m1_17 m5_99) rfl rfl rfl hd_CJ4_append_15ec4 ⟨Nat.le_of_ble_eq_true rfl, Nat.le_of_ble_eq_true rfl⟩) ⟨HB.blind, hH.1.recv hKs ha208.2 rfl rfl, HB.preN hKs hT hb0 hH⟩ rfl hl.1 rfl rc0 dL_setup_344 ⟨Nat.le_of_ble_eq_true rfl, Nat.le_of_ble_eq_true rfl⟩) (fun H locs hH => ?_)
      refine lv_aload_n hx hb dL_setup_347 rfl (lv_at hl 2 rfl) ?_
      refine lv_bipush (v := 28) hx hb dL_setup_348 (by decide) ?_
      refine lv_iload_n hx hb dL_setup_350 rfl (lv_at hl 0 rfl) ?_
      refine lv_iadd hx hb dL_setup_351 ?_
      refine lv_iconst (v := 0) hx hb dL_setup_352 (by decide) ?_
      refine lv_iconst (v := 2) hx hb dL_setup_353 (by decide) ?_
      obtain ⟨q210, hq210, hf⟩ := bnd hf
      refine hcG_i hH (va_runS (As := [.ref (E.2.2.2.1 500), .int ((28 + 2)), .int 0, .int 2]) (rest := [rv E q209.2.2.1]) ⟨hx, hb, hml, hown, hts⟩ (k_L_draw l E hLX q209.1 H.size (28 + 2) 0 2 q209.2.2.2  hq210) (va_cwS _ hts (gS m4_59 m4_60 m1_0 m4_61) rfl rfl rfl hs_L_draw ⟨Nat.le_of_ble_eq_true rfl, Nat.le_of_ble_eq_true rfl⟩) ⟨HB.blind, HB.pre hKs hT hb0 hH⟩ rfl rfl hl.1 rfl (lv_room (rcV rc0)) dL_setup_354 ⟨Nat.le_of_ble_eq_true rfl, Nat.le_of_ble_eq_true rfl⟩) (fun H locs hH => ?_)
      refine lv_if_ne (tgt := 365) hx hb dL_setup_357 (by decide) (fun c211 => ?_) (fun c211 => ?_)
      · replace hf := (if_neg c211).symm.trans hf
        refine lv_aload_n hx hb dL_setup_365 rfl (lv_at hl 2 rfl) ?_
        refine lv_bipush (v := 28) hx hb dL_setup_366 (by decide) ?_
        refine lv_iload_n hx hb dL_setup_368 rfl (lv_at hl 0 rfl) ?_
        refine lv_iadd hx hb dL_setup_369 ?_
        refine lv_iconst (v := 0) hx hb dL_setup_370 (by decide) ?_
        refine lv_iconst (v := 2) hx hb dL_setup_371 (by decide) ?_
        obtain ⟨q212, hq212, hf⟩ := bnd hf
        refine hcG_i hH (va_runS (As := [.ref (E.2.2.2.1 500), .int ((28 + 2)), .int 0, .int 2]) (rest := [rv E q209.2.2.1]) ⟨hx, hb, hml, hown, hts⟩ (k_L_draw l E hLX q209.1 H.size (28 + 2) 0 2 q210.2  hq212) (va_cwS _ hts (gS m4_59 m4_60 m1_0 m4_61) rfl rfl rfl hs_L_draw ⟨Nat.le_of_ble_eq_true rfl, Nat.le_of_ble_eq_true rfl⟩) ⟨HB.blind, HB.pre hKs hT hb0 hH⟩ rfl rfl hl.1 rfl (lv_room (rcV rc0)) dL_setup_372 ⟨Nat.le_of_ble_eq_true rfl, Nat.le_of_ble_eq_true rfl⟩) (fun H locs hH => ?_)
        refine lv_iconst (v := 1) hx hb dL_setup_375 (by decide) ?_
        refine lv_icmp_ne (tgt := 384) hx hb dL_setup_376 (by decide) (fun c213 => ?_) (fun c213 => ?_)
        · replace hf := (if_neg c213).symm.trans hf
          refine hw_ldcS hx hb hown hKs 13 (by decide) rfl dL_setup_384 ?_
          obtain ⟨a214, ha214, hf⟩ := bnd hf
          replace ha214 := chk_some ha214
          obtain ⟨q215, hq215, hf⟩ := bnd hf
          refine hcAq hH (hrV (As := [.ref (E.2.2.2.1 (300 + 13))]) (rest := []) ha214.1 ⟨hx, hb, hml, hown, hts⟩ (k_CJ4_append_15ec4 l E q209.1 q209.2.1 a214 13 q212.2 (by decide) hq215) (cwV _ hts (gV m5_96 m5_97 m5_98 m1_17 m5_99) rfl rfl rfl hd_CJ4_append_15ec4 ⟨Nat.le_of_ble_eq_true rfl, Nat.le_of_ble_eq_true rfl⟩) ⟨HB.blind, hH.1.recv hKs ha214.2 rfl rfl, HB.preN hKs hT hb0 hH⟩ rfl hl.1 rfl rc0 dL_setup_386 ⟨Nat.le_of_ble_eq_true rfl, Nat.le_of_ble_eq_true rfl⟩) (fun H locs hH => ?_)
          refine lv_pop hx hb dL_setup_389 rv_cat ?_
          refine lv_iinc (v := 3) (lv' := [(2, .int 3), (1, rv E u1), (0, .ref (E.2.2.2.1 500))]) hx hb dL_setup_390 hl (k := 0) rfl rfl (by decide) (by simp [List.filter_cons, cat_q, cat_i, cat_j, imax, imin]) (fun ls hl => ?_)
          refine lv_goto (tgt := 256) hx hb dL_setup_393 (by decide) ?_
          exact l_L_setup_H256_3 C hLX q215.1 q215.2.1 u1 q215.2.2.2 _ _ _ hH hl hf
        · replace hf := (if_pos c213).symm.trans hf
          refine hw_ldcS hx hb hown hKs 12 (by decide) rfl dL_setup_379 ?_
          refine lv_goto (tgt := 386) hx hb dL_setup_381 (by decide) ?_
          obtain ⟨a259, ha259, hf⟩ := bnd hf
          replace ha259 := chk_some ha259
          obtain ⟨q260, hq260, hf⟩ := bnd hf
          refine hcAq hH (hrV (As := [.ref (E.2.2.2.1 (300 + 12))]) (rest := []) ha259.1 ⟨hx, hb, hml, hown, hts⟩ (k_CJ4_append_15ec4 l E q209.1 q209.2.1 a259 12 q212.2 (by decide) hq260) (cwV _ hts (gV m5_96 m5_97 m5_98 m1_17 m5_99) rfl rfl rfl hd_CJ4_append_15ec4 ⟨Nat.le_of_ble_eq_true rfl, Nat.le_of_ble_eq_true rfl⟩) ⟨HB.blind, hH.1.recv hKs ha259.2 rfl rfl, HB.preN hKs hT hb0 hH⟩ rfl hl.1 rfl rc0 dL_setup_386 ⟨Nat.le_of_ble_eq_true rfl, Nat.le_of_ble_eq_true rfl⟩) (fun H locs hH => ?_)
          refine lv_pop hx hb dL_setup_389 rv_cat ?_
          refine lv_iinc (v := 3) (lv' := [(2, .int 3), (1, rv E u1), (0, .ref (E.2.2.2.1 500))]) hx hb dL_setup_390 hl (k := 0) rfl rfl (by decide) (by simp [List.filter_cons, cat_q, cat_i, cat_j, imax, imin]) (fun ls hl => ?_)
          refine lv_goto (tgt := 256) hx hb dL_setup_393 (by decide) ?_
          exact l_L_setup_H256_3 C hLX q260.1 q260.2.1 u1 q260.2.2.2 _ _ _ hH hl hf
      · replace hf := (if_pos c211).symm.trans hf
        refine hw_ldcS hx hb hown hKs 11 (by decide) rfl dL_setup_360 ?_
        refine lv_goto (tgt := 386) hx hb dL_setup_362 (by decide) ?_
        obtain ⟨a261, ha261, hf⟩ := bnd hf
        replace ha261 := chk_some ha261
        obtain ⟨q262, hq262, hf⟩ := bnd hf
        refine hcAq hH (hrV (As := [.ref (E.2.2.2.1 (300 + 11))]) (rest := []) ha261.1 ⟨hx, hb, hml, hown, hts⟩ (k_CJ4_append_15ec4 l E q209.1 q209.2.1 a261 11 q210.2 (by decide) hq262) (cwV _ hts (gV m5_96 m5_97 m5_98 m1_17 m5_99) rfl rfl rfl hd_CJ4_append_15ec4 ⟨Nat.le_of_ble_eq_true rfl, Nat.le_of_ble_eq_true rfl⟩) ⟨HB.blind, hH.1.recv hKs ha261.2 rfl rfl, HB.preN hKs hT hb0 hH⟩ rfl hl.1 rfl rc0 dL_setup_386 ⟨Nat.le_of_ble_eq_true rfl, Nat.le_of_ble_eq_true rfl⟩) (fun H locs hH => ?_)
        refine lv_pop hx hb dL_setup_389 rv_cat ?_
        refine lv_iinc (v := 3) (lv' := [(2, .int 3), (1, rv E u1), (0, .ref (E.2.2.2.1 500))]) hx hb dL_setup_390 hl (k := 0) rfl rfl (by decide) (by simp [List.filter_cons, cat_q, cat_i, cat_j, imax, imin]) (fun ls hl => ?_)
        refine lv_goto (tgt := 256) hx hb dL_setup_393 (by decide) ?_
        exact l_L_setup_H256_3 C hLX q262.1 q262.2.1 u1 q262.2.2.2 _ _ _ hH hl hf
set_option maxHeartbeats 4000000 in
set_option maxRecDepth 100000 in
theorem l_L_setup_H256_1 (C : CX p l e s m args meth c cL_setup 3 RL (Option.some (Jvm.ClassFile.FieldType.object RJ0)) E) {L : Nat} {xs : Nat → Int32} (hLX : LX E L xs) {K' : Kd} {n' : Nat} {r : Option Nat} {w' : Wd} (K : Kd) (n : Nat) (u1 : Option Nat) (w : Wd) (H : Heap) (locs : List Loc) (ls : Array Slot) (hH : HQ E K (E.2.1 + n) w s H locs) (hl : lv_has ls 3 [(2, .int 1), (1, rv E u1), (0, .ref (E.2.2.2.1 500))]) (hf : f_L_setup_H256_1 L xs K n u1 w = some (K', n', r, w')) : W p l e ({ frames := 6, cells := 97, slots := 114008, locals := 171 } : Room) s m args below meth c H locs 62 73204 (MQ below (QR E K' (E.2.1 + n') w' r) args s 97 114008 (hA E)) (F0 m 256 ls []) := by
  obtain ⟨hx, hb, hml, hown, hts, hKs, hT, hb0, hlocks, hret⟩ := id C
  unfold f_L_setup_H256_1 at hf
  refine lv_iload_n hx hb dL_setup_256 rfl (lv_at hl 0 rfl) ?_
  refine lv_iconst (v := 4) hx hb dL_setup_257 (by decide) ?_
  refine lv_icmp_ge (tgt := 396) hx hb dL_setup_258 (by decide) (fun c158 => ?_) (fun c158 => ?_)
  · exact (by revert c158; decide : False).elim
  · skip
    refine hl_aload_n hx hb dL_setup_261 rfl (lv_at hl 1 rfl) ?_
    refine hw_ldcS hx hb hown hKs 6 (by decide) rfl dL_setup_262 ?_
    obtain ⟨a159, ha159, hf⟩ := bnd hf
    replace ha159 := chk_some ha159
    obtain ⟨q160, hq160, hf⟩ := bnd hf
    refine hcAq hH (hrV (As := [.ref (E.2.2.2.1 (300 + 6))]) (rest := []) ha159.1 ⟨hx, hb, hml, hown, hts⟩ (k_CJ4_append_15ec4 l E K n a159 6 w (by decide) hq160) (cwV _ hts (gV m5_96 m5_97 m5_98 m1_17 m5_99) rfl rfl rfl hd_CJ4_append_15ec4 ⟨Nat.le_of_ble_eq_true rfl, Nat.le_of_ble_eq_true rfl⟩) ⟨HB.blind, hH.1.recv hKs ha159.2 rfl rfl, HB.preN hKs hT hb0 hH⟩ rfl hl.1 rfl rc0 dL_setup_264 ⟨Nat.le_of_ble_eq_true rfl, Nat.le_of_ble_eq_true rfl⟩) (fun H locs hH => ?_)
    refine lv_bipush (v := 97) hx hb dL_setup_267 (by decide) ?_
    refine lv_iload_n hx hb dL_setup_269 rfl (lv_at hl 0 rfl) ?_
    refine lv_iadd hx hb dL_setup_270 ?_
    refine lv_i2c (v := (i2cI (97 + 1))) hx hb dL_setup_271 rfl ?_
    obtain ⟨a161, ha161, hf⟩ := bnd hf
    replace ha161 := chk_some ha161
    obtain ⟨q162, hq162, hf⟩ := bnd hf
    refine hcAq hH (hrV (As := [.int ((i2cI (97 + 1)))]) (rest := []) ha161.1 ⟨hx, hb, hml, hown, hts⟩ (k_J4_append_cf468 l E q160.1 q160.2.1 a161 (i2cI (97 + 1)) q160.2.2.2  hq162) (cwV _ hts (gV m5_191 m5_192 m5_193 m1_17 m5_194) rfl rfl rfl hd_J4_append_cf468 ⟨Nat.le_of_ble_eq_true rfl, Nat.le_of_ble_eq_true rfl⟩) ⟨HB.blind, hH.1.recv hKs ha161.2 rfl rfl, HB.preN hKs hT hb0 hH⟩ rfl hl.1 rfl rc0 dL_setup_272 ⟨Nat.le_of_ble_eq_true rfl, Nat.le_of_ble_eq_true rfl⟩) (fun H locs hH => ?_)
    refine hw_ldcS hx hb hown hKs 7 (by decide) rfl dL_setup_275 ?_
    obtain ⟨a163, ha163, hf⟩ := bnd hf
    replace ha163 := chk_some ha163
    obtain ⟨q164, hq164, hf⟩ := bnd hf
    refine hcAq hH (hrV (As := [.ref (E.2.2.2.1 (300 + 7))]) (rest := []) ha163.1 ⟨hx, hb, hml, hown, hts⟩ (k_CJ4_append_15ec4 l E q162.1 q162.2.1 a163 7 q162.2.2.2 (by decide) hq164) (cwV _ hts (gV m5_96 m5_97 m5_98 m1_17 m5_99) rfl rfl rfl hd_CJ4_append_15ec4 ⟨Nat.le_of_ble_eq_true rfl, Nat.le_of_ble_eq_true rfl⟩) ⟨HB.blind, hH.1.recv hKs ha163.2 rfl rfl, HB.preN hKs hT hb0 hH⟩ rfl hl.1 rfl rc0 dL_setup_277 ⟨Nat.le_of_ble_eq_true rfl, Nat.le_of_ble_eq_true rfl⟩) (fun H locs hH => ?_)
    refine lv_aload_n hx hb dL_setup_280 rfl (lv_at hl 2 rfl) ?_
    refine lv_bipush (v := 16) hx hb dL_setup_281 (by decide) ?_
    refine lv_iload_n hx hb dL_setup_283 rfl (lv_at hl 0 rfl) ?_
    refine lv_iadd hx hb dL_setup_284 ?_
    refine lv_iconst (v := 0) hx hb dL_setup_285 (by decide) ?_
    refine lv_bipush (v := 9) hx hb dL_setup_286 (by decide) ?_
    obtain ⟨q165, hq165, hf⟩ := bnd hf
    refine hcG_i hH (va_runS (As := [.ref (E.2.2.2.1 500), .int ((16 + 1)), .int 0, .int 9]) (rest := [rv E q164.2.2.1]) ⟨hx, hb, hml, hown, hts⟩ (k_L_draw l E hLX q164.1 H.size (16 + 1) 0 9 q164.2.2.2  hq165) (va_cwS _ hts (gS m4_59 m4_60 m1_0 m4_61) rfl rfl rfl hs_L_draw ⟨Nat.le_of_ble_eq_true rfl, Nat.le_of_ble_eq_true rfl⟩) ⟨HB.blind, HB.pre hKs hT hb0 hH⟩ rfl rfl hl.1 rfl (lv_room (rcV rc0)) dL_setup_288 ⟨Nat.le_of_ble_eq_true rfl, Nat.le_of_ble_eq_true rfl⟩) (fun H locs hH => ?_)
    obtain ⟨a166, ha166, hf⟩ := bnd hf
    replace ha166 := chk_some ha166
    obtain ⟨q167, hq167, hf⟩ := bnd hf
    refine hcAq hH (hrV (As := [.int (q165.1)]) (rest := []) ha166.1 ⟨hx, hb, hml, hown, hts⟩ (k_J4_append_bf812 l E q164.1 q164.2.1 a166 q165.1 q165.2  hq167) (cwV _ hts (gV m5_205 m5_206 m5_207 m1_17 m5_208) rfl rfl rfl hd_J4_append_bf812 ⟨Nat.le_of_ble_eq_true rfl, Nat.le_of_ble_eq_true rfl⟩) ⟨HB.blind, hH.1.recv hKs ha166.2 rfl rfl, HB.preN hKs hT hb0 hH⟩ rfl hl.1 rfl rc0 dL_setup_291 ⟨Nat.le_of_ble_eq_true rfl, Nat.le_of_ble_eq_true rfl⟩) (fun H locs hH => ?_)
    refine hw_ldcS hx hb hown hKs 1 (by decide) rfl dL_setup_294 ?_
    obtain ⟨a168, ha168, hf⟩ := bnd hf
    replace ha168 := chk_some ha168
    obtain ⟨q169, hq169, hf⟩ := bnd hf
    refine hcAq hH (hrV (As := [.ref (E.2.2.2.1 (300 + 1))]) (rest := []) ha168.1 ⟨hx, hb, hml, hown, hts⟩ (k_CJ4_append_15ec4 l E q167.1 q167.2.1 a168 1 q167.2.2.2 (by decide) hq169) (cwV _ hts (gV m5_96 m5_97 m5_98 m1_17 m5_99) rfl rfl rfl hd_CJ4_append_15ec4 ⟨Nat.le_of_ble_eq_true rfl, Nat.le_of_ble_eq_true rfl⟩) ⟨HB.blind, hH.1.recv hKs ha168.2 rfl rfl, HB.preN hKs hT hb0 hH⟩ rfl hl.1 rfl rc0 dL_setup_296 ⟨Nat.le_of_ble_eq_true rfl, Nat.le_of_ble_eq_true rfl⟩) (fun H locs hH => ?_)
    refine lv_aload_n hx hb dL_setup_299 rfl (lv_at hl 2 rfl) ?_
    refine lv_bipush (v := 20) hx hb dL_setup_300 (by decide) ?_
    refine lv_iload_n hx hb dL_setup_302 rfl (lv_at hl 0 rfl) ?_
    refine lv_iadd hx hb dL_setup_303 ?_
    refine lv_iconst (v := 1) hx hb dL_setup_304 (by decide) ?_
    refine lv_iconst (v := 4) hx hb dL_setup_305 (by decide) ?_
    obtain ⟨q170, hq170, hf⟩ := bnd hf
    refine hcG_i hH (va_runS (As := [.ref (E.2.2.2.1 500), .int ((20 + 1)), .int 1, .int 4]) (rest := [rv E q169.2.2.1]) ⟨hx, hb, hml, hown, hts⟩ (k_L_draw l E hLX q169.1 H.size (20 + 1) 1 4 q169.2.2.2  hq170) (va_cwS _ hts (gS m4_59 m4_60 m1_0 m4_61) rfl rfl rfl hs_L_draw ⟨Nat.le_of_ble_eq_true rfl, Nat.le_of_ble_eq_true rfl⟩) ⟨HB.blind, HB.pre hKs hT hb0 hH⟩ rfl rfl hl.1 rfl (lv_room (rcV rc0)) dL_setup_306 ⟨Nat.le_of_ble_eq_true rfl, Nat.le_of_ble_eq_true rfl⟩) (fun H locs hH => ?_)
    obtain ⟨a171, ha171, hf⟩ := bnd hf
    replace ha171 := chk_some ha171
    obtain ⟨q172, hq172, hf⟩ := bnd hf
    refine hcAq hH (hrV (As := [.int (q170.1)]) (rest := []) ha171.1 ⟨hx, hb, hml, hown, hts⟩ (k_J4_append_bf812 l E q169.1 q169.2.1 a171 q170.1 q170.2  hq172) (cwV _ hts (gV m5_205 m5_206 m5_207 m1_17 m5_208) rfl rfl rfl hd_J4_append_bf812 ⟨Nat.le_of_ble_eq_true rfl, Nat.le_of_ble_eq_true rfl⟩) ⟨HB.blind, hH.1.recv hKs ha171.2 rfl rfl, HB.preN hKs hT hb0 hH⟩ rfl hl.1 rfl rc0 dL_setup_309 ⟨Nat.le_of_ble_eq_true rfl, Nat.le_of_ble_eq_true rfl⟩) (fun H locs hH => ?_)
    refine hw_ldcS hx hb hown hKs 8 (by decide) rfl dL_setup_312 ?_
    obtain ⟨a173, ha173, hf⟩ := bnd hf
    replace ha173 := chk_some ha173
    obtain ⟨q174, hq174, hf⟩ := bnd hf
    refine hcAq hH (hrV (As := [.ref (E.2.2.2.1 (300 + 8))]) (rest := []) ha173.1 ⟨hx, hb, hml, hown, hts⟩ (k_CJ4_append_15ec4 l E q172.1 q172.2.1 a173 8 q172.2.2.2 (by decide) hq174) (cwV _ hts (gV m5_96 m5_97 m5_98 m1_17 m5_99) rfl rfl rfl hd_CJ4_append_15ec4 ⟨Nat.le_of_ble_eq_true rfl, Nat.le_of_ble_eq_true rfl⟩) ⟨HB.blind, hH.1.recv hKs ha173.2 rfl rfl, HB.preN hKs hT hb0 hH⟩ rfl hl.1 rfl rc0 dL_setup_314 ⟨Nat.le_of_ble_eq_true rfl, Nat.le_of_ble_eq_true rfl⟩) (fun H locs hH => ?_)
    refine lv_aload_n hx hb dL_setup_317 rfl (lv_at hl 2 rfl) ?_
    refine lv_bipush (v := 24) hx hb dL_setup_318 (by decide) ?_
    refine lv_iload_n hx hb dL_setup_320 rfl (lv_at hl 0 rfl) ?_
    refine lv_iadd hx hb dL_setup_321 ?_
    refine lv_iconst (v := 1) hx hb dL_setup_322 (by decide) ?_
    refine lv_bipush (v := 20) hx hb dL_setup_323 (by decide) ?_
    obtain ⟨q175, hq175, hf⟩ := bnd hf
    refine hcG_i hH (va_runS (As := [.ref (E.2.2.2.1 500), .int ((24 + 1)), .int 1, .int 20]) (rest := [rv E q174.2.2.1]) ⟨hx, hb, hml, hown, hts⟩ (k_L_draw l E hLX q174.1 H.size (24 + 1) 1 20 q174.2.2.2  hq175) (va_cwS _ hts (gS m4_59 m4_60 m1_0 m4_61) rfl rfl rfl hs_L_draw ⟨Nat.le_of_ble_eq_true rfl, Nat.le_of_ble_eq_true rfl⟩) ⟨HB.blind, HB.pre hKs hT hb0 hH⟩ rfl rfl hl.1 rfl (lv_room (rcV rc0)) dL_setup_325 ⟨Nat.le_of_ble_eq_true rfl, Nat.le_of_ble_eq_true rfl⟩) (fun H locs hH => ?_)
    obtain ⟨a176, ha176, hf⟩ := bnd hf
    replace ha176 := chk_some ha176
    obtain ⟨q177, hq177, hf⟩ := bnd hf
    refine hcAq hH (hrV (As := [.int (q175.1)]) (rest := []) ha176.1 ⟨hx, hb, hml, hown, hts⟩ (k_J4_append_bf812 l E q174.1 q174.2.1 a176 q175.1 q175.2  hq177) (cwV _ hts (gV m5_205 m5_206 m5_207 m1_17 m5_208) rfl rfl rfl hd_J4_append_bf812 ⟨Nat.le_of_ble_eq_true rfl, Nat.le_of_ble_eq_true rfl⟩) ⟨HB.blind, hH.1.recv hKs ha176.2 rfl rfl, HB.preN hKs hT hb0 hH⟩ rfl hl.1 rfl rc0 dL_setup_328 ⟨Nat.le_of_ble_eq_true rfl, Nat.le_of_ble_eq_true rfl⟩) (fun H locs hH => ?_)
    refine lv_iload_n hx hb dL_setup_331 rfl (lv_at hl 0 rfl) ?_
    refine lv_iconst (v := 2) hx hb dL_setup_332 (by decide) ?_
    refine lv_irem hx hb dL_setup_333 (by decide) ?_
    refine lv_if_ne (tgt := 342) hx hb dL_setup_334 (by decide) (fun c178 => ?_) (fun c178 => ?_)
    · skip
      refine hw_ldcS hx hb hown hKs 10 (by decide) rfl dL_setup_342 ?_
      obtain ⟨a179, ha179, hf⟩ := bnd hf
      replace ha179 := chk_some ha179
      obtain ⟨q180, hq180, hf⟩ := bnd hf
      refine hcAq hH (hrV (As := [.ref (E.2.2.2.1 (300 + 10))]) (rest := []) ha179.1 ⟨hx, hb, hml, hown, hts⟩ (k_CJ4_append_15ec4 l E q177.1 q177.2.1 a179 10 q177.2.2.2 (by decide) hq180) (cwV _ hts (gV m5_96 m5_97 m5_98 m1_17 m5_99) rfl rfl rfl hd_CJ4_append_15ec4 ⟨Nat.le_of_ble_eq_true rfl, Nat.le_of_ble_eq_true rfl⟩) ⟨HB.blind, hH.1.recv hKs ha179.2 rfl rfl, HB.preN hKs hT hb0 hH⟩ rfl hl.1 rfl rc0 dL_setup_344 ⟨Nat.le_of_ble_eq_true rfl, Nat.le_of_ble_eq_true rfl⟩) (fun H locs hH => ?_)
      refine lv_aload_n hx hb dL_setup_347 rfl (lv_at hl 2 rfl) ?_
      refine lv_bipush (v := 28) hx hb dL_setup_348 (by decide) ?_
      refine lv_iload_n hx hb dL_setup_350 rfl (lv_at hl 0 rfl) ?_
      refine lv_iadd hx hb dL_setup_351 ?_
      refine lv_iconst (v := 0) hx hb dL_setup_352 (by decide) ?_
      refine lv_iconst (v := 2) hx hb dL_setup_353 (by decide) ?_
      obtain ⟨q181, hq181, hf⟩ := bnd hf
      refine hcG_i hH (va_runS (As := [.ref (E.2.2.2.1 500), .int ((28 + 1)), .int 0, .int 2]) (rest := [rv E q180.2.2.1]) ⟨hx, hb, hml, hown, hts⟩ (k_L_draw l E hLX q180.1 H.size (28 + 1) 0 2 q180.2.2.2  hq181) (va_cwS _ hts (gS m4_59 m4_60 m1_0 m4_61) rfl rfl rfl hs_L_draw ⟨Nat.le_of_ble_eq_true rfl, Nat.le_of_ble_eq_true rfl⟩) ⟨HB.blind, HB.pre hKs hT hb0 hH⟩ rfl rfl hl.1 rfl (lv_room (rcV rc0)) dL_setup_354 ⟨Nat.le_of_ble_eq_true rfl, Nat.le_of_ble_eq_true rfl⟩) (fun H locs hH => ?_)
      refine lv_if_ne (tgt := 365) hx hb dL_setup_357 (by decide) (fun c182 => ?_) (fun c182 => ?_)
      · replace hf := (if_neg c182).symm.trans hf
        refine lv_aload_n hx hb dL_setup_365 rfl (lv_at hl 2 rfl) ?_
        refine lv_bipush (v := 28) hx hb dL_setup_366 (by decide) ?_
        refine lv_iload_n hx hb dL_setup_368 rfl (lv_at hl 0 rfl) ?_
        refine lv_iadd hx hb dL_setup_369 ?_
        refine lv_iconst (v := 0) hx hb dL_setup_370 (by decide) ?_
        refine lv_iconst (v := 2) hx hb dL_setup_371 (by decide) ?_
        obtain ⟨q183, hq183, hf⟩ := bnd hf
        refine hcG_i hH (va_runS (As := [.ref (E.2.2.2.1 500), .int ((28 + 1)), .int 0, .int 2]) (rest := [rv E q180.2.2.1]) ⟨hx, hb, hml, hown, hts⟩ (k_L_draw l E hLX q180.1 H.size (28 + 1) 0 2 q181.2  hq183) (va_cwS _ hts (gS m4_59 m4_60 m1_0 m4_61) rfl rfl rfl hs_L_draw ⟨Nat.le_of_ble_eq_true rfl, Nat.le_of_ble_eq_true rfl⟩) ⟨HB.blind, HB.pre hKs hT hb0 hH⟩ rfl rfl hl.1 rfl (lv_room (rcV rc0)) dL_setup_372 ⟨Nat.le_of_ble_eq_true rfl, Nat.le_of_ble_eq_true rfl⟩) (fun H locs hH => ?_)
        refine lv_iconst (v := 1) hx hb dL_setup_375 (by decide) ?_
        refine lv_icmp_ne (tgt := 384) hx hb dL_setup_376 (by decide) (fun c184 => ?_) (fun c184 => ?_)
        · replace hf := (if_neg c184).symm.trans hf
          refine hw_ldcS hx hb hown hKs 13 (by decide) rfl dL_setup_384 ?_
          obtain ⟨a185, ha185, hf⟩ := bnd hf
          replace ha185 := chk_some ha185
          obtain ⟨q186, hq186, hf⟩ := bnd hf
          refine hcAq hH (hrV (As := [.ref (E.2.2.2.1 (300 + 13))]) (rest := []) ha185.1 ⟨hx, hb, hml, hown, hts⟩ (k_CJ4_append_15ec4 l E q180.1 q180.2.1 a185 13 q183.2 (by decide) hq186) (cwV _ hts (gV m5_96 m5_97 m5_98 m1_17 m5_99) rfl rfl rfl hd_CJ4_append_15ec4 ⟨Nat.le_of_ble_eq_true rfl, Nat.le_of_ble_eq_true rfl⟩) ⟨HB.blind, hH.1.recv hKs ha185.2 rfl rfl, HB.preN hKs hT hb0 hH⟩ rfl hl.1 rfl rc0 dL_setup_386 ⟨Nat.le_of_ble_eq_true rfl, Nat.le_of_ble_eq_true rfl⟩) (fun H locs hH => ?_)
          refine lv_pop hx hb dL_setup_389 rv_cat ?_
          refine lv_iinc (v := 2) (lv' := [(2, .int 2), (1, rv E u1), (0, .ref (E.2.2.2.1 500))]) hx hb dL_setup_390 hl (k := 0) rfl rfl (by decide) (by simp [List.filter_cons, cat_q, cat_i, cat_j, imax, imin]) (fun ls hl => ?_)
          refine lv_goto (tgt := 256) hx hb dL_setup_393 (by decide) ?_
          exact l_L_setup_H256_2 C hLX q186.1 q186.2.1 u1 q186.2.2.2 _ _ _ hH hl hf
        · replace hf := (if_pos c184).symm.trans hf
          refine hw_ldcS hx hb hown hKs 12 (by decide) rfl dL_setup_379 ?_
          refine lv_goto (tgt := 386) hx hb dL_setup_381 (by decide) ?_
          obtain ⟨a263, ha263, hf⟩ := bnd hf
          replace ha263 := chk_some ha263
          obtain ⟨q264, hq264, hf⟩ := bnd hf
          refine hcAq hH (hrV (As := [.ref (E.2.2.2.1 (300 + 12))]) (rest := []) ha263.1 ⟨hx, hb, hml, hown, hts⟩ (k_CJ4_append_15ec4 l E q180.1 q180.2.1 a263 12 q183.2 (by decide) hq264) (cwV _ hts (gV m5_96 m5_97 m5_98 m1_17 m5_99) rfl rfl rfl hd_CJ4_append_15ec4 ⟨Nat.le_of_ble_eq_true rfl, Nat.le_of_ble_eq_true rfl⟩) ⟨HB.blind, hH.1.recv hKs ha263.2 rfl rfl, HB.preN hKs hT hb0 hH⟩ rfl hl.1 rfl rc0 dL_setup_386 ⟨Nat.le_of_ble_eq_true rfl, Nat.le_of_ble_eq_true rfl⟩) (fun H locs hH => ?_)
          refine lv_pop hx hb dL_setup_389 rv_cat ?_
          refine lv_iinc (v := 2) (lv' := [(2, .int 2), (1, rv E u1), (0, .ref (E.2.2.2.1 500))]) hx hb dL_setup_390 hl (k := 0) rfl rfl (by decide) (by simp [List.filter_cons, cat_q, cat_i, cat_j, imax, imin]) (fun ls hl => ?_)
          refine lv_goto (tgt := 256) hx hb dL_setup_393 (by decide) ?_
          exact l_L_setup_H256_2 C hLX q264.1 q264.2.1 u1 q264.2.2.2 _ _ _ hH hl hf
      · replace hf := (if_pos c182).symm.trans hf
        refine hw_ldcS hx hb hown hKs 11 (by decide) rfl dL_setup_360 ?_
        refine lv_goto (tgt := 386) hx hb dL_setup_362 (by decide) ?_
        obtain ⟨a265, ha265, hf⟩ := bnd hf
        replace ha265 := chk_some ha265
        obtain ⟨q266, hq266, hf⟩ := bnd hf
        refine hcAq hH (hrV (As := [.ref (E.2.2.2.1 (300 + 11))]) (rest := []) ha265.1 ⟨hx, hb, hml, hown, hts⟩ (k_CJ4_append_15ec4 l E q180.1 q180.2.1 a265 11 q181.2 (by decide) hq266) (cwV _ hts (gV m5_96 m5_97 m5_98 m1_17 m5_99) rfl rfl rfl hd_CJ4_append_15ec4 ⟨Nat.le_of_ble_eq_true rfl, Nat.le_of_ble_eq_true rfl⟩) ⟨HB.blind, hH.1.recv hKs ha265.2 rfl rfl, HB.preN hKs hT hb0 hH⟩ rfl hl.1 rfl rc0 dL_setup_386 ⟨Nat.le_of_ble_eq_true rfl, Nat.le_of_ble_eq_true rfl⟩) (fun H locs hH => ?_)
        refine lv_pop hx hb dL_setup_389 rv_cat ?_
        refine lv_iinc (v := 2) (lv' := [(2, .int 2), (1, rv E u1), (0, .ref (E.2.2.2.1 500))]) hx hb dL_setup_390 hl (k := 0) rfl rfl (by decide) (by simp [List.filter_cons, cat_q, cat_i, cat_j, imax, imin]) (fun ls hl => ?_)
        refine lv_goto (tgt := 256) hx hb dL_setup_393 (by decide) ?_
        exact l_L_setup_H256_2 C hLX q266.1 q266.2.1 u1 q266.2.2.2 _ _ _ hH hl hf
    · exact (by revert c178; decide : False).elim
set_option maxHeartbeats 4000000 in
set_option maxRecDepth 100000 in
theorem l_L_setup_H256_0 (C : CX p l e s m args meth c cL_setup 3 RL (Option.some (Jvm.ClassFile.FieldType.object RJ0)) E) {L : Nat} {xs : Nat → Int32} (hLX : LX E L xs) {K' : Kd} {n' : Nat} {r : Option Nat} {w' : Wd} (K : Kd) (n : Nat) (u1 : Option Nat) (w : Wd) (H : Heap) (locs : List Loc) (ls : Array Slot) (hH : HQ E K (E.2.1 + n) w s H locs) (hl : lv_has ls 3 [(2, .int 0), (1, rv E u1), (0, .ref (E.2.2.2.1 500))]) (hf : f_L_setup_H256_0 L xs K n u1 w = some (K', n', r, w')) : W p l e ({ frames := 6, cells := 97, slots := 114008, locals := 171 } : Room) s m args below meth c H locs 52 61204 (MQ below (QR E K' (E.2.1 + n') w' r) args s 97 114008 (hA E)) (F0 m 256 ls []) := by
  obtain ⟨hx, hb, hml, hown, hts, hKs, hT, hb0, hlocks, hret⟩ := id C
  unfold f_L_setup_H256_0 at hf
  refine lv_iload_n hx hb dL_setup_256 rfl (lv_at hl 0 rfl) ?_
  refine lv_iconst (v := 4) hx hb dL_setup_257 (by decide) ?_
  refine lv_icmp_ge (tgt := 396) hx hb dL_setup_258 (by decide) (fun c129 => ?_) (fun c129 => ?_)
  · exact (by revert c129; decide : False).elim
  · skip
    refine hl_aload_n hx hb dL_setup_261 rfl (lv_at hl 1 rfl) ?_
    refine hw_ldcS hx hb hown hKs 6 (by decide) rfl dL_setup_262 ?_
    obtain ⟨a130, ha130, hf⟩ := bnd hf
    replace ha130 := chk_some ha130
    obtain ⟨q131, hq131, hf⟩ := bnd hf
    refine hcAq hH (hrV (As := [.ref (E.2.2.2.1 (300 + 6))]) (rest := []) ha130.1 ⟨hx, hb, hml, hown, hts⟩ (k_CJ4_append_15ec4 l E K n a130 6 w (by decide) hq131) (cwV _ hts (gV m5_96 m5_97 m5_98 m1_17 m5_99) rfl rfl rfl hd_CJ4_append_15ec4 ⟨Nat.le_of_ble_eq_true rfl, Nat.le_of_ble_eq_true rfl⟩) ⟨HB.blind, hH.1.recv hKs ha130.2 rfl rfl, HB.preN hKs hT hb0 hH⟩ rfl hl.1 rfl rc0 dL_setup_264 ⟨Nat.le_of_ble_eq_true rfl, Nat.le_of_ble_eq_true rfl⟩) (fun H locs hH => ?_)
    refine lv_bipush (v := 97) hx hb dL_setup_267 (by decide) ?_
    refine lv_iload_n hx hb dL_setup_269 rfl (lv_at hl 0 rfl) ?_
    refine lv_iadd hx hb dL_setup_270 ?_
    refine lv_i2c (v := (i2cI (97 + 0))) hx hb dL_setup_271 rfl ?_
    obtain ⟨a132, ha132, hf⟩ := bnd hf
    replace ha132 := chk_some ha132
    obtain ⟨q133, hq133, hf⟩ := bnd hf
    refine hcAq hH (hrV (As := [.int ((i2cI (97 + 0)))]) (rest := []) ha132.1 ⟨hx, hb, hml, hown, hts⟩ (k_J4_append_cf468 l E q131.1 q131.2.1 a132 (i2cI (97 + 0)) q131.2.2.2  hq133) (cwV _ hts (gV m5_191 m5_192 m5_193 m1_17 m5_194) rfl rfl rfl hd_J4_append_cf468 ⟨Nat.le_of_ble_eq_true rfl, Nat.le_of_ble_eq_true rfl⟩) ⟨HB.blind, hH.1.recv hKs ha132.2 rfl rfl, HB.preN hKs hT hb0 hH⟩ rfl hl.1 rfl rc0 dL_setup_272 ⟨Nat.le_of_ble_eq_true rfl, Nat.le_of_ble_eq_true rfl⟩) (fun H locs hH => ?_)
    refine hw_ldcS hx hb hown hKs 7 (by decide) rfl dL_setup_275 ?_
    obtain ⟨a134, ha134, hf⟩ := bnd hf
    replace ha134 := chk_some ha134
    obtain ⟨q135, hq135, hf⟩ := bnd hf
    refine hcAq hH (hrV (As := [.ref (E.2.2.2.1 (300 + 7))]) (rest := []) ha134.1 ⟨hx, hb, hml, hown, hts⟩ (k_CJ4_append_15ec4 l E q133.1 q133.2.1 a134 7 q133.2.2.2 (by decide) hq135) (cwV _ hts (gV m5_96 m5_97 m5_98 m1_17 m5_99) rfl rfl rfl hd_CJ4_append_15ec4 ⟨Nat.le_of_ble_eq_true rfl, Nat.le_of_ble_eq_true rfl⟩) ⟨HB.blind, hH.1.recv hKs ha134.2 rfl rfl, HB.preN hKs hT hb0 hH⟩ rfl hl.1 rfl rc0 dL_setup_277 ⟨Nat.le_of_ble_eq_true rfl, Nat.le_of_ble_eq_true rfl⟩) (fun H locs hH => ?_)
    refine lv_aload_n hx hb dL_setup_280 rfl (lv_at hl 2 rfl) ?_
    refine lv_bipush (v := 16) hx hb dL_setup_281 (by decide) ?_
    refine lv_iload_n hx hb dL_setup_283 rfl (lv_at hl 0 rfl) ?_
    refine lv_iadd hx hb dL_setup_284 ?_
    refine lv_iconst (v := 0) hx hb dL_setup_285 (by decide) ?_
    refine lv_bipush (v := 9) hx hb dL_setup_286 (by decide) ?_
    obtain ⟨q136, hq136, hf⟩ := bnd hf
    refine hcG_i hH (va_runS (As := [.ref (E.2.2.2.1 500), .int ((16 + 0)), .int 0, .int 9]) (rest := [rv E q135.2.2.1]) ⟨hx, hb, hml, hown, hts⟩ (k_L_draw l E hLX q135.1 H.size (16 + 0) 0 9 q135.2.2.2  hq136) (va_cwS _ hts (gS m4_59 m4_60 m1_0 m4_61) rfl rfl rfl hs_L_draw ⟨Nat.le_of_ble_eq_true rfl, Nat.le_of_ble_eq_true rfl⟩) ⟨HB.blind, HB.pre hKs hT hb0 hH⟩ rfl rfl hl.1 rfl (lv_room (rcV rc0)) dL_setup_288 ⟨Nat.le_of_ble_eq_true rfl, Nat.le_of_ble_eq_true rfl⟩) (fun H locs hH => ?_)
    obtain ⟨a137, ha137, hf⟩ := bnd hf
    replace ha137 := chk_some ha137
    obtain ⟨q138, hq138, hf⟩ := bnd hf
    refine hcAq hH (hrV (As := [.int (q136.1)]) (rest := []) ha137.1 ⟨hx, hb, hml, hown, hts⟩ (k_J4_append_bf812 l E q135.1 q135.2.1 a137 q136.1 q136.2  hq138) (cwV _ hts (gV m5_205 m5_206 m5_207 m1_17 m5_208) rfl rfl rfl hd_J4_append_bf812 ⟨Nat.le_of_ble_eq_true rfl, Nat.le_of_ble_eq_true rfl⟩) ⟨HB.blind, hH.1.recv hKs ha137.2 rfl rfl, HB.preN hKs hT hb0 hH⟩ rfl hl.1 rfl rc0 dL_setup_291 ⟨Nat.le_of_ble_eq_true rfl, Nat.le_of_ble_eq_true rfl⟩) (fun H locs hH => ?_)
    refine hw_ldcS hx hb hown hKs 1 (by decide) rfl dL_setup_294 ?_
    obtain ⟨a139, ha139, hf⟩ := bnd hf
    replace ha139 := chk_some ha139
    obtain ⟨q140, hq140, hf⟩ := bnd hf
    refine hcAq hH (hrV (As := [.ref (E.2.2.2.1 (300 + 1))]) (rest := []) ha139.1 ⟨hx, hb, hml, hown, hts⟩ (k_CJ4_append_15ec4 l E q138.1 q138.2.1 a139 1 q138.2.2.2 (by decide) hq140) (cwV _ hts (gV m5_96 m5_97 m5_98 m1_17 m5_99) rfl rfl rfl hd_CJ4_append_15ec4 ⟨Nat.le_of_ble_eq_true rfl, Nat.le_of_ble_eq_true rfl⟩) ⟨HB.blind, hH.1.recv hKs ha139.2 rfl rfl, HB.preN hKs hT hb0 hH⟩ rfl hl.1 rfl rc0 dL_setup_296 ⟨Nat.le_of_ble_eq_true rfl, Nat.le_of_ble_eq_true rfl⟩) (fun H locs hH => ?_)
    refine lv_aload_n hx hb dL_setup_299 rfl (lv_at hl 2 rfl) ?_
    refine lv_bipush (v := 20) hx hb dL_setup_300 (by decide) ?_
    refine lv_iload_n hx hb dL_setup_302 rfl (lv_at hl 0 rfl) ?_
    refine lv_iadd hx hb dL_setup_303 ?_
    refine lv_iconst (v := 1) hx hb dL_setup_304 (by decide) ?_
    refine lv_iconst (v := 4) hx hb dL_setup_305 (by decide) ?_
    obtain ⟨q141, hq141, hf⟩ := bnd hf
    refine hcG_i hH (va_runS (As := [.ref (E.2.2.2.1 500), .int ((20 + 0)), .int 1, .int 4]) (rest := [rv E q140.2.2.1]) ⟨hx, hb, hml, hown, hts⟩ (k_L_draw l E hLX q140.1 H.size (20 + 0) 1 4 q140.2.2.2  hq141) (va_cwS _ hts (gS m4_59 m4_60 m1_0 m4_61) rfl rfl rfl hs_L_draw ⟨Nat.le_of_ble_eq_true rfl, Nat.le_of_ble_eq_true rfl⟩) ⟨HB.blind, HB.pre hKs hT hb0 hH⟩ rfl rfl hl.1 rfl (lv_room (rcV rc0)) dL_setup_306 ⟨Nat.le_of_ble_eq_true rfl, Nat.le_of_ble_eq_true rfl⟩) (fun H locs hH => ?_)
    obtain ⟨a142, ha142, hf⟩ := bnd hf
    replace ha142 := chk_some ha142
    obtain ⟨q143, hq143, hf⟩ := bnd hf
    refine hcAq hH (hrV (As := [.int (q141.1)]) (rest := []) ha142.1 ⟨hx, hb, hml, hown, hts⟩ (k_J4_append_bf812 l E q140.1 q140.2.1 a142 q141.1 q141.2  hq143) (cwV _ hts (gV m5_205 m5_206 m5_207 m1_17 m5_208) rfl rfl rfl hd_J4_append_bf812 ⟨Nat.le_of_ble_eq_true rfl, Nat.le_of_ble_eq_true rfl⟩) ⟨HB.blind, hH.1.recv hKs ha142.2 rfl rfl, HB.preN hKs hT hb0 hH⟩ rfl hl.1 rfl rc0 dL_setup_309 ⟨Nat.le_of_ble_eq_true rfl, Nat.le_of_ble_eq_true rfl⟩) (fun H locs hH => ?_)
    refine hw_ldcS hx hb hown hKs 8 (by decide) rfl dL_setup_312 ?_
    obtain ⟨a144, ha144, hf⟩ := bnd hf
    replace ha144 := chk_some ha144
    obtain ⟨q145, hq145, hf⟩ := bnd hf
    refine hcAq hH (hrV (As := [.ref (E.2.2.2.1 (300 + 8))]) (rest := []) ha144.1 ⟨hx, hb, hml, hown, hts⟩ (k_CJ4_append_15ec4 l E q143.1 q143.2.1 a144 8 q143.2.2.2 (by decide) hq145) (cwV _ hts (gV m5_96 m5_97 m5_98 m1_17 m5_99) rfl rfl rfl hd_CJ4_append_15ec4 ⟨Nat.le_of_ble_eq_true rfl, Nat.le_of_ble_eq_true rfl⟩) ⟨HB.blind, hH.1.recv hKs ha144.2 rfl rfl, HB.preN hKs hT hb0 hH⟩ rfl hl.1 rfl rc0 dL_setup_314 ⟨Nat.le_of_ble_eq_true rfl, Nat.le_of_ble_eq_true rfl⟩) (fun H locs hH => ?_)
    refine lv_aload_n hx hb dL_setup_317 rfl (lv_at hl 2 rfl) ?_
    refine lv_bipush (v := 24) hx hb dL_setup_318 (by decide) ?_
    refine lv_iload_n hx hb dL_setup_320 rfl (lv_at hl 0 rfl) ?_
    refine lv_iadd hx hb dL_setup_321 ?_
    refine lv_iconst (v := 1) hx hb dL_setup_322 (by decide) ?_
    refine lv_bipush (v := 20) hx hb dL_setup_323 (by decide) ?_
    obtain ⟨q146, hq146, hf⟩ := bnd hf
    refine hcG_i hH (va_runS (As := [.ref (E.2.2.2.1 500), .int ((24 + 0)), .int 1, .int 20]) (rest := [rv E q145.2.2.1]) ⟨hx, hb, hml, hown, hts⟩ (k_L_draw l E hLX q145.1 H.size (24 + 0) 1 20 q145.2.2.2  hq146) (va_cwS _ hts (gS m4_59 m4_60 m1_0 m4_61) rfl rfl rfl hs_L_draw ⟨Nat.le_of_ble_eq_true rfl, Nat.le_of_ble_eq_true rfl⟩) ⟨HB.blind, HB.pre hKs hT hb0 hH⟩ rfl rfl hl.1 rfl (lv_room (rcV rc0)) dL_setup_325 ⟨Nat.le_of_ble_eq_true rfl, Nat.le_of_ble_eq_true rfl⟩) (fun H locs hH => ?_)
    obtain ⟨a147, ha147, hf⟩ := bnd hf
    replace ha147 := chk_some ha147
    obtain ⟨q148, hq148, hf⟩ := bnd hf
    refine hcAq hH (hrV (As := [.int (q146.1)]) (rest := []) ha147.1 ⟨hx, hb, hml, hown, hts⟩ (k_J4_append_bf812 l E q145.1 q145.2.1 a147 q146.1 q146.2  hq148) (cwV _ hts (gV m5_205 m5_206 m5_207 m1_17 m5_208) rfl rfl rfl hd_J4_append_bf812 ⟨Nat.le_of_ble_eq_true rfl, Nat.le_of_ble_eq_true rfl⟩) ⟨HB.blind, hH.1.recv hKs ha147.2 rfl rfl, HB.preN hKs hT hb0 hH⟩ rfl hl.1 rfl rc0 dL_setup_328 ⟨Nat.le_of_ble_eq_true rfl, Nat.le_of_ble_eq_true rfl⟩) (fun H locs hH => ?_)
    refine lv_iload_n hx hb dL_setup_331 rfl (lv_at hl 0 rfl) ?_
    refine lv_iconst (v := 2) hx hb dL_setup_332 (by decide) ?_
    refine lv_irem hx hb dL_setup_333 (by decide) ?_
    refine lv_if_ne (tgt := 342) hx hb dL_setup_334 (by decide) (fun c149 => ?_) (fun c149 => ?_)
    · exact (by revert c149; decide : False).elim
    · skip
      refine hw_ldcS hx hb hown hKs 9 (by decide) rfl dL_setup_337 ?_
      refine lv_goto (tgt := 344) hx hb dL_setup_339 (by decide) ?_
      obtain ⟨a150, ha150, hf⟩ := bnd hf
      replace ha150 := chk_some ha150
      obtain ⟨q151, hq151, hf⟩ := bnd hf
      refine hcAq hH (hrV (As := [.ref (E.2.2.2.1 (300 + 9))]) (rest := []) ha150.1 ⟨hx, hb, hml, hown, hts⟩ (k_CJ4_append_15ec4 l E q148.1 q148.2.1 a150 9 q148.2.2.2 (by decide) hq151) (cwV _ hts (gV m5_96 m5_97 m5_98 m1_17 m5_99) rfl rfl rfl hd_CJ4_append_15ec4 ⟨Nat.le_of_ble_eq_true rfl, Nat.le_of_ble_eq_true rfl⟩) ⟨HB.blind, hH.1.recv hKs ha150.2 rfl rfl, HB.preN hKs hT hb0 hH⟩ rfl hl.1 rfl rc0 dL_setup_344 ⟨Nat.le_of_ble_eq_true rfl, Nat.le_of_ble_eq_true rfl⟩) (fun H locs hH => ?_)
      refine lv_aload_n hx hb dL_setup_347 rfl (lv_at hl 2 rfl) ?_
      refine lv_bipush (v := 28) hx hb dL_setup_348 (by decide) ?_
      refine lv_iload_n hx hb dL_setup_350 rfl (lv_at hl 0 rfl) ?_
      refine lv_iadd hx hb dL_setup_351 ?_
      refine lv_iconst (v := 0) hx hb dL_setup_352 (by decide) ?_
      refine lv_iconst (v := 2) hx hb dL_setup_353 (by decide) ?_
      obtain ⟨q152, hq152, hf⟩ := bnd hf
      refine hcG_i hH (va_runS (As := [.ref (E.2.2.2.1 500), .int ((28 + 0)), .int 0, .int 2]) (rest := [rv E q151.2.2.1]) ⟨hx, hb, hml, hown, hts⟩ (k_L_draw l E hLX q151.1 H.size (28 + 0) 0 2 q151.2.2.2  hq152) (va_cwS _ hts (gS m4_59 m4_60 m1_0 m4_61) rfl rfl rfl hs_L_draw ⟨Nat.le_of_ble_eq_true rfl, Nat.le_of_ble_eq_true rfl⟩) ⟨HB.blind, HB.pre hKs hT hb0 hH⟩ rfl rfl hl.1 rfl (lv_room (rcV rc0)) dL_setup_354 ⟨Nat.le_of_ble_eq_true rfl, Nat.le_of_ble_eq_true rfl⟩) (fun H locs hH => ?_)
      refine lv_if_ne (tgt := 365) hx hb dL_setup_357 (by decide) (fun c153 => ?_) (fun c153 => ?_)
      · replace hf := (if_neg c153).symm.trans hf
        refine lv_aload_n hx hb dL_setup_365 rfl (lv_at hl 2 rfl) ?_
        refine lv_bipush (v := 28) hx hb dL_setup_366 (by decide) ?_
        refine lv_iload_n hx hb dL_setup_368 rfl (lv_at hl 0 rfl) ?_
        refine lv_iadd hx hb dL_setup_369 ?_
        refine lv_iconst (v := 0) hx hb dL_setup_370 (by decide) ?_
        refine lv_iconst (v := 2) hx hb dL_setup_371 (by decide) ?_
        obtain ⟨q154, hq154, hf⟩ := bnd hf
        refine hcG_i hH (va_runS (As := [.ref (E.2.2.2.1 500), .int ((28 + 0)), .int 0, .int 2]) (rest := [rv E q151.2.2.1]) ⟨hx, hb, hml, hown, hts⟩ (k_L_draw l E hLX q151.1 H.size (28 + 0) 0 2 q152.2  hq154) (va_cwS _ hts (gS m4_59 m4_60 m1_0 m4_61) rfl rfl rfl hs_L_draw ⟨Nat.le_of_ble_eq_true rfl, Nat.le_of_ble_eq_true rfl⟩) ⟨HB.blind, HB.pre hKs hT hb0 hH⟩ rfl rfl hl.1 rfl (lv_room (rcV rc0)) dL_setup_372 ⟨Nat.le_of_ble_eq_true rfl, Nat.le_of_ble_eq_true rfl⟩) (fun H locs hH => ?_)
        refine lv_iconst (v := 1) hx hb dL_setup_375 (by decide) ?_
        refine lv_icmp_ne (tgt := 384) hx hb dL_setup_376 (by decide) (fun c155 => ?_) (fun c155 => ?_)
        · replace hf := (if_neg c155).symm.trans hf
          refine hw_ldcS hx hb hown hKs 13 (by decide) rfl dL_setup_384 ?_
          obtain ⟨a156, ha156, hf⟩ := bnd hf
          replace ha156 := chk_some ha156
          obtain ⟨q157, hq157, hf⟩ := bnd hf
          refine hcAq hH (hrV (As := [.ref (E.2.2.2.1 (300 + 13))]) (rest := []) ha156.1 ⟨hx, hb, hml, hown, hts⟩ (k_CJ4_append_15ec4 l E q151.1 q151.2.1 a156 13 q154.2 (by decide) hq157) (cwV _ hts (gV m5_96 m5_97 m5_98 m1_17 m5_99) rfl rfl rfl hd_CJ4_append_15ec4 ⟨Nat.le_of_ble_eq_true rfl, Nat.le_of_ble_eq_true rfl⟩) ⟨HB.blind, hH.1.recv hKs ha156.2 rfl rfl, HB.preN hKs hT hb0 hH⟩ rfl hl.1 rfl rc0 dL_setup_386 ⟨Nat.le_of_ble_eq_true rfl, Nat.le_of_ble_eq_true rfl⟩) (fun H locs hH => ?_)
          refine lv_pop hx hb dL_setup_389 rv_cat ?_
          refine lv_iinc (v := 1) (lv' := [(2, .int 1), (1, rv E u1), (0, .ref (E.2.2.2.1 500))]) hx hb dL_setup_390 hl (k := 0) rfl rfl (by decide) (by simp [List.filter_cons, cat_q, cat_i, cat_j, imax, imin]) (fun ls hl => ?_)
          refine lv_goto (tgt := 256) hx hb dL_setup_393 (by decide) ?_
          exact l_L_setup_H256_1 C hLX q157.1 q157.2.1 u1 q157.2.2.2 _ _ _ hH hl hf
        · replace hf := (if_pos c155).symm.trans hf
          refine hw_ldcS hx hb hown hKs 12 (by decide) rfl dL_setup_379 ?_
          refine lv_goto (tgt := 386) hx hb dL_setup_381 (by decide) ?_
          obtain ⟨a267, ha267, hf⟩ := bnd hf
          replace ha267 := chk_some ha267
          obtain ⟨q268, hq268, hf⟩ := bnd hf
          refine hcAq hH (hrV (As := [.ref (E.2.2.2.1 (300 + 12))]) (rest := []) ha267.1 ⟨hx, hb, hml, hown, hts⟩ (k_CJ4_append_15ec4 l E q151.1 q151.2.1 a267 12 q154.2 (by decide) hq268) (cwV _ hts (gV m5_96 m5_97 m5_98 m1_17 m5_99) rfl rfl rfl hd_CJ4_append_15ec4 ⟨Nat.le_of_ble_eq_true rfl, Nat.le_of_ble_eq_true rfl⟩) ⟨HB.blind, hH.1.recv hKs ha267.2 rfl rfl, HB.preN hKs hT hb0 hH⟩ rfl hl.1 rfl rc0 dL_setup_386 ⟨Nat.le_of_ble_eq_true rfl, Nat.le_of_ble_eq_true rfl⟩) (fun H locs hH => ?_)
          refine lv_pop hx hb dL_setup_389 rv_cat ?_
          refine lv_iinc (v := 1) (lv' := [(2, .int 1), (1, rv E u1), (0, .ref (E.2.2.2.1 500))]) hx hb dL_setup_390 hl (k := 0) rfl rfl (by decide) (by simp [List.filter_cons, cat_q, cat_i, cat_j, imax, imin]) (fun ls hl => ?_)
          refine lv_goto (tgt := 256) hx hb dL_setup_393 (by decide) ?_
          exact l_L_setup_H256_1 C hLX q268.1 q268.2.1 u1 q268.2.2.2 _ _ _ hH hl hf
      · replace hf := (if_pos c153).symm.trans hf
        refine hw_ldcS hx hb hown hKs 11 (by decide) rfl dL_setup_360 ?_
        refine lv_goto (tgt := 386) hx hb dL_setup_362 (by decide) ?_
        obtain ⟨a269, ha269, hf⟩ := bnd hf
        replace ha269 := chk_some ha269
        obtain ⟨q270, hq270, hf⟩ := bnd hf
        refine hcAq hH (hrV (As := [.ref (E.2.2.2.1 (300 + 11))]) (rest := []) ha269.1 ⟨hx, hb, hml, hown, hts⟩ (k_CJ4_append_15ec4 l E q151.1 q151.2.1 a269 11 q152.2 (by decide) hq270) (cwV _ hts (gV m5_96 m5_97 m5_98 m1_17 m5_99) rfl rfl rfl hd_CJ4_append_15ec4 ⟨Nat.le_of_ble_eq_true rfl, Nat.le_of_ble_eq_true rfl⟩) ⟨HB.blind, hH.1.recv hKs ha269.2 rfl rfl, HB.preN hKs hT hb0 hH⟩ rfl hl.1 rfl rc0 dL_setup_386 ⟨Nat.le_of_ble_eq_true rfl, Nat.le_of_ble_eq_true rfl⟩) (fun H locs hH => ?_)
        refine lv_pop hx hb dL_setup_389 rv_cat ?_
        refine lv_iinc (v := 1) (lv' := [(2, .int 1), (1, rv E u1), (0, .ref (E.2.2.2.1 500))]) hx hb dL_setup_390 hl (k := 0) rfl rfl (by decide) (by simp [List.filter_cons, cat_q, cat_i, cat_j, imax, imin]) (fun ls hl => ?_)
        refine lv_goto (tgt := 256) hx hb dL_setup_393 (by decide) ?_
        exact l_L_setup_H256_1 C hLX q270.1 q270.2.1 u1 q270.2.2.2 _ _ _ hH hl hf
set_option maxHeartbeats 4000000 in
set_option maxRecDepth 100000 in
theorem l_L_setup_H147_2 (C : CX p l e s m args meth c cL_setup 3 RL (Option.some (Jvm.ClassFile.FieldType.object RJ0)) E) {L : Nat} {xs : Nat → Int32} (hLX : LX E L xs) {K' : Kd} {n' : Nat} {r : Option Nat} {w' : Wd} (K : Kd) (n : Nat) (u1 : Option Nat) (w : Wd) (H : Heap) (locs : List Loc) (ls : Array Slot) (hH : HQ E K (E.2.1 + n) w s H locs) (hl : lv_has ls 3 [(2, .int 2), (1, rv E u1), (0, .ref (E.2.2.2.1 500))]) (hf : f_L_setup_H147_2 L xs K n u1 w = some (K', n', r, w')) : W p l e ({ frames := 6, cells := 97, slots := 114008, locals := 171 } : Room) s m args below meth c H locs 52 61204 (MQ below (QR E K' (E.2.1 + n') w' r) args s 97 114008 (hA E)) (F0 m 147 ls []) := by
  obtain ⟨hx, hb, hml, hown, hts, hKs, hT, hb0, hlocks, hret⟩ := id C
  unfold f_L_setup_H147_2 at hf
  refine lv_iload_n hx hb dL_setup_147 rfl (lv_at hl 0 rfl) ?_
  refine lv_iconst (v := 2) hx hb dL_setup_148 (by decide) ?_
  refine lv_icmp_ge (tgt := 254) hx hb dL_setup_149 (by decide) (fun c128 => ?_) (fun c128 => ?_)
  · skip
    refine lv_iconst (v := 0) hx hb dL_setup_254 (by decide) ?_
    refine lv_istore_n (i := 2) (lv' := [(2, .int 0), (1, rv E u1), (0, .ref (E.2.2.2.1 500))]) hx hb dL_setup_255 rfl hl (by decide) (by simp [List.filter_cons, cat_q, cat_i, cat_j, imax, imin]) (fun ls hl => ?_)
    exact l_L_setup_H256_0 C hLX K n u1 w _ _ _ hH hl hf
  · exact (by revert c128; decide : False).elim
set_option maxHeartbeats 4000000 in
set_option maxRecDepth 100000 in
theorem l_L_setup_H147_1 (C : CX p l e s m args meth c cL_setup 3 RL (Option.some (Jvm.ClassFile.FieldType.object RJ0)) E) {L : Nat} {xs : Nat → Int32} (hLX : LX E L xs) {K' : Kd} {n' : Nat} {r : Option Nat} {w' : Wd} (K : Kd) (n : Nat) (u1 : Option Nat) (w : Wd) (H : Heap) (locs : List Loc) (ls : Array Slot) (hH : HQ E K (E.2.1 + n) w s H locs) (hl : lv_has ls 3 [(2, .int 1), (1, rv E u1), (0, .ref (E.2.2.2.1 500))]) (hf : f_L_setup_H147_1 L xs K n u1 w = some (K', n', r, w')) : W p l e ({ frames := 6, cells := 97, slots := 114008, locals := 171 } : Room) s m args below meth c H locs 41 48004 (MQ below (QR E K' (E.2.1 + n') w' r) args s 97 114008 (hA E)) (F0 m 147 ls []) := by
  obtain ⟨hx, hb, hml, hown, hts, hKs, hT, hb0, hlocks, hret⟩ := id C
  unfold f_L_setup_H147_1 at hf
  refine lv_iload_n hx hb dL_setup_147 rfl (lv_at hl 0 rfl) ?_
  refine lv_iconst (v := 2) hx hb dL_setup_148 (by decide) ?_
  refine lv_icmp_ge (tgt := 254) hx hb dL_setup_149 (by decide) (fun c101 => ?_) (fun c101 => ?_)
  · exact (by revert c101; decide : False).elim
  · skip
    refine hl_aload_n hx hb dL_setup_152 rfl (lv_at hl 1 rfl) ?_
    refine hw_ldcS hx hb hown hKs 4 (by decide) rfl dL_setup_153 ?_
    obtain ⟨a102, ha102, hf⟩ := bnd hf
    replace ha102 := chk_some ha102
    obtain ⟨q103, hq103, hf⟩ := bnd hf
    refine hcAq hH (hrV (As := [.ref (E.2.2.2.1 (300 + 4))]) (rest := []) ha102.1 ⟨hx, hb, hml, hown, hts⟩ (k_CJ4_append_15ec4 l E K n a102 4 w (by decide) hq103) (cwV _ hts (gV m5_96 m5_97 m5_98 m1_17 m5_99) rfl rfl rfl hd_CJ4_append_15ec4 ⟨Nat.le_of_ble_eq_true rfl, Nat.le_of_ble_eq_true rfl⟩) ⟨HB.blind, hH.1.recv hKs ha102.2 rfl rfl, HB.preN hKs hT hb0 hH⟩ rfl hl.1 rfl rc0 dL_setup_155 ⟨Nat.le_of_ble_eq_true rfl, Nat.le_of_ble_eq_true rfl⟩) (fun H locs hH => ?_)
    refine lv_bipush (v := 119) hx hb dL_setup_158 (by decide) ?_
    refine lv_iload_n hx hb dL_setup_160 rfl (lv_at hl 0 rfl) ?_
    refine lv_iadd hx hb dL_setup_161 ?_
    refine lv_i2c (v := (i2cI (119 + 1))) hx hb dL_setup_162 rfl ?_
    obtain ⟨a104, ha104, hf⟩ := bnd hf
    replace ha104 := chk_some ha104
    obtain ⟨q105, hq105, hf⟩ := bnd hf
    refine hcAq hH (hrV (As := [.int ((i2cI (119 + 1)))]) (rest := []) ha104.1 ⟨hx, hb, hml, hown, hts⟩ (k_J4_append_cf468 l E q103.1 q103.2.1 a104 (i2cI (119 + 1)) q103.2.2.2  hq105) (cwV _ hts (gV m5_191 m5_192 m5_193 m1_17 m5_194) rfl rfl rfl hd_J4_append_cf468 ⟨Nat.le_of_ble_eq_true rfl, Nat.le_of_ble_eq_true rfl⟩) ⟨HB.blind, hH.1.recv hKs ha104.2 rfl rfl, HB.preN hKs hT hb0 hH⟩ rfl hl.1 rfl rc0 dL_setup_163 ⟨Nat.le_of_ble_eq_true rfl, Nat.le_of_ble_eq_true rfl⟩) (fun H locs hH => ?_)
    refine hw_ldcS hx hb hown hKs 5 (by decide) rfl dL_setup_166 ?_
    obtain ⟨a106, ha106, hf⟩ := bnd hf
    replace ha106 := chk_some ha106
    obtain ⟨q107, hq107, hf⟩ := bnd hf
    refine hcAq hH (hrV (As := [.ref (E.2.2.2.1 (300 + 5))]) (rest := []) ha106.1 ⟨hx, hb, hml, hown, hts⟩ (k_CJ4_append_15ec4 l E q105.1 q105.2.1 a106 5 q105.2.2.2 (by decide) hq107) (cwV _ hts (gV m5_96 m5_97 m5_98 m1_17 m5_99) rfl rfl rfl hd_CJ4_append_15ec4 ⟨Nat.le_of_ble_eq_true rfl, Nat.le_of_ble_eq_true rfl⟩) ⟨HB.blind, hH.1.recv hKs ha106.2 rfl rfl, HB.preN hKs hT hb0 hH⟩ rfl hl.1 rfl rc0 dL_setup_168 ⟨Nat.le_of_ble_eq_true rfl, Nat.le_of_ble_eq_true rfl⟩) (fun H locs hH => ?_)
    refine lv_aload_n hx hb dL_setup_171 rfl (lv_at hl 2 rfl) ?_
    refine lv_bipush (v := 8) hx hb dL_setup_172 (by decide) ?_
    refine lv_iload_n hx hb dL_setup_174 rfl (lv_at hl 0 rfl) ?_
    refine lv_iadd hx hb dL_setup_175 ?_
    refine lv_iconst (v := 0) hx hb dL_setup_176 (by decide) ?_
    refine lv_bipush (v := 9) hx hb dL_setup_177 (by decide) ?_
    obtain ⟨q108, hq108, hf⟩ := bnd hf
    refine hcG_i hH (va_runS (As := [.ref (E.2.2.2.1 500), .int ((8 + 1)), .int 0, .int 9]) (rest := [rv E q107.2.2.1]) ⟨hx, hb, hml, hown, hts⟩ (k_L_draw l E hLX q107.1 H.size (8 + 1) 0 9 q107.2.2.2  hq108) (va_cwS _ hts (gS m4_59 m4_60 m1_0 m4_61) rfl rfl rfl hs_L_draw ⟨Nat.le_of_ble_eq_true rfl, Nat.le_of_ble_eq_true rfl⟩) ⟨HB.blind, HB.pre hKs hT hb0 hH⟩ rfl rfl hl.1 rfl (lv_room (rcV rc0)) dL_setup_179 ⟨Nat.le_of_ble_eq_true rfl, Nat.le_of_ble_eq_true rfl⟩) (fun H locs hH => ?_)
    obtain ⟨a109, ha109, hf⟩ := bnd hf
    replace ha109 := chk_some ha109
    obtain ⟨q110, hq110, hf⟩ := bnd hf
    refine hcAq hH (hrV (As := [.int (q108.1)]) (rest := []) ha109.1 ⟨hx, hb, hml, hown, hts⟩ (k_J4_append_bf812 l E q107.1 q107.2.1 a109 q108.1 q108.2  hq110) (cwV _ hts (gV m5_205 m5_206 m5_207 m1_17 m5_208) rfl rfl rfl hd_J4_append_bf812 ⟨Nat.le_of_ble_eq_true rfl, Nat.le_of_ble_eq_true rfl⟩) ⟨HB.blind, hH.1.recv hKs ha109.2 rfl rfl, HB.preN hKs hT hb0 hH⟩ rfl hl.1 rfl rc0 dL_setup_182 ⟨Nat.le_of_ble_eq_true rfl, Nat.le_of_ble_eq_true rfl⟩) (fun H locs hH => ?_)
    refine lv_bipush (v := 32) hx hb dL_setup_185 (by decide) ?_
    obtain ⟨a111, ha111, hf⟩ := bnd hf
    replace ha111 := chk_some ha111
    obtain ⟨q112, hq112, hf⟩ := bnd hf
    refine hcAq hH (hrV (As := [.int 32]) (rest := []) ha111.1 ⟨hx, hb, hml, hown, hts⟩ (k_J4_append_cf468 l E q110.1 q110.2.1 a111 32 q110.2.2.2  hq112) (cwV _ hts (gV m5_191 m5_192 m5_193 m1_17 m5_194) rfl rfl rfl hd_J4_append_cf468 ⟨Nat.le_of_ble_eq_true rfl, Nat.le_of_ble_eq_true rfl⟩) ⟨HB.blind, hH.1.recv hKs ha111.2 rfl rfl, HB.preN hKs hT hb0 hH⟩ rfl hl.1 rfl rc0 dL_setup_187 ⟨Nat.le_of_ble_eq_true rfl, Nat.le_of_ble_eq_true rfl⟩) (fun H locs hH => ?_)
    refine lv_aload_n hx hb dL_setup_190 rfl (lv_at hl 2 rfl) ?_
    refine lv_bipush (v := 10) hx hb dL_setup_191 (by decide) ?_
    refine lv_iload_n hx hb dL_setup_193 rfl (lv_at hl 0 rfl) ?_
    refine lv_iadd hx hb dL_setup_194 ?_
    refine lv_bipush (v := 9) hx hb dL_setup_195 (by decide) ?_
    refine lv_bipush (v := 60) hx hb dL_setup_197 (by decide) ?_
    obtain ⟨q113, hq113, hf⟩ := bnd hf
    refine hcG_i hH (va_runS (As := [.ref (E.2.2.2.1 500), .int ((10 + 1)), .int 9, .int 60]) (rest := [rv E q112.2.2.1]) ⟨hx, hb, hml, hown, hts⟩ (k_L_draw l E hLX q112.1 H.size (10 + 1) 9 60 q112.2.2.2  hq113) (va_cwS _ hts (gS m4_59 m4_60 m1_0 m4_61) rfl rfl rfl hs_L_draw ⟨Nat.le_of_ble_eq_true rfl, Nat.le_of_ble_eq_true rfl⟩) ⟨HB.blind, HB.pre hKs hT hb0 hH⟩ rfl rfl hl.1 rfl (lv_room (rcV rc0)) dL_setup_199 ⟨Nat.le_of_ble_eq_true rfl, Nat.le_of_ble_eq_true rfl⟩) (fun H locs hH => ?_)
    obtain ⟨a114, ha114, hf⟩ := bnd hf
    replace ha114 := chk_some ha114
    obtain ⟨q115, hq115, hf⟩ := bnd hf
    refine hcAq hH (hrV (As := [.int (q113.1)]) (rest := []) ha114.1 ⟨hx, hb, hml, hown, hts⟩ (k_J4_append_bf812 l E q112.1 q112.2.1 a114 q113.1 q113.2  hq115) (cwV _ hts (gV m5_205 m5_206 m5_207 m1_17 m5_208) rfl rfl rfl hd_J4_append_bf812 ⟨Nat.le_of_ble_eq_true rfl, Nat.le_of_ble_eq_true rfl⟩) ⟨HB.blind, hH.1.recv hKs ha114.2 rfl rfl, HB.preN hKs hT hb0 hH⟩ rfl hl.1 rfl rc0 dL_setup_202 ⟨Nat.le_of_ble_eq_true rfl, Nat.le_of_ble_eq_true rfl⟩) (fun H locs hH => ?_)
    refine hw_ldcS hx hb hown hKs 1 (by decide) rfl dL_setup_205 ?_
    obtain ⟨a116, ha116, hf⟩ := bnd hf
    replace ha116 := chk_some ha116
    obtain ⟨q117, hq117, hf⟩ := bnd hf
    refine hcAq hH (hrV (As := [.ref (E.2.2.2.1 (300 + 1))]) (rest := []) ha116.1 ⟨hx, hb, hml, hown, hts⟩ (k_CJ4_append_15ec4 l E q115.1 q115.2.1 a116 1 q115.2.2.2 (by decide) hq117) (cwV _ hts (gV m5_96 m5_97 m5_98 m1_17 m5_99) rfl rfl rfl hd_CJ4_append_15ec4 ⟨Nat.le_of_ble_eq_true rfl, Nat.le_of_ble_eq_true rfl⟩) ⟨HB.blind, hH.1.recv hKs ha116.2 rfl rfl, HB.preN hKs hT hb0 hH⟩ rfl hl.1 rfl rc0 dL_setup_207 ⟨Nat.le_of_ble_eq_true rfl, Nat.le_of_ble_eq_true rfl⟩) (fun H locs hH => ?_)
    refine lv_aload_n hx hb dL_setup_210 rfl (lv_at hl 2 rfl) ?_
    refine lv_bipush (v := 12) hx hb dL_setup_211 (by decide) ?_
    refine lv_iload_n hx hb dL_setup_213 rfl (lv_at hl 0 rfl) ?_
    refine lv_iadd hx hb dL_setup_214 ?_
    refine lv_iconst (v := 0) hx hb dL_setup_215 (by decide) ?_
    refine lv_iconst (v := 1) hx hb dL_setup_216 (by decide) ?_
    obtain ⟨q118, hq118, hf⟩ := bnd hf
    refine hcG_i hH (va_runS (As := [.ref (E.2.2.2.1 500), .int ((12 + 1)), .int 0, .int 1]) (rest := [rv E q117.2.2.1]) ⟨hx, hb, hml, hown, hts⟩ (k_L_draw l E hLX q117.1 H.size (12 + 1) 0 1 q117.2.2.2  hq118) (va_cwS _ hts (gS m4_59 m4_60 m1_0 m4_61) rfl rfl rfl hs_L_draw ⟨Nat.le_of_ble_eq_true rfl, Nat.le_of_ble_eq_true rfl⟩) ⟨HB.blind, HB.pre hKs hT hb0 hH⟩ rfl rfl hl.1 rfl (lv_room (rcV rc0)) dL_setup_217 ⟨Nat.le_of_ble_eq_true rfl, Nat.le_of_ble_eq_true rfl⟩) (fun H locs hH => ?_)
    obtain ⟨a119, ha119, hf⟩ := bnd hf
    replace ha119 := chk_some ha119
    obtain ⟨q120, hq120, hf⟩ := bnd hf
    refine hcAq hH (hrV (As := [.int (q118.1)]) (rest := []) ha119.1 ⟨hx, hb, hml, hown, hts⟩ (k_J4_append_bf812 l E q117.1 q117.2.1 a119 q118.1 q118.2  hq120) (cwV _ hts (gV m5_205 m5_206 m5_207 m1_17 m5_208) rfl rfl rfl hd_J4_append_bf812 ⟨Nat.le_of_ble_eq_true rfl, Nat.le_of_ble_eq_true rfl⟩) ⟨HB.blind, hH.1.recv hKs ha119.2 rfl rfl, HB.preN hKs hT hb0 hH⟩ rfl hl.1 rfl rc0 dL_setup_220 ⟨Nat.le_of_ble_eq_true rfl, Nat.le_of_ble_eq_true rfl⟩) (fun H locs hH => ?_)
    refine lv_bipush (v := 32) hx hb dL_setup_223 (by decide) ?_
    obtain ⟨a121, ha121, hf⟩ := bnd hf
    replace ha121 := chk_some ha121
    obtain ⟨q122, hq122, hf⟩ := bnd hf
    refine hcAq hH (hrV (As := [.int 32]) (rest := []) ha121.1 ⟨hx, hb, hml, hown, hts⟩ (k_J4_append_cf468 l E q120.1 q120.2.1 a121 32 q120.2.2.2  hq122) (cwV _ hts (gV m5_191 m5_192 m5_193 m1_17 m5_194) rfl rfl rfl hd_J4_append_cf468 ⟨Nat.le_of_ble_eq_true rfl, Nat.le_of_ble_eq_true rfl⟩) ⟨HB.blind, hH.1.recv hKs ha121.2 rfl rfl, HB.preN hKs hT hb0 hH⟩ rfl hl.1 rfl rc0 dL_setup_225 ⟨Nat.le_of_ble_eq_true rfl, Nat.le_of_ble_eq_true rfl⟩) (fun H locs hH => ?_)
    refine lv_aload_n hx hb dL_setup_228 rfl (lv_at hl 2 rfl) ?_
    refine lv_bipush (v := 14) hx hb dL_setup_229 (by decide) ?_
    refine lv_iload_n hx hb dL_setup_231 rfl (lv_at hl 0 rfl) ?_
    refine lv_iadd hx hb dL_setup_232 ?_
    refine lv_iconst (v := 4) hx hb dL_setup_233 (by decide) ?_
    refine lv_bipush (v := 7) hx hb dL_setup_234 (by decide) ?_
    obtain ⟨q123, hq123, hf⟩ := bnd hf
    refine hcG_i hH (va_runS (As := [.ref (E.2.2.2.1 500), .int ((14 + 1)), .int 4, .int 7]) (rest := [rv E q122.2.2.1]) ⟨hx, hb, hml, hown, hts⟩ (k_L_draw l E hLX q122.1 H.size (14 + 1) 4 7 q122.2.2.2  hq123) (va_cwS _ hts (gS m4_59 m4_60 m1_0 m4_61) rfl rfl rfl hs_L_draw ⟨Nat.le_of_ble_eq_true rfl, Nat.le_of_ble_eq_true rfl⟩) ⟨HB.blind, HB.pre hKs hT hb0 hH⟩ rfl rfl hl.1 rfl (lv_room (rcV rc0)) dL_setup_236 ⟨Nat.le_of_ble_eq_true rfl, Nat.le_of_ble_eq_true rfl⟩) (fun H locs hH => ?_)
    obtain ⟨a124, ha124, hf⟩ := bnd hf
    replace ha124 := chk_some ha124
    obtain ⟨q125, hq125, hf⟩ := bnd hf
    refine hcAq hH (hrV (As := [.int (q123.1)]) (rest := []) ha124.1 ⟨hx, hb, hml, hown, hts⟩ (k_J4_append_bf812 l E q122.1 q122.2.1 a124 q123.1 q123.2  hq125) (cwV _ hts (gV m5_205 m5_206 m5_207 m1_17 m5_208) rfl rfl rfl hd_J4_append_bf812 ⟨Nat.le_of_ble_eq_true rfl, Nat.le_of_ble_eq_true rfl⟩) ⟨HB.blind, hH.1.recv hKs ha124.2 rfl rfl, HB.preN hKs hT hb0 hH⟩ rfl hl.1 rfl rc0 dL_setup_239 ⟨Nat.le_of_ble_eq_true rfl, Nat.le_of_ble_eq_true rfl⟩) (fun H locs hH => ?_)
    refine lv_bipush (v := 59) hx hb dL_setup_242 (by decide) ?_
    obtain ⟨a126, ha126, hf⟩ := bnd hf
    replace ha126 := chk_some ha126
    obtain ⟨q127, hq127, hf⟩ := bnd hf
    refine hcAq hH (hrV (As := [.int 59]) (rest := []) ha126.1 ⟨hx, hb, hml, hown, hts⟩ (k_J4_append_cf468 l E q125.1 q125.2.1 a126 59 q125.2.2.2  hq127) (cwV _ hts (gV m5_191 m5_192 m5_193 m1_17 m5_194) rfl rfl rfl hd_J4_append_cf468 ⟨Nat.le_of_ble_eq_true rfl, Nat.le_of_ble_eq_true rfl⟩) ⟨HB.blind, hH.1.recv hKs ha126.2 rfl rfl, HB.preN hKs hT hb0 hH⟩ rfl hl.1 rfl rc0 dL_setup_244 ⟨Nat.le_of_ble_eq_true rfl, Nat.le_of_ble_eq_true rfl⟩) (fun H locs hH => ?_)
    refine lv_pop hx hb dL_setup_247 rv_cat ?_
    refine lv_iinc (v := 2) (lv' := [(2, .int 2), (1, rv E u1), (0, .ref (E.2.2.2.1 500))]) hx hb dL_setup_248 hl (k := 0) rfl rfl (by decide) (by simp [List.filter_cons, cat_q, cat_i, cat_j, imax, imin]) (fun ls hl => ?_)
    refine lv_goto (tgt := 147) hx hb dL_setup_251 (by decide) ?_
    exact l_L_setup_H147_2 C hLX q127.1 q127.2.1 u1 q127.2.2.2 _ _ _ hH hl hf
set_option maxHeartbeats 4000000 in
set_option maxRecDepth 100000 in
theorem l_L_setup_H147_0 (C : CX p l e s m args meth c cL_setup 3 RL (Option.some (Jvm.ClassFile.FieldType.object RJ0)) E) {L : Nat} {xs : Nat → Int32} (hLX : LX E L xs) {K' : Kd} {n' : Nat} {r : Option Nat} {w' : Wd} (K : Kd) (n : Nat) (u1 : Option Nat) (w : Wd) (H : Heap) (locs : List Loc) (ls : Array Slot) (hH : HQ E K (E.2.1 + n) w s H locs) (hl : lv_has ls 3 [(2, .int 0), (1, rv E u1), (0, .ref (E.2.2.2.1 500))]) (hf : f_L_setup_H147_0 L xs K n u1 w = some (K', n', r, w')) : W p l e ({ frames := 6, cells := 97, slots := 114008, locals := 171 } : Room) s m args below meth c H locs 30 34804 (MQ below (QR E K' (E.2.1 + n') w' r) args s 97 114008 (hA E)) (F0 m 147 ls []) := by
  obtain ⟨hx, hb, hml, hown, hts, hKs, hT, hb0, hlocks, hret⟩ := id C
  unfold f_L_setup_H147_0 at hf
  refine lv_iload_n hx hb dL_setup_147 rfl (lv_at hl 0 rfl) ?_
  refine lv_iconst (v := 2) hx hb dL_setup_148 (by decide) ?_
  refine lv_icmp_ge (tgt := 254) hx hb dL_setup_149 (by decide) (fun c74 => ?_) (fun c74 => ?_)
  · exact (by revert c74; decide : False).elim
  · skip
    refine hl_aload_n hx hb dL_setup_152 rfl (lv_at hl 1 rfl) ?_
    refine hw_ldcS hx hb hown hKs 4 (by decide) rfl dL_setup_153 ?_
    obtain ⟨a75, ha75, hf⟩ := bnd hf
    replace ha75 := chk_some ha75
    obtain ⟨q76, hq76, hf⟩ := bnd hf
    refine hcAq hH (hrV (As := [.ref (E.2.2.2.1 (300 + 4))]) (rest := []) ha75.1 ⟨hx, hb, hml, hown, hts⟩ (k_CJ4_append_15ec4 l E K n a75 4 w (by decide) hq76) (cwV _ hts (gV m5_96 m5_97 m5_98 m1_17 m5_99) rfl rfl rfl hd_CJ4_append_15ec4 ⟨Nat.le_of_ble_eq_true rfl, Nat.le_of_ble_eq_true rfl⟩) ⟨HB.blind, hH.1.recv hKs ha75.2 rfl rfl, HB.preN hKs hT hb0 hH⟩ rfl hl.1 rfl rc0 dL_setup_155 ⟨Nat.le_of_ble_eq_true rfl, Nat.le_of_ble_eq_true rfl⟩) (fun H locs hH => ?_)
    refine lv_bipush (v := 119) hx hb dL_setup_158 (by decide) ?_
    refine lv_iload_n hx hb dL_setup_160 rfl (lv_at hl 0 rfl) ?_
    refine lv_iadd hx hb dL_setup_161 ?_
    refine lv_i2c (v := (i2cI (119 + 0))) hx hb dL_setup_162 rfl ?_
    obtain ⟨a77, ha77, hf⟩ := bnd hf
    replace ha77 := chk_some ha77
    obtain ⟨q78, hq78, hf⟩ := bnd hf
    refine hcAq hH (hrV (As := [.int ((i2cI (119 + 0)))]) (rest := []) ha77.1 ⟨hx, hb, hml, hown, hts⟩ (k_J4_append_cf468 l E q76.1 q76.2.1 a77 (i2cI (119 + 0)) q76.2.2.2  hq78) (cwV _ hts (gV m5_191 m5_192 m5_193 m1_17 m5_194) rfl rfl rfl hd_J4_append_cf468 ⟨Nat.le_of_ble_eq_true rfl, Nat.le_of_ble_eq_true rfl⟩) ⟨HB.blind, hH.1.recv hKs ha77.2 rfl rfl, HB.preN hKs hT hb0 hH⟩ rfl hl.1 rfl rc0 dL_setup_163 ⟨Nat.le_of_ble_eq_true rfl, Nat.le_of_ble_eq_true rfl⟩) (fun H locs hH => ?_)
    refine hw_ldcS hx hb hown hKs 5 (by decide) rfl dL_setup_166 ?_
    obtain ⟨a79, ha79, hf⟩ := bnd hf
    replace ha79 := chk_some ha79
    obtain ⟨q80, hq80, hf⟩ := bnd hf
    refine hcAq hH (hrV (As := [.ref (E.2.2.2.1 (300 + 5))]) (rest := []) ha79.1 ⟨hx, hb, hml, hown, hts⟩ (k_CJ4_append_15ec4 l E q78.1 q78.2.1 a79 5 q78.2.2.2 (by decide) hq80) (cwV _ hts (gV m5_96 m5_97 m5_98 m1_17 m5_99) rfl rfl rfl hd_CJ4_append_15ec4 ⟨Nat.le_of_ble_eq_true rfl, Nat.le_of_ble_eq_true rfl⟩) ⟨HB.blind, hH.1.recv hKs ha79.2 rfl rfl, HB.preN hKs hT hb0 hH⟩ rfl hl.1 rfl rc0 dL_setup_168 ⟨Nat.le_of_ble_eq_true rfl, Nat.le_of_ble_eq_true rfl⟩) (fun H locs hH => ?_)
    refine lv_aload_n hx hb dL_setup_171 rfl (lv_at hl 2 rfl) ?_
    refine lv_bipush (v := 8) hx hb dL_setup_172 (by decide) ?_
    refine lv_iload_n hx hb dL_setup_174 rfl (lv_at hl 0 rfl) ?_
    refine lv_iadd hx hb dL_setup_175 ?_
    refine lv_iconst (v := 0) hx hb dL_setup_176 (by decide) ?_
    refine lv_bipush (v := 9) hx hb dL_setup_177 (by decide) ?_
    obtain ⟨q81, hq81, hf⟩ := bnd hf
    refine hcG_i hH (va_runS (As := [.ref (E.2.2.2.1 500), .int ((8 + 0)), .int 0, .int 9]) (rest := [rv E q80.2.2.1]) ⟨hx, hb, hml, hown, hts⟩ (k_L_draw l E hLX q80.1 H.size (8 + 0) 0 9 q80.2.2.2  hq81) (va_cwS _ hts (gS m4_59 m4_60 m1_0 m4_61) rfl rfl rfl hs_L_draw ⟨Nat.le_of_ble_eq_true rfl, Nat.le_of_ble_eq_true rfl⟩) ⟨HB.blind, HB.pre hKs hT hb0 hH⟩ rfl rfl hl.1 rfl (lv_room (rcV rc0)) dL_setup_179 ⟨Nat.le_of_ble_eq_true rfl, Nat.le_of_ble_eq_true rfl⟩) (fun H locs hH => ?_)
    obtain ⟨a82, ha82, hf⟩ := bnd hf
    replace ha82 := chk_some ha82
    obtain ⟨q83, hq83, hf⟩ := bnd hf
    refine hcAq hH (hrV (As := [.int (q81.1)]) (rest := []) ha82.1 ⟨hx, hb, hml, hown, hts⟩ (k_J4_append_bf812 l E q80.1 q80.2.1 a82 q81.1 q81.2  hq83) (cwV _ hts (gV m5_205 m5_206 m5_207 m1_17 m5_208) rfl rfl rfl hd_J4_append_bf812 ⟨Nat.le_of_ble_eq_true rfl, Nat.le_of_ble_eq_true rfl⟩) ⟨HB.blind, hH.1.recv hKs ha82.2 rfl rfl, HB.preN hKs hT hb0 hH⟩ rfl hl.1 rfl rc0 dL_setup_182 ⟨Nat.le_of_ble_eq_true rfl, Nat.le_of_ble_eq_true rfl⟩) (fun H locs hH => ?_)
    refine lv_bipush (v := 32) hx hb dL_setup_185 (by decide) ?_
    obtain ⟨a84, ha84, hf⟩ := bnd hf
    replace ha84 := chk_some ha84
    obtain ⟨q85, hq85, hf⟩ := bnd hf
    refine hcAq hH (hrV (As := [.int 32]) (rest := []) ha84.1 ⟨hx, hb, hml, hown, hts⟩ (k_J4_append_cf468 l E q83.1 q83.2.1 a84 32 q83.2.2.2  hq85) (cwV _ hts (gV m5_191 m5_192 m5_193 m1_17 m5_194) rfl rfl rfl hd_J4_append_cf468 ⟨Nat.le_of_ble_eq_true rfl, Nat.le_of_ble_eq_true rfl⟩) ⟨HB.blind, hH.1.recv hKs ha84.2 rfl rfl, HB.preN hKs hT hb0 hH⟩ rfl hl.1 rfl rc0 dL_setup_187 ⟨Nat.le_of_ble_eq_true rfl, Nat.le_of_ble_eq_true rfl⟩) (fun H locs hH => ?_)
    refine lv_aload_n hx hb dL_setup_190 rfl (lv_at hl 2 rfl) ?_
    refine lv_bipush (v := 10) hx hb dL_setup_191 (by decide) ?_
    refine lv_iload_n hx hb dL_setup_193 rfl (lv_at hl 0 rfl) ?_
    refine lv_iadd hx hb dL_setup_194 ?_
    refine lv_bipush (v := 9) hx hb dL_setup_195 (by decide) ?_
    refine lv_bipush (v := 60) hx hb dL_setup_197 (by decide) ?_
    obtain ⟨q86, hq86, hf⟩ := bnd hf
    refine hcG_i hH (va_runS (As := [.ref (E.2.2.2.1 500), .int ((10 + 0)), .int 9, .int 60]) (rest := [rv E q85.2.2.1]) ⟨hx, hb, hml, hown, hts⟩ (k_L_draw l E hLX q85.1 H.size (10 + 0) 9 60 q85.2.2.2  hq86) (va_cwS _ hts (gS m4_59 m4_60 m1_0 m4_61) rfl rfl rfl hs_L_draw ⟨Nat.le_of_ble_eq_true rfl, Nat.le_of_ble_eq_true rfl⟩) ⟨HB.blind, HB.pre hKs hT hb0 hH⟩ rfl rfl hl.1 rfl (lv_room (rcV rc0)) dL_setup_199 ⟨Nat.le_of_ble_eq_true rfl, Nat.le_of_ble_eq_true rfl⟩) (fun H locs hH => ?_)
    obtain ⟨a87, ha87, hf⟩ := bnd hf
    replace ha87 := chk_some ha87
    obtain ⟨q88, hq88, hf⟩ := bnd hf
    refine hcAq hH (hrV (As := [.int (q86.1)]) (rest := []) ha87.1 ⟨hx, hb, hml, hown, hts⟩ (k_J4_append_bf812 l E q85.1 q85.2.1 a87 q86.1 q86.2  hq88) (cwV _ hts (gV m5_205 m5_206 m5_207 m1_17 m5_208) rfl rfl rfl hd_J4_append_bf812 ⟨Nat.le_of_ble_eq_true rfl, Nat.le_of_ble_eq_true rfl⟩) ⟨HB.blind, hH.1.recv hKs ha87.2 rfl rfl, HB.preN hKs hT hb0 hH⟩ rfl hl.1 rfl rc0 dL_setup_202 ⟨Nat.le_of_ble_eq_true rfl, Nat.le_of_ble_eq_true rfl⟩) (fun H locs hH => ?_)
    refine hw_ldcS hx hb hown hKs 1 (by decide) rfl dL_setup_205 ?_
    obtain ⟨a89, ha89, hf⟩ := bnd hf
    replace ha89 := chk_some ha89
    obtain ⟨q90, hq90, hf⟩ := bnd hf
    refine hcAq hH (hrV (As := [.ref (E.2.2.2.1 (300 + 1))]) (rest := []) ha89.1 ⟨hx, hb, hml, hown, hts⟩ (k_CJ4_append_15ec4 l E q88.1 q88.2.1 a89 1 q88.2.2.2 (by decide) hq90) (cwV _ hts (gV m5_96 m5_97 m5_98 m1_17 m5_99) rfl rfl rfl hd_CJ4_append_15ec4 ⟨Nat.le_of_ble_eq_true rfl, Nat.le_of_ble_eq_true rfl⟩) ⟨HB.blind, hH.1.recv hKs ha89.2 rfl rfl, HB.preN hKs hT hb0 hH⟩ rfl hl.1 rfl rc0 dL_setup_207 ⟨Nat.le_of_ble_eq_true rfl, Nat.le_of_ble_eq_true rfl⟩) (fun H locs hH => ?_)
    refine lv_aload_n hx hb dL_setup_210 rfl (lv_at hl 2 rfl) ?_
    refine lv_bipush (v := 12) hx hb dL_setup_211 (by decide) ?_
    refine lv_iload_n hx hb dL_setup_213 rfl (lv_at hl 0 rfl) ?_
    refine lv_iadd hx hb dL_setup_214 ?_
    refine lv_iconst (v := 0) hx hb dL_setup_215 (by decide) ?_
    refine lv_iconst (v := 1) hx hb dL_setup_216 (by decide) ?_
    obtain ⟨q91, hq91, hf⟩ := bnd hf
    refine hcG_i hH (va_runS (As := [.ref (E.2.2.2.1 500), .int ((12 + 0)), .int 0, .int 1]) (rest := [rv E q90.2.2.1]) ⟨hx, hb, hml, hown, hts⟩ (k_L_draw l E hLX q90.1 H.size (12 + 0) 0 1 q90.2.2.2  hq91) (va_cwS _ hts (gS m4_59 m4_60 m1_0 m4_61) rfl rfl rfl hs_L_draw ⟨Nat.le_of_ble_eq_true rfl, Nat.le_of_ble_eq_true rfl⟩) ⟨HB.blind, HB.pre hKs hT hb0 hH⟩ rfl rfl hl.1 rfl (lv_room (rcV rc0)) dL_setup_217 ⟨Nat.le_of_ble_eq_true rfl, Nat.le_of_ble_eq_true rfl⟩) (fun H locs hH => ?_)
    obtain ⟨a92, ha92, hf⟩ := bnd hf
    replace ha92 := chk_some ha92
    obtain ⟨q93, hq93, hf⟩ := bnd hf
    refine hcAq hH (hrV (As := [.int (q91.1)]) (rest := []) ha92.1 ⟨hx, hb, hml, hown, hts⟩ (k_J4_append_bf812 l E q90.1 q90.2.1 a92 q91.1 q91.2  hq93) (cwV _ hts (gV m5_205 m5_206 m5_207 m1_17 m5_208) rfl rfl rfl hd_J4_append_bf812 ⟨Nat.le_of_ble_eq_true rfl, Nat.le_of_ble_eq_true rfl⟩) ⟨HB.blind, hH.1.recv hKs ha92.2 rfl rfl, HB.preN hKs hT hb0 hH⟩ rfl hl.1 rfl rc0 dL_setup_220 ⟨Nat.le_of_ble_eq_true rfl, Nat.le_of_ble_eq_true rfl⟩) (fun H locs hH => ?_)
    refine lv_bipush (v := 32) hx hb dL_setup_223 (by decide) ?_
    obtain ⟨a94, ha94, hf⟩ := bnd hf
    replace ha94 := chk_some ha94
    obtain ⟨q95, hq95, hf⟩ := bnd hf
    refine hcAq hH (hrV (As := [.int 32]) (rest := []) ha94.1 ⟨hx, hb, hml, hown, hts⟩ (k_J4_append_cf468 l E q93.1 q93.2.1 a94 32 q93.2.2.2  hq95) (cwV _ hts (gV m5_191 m5_192 m5_193 m1_17 m5_194) rfl rfl rfl hd_J4_append_cf468 ⟨Nat.le_of_ble_eq_true rfl, Nat.le_of_ble_eq_true rfl⟩) ⟨HB.blind, hH.1.recv hKs ha94.2 rfl rfl, HB.preN hKs hT hb0 hH⟩ rfl hl.1 rfl rc0 dL_setup_225 ⟨Nat.le_of_ble_eq_true rfl, Nat.le_of_ble_eq_true rfl⟩) (fun H locs hH => ?_)
    refine lv_aload_n hx hb dL_setup_228 rfl (lv_at hl 2 rfl) ?_
    refine lv_bipush (v := 14) hx hb dL_setup_229 (by decide) ?_
    refine lv_iload_n hx hb dL_setup_231 rfl (lv_at hl 0 rfl) ?_
    refine lv_iadd hx hb dL_setup_232 ?_
    refine lv_iconst (v := 4) hx hb dL_setup_233 (by decide) ?_
    refine lv_bipush (v := 7) hx hb dL_setup_234 (by decide) ?_
    obtain ⟨q96, hq96, hf⟩ := bnd hf
    refine hcG_i hH (va_runS (As := [.ref (E.2.2.2.1 500), .int ((14 + 0)), .int 4, .int 7]) (rest := [rv E q95.2.2.1]) ⟨hx, hb, hml, hown, hts⟩ (k_L_draw l E hLX q95.1 H.size (14 + 0) 4 7 q95.2.2.2  hq96) (va_cwS _ hts (gS m4_59 m4_60 m1_0 m4_61) rfl rfl rfl hs_L_draw ⟨Nat.le_of_ble_eq_true rfl, Nat.le_of_ble_eq_true rfl⟩) ⟨HB.blind, HB.pre hKs hT hb0 hH⟩ rfl rfl hl.1 rfl (lv_room (rcV rc0)) dL_setup_236 ⟨Nat.le_of_ble_eq_true rfl, Nat.le_of_ble_eq_true rfl⟩) (fun H locs hH => ?_)
    obtain ⟨a97, ha97, hf⟩ := bnd hf
    replace ha97 := chk_some ha97
    obtain ⟨q98, hq98, hf⟩ := bnd hf
    refine hcAq hH (hrV (As := [.int (q96.1)]) (rest := []) ha97.1 ⟨hx, hb, hml, hown, hts⟩ (k_J4_append_bf812 l E q95.1 q95.2.1 a97 q96.1 q96.2  hq98) (cwV _ hts (gV m5_205 m5_206 m5_207 m1_17 m5_208) rfl rfl rfl hd_J4_append_bf812 ⟨Nat.le_of_ble_eq_true rfl, Nat.le_of_ble_eq_true rfl⟩) ⟨HB.blind, hH.1.recv hKs ha97.2 rfl rfl, HB.preN hKs hT hb0 hH⟩ rfl hl.1 rfl rc0 dL_setup_239 ⟨Nat.le_of_ble_eq_true rfl, Nat.le_of_ble_eq_true rfl⟩) (fun H locs hH => ?_)
    refine lv_bipush (v := 59) hx hb dL_setup_242 (by decide) ?_
    obtain ⟨a99, ha99, hf⟩ := bnd hf
    replace ha99 := chk_some ha99
    obtain ⟨q100, hq100, hf⟩ := bnd hf
    refine hcAq hH (hrV (As := [.int 59]) (rest := []) ha99.1 ⟨hx, hb, hml, hown, hts⟩ (k_J4_append_cf468 l E q98.1 q98.2.1 a99 59 q98.2.2.2  hq100) (cwV _ hts (gV m5_191 m5_192 m5_193 m1_17 m5_194) rfl rfl rfl hd_J4_append_cf468 ⟨Nat.le_of_ble_eq_true rfl, Nat.le_of_ble_eq_true rfl⟩) ⟨HB.blind, hH.1.recv hKs ha99.2 rfl rfl, HB.preN hKs hT hb0 hH⟩ rfl hl.1 rfl rc0 dL_setup_244 ⟨Nat.le_of_ble_eq_true rfl, Nat.le_of_ble_eq_true rfl⟩) (fun H locs hH => ?_)
    refine lv_pop hx hb dL_setup_247 rv_cat ?_
    refine lv_iinc (v := 1) (lv' := [(2, .int 1), (1, rv E u1), (0, .ref (E.2.2.2.1 500))]) hx hb dL_setup_248 hl (k := 0) rfl rfl (by decide) (by simp [List.filter_cons, cat_q, cat_i, cat_j, imax, imin]) (fun ls hl => ?_)
    refine lv_goto (tgt := 147) hx hb dL_setup_251 (by decide) ?_
    exact l_L_setup_H147_1 C hLX q100.1 q100.2.1 u1 q100.2.2.2 _ _ _ hH hl hf
set_option maxHeartbeats 4000000 in
set_option maxRecDepth 100000 in
theorem l_L_setup_H76_2 (C : CX p l e s m args meth c cL_setup 3 RL (Option.some (Jvm.ClassFile.FieldType.object RJ0)) E) {L : Nat} {xs : Nat → Int32} (hLX : LX E L xs) {K' : Kd} {n' : Nat} {r : Option Nat} {w' : Wd} (K : Kd) (n : Nat) (u1 : Option Nat) (w : Wd) (H : Heap) (locs : List Loc) (ls : Array Slot) (hH : HQ E K (E.2.1 + n) w s H locs) (hl : lv_has ls 3 [(2, .int 2), (1, rv E u1), (0, .ref (E.2.2.2.1 500))]) (hf : f_L_setup_H76_2 L xs K n u1 w = some (K', n', r, w')) : W p l e ({ frames := 6, cells := 97, slots := 114008, locals := 171 } : Room) s m args below meth c H locs 30 34804 (MQ below (QR E K' (E.2.1 + n') w' r) args s 97 114008 (hA E)) (F0 m 76 ls []) := by
  obtain ⟨hx, hb, hml, hown, hts, hKs, hT, hb0, hlocks, hret⟩ := id C
  unfold f_L_setup_H76_2 at hf
  refine lv_iload_n hx hb dL_setup_76 rfl (lv_at hl 0 rfl) ?_
  refine lv_iconst (v := 2) hx hb dL_setup_77 (by decide) ?_
  refine lv_icmp_ge (tgt := 145) hx hb dL_setup_78 (by decide) (fun c73 => ?_) (fun c73 => ?_)
  · skip
    refine lv_iconst (v := 0) hx hb dL_setup_145 (by decide) ?_
    refine lv_istore_n (i := 2) (lv' := [(2, .int 0), (1, rv E u1), (0, .ref (E.2.2.2.1 500))]) hx hb dL_setup_146 rfl hl (by decide) (by simp [List.filter_cons, cat_q, cat_i, cat_j, imax, imin]) (fun ls hl => ?_)
    exact l_L_setup_H147_0 C hLX K n u1 w _ _ _ hH hl hf
  · exact (by revert c73; decide : False).elim
set_option maxHeartbeats 4000000 in
set_option maxRecDepth 100000 in
theorem l_L_setup_H76_1 (C : CX p l e s m args meth c cL_setup 3 RL (Option.some (Jvm.ClassFile.FieldType.object RJ0)) E) {L : Nat} {xs : Nat → Int32} (hLX : LX E L xs) {K' : Kd} {n' : Nat} {r : Option Nat} {w' : Wd} (K : Kd) (n : Nat) (u1 : Option Nat) (w : Wd) (H : Heap) (locs : List Loc) (ls : Array Slot) (hH : HQ E K (E.2.1 + n) w s H locs) (hl : lv_has ls 3 [(2, .int 1), (1, rv E u1), (0, .ref (E.2.2.2.1 500))]) (hf : f_L_setup_H76_1 L xs K n u1 w = some (K', n', r, w')) : W p l e ({ frames := 6, cells := 97, slots := 114008, locals := 171 } : Room) s m args below meth c H locs 23 26404 (MQ below (QR E K' (E.2.1 + n') w' r) args s 97 114008 (hA E)) (F0 m 76 ls []) := by
  obtain ⟨hx, hb, hml, hown, hts, hKs, hT, hb0, hlocks, hret⟩ := id C
  unfold f_L_setup_H76_1 at hf
  refine lv_iload_n hx hb dL_setup_76 rfl (lv_at hl 0 rfl) ?_
  refine lv_iconst (v := 2) hx hb dL_setup_77 (by decide) ?_
  refine lv_icmp_ge (tgt := 145) hx hb dL_setup_78 (by decide) (fun c56 => ?_) (fun c56 => ?_)
  · exact (by revert c56; decide : False).elim
  · skip
    refine hl_aload_n hx hb dL_setup_81 rfl (lv_at hl 1 rfl) ?_
    refine hw_ldcS hx hb hown hKs 2 (by decide) rfl dL_setup_82 ?_
    obtain ⟨a57, ha57, hf⟩ := bnd hf
    replace ha57 := chk_some ha57
    obtain ⟨q58, hq58, hf⟩ := bnd hf
    refine hcAq hH (hrV (As := [.ref (E.2.2.2.1 (300 + 2))]) (rest := []) ha57.1 ⟨hx, hb, hml, hown, hts⟩ (k_CJ4_append_15ec4 l E K n a57 2 w (by decide) hq58) (cwV _ hts (gV m5_96 m5_97 m5_98 m1_17 m5_99) rfl rfl rfl hd_CJ4_append_15ec4 ⟨Nat.le_of_ble_eq_true rfl, Nat.le_of_ble_eq_true rfl⟩) ⟨HB.blind, hH.1.recv hKs ha57.2 rfl rfl, HB.preN hKs hT hb0 hH⟩ rfl hl.1 rfl rc0 dL_setup_84 ⟨Nat.le_of_ble_eq_true rfl, Nat.le_of_ble_eq_true rfl⟩) (fun H locs hH => ?_)
    refine lv_bipush (v := 111) hx hb dL_setup_87 (by decide) ?_
    refine lv_iload_n hx hb dL_setup_89 rfl (lv_at hl 0 rfl) ?_
    refine lv_iadd hx hb dL_setup_90 ?_
    refine lv_i2c (v := (i2cI (111 + 1))) hx hb dL_setup_91 rfl ?_
    obtain ⟨a59, ha59, hf⟩ := bnd hf
    replace ha59 := chk_some ha59
    obtain ⟨q60, hq60, hf⟩ := bnd hf
    refine hcAq hH (hrV (As := [.int ((i2cI (111 + 1)))]) (rest := []) ha59.1 ⟨hx, hb, hml, hown, hts⟩ (k_J4_append_cf468 l E q58.1 q58.2.1 a59 (i2cI (111 + 1)) q58.2.2.2  hq60) (cwV _ hts (gV m5_191 m5_192 m5_193 m1_17 m5_194) rfl rfl rfl hd_J4_append_cf468 ⟨Nat.le_of_ble_eq_true rfl, Nat.le_of_ble_eq_true rfl⟩) ⟨HB.blind, hH.1.recv hKs ha59.2 rfl rfl, HB.preN hKs hT hb0 hH⟩ rfl hl.1 rfl rc0 dL_setup_92 ⟨Nat.le_of_ble_eq_true rfl, Nat.le_of_ble_eq_true rfl⟩) (fun H locs hH => ?_)
    refine hw_ldcS hx hb hown hKs 3 (by decide) rfl dL_setup_95 ?_
    obtain ⟨a61, ha61, hf⟩ := bnd hf
    replace ha61 := chk_some ha61
    obtain ⟨q62, hq62, hf⟩ := bnd hf
    refine hcAq hH (hrV (As := [.ref (E.2.2.2.1 (300 + 3))]) (rest := []) ha61.1 ⟨hx, hb, hml, hown, hts⟩ (k_CJ4_append_15ec4 l E q60.1 q60.2.1 a61 3 q60.2.2.2 (by decide) hq62) (cwV _ hts (gV m5_96 m5_97 m5_98 m1_17 m5_99) rfl rfl rfl hd_CJ4_append_15ec4 ⟨Nat.le_of_ble_eq_true rfl, Nat.le_of_ble_eq_true rfl⟩) ⟨HB.blind, hH.1.recv hKs ha61.2 rfl rfl, HB.preN hKs hT hb0 hH⟩ rfl hl.1 rfl rc0 dL_setup_97 ⟨Nat.le_of_ble_eq_true rfl, Nat.le_of_ble_eq_true rfl⟩) (fun H locs hH => ?_)
    refine lv_aload_n hx hb dL_setup_100 rfl (lv_at hl 2 rfl) ?_
    refine lv_iconst (v := 4) hx hb dL_setup_101 (by decide) ?_
    refine lv_iload_n hx hb dL_setup_102 rfl (lv_at hl 0 rfl) ?_
    refine lv_iadd hx hb dL_setup_103 ?_
    refine lv_iconst (v := 0) hx hb dL_setup_104 (by decide) ?_
    refine lv_bipush (v := 9) hx hb dL_setup_105 (by decide) ?_
    obtain ⟨q63, hq63, hf⟩ := bnd hf
    refine hcG_i hH (va_runS (As := [.ref (E.2.2.2.1 500), .int ((4 + 1)), .int 0, .int 9]) (rest := [rv E q62.2.2.1]) ⟨hx, hb, hml, hown, hts⟩ (k_L_draw l E hLX q62.1 H.size (4 + 1) 0 9 q62.2.2.2  hq63) (va_cwS _ hts (gS m4_59 m4_60 m1_0 m4_61) rfl rfl rfl hs_L_draw ⟨Nat.le_of_ble_eq_true rfl, Nat.le_of_ble_eq_true rfl⟩) ⟨HB.blind, HB.pre hKs hT hb0 hH⟩ rfl rfl hl.1 rfl (lv_room (rcV rc0)) dL_setup_107 ⟨Nat.le_of_ble_eq_true rfl, Nat.le_of_ble_eq_true rfl⟩) (fun H locs hH => ?_)
    obtain ⟨a64, ha64, hf⟩ := bnd hf
    replace ha64 := chk_some ha64
    obtain ⟨q65, hq65, hf⟩ := bnd hf
    refine hcAq hH (hrV (As := [.int (q63.1)]) (rest := []) ha64.1 ⟨hx, hb, hml, hown, hts⟩ (k_J4_append_bf812 l E q62.1 q62.2.1 a64 q63.1 q63.2  hq65) (cwV _ hts (gV m5_205 m5_206 m5_207 m1_17 m5_208) rfl rfl rfl hd_J4_append_bf812 ⟨Nat.le_of_ble_eq_true rfl, Nat.le_of_ble_eq_true rfl⟩) ⟨HB.blind, hH.1.recv hKs ha64.2 rfl rfl, HB.preN hKs hT hb0 hH⟩ rfl hl.1 rfl rc0 dL_setup_110 ⟨Nat.le_of_ble_eq_true rfl, Nat.le_of_ble_eq_true rfl⟩) (fun H locs hH => ?_)
    refine lv_bipush (v := 32) hx hb dL_setup_113 (by decide) ?_
    obtain ⟨a66, ha66, hf⟩ := bnd hf
    replace ha66 := chk_some ha66
    obtain ⟨q67, hq67, hf⟩ := bnd hf
    refine hcAq hH (hrV (As := [.int 32]) (rest := []) ha66.1 ⟨hx, hb, hml, hown, hts⟩ (k_J4_append_cf468 l E q65.1 q65.2.1 a66 32 q65.2.2.2  hq67) (cwV _ hts (gV m5_191 m5_192 m5_193 m1_17 m5_194) rfl rfl rfl hd_J4_append_cf468 ⟨Nat.le_of_ble_eq_true rfl, Nat.le_of_ble_eq_true rfl⟩) ⟨HB.blind, hH.1.recv hKs ha66.2 rfl rfl, HB.preN hKs hT hb0 hH⟩ rfl hl.1 rfl rc0 dL_setup_115 ⟨Nat.le_of_ble_eq_true rfl, Nat.le_of_ble_eq_true rfl⟩) (fun H locs hH => ?_)
    refine lv_aload_n hx hb dL_setup_118 rfl (lv_at hl 2 rfl) ?_
    refine lv_bipush (v := 6) hx hb dL_setup_119 (by decide) ?_
    refine lv_iload_n hx hb dL_setup_121 rfl (lv_at hl 0 rfl) ?_
    refine lv_iadd hx hb dL_setup_122 ?_
    refine lv_bipush (v := 9) hx hb dL_setup_123 (by decide) ?_
    refine lv_bipush (v := 15) hx hb dL_setup_125 (by decide) ?_
    obtain ⟨q68, hq68, hf⟩ := bnd hf
    refine hcG_i hH (va_runS (As := [.ref (E.2.2.2.1 500), .int ((6 + 1)), .int 9, .int 15]) (rest := [rv E q67.2.2.1]) ⟨hx, hb, hml, hown, hts⟩ (k_L_draw l E hLX q67.1 H.size (6 + 1) 9 15 q67.2.2.2  hq68) (va_cwS _ hts (gS m4_59 m4_60 m1_0 m4_61) rfl rfl rfl hs_L_draw ⟨Nat.le_of_ble_eq_true rfl, Nat.le_of_ble_eq_true rfl⟩) ⟨HB.blind, HB.pre hKs hT hb0 hH⟩ rfl rfl hl.1 rfl (lv_room (rcV rc0)) dL_setup_127 ⟨Nat.le_of_ble_eq_true rfl, Nat.le_of_ble_eq_true rfl⟩) (fun H locs hH => ?_)
    obtain ⟨a69, ha69, hf⟩ := bnd hf
    replace ha69 := chk_some ha69
    obtain ⟨q70, hq70, hf⟩ := bnd hf
    refine hcAq hH (hrV (As := [.int (q68.1)]) (rest := []) ha69.1 ⟨hx, hb, hml, hown, hts⟩ (k_J4_append_bf812 l E q67.1 q67.2.1 a69 q68.1 q68.2  hq70) (cwV _ hts (gV m5_205 m5_206 m5_207 m1_17 m5_208) rfl rfl rfl hd_J4_append_bf812 ⟨Nat.le_of_ble_eq_true rfl, Nat.le_of_ble_eq_true rfl⟩) ⟨HB.blind, hH.1.recv hKs ha69.2 rfl rfl, HB.preN hKs hT hb0 hH⟩ rfl hl.1 rfl rc0 dL_setup_130 ⟨Nat.le_of_ble_eq_true rfl, Nat.le_of_ble_eq_true rfl⟩) (fun H locs hH => ?_)
    refine lv_bipush (v := 59) hx hb dL_setup_133 (by decide) ?_
    obtain ⟨a71, ha71, hf⟩ := bnd hf
    replace ha71 := chk_some ha71
    obtain ⟨q72, hq72, hf⟩ := bnd hf
    refine hcAq hH (hrV (As := [.int 59]) (rest := []) ha71.1 ⟨hx, hb, hml, hown, hts⟩ (k_J4_append_cf468 l E q70.1 q70.2.1 a71 59 q70.2.2.2  hq72) (cwV _ hts (gV m5_191 m5_192 m5_193 m1_17 m5_194) rfl rfl rfl hd_J4_append_cf468 ⟨Nat.le_of_ble_eq_true rfl, Nat.le_of_ble_eq_true rfl⟩) ⟨HB.blind, hH.1.recv hKs ha71.2 rfl rfl, HB.preN hKs hT hb0 hH⟩ rfl hl.1 rfl rc0 dL_setup_135 ⟨Nat.le_of_ble_eq_true rfl, Nat.le_of_ble_eq_true rfl⟩) (fun H locs hH => ?_)
    refine lv_pop hx hb dL_setup_138 rv_cat ?_
    refine lv_iinc (v := 2) (lv' := [(2, .int 2), (1, rv E u1), (0, .ref (E.2.2.2.1 500))]) hx hb dL_setup_139 hl (k := 0) rfl rfl (by decide) (by simp [List.filter_cons, cat_q, cat_i, cat_j, imax, imin]) (fun ls hl => ?_)
    refine lv_goto (tgt := 76) hx hb dL_setup_142 (by decide) ?_
    exact l_L_setup_H76_2 C hLX q72.1 q72.2.1 u1 q72.2.2.2 _ _ _ hH hl hf
set_option maxHeartbeats 4000000 in
set_option maxRecDepth 100000 in
theorem l_L_setup_H76_0 (C : CX p l e s m args meth c cL_setup 3 RL (Option.some (Jvm.ClassFile.FieldType.object RJ0)) E) {L : Nat} {xs : Nat → Int32} (hLX : LX E L xs) {K' : Kd} {n' : Nat} {r : Option Nat} {w' : Wd} (K : Kd) (n : Nat) (u1 : Option Nat) (w : Wd) (H : Heap) (locs : List Loc) (ls : Array Slot) (hH : HQ E K (E.2.1 + n) w s H locs) (hl : lv_has ls 3 [(2, .int 0), (1, rv E u1), (0, .ref (E.2.2.2.1 500))]) (hf : f_L_setup_H76_0 L xs K n u1 w = some (K', n', r, w')) : W p l e ({ frames := 6, cells := 97, slots := 114008, locals := 171 } : Room) s m args below meth c H locs 16 18004 (MQ below (QR E K' (E.2.1 + n') w' r) args s 97 114008 (hA E)) (F0 m 76 ls []) := by
  obtain ⟨hx, hb, hml, hown, hts, hKs, hT, hb0, hlocks, hret⟩ := id C
  unfold f_L_setup_H76_0 at hf
  refine lv_iload_n hx hb dL_setup_76 rfl (lv_at hl 0 rfl) ?_
  refine lv_iconst (v := 2) hx hb dL_setup_77 (by decide) ?_
  refine lv_icmp_ge (tgt := 145) hx hb dL_setup_78 (by decide) (fun c39 => ?_) (fun c39 => ?_)
  · exact (by revert c39; decide : False).elim
  · skip
    refine hl_aload_n hx hb dL_setup_81 rfl (lv_at hl 1 rfl) ?_
    refine hw_ldcS hx hb hown hKs 2 (by decide) rfl dL_setup_82 ?_
    obtain ⟨a40, ha40, hf⟩ := bnd hf
    replace ha40 := chk_some ha40
    obtain ⟨q41, hq41, hf⟩ := bnd hf
    refine hcAq hH (hrV (As := [.ref (E.2.2.2.1 (300 + 2))]) (rest := []) ha40.1 ⟨hx, hb, hml, hown, hts⟩ (k_CJ4_append_15ec4 l E K n a40 2 w (by decide) hq41) (cwV _ hts (gV m5_96 m5_97 m5_98 m1_17 m5_99) rfl rfl rfl hd_CJ4_append_15ec4 ⟨Nat.le_of_ble_eq_true rfl, Nat.le_of_ble_eq_true rfl⟩) ⟨HB.blind, hH.1.recv hKs ha40.2 rfl rfl, HB.preN hKs hT hb0 hH⟩ rfl hl.1 rfl rc0 dL_setup_84 ⟨Nat.le_of_ble_eq_true rfl, Nat.le_of_ble_eq_true rfl⟩) (fun H locs hH => ?_)
    refine lv_bipush (v := 111) hx hb dL_setup_87 (by decide) ?_
    refine lv_iload_n hx hb dL_setup_89 rfl (lv_at hl 0 rfl) ?_
    refine lv_iadd hx hb dL_setup_90 ?_
    refine lv_i2c (v := (i2cI (111 + 0))) hx hb dL_setup_91 rfl ?_
    obtain ⟨a42, ha42, hf⟩ := bnd hf
    replace ha42 := chk_some ha42
    obtain ⟨q43, hq43, hf⟩ := bnd hf
    refine hcAq hH (hrV (As := [.int ((i2cI (111 + 0)))]) (rest := []) ha42.1 ⟨hx, hb, hml, hown, hts⟩ (k_J4_append_cf468 l E q41.1 q41.2.1 a42 (i2cI (111 + 0)) q41.2.2.2  hq43) (cwV _ hts (gV m5_191 m5_192 m5_193 m1_17 m5_194) rfl rfl rfl hd_J4_append_cf468 ⟨Nat.le_of_ble_eq_true rfl, Nat.le_of_ble_eq_true rfl⟩) ⟨HB.blind, hH.1.recv hKs ha42.2 rfl rfl, HB.preN hKs hT hb0 hH⟩ rfl hl.1 rfl rc0 dL_setup_92 ⟨Nat.le_of_ble_eq_true rfl, Nat.le_of_ble_eq_true rfl⟩) (fun H locs hH => ?_)
    refine hw_ldcS hx hb hown hKs 3 (by decide) rfl dL_setup_95 ?_
    obtain ⟨a44, ha44, hf⟩ := bnd hf
    replace ha44 := chk_some ha44
    obtain ⟨q45, hq45, hf⟩ := bnd hf
    refine hcAq hH (hrV (As := [.ref (E.2.2.2.1 (300 + 3))]) (rest := []) ha44.1 ⟨hx, hb, hml, hown, hts⟩ (k_CJ4_append_15ec4 l E q43.1 q43.2.1 a44 3 q43.2.2.2 (by decide) hq45) (cwV _ hts (gV m5_96 m5_97 m5_98 m1_17 m5_99) rfl rfl rfl hd_CJ4_append_15ec4 ⟨Nat.le_of_ble_eq_true rfl, Nat.le_of_ble_eq_true rfl⟩) ⟨HB.blind, hH.1.recv hKs ha44.2 rfl rfl, HB.preN hKs hT hb0 hH⟩ rfl hl.1 rfl rc0 dL_setup_97 ⟨Nat.le_of_ble_eq_true rfl, Nat.le_of_ble_eq_true rfl⟩) (fun H locs hH => ?_)
    refine lv_aload_n hx hb dL_setup_100 rfl (lv_at hl 2 rfl) ?_
    refine lv_iconst (v := 4) hx hb dL_setup_101 (by decide) ?_
    refine lv_iload_n hx hb dL_setup_102 rfl (lv_at hl 0 rfl) ?_
    refine lv_iadd hx hb dL_setup_103 ?_
    refine lv_iconst (v := 0) hx hb dL_setup_104 (by decide) ?_
    refine lv_bipush (v := 9) hx hb dL_setup_105 (by decide) ?_
    obtain ⟨q46, hq46, hf⟩ := bnd hf
    refine hcG_i hH (va_runS (As := [.ref (E.2.2.2.1 500), .int ((4 + 0)), .int 0, .int 9]) (rest := [rv E q45.2.2.1]) ⟨hx, hb, hml, hown, hts⟩ (k_L_draw l E hLX q45.1 H.size (4 + 0) 0 9 q45.2.2.2  hq46) (va_cwS _ hts (gS m4_59 m4_60 m1_0 m4_61) rfl rfl rfl hs_L_draw ⟨Nat.le_of_ble_eq_true rfl, Nat.le_of_ble_eq_true rfl⟩) ⟨HB.blind, HB.pre hKs hT hb0 hH⟩ rfl rfl hl.1 rfl (lv_room (rcV rc0)) dL_setup_107 ⟨Nat.le_of_ble_eq_true rfl, Nat.le_of_ble_eq_true rfl⟩) (fun H locs hH => ?_)
    obtain ⟨a47, ha47, hf⟩ := bnd hf
    replace ha47 := chk_some ha47
    obtain ⟨q48, hq48, hf⟩ := bnd hf
    refine hcAq hH (hrV (As := [.int (q46.1)]) (rest := []) ha47.1 ⟨hx, hb, hml, hown, hts⟩ (k_J4_append_bf812 l E q45.1 q45.2.1 a47 q46.1 q46.2  hq48) (cwV _ hts (gV m5_205 m5_206 m5_207 m1_17 m5_208) rfl rfl rfl hd_J4_append_bf812 ⟨Nat.le_of_ble_eq_true rfl, Nat.le_of_ble_eq_true rfl⟩) ⟨HB.blind, hH.1.recv hKs ha47.2 rfl rfl, HB.preN hKs hT hb0 hH⟩ rfl hl.1 rfl rc0 dL_setup_110 ⟨Nat.le_of_ble_eq_true rfl, Nat.le_of_ble_eq_true rfl⟩) (fun H locs hH => ?_)
    refine lv_bipush (v := 32) hx hb dL_setup_113 (by decide) ?_
    obtain ⟨a49, ha49, hf⟩ := bnd hf
    replace ha49 := chk_some ha49
    obtain ⟨q50, hq50, hf⟩ := bnd hf
    refine hcAq hH (hrV (As := [.int 32]) (rest := []) ha49.1 ⟨hx, hb, hml, hown, hts⟩ (k_J4_append_cf468 l E q48.1 q48.2.1 a49 32 q48.2.2.2  hq50) (cwV _ hts (gV m5_191 m5_192 m5_193 m1_17 m5_194) rfl rfl rfl hd_J4_append_cf468 ⟨Nat.le_of_ble_eq_true rfl, Nat.le_of_ble_eq_true rfl⟩) ⟨HB.blind, hH.1.recv hKs ha49.2 rfl rfl, HB.preN hKs hT hb0 hH⟩ rfl hl.1 rfl rc0 dL_setup_115 ⟨Nat.le_of_ble_eq_true rfl, Nat.le_of_ble_eq_true rfl⟩) (fun H locs hH => ?_)
    refine lv_aload_n hx hb dL_setup_118 rfl (lv_at hl 2 rfl) ?_
    refine lv_bipush (v := 6) hx hb dL_setup_119 (by decide) ?_
    refine lv_iload_n hx hb dL_setup_121 rfl (lv_at hl 0 rfl) ?_
    refine lv_iadd hx hb dL_setup_122 ?_
    refine lv_bipush (v := 9) hx hb dL_setup_123 (by decide) ?_
    refine lv_bipush (v := 15) hx hb dL_setup_125 (by decide) ?_
    obtain ⟨q51, hq51, hf⟩ := bnd hf
    refine hcG_i hH (va_runS (As := [.ref (E.2.2.2.1 500), .int ((6 + 0)), .int 9, .int 15]) (rest := [rv E q50.2.2.1]) ⟨hx, hb, hml, hown, hts⟩ (k_L_draw l E hLX q50.1 H.size (6 + 0) 9 15 q50.2.2.2  hq51) (va_cwS _ hts (gS m4_59 m4_60 m1_0 m4_61) rfl rfl rfl hs_L_draw ⟨Nat.le_of_ble_eq_true rfl, Nat.le_of_ble_eq_true rfl⟩) ⟨HB.blind, HB.pre hKs hT hb0 hH⟩ rfl rfl hl.1 rfl (lv_room (rcV rc0)) dL_setup_127 ⟨Nat.le_of_ble_eq_true rfl, Nat.le_of_ble_eq_true rfl⟩) (fun H locs hH => ?_)
    obtain ⟨a52, ha52, hf⟩ := bnd hf
    replace ha52 := chk_some ha52
    obtain ⟨q53, hq53, hf⟩ := bnd hf
    refine hcAq hH (hrV (As := [.int (q51.1)]) (rest := []) ha52.1 ⟨hx, hb, hml, hown, hts⟩ (k_J4_append_bf812 l E q50.1 q50.2.1 a52 q51.1 q51.2  hq53) (cwV _ hts (gV m5_205 m5_206 m5_207 m1_17 m5_208) rfl rfl rfl hd_J4_append_bf812 ⟨Nat.le_of_ble_eq_true rfl, Nat.le_of_ble_eq_true rfl⟩) ⟨HB.blind, hH.1.recv hKs ha52.2 rfl rfl, HB.preN hKs hT hb0 hH⟩ rfl hl.1 rfl rc0 dL_setup_130 ⟨Nat.le_of_ble_eq_true rfl, Nat.le_of_ble_eq_true rfl⟩) (fun H locs hH => ?_)
    refine lv_bipush (v := 59) hx hb dL_setup_133 (by decide) ?_
    obtain ⟨a54, ha54, hf⟩ := bnd hf
    replace ha54 := chk_some ha54
    obtain ⟨q55, hq55, hf⟩ := bnd hf
    refine hcAq hH (hrV (As := [.int 59]) (rest := []) ha54.1 ⟨hx, hb, hml, hown, hts⟩ (k_J4_append_cf468 l E q53.1 q53.2.1 a54 59 q53.2.2.2  hq55) (cwV _ hts (gV m5_191 m5_192 m5_193 m1_17 m5_194) rfl rfl rfl hd_J4_append_cf468 ⟨Nat.le_of_ble_eq_true rfl, Nat.le_of_ble_eq_true rfl⟩) ⟨HB.blind, hH.1.recv hKs ha54.2 rfl rfl, HB.preN hKs hT hb0 hH⟩ rfl hl.1 rfl rc0 dL_setup_135 ⟨Nat.le_of_ble_eq_true rfl, Nat.le_of_ble_eq_true rfl⟩) (fun H locs hH => ?_)
    refine lv_pop hx hb dL_setup_138 rv_cat ?_
    refine lv_iinc (v := 1) (lv' := [(2, .int 1), (1, rv E u1), (0, .ref (E.2.2.2.1 500))]) hx hb dL_setup_139 hl (k := 0) rfl rfl (by decide) (by simp [List.filter_cons, cat_q, cat_i, cat_j, imax, imin]) (fun ls hl => ?_)
    refine lv_goto (tgt := 76) hx hb dL_setup_142 (by decide) ?_
    exact l_L_setup_H76_1 C hLX q55.1 q55.2.1 u1 q55.2.2.2 _ _ _ hH hl hf
set_option maxHeartbeats 4000000 in
set_option maxRecDepth 100000 in
theorem l_L_setup_H10_2 (C : CX p l e s m args meth c cL_setup 3 RL (Option.some (Jvm.ClassFile.FieldType.object RJ0)) E) {L : Nat} {xs : Nat → Int32} (hLX : LX E L xs) {K' : Kd} {n' : Nat} {r : Option Nat} {w' : Wd} (K : Kd) (n : Nat) (u1 : Option Nat) (w : Wd) (H : Heap) (locs : List Loc) (ls : Array Slot) (hH : HQ E K (E.2.1 + n) w s H locs) (hl : lv_has ls 3 [(2, .int 2), (1, rv E u1), (0, .ref (E.2.2.2.1 500))]) (hf : f_L_setup_H10_2 L xs K n u1 w = some (K', n', r, w')) : W p l e ({ frames := 6, cells := 97, slots := 114008, locals := 171 } : Room) s m args below meth c H locs 16 18004 (MQ below (QR E K' (E.2.1 + n') w' r) args s 97 114008 (hA E)) (F0 m 10 ls []) := by
  obtain ⟨hx, hb, hml, hown, hts, hKs, hT, hb0, hlocks, hret⟩ := id C
  unfold f_L_setup_H10_2 at hf
  refine lv_iload_n hx hb dL_setup_10 rfl (lv_at hl 0 rfl) ?_
  refine lv_iconst (v := 2) hx hb dL_setup_11 (by decide) ?_
  refine lv_icmp_ge (tgt := 74) hx hb dL_setup_12 (by decide) (fun c38 => ?_) (fun c38 => ?_)
  · skip
    refine lv_iconst (v := 0) hx hb dL_setup_74 (by decide) ?_
    refine lv_istore_n (i := 2) (lv' := [(2, .int 0), (1, rv E u1), (0, .ref (E.2.2.2.1 500))]) hx hb dL_setup_75 rfl hl (by decide) (by simp [List.filter_cons, cat_q, cat_i, cat_j, imax, imin]) (fun ls hl => ?_)
    exact l_L_setup_H76_0 C hLX K n u1 w _ _ _ hH hl hf
  · exact (by revert c38; decide : False).elim
set_option maxHeartbeats 4000000 in
set_option maxRecDepth 100000 in
theorem l_L_setup_H10_1 (C : CX p l e s m args meth c cL_setup 3 RL (Option.some (Jvm.ClassFile.FieldType.object RJ0)) E) {L : Nat} {xs : Nat → Int32} (hLX : LX E L xs) {K' : Kd} {n' : Nat} {r : Option Nat} {w' : Wd} (K : Kd) (n : Nat) (u1 : Option Nat) (w : Wd) (H : Heap) (locs : List Loc) (ls : Array Slot) (hH : HQ E K (E.2.1 + n) w s H locs) (hl : lv_has ls 3 [(2, .int 1), (1, rv E u1), (0, .ref (E.2.2.2.1 500))]) (hf : f_L_setup_H10_1 L xs K n u1 w = some (K', n', r, w')) : W p l e ({ frames := 6, cells := 97, slots := 114008, locals := 171 } : Room) s m args below meth c H locs 9 9604 (MQ below (QR E K' (E.2.1 + n') w' r) args s 97 114008 (hA E)) (F0 m 10 ls []) := by
  obtain ⟨hx, hb, hml, hown, hts, hKs, hT, hb0, hlocks, hret⟩ := id C
  unfold f_L_setup_H10_1 at hf
  refine lv_iload_n hx hb dL_setup_10 rfl (lv_at hl 0 rfl) ?_
  refine lv_iconst (v := 2) hx hb dL_setup_11 (by decide) ?_
  refine lv_icmp_ge (tgt := 74) hx hb dL_setup_12 (by decide) (fun c21 => ?_) (fun c21 => ?_)
  · exact (by revert c21; decide : False).elim
  · skip
    refine hl_aload_n hx hb dL_setup_15 rfl (lv_at hl 1 rfl) ?_
    refine hw_ldcS hx hb hown hKs 0 (by decide) rfl dL_setup_16 ?_
    obtain ⟨a22, ha22, hf⟩ := bnd hf
    replace ha22 := chk_some ha22
    obtain ⟨q23, hq23, hf⟩ := bnd hf
    refine hcAq hH (hrV (As := [.ref (E.2.2.2.1 (300 + 0))]) (rest := []) ha22.1 ⟨hx, hb, hml, hown, hts⟩ (k_CJ4_append_15ec4 l E K n a22 0 w (by decide) hq23) (cwV _ hts (gV m5_96 m5_97 m5_98 m1_17 m5_99) rfl rfl rfl hd_CJ4_append_15ec4 ⟨Nat.le_of_ble_eq_true rfl, Nat.le_of_ble_eq_true rfl⟩) ⟨HB.blind, hH.1.recv hKs ha22.2 rfl rfl, HB.preN hKs hT hb0 hH⟩ rfl hl.1 rfl rc0 dL_setup_18 ⟨Nat.le_of_ble_eq_true rfl, Nat.le_of_ble_eq_true rfl⟩) (fun H locs hH => ?_)
    refine lv_bipush (v := 114) hx hb dL_setup_21 (by decide) ?_
    refine lv_iload_n hx hb dL_setup_23 rfl (lv_at hl 0 rfl) ?_
    refine lv_iadd hx hb dL_setup_24 ?_
    refine lv_i2c (v := (i2cI (114 + 1))) hx hb dL_setup_25 rfl ?_
    obtain ⟨a24, ha24, hf⟩ := bnd hf
    replace ha24 := chk_some ha24
    obtain ⟨q25, hq25, hf⟩ := bnd hf
    refine hcAq hH (hrV (As := [.int ((i2cI (114 + 1)))]) (rest := []) ha24.1 ⟨hx, hb, hml, hown, hts⟩ (k_J4_append_cf468 l E q23.1 q23.2.1 a24 (i2cI (114 + 1)) q23.2.2.2  hq25) (cwV _ hts (gV m5_191 m5_192 m5_193 m1_17 m5_194) rfl rfl rfl hd_J4_append_cf468 ⟨Nat.le_of_ble_eq_true rfl, Nat.le_of_ble_eq_true rfl⟩) ⟨HB.blind, hH.1.recv hKs ha24.2 rfl rfl, HB.preN hKs hT hb0 hH⟩ rfl hl.1 rfl rc0 dL_setup_26 ⟨Nat.le_of_ble_eq_true rfl, Nat.le_of_ble_eq_true rfl⟩) (fun H locs hH => ?_)
    refine hw_ldcS hx hb hown hKs 1 (by decide) rfl dL_setup_29 ?_
    obtain ⟨a26, ha26, hf⟩ := bnd hf
    replace ha26 := chk_some ha26
    obtain ⟨q27, hq27, hf⟩ := bnd hf
    refine hcAq hH (hrV (As := [.ref (E.2.2.2.1 (300 + 1))]) (rest := []) ha26.1 ⟨hx, hb, hml, hown, hts⟩ (k_CJ4_append_15ec4 l E q25.1 q25.2.1 a26 1 q25.2.2.2 (by decide) hq27) (cwV _ hts (gV m5_96 m5_97 m5_98 m1_17 m5_99) rfl rfl rfl hd_CJ4_append_15ec4 ⟨Nat.le_of_ble_eq_true rfl, Nat.le_of_ble_eq_true rfl⟩) ⟨HB.blind, hH.1.recv hKs ha26.2 rfl rfl, HB.preN hKs hT hb0 hH⟩ rfl hl.1 rfl rc0 dL_setup_31 ⟨Nat.le_of_ble_eq_true rfl, Nat.le_of_ble_eq_true rfl⟩) (fun H locs hH => ?_)
    refine lv_aload_n hx hb dL_setup_34 rfl (lv_at hl 2 rfl) ?_
    refine lv_iload_n hx hb dL_setup_35 rfl (lv_at hl 0 rfl) ?_
    refine lv_iconst (v := 0) hx hb dL_setup_36 (by decide) ?_
    refine lv_iconst (v := 2) hx hb dL_setup_37 (by decide) ?_
    obtain ⟨q28, hq28, hf⟩ := bnd hf
    refine hcG_i hH (va_runS (As := [.ref (E.2.2.2.1 500), .int 1, .int 0, .int 2]) (rest := [rv E q27.2.2.1]) ⟨hx, hb, hml, hown, hts⟩ (k_L_draw l E hLX q27.1 H.size 1 0 2 q27.2.2.2  hq28) (va_cwS _ hts (gS m4_59 m4_60 m1_0 m4_61) rfl rfl rfl hs_L_draw ⟨Nat.le_of_ble_eq_true rfl, Nat.le_of_ble_eq_true rfl⟩) ⟨HB.blind, HB.pre hKs hT hb0 hH⟩ rfl rfl hl.1 rfl (lv_room (rcV rc0)) dL_setup_38 ⟨Nat.le_of_ble_eq_true rfl, Nat.le_of_ble_eq_true rfl⟩) (fun H locs hH => ?_)
    obtain ⟨a29, ha29, hf⟩ := bnd hf
    replace ha29 := chk_some ha29
    obtain ⟨q30, hq30, hf⟩ := bnd hf
    refine hcAq hH (hrV (As := [.int (q28.1)]) (rest := []) ha29.1 ⟨hx, hb, hml, hown, hts⟩ (k_J4_append_bf812 l E q27.1 q27.2.1 a29 q28.1 q28.2  hq30) (cwV _ hts (gV m5_205 m5_206 m5_207 m1_17 m5_208) rfl rfl rfl hd_J4_append_bf812 ⟨Nat.le_of_ble_eq_true rfl, Nat.le_of_ble_eq_true rfl⟩) ⟨HB.blind, hH.1.recv hKs ha29.2 rfl rfl, HB.preN hKs hT hb0 hH⟩ rfl hl.1 rfl rc0 dL_setup_41 ⟨Nat.le_of_ble_eq_true rfl, Nat.le_of_ble_eq_true rfl⟩) (fun H locs hH => ?_)
    refine lv_bipush (v := 32) hx hb dL_setup_44 (by decide) ?_
    obtain ⟨a31, ha31, hf⟩ := bnd hf
    replace ha31 := chk_some ha31
    obtain ⟨q32, hq32, hf⟩ := bnd hf
    refine hcAq hH (hrV (As := [.int 32]) (rest := []) ha31.1 ⟨hx, hb, hml, hown, hts⟩ (k_J4_append_cf468 l E q30.1 q30.2.1 a31 32 q30.2.2.2  hq32) (cwV _ hts (gV m5_191 m5_192 m5_193 m1_17 m5_194) rfl rfl rfl hd_J4_append_cf468 ⟨Nat.le_of_ble_eq_true rfl, Nat.le_of_ble_eq_true rfl⟩) ⟨HB.blind, hH.1.recv hKs ha31.2 rfl rfl, HB.preN hKs hT hb0 hH⟩ rfl hl.1 rfl rc0 dL_setup_46 ⟨Nat.le_of_ble_eq_true rfl, Nat.le_of_ble_eq_true rfl⟩) (fun H locs hH => ?_)
    refine lv_aload_n hx hb dL_setup_49 rfl (lv_at hl 2 rfl) ?_
    refine lv_iconst (v := 2) hx hb dL_setup_50 (by decide) ?_
    refine lv_iload_n hx hb dL_setup_51 rfl (lv_at hl 0 rfl) ?_
    refine lv_iadd hx hb dL_setup_52 ?_
    refine lv_iconst (v := 3) hx hb dL_setup_53 (by decide) ?_
    refine lv_bipush (v := 7) hx hb dL_setup_54 (by decide) ?_
    obtain ⟨q33, hq33, hf⟩ := bnd hf
    refine hcG_i hH (va_runS (As := [.ref (E.2.2.2.1 500), .int ((2 + 1)), .int 3, .int 7]) (rest := [rv E q32.2.2.1]) ⟨hx, hb, hml, hown, hts⟩ (k_L_draw l E hLX q32.1 H.size (2 + 1) 3 7 q32.2.2.2  hq33) (va_cwS _ hts (gS m4_59 m4_60 m1_0 m4_61) rfl rfl rfl hs_L_draw ⟨Nat.le_of_ble_eq_true rfl, Nat.le_of_ble_eq_true rfl⟩) ⟨HB.blind, HB.pre hKs hT hb0 hH⟩ rfl rfl hl.1 rfl (lv_room (rcV rc0)) dL_setup_56 ⟨Nat.le_of_ble_eq_true rfl, Nat.le_of_ble_eq_true rfl⟩) (fun H locs hH => ?_)
    obtain ⟨a34, ha34, hf⟩ := bnd hf
    replace ha34 := chk_some ha34
    obtain ⟨q35, hq35, hf⟩ := bnd hf
    refine hcAq hH (hrV (As := [.int (q33.1)]) (rest := []) ha34.1 ⟨hx, hb, hml, hown, hts⟩ (k_J4_append_bf812 l E q32.1 q32.2.1 a34 q33.1 q33.2  hq35) (cwV _ hts (gV m5_205 m5_206 m5_207 m1_17 m5_208) rfl rfl rfl hd_J4_append_bf812 ⟨Nat.le_of_ble_eq_true rfl, Nat.le_of_ble_eq_true rfl⟩) ⟨HB.blind, hH.1.recv hKs ha34.2 rfl rfl, HB.preN hKs hT hb0 hH⟩ rfl hl.1 rfl rc0 dL_setup_59 ⟨Nat.le_of_ble_eq_true rfl, Nat.le_of_ble_eq_true rfl⟩) (fun H locs hH => ?_)
    refine lv_bipush (v := 59) hx hb dL_setup_62 (by decide) ?_
    obtain ⟨a36, ha36, hf⟩ := bnd hf
    replace ha36 := chk_some ha36
    obtain ⟨q37, hq37, hf⟩ := bnd hf
    refine hcAq hH (hrV (As := [.int 59]) (rest := []) ha36.1 ⟨hx, hb, hml, hown, hts⟩ (k_J4_append_cf468 l E q35.1 q35.2.1 a36 59 q35.2.2.2  hq37) (cwV _ hts (gV m5_191 m5_192 m5_193 m1_17 m5_194) rfl rfl rfl hd_J4_append_cf468 ⟨Nat.le_of_ble_eq_true rfl, Nat.le_of_ble_eq_true rfl⟩) ⟨HB.blind, hH.1.recv hKs ha36.2 rfl rfl, HB.preN hKs hT hb0 hH⟩ rfl hl.1 rfl rc0 dL_setup_64 ⟨Nat.le_of_ble_eq_true rfl, Nat.le_of_ble_eq_true rfl⟩) (fun H locs hH => ?_)
    refine lv_pop hx hb dL_setup_67 rv_cat ?_
    refine lv_iinc (v := 2) (lv' := [(2, .int 2), (1, rv E u1), (0, .ref (E.2.2.2.1 500))]) hx hb dL_setup_68 hl (k := 0) rfl rfl (by decide) (by simp [List.filter_cons, cat_q, cat_i, cat_j, imax, imin]) (fun ls hl => ?_)
    refine lv_goto (tgt := 10) hx hb dL_setup_71 (by decide) ?_
    exact l_L_setup_H10_2 C hLX q37.1 q37.2.1 u1 q37.2.2.2 _ _ _ hH hl hf
set_option maxHeartbeats 4000000 in
set_option maxRecDepth 100000 in
theorem l_L_setup_H10_0 (C : CX p l e s m args meth c cL_setup 3 RL (Option.some (Jvm.ClassFile.FieldType.object RJ0)) E) {L : Nat} {xs : Nat → Int32} (hLX : LX E L xs) {K' : Kd} {n' : Nat} {r : Option Nat} {w' : Wd} (K : Kd) (n : Nat) (u1 : Option Nat) (w : Wd) (H : Heap) (locs : List Loc) (ls : Array Slot) (hH : HQ E K (E.2.1 + n) w s H locs) (hl : lv_has ls 3 [(2, .int 0), (1, rv E u1), (0, .ref (E.2.2.2.1 500))]) (hf : f_L_setup_H10_0 L xs K n u1 w = some (K', n', r, w')) : W p l e ({ frames := 6, cells := 97, slots := 114008, locals := 171 } : Room) s m args below meth c H locs 2 1204 (MQ below (QR E K' (E.2.1 + n') w' r) args s 97 114008 (hA E)) (F0 m 10 ls []) := by
  obtain ⟨hx, hb, hml, hown, hts, hKs, hT, hb0, hlocks, hret⟩ := id C
  unfold f_L_setup_H10_0 at hf
  refine lv_iload_n hx hb dL_setup_10 rfl (lv_at hl 0 rfl) ?_
  refine lv_iconst (v := 2) hx hb dL_setup_11 (by decide) ?_
  refine lv_icmp_ge (tgt := 74) hx hb dL_setup_12 (by decide) (fun c4 => ?_) (fun c4 => ?_)
  · exact (by revert c4; decide : False).elim
  · skip
    refine hl_aload_n hx hb dL_setup_15 rfl (lv_at hl 1 rfl) ?_
    refine hw_ldcS hx hb hown hKs 0 (by decide) rfl dL_setup_16 ?_
    obtain ⟨a5, ha5, hf⟩ := bnd hf
    replace ha5 := chk_some ha5
    obtain ⟨q6, hq6, hf⟩ := bnd hf
    refine hcAq hH (hrV (As := [.ref (E.2.2.2.1 (300 + 0))]) (rest := []) ha5.1 ⟨hx, hb, hml, hown, hts⟩ (k_CJ4_append_15ec4 l E K n a5 0 w (by decide) hq6) (cwV _ hts (gV m5_96 m5_97 m5_98 m1_17 m5_99) rfl rfl rfl hd_CJ4_append_15ec4 ⟨Nat.le_of_ble_eq_true rfl, Nat.le_of_ble_eq_true rfl⟩) ⟨HB.blind, hH.1.recv hKs ha5.2 rfl rfl, HB.preN hKs hT hb0 hH⟩ rfl hl.1 rfl rc0 dL_setup_18 ⟨Nat.le_of_ble_eq_true rfl, Nat.le_of_ble_eq_true rfl⟩) (fun H locs hH => ?_)
    refine lv_bipush (v := 114) hx hb dL_setup_21 (by decide) ?_
    refine lv_iload_n hx hb dL_setup_23 rfl (lv_at hl 0 rfl) ?_
    refine lv_iadd hx hb dL_setup_24 ?_
    refine lv_i2c (v := (i2cI (114 + 0))) hx hb dL_setup_25 rfl ?_
    obtain ⟨a7, ha7, hf⟩ := bnd hf
    replace ha7 := chk_some ha7
    obtain ⟨q8, hq8, hf⟩ := bnd hf
    refine hcAq hH (hrV (As := [.int ((i2cI (114 + 0)))]) (rest := []) ha7.1 ⟨hx, hb, hml, hown, hts⟩ (k_J4_append_cf468 l E q6.1 q6.2.1 a7 (i2cI (114 + 0)) q6.2.2.2  hq8) (cwV _ hts (gV m5_191 m5_192 m5_193 m1_17 m5_194) rfl rfl rfl hd_J4_append_cf468 ⟨Nat.le_of_ble_eq_true rfl, Nat.le_of_ble_eq_true rfl⟩) ⟨HB.blind, hH.1.recv hKs ha7.2 rfl rfl, HB.preN hKs hT hb0 hH⟩ rfl hl.1 rfl rc0 dL_setup_26 ⟨Nat.le_of_ble_eq_true rfl, Nat.le_of_ble_eq_true rfl⟩) (fun H locs hH => ?_)
    refine hw_ldcS hx hb hown hKs 1 (by decide) rfl dL_setup_29 ?_
    obtain ⟨a9, ha9, hf⟩ := bnd hf
    replace ha9 := chk_some ha9
    obtain ⟨q10, hq10, hf⟩ := bnd hf
    refine hcAq hH (hrV (As := [.ref (E.2.2.2.1 (300 + 1))]) (rest := []) ha9.1 ⟨hx, hb, hml, hown, hts⟩ (k_CJ4_append_15ec4 l E q8.1 q8.2.1 a9 1 q8.2.2.2 (by decide) hq10) (cwV _ hts (gV m5_96 m5_97 m5_98 m1_17 m5_99) rfl rfl rfl hd_CJ4_append_15ec4 ⟨Nat.le_of_ble_eq_true rfl, Nat.le_of_ble_eq_true rfl⟩) ⟨HB.blind, hH.1.recv hKs ha9.2 rfl rfl, HB.preN hKs hT hb0 hH⟩ rfl hl.1 rfl rc0 dL_setup_31 ⟨Nat.le_of_ble_eq_true rfl, Nat.le_of_ble_eq_true rfl⟩) (fun H locs hH => ?_)
    refine lv_aload_n hx hb dL_setup_34 rfl (lv_at hl 2 rfl) ?_
    refine lv_iload_n hx hb dL_setup_35 rfl (lv_at hl 0 rfl) ?_
    refine lv_iconst (v := 0) hx hb dL_setup_36 (by decide) ?_
    refine lv_iconst (v := 2) hx hb dL_setup_37 (by decide) ?_
    obtain ⟨q11, hq11, hf⟩ := bnd hf
    refine hcG_i hH (va_runS (As := [.ref (E.2.2.2.1 500), .int 0, .int 0, .int 2]) (rest := [rv E q10.2.2.1]) ⟨hx, hb, hml, hown, hts⟩ (k_L_draw l E hLX q10.1 H.size 0 0 2 q10.2.2.2  hq11) (va_cwS _ hts (gS m4_59 m4_60 m1_0 m4_61) rfl rfl rfl hs_L_draw ⟨Nat.le_of_ble_eq_true rfl, Nat.le_of_ble_eq_true rfl⟩) ⟨HB.blind, HB.pre hKs hT hb0 hH⟩ rfl rfl hl.1 rfl (lv_room (rcV rc0)) dL_setup_38 ⟨Nat.le_of_ble_eq_true rfl, Nat.le_of_ble_eq_true rfl⟩) (fun H locs hH => ?_)
    obtain ⟨a12, ha12, hf⟩ := bnd hf
    replace ha12 := chk_some ha12
    obtain ⟨q13, hq13, hf⟩ := bnd hf
    refine hcAq hH (hrV (As := [.int (q11.1)]) (rest := []) ha12.1 ⟨hx, hb, hml, hown, hts⟩ (k_J4_append_bf812 l E q10.1 q10.2.1 a12 q11.1 q11.2  hq13) (cwV _ hts (gV m5_205 m5_206 m5_207 m1_17 m5_208) rfl rfl rfl hd_J4_append_bf812 ⟨Nat.le_of_ble_eq_true rfl, Nat.le_of_ble_eq_true rfl⟩) ⟨HB.blind, hH.1.recv hKs ha12.2 rfl rfl, HB.preN hKs hT hb0 hH⟩ rfl hl.1 rfl rc0 dL_setup_41 ⟨Nat.le_of_ble_eq_true rfl, Nat.le_of_ble_eq_true rfl⟩) (fun H locs hH => ?_)
    refine lv_bipush (v := 32) hx hb dL_setup_44 (by decide) ?_
    obtain ⟨a14, ha14, hf⟩ := bnd hf
    replace ha14 := chk_some ha14
    obtain ⟨q15, hq15, hf⟩ := bnd hf
    refine hcAq hH (hrV (As := [.int 32]) (rest := []) ha14.1 ⟨hx, hb, hml, hown, hts⟩ (k_J4_append_cf468 l E q13.1 q13.2.1 a14 32 q13.2.2.2  hq15) (cwV _ hts (gV m5_191 m5_192 m5_193 m1_17 m5_194) rfl rfl rfl hd_J4_append_cf468 ⟨Nat.le_of_ble_eq_true rfl, Nat.le_of_ble_eq_true rfl⟩) ⟨HB.blind, hH.1.recv hKs ha14.2 rfl rfl, HB.preN hKs hT hb0 hH⟩ rfl hl.1 rfl rc0 dL_setup_46 ⟨Nat.le_of_ble_eq_true rfl, Nat.le_of_ble_eq_true rfl⟩) (fun H locs hH => ?_)
    refine lv_aload_n hx hb dL_setup_49 rfl (lv_at hl 2 rfl) ?_
    refine lv_iconst (v := 2) hx hb dL_setup_50 (by decide) ?_
    refine lv_iload_n hx hb dL_setup_51 rfl (lv_at hl 0 rfl) ?_
    refine lv_iadd hx hb dL_setup_52 ?_
    refine lv_iconst (v := 3) hx hb dL_setup_53 (by decide) ?_
    refine lv_bipush (v := 7) hx hb dL_setup_54 (by decide) ?_
    obtain ⟨q16, hq16, hf⟩ := bnd hf
    refine hcG_i hH (va_runS (As := [.ref (E.2.2.2.1 500), .int ((2 + 0)), .int 3, .int 7]) (rest := [rv E q15.2.2.1]) ⟨hx, hb, hml, hown, hts⟩ (k_L_draw l E hLX q15.1 H.size (2 + 0) 3 7 q15.2.2.2  hq16) (va_cwS _ hts (gS m4_59 m4_60 m1_0 m4_61) rfl rfl rfl hs_L_draw ⟨Nat.le_of_ble_eq_true rfl, Nat.le_of_ble_eq_true rfl⟩) ⟨HB.blind, HB.pre hKs hT hb0 hH⟩ rfl rfl hl.1 rfl (lv_room (rcV rc0)) dL_setup_56 ⟨Nat.le_of_ble_eq_true rfl, Nat.le_of_ble_eq_true rfl⟩) (fun H locs hH => ?_)
    obtain ⟨a17, ha17, hf⟩ := bnd hf
    replace ha17 := chk_some ha17
    obtain ⟨q18, hq18, hf⟩ := bnd hf
    refine hcAq hH (hrV (As := [.int (q16.1)]) (rest := []) ha17.1 ⟨hx, hb, hml, hown, hts⟩ (k_J4_append_bf812 l E q15.1 q15.2.1 a17 q16.1 q16.2  hq18) (cwV _ hts (gV m5_205 m5_206 m5_207 m1_17 m5_208) rfl rfl rfl hd_J4_append_bf812 ⟨Nat.le_of_ble_eq_true rfl, Nat.le_of_ble_eq_true rfl⟩) ⟨HB.blind, hH.1.recv hKs ha17.2 rfl rfl, HB.preN hKs hT hb0 hH⟩ rfl hl.1 rfl rc0 dL_setup_59 ⟨Nat.le_of_ble_eq_true rfl, Nat.le_of_ble_eq_true rfl⟩) (fun H locs hH => ?_)
    refine lv_bipush (v := 59) hx hb dL_setup_62 (by decide) ?_
    obtain ⟨a19, ha19, hf⟩ := bnd hf
    replace ha19 := chk_some ha19
    obtain ⟨q20, hq20, hf⟩ := bnd hf
    refine hcAq hH (hrV (As := [.int 59]) (rest := []) ha19.1 ⟨hx, hb, hml, hown, hts⟩ (k_J4_append_cf468 l E q18.1 q18.2.1 a19 59 q18.2.2.2  hq20) (cwV _ hts (gV m5_191 m5_192 m5_193 m1_17 m5_194) rfl rfl rfl hd_J4_append_cf468 ⟨Nat.le_of_ble_eq_true rfl, Nat.le_of_ble_eq_true rfl⟩) ⟨HB.blind, hH.1.recv hKs ha19.2 rfl rfl, HB.preN hKs hT hb0 hH⟩ rfl hl.1 rfl rc0 dL_setup_64 ⟨Nat.le_of_ble_eq_true rfl, Nat.le_of_ble_eq_true rfl⟩) (fun H locs hH => ?_)
    refine lv_pop hx hb dL_setup_67 rv_cat ?_
    refine lv_iinc (v := 1) (lv' := [(2, .int 1), (1, rv E u1), (0, .ref (E.2.2.2.1 500))]) hx hb dL_setup_68 hl (k := 0) rfl rfl (by decide) (by simp [List.filter_cons, cat_q, cat_i, cat_j, imax, imin]) (fun ls hl => ?_)
    refine lv_goto (tgt := 10) hx hb dL_setup_71 (by decide) ?_
    exact l_L_setup_H10_1 C hLX q20.1 q20.2.1 u1 q20.2.2.2 _ _ _ hH hl hf
set_option maxHeartbeats 4000000 in
set_option maxRecDepth 100000 in
theorem k_L_setup (l : Launch) (E : Ev) {L : Nat} {xs : Nat → Int32} (hLX : LX E L xs) (K : Kd) (n : Nat) (w : Wd) {K' : Kd} {n' : Nat} {r : Option Nat} {w' : Wd} (hf : f_L_setup L xs K n w = some (K', n', r, w')) : Met l yL_setup (Cond.code yL_setup cL_setup 3 (Option.some (Jvm.ClassFile.FieldType.object RJ0)) :: bt) ({ frames := 6, cells := 97, slots := 114008, locals := 171 } : Room) (va_Pc [.ref (E.2.2.2.1 500)] (HB E K w (E.2.1 + n))) (QR E K' (E.2.1 + n') w' r) 97 114008 (hA E) := by
  refine Met.ofW (cc := cL_setup) (maxL := 3) (ret := (Option.some (Jvm.ClassFile.FieldType.object RJ0))) (by decide) rfl ?_
  intro p e s m args below meth c s₁ B hml hv
  obtain ⟨rfl, hz, hP, hKs, hT, hb0⟩ := hv
  have C : CX p l e s m _ meth c cL_setup 3 RL (Option.some (Jvm.ClassFile.FieldType.object RJ0)) E := ⟨B.exec, B.bytes, hml, findClass_of_methodNamed B.named, fun w h => atoms_spec (ws := Cond.code yL_setup cL_setup 3 (Option.some (Jvm.ClassFile.FieldType.object RJ0)) :: bt) B.pre w (List.mem_cons_of_mem _ h), hKs, hT, by rw [hz]; exact hb0, B.notSynchronized, B.returns⟩
  have hH : HQ E K (E.2.1 + n) w s s.heap [] := ⟨hP, va_S.rf, hz⟩
  obtain ⟨hx, hb, hml, hown, hts, hKs, hT, hb0, hlocks, hret⟩ := id C
  have hl := lv_entry [.ref (E.2.2.2.1 500)] (n := 3) (by simp [lg_len_nil, lg_len_i, lg_len_j, lg_len_q, lg_len_f, lg_len_d, lg_len_r])
  rw [lg_entry_eq]
  generalize (lg_sl [.ref (E.2.2.2.1 500)] ++ List.replicate (3 - (lg_sl [.ref (E.2.2.2.1 500)]).length) Slot.unset).toArray = ls at hl ⊢
  replace hl : lv_has ls 3 [(0, .ref (E.2.2.2.1 500))] := by simpa only [lv_args, cat_q, cat_i, cat_j, (show ∀ x : Nat, (Value.ref x).category = 1 from fun _ => rfl), reduceIte, Nat.reduceEqDiff, Nat.reduceAdd, Nat.zero_add] using hl
  generalize s.heap = H at hH ⊢
  unfold f_L_setup at hf
  refine hw_new (ci := 12) (C := RJ4) (T := TX21) (N := 4) hx hb hts iX21 tyX21 tyX21_ok hown m5_65 (hts _ m5_66) m1_17 hKs hb0 hH rfl rfl (fun j hj => dfX21 j hj) (Nat.le_of_ble_eq_true rfl) (Nat.le_of_ble_eq_true rfl) dL_setup_0 (fun H hH => ?_)
  obtain ⟨K1, hK1, hf⟩ := bnd hf
  replace hK1 := Option.some.inj hK1
  obtain ⟨w2, hw2, hf⟩ := bnd hf
  replace hw2 := Option.some.inj hw2
  rw [hK1, hw2] at hH
  refine lv_dup hx hb dL_setup_3 rv_cat ?_
  obtain ⟨q3, hq3, hf⟩ := bnd hf
  refine hcA hH (hrI (As := []) (rest := [rv E (some n)]) rfl ⟨hx, hb, hml, hown, hts⟩ (k_J4_init_da8c8 l E K1 (n + 1) n w2  hq3) (cwI _ hts (gC m5_69) rfl rfl rfl (hts _ m1_17) (hts _ m5_67) (hts _ m5_68) rfl hs_J4_init_da8c8 ⟨Nat.le_of_ble_eq_true rfl, Nat.le_of_ble_eq_true rfl⟩) ⟨HB.blind, HB.preN hKs hT hb0 hH⟩ rfl hl.1 rfl (rcV rc0) dL_setup_4 ⟨Nat.le_of_ble_eq_true rfl, Nat.le_of_ble_eq_true rfl⟩) (fun H locs hH => ?_)
  refine hl_astore_n (i := 1) (lv' := [(1, rv E (some n)), (0, .ref (E.2.2.2.1 500))]) hx hb dL_setup_7 rfl hl (by decide) rfl (fun ls hl => ?_)
  refine lv_iconst (v := 0) hx hb dL_setup_8 (by decide) ?_
  refine lv_istore_n (i := 2) (lv' := [(2, .int 0), (1, rv E (some n)), (0, .ref (E.2.2.2.1 500))]) hx hb dL_setup_9 rfl hl (by decide) (by simp [List.filter_cons, cat_q, cat_i, cat_j, imax, imin]) (fun ls hl => ?_)
  exact l_L_setup_H10_0 C hLX q3.1 q3.2.1 (some n) q3.2.2 _ _ _ hH hl hf

theorem dJ1_charAt_3b067_0 : decode cJ1_charAt_3b067 0 = .ok (.iload_n 1, 1) := by decide +kernel
theorem dJ1_charAt_3b067_1 : decode cJ1_charAt_3b067 1 = .ok (.aload_n 0, 1) := by decide +kernel
theorem dJ1_charAt_3b067_2 : decode cJ1_charAt_3b067 2 = .ok (.arraylength, 1) := by decide +kernel
theorem dJ1_charAt_3b067_3 : decode cJ1_charAt_3b067 3 = .ok (.invokestatic 9, 3) := by decide +kernel
theorem dJ1_charAt_3b067_6 : decode cJ1_charAt_3b067 6 = .ok (.aload_n 0, 1) := by decide +kernel
theorem dJ1_charAt_3b067_7 : decode cJ1_charAt_3b067 7 = .ok (.iload_n 1, 1) := by decide +kernel
theorem dJ1_charAt_3b067_8 : decode cJ1_charAt_3b067 8 = .ok (.baload, 1) := by decide +kernel
theorem dJ1_charAt_3b067_9 : decode cJ1_charAt_3b067 9 = .ok (.sipush 255, 3) := by decide +kernel
theorem dJ1_charAt_3b067_12 : decode cJ1_charAt_3b067 12 = .ok (.iand, 1) := by decide +kernel
theorem dJ1_charAt_3b067_13 : decode cJ1_charAt_3b067 13 = .ok (.i2c, 1) := by decide +kernel
theorem dJ1_charAt_3b067_14 : decode cJ1_charAt_3b067 14 = .ok (.ireturn, 1) := by decide +kernel
theorem hs_J1_charAt_3b067 : yJ1_charAt_3b067.cls ≠ "java/lang/invoke/MethodHandle" ∧ yJ1_charAt_3b067.cls ≠ "java/lang/invoke/VarHandle" ∧ (parseMethodDescriptor yJ1_charAt_3b067.desc).map (fun d => d.parameters.length) = some 2 := by decide +kernel
set_option maxHeartbeats 4000000 in
set_option maxRecDepth 100000 in
theorem k_J1_charAt_3b067 (l : Launch) (E : Ev) (K : Kd) (z : Nat) (a_0 : Option Nat) (a_1 : Int32) (w : Wd) {r : Int32} {w' : Wd} (hf : f_J1_charAt_3b067 K a_0 a_1 w = some (r, w')) : Met l yJ1_charAt_3b067 (Cond.code yJ1_charAt_3b067 cJ1_charAt_3b067 2 (Option.some Jvm.ClassFile.FieldType.char) :: bt) ({ frames := 2, cells := 0, slots := 0, locals := 43 } : Room) (va_Pc [rv E a_0, .int a_1] (HB E K w z)) (QI E K z w' r) 0 0 (hA E) := by
  refine Met.ofW (cc := cJ1_charAt_3b067) (maxL := 2) (ret := (Option.some Jvm.ClassFile.FieldType.char)) (by decide) rfl ?_
  intro p e s m args below meth c s₁ B hml hv
  obtain ⟨rfl, hz, hP, hKs, hT, hb0⟩ := hv
  have C : CX p l e s m _ meth c cJ1_charAt_3b067 2 RJ1 (Option.some Jvm.ClassFile.FieldType.char) E := ⟨B.exec, B.bytes, hml, findClass_of_methodNamed B.named, fun w h => atoms_spec (ws := Cond.code yJ1_charAt_3b067 cJ1_charAt_3b067 2 (Option.some Jvm.ClassFile.FieldType.char) :: bt) B.pre w (List.mem_cons_of_mem _ h), hKs, hT, by rw [hz]; exact hb0, B.notSynchronized, B.returns⟩
  have hH : HQ E K z w s s.heap [] := ⟨hP, va_S.rf, hz⟩
  obtain ⟨hx, hb, hml, hown, hts, hKs, hT, hb0, hlocks, hret⟩ := id C
  have hl := lv_entry [rv E a_0, .int a_1] (n := 2) (by simp [lg_len_nil, lg_len_i, lg_len_j, lg_len_q, lg_len_f, lg_len_d, lg_len_r])
  rw [lg_entry_eq]
  generalize (lg_sl [rv E a_0, .int a_1] ++ List.replicate (2 - (lg_sl [rv E a_0, .int a_1]).length) Slot.unset).toArray = ls at hl ⊢
  replace hl : lv_has ls 2 [(0, rv E a_0), (1, .int a_1)] := by simpa only [lv_args, cat_q, cat_i, cat_j, reduceIte, Nat.reduceEqDiff, Nat.reduceAdd, Nat.zero_add] using hl
  generalize s.heap = H at hH ⊢
  unfold f_J1_charAt_3b067 at hf
  refine lv_iload_n hx hb dJ1_charAt_3b067_0 rfl (lv_at hl 1 rfl) ?_
  refine hl_aload_n hx hb dJ1_charAt_3b067_1 rfl (lv_at hl 0 rfl) ?_
  obtain ⟨a1, ha1, hf⟩ := bnd hf
  replace ha1 := cha_some ha1
  refine hw_alen21 hx hb hKs hH ha1.1 ha1.2 dJ1_charAt_3b067_2 ?_
  obtain ⟨q2, hq2, hf⟩ := bnd hf
  refine hcG_v hH (va_runS (As := [.int a_1, .int ((nI a1.2))]) (rest := []) ⟨hx, hb, hml, hown, hts⟩ (k_J0_checkIndex_df160 l E K H.size a_1 (nI a1.2) w  hq2) (va_cwS _ hts (gS m4_94 m4_95 m1_18 m4_96) rfl rfl rfl hs_J0_checkIndex_df160 ⟨Nat.le_of_ble_eq_true rfl, Nat.le_of_ble_eq_true rfl⟩) ⟨HB.blind, HB.pre hKs hT hb0 hH⟩ rfl rfl hl.1 rfl (lv_room rc0) dJ1_charAt_3b067_3 ⟨Nat.zero_le _, Nat.zero_le _⟩) (fun H locs hH => ?_)
  refine hl_aload_n hx hb dJ1_charAt_3b067_6 rfl (lv_at hl 0 rfl) ?_
  refine lv_iload_n hx hb dJ1_charAt_3b067_7 rfl (lv_at hl 1 rfl) ?_
  obtain ⟨j3, hj3, hf⟩ := bnd hf
  refine hw_bald hx hb hKs hH ha1.1 ha1.2 hj3 dJ1_charAt_3b067_8 ?_
  refine lv_sipush (v := 255) hx hb dJ1_charAt_3b067_9 (by decide) ?_
  refine lv_iand hx hb dJ1_charAt_3b067_12 ?_
  refine lv_i2c (v := (i2cI ((aI q2 a1.1 j3) &&& 255))) hx hb dJ1_charAt_3b067_13 rfl ?_
  exact hw_nret hx hb hret (pk_nc _) hf hH hlocks dJ1_charAt_3b067_14

theorem dJ0_charAt_5068e_0 : decode cJ0_charAt_5068e 0 = .ok (.aload_n 0, 1) := by decide +kernel
theorem dJ0_charAt_5068e_1 : decode cJ0_charAt_5068e 1 = .ok (.invokevirtual 492, 3) := by decide +kernel
theorem dJ0_charAt_5068e_4 : decode cJ0_charAt_5068e 4 = .ok (.ifCond .eq 12, 3) := by decide +kernel
theorem dJ0_charAt_5068e_7 : decode cJ0_charAt_5068e 7 = .ok (.aload_n 0, 1) := by decide +kernel
theorem dJ0_charAt_5068e_8 : decode cJ0_charAt_5068e 8 = .ok (.getfield 9, 3) := by decide +kernel
theorem dJ0_charAt_5068e_11 : decode cJ0_charAt_5068e 11 = .ok (.iload_n 1, 1) := by decide +kernel
theorem dJ0_charAt_5068e_12 : decode cJ0_charAt_5068e 12 = .ok (.invokestatic 495, 3) := by decide +kernel
theorem dJ0_charAt_5068e_15 : decode cJ0_charAt_5068e 15 = .ok (.ireturn, 1) := by decide +kernel
theorem hd_J0_charAt_5068e : yJ0_charAt_5068e.cls = RJ0 ∧ yJ0_charAt_5068e.cls ≠ "java/lang/invoke/MethodHandle" ∧ yJ0_charAt_5068e.cls ≠ "java/lang/invoke/VarHandle" ∧ (parseMethodDescriptor yJ0_charAt_5068e.desc).map (fun d => d.parameters.length) = some 1 := by decide +kernel
theorem hs_J0_charAt_5068e : yJ0_charAt_5068e.cls ≠ "java/lang/invoke/MethodHandle" ∧ yJ0_charAt_5068e.cls ≠ "java/lang/invoke/VarHandle" ∧ (parseMethodDescriptor yJ0_charAt_5068e.desc).map (fun d => d.parameters.length) = some 1 := by decide +kernel
set_option maxHeartbeats 4000000 in
set_option maxRecDepth 100000 in
theorem k_J0_charAt_5068e (l : Launch) (E : Ev) (K : Kd) (z : Nat) (o : Nat) (a_1 : Int32) (w : Wd) (ho : K o = some (11, 0)) {r : Int32} {w' : Wd} (hf : f_J0_charAt_5068e K o a_1 w = some (r, w')) : Met l yJ0_charAt_5068e (Cond.code yJ0_charAt_5068e cJ0_charAt_5068e 2 (Option.some Jvm.ClassFile.FieldType.char) :: bt) ({ frames := 3, cells := 0, slots := 0, locals := 64 } : Room) (va_Pc [rv E (some o), .int a_1] (HB E K w z)) (QI E K z w' r) 0 0 (hA E) := by
  refine Met.ofW (cc := cJ0_charAt_5068e) (maxL := 2) (ret := (Option.some Jvm.ClassFile.FieldType.char)) (by decide) rfl ?_
  intro p e s m args below meth c s₁ B hml hv
  obtain ⟨rfl, hz, hP, hKs, hT, hb0⟩ := hv
  have C : CX p l e s m _ meth c cJ0_charAt_5068e 2 RJ0 (Option.some Jvm.ClassFile.FieldType.char) E := ⟨B.exec, B.bytes, hml, findClass_of_methodNamed B.named, fun w h => atoms_spec (ws := Cond.code yJ0_charAt_5068e cJ0_charAt_5068e 2 (Option.some Jvm.ClassFile.FieldType.char) :: bt) B.pre w (List.mem_cons_of_mem _ h), hKs, hT, by rw [hz]; exact hb0, B.notSynchronized, B.returns⟩
  have hH : HQ E K z w s s.heap [] := ⟨hP, va_S.rf, hz⟩
  obtain ⟨hx, hb, hml, hown, hts, hKs, hT, hb0, hlocks, hret⟩ := id C
  have hl := lv_entry [rv E (some o), .int a_1] (n := 2) (by simp [lg_len_nil, lg_len_i, lg_len_j, lg_len_q, lg_len_f, lg_len_d, lg_len_r])
  rw [lg_entry_eq]
  generalize (lg_sl [rv E (some o), .int a_1] ++ List.replicate (2 - (lg_sl [rv E (some o), .int a_1]).length) Slot.unset).toArray = ls at hl ⊢
  replace hl : lv_has ls 2 [(0, rv E (some o)), (1, .int a_1)] := by simpa only [lv_args, cat_q, cat_i, cat_j, reduceIte, Nat.reduceEqDiff, Nat.reduceAdd, Nat.zero_add] using hl
  generalize s.heap = H at hH ⊢
  unfold f_J0_charAt_5068e at hf
  refine hl_aload_n hx hb dJ0_charAt_5068e_0 rfl (lv_at hl 0 rfl) ?_
  obtain ⟨q1, hq1, hf⟩ := bnd hf
  refine hcG_i hH (hrV (As := []) (rest := []) rfl ⟨hx, hb, hml, hown, hts⟩ (k_J0_isLatin1_aae02 l E K H.size o w ho hq1) (cwV _ hts (gV m4_87 m4_88 m4_89 m1_18 m4_90) rfl rfl rfl hd_J0_isLatin1_aae02 ⟨Nat.le_of_ble_eq_true rfl, Nat.le_of_ble_eq_true rfl⟩) ⟨HB.blind, hH.1.recv hKs ho rfl rfl, HB.pre hKs hT hb0 hH⟩ rfl hl.1 rfl rc0 dJ0_charAt_5068e_1 ⟨Nat.zero_le _, Nat.zero_le _⟩) (fun H locs hH => ?_)
  refine lv_if_eq (tgt := 16) hx hb dJ0_charAt_5068e_4 (by decide) (fun c2 => ?_) (fun c2 => ?_)
  · replace hf := (if_pos c2).symm.trans hf
    cases hf
  · replace hf := (if_neg c2).symm.trans hf
    refine hl_aload_n hx hb dJ0_charAt_5068e_7 rfl (lv_at hl 0 rfl) ?_
    refine g20_0 hx hb hts hown hKs hH rfl ho m6_68 dJ0_charAt_5068e_8 ?_
    refine lv_iload_n hx hb dJ0_charAt_5068e_11 rfl (lv_at hl 1 rfl) ?_
    obtain ⟨q3, hq3, hf⟩ := bnd hf
    refine hcG_i hH (va_runS (As := [rv E (wR q1.2 2000 o), .int a_1]) (rest := []) ⟨hx, hb, hml, hown, hts⟩ (k_J1_charAt_3b067 l E K H.size (wR q1.2 2000 o) a_1 q1.2  hq3) (va_cwS _ hts (gS m4_91 m4_92 m1_23 m4_93) rfl rfl rfl hs_J1_charAt_3b067 ⟨Nat.le_of_ble_eq_true rfl, Nat.le_of_ble_eq_true rfl⟩) ⟨HB.blind, HB.pre hKs hT hb0 hH⟩ rfl rfl hl.1 rfl (lv_room rc0) dJ0_charAt_5068e_12 ⟨Nat.zero_le _, Nat.zero_le _⟩) (fun H locs hH => ?_)
    obtain ⟨_, hg4, hf⟩ := bnd hf
    exact hw_nret hx hb hret (i2c_n (grd_some hg4)) hf hH hlocks dJ0_charAt_5068e_15

theorem dNX12_problem_0 : decode cX12_problem 0 = .ok (.aload_n 0, 1) := by decide +kernel
theorem dNX12_problem_1 : decode cX12_problem 1 = .ok (.iload_n 1, 1) := by decide +kernel
theorem dNX12_problem_2 : decode cX12_problem 2 = .ok (.iload_n 2, 1) := by decide +kernel
theorem dNX12_problem_3 : decode cX12_problem 3 = .ok (.iload_n 3, 1) := by decide +kernel
theorem dNX12_problem_4 : decode cX12_problem 4 = .ok (.iload 4, 2) := by decide +kernel
theorem dNX12_problem_6 : decode cX12_problem 6 = .ok (.iload 5, 2) := by decide +kernel
theorem dNX12_problem_8 : decode cX12_problem 8 = .ok (.invokevirtual 276, 3) := by decide +kernel
theorem dNX12_problem_11 : decode cX12_problem 11 = .ok (.aload_n 0, 1) := by decide +kernel
theorem dNX12_problem_12 : decode cX12_problem 12 = .ok (.iload_n 1, 1) := by decide +kernel
theorem dNX12_problem_13 : decode cX12_problem 13 = .ok (.invokevirtual 280, 3) := by decide +kernel
theorem dNX12_problem_16 : decode cX12_problem 16 = .ok (.aload_n 0, 1) := by decide +kernel
theorem dNX12_problem_17 : decode cX12_problem 17 = .ok (.getfield 52, 3) := by decide +kernel
theorem dNX12_problem_20 : decode cX12_problem 20 = .ok (.aload_n 0, 1) := by decide +kernel
theorem dNX12_problem_21 : decode cX12_problem 21 = .ok (.getfield 35, 3) := by decide +kernel
theorem dNX12_problem_24 : decode cX12_problem 24 = .ok (.iload_n 1, 1) := by decide +kernel
theorem dNX12_problem_25 : decode cX12_problem 25 = .ok (.iload_n 2, 1) := by decide +kernel
theorem dNX12_problem_26 : decode cX12_problem 26 = .ok (.iload_n 3, 1) := by decide +kernel
theorem dNX12_problem_27 : decode cX12_problem 27 = .ok (.iload 4, 2) := by decide +kernel
theorem dNX12_problem_29 : decode cX12_problem 29 = .ok (.iload 5, 2) := by decide +kernel
theorem dNX12_problem_31 : decode cX12_problem 31 = .ok (.invokevirtual 283, 3) := by decide +kernel
theorem dNX12_problem_34 : decode cX12_problem 34 = .ok (.ireturn, 1) := by decide +kernel
theorem hd_NX12_problem : yX12_problem.cls = RX12 ∧ yX12_problem.cls ≠ "java/lang/invoke/MethodHandle" ∧ yX12_problem.cls ≠ "java/lang/invoke/VarHandle" ∧ (parseMethodDescriptor yX12_problem.desc).map (fun d => d.parameters.length) = some 5 := by decide +kernel
theorem hs_NX12_problem : yX12_problem.cls ≠ "java/lang/invoke/MethodHandle" ∧ yX12_problem.cls ≠ "java/lang/invoke/VarHandle" ∧ (parseMethodDescriptor yX12_problem.desc).map (fun d => d.parameters.length) = some 5 := by decide +kernel
set_option maxHeartbeats 4000000 in
set_option maxRecDepth 100000 in
theorem k_NX12_problem (l : Launch) (E : Ev) (K : Kd) (z : Nat) (o : Nat) (a_1 : Int32) (a_2 : Int32) (a_3 : Int32) (a_4 : Int32) (a_5 : Int32) (w : Wd) (ho : K o = some (10, 0)) {r : Int32} {w' : Wd} (hf : f_NX12_problem K o a_1 a_2 a_3 a_4 a_5 w = some (r, w')) : Met l yX12_problem (Cond.code yX12_problem cX12_problem 6 (Option.some Jvm.ClassFile.FieldType.int) :: bt) ({ frames := 4, cells := 0, slots := 0, locals := 104 } : Room) (va_Pc [rv E (some o), .int a_1, .int a_2, .int a_3, .int a_4, .int a_5] (HB E K w z)) (QI E K z w' r) 0 0 (hA E) := by
  refine Met.ofW (cc := cX12_problem) (maxL := 6) (ret := (Option.some Jvm.ClassFile.FieldType.int)) (by decide) rfl ?_
  intro p e s m args below meth c s₁ B hml hv
  obtain ⟨rfl, hz, hP, hKs, hT, hb0⟩ := hv
  have C : CX p l e s m _ meth c cX12_problem 6 RX12 (Option.some Jvm.ClassFile.FieldType.int) E := ⟨B.exec, B.bytes, hml, findClass_of_methodNamed B.named, fun w h => atoms_spec (ws := Cond.code yX12_problem cX12_problem 6 (Option.some Jvm.ClassFile.FieldType.int) :: bt) B.pre w (List.mem_cons_of_mem _ h), hKs, hT, by rw [hz]; exact hb0, B.notSynchronized, B.returns⟩
  have hH : HQ E K z w s s.heap [] := ⟨hP, va_S.rf, hz⟩
  obtain ⟨hx, hb, hml, hown, hts, hKs, hT, hb0, hlocks, hret⟩ := id C
  have hl := lv_entry [rv E (some o), .int a_1, .int a_2, .int a_3, .int a_4, .int a_5] (n := 6) (by simp [lg_len_nil, lg_len_i, lg_len_j, lg_len_q, lg_len_f, lg_len_d, lg_len_r])
  rw [lg_entry_eq]
  generalize (lg_sl [rv E (some o), .int a_1, .int a_2, .int a_3, .int a_4, .int a_5] ++ List.replicate (6 - (lg_sl [rv E (some o), .int a_1, .int a_2, .int a_3, .int a_4, .int a_5]).length) Slot.unset).toArray = ls at hl ⊢
  replace hl : lv_has ls 6 [(0, rv E (some o)), (1, .int a_1), (2, .int a_2), (3, .int a_3), (4, .int a_4), (5, .int a_5)] := by simpa only [lv_args, cat_q, cat_i, cat_j, reduceIte, Nat.reduceEqDiff, Nat.reduceAdd, Nat.zero_add] using hl
  generalize s.heap = H at hH ⊢
  unfold f_NX12_problem at hf
  refine hl_aload_n hx hb dNX12_problem_0 rfl (lv_at hl 0 rfl) ?_
  refine lv_iload_n hx hb dNX12_problem_1 rfl (lv_at hl 1 rfl) ?_
  refine lv_iload_n hx hb dNX12_problem_2 rfl (lv_at hl 2 rfl) ?_
  refine lv_iload_n hx hb dNX12_problem_3 rfl (lv_at hl 3 rfl) ?_
  refine lv_iload hx hb dNX12_problem_4 (lv_at hl 4 rfl) ?_
  refine lv_iload hx hb dNX12_problem_6 (lv_at hl 5 rfl) ?_
  obtain ⟨q1, hq1, hf⟩ := bnd hf
  refine hcV_v hx hb hml hown hts hKs hT hb0 hH (As := [.int a_1, .int a_2, .int a_3, .int a_4, .int a_5]) (rest := []) (k_NX12_requireHearing l E K H.size o a_1 a_2 a_3 a_4 a_5 w ho hq1) (gV m6_217 m6_219 ms_34 m1_1 m6_220) hd_NX12_requireHearing ⟨Nat.le_of_ble_eq_true rfl, Nat.le_of_ble_eq_true rfl, rfl, rfl⟩ rfl ho rfl rfl rfl hl.1 rfl rc0 rfl dNX12_problem_8 ⟨Nat.zero_le _, Nat.zero_le _⟩ (fun H locs hH => ?_)
  refine hl_aload_n hx hb dNX12_problem_11 rfl (lv_at hl 0 rfl) ?_
  refine lv_iload_n hx hb dNX12_problem_12 rfl (lv_at hl 1 rfl) ?_
  obtain ⟨q2, hq2, hf⟩ := bnd hf
  refine hcV_v hx hb hml hown hts hKs hT hb0 hH (As := [.int a_1]) (rest := []) (k_NX12_requireUnfinished l E K H.size o a_1 q1 ho hq2) (gV m6_221 m6_223 ms_35 m1_1 m6_224) hd_NX12_requireUnfinished ⟨Nat.le_of_ble_eq_true rfl, Nat.le_of_ble_eq_true rfl, rfl, rfl⟩ rfl ho rfl rfl rfl hl.1 rfl rc0 rfl dNX12_problem_13 ⟨Nat.zero_le _, Nat.zero_le _⟩ (fun H locs hH => ?_)
  refine hl_aload_n hx hb dNX12_problem_16 rfl (lv_at hl 0 rfl) ?_
  refine g12_11 hx hb hts hown hKs hH rfl ho m2_220 dNX12_problem_17 ?_
  refine hl_aload_n hx hb dNX12_problem_20 rfl (lv_at hl 0 rfl) ?_
  refine g12_5 hx hb hts hown hKs hH rfl ho m2_214 dNX12_problem_21 ?_
  refine lv_iload_n hx hb dNX12_problem_24 rfl (lv_at hl 1 rfl) ?_
  refine lv_iload_n hx hb dNX12_problem_25 rfl (lv_at hl 2 rfl) ?_
  refine lv_iload_n hx hb dNX12_problem_26 rfl (lv_at hl 3 rfl) ?_
  refine lv_iload hx hb dNX12_problem_27 (lv_at hl 4 rfl) ?_
  refine lv_iload hx hb dNX12_problem_29 (lv_at hl 5 rfl) ?_
  obtain ⟨a3, ha3, hf⟩ := bnd hf
  replace ha3 := chk_some ha3
  obtain ⟨q4, hq4, hf⟩ := bnd hf
  refine hcV_i hx hb hml hown hts hKs hT hb0 hH (As := [rv E (wR q2 1205 o), .int a_1, .int a_2, .int a_3, .int a_4, .int a_5]) (rest := []) (k_X6_faultOf l E K H.size a3 (wR q2 1205 o) a_1 a_2 a_3 a_4 a_5 q2 ha3.2 hq4) (gV m6_225 m6_226 m6_227 m1_14 m6_228) hd_X6_faultOf ⟨Nat.le_of_ble_eq_true rfl, Nat.le_of_ble_eq_true rfl, rfl, rfl⟩ ha3.1 ha3.2 rfl rfl rfl hl.1 rfl rc0 rfl dNX12_problem_31 ⟨Nat.zero_le _, Nat.zero_le _⟩ (fun H locs hH => ?_)
  exact hw_iret hx hb hret hf hH hlocks dNX12_problem_34

theorem dX5_init_0 : decode cX5_init 0 = .ok (.aload_n 0, 1) := by decide +kernel
theorem dX5_init_1 : decode cX5_init 1 = .ok (.invokespecial 3, 3) := by decide +kernel
theorem dX5_init_4 : decode cX5_init 4 = .ok (.aload_n 0, 1) := by decide +kernel
theorem dX5_init_5 : decode cX5_init 5 = .ok (.new 9, 3) := by decide +kernel
theorem dX5_init_8 : decode cX5_init 8 = .ok (.dup, 1) := by decide +kernel
theorem dX5_init_9 : decode cX5_init 9 = .ok (.invokespecial 11, 3) := by decide +kernel
theorem dX5_init_12 : decode cX5_init 12 = .ok (.putfield 12, 3) := by decide +kernel
theorem dX5_init_15 : decode cX5_init 15 = .ok (.aload_n 0, 1) := by decide +kernel
theorem dX5_init_16 : decode cX5_init 16 = .ok (.new 18, 3) := by decide +kernel
theorem dX5_init_19 : decode cX5_init 19 = .ok (.dup, 1) := by decide +kernel
theorem dX5_init_20 : decode cX5_init 20 = .ok (.invokespecial 20, 3) := by decide +kernel
theorem dX5_init_23 : decode cX5_init 23 = .ok (.putfield 21, 3) := by decide +kernel
theorem dX5_init_26 : decode cX5_init 26 = .ok (.aload_n 0, 1) := by decide +kernel
theorem dX5_init_27 : decode cX5_init 27 = .ok (.iconst (-1), 1) := by decide +kernel
theorem dX5_init_28 : decode cX5_init 28 = .ok (.putfield 25, 3) := by decide +kernel
theorem dX5_init_31 : decode cX5_init 31 = .ok (.return_, 1) := by decide +kernel
theorem hd_X5_init : yX5_init.cls = RX5 ∧ yX5_init.cls ≠ "java/lang/invoke/MethodHandle" ∧ yX5_init.cls ≠ "java/lang/invoke/VarHandle" ∧ (parseMethodDescriptor yX5_init.desc).map (fun d => d.parameters.length) = some 0 := by decide +kernel
theorem hs_X5_init : yX5_init.cls ≠ "java/lang/invoke/MethodHandle" ∧ yX5_init.cls ≠ "java/lang/invoke/VarHandle" ∧ (parseMethodDescriptor yX5_init.desc).map (fun d => d.parameters.length) = some 0 := by decide +kernel
set_option maxHeartbeats 4000000 in
set_option maxRecDepth 100000 in
theorem k_X5_init (l : Launch) (E : Ev) (K : Kd) (n : Nat) (o : Nat) (w : Wd) {K' : Kd} {n' : Nat} {w' : Wd} (hf : f_X5_init K n o w = some (K', n', w')) : Met l yX5_init (Cond.code yX5_init cX5_init 1 (Option.none : Option Jvm.ClassFile.FieldType) :: bt) ({ frames := 4, cells := 36, slots := 296, locals := 85 } : Room) (va_Pc [rv E (some o)] (HB E K w (E.2.1 + n))) (QV E K' (E.2.1 + n') w') 36 296 (hA E) := by
  refine Met.ofW (cc := cX5_init) (maxL := 1) (ret := (Option.none : Option Jvm.ClassFile.FieldType)) (by decide) rfl ?_
  intro p e s m args below meth c s₁ B hml hv
  have hn2 : meth.name = "<init>" := (name_of_methodNamed B.named B.method).1
  obtain ⟨rfl, hz, hP, hKs, hT, hb0⟩ := hv
  have C : CX p l e s m _ meth c cX5_init 1 RX5 (Option.none : Option Jvm.ClassFile.FieldType) E := ⟨B.exec, B.bytes, hml, findClass_of_methodNamed B.named, fun w h => atoms_spec (ws := Cond.code yX5_init cX5_init 1 (Option.none : Option Jvm.ClassFile.FieldType) :: bt) B.pre w (List.mem_cons_of_mem _ h), hKs, hT, by rw [hz]; exact hb0, B.notSynchronized, B.returns⟩
  have hH : HQ E K (E.2.1 + n) w s s.heap [] := ⟨hP, va_S.rf, hz⟩
  obtain ⟨hx, hb, hml, hown, hts, hKs, hT, hb0, hlocks, hret⟩ := id C
  have hl := lv_entry [rv E (some o)] (n := 1) (by simp [lg_len_nil, lg_len_i, lg_len_j, lg_len_q, lg_len_f, lg_len_d, lg_len_r])
  rw [lg_entry_eq]
  generalize (lg_sl [rv E (some o)] ++ List.replicate (1 - (lg_sl [rv E (some o)]).length) Slot.unset).toArray = ls at hl ⊢
  replace hl : lv_has ls 1 [(0, rv E (some o))] := by simpa only [lv_args, cat_q, cat_i, cat_j, reduceIte, Nat.reduceEqDiff, Nat.reduceAdd, Nat.zero_add] using hl
  generalize s.heap = H at hH ⊢
  unfold f_X5_init at hf
  refine hl_aload_n hx hb dX5_init_0 rfl (lv_at hl 0 rfl) ?_
  refine hw_obj hx hb hml hl.1 hown hts m1_226 m1_40 m1_41 dX5_init_1 (Nat.le_of_ble_eq_true rfl) (Nat.le_of_ble_eq_true rfl) ?_
  refine hl_aload_n hx hb dX5_init_4 rfl (lv_at hl 0 rfl) ?_
  refine hw_new (ci := 7) (C := RX8) (T := TX8) (N := 7) hx hb hts iX8 tyX8 tyX8_ok hown m1_227 (hts _ m1_228) m1_9 hKs hb0 hH rfl rfl (fun j hj => dfX8 j hj) (Nat.le_of_ble_eq_true rfl) (Nat.le_of_ble_eq_true rfl) dX5_init_5 (fun H hH => ?_)
  obtain ⟨K1, hK1, hf⟩ := bnd hf
  replace hK1 := Option.some.inj hK1
  obtain ⟨w2, hw2, hf⟩ := bnd hf
  replace hw2 := Option.some.inj hw2
  rw [hK1, hw2] at hH
  refine lv_dup hx hb dX5_init_8 rv_cat ?_
  obtain ⟨q3, hq3, hf⟩ := bnd hf
  refine hcA hH (va_runIN (As := []) (rest := [rv E (some n), rv E (some o)]) ⟨hx, hb, hml, hown, hts⟩ (k_X8_init l E K1 (n + 1) n w2 hq3) ⟨va_cnB _ hts (gC m1_231) rfl rfl rfl (hKs.2.1 _ m1_229) (hts _ m1_9) hs_X8_init ⟨Nat.le_of_ble_eq_true rfl, Nat.le_of_ble_eq_true rfl⟩, rfl, hts _ m1_230⟩ ⟨HB.blind, HB.preN hKs hT hb0 hH⟩ rfl rfl hl.1 rfl (lv_room (rcV (rcV rc0))) dX5_init_9 ⟨Nat.le_of_ble_eq_true rfl, Nat.le_of_ble_eq_true rfl⟩) (fun H locs hH => ?_)
  obtain ⟨a4, ha4, hf⟩ := bnd hf
  replace ha4 := chk_some ha4
  obtain ⟨w5, hw5, hf⟩ := bnd hf
  replace hw5 := Option.some.inj hw5
  refine pf5_0 (v := (some n)) hx hb hts hown hKs hH ha4.1 ha4.2 hn2 m2_24 dX5_init_12 (fun H locs hH => ?_)
  rw [hw5] at hH
  refine hl_aload_n hx hb dX5_init_15 rfl (lv_at hl 0 rfl) ?_
  refine hw_new (ci := 8) (C := RX9) (T := TX9) (N := 15) hx hb hts iX9 tyX9 tyX9_ok hown m2_22 (hts _ m1_43) m1_2 hKs hb0 hH rfl rfl (fun j hj => dfX9 j hj) (Nat.le_of_ble_eq_true rfl) (Nat.le_of_ble_eq_true rfl) dX5_init_16 (fun H hH => ?_)
  obtain ⟨K6, hK6, hf⟩ := bnd hf
  replace hK6 := Option.some.inj hK6
  obtain ⟨w7, hw7, hf⟩ := bnd hf
  replace hw7 := Option.some.inj hw7
  rw [hK6, hw7] at hH
  refine lv_dup hx hb dX5_init_19 rv_cat ?_
  obtain ⟨q8, hq8, hf⟩ := bnd hf
  refine hcA hH (va_runI (As := []) (rest := [rv E (some q3.2.1), rv E (some o)]) ⟨hx, hb, hml, hown, hts⟩ (k_X9_init l E K6 (q3.2.1 + 1) q3.2.1 w7 hq8) (cwI _ hts (gC m1_46) rfl rfl rfl (hts _ m1_2) (hts _ m2_23) (hts _ m1_45) rfl hs_X9_init ⟨Nat.le_of_ble_eq_true rfl, Nat.le_of_ble_eq_true rfl⟩) ⟨HB.blind, HB.preN hKs hT hb0 hH⟩ rfl rfl hl.1 rfl (lv_room (rcV (rcV rc0))) dX5_init_20 ⟨Nat.le_of_ble_eq_true rfl, Nat.le_of_ble_eq_true rfl⟩) (fun H locs hH => ?_)
  obtain ⟨a9, ha9, hf⟩ := bnd hf
  replace ha9 := chk_some ha9
  obtain ⟨w10, hw10, hf⟩ := bnd hf
  replace hw10 := Option.some.inj hw10
  refine p5_1 (v := (some q3.2.1)) hx hb hts hown hKs hH ha9.1 ha9.2 m2_25 dX5_init_23 (fun H locs hH => ?_)
  rw [hw10] at hH
  refine hl_aload_n hx hb dX5_init_26 rfl (lv_at hl 0 rfl) ?_
  refine lv_iconst (v := (-1)) hx hb dX5_init_27 (by decide) ?_
  obtain ⟨w11, hw11, hf⟩ := bnd hf
  replace hw11 := Option.some.inj hw11
  refine p5_3 (v := (-1)) hx hb hts hown hKs hH ha9.1 ha9.2 m2_28 dX5_init_28 (fun H locs hH => ?_)
  rw [hw11] at hH
  exact hw_aret hx hb (Nat.le_of_ble_eq_true rfl) (Nat.le_of_ble_eq_true rfl) hret hf hH hlocks dX5_init_31

theorem dX5_takesRoom_0 : decode cX5_takesRoom 0 = .ok (.aload_n 0, 1) := by decide +kernel
theorem dX5_takesRoom_1 : decode cX5_takesRoom 1 = .ok (.iconst 0, 1) := by decide +kernel
theorem dX5_takesRoom_2 : decode cX5_takesRoom 2 = .ok (.invokevirtual 129, 3) := by decide +kernel
theorem dX5_takesRoom_5 : decode cX5_takesRoom 5 = .ok (.ifCond .eq 22, 3) := by decide +kernel
theorem dX5_takesRoom_8 : decode cX5_takesRoom 8 = .ok (.aload_n 0, 1) := by decide +kernel
theorem dX5_takesRoom_9 : decode cX5_takesRoom 9 = .ok (.getstatic 132, 3) := by decide +kernel
theorem dX5_takesRoom_12 : decode cX5_takesRoom 12 = .ok (.invokevirtual 55, 3) := by decide +kernel
theorem dX5_takesRoom_15 : decode cX5_takesRoom 15 = .ok (.ifCond .eq 12, 3) := by decide +kernel
theorem dX5_takesRoom_18 : decode cX5_takesRoom 18 = .ok (.aload_n 0, 1) := by decide +kernel
theorem dX5_takesRoom_19 : decode cX5_takesRoom 19 = .ok (.bipush 7, 2) := by decide +kernel
theorem dX5_takesRoom_21 : decode cX5_takesRoom 21 = .ok (.invokevirtual 135, 3) := by decide +kernel
theorem dX5_takesRoom_24 : decode cX5_takesRoom 24 = .ok (.ifCond .ne 5, 3) := by decide +kernel
theorem dX5_takesRoom_27 : decode cX5_takesRoom 27 = .ok (.iconst 0, 1) := by decide +kernel
theorem dX5_takesRoom_28 : decode cX5_takesRoom 28 = .ok (.ireturn, 1) := by decide +kernel
theorem dX5_takesRoom_29 : decode cX5_takesRoom 29 = .ok (.aload_n 0, 1) := by decide +kernel
theorem dX5_takesRoom_30 : decode cX5_takesRoom 30 = .ok (.getfield 21, 3) := by decide +kernel
theorem dX5_takesRoom_33 : decode cX5_takesRoom 33 = .ok (.getfield 138, 3) := by decide +kernel
theorem dX5_takesRoom_36 : decode cX5_takesRoom 36 = .ok (.aload_n 0, 1) := by decide +kernel
theorem dX5_takesRoom_37 : decode cX5_takesRoom 37 = .ok (.getfield 21, 3) := by decide +kernel
theorem dX5_takesRoom_40 : decode cX5_takesRoom 40 = .ok (.iconst 0, 1) := by decide +kernel
theorem dX5_takesRoom_41 : decode cX5_takesRoom 41 = .ok (.invokevirtual 141, 3) := by decide +kernel
theorem dX5_takesRoom_44 : decode cX5_takesRoom 44 = .ok (.iconst 1, 1) := by decide +kernel
theorem dX5_takesRoom_45 : decode cX5_takesRoom 45 = .ok (.isub, 1) := by decide +kernel
theorem dX5_takesRoom_46 : decode cX5_takesRoom 46 = .ok (.aload_n 0, 1) := by decide +kernel
theorem dX5_takesRoom_47 : decode cX5_takesRoom 47 = .ok (.getfield 144, 3) := by decide +kernel
theorem dX5_takesRoom_50 : decode cX5_takesRoom 50 = .ok (.aload_n 0, 1) := by decide +kernel
theorem dX5_takesRoom_51 : decode cX5_takesRoom 51 = .ok (.getfield 147, 3) := by decide +kernel
theorem dX5_takesRoom_54 : decode cX5_takesRoom 54 = .ok (.aload_n 0, 1) := by decide +kernel
theorem dX5_takesRoom_55 : decode cX5_takesRoom 55 = .ok (.getfield 144, 3) := by decide +kernel
theorem dX5_takesRoom_58 : decode cX5_takesRoom 58 = .ok (.isub, 1) := by decide +kernel
theorem dX5_takesRoom_59 : decode cX5_takesRoom 59 = .ok (.iconst 1, 1) := by decide +kernel
theorem dX5_takesRoom_60 : decode cX5_takesRoom 60 = .ok (.iadd, 1) := by decide +kernel
theorem dX5_takesRoom_61 : decode cX5_takesRoom 61 = .ok (.invokestatic 150, 3) := by decide +kernel
theorem dX5_takesRoom_64 : decode cX5_takesRoom 64 = .ok (.iastore, 1) := by decide +kernel
theorem dX5_takesRoom_65 : decode cX5_takesRoom 65 = .ok (.iconst 1, 1) := by decide +kernel
theorem dX5_takesRoom_66 : decode cX5_takesRoom 66 = .ok (.ireturn, 1) := by decide +kernel
theorem hd_X5_takesRoom : yX5_takesRoom.cls = RX5 ∧ yX5_takesRoom.cls ≠ "java/lang/invoke/MethodHandle" ∧ yX5_takesRoom.cls ≠ "java/lang/invoke/VarHandle" ∧ (parseMethodDescriptor yX5_takesRoom.desc).map (fun d => d.parameters.length) = some 0 := by decide +kernel
theorem hs_X5_takesRoom : yX5_takesRoom.cls ≠ "java/lang/invoke/MethodHandle" ∧ yX5_takesRoom.cls ≠ "java/lang/invoke/VarHandle" ∧ (parseMethodDescriptor yX5_takesRoom.desc).map (fun d => d.parameters.length) = some 0 := by decide +kernel
set_option maxHeartbeats 4000000 in
set_option maxRecDepth 100000 in
theorem k_X5_takesRoom (l : Launch) (E : Ev) (K : Kd) (z : Nat) (o : Nat) (w : Wd) (ho : K o = some (4, 0)) {r : Bool} {w' : Wd} (hf : f_X5_takesRoom K o w = some (r, w')) : Met l yX5_takesRoom (Cond.code yX5_takesRoom cX5_takesRoom 1 (Option.some Jvm.ClassFile.FieldType.boolean) :: bt) ({ frames := 4, cells := 0, slots := 0, locals := 86 } : Room) (va_Pc [rv E (some o)] (HB E K w z)) (QI E K z w' (b2i r)) 0 0 (hA E) := by
  refine Met.ofW (cc := cX5_takesRoom) (maxL := 1) (ret := (Option.some Jvm.ClassFile.FieldType.boolean)) (by decide) rfl ?_
  intro p e s m args below meth c s₁ B hml hv
  obtain ⟨rfl, hz, hP, hKs, hT, hb0⟩ := hv
  have C : CX p l e s m _ meth c cX5_takesRoom 1 RX5 (Option.some Jvm.ClassFile.FieldType.boolean) E := ⟨B.exec, B.bytes, hml, findClass_of_methodNamed B.named, fun w h => atoms_spec (ws := Cond.code yX5_takesRoom cX5_takesRoom 1 (Option.some Jvm.ClassFile.FieldType.boolean) :: bt) B.pre w (List.mem_cons_of_mem _ h), hKs, hT, by rw [hz]; exact hb0, B.notSynchronized, B.returns⟩
  have hH : HQ E K z w s s.heap [] := ⟨hP, va_S.rf, hz⟩
  obtain ⟨hx, hb, hml, hown, hts, hKs, hT, hb0, hlocks, hret⟩ := id C
  have hl := lv_entry [rv E (some o)] (n := 1) (by simp [lg_len_nil, lg_len_i, lg_len_j, lg_len_q, lg_len_f, lg_len_d, lg_len_r])
  rw [lg_entry_eq]
  generalize (lg_sl [rv E (some o)] ++ List.replicate (1 - (lg_sl [rv E (some o)]).length) Slot.unset).toArray = ls at hl ⊢
  replace hl : lv_has ls 1 [(0, rv E (some o))] := by simpa only [lv_args, cat_q, cat_i, cat_j, reduceIte, Nat.reduceEqDiff, Nat.reduceAdd, Nat.zero_add] using hl
  generalize s.heap = H at hH ⊢
  unfold f_X5_takesRoom at hf
  refine hl_aload_n hx hb dX5_takesRoom_0 rfl (lv_at hl 0 rfl) ?_
  refine lv_iconst (v := 0) hx hb dX5_takesRoom_1 (by decide) ?_
  obtain ⟨q1, hq1, hf⟩ := bnd hf
  refine hcV_i hx hb hml hown hts hKs hT hb0 hH (As := [.int 0]) (rest := []) (k_X5_takesNewName l E K H.size o 0 w ho hq1) (gV m4_207 m4_209 ms_16 m1_8 m4_210) hd_X5_takesNewName ⟨Nat.le_of_ble_eq_true rfl, Nat.le_of_ble_eq_true rfl, rfl, rfl⟩ rfl ho rfl rfl rfl hl.1 rfl rc0 rfl dX5_takesRoom_2 ⟨Nat.zero_le _, Nat.zero_le _⟩ (fun H locs hH => ?_)
  refine lv_if_eq (tgt := 27) hx hb dX5_takesRoom_5 (by decide) (fun c2 => ?_) (fun c2 => ?_)
  · replace hf := (if_pos c2).symm.trans hf
    refine lv_iconst (v := 0) hx hb dX5_takesRoom_27 (by decide) ?_
    exact hw_zret hx hb hret rfl hf hH hlocks dX5_takesRoom_28
  · replace hf := (if_neg c2).symm.trans hf
    refine hl_aload_n hx hb dX5_takesRoom_8 rfl (lv_at hl 0 rfl) ?_
    refine hw_tok hx hb 2 (by decide) hts hown hT hH m4_224 dX5_takesRoom_9 ?_
    obtain ⟨q3, hq3, hf⟩ := bnd hf
    refine hcV_i hx hb hml hown hts hKs hT hb0 hH (As := [re E (some 2)]) (rest := []) (k_X5_takes l E K H.size o (some 2) q1.2 ho hq3) (gV m4_226 m4_228 ms_17 m1_8 m4_229) hd_X5_takes ⟨Nat.le_of_ble_eq_true rfl, Nat.le_of_ble_eq_true rfl, rfl, rfl⟩ rfl ho rfl rfl rfl hl.1 rfl rc0 rfl dX5_takesRoom_12 ⟨Nat.zero_le _, Nat.zero_le _⟩ (fun H locs hH => ?_)
    refine lv_if_eq (tgt := 27) hx hb dX5_takesRoom_15 (by decide) (fun c4 => ?_) (fun c4 => ?_)
    · replace hf := (if_pos c4).symm.trans hf
      refine lv_iconst (v := 0) hx hb dX5_takesRoom_27 (by decide) ?_
      exact hw_zret hx hb hret rfl hf hH hlocks dX5_takesRoom_28
    · replace hf := (if_neg c4).symm.trans hf
      refine hl_aload_n hx hb dX5_takesRoom_18 rfl (lv_at hl 0 rfl) ?_
      refine lv_bipush (v := 7) hx hb dX5_takesRoom_19 (by decide) ?_
      obtain ⟨q5, hq5, hf⟩ := bnd hf
      refine hcV_i hx hb hml hown hts hKs hT hb0 hH (As := [.int 7]) (rest := []) (k_X5_takesSpan l E K H.size o 7 q3.2 ho hq5) (gV m4_230 m4_232 ms_18 m1_8 m4_233) hd_X5_takesSpan ⟨Nat.le_of_ble_eq_true rfl, Nat.le_of_ble_eq_true rfl, rfl, rfl⟩ rfl ho rfl rfl rfl hl.1 rfl rc0 rfl dX5_takesRoom_21 ⟨Nat.zero_le _, Nat.zero_le _⟩ (fun H locs hH => ?_)
      refine lv_if_ne (tgt := 29) hx hb dX5_takesRoom_24 (by decide) (fun c6 => ?_) (fun c6 => ?_)
      · replace hf := (if_neg c6).symm.trans hf
        refine hl_aload_n hx hb dX5_takesRoom_29 rfl (lv_at hl 0 rfl) ?_
        refine g5_1 hx hb hts hown hKs hH rfl ho m2_25 dX5_takesRoom_30 ?_
        obtain ⟨a7, ha7, hf⟩ := bnd hf
        replace ha7 := chk_some ha7
        refine gn9_1 hx hb hts hown hKs hH ha7.1 ha7.2 m1_155 dX5_takesRoom_33 ?_
        refine hl_aload_n hx hb dX5_takesRoom_36 rfl (lv_at hl 0 rfl) ?_
        refine g5_1 hx hb hts hown hKs hH rfl ho m2_25 dX5_takesRoom_37 ?_
        refine lv_iconst (v := 0) hx hb dX5_takesRoom_40 (by decide) ?_
        obtain ⟨q8, hq8, hf⟩ := bnd hf
        refine hcV_i hx hb hml hown hts hKs hT hb0 hH (As := [.int 0]) (rest := [rv E (wR q5.2 901 a7)]) (k_X9_size l E K H.size a7 0 q5.2 ha7.2 hq8) (gV m4_238 m3_22 m3_23 m1_2 m3_24) hd_X9_size ⟨Nat.le_of_ble_eq_true rfl, Nat.le_of_ble_eq_true rfl, rfl, rfl⟩ ha7.1 ha7.2 rfl rfl rfl hl.1 rfl (rcV rc0) rfl dX5_takesRoom_41 ⟨Nat.zero_le _, Nat.zero_le _⟩ (fun H locs hH => ?_)
        refine lv_iconst (v := 1) hx hb dX5_takesRoom_44 (by decide) ?_
        refine lv_isub hx hb dX5_takesRoom_45 ?_
        refine hl_aload_n hx hb dX5_takesRoom_46 rfl (lv_at hl 0 rfl) ?_
        refine g5_5 hx hb hts hown hKs hH rfl ho m2_31 dX5_takesRoom_47 ?_
        refine hl_aload_n hx hb dX5_takesRoom_50 rfl (lv_at hl 0 rfl) ?_
        refine g5_6 hx hb hts hown hKs hH rfl ho m2_32 dX5_takesRoom_51 ?_
        refine hl_aload_n hx hb dX5_takesRoom_54 rfl (lv_at hl 0 rfl) ?_
        refine g5_5 hx hb hts hown hKs hH rfl ho m2_31 dX5_takesRoom_55 ?_
        refine lv_isub hx hb dX5_takesRoom_58 ?_
        refine lv_iconst (v := 1) hx hb dX5_takesRoom_59 (by decide) ?_
        refine lv_iadd hx hb dX5_takesRoom_60 ?_
        obtain ⟨q9, hq9, hf⟩ := bnd hf
        refine hcM_i hx hb hml hown hts hKs hT hb0 hH (As := [.int ((wI q8.2 505 o)), .int ((((wI q8.2 506 o) - (wI q8.2 505 o)) + 1))]) (rest := [.int ((q8.1 - 1)), rv E (wR q5.2 901 a7)]) (k_X12_slotSet l E K H.size (wI q8.2 505 o) (((wI q8.2 506 o) - (wI q8.2 505 o)) + 1) q8.2 hq9) m4_239 m3_229 m1_1 m3_230 hs_X12_slotSet ⟨Nat.le_of_ble_eq_true rfl, Nat.le_of_ble_eq_true rfl, rfl, rfl⟩ hl.1 rfl (rcI (rcV rc0)) rfl dX5_takesRoom_61 ⟨Nat.zero_le _, Nat.zero_le _⟩ (fun H locs hH => ?_)
        obtain ⟨a10, ha10, hf⟩ := bnd hf
        replace ha10 := cha_some ha10
        obtain ⟨j11, hj11, hf⟩ := bnd hf
        obtain ⟨w12, hw12, hf⟩ := bnd hf
        replace hw12 := Option.some.inj hw12
        refine hw_iast (x := q9.1) hx hb hKs hH ha10.1 ha10.2 hj11 dX5_takesRoom_64 (fun H locs hH => ?_)
        rw [hw12] at hH
        refine lv_iconst (v := 1) hx hb dX5_takesRoom_65 (by decide) ?_
        exact hw_zret hx hb hret rfl hf hH hlocks dX5_takesRoom_66
      · replace hf := (if_pos c6).symm.trans hf
        refine lv_iconst (v := 0) hx hb dX5_takesRoom_27 (by decide) ?_
        exact hw_zret hx hb hret rfl hf hH hlocks dX5_takesRoom_28
end
