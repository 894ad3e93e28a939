/-! The law, decoded. -/
theorem dlaw_0 : decode code 0 = .ok (.new 26, 3) := by decide +kernel
theorem dlaw_3 : decode code 3 = .ok (.dup, 1) := by decide +kernel
theorem dlaw_4 : decode code 4 = .ok (.invokespecial 168, 3) := by decide +kernel
theorem dlaw_7 : decode code 7 = .ok (.astore_n 1, 1) := by decide +kernel
theorem dlaw_8 : decode code 8 = .ok (.aload_n 1, 1) := by decide +kernel
theorem dlaw_9 : decode code 9 = .ok (.aload_n 0, 1) := by decide +kernel
theorem dlaw_10 : decode code 10 = .ok (.invokestatic 169, 3) := by decide +kernel
theorem dlaw_13 : decode code 13 = .ok (.invokestatic 173, 3) := by decide +kernel
theorem dlaw_16 : decode code 16 = .ok (.iconst 4, 1) := by decide +kernel
theorem dlaw_17 : decode code 17 = .ok (.if_icmp .eq 5, 3) := by decide +kernel
theorem dlaw_20 : decode code 20 = .ok (.iconst 0, 1) := by decide +kernel
theorem dlaw_21 : decode code 21 = .ok (.ireturn, 1) := by decide +kernel
theorem dlaw_22 : decode code 22 = .ok (.aload_n 0, 1) := by decide +kernel
theorem dlaw_23 : decode code 23 = .ok (.bipush 33, 2) := by decide +kernel
theorem dlaw_25 : decode code 25 = .ok (.iconst 3, 1) := by decide +kernel
theorem dlaw_26 : decode code 26 = .ok (.bipush 30, 2) := by decide +kernel
theorem dlaw_28 : decode code 28 = .ok (.invokestatic 79, 3) := by decide +kernel
theorem dlaw_31 : decode code 31 = .ok (.istore_n 2, 1) := by decide +kernel
theorem dlaw_32 : decode code 32 = .ok (.iconst 0, 1) := by decide +kernel
theorem dlaw_33 : decode code 33 = .ok (.istore_n 3, 1) := by decide +kernel
theorem dlaw_34 : decode code 34 = .ok (.iload_n 3, 1) := by decide +kernel
theorem dlaw_35 : decode code 35 = .ok (.iload_n 2, 1) := by decide +kernel
theorem dlaw_36 : decode code 36 = .ok (.if_icmp .ge 27, 3) := by decide +kernel
theorem dlaw_39 : decode code 39 = .ok (.aload_n 1, 1) := by decide +kernel
theorem dlaw_40 : decode code 40 = .ok (.aload_n 0, 1) := by decide +kernel
theorem dlaw_41 : decode code 41 = .ok (.iload_n 3, 1) := by decide +kernel
theorem dlaw_42 : decode code 42 = .ok (.bipush 9, 2) := by decide +kernel
theorem dlaw_44 : decode code 44 = .ok (.iadd, 1) := by decide +kernel
theorem dlaw_45 : decode code 45 = .ok (.invokestatic 177, 3) := by decide +kernel
theorem dlaw_48 : decode code 48 = .ok (.aload_n 1, 1) := by decide +kernel
theorem dlaw_49 : decode code 49 = .ok (.invokestatic 181, 3) := by decide +kernel
theorem dlaw_52 : decode code 52 = .ok (.ifCond .ne 5, 3) := by decide +kernel
theorem dlaw_55 : decode code 55 = .ok (.iconst 0, 1) := by decide +kernel
theorem dlaw_56 : decode code 56 = .ok (.ireturn, 1) := by decide +kernel
theorem dlaw_57 : decode code 57 = .ok (.iinc 3 1, 3) := by decide +kernel
theorem dlaw_60 : decode code 60 = .ok (.goto (-26), 3) := by decide +kernel
theorem dlaw_63 : decode code 63 = .ok (.iconst 0, 1) := by decide +kernel
theorem dlaw_64 : decode code 64 = .ok (.istore_n 3, 1) := by decide +kernel
theorem dlaw_65 : decode code 65 = .ok (.iload_n 3, 1) := by decide +kernel
theorem dlaw_66 : decode code 66 = .ok (.iconst 4, 1) := by decide +kernel
theorem dlaw_67 : decode code 67 = .ok (.if_icmp .ge 19, 3) := by decide +kernel
theorem dlaw_70 : decode code 70 = .ok (.aload_n 1, 1) := by decide +kernel
theorem dlaw_71 : decode code 71 = .ok (.iload_n 3, 1) := by decide +kernel
theorem dlaw_72 : decode code 72 = .ok (.invokestatic 185, 3) := by decide +kernel
theorem dlaw_75 : decode code 75 = .ok (.ifCond .ne 5, 3) := by decide +kernel
theorem dlaw_78 : decode code 78 = .ok (.iconst 0, 1) := by decide +kernel
theorem dlaw_79 : decode code 79 = .ok (.ireturn, 1) := by decide +kernel
theorem dlaw_80 : decode code 80 = .ok (.iinc 3 1, 3) := by decide +kernel
theorem dlaw_83 : decode code 83 = .ok (.goto (-18), 3) := by decide +kernel
theorem dlaw_86 : decode code 86 = .ok (.aload_n 1, 1) := by decide +kernel
theorem dlaw_87 : decode code 87 = .ok (.bipush 7, 2) := by decide +kernel
theorem dlaw_89 : decode code 89 = .ok (.invokevirtual 140, 3) := by decide +kernel
theorem dlaw_92 : decode code 92 = .ok (.istore_n 3, 1) := by decide +kernel
theorem dlaw_93 : decode code 93 = .ok (.aload_n 0, 1) := by decide +kernel
theorem dlaw_94 : decode code 94 = .ok (.bipush 34, 2) := by decide +kernel
theorem dlaw_96 : decode code 96 = .ok (.iconst 1, 1) := by decide +kernel
theorem dlaw_97 : decode code 97 = .ok (.bipush 30, 2) := by decide +kernel
theorem dlaw_99 : decode code 99 = .ok (.invokestatic 79, 3) := by decide +kernel
theorem dlaw_102 : decode code 102 = .ok (.istore 4, 2) := by decide +kernel
theorem dlaw_104 : decode code 104 = .ok (.aload_n 1, 1) := by decide +kernel
theorem dlaw_105 : decode code 105 = .ok (.bipush 13, 2) := by decide +kernel
theorem dlaw_107 : decode code 107 = .ok (.invokevirtual 140, 3) := by decide +kernel
theorem dlaw_110 : decode code 110 = .ok (.istore 5, 2) := by decide +kernel
theorem dlaw_112 : decode code 112 = .ok (.aload_n 1, 1) := by decide +kernel
theorem dlaw_113 : decode code 113 = .ok (.iload 4, 2) := by decide +kernel
theorem dlaw_115 : decode code 115 = .ok (.invokevirtual 189, 3) := by decide +kernel
theorem dlaw_118 : decode code 118 = .ok (.istore 6, 2) := by decide +kernel
theorem dlaw_120 : decode code 120 = .ok (.aload_n 1, 1) := by decide +kernel
theorem dlaw_121 : decode code 121 = .ok (.invokevirtual 192, 3) := by decide +kernel
theorem dlaw_124 : decode code 124 = .ok (.istore 7, 2) := by decide +kernel
theorem dlaw_126 : decode code 126 = .ok (.aload_n 1, 1) := by decide +kernel
theorem dlaw_127 : decode code 127 = .ok (.invokevirtual 195, 3) := by decide +kernel
theorem dlaw_130 : decode code 130 = .ok (.iload_n 3, 1) := by decide +kernel
theorem dlaw_131 : decode code 131 = .ok (.if_icmp .ne 20, 3) := by decide +kernel
theorem dlaw_134 : decode code 134 = .ok (.aload_n 1, 1) := by decide +kernel
theorem dlaw_135 : decode code 135 = .ok (.invokevirtual 198, 3) := by decide +kernel
theorem dlaw_138 : decode code 138 = .ok (.iload_n 3, 1) := by decide +kernel
theorem dlaw_139 : decode code 139 = .ok (.if_icmp .ne 12, 3) := by decide +kernel
theorem dlaw_142 : decode code 142 = .ok (.aload_n 1, 1) := by decide +kernel
theorem dlaw_143 : decode code 143 = .ok (.bipush 9, 2) := by decide +kernel
theorem dlaw_145 : decode code 145 = .ok (.invokevirtual 140, 3) := by decide +kernel
theorem dlaw_148 : decode code 148 = .ok (.ifCond .eq 5, 3) := by decide +kernel
theorem dlaw_151 : decode code 151 = .ok (.iconst 0, 1) := by decide +kernel
theorem dlaw_152 : decode code 152 = .ok (.ireturn, 1) := by decide +kernel
theorem dlaw_153 : decode code 153 = .ok (.aload_n 1, 1) := by decide +kernel
theorem dlaw_154 : decode code 154 = .ok (.bipush 12, 2) := by decide +kernel
theorem dlaw_156 : decode code 156 = .ok (.invokevirtual 140, 3) := by decide +kernel
theorem dlaw_159 : decode code 159 = .ok (.istore 8, 2) := by decide +kernel
theorem dlaw_161 : decode code 161 = .ok (.aload_n 1, 1) := by decide +kernel
theorem dlaw_162 : decode code 162 = .ok (.iload 4, 2) := by decide +kernel
theorem dlaw_164 : decode code 164 = .ok (.invokevirtual 137, 3) := by decide +kernel
theorem dlaw_167 : decode code 167 = .ok (.aload_n 1, 1) := by decide +kernel
theorem dlaw_168 : decode code 168 = .ok (.bipush 12, 2) := by decide +kernel
theorem dlaw_170 : decode code 170 = .ok (.invokevirtual 140, 3) := by decide +kernel
theorem dlaw_173 : decode code 173 = .ok (.iload 8, 2) := by decide +kernel
theorem dlaw_175 : decode code 175 = .ok (.isub, 1) := by decide +kernel
theorem dlaw_176 : decode code 176 = .ok (.if_icmp .ne 34, 3) := by decide +kernel
theorem dlaw_179 : decode code 179 = .ok (.aload_n 1, 1) := by decide +kernel
theorem dlaw_180 : decode code 180 = .ok (.bipush 13, 2) := by decide +kernel
theorem dlaw_182 : decode code 182 = .ok (.invokevirtual 140, 3) := by decide +kernel
theorem dlaw_185 : decode code 185 = .ok (.iload 5, 2) := by decide +kernel
theorem dlaw_187 : decode code 187 = .ok (.isub, 1) := by decide +kernel
theorem dlaw_188 : decode code 188 = .ok (.iload 6, 2) := by decide +kernel
theorem dlaw_190 : decode code 190 = .ok (.if_icmp .ne 20, 3) := by decide +kernel
theorem dlaw_193 : decode code 193 = .ok (.aload_n 1, 1) := by decide +kernel
theorem dlaw_194 : decode code 194 = .ok (.invokevirtual 201, 3) := by decide +kernel
theorem dlaw_197 : decode code 197 = .ok (.ifCond .ne 13, 3) := by decide +kernel
theorem dlaw_200 : decode code 200 = .ok (.aload_n 1, 1) := by decide +kernel
theorem dlaw_201 : decode code 201 = .ok (.bipush 7, 2) := by decide +kernel
theorem dlaw_203 : decode code 203 = .ok (.invokevirtual 140, 3) := by decide +kernel
theorem dlaw_206 : decode code 206 = .ok (.iload_n 3, 1) := by decide +kernel
theorem dlaw_207 : decode code 207 = .ok (.if_icmp .eq 5, 3) := by decide +kernel
theorem dlaw_210 : decode code 210 = .ok (.iconst 0, 1) := by decide +kernel
theorem dlaw_211 : decode code 211 = .ok (.ireturn, 1) := by decide +kernel
theorem dlaw_212 : decode code 212 = .ok (.aload_n 1, 1) := by decide +kernel
theorem dlaw_213 : decode code 213 = .ok (.invokevirtual 134, 3) := by decide +kernel
theorem dlaw_216 : decode code 216 = .ok (.iload 7, 2) := by decide +kernel
theorem dlaw_218 : decode code 218 = .ok (.if_icmp .ne 26, 3) := by decide +kernel
theorem dlaw_221 : decode code 221 = .ok (.aload_n 1, 1) := by decide +kernel
theorem dlaw_222 : decode code 222 = .ok (.invokestatic 181, 3) := by decide +kernel
theorem dlaw_225 : decode code 225 = .ok (.ifCond .eq 19, 3) := by decide +kernel
theorem dlaw_228 : decode code 228 = .ok (.aload_n 1, 1) := by decide +kernel
theorem dlaw_229 : decode code 229 = .ok (.invokevirtual 201, 3) := by decide +kernel
theorem dlaw_232 : decode code 232 = .ok (.ifCond .ne 12, 3) := by decide +kernel
theorem dlaw_235 : decode code 235 = .ok (.aload_n 1, 1) := by decide +kernel
theorem dlaw_236 : decode code 236 = .ok (.invokevirtual 192, 3) := by decide +kernel
theorem dlaw_239 : decode code 239 = .ok (.iload 7, 2) := by decide +kernel
theorem dlaw_241 : decode code 241 = .ok (.if_icmp .eq 5, 3) := by decide +kernel
theorem dlaw_244 : decode code 244 = .ok (.iconst 0, 1) := by decide +kernel
theorem dlaw_245 : decode code 245 = .ok (.ireturn, 1) := by decide +kernel
theorem dlaw_246 : decode code 246 = .ok (.aload_n 1, 1) := by decide +kernel
theorem dlaw_247 : decode code 247 = .ok (.aload_n 0, 1) := by decide +kernel
theorem dlaw_248 : decode code 248 = .ok (.iload_n 2, 1) := by decide +kernel
theorem dlaw_249 : decode code 249 = .ok (.bipush 9, 2) := by decide +kernel
theorem dlaw_251 : decode code 251 = .ok (.iadd, 1) := by decide +kernel
theorem dlaw_252 : decode code 252 = .ok (.invokestatic 177, 3) := by decide +kernel
theorem dlaw_255 : decode code 255 = .ok (.aload_n 1, 1) := by decide +kernel
theorem dlaw_256 : decode code 256 = .ok (.bipush 9, 2) := by decide +kernel
theorem dlaw_258 : decode code 258 = .ok (.invokevirtual 140, 3) := by decide +kernel
theorem dlaw_261 : decode code 261 = .ok (.ifCond .le 18, 3) := by decide +kernel
theorem dlaw_264 : decode code 264 = .ok (.aload_n 1, 1) := by decide +kernel
theorem dlaw_265 : decode code 265 = .ok (.invokevirtual 201, 3) := by decide +kernel
theorem dlaw_268 : decode code 268 = .ok (.aload_n 1, 1) := by decide +kernel
theorem dlaw_269 : decode code 269 = .ok (.bipush 9, 2) := by decide +kernel
theorem dlaw_271 : decode code 271 = .ok (.invokevirtual 140, 3) := by decide +kernel
theorem dlaw_274 : decode code 274 = .ok (.if_icmp .eq (-19), 3) := by decide +kernel
theorem dlaw_277 : decode code 277 = .ok (.iconst 0, 1) := by decide +kernel
theorem dlaw_278 : decode code 278 = .ok (.ireturn, 1) := by decide +kernel
theorem dlaw_279 : decode code 279 = .ok (.aload_n 1, 1) := by decide +kernel
theorem dlaw_280 : decode code 280 = .ok (.invokestatic 181, 3) := by decide +kernel
theorem dlaw_283 : decode code 283 = .ok (.ifCond .eq 28, 3) := by decide +kernel
theorem dlaw_286 : decode code 286 = .ok (.aload_n 1, 1) := by decide +kernel
theorem dlaw_287 : decode code 287 = .ok (.bipush 7, 2) := by decide +kernel
theorem dlaw_289 : decode code 289 = .ok (.invokevirtual 140, 3) := by decide +kernel
theorem dlaw_292 : decode code 292 = .ok (.iload_n 3, 1) := by decide +kernel
theorem dlaw_293 : decode code 293 = .ok (.if_icmp .ne 18, 3) := by decide +kernel
theorem dlaw_296 : decode code 296 = .ok (.aload_n 1, 1) := by decide +kernel
theorem dlaw_297 : decode code 297 = .ok (.bipush 12, 2) := by decide +kernel
theorem dlaw_299 : decode code 299 = .ok (.invokevirtual 140, 3) := by decide +kernel
theorem dlaw_302 : decode code 302 = .ok (.iload 8, 2) := by decide +kernel
theorem dlaw_304 : decode code 304 = .ok (.if_icmp .ne 7, 3) := by decide +kernel
theorem dlaw_307 : decode code 307 = .ok (.iconst 1, 1) := by decide +kernel
theorem dlaw_308 : decode code 308 = .ok (.goto 4, 3) := by decide +kernel
theorem dlaw_311 : decode code 311 = .ok (.iconst 0, 1) := by decide +kernel
theorem dlaw_312 : decode code 312 = .ok (.ireturn, 1) := by decide +kernel
