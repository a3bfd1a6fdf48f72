theorem dL_ahead_223 : decode cL_ahead 223 = .ok (.iload 7, 2) := by decide +kernel
theorem dL_ahead_225 : decode cL_ahead 225 = .ok (.istore 7, 2) := by decide +kernel
theorem dL_ahead_227 : decode cL_ahead 227 = .ok (.aload_n 2, 1) := by decide +kernel
theorem dL_ahead_228 : decode cL_ahead 228 = .ok (.iload 8, 2) := by decide +kernel
theorem dL_ahead_230 : decode cL_ahead 230 = .ok (.iconst 5, 1) := by decide +kernel
theorem dL_ahead_231 : decode cL_ahead 231 = .ok (.idiv, 1) := by decide +kernel
theorem dL_ahead_232 : decode cL_ahead 232 = .ok (.iload 8, 2) := by decide +kernel
theorem dL_ahead_234 : decode cL_ahead 234 = .ok (.iconst 5, 1) := by decide +kernel
theorem dL_ahead_235 : decode cL_ahead 235 = .ok (.irem, 1) := by decide +kernel
theorem dL_ahead_236 : decode cL_ahead 236 = .ok (.invokestatic 83, 3) := by decide +kernel
theorem dL_ahead_239 : decode cL_ahead 239 = .ok (.iinc 8 (-1), 3) := by decide +kernel
theorem dL_ahead_242 : decode cL_ahead 242 = .ok (.goto (-78), 3) := by decide +kernel
theorem dL_ahead_245 : decode cL_ahead 245 = .ok (.bipush (-6), 2) := by decide +kernel
theorem dL_ahead_247 : decode cL_ahead 247 = .ok (.istore 8, 2) := by decide +kernel
theorem dL_ahead_249 : decode cL_ahead 249 = .ok (.bipush 9, 2) := by decide +kernel
theorem dL_ahead_251 : decode cL_ahead 251 = .ok (.istore 9, 2) := by decide +kernel
theorem dL_ahead_253 : decode cL_ahead 253 = .ok (.iconst 0, 1) := by decide +kernel
theorem dL_ahead_254 : decode cL_ahead 254 = .ok (.istore 10, 2) := by decide +kernel
theorem dL_ahead_256 : decode cL_ahead 256 = .ok (.iload 10, 2) := by decide +kernel
theorem dL_ahead_258 : decode cL_ahead 258 = .ok (.aload 4, 2) := by decide +kernel
theorem dL_ahead_260 : decode cL_ahead 260 = .ok (.iconst 5, 1) := by decide +kernel
theorem dL_ahead_261 : decode cL_ahead 261 = .ok (.iaload, 1) := by decide +kernel
theorem dL_ahead_262 : decode cL_ahead 262 = .ok (.if_icmp .ge 134, 3) := by decide +kernel
theorem dL_ahead_265 : decode cL_ahead 265 = .ok (.iconst 0, 1) := by decide +kernel
theorem dL_ahead_266 : decode cL_ahead 266 = .ok (.istore 11, 2) := by decide +kernel
theorem dL_ahead_268 : decode cL_ahead 268 = .ok (.aload_n 3, 1) := by decide +kernel
theorem dL_ahead_269 : decode cL_ahead 269 = .ok (.iconst 2, 1) := by decide +kernel
theorem dL_ahead_270 : decode cL_ahead 270 = .ok (.iload 10, 2) := by decide +kernel
theorem dL_ahead_272 : decode cL_ahead 272 = .ok (.imul, 1) := by decide +kernel
theorem dL_ahead_273 : decode cL_ahead 273 = .ok (.iconst 1, 1) := by decide +kernel
theorem dL_ahead_274 : decode cL_ahead 274 = .ok (.iadd, 1) := by decide +kernel
theorem dL_ahead_275 : decode cL_ahead 275 = .ok (.iaload, 1) := by decide +kernel
theorem dL_ahead_276 : decode cL_ahead 276 = .ok (.iload 5, 2) := by decide +kernel
theorem dL_ahead_278 : decode cL_ahead 278 = .ok (.if_icmp .ne 7, 3) := by decide +kernel
theorem dL_ahead_281 : decode cL_ahead 281 = .ok (.iconst 1, 1) := by decide +kernel
theorem dL_ahead_282 : decode cL_ahead 282 = .ok (.goto 4, 3) := by decide +kernel
theorem dL_ahead_285 : decode cL_ahead 285 = .ok (.iconst 0, 1) := by decide +kernel
theorem dL_ahead_286 : decode cL_ahead 286 = .ok (.istore 12, 2) := by decide +kernel
theorem dL_ahead_288 : decode cL_ahead 288 = .ok (.aload_n 3, 1) := by decide +kernel
theorem dL_ahead_289 : decode cL_ahead 289 = .ok (.iconst 2, 1) := by decide +kernel
theorem dL_ahead_290 : decode cL_ahead 290 = .ok (.iload 10, 2) := by decide +kernel
theorem dL_ahead_292 : decode cL_ahead 292 = .ok (.imul, 1) := by decide +kernel
theorem dL_ahead_293 : decode cL_ahead 293 = .ok (.iaload, 1) := by decide +kernel
theorem dL_ahead_294 : decode cL_ahead 294 = .ok (.istore 13, 2) := by decide +kernel
theorem dL_ahead_296 : decode cL_ahead 296 = .ok (.iload 13, 2) := by decide +kernel
theorem dL_ahead_298 : decode cL_ahead 298 = .ok (.bipush 9, 2) := by decide +kernel
theorem dL_ahead_300 : decode cL_ahead 300 = .ok (.if_icmp .le 48, 3) := by decide +kernel
theorem dL_ahead_303 : decode cL_ahead 303 = .ok (.iinc 11 1, 3) := by decide +kernel
theorem dL_ahead_306 : decode cL_ahead 306 = .ok (.iload 12, 2) := by decide +kernel
theorem dL_ahead_308 : decode cL_ahead 308 = .ok (.ifCond .eq 27, 3) := by decide +kernel
theorem dL_ahead_311 : decode cL_ahead 311 = .ok (.aload_n 1, 1) := by decide +kernel
theorem dL_ahead_312 : decode cL_ahead 312 = .ok (.aload 4, 2) := by decide +kernel
theorem dL_ahead_314 : decode cL_ahead 314 = .ok (.iconst 0, 1) := by decide +kernel
theorem dL_ahead_315 : decode cL_ahead 315 = .ok (.iload 13, 2) := by decide +kernel
theorem dL_ahead_317 : decode cL_ahead 317 = .ok (.bipush 10, 2) := by decide +kernel
theorem dL_ahead_319 : decode cL_ahead 319 = .ok (.irem, 1) := by decide +kernel
theorem dL_ahead_320 : decode cL_ahead 320 = .ok (.invokestatic 22, 3) := by decide +kernel
theorem dL_ahead_323 : decode cL_ahead 323 = .ok (.iload 13, 2) := by decide +kernel
theorem dL_ahead_325 : decode cL_ahead 325 = .ok (.bipush 10, 2) := by decide +kernel
theorem dL_ahead_327 : decode cL_ahead 327 = .ok (.irem, 1) := by decide +kernel
theorem dL_ahead_328 : decode cL_ahead 328 = .ok (.if_icmp .ne 7, 3) := by decide +kernel
theorem dL_ahead_331 : decode cL_ahead 331 = .ok (.iconst 1, 1) := by decide +kernel
theorem dL_ahead_332 : decode cL_ahead 332 = .ok (.goto 4, 3) := by decide +kernel
theorem dL_ahead_335 : decode cL_ahead 335 = .ok (.iconst 0, 1) := by decide +kernel
theorem dL_ahead_336 : decode cL_ahead 336 = .ok (.istore 12, 2) := by decide +kernel
theorem dL_ahead_338 : decode cL_ahead 338 = .ok (.iload 13, 2) := by decide +kernel
theorem dL_ahead_340 : decode cL_ahead 340 = .ok (.bipush 10, 2) := by decide +kernel
theorem dL_ahead_342 : decode cL_ahead 342 = .ok (.idiv, 1) := by decide +kernel
theorem dL_ahead_343 : decode cL_ahead 343 = .ok (.istore 13, 2) := by decide +kernel
theorem dL_ahead_345 : decode cL_ahead 345 = .ok (.goto (-49), 3) := by decide +kernel
theorem dL_ahead_348 : decode cL_ahead 348 = .ok (.iload 12, 2) := by decide +kernel
theorem dL_ahead_350 : decode cL_ahead 350 = .ok (.ifCond .eq 15, 3) := by decide +kernel
theorem dL_ahead_353 : decode cL_ahead 353 = .ok (.iload 11, 2) := by decide +kernel
theorem dL_ahead_355 : decode cL_ahead 355 = .ok (.iload 9, 2) := by decide +kernel
theorem dL_ahead_357 : decode cL_ahead 357 = .ok (.if_icmp .ge 8, 3) := by decide +kernel
theorem dL_ahead_360 : decode cL_ahead 360 = .ok (.iload 10, 2) := by decide +kernel
theorem dL_ahead_362 : decode cL_ahead 362 = .ok (.goto 5, 3) := by decide +kernel
theorem dL_ahead_365 : decode cL_ahead 365 = .ok (.iload 8, 2) := by decide +kernel
theorem dL_ahead_367 : decode cL_ahead 367 = .ok (.istore 8, 2) := by decide +kernel
theorem dL_ahead_369 : decode cL_ahead 369 = .ok (.iload 12, 2) := by decide +kernel
theorem dL_ahead_371 : decode cL_ahead 371 = .ok (.ifCond .eq 15, 3) := by decide +kernel
theorem dL_ahead_374 : decode cL_ahead 374 = .ok (.iload 11, 2) := by decide +kernel
theorem dL_ahead_376 : decode cL_ahead 376 = .ok (.iload 9, 2) := by decide +kernel
theorem dL_ahead_378 : decode cL_ahead 378 = .ok (.if_icmp .ge 8, 3) := by decide +kernel
theorem dL_ahead_381 : decode cL_ahead 381 = .ok (.iload 11, 2) := by decide +kernel
theorem dL_ahead_383 : decode cL_ahead 383 = .ok (.goto 5, 3) := by decide +kernel
theorem dL_ahead_386 : decode cL_ahead 386 = .ok (.iload 9, 2) := by decide +kernel
theorem dL_ahead_388 : decode cL_ahead 388 = .ok (.istore 9, 2) := by decide +kernel
theorem dL_ahead_390 : decode cL_ahead 390 = .ok (.iinc 10 1, 3) := by decide +kernel
theorem dL_ahead_393 : decode cL_ahead 393 = .ok (.goto (-137), 3) := by decide +kernel
theorem dL_ahead_396 : decode cL_ahead 396 = .ok (.aload_n 0, 1) := by decide +kernel
theorem dL_ahead_397 : decode cL_ahead 397 = .ok (.invokevirtual 87, 3) := by decide +kernel
theorem dL_ahead_400 : decode cL_ahead 400 = .ok (.iload 7, 2) := by decide +kernel
theorem dL_ahead_402 : decode cL_ahead 402 = .ok (.if_icmp .ne 18, 3) := by decide +kernel
theorem dL_ahead_405 : decode cL_ahead 405 = .ok (.aload_n 0, 1) := by decide +kernel
theorem dL_ahead_406 : decode cL_ahead 406 = .ok (.iload 5, 2) := by decide +kernel
theorem dL_ahead_408 : decode cL_ahead 408 = .ok (.invokevirtual 90, 3) := by decide +kernel
theorem dL_ahead_411 : decode cL_ahead 411 = .ok (.iload 8, 2) := by decide +kernel
theorem dL_ahead_413 : decode cL_ahead 413 = .ok (.if_icmp .ne 7, 3) := by decide +kernel
theorem dL_ahead_416 : decode cL_ahead 416 = .ok (.iconst 1, 1) := by decide +kernel
theorem dL_ahead_417 : decode cL_ahead 417 = .ok (.goto 4, 3) := by decide +kernel
theorem dL_ahead_420 : decode cL_ahead 420 = .ok (.iconst 0, 1) := by decide +kernel
theorem dL_ahead_421 : decode cL_ahead 421 = .ok (.ireturn, 1) := by decide +kernel
theorem dL_law_0 : decode cL_law 0 = .ok (.new 10, 3) := by decide +kernel
theorem dL_law_3 : decode cL_law 3 = .ok (.dup, 1) := by decide +kernel
theorem dL_law_4 : decode cL_law 4 = .ok (.invokespecial 93, 3) := by decide +kernel
theorem dL_law_7 : decode cL_law 7 = .ok (.astore_n 1, 1) := by decide +kernel
theorem dL_law_8 : decode cL_law 8 = .ok (.bipush 30, 2) := by decide +kernel
theorem dL_law_10 : decode cL_law 10 = .ok (.newarray .int, 2) := by decide +kernel
theorem dL_law_12 : decode cL_law 12 = .ok (.astore_n 2, 1) := by decide +kernel
theorem dL_law_13 : decode cL_law 13 = .ok (.bipush 20, 2) := by decide +kernel
theorem dL_law_15 : decode cL_law 15 = .ok (.newarray .int, 2) := by decide +kernel
theorem dL_law_17 : decode cL_law 17 = .ok (.astore_n 3, 1) := by decide +kernel
theorem dL_law_18 : decode cL_law 18 = .ok (.bipush 24, 2) := by decide +kernel
theorem dL_law_20 : decode cL_law 20 = .ok (.newarray .int, 2) := by decide +kernel
theorem dL_law_22 : decode cL_law 22 = .ok (.astore 4, 2) := by decide +kernel
theorem dL_law_24 : decode cL_law 24 = .ok (.bipush 48, 2) := by decide +kernel
theorem dL_law_26 : decode cL_law 26 = .ok (.newarray .int, 2) := by decide +kernel
theorem dL_law_28 : decode cL_law 28 = .ok (.astore 5, 2) := by decide +kernel
theorem dL_law_30 : decode cL_law 30 = .ok (.bipush 7, 2) := by decide +kernel
theorem dL_law_32 : decode cL_law 32 = .ok (.newarray .int, 2) := by decide +kernel
theorem dL_law_34 : decode cL_law 34 = .ok (.astore 6, 2) := by decide +kernel
theorem dL_law_36 : decode cL_law 36 = .ok (.aload 6, 2) := by decide +kernel
theorem dL_law_38 : decode cL_law 38 = .ok (.iconst 0, 1) := by decide +kernel
theorem dL_law_39 : decode cL_law 39 = .ok (.iconst 1, 1) := by decide +kernel
theorem dL_law_40 : decode cL_law 40 = .ok (.iastore, 1) := by decide +kernel
theorem dL_law_41 : decode cL_law 41 = .ok (.aload 6, 2) := by decide +kernel
theorem dL_law_43 : decode cL_law 43 = .ok (.iconst 1, 1) := by decide +kernel
theorem dL_law_44 : decode cL_law 44 = .ok (.iconst 5, 1) := by decide +kernel
theorem dL_law_45 : decode cL_law 45 = .ok (.iastore, 1) := by decide +kernel
theorem dL_law_46 : decode cL_law 46 = .ok (.iconst 0, 1) := by decide +kernel
theorem dL_law_47 : decode cL_law 47 = .ok (.istore 7, 2) := by decide +kernel
theorem dL_law_49 : decode cL_law 49 = .ok (.iload 7, 2) := by decide +kernel
theorem dL_law_51 : decode cL_law 51 = .ok (.bipush 10, 2) := by decide +kernel
theorem dL_law_53 : decode cL_law 53 = .ok (.if_icmp .ge 49, 3) := by decide +kernel
theorem dL_law_56 : decode cL_law 56 = .ok (.aload_n 2, 1) := by decide +kernel
theorem dL_law_57 : decode cL_law 57 = .ok (.iconst 3, 1) := by decide +kernel
theorem dL_law_58 : decode cL_law 58 = .ok (.iload 7, 2) := by decide +kernel
theorem dL_law_60 : decode cL_law 60 = .ok (.imul, 1) := by decide +kernel
theorem dL_law_61 : decode cL_law 61 = .ok (.iload 7, 2) := by decide +kernel
theorem dL_law_63 : decode cL_law 63 = .ok (.bipush 8, 2) := by decide +kernel
theorem dL_law_65 : decode cL_law 65 = .ok (.irem, 1) := by decide +kernel
theorem dL_law_66 : decode cL_law 66 = .ok (.iastore, 1) := by decide +kernel
theorem dL_law_67 : decode cL_law 67 = .ok (.aload_n 2, 1) := by decide +kernel
theorem dL_law_68 : decode cL_law 68 = .ok (.iconst 3, 1) := by decide +kernel
theorem dL_law_69 : decode cL_law 69 = .ok (.iload 7, 2) := by decide +kernel
theorem dL_law_71 : decode cL_law 71 = .ok (.imul, 1) := by decide +kernel
theorem dL_law_72 : decode cL_law 72 = .ok (.iconst 1, 1) := by decide +kernel
theorem dL_law_73 : decode cL_law 73 = .ok (.iadd, 1) := by decide +kernel
theorem dL_law_74 : decode cL_law 74 = .ok (.iconst 3, 1) := by decide +kernel
theorem dL_law_75 : decode cL_law 75 = .ok (.iload 7, 2) := by decide +kernel
theorem dL_law_77 : decode cL_law 77 = .ok (.imul, 1) := by decide +kernel
theorem dL_law_78 : decode cL_law 78 = .ok (.iconst 1, 1) := by decide +kernel
theorem dL_law_79 : decode cL_law 79 = .ok (.iadd, 1) := by decide +kernel
theorem dL_law_80 : decode cL_law 80 = .ok (.bipush 8, 2) := by decide +kernel
theorem dL_law_82 : decode cL_law 82 = .ok (.irem, 1) := by decide +kernel
theorem dL_law_83 : decode cL_law 83 = .ok (.iastore, 1) := by decide +kernel
theorem dL_law_84 : decode cL_law 84 = .ok (.aload_n 2, 1) := by decide +kernel
theorem dL_law_85 : decode cL_law 85 = .ok (.iconst 3, 1) := by decide +kernel
theorem dL_law_86 : decode cL_law 86 = .ok (.iload 7, 2) := by decide +kernel
theorem dL_law_88 : decode cL_law 88 = .ok (.imul, 1) := by decide +kernel
theorem dL_law_89 : decode cL_law 89 = .ok (.iconst 2, 1) := by decide +kernel
theorem dL_law_90 : decode cL_law 90 = .ok (.iadd, 1) := by decide +kernel
theorem dL_law_91 : decode cL_law 91 = .ok (.iload 7, 2) := by decide +kernel
theorem dL_law_93 : decode cL_law 93 = .ok (.iconst 2, 1) := by decide +kernel
theorem dL_law_94 : decode cL_law 94 = .ok (.idiv, 1) := by decide +kernel
theorem dL_law_95 : decode cL_law 95 = .ok (.iastore, 1) := by decide +kernel
theorem dL_law_96 : decode cL_law 96 = .ok (.iinc 7 1, 3) := by decide +kernel
theorem dL_law_99 : decode cL_law 99 = .ok (.goto (-50), 3) := by decide +kernel
theorem dL_law_102 : decode cL_law 102 = .ok (.iconst 0, 1) := by decide +kernel
theorem dL_law_103 : decode cL_law 103 = .ok (.istore 7, 2) := by decide +kernel
theorem dL_law_105 : decode cL_law 105 = .ok (.iload 7, 2) := by decide +kernel
theorem dL_law_107 : decode cL_law 107 = .ok (.bipush 20, 2) := by decide +kernel
theorem dL_law_109 : decode cL_law 109 = .ok (.if_icmp .ge 14, 3) := by decide +kernel
theorem dL_law_112 : decode cL_law 112 = .ok (.aload_n 3, 1) := by decide +kernel
theorem dL_law_113 : decode cL_law 113 = .ok (.iload 7, 2) := by decide +kernel
theorem dL_law_115 : decode cL_law 115 = .ok (.iconst (-1), 1) := by decide +kernel
theorem dL_law_116 : decode cL_law 116 = .ok (.iastore, 1) := by decide +kernel
theorem dL_law_117 : decode cL_law 117 = .ok (.iinc 7 1, 3) := by decide +kernel
theorem dL_law_120 : decode cL_law 120 = .ok (.goto (-15), 3) := by decide +kernel
theorem dL_law_123 : decode cL_law 123 = .ok (.iconst 0, 1) := by decide +kernel
theorem dL_law_124 : decode cL_law 124 = .ok (.istore 7, 2) := by decide +kernel
theorem dL_law_126 : decode cL_law 126 = .ok (.iload 7, 2) := by decide +kernel
theorem dL_law_128 : decode cL_law 128 = .ok (.bipush 64, 2) := by decide +kernel
theorem dL_law_130 : decode cL_law 130 = .ok (.if_icmp .ge 1535, 3) := by decide +kernel
theorem dL_law_133 : decode cL_law 133 = .ok (.aload_n 0, 1) := by decide +kernel
theorem dL_law_134 : decode cL_law 134 = .ok (.iload 7, 2) := by decide +kernel
theorem dL_law_136 : decode cL_law 136 = .ok (.invokestatic 94, 3) := by decide +kernel
theorem dL_law_139 : decode cL_law 139 = .ok (.istore 8, 2) := by decide +kernel
theorem dL_law_141 : decode cL_law 141 = .ok (.iload 8, 2) := by decide +kernel
theorem dL_law_143 : decode cL_law 143 = .ok (.bipush 22, 2) := by decide +kernel
theorem dL_law_145 : decode cL_law 145 = .ok (.invokestatic 97, 3) := by decide +kernel
theorem dL_law_148 : decode cL_law 148 = .ok (.istore 9, 2) := by decide +kernel
theorem dL_law_150 : decode cL_law 150 = .ok (.iload 8, 2) := by decide +kernel
theorem dL_law_152 : decode cL_law 152 = .ok (.iconst 5, 1) := by decide +kernel
theorem dL_law_153 : decode cL_law 153 = .ok (.ishr, 1) := by decide +kernel
theorem dL_law_154 : decode cL_law 154 = .ok (.iconst 5, 1) := by decide +kernel
theorem dL_law_155 : decode cL_law 155 = .ok (.invokestatic 97, 3) := by decide +kernel
theorem dL_law_158 : decode cL_law 158 = .ok (.istore 10, 2) := by decide +kernel
theorem dL_law_160 : decode cL_law 160 = .ok (.aload_n 3, 1) := by decide +kernel
theorem dL_law_161 : decode cL_law 161 = .ok (.iload 10, 2) := by decide +kernel
theorem dL_law_163 : decode cL_law 163 = .ok (.invokestatic 12, 3) := by decide +kernel
theorem dL_law_166 : decode cL_law 166 = .ok (.istore 11, 2) := by decide +kernel
theorem dL_law_168 : decode cL_law 168 = .ok (.iconst 1, 1) := by decide +kernel
theorem dL_law_169 : decode cL_law 169 = .ok (.istore 12, 2) := by decide +kernel
theorem dL_law_171 : decode cL_law 171 = .ok (.iconst 1, 1) := by decide +kernel
theorem dL_law_172 : decode cL_law 172 = .ok (.istore 13, 2) := by decide +kernel
theorem dL_law_174 : decode cL_law 174 = .ok (.iload 9, 2) := by decide +kernel
theorem dL_law_176 : decode cL_law 176 = .ok (.iconst 2, 1) := by decide +kernel
theorem dL_law_177 : decode cL_law 177 = .ok (.if_icmp .ge 205, 3) := by decide +kernel
theorem dL_law_180 : decode cL_law 180 = .ok (.iload 8, 2) := by decide +kernel
theorem dL_law_182 : decode cL_law 182 = .ok (.bipush 8, 2) := by decide +kernel
theorem dL_law_184 : decode cL_law 184 = .ok (.ishr, 1) := by decide +kernel
theorem dL_law_185 : decode cL_law 185 = .ok (.bipush 10, 2) := by decide +kernel
theorem dL_law_187 : decode cL_law 187 = .ok (.invokestatic 97, 3) := by decide +kernel
theorem dL_law_190 : decode cL_law 190 = .ok (.istore 14, 2) := by decide +kernel
theorem dL_law_192 : decode cL_law 192 = .ok (.aload_n 2, 1) := by decide +kernel
theorem dL_law_193 : decode cL_law 193 = .ok (.iconst 3, 1) := by decide +kernel
theorem dL_law_194 : decode cL_law 194 = .ok (.iload 14, 2) := by decide +kernel
theorem dL_law_196 : decode cL_law 196 = .ok (.imul, 1) := by decide +kernel
theorem dL_law_197 : decode cL_law 197 = .ok (.iload 8, 2) := by decide +kernel
theorem dL_law_199 : decode cL_law 199 = .ok (.bipush 12, 2) := by decide +kernel
theorem dL_law_201 : decode cL_law 201 = .ok (.ishr, 1) := by decide +kernel
theorem dL_law_202 : decode cL_law 202 = .ok (.iload 8, 2) := by decide +kernel
theorem dL_law_204 : decode cL_law 204 = .ok (.bipush 25, 2) := by decide +kernel
theorem dL_law_206 : decode cL_law 206 = .ok (.ishr, 1) := by decide +kernel
theorem dL_law_207 : decode cL_law 207 = .ok (.iconst 2, 1) := by decide +kernel
theorem dL_law_208 : decode cL_law 208 = .ok (.invokestatic 97, 3) := by decide +kernel
theorem dL_law_211 : decode cL_law 211 = .ok (.ifCond .ne 8, 3) := by decide +kernel
theorem dL_law_214 : decode cL_law 214 = .ok (.bipush 8, 2) := by decide +kernel
theorem dL_law_216 : decode cL_law 216 = .ok (.goto 4, 3) := by decide +kernel
theorem dL_law_219 : decode cL_law 219 = .ok (.iconst 2, 1) := by decide +kernel
theorem dL_law_220 : decode cL_law 220 = .ok (.invokestatic 97, 3) := by decide +kernel
theorem dL_law_223 : decode cL_law 223 = .ok (.iastore, 1) := by decide +kernel
theorem dL_law_224 : decode cL_law 224 = .ok (.aload_n 2, 1) := by decide +kernel
theorem dL_law_225 : decode cL_law 225 = .ok (.iconst 3, 1) := by decide +kernel
theorem dL_law_226 : decode cL_law 226 = .ok (.iload 14, 2) := by decide +kernel
theorem dL_law_228 : decode cL_law 228 = .ok (.imul, 1) := by decide +kernel
theorem dL_law_229 : decode cL_law 229 = .ok (.iconst 1, 1) := by decide +kernel
theorem dL_law_230 : decode cL_law 230 = .ok (.iadd, 1) := by decide +kernel
theorem dL_law_231 : decode cL_law 231 = .ok (.iload 8, 2) := by decide +kernel
theorem dL_law_233 : decode cL_law 233 = .ok (.bipush 15, 2) := by decide +kernel
theorem dL_law_235 : decode cL_law 235 = .ok (.ishr, 1) := by decide +kernel
theorem dL_law_236 : decode cL_law 236 = .ok (.iload 8, 2) := by decide +kernel
theorem dL_law_238 : decode cL_law 238 = .ok (.bipush 25, 2) := by decide +kernel
theorem dL_law_240 : decode cL_law 240 = .ok (.ishr, 1) := by decide +kernel
theorem dL_law_241 : decode cL_law 241 = .ok (.iconst 2, 1) := by decide +kernel
theorem dL_law_242 : decode cL_law 242 = .ok (.invokestatic 97, 3) := by decide +kernel
theorem dL_law_245 : decode cL_law 245 = .ok (.ifCond .ne 8, 3) := by decide +kernel
theorem dL_law_248 : decode cL_law 248 = .ok (.bipush 8, 2) := by decide +kernel
theorem dL_law_250 : decode cL_law 250 = .ok (.goto 4, 3) := by decide +kernel
theorem dL_law_253 : decode cL_law 253 = .ok (.iconst 2, 1) := by decide +kernel
theorem dL_law_254 : decode cL_law 254 = .ok (.invokestatic 97, 3) := by decide +kernel
theorem dL_law_257 : decode cL_law 257 = .ok (.iastore, 1) := by decide +kernel
theorem dL_law_258 : decode cL_law 258 = .ok (.aload_n 2, 1) := by decide +kernel
theorem dL_law_259 : decode cL_law 259 = .ok (.iconst 3, 1) := by decide +kernel
theorem dL_law_260 : decode cL_law 260 = .ok (.iload 14, 2) := by decide +kernel
theorem dL_law_262 : decode cL_law 262 = .ok (.imul, 1) := by decide +kernel
theorem dL_law_263 : decode cL_law 263 = .ok (.iconst 2, 1) := by decide +kernel
theorem dL_law_264 : decode cL_law 264 = .ok (.iadd, 1) := by decide +kernel
theorem dL_law_265 : decode cL_law 265 = .ok (.iload 8, 2) := by decide +kernel
theorem dL_law_267 : decode cL_law 267 = .ok (.bipush 18, 2) := by decide +kernel
theorem dL_law_269 : decode cL_law 269 = .ok (.ishr, 1) := by decide +kernel
theorem dL_law_270 : decode cL_law 270 = .ok (.bipush 10, 2) := by decide +kernel
theorem dL_law_272 : decode cL_law 272 = .ok (.invokestatic 97, 3) := by decide +kernel
theorem dL_law_275 : decode cL_law 275 = .ok (.iastore, 1) := by decide +kernel
theorem dL_law_276 : decode cL_law 276 = .ok (.iconst 0, 1) := by decide +kernel
theorem dL_law_277 : decode cL_law 277 = .ok (.istore 15, 2) := by decide +kernel
theorem dL_law_279 : decode cL_law 279 = .ok (.iconst 0, 1) := by decide +kernel
theorem dL_law_280 : decode cL_law 280 = .ok (.istore 16, 2) := by decide +kernel
theorem dL_law_282 : decode cL_law 282 = .ok (.iload 16, 2) := by decide +kernel
theorem dL_law_284 : decode cL_law 284 = .ok (.bipush 10, 2) := by decide +kernel
theorem dL_law_286 : decode cL_law 286 = .ok (.if_icmp .ge 53, 3) := by decide +kernel
theorem dL_law_289 : decode cL_law 289 = .ok (.iload 15, 2) := by decide +kernel
theorem dL_law_291 : decode cL_law 291 = .ok (.aload_n 2, 1) := by decide +kernel
theorem dL_law_292 : decode cL_law 292 = .ok (.iconst 3, 1) := by decide +kernel
theorem dL_law_293 : decode cL_law 293 = .ok (.iload 16, 2) := by decide +kernel
theorem dL_law_295 : decode cL_law 295 = .ok (.imul, 1) := by decide +kernel
theorem dL_law_296 : decode cL_law 296 = .ok (.iaload, 1) := by decide +kernel
theorem dL_law_297 : decode cL_law 297 = .ok (.aload_n 2, 1) := by decide +kernel
theorem dL_law_298 : decode cL_law 298 = .ok (.iconst 3, 1) := by decide +kernel
theorem dL_law_299 : decode cL_law 299 = .ok (.iload 14, 2) := by decide +kernel
theorem dL_law_301 : decode cL_law 301 = .ok (.imul, 1) := by decide +kernel
theorem dL_law_302 : decode cL_law 302 = .ok (.iaload, 1) := by decide +kernel
theorem dL_law_303 : decode cL_law 303 = .ok (.if_icmp .ne 26, 3) := by decide +kernel
theorem dL_law_306 : decode cL_law 306 = .ok (.aload_n 2, 1) := by decide +kernel
theorem dL_law_307 : decode cL_law 307 = .ok (.iconst 3, 1) := by decide +kernel
theorem dL_law_308 : decode cL_law 308 = .ok (.iload 16, 2) := by decide +kernel
theorem dL_law_310 : decode cL_law 310 = .ok (.imul, 1) := by decide +kernel
theorem dL_law_311 : decode cL_law 311 = .ok (.iconst 1, 1) := by decide +kernel
theorem dL_law_312 : decode cL_law 312 = .ok (.iadd, 1) := by decide +kernel
theorem dL_law_313 : decode cL_law 313 = .ok (.iaload, 1) := by decide +kernel
theorem dL_law_314 : decode cL_law 314 = .ok (.aload_n 2, 1) := by decide +kernel
theorem dL_law_315 : decode cL_law 315 = .ok (.iconst 3, 1) := by decide +kernel
theorem dL_law_316 : decode cL_law 316 = .ok (.iload 14, 2) := by decide +kernel
theorem dL_law_318 : decode cL_law 318 = .ok (.imul, 1) := by decide +kernel
theorem dL_law_319 : decode cL_law 319 = .ok (.iconst 1, 1) := by decide +kernel
theorem dL_law_320 : decode cL_law 320 = .ok (.iadd, 1) := by decide +kernel
theorem dL_law_321 : decode cL_law 321 = .ok (.iaload, 1) := by decide +kernel
theorem dL_law_322 : decode cL_law 322 = .ok (.if_icmp .ne 7, 3) := by decide +kernel
theorem dL_law_325 : decode cL_law 325 = .ok (.iconst 1, 1) := by decide +kernel
theorem dL_law_326 : decode cL_law 326 = .ok (.goto 4, 3) := by decide +kernel
theorem dL_law_329 : decode cL_law 329 = .ok (.iconst 0, 1) := by decide +kernel
theorem dL_law_330 : decode cL_law 330 = .ok (.iadd, 1) := by decide +kernel
theorem dL_law_331 : decode cL_law 331 = .ok (.istore 15, 2) := by decide +kernel
theorem dL_law_333 : decode cL_law 333 = .ok (.iinc 16 1, 3) := by decide +kernel
theorem dL_law_336 : decode cL_law 336 = .ok (.goto (-54), 3) := by decide +kernel
theorem dL_law_339 : decode cL_law 339 = .ok (.aload_n 1, 1) := by decide +kernel
theorem dL_law_340 : decode cL_law 340 = .ok (.iload 14, 2) := by decide +kernel
theorem dL_law_342 : decode cL_law 342 = .ok (.aload_n 2, 1) := by decide +kernel
theorem dL_law_343 : decode cL_law 343 = .ok (.iconst 3, 1) := by decide +kernel
theorem dL_law_344 : decode cL_law 344 = .ok (.iload 14, 2) := by decide +kernel
theorem dL_law_346 : decode cL_law 346 = .ok (.imul, 1) := by decide +kernel
theorem dL_law_347 : decode cL_law 347 = .ok (.iaload, 1) := by decide +kernel
theorem dL_law_348 : decode cL_law 348 = .ok (.aload_n 2, 1) := by decide +kernel
theorem dL_law_349 : decode cL_law 349 = .ok (.iconst 3, 1) := by decide +kernel
theorem dL_law_350 : decode cL_law 350 = .ok (.iload 14, 2) := by decide +kernel
theorem dL_law_352 : decode cL_law 352 = .ok (.imul, 1) := by decide +kernel
theorem dL_law_353 : decode cL_law 353 = .ok (.iconst 1, 1) := by decide +kernel
theorem dL_law_354 : decode cL_law 354 = .ok (.iadd, 1) := by decide +kernel
theorem dL_law_355 : decode cL_law 355 = .ok (.iaload, 1) := by decide +kernel
theorem dL_law_356 : decode cL_law 356 = .ok (.aload_n 2, 1) := by decide +kernel
theorem dL_law_357 : decode cL_law 357 = .ok (.iconst 3, 1) := by decide +kernel
theorem dL_law_358 : decode cL_law 358 = .ok (.iload 14, 2) := by decide +kernel
theorem dL_law_360 : decode cL_law 360 = .ok (.imul, 1) := by decide +kernel
theorem dL_law_361 : decode cL_law 361 = .ok (.iconst 2, 1) := by decide +kernel
theorem dL_law_362 : decode cL_law 362 = .ok (.iadd, 1) := by decide +kernel
theorem dL_law_363 : decode cL_law 363 = .ok (.iaload, 1) := by decide +kernel
theorem dL_law_364 : decode cL_law 364 = .ok (.invokevirtual 100, 3) := by decide +kernel
theorem dL_law_367 : decode cL_law 367 = .ok (.iload 15, 2) := by decide +kernel
theorem dL_law_369 : decode cL_law 369 = .ok (.if_icmp .ne 7, 3) := by decide +kernel
theorem dL_law_372 : decode cL_law 372 = .ok (.iconst 1, 1) := by decide +kernel
theorem dL_law_373 : decode cL_law 373 = .ok (.goto 4, 3) := by decide +kernel
theorem dL_law_376 : decode cL_law 376 = .ok (.iconst 0, 1) := by decide +kernel
theorem dL_law_377 : decode cL_law 377 = .ok (.istore 12, 2) := by decide +kernel
theorem dL_law_379 : decode cL_law 379 = .ok (.goto 1207, 3) := by decide +kernel
theorem dL_law_382 : decode cL_law 382 = .ok (.iload 9, 2) := by decide +kernel
theorem dL_law_384 : decode cL_law 384 = .ok (.iconst 2, 1) := by decide +kernel
theorem dL_law_385 : decode cL_law 385 = .ok (.if_icmp .ne 112, 3) := by decide +kernel
theorem dL_law_388 : decode cL_law 388 = .ok (.iconst 1, 1) := by decide +kernel
theorem dL_law_389 : decode cL_law 389 = .ok (.iload 8, 2) := by decide +kernel
theorem dL_law_391 : decode cL_law 391 = .ok (.bipush 8, 2) := by decide +kernel
theorem dL_law_393 : decode cL_law 393 = .ok (.ishr, 1) := by decide +kernel
theorem dL_law_394 : decode cL_law 394 = .ok (.iconst 3, 1) := by decide +kernel
theorem dL_law_395 : decode cL_law 395 = .ok (.invokestatic 97, 3) := by decide +kernel
theorem dL_law_398 : decode cL_law 398 = .ok (.iadd, 1) := by decide +kernel
theorem dL_law_399 : decode cL_law 399 = .ok (.istore 14, 2) := by decide +kernel
theorem dL_law_401 : decode cL_law 401 = .ok (.iconst 1, 1) := by decide +kernel
theorem dL_law_402 : decode cL_law 402 = .ok (.istore 15, 2) := by decide +kernel
theorem dL_law_404 : decode cL_law 404 = .ok (.iconst 0, 1) := by decide +kernel
theorem dL_law_405 : decode cL_law 405 = .ok (.istore 16, 2) := by decide +kernel
theorem dL_law_407 : decode cL_law 407 = .ok (.iload 16, 2) := by decide +kernel
theorem dL_law_409 : decode cL_law 409 = .ok (.bipush 14, 2) := by decide +kernel
theorem dL_law_411 : decode cL_law 411 = .ok (.if_icmp .ge 32, 3) := by decide +kernel
theorem dL_law_414 : decode cL_law 414 = .ok (.iload 15, 2) := by decide +kernel
theorem dL_law_416 : decode cL_law 416 = .ok (.ifCond .eq 18, 3) := by decide +kernel
theorem dL_law_419 : decode cL_law 419 = .ok (.aload_n 3, 1) := by decide +kernel
theorem dL_law_420 : decode cL_law 420 = .ok (.iload 16, 2) := by decide +kernel
theorem dL_law_422 : decode cL_law 422 = .ok (.invokestatic 45, 3) := by decide +kernel
theorem dL_law_425 : decode cL_law 425 = .ok (.iload 14, 2) := by decide +kernel
theorem dL_law_427 : decode cL_law 427 = .ok (.if_icmp .gt 7, 3) := by decide +kernel
theorem dL_law_430 : decode cL_law 430 = .ok (.iconst 1, 1) := by decide +kernel
theorem dL_law_431 : decode cL_law 431 = .ok (.goto 4, 3) := by decide +kernel
theorem dL_law_434 : decode cL_law 434 = .ok (.iconst 0, 1) := by decide +kernel
theorem dL_law_435 : decode cL_law 435 = .ok (.istore 15, 2) := by decide +kernel
theorem dL_law_437 : decode cL_law 437 = .ok (.iinc 16 1, 3) := by decide +kernel
theorem dL_law_440 : decode cL_law 440 = .ok (.goto (-33), 3) := by decide +kernel
theorem dL_law_443 : decode cL_law 443 = .ok (.iconst 0, 1) := by decide +kernel
theorem dL_law_444 : decode cL_law 444 = .ok (.istore 13, 2) := by decide +kernel
theorem dL_law_446 : decode cL_law 446 = .ok (.aload_n 1, 1) := by decide +kernel
theorem dL_law_447 : decode cL_law 447 = .ok (.iload 14, 2) := by decide +kernel
theorem dL_law_449 : decode cL_law 449 = .ok (.invokevirtual 104, 3) := by decide +kernel
theorem dL_law_452 : decode cL_law 452 = .ok (.iload 15, 2) := by decide +kernel
theorem dL_law_454 : decode cL_law 454 = .ok (.ifCond .eq 10, 3) := by decide +kernel
theorem dL_law_457 : decode cL_law 457 = .ok (.aload 6, 2) := by decide +kernel
theorem dL_law_459 : decode cL_law 459 = .ok (.iconst 0, 1) := by decide +kernel
theorem dL_law_460 : decode cL_law 460 = .ok (.iaload, 1) := by decide +kernel
theorem dL_law_461 : decode cL_law 461 = .ok (.goto 5, 3) := by decide +kernel
theorem dL_law_464 : decode cL_law 464 = .ok (.bipush (-3), 2) := by decide +kernel
theorem dL_law_466 : decode cL_law 466 = .ok (.if_icmp .ne 7, 3) := by decide +kernel
theorem dL_law_469 : decode cL_law 469 = .ok (.iconst 1, 1) := by decide +kernel
theorem dL_law_470 : decode cL_law 470 = .ok (.goto 4, 3) := by decide +kernel
theorem dL_law_473 : decode cL_law 473 = .ok (.iconst 0, 1) := by decide +kernel
theorem dL_law_474 : decode cL_law 474 = .ok (.istore 12, 2) := by decide +kernel
theorem dL_law_476 : decode cL_law 476 = .ok (.aload 6, 2) := by decide +kernel
theorem dL_law_478 : decode cL_law 478 = .ok (.iconst 0, 1) := by decide +kernel
theorem dL_law_479 : decode cL_law 479 = .ok (.iload 15, 2) := by decide +kernel
theorem dL_law_481 : decode cL_law 481 = .ok (.ifCond .eq 8, 3) := by decide +kernel
theorem dL_law_484 : decode cL_law 484 = .ok (.iload 14, 2) := by decide +kernel
theorem dL_law_486 : decode cL_law 486 = .ok (.goto 7, 3) := by decide +kernel
theorem dL_law_489 : decode cL_law 489 = .ok (.aload 6, 2) := by decide +kernel
theorem dL_law_491 : decode cL_law 491 = .ok (.iconst 0, 1) := by decide +kernel
theorem dL_law_492 : decode cL_law 492 = .ok (.iaload, 1) := by decide +kernel
theorem dL_law_493 : decode cL_law 493 = .ok (.iastore, 1) := by decide +kernel
theorem dL_law_494 : decode cL_law 494 = .ok (.goto 1092, 3) := by decide +kernel
theorem dL_law_497 : decode cL_law 497 = .ok (.iload 9, 2) := by decide +kernel
theorem dL_law_499 : decode cL_law 499 = .ok (.iconst 5, 1) := by decide +kernel
theorem dL_law_500 : decode cL_law 500 = .ok (.if_icmp .ge 63, 3) := by decide +kernel
theorem dL_law_503 : decode cL_law 503 = .ok (.iload 8, 2) := by decide +kernel
theorem dL_law_505 : decode cL_law 505 = .ok (.bipush 8, 2) := by decide +kernel
theorem dL_law_507 : decode cL_law 507 = .ok (.ishr, 1) := by decide +kernel
theorem dL_law_508 : decode cL_law 508 = .ok (.bipush 10, 2) := by decide +kernel
theorem dL_law_510 : decode cL_law 510 = .ok (.invokestatic 97, 3) := by decide +kernel
theorem dL_law_513 : decode cL_law 513 = .ok (.istore 14, 2) := by decide +kernel
theorem dL_law_515 : decode cL_law 515 = .ok (.iload 8, 2) := by decide +kernel
theorem dL_law_517 : decode cL_law 517 = .ok (.bipush 12, 2) := by decide +kernel
theorem dL_law_519 : decode cL_law 519 = .ok (.ishr, 1) := by decide +kernel
theorem dL_law_520 : decode cL_law 520 = .ok (.iconst 2, 1) := by decide +kernel
theorem dL_law_521 : decode cL_law 521 = .ok (.invokestatic 97, 3) := by decide +kernel
theorem dL_law_524 : decode cL_law 524 = .ok (.istore 15, 2) := by decide +kernel
theorem dL_law_526 : decode cL_law 526 = .ok (.aload_n 1, 1) := by decide +kernel
theorem dL_law_527 : decode cL_law 527 = .ok (.iload 14, 2) := by decide +kernel
theorem dL_law_529 : decode cL_law 529 = .ok (.iload 15, 2) := by decide +kernel
theorem dL_law_531 : decode cL_law 531 = .ok (.invokevirtual 107, 3) := by decide +kernel
theorem dL_law_534 : decode cL_law 534 = .ok (.aload 6, 2) := by decide +kernel
theorem dL_law_536 : decode cL_law 536 = .ok (.iconst 1, 1) := by decide +kernel
theorem dL_law_537 : decode cL_law 537 = .ok (.iaload, 1) := by decide +kernel
theorem dL_law_538 : decode cL_law 538 = .ok (.if_icmp .ne 7, 3) := by decide +kernel
theorem dL_law_541 : decode cL_law 541 = .ok (.iconst 1, 1) := by decide +kernel
theorem dL_law_542 : decode cL_law 542 = .ok (.goto 4, 3) := by decide +kernel
theorem dL_law_545 : decode cL_law 545 = .ok (.iconst 0, 1) := by decide +kernel
theorem dL_law_546 : decode cL_law 546 = .ok (.istore 12, 2) := by decide +kernel
theorem dL_law_548 : decode cL_law 548 = .ok (.aload 6, 2) := by decide +kernel
theorem dL_law_550 : decode cL_law 550 = .ok (.iconst 1, 1) := by decide +kernel
theorem dL_law_551 : decode cL_law 551 = .ok (.iload 14, 2) := by decide +kernel
theorem dL_law_553 : decode cL_law 553 = .ok (.iastore, 1) := by decide +kernel
theorem dL_law_554 : decode cL_law 554 = .ok (.aload 6, 2) := by decide +kernel
theorem dL_law_556 : decode cL_law 556 = .ok (.iconst 2, 1) := by decide +kernel
theorem dL_law_557 : decode cL_law 557 = .ok (.iload 15, 2) := by decide +kernel
theorem dL_law_559 : decode cL_law 559 = .ok (.iastore, 1) := by decide +kernel
theorem dL_law_560 : decode cL_law 560 = .ok (.goto 1026, 3) := by decide +kernel
theorem dL_law_563 : decode cL_law 563 = .ok (.iload 9, 2) := by decide +kernel
theorem dL_law_565 : decode cL_law 565 = .ok (.bipush 10, 2) := by decide +kernel
theorem dL_law_567 : decode cL_law 567 = .ok (.if_icmp .ge 170, 3) := by decide +kernel
theorem dL_law_570 : decode cL_law 570 = .ok (.iload 8, 2) := by decide +kernel
theorem dL_law_572 : decode cL_law 572 = .ok (.bipush 8, 2) := by decide +kernel
theorem dL_law_574 : decode cL_law 574 = .ok (.ishr, 1) := by decide +kernel
theorem dL_law_575 : decode cL_law 575 = .ok (.iconst 4, 1) := by decide +kernel
theorem dL_law_576 : decode cL_law 576 = .ok (.invokestatic 97, 3) := by decide +kernel
theorem dL_law_579 : decode cL_law 579 = .ok (.ifCond .ne 18, 3) := by decide +kernel
theorem dL_law_582 : decode cL_law 582 = .ok (.bipush 11, 2) := by decide +kernel
theorem dL_law_584 : decode cL_law 584 = .ok (.iload 8, 2) := by decide +kernel
theorem dL_law_586 : decode cL_law 586 = .ok (.bipush 10, 2) := by decide +kernel
theorem dL_law_588 : decode cL_law 588 = .ok (.ishr, 1) := by decide +kernel
theorem dL_law_589 : decode cL_law 589 = .ok (.iconst 3, 1) := by decide +kernel
theorem dL_law_590 : decode cL_law 590 = .ok (.invokestatic 97, 3) := by decide +kernel
theorem dL_law_593 : decode cL_law 593 = .ok (.iadd, 1) := by decide +kernel
theorem dL_law_594 : decode cL_law 594 = .ok (.goto 13, 3) := by decide +kernel
theorem dL_law_597 : decode cL_law 597 = .ok (.iload 8, 2) := by decide +kernel
theorem dL_law_599 : decode cL_law 599 = .ok (.bipush 12, 2) := by decide +kernel
theorem dL_law_601 : decode cL_law 601 = .ok (.ishr, 1) := by decide +kernel
theorem dL_law_602 : decode cL_law 602 = .ok (.bipush 10, 2) := by decide +kernel
theorem dL_law_604 : decode cL_law 604 = .ok (.invokestatic 97, 3) := by decide +kernel
theorem dL_law_607 : decode cL_law 607 = .ok (.istore 14, 2) := by decide +kernel
theorem dL_law_609 : decode cL_law 609 = .ok (.iload 14, 2) := by decide +kernel
theorem dL_law_611 : decode cL_law 611 = .ok (.bipush 9, 2) := by decide +kernel
theorem dL_law_613 : decode cL_law 613 = .ok (.if_icmp .le 17, 3) := by decide +kernel
theorem dL_law_616 : decode cL_law 616 = .ok (.iload 14, 2) := by decide +kernel
theorem dL_law_618 : decode cL_law 618 = .ok (.bipush 10, 2) := by decide +kernel
theorem dL_law_620 : decode cL_law 620 = .ok (.isub, 1) := by decide +kernel
theorem dL_law_621 : decode cL_law 621 = .ok (.iload 11, 2) := by decide +kernel
theorem dL_law_623 : decode cL_law 623 = .ok (.if_icmp .le 7, 3) := by decide +kernel
theorem dL_law_626 : decode cL_law 626 = .ok (.iconst 1, 1) := by decide +kernel
theorem dL_law_627 : decode cL_law 627 = .ok (.goto 4, 3) := by decide +kernel
theorem dL_law_630 : decode cL_law 630 = .ok (.iconst 0, 1) := by decide +kernel
theorem dL_law_631 : decode cL_law 631 = .ok (.istore 15, 2) := by decide +kernel
theorem dL_law_633 : decode cL_law 633 = .ok (.iload 11, 2) := by decide +kernel
theorem dL_law_635 : decode cL_law 635 = .ok (.iconst 4, 1) := by decide +kernel
theorem dL_law_636 : decode cL_law 636 = .ok (.if_icmp .eq 16, 3) := by decide +kernel
theorem dL_law_639 : decode cL_law 639 = .ok (.aload_n 3, 1) := by decide +kernel
theorem dL_law_640 : decode cL_law 640 = .ok (.iload 14, 2) := by decide +kernel
theorem dL_law_642 : decode cL_law 642 = .ok (.invokestatic 45, 3) := by decide +kernel
theorem dL_law_645 : decode cL_law 645 = .ok (.aload 6, 2) := by decide +kernel
theorem dL_law_647 : decode cL_law 647 = .ok (.iconst 0, 1) := by decide +kernel
theorem dL_law_648 : decode cL_law 648 = .ok (.iaload, 1) := by decide +kernel
theorem dL_law_649 : decode cL_law 649 = .ok (.if_icmp .lt 7, 3) := by decide +kernel
theorem dL_law_652 : decode cL_law 652 = .ok (.iconst 1, 1) := by decide +kernel
theorem dL_law_653 : decode cL_law 653 = .ok (.goto 4, 3) := by decide +kernel
theorem dL_law_656 : decode cL_law 656 = .ok (.iconst 0, 1) := by decide +kernel
theorem dL_law_657 : decode cL_law 657 = .ok (.istore 16, 2) := by decide +kernel
theorem dL_law_659 : decode cL_law 659 = .ok (.iload 15, 2) := by decide +kernel
theorem dL_law_661 : decode cL_law 661 = .ok (.ifCond .ne 12, 3) := by decide +kernel
theorem dL_law_664 : decode cL_law 664 = .ok (.iload 16, 2) := by decide +kernel
theorem dL_law_666 : decode cL_law 666 = .ok (.ifCond .ne 7, 3) := by decide +kernel
theorem dL_law_669 : decode cL_law 669 = .ok (.iconst 1, 1) := by decide +kernel
theorem dL_law_670 : decode cL_law 670 = .ok (.goto 4, 3) := by decide +kernel
theorem dL_law_673 : decode cL_law 673 = .ok (.iconst 0, 1) := by decide +kernel
theorem dL_law_674 : decode cL_law 674 = .ok (.istore 13, 2) := by decide +kernel
theorem dL_law_676 : decode cL_law 676 = .ok (.aload_n 1, 1) := by decide +kernel
theorem dL_law_677 : decode cL_law 677 = .ok (.iload 10, 2) := by decide +kernel
theorem dL_law_679 : decode cL_law 679 = .ok (.iload 14, 2) := by decide +kernel
theorem dL_law_681 : decode cL_law 681 = .ok (.invokevirtual 110, 3) := by decide +kernel
theorem dL_law_684 : decode cL_law 684 = .ok (.iload 15, 2) := by decide +kernel
theorem dL_law_686 : decode cL_law 686 = .ok (.ifCond .eq 8, 3) := by decide +kernel
theorem dL_law_689 : decode cL_law 689 = .ok (.bipush (-3), 2) := by decide +kernel
theorem dL_law_691 : decode cL_law 691 = .ok (.goto 17, 3) := by decide +kernel
theorem dL_law_694 : decode cL_law 694 = .ok (.iload 16, 2) := by decide +kernel
theorem dL_law_696 : decode cL_law 696 = .ok (.ifCond .eq 8, 3) := by decide +kernel
theorem dL_law_699 : decode cL_law 699 = .ok (.bipush (-4), 2) := by decide +kernel
theorem dL_law_701 : decode cL_law 701 = .ok (.goto 7, 3) := by decide +kernel
theorem dL_law_704 : decode cL_law 704 = .ok (.iload 11, 2) := by decide +kernel
theorem dL_law_706 : decode cL_law 706 = .ok (.iconst 1, 1) := by decide +kernel
theorem dL_law_707 : decode cL_law 707 = .ok (.iadd, 1) := by decide +kernel
theorem dL_law_708 : decode cL_law 708 = .ok (.if_icmp .ne 7, 3) := by decide +kernel
theorem dL_law_711 : decode cL_law 711 = .ok (.iconst 1, 1) := by decide +kernel
theorem dL_law_712 : decode cL_law 712 = .ok (.goto 4, 3) := by decide +kernel
theorem dL_law_715 : decode cL_law 715 = .ok (.iconst 0, 1) := by decide +kernel
theorem dL_law_716 : decode cL_law 716 = .ok (.istore 12, 2) := by decide +kernel
theorem dL_law_718 : decode cL_law 718 = .ok (.iload 13, 2) := by decide +kernel
theorem dL_law_720 : decode cL_law 720 = .ok (.ifCond .eq 14, 3) := by decide +kernel
theorem dL_law_723 : decode cL_law 723 = .ok (.aload_n 3, 1) := by decide +kernel
theorem dL_law_724 : decode cL_law 724 = .ok (.iconst 4, 1) := by decide +kernel
theorem dL_law_725 : decode cL_law 725 = .ok (.iload 10, 2) := by decide +kernel
theorem dL_law_727 : decode cL_law 727 = .ok (.imul, 1) := by decide +kernel
theorem dL_law_728 : decode cL_law 728 = .ok (.iload 11, 2) := by decide +kernel
theorem dL_law_730 : decode cL_law 730 = .ok (.iadd, 1) := by decide +kernel
theorem dL_law_731 : decode cL_law 731 = .ok (.iload 14, 2) := by decide +kernel
theorem dL_law_733 : decode cL_law 733 = .ok (.iastore, 1) := by decide +kernel
theorem dL_law_734 : decode cL_law 734 = .ok (.goto 852, 3) := by decide +kernel
theorem dL_law_737 : decode cL_law 737 = .ok (.iload 9, 2) := by decide +kernel
theorem dL_law_739 : decode cL_law 739 = .ok (.bipush 10, 2) := by decide +kernel
theorem dL_law_741 : decode cL_law 741 = .ok (.if_icmp .ne 72, 3) := by decide +kernel
theorem dL_law_744 : decode cL_law 744 = .ok (.iload 11, 2) := by decide +kernel
theorem dL_law_746 : decode cL_law 746 = .ok (.ifCond .le 7, 3) := by decide +kernel
theorem dL_law_749 : decode cL_law 749 = .ok (.iconst 1, 1) := by decide +kernel
theorem dL_law_750 : decode cL_law 750 = .ok (.goto 4, 3) := by decide +kernel
theorem dL_law_753 : decode cL_law 753 = .ok (.iconst 0, 1) := by decide +kernel
theorem dL_law_754 : decode cL_law 754 = .ok (.istore 13, 2) := by decide +kernel
theorem dL_law_756 : decode cL_law 756 = .ok (.aload_n 1, 1) := by decide +kernel
theorem dL_law_757 : decode cL_law 757 = .ok (.iload 10, 2) := by decide +kernel
theorem dL_law_759 : decode cL_law 759 = .ok (.invokevirtual 113, 3) := by decide +kernel
theorem dL_law_762 : decode cL_law 762 = .ok (.iload 11, 2) := by decide +kernel
theorem dL_law_764 : decode cL_law 764 = .ok (.ifCond .le 17, 3) := by decide +kernel
theorem dL_law_767 : decode cL_law 767 = .ok (.aload_n 3, 1) := by decide +kernel
theorem dL_law_768 : decode cL_law 768 = .ok (.iconst 4, 1) := by decide +kernel
theorem dL_law_769 : decode cL_law 769 = .ok (.iload 10, 2) := by decide +kernel
theorem dL_law_771 : decode cL_law 771 = .ok (.imul, 1) := by decide +kernel
theorem dL_law_772 : decode cL_law 772 = .ok (.iload 11, 2) := by decide +kernel
theorem dL_law_774 : decode cL_law 774 = .ok (.iadd, 1) := by decide +kernel
theorem dL_law_775 : decode cL_law 775 = .ok (.iconst 1, 1) := by decide +kernel
theorem dL_law_776 : decode cL_law 776 = .ok (.isub, 1) := by decide +kernel
theorem dL_law_777 : decode cL_law 777 = .ok (.iaload, 1) := by decide +kernel
theorem dL_law_778 : decode cL_law 778 = .ok (.goto 5, 3) := by decide +kernel
theorem dL_law_781 : decode cL_law 781 = .ok (.bipush (-3), 2) := by decide +kernel
theorem dL_law_783 : decode cL_law 783 = .ok (.if_icmp .ne 7, 3) := by decide +kernel
theorem dL_law_786 : decode cL_law 786 = .ok (.iconst 1, 1) := by decide +kernel
theorem dL_law_787 : decode cL_law 787 = .ok (.goto 4, 3) := by decide +kernel
theorem dL_law_790 : decode cL_law 790 = .ok (.iconst 0, 1) := by decide +kernel
theorem dL_law_791 : decode cL_law 791 = .ok (.istore 12, 2) := by decide +kernel
theorem dL_law_793 : decode cL_law 793 = .ok (.iload 11, 2) := by decide +kernel
theorem dL_law_795 : decode cL_law 795 = .ok (.ifCond .le 791, 3) := by decide +kernel
theorem dL_law_798 : decode cL_law 798 = .ok (.aload_n 3, 1) := by decide +kernel
theorem dL_law_799 : decode cL_law 799 = .ok (.iconst 4, 1) := by decide +kernel
theorem dL_law_800 : decode cL_law 800 = .ok (.iload 10, 2) := by decide +kernel
theorem dL_law_802 : decode cL_law 802 = .ok (.imul, 1) := by decide +kernel
theorem dL_law_803 : decode cL_law 803 = .ok (.iload 11, 2) := by decide +kernel
theorem dL_law_805 : decode cL_law 805 = .ok (.iadd, 1) := by decide +kernel
theorem dL_law_806 : decode cL_law 806 = .ok (.iconst 1, 1) := by decide +kernel
theorem dL_law_807 : decode cL_law 807 = .ok (.isub, 1) := by decide +kernel
theorem dL_law_808 : decode cL_law 808 = .ok (.iconst (-1), 1) := by decide +kernel
theorem dL_law_809 : decode cL_law 809 = .ok (.iastore, 1) := by decide +kernel
theorem dL_law_810 : decode cL_law 810 = .ok (.goto 776, 3) := by decide +kernel
theorem dL_law_813 : decode cL_law 813 = .ok (.iload 9, 2) := by decide +kernel
theorem dL_law_815 : decode cL_law 815 = .ok (.bipush 11, 2) := by decide +kernel
theorem dL_law_817 : decode cL_law 817 = .ok (.if_icmp .ne 85, 3) := by decide +kernel
theorem dL_law_820 : decode cL_law 820 = .ok (.iload 8, 2) := by decide +kernel
theorem dL_law_822 : decode cL_law 822 = .ok (.bipush 8, 2) := by decide +kernel
theorem dL_law_824 : decode cL_law 824 = .ok (.ishr, 1) := by decide +kernel
theorem dL_law_825 : decode cL_law 825 = .ok (.iconst 5, 1) := by decide +kernel
theorem dL_law_826 : decode cL_law 826 = .ok (.invokestatic 97, 3) := by decide +kernel
theorem dL_law_829 : decode cL_law 829 = .ok (.istore 14, 2) := by decide +kernel
theorem dL_law_831 : decode cL_law 831 = .ok (.iload 14, 2) := by decide +kernel
theorem dL_law_833 : decode cL_law 833 = .ok (.iload 10, 2) := by decide +kernel
theorem dL_law_835 : decode cL_law 835 = .ok (.if_icmp .eq 7, 3) := by decide +kernel
theorem dL_law_838 : decode cL_law 838 = .ok (.iconst 1, 1) := by decide +kernel
theorem dL_law_839 : decode cL_law 839 = .ok (.goto 4, 3) := by decide +kernel
theorem dL_law_842 : decode cL_law 842 = .ok (.iconst 0, 1) := by decide +kernel
theorem dL_law_843 : decode cL_law 843 = .ok (.istore 13, 2) := by decide +kernel
theorem dL_law_845 : decode cL_law 845 = .ok (.aload_n 1, 1) := by decide +kernel
theorem dL_law_846 : decode cL_law 846 = .ok (.iload 10, 2) := by decide +kernel
theorem dL_law_848 : decode cL_law 848 = .ok (.iload 14, 2) := by decide +kernel
theorem dL_law_850 : decode cL_law 850 = .ok (.invokevirtual 116, 3) := by decide +kernel
theorem dL_law_853 : decode cL_law 853 = .ok (.iload 14, 2) := by decide +kernel
theorem dL_law_855 : decode cL_law 855 = .ok (.iload 10, 2) := by decide +kernel
theorem dL_law_857 : decode cL_law 857 = .ok (.if_icmp .ne 8, 3) := by decide +kernel
theorem dL_law_860 : decode cL_law 860 = .ok (.bipush (-2), 2) := by decide +kernel
theorem dL_law_862 : decode cL_law 862 = .ok (.goto 12, 3) := by decide +kernel
theorem dL_law_865 : decode cL_law 865 = .ok (.iload 11, 2) := by decide +kernel
theorem dL_law_867 : decode cL_law 867 = .ok (.aload_n 3, 1) := by decide +kernel
theorem dL_law_868 : decode cL_law 868 = .ok (.iload 14, 2) := by decide +kernel
theorem dL_law_870 : decode cL_law 870 = .ok (.invokestatic 12, 3) := by decide +kernel
theorem dL_law_873 : decode cL_law 873 = .ok (.iadd, 1) := by decide +kernel
theorem dL_law_874 : decode cL_law 874 = .ok (.if_icmp .ne 7, 3) := by decide +kernel
theorem dL_law_877 : decode cL_law 877 = .ok (.iconst 1, 1) := by decide +kernel
theorem dL_law_878 : decode cL_law 878 = .ok (.goto 4, 3) := by decide +kernel
theorem dL_law_881 : decode cL_law 881 = .ok (.iconst 0, 1) := by decide +kernel
theorem dL_law_882 : decode cL_law 882 = .ok (.istore 12, 2) := by decide +kernel
theorem dL_law_884 : decode cL_law 884 = .ok (.iload 14, 2) := by decide +kernel
theorem dL_law_886 : decode cL_law 886 = .ok (.iload 10, 2) := by decide +kernel
theorem dL_law_888 : decode cL_law 888 = .ok (.if_icmp .eq 11, 3) := by decide +kernel
theorem dL_law_891 : decode cL_law 891 = .ok (.aload_n 3, 1) := by decide +kernel
theorem dL_law_892 : decode cL_law 892 = .ok (.iload 10, 2) := by decide +kernel
theorem dL_law_894 : decode cL_law 894 = .ok (.iload 14, 2) := by decide +kernel
theorem dL_law_896 : decode cL_law 896 = .ok (.invokestatic 83, 3) := by decide +kernel
theorem dL_law_899 : decode cL_law 899 = .ok (.goto 687, 3) := by decide +kernel
theorem dL_law_902 : decode cL_law 902 = .ok (.iload 9, 2) := by decide +kernel
theorem dL_law_904 : decode cL_law 904 = .ok (.bipush 16, 2) := by decide +kernel
theorem dL_law_906 : decode cL_law 906 = .ok (.if_icmp .ge 230, 3) := by decide +kernel
theorem dL_law_909 : decode cL_law 909 = .ok (.iconst 1, 1) := by decide +kernel
theorem dL_law_910 : decode cL_law 910 = .ok (.istore 14, 2) := by decide +kernel
theorem dL_law_912 : decode cL_law 912 = .ok (.iload 8, 2) := by decide +kernel
theorem dL_law_914 : decode cL_law 914 = .ok (.bipush 8, 2) := by decide +kernel
theorem dL_law_916 : decode cL_law 916 = .ok (.ishr, 1) := by decide +kernel
theorem dL_law_917 : decode cL_law 917 = .ok (.iconst 2, 1) := by decide +kernel
theorem dL_law_918 : decode cL_law 918 = .ok (.invokestatic 97, 3) := by decide +kernel
theorem dL_law_921 : decode cL_law 921 = .ok (.istore 15, 2) := by decide +kernel
theorem dL_law_923 : decode cL_law 923 = .ok (.iconst 0, 1) := by decide +kernel
theorem dL_law_924 : decode cL_law 924 = .ok (.istore 16, 2) := by decide +kernel
theorem dL_law_926 : decode cL_law 926 = .ok (.iload 16, 2) := by decide +kernel
theorem dL_law_928 : decode cL_law 928 = .ok (.iload 11, 2) := by decide +kernel
theorem dL_law_930 : decode cL_law 930 = .ok (.if_icmp .ge 55, 3) := by decide +kernel
theorem dL_law_933 : decode cL_law 933 = .ok (.aload_n 2, 1) := by decide +kernel
theorem dL_law_934 : decode cL_law 934 = .ok (.aload 6, 2) := by decide +kernel
theorem dL_law_936 : decode cL_law 936 = .ok (.iload 15, 2) := by decide +kernel
theorem dL_law_938 : decode cL_law 938 = .ok (.aload_n 3, 1) := by decide +kernel
theorem dL_law_939 : decode cL_law 939 = .ok (.iload 10, 2) := by decide +kernel
theorem dL_law_941 : decode cL_law 941 = .ok (.iload 16, 2) := by decide +kernel
theorem dL_law_943 : decode cL_law 943 = .ok (.invokestatic 18, 3) := by decide +kernel
theorem dL_law_946 : decode cL_law 946 = .ok (.invokestatic 22, 3) := by decide +kernel
theorem dL_law_949 : decode cL_law 949 = .ok (.istore 17, 2) := by decide +kernel
theorem dL_law_951 : decode cL_law 951 = .ok (.bipush 10, 2) := by decide +kernel
theorem dL_law_953 : decode cL_law 953 = .ok (.iload 14, 2) := by decide +kernel
theorem dL_law_955 : decode cL_law 955 = .ok (.imul, 1) := by decide +kernel
theorem dL_law_956 : decode cL_law 956 = .ok (.iload 17, 2) := by decide +kernel
theorem dL_law_958 : decode cL_law 958 = .ok (.ifCond .ge 16, 3) := by decide +kernel
theorem dL_law_961 : decode cL_law 961 = .ok (.iload 8, 2) := by decide +kernel
theorem dL_law_963 : decode cL_law 963 = .ok (.bipush 10, 2) := by decide +kernel
theorem dL_law_965 : decode cL_law 965 = .ok (.ishr, 1) := by decide +kernel
theorem dL_law_966 : decode cL_law 966 = .ok (.bipush 10, 2) := by decide +kernel
theorem dL_law_968 : decode cL_law 968 = .ok (.invokestatic 97, 3) := by decide +kernel
theorem dL_law_971 : decode cL_law 971 = .ok (.goto 5, 3) := by decide +kernel
theorem dL_law_974 : decode cL_law 974 = .ok (.iload 17, 2) := by decide +kernel
theorem dL_law_976 : decode cL_law 976 = .ok (.iadd, 1) := by decide +kernel
theorem dL_law_977 : decode cL_law 977 = .ok (.istore 14, 2) := by decide +kernel
theorem dL_law_979 : decode cL_law 979 = .ok (.iinc 16 1, 3) := by decide +kernel
theorem dL_law_982 : decode cL_law 982 = .ok (.goto (-56), 3) := by decide +kernel
theorem dL_law_985 : decode cL_law 985 = .ok (.iload 11, 2) := by decide +kernel
theorem dL_law_987 : decode cL_law 987 = .ok (.ifCond .ne 19, 3) := by decide +kernel
theorem dL_law_990 : decode cL_law 990 = .ok (.bipush 10, 2) := by decide +kernel
theorem dL_law_992 : decode cL_law 992 = .ok (.iload 8, 2) := by decide +kernel
theorem dL_law_994 : decode cL_law 994 = .ok (.bipush 10, 2) := by decide +kernel
theorem dL_law_996 : decode cL_law 996 = .ok (.ishr, 1) := by decide +kernel
theorem dL_law_997 : decode cL_law 997 = .ok (.bipush 10, 2) := by decide +kernel
theorem dL_law_999 : decode cL_law 999 = .ok (.invokestatic 97, 3) := by decide +kernel
theorem dL_law_1002 : decode cL_law 1002 = .ok (.iadd, 1) := by decide +kernel
theorem dL_law_1003 : decode cL_law 1003 = .ok (.goto 5, 3) := by decide +kernel
theorem dL_law_1006 : decode cL_law 1006 = .ok (.iload 14, 2) := by decide +kernel
theorem dL_law_1008 : decode cL_law 1008 = .ok (.istore 14, 2) := by decide +kernel
theorem dL_law_1010 : decode cL_law 1010 = .ok (.iload 8, 2) := by decide +kernel
theorem dL_law_1012 : decode cL_law 1012 = .ok (.bipush 16, 2) := by decide +kernel
theorem dL_law_1014 : decode cL_law 1014 = .ok (.ishr, 1) := by decide +kernel
theorem dL_law_1015 : decode cL_law 1015 = .ok (.iload 8, 2) := by decide +kernel
theorem dL_law_1017 : decode cL_law 1017 = .ok (.bipush 25, 2) := by decide +kernel
theorem dL_law_1019 : decode cL_law 1019 = .ok (.ishr, 1) := by decide +kernel
theorem dL_law_1020 : decode cL_law 1020 = .ok (.iconst 2, 1) := by decide +kernel
theorem dL_law_1021 : decode cL_law 1021 = .ok (.invokestatic 97, 3) := by decide +kernel
theorem dL_law_1024 : decode cL_law 1024 = .ok (.ifCond .ne 8, 3) := by decide +kernel
theorem dL_law_1027 : decode cL_law 1027 = .ok (.bipush 100, 2) := by decide +kernel
theorem dL_law_1029 : decode cL_law 1029 = .ok (.goto 4, 3) := by decide +kernel
theorem dL_law_1032 : decode cL_law 1032 = .ok (.iconst 4, 1) := by decide +kernel
theorem dL_law_1033 : decode cL_law 1033 = .ok (.invokestatic 97, 3) := by decide +kernel
theorem dL_law_1036 : decode cL_law 1036 = .ok (.istore 16, 2) := by decide +kernel
theorem dL_law_1038 : decode cL_law 1038 = .ok (.aload 6, 2) := by decide +kernel
theorem dL_law_1040 : decode cL_law 1040 = .ok (.iconst 5, 1) := by decide +kernel
theorem dL_law_1041 : decode cL_law 1041 = .ok (.iaload, 1) := by decide +kernel
theorem dL_law_1042 : decode cL_law 1042 = .ok (.bipush 12, 2) := by decide +kernel
theorem dL_law_1044 : decode cL_law 1044 = .ok (.if_icmp .ge 7, 3) := by decide +kernel
theorem dL_law_1047 : decode cL_law 1047 = .ok (.iconst 1, 1) := by decide +kernel
theorem dL_law_1048 : decode cL_law 1048 = .ok (.goto 4, 3) := by decide +kernel
theorem dL_law_1051 : decode cL_law 1051 = .ok (.iconst 0, 1) := by decide +kernel
theorem dL_law_1052 : decode cL_law 1052 = .ok (.istore 13, 2) := by decide +kernel
theorem dL_law_1054 : decode cL_law 1054 = .ok (.aload_n 1, 1) := by decide +kernel
theorem dL_law_1055 : decode cL_law 1055 = .ok (.iload 14, 2) := by decide +kernel
theorem dL_law_1057 : decode cL_law 1057 = .ok (.iload 16, 2) := by decide +kernel
theorem dL_law_1059 : decode cL_law 1059 = .ok (.invokevirtual 119, 3) := by decide +kernel
theorem dL_law_1062 : decode cL_law 1062 = .ok (.aload 6, 2) := by decide +kernel
theorem dL_law_1064 : decode cL_law 1064 = .ok (.iconst 5, 1) := by decide +kernel
theorem dL_law_1065 : decode cL_law 1065 = .ok (.iaload, 1) := by decide +kernel
theorem dL_law_1066 : decode cL_law 1066 = .ok (.bipush 12, 2) := by decide +kernel
theorem dL_law_1068 : decode cL_law 1068 = .ok (.if_icmp .ge 12, 3) := by decide +kernel
theorem dL_law_1071 : decode cL_law 1071 = .ok (.aload 6, 2) := by decide +kernel
theorem dL_law_1073 : decode cL_law 1073 = .ok (.iconst 5, 1) := by decide +kernel
theorem dL_law_1074 : decode cL_law 1074 = .ok (.iaload, 1) := by decide +kernel
theorem dL_law_1075 : decode cL_law 1075 = .ok (.iconst 1, 1) := by decide +kernel
theorem dL_law_1076 : decode cL_law 1076 = .ok (.iadd, 1) := by decide +kernel
theorem dL_law_1077 : decode cL_law 1077 = .ok (.goto 5, 3) := by decide +kernel
theorem dL_law_1080 : decode cL_law 1080 = .ok (.bipush (-4), 2) := by decide +kernel
theorem dL_law_1082 : decode cL_law 1082 = .ok (.if_icmp .ne 7, 3) := by decide +kernel
theorem dL_law_1085 : decode cL_law 1085 = .ok (.iconst 1, 1) := by decide +kernel
theorem dL_law_1086 : decode cL_law 1086 = .ok (.goto 4, 3) := by decide +kernel
theorem dL_law_1089 : decode cL_law 1089 = .ok (.iconst 0, 1) := by decide +kernel
theorem dL_law_1090 : decode cL_law 1090 = .ok (.istore 12, 2) := by decide +kernel
theorem dL_law_1092 : decode cL_law 1092 = .ok (.aload 6, 2) := by decide +kernel
theorem dL_law_1094 : decode cL_law 1094 = .ok (.iconst 5, 1) := by decide +kernel
theorem dL_law_1095 : decode cL_law 1095 = .ok (.iaload, 1) := by decide +kernel
theorem dL_law_1096 : decode cL_law 1096 = .ok (.bipush 12, 2) := by decide +kernel
theorem dL_law_1098 : decode cL_law 1098 = .ok (.if_icmp .ge 35, 3) := by decide +kernel
theorem dL_law_1101 : decode cL_law 1101 = .ok (.aload 4, 2) := by decide +kernel
theorem dL_law_1103 : decode cL_law 1103 = .ok (.iconst 2, 1) := by decide +kernel
theorem dL_law_1104 : decode cL_law 1104 = .ok (.aload 6, 2) := by decide +kernel
theorem dL_law_1106 : decode cL_law 1106 = .ok (.iconst 5, 1) := by decide +kernel
theorem dL_law_1107 : decode cL_law 1107 = .ok (.iaload, 1) := by decide +kernel
theorem dL_law_1108 : decode cL_law 1108 = .ok (.imul, 1) := by decide +kernel
theorem dL_law_1109 : decode cL_law 1109 = .ok (.iload 14, 2) := by decide +kernel
theorem dL_law_1111 : decode cL_law 1111 = .ok (.iastore, 1) := by decide +kernel
theorem dL_law_1112 : decode cL_law 1112 = .ok (.aload 4, 2) := by decide +kernel
theorem dL_law_1114 : decode cL_law 1114 = .ok (.iconst 2, 1) := by decide +kernel
theorem dL_law_1115 : decode cL_law 1115 = .ok (.aload 6, 2) := by decide +kernel
theorem dL_law_1117 : decode cL_law 1117 = .ok (.iconst 5, 1) := by decide +kernel
theorem dL_law_1118 : decode cL_law 1118 = .ok (.iaload, 1) := by decide +kernel
theorem dL_law_1119 : decode cL_law 1119 = .ok (.imul, 1) := by decide +kernel
theorem dL_law_1120 : decode cL_law 1120 = .ok (.iconst 1, 1) := by decide +kernel
theorem dL_law_1121 : decode cL_law 1121 = .ok (.iadd, 1) := by decide +kernel
theorem dL_law_1122 : decode cL_law 1122 = .ok (.iload 16, 2) := by decide +kernel
theorem dL_law_1124 : decode cL_law 1124 = .ok (.iastore, 1) := by decide +kernel
theorem dL_law_1125 : decode cL_law 1125 = .ok (.aload 6, 2) := by decide +kernel
theorem dL_law_1127 : decode cL_law 1127 = .ok (.iconst 5, 1) := by decide +kernel
theorem dL_law_1128 : decode cL_law 1128 = .ok (.dup2, 1) := by decide +kernel
theorem dL_law_1129 : decode cL_law 1129 = .ok (.iaload, 1) := by decide +kernel
theorem dL_law_1130 : decode cL_law 1130 = .ok (.iconst 1, 1) := by decide +kernel
theorem dL_law_1131 : decode cL_law 1131 = .ok (.iadd, 1) := by decide +kernel
theorem dL_law_1132 : decode cL_law 1132 = .ok (.iastore, 1) := by decide +kernel
theorem dL_law_1133 : decode cL_law 1133 = .ok (.goto 453, 3) := by decide +kernel
theorem dL_law_1136 : decode cL_law 1136 = .ok (.iload 9, 2) := by decide +kernel
theorem dL_law_1138 : decode cL_law 1138 = .ok (.bipush 16, 2) := by decide +kernel
theorem dL_law_1140 : decode cL_law 1140 = .ok (.if_icmp .ne 91, 3) := by decide +kernel
theorem dL_law_1143 : decode cL_law 1143 = .ok (.aload 6, 2) := by decide +kernel
theorem dL_law_1145 : decode cL_law 1145 = .ok (.iconst 5, 1) := by decide +kernel
theorem dL_law_1146 : decode cL_law 1146 = .ok (.iaload, 1) := by decide +kernel
theorem dL_law_1147 : decode cL_law 1147 = .ok (.ifCond .le 84, 3) := by decide +kernel
theorem dL_law_1150 : decode cL_law 1150 = .ok (.iload 8, 2) := by decide +kernel
theorem dL_law_1152 : decode cL_law 1152 = .ok (.bipush 8, 2) := by decide +kernel
theorem dL_law_1154 : decode cL_law 1154 = .ok (.ishr, 1) := by decide +kernel
theorem dL_law_1155 : decode cL_law 1155 = .ok (.aload 6, 2) := by decide +kernel
theorem dL_law_1157 : decode cL_law 1157 = .ok (.iconst 5, 1) := by decide +kernel
theorem dL_law_1158 : decode cL_law 1158 = .ok (.iaload, 1) := by decide +kernel
theorem dL_law_1159 : decode cL_law 1159 = .ok (.invokestatic 97, 3) := by decide +kernel
theorem dL_law_1162 : decode cL_law 1162 = .ok (.istore 14, 2) := by decide +kernel
theorem dL_law_1164 : decode cL_law 1164 = .ok (.aload_n 1, 1) := by decide +kernel
theorem dL_law_1165 : decode cL_law 1165 = .ok (.iload 14, 2) := by decide +kernel
theorem dL_law_1167 : decode cL_law 1167 = .ok (.invokevirtual 122, 3) := by decide +kernel
theorem dL_law_1170 : decode cL_law 1170 = .ok (.aload 4, 2) := by decide +kernel
theorem dL_law_1172 : decode cL_law 1172 = .ok (.iconst 2, 1) := by decide +kernel
theorem dL_law_1173 : decode cL_law 1173 = .ok (.iload 14, 2) := by decide +kernel
theorem dL_law_1175 : decode cL_law 1175 = .ok (.imul, 1) := by decide +kernel
theorem dL_law_1176 : decode cL_law 1176 = .ok (.iconst 1, 1) := by decide +kernel
theorem dL_law_1177 : decode cL_law 1177 = .ok (.iadd, 1) := by decide +kernel
theorem dL_law_1178 : decode cL_law 1178 = .ok (.iaload, 1) := by decide +kernel
theorem dL_law_1179 : decode cL_law 1179 = .ok (.if_icmp .ne 7, 3) := by decide +kernel
theorem dL_law_1182 : decode cL_law 1182 = .ok (.iconst 1, 1) := by decide +kernel
theorem dL_law_1183 : decode cL_law 1183 = .ok (.goto 4, 3) := by decide +kernel
theorem dL_law_1186 : decode cL_law 1186 = .ok (.iconst 0, 1) := by decide +kernel
theorem dL_law_1187 : decode cL_law 1187 = .ok (.istore 12, 2) := by decide +kernel
theorem dL_law_1189 : decode cL_law 1189 = .ok (.aload 6, 2) := by decide +kernel
theorem dL_law_1191 : decode cL_law 1191 = .ok (.iconst 5, 1) := by decide +kernel
theorem dL_law_1192 : decode cL_law 1192 = .ok (.dup2, 1) := by decide +kernel
theorem dL_law_1193 : decode cL_law 1193 = .ok (.iaload, 1) := by decide +kernel
theorem dL_law_1194 : decode cL_law 1194 = .ok (.iconst 1, 1) := by decide +kernel
theorem dL_law_1195 : decode cL_law 1195 = .ok (.isub, 1) := by decide +kernel
theorem dL_law_1196 : decode cL_law 1196 = .ok (.iastore, 1) := by decide +kernel
theorem dL_law_1197 : decode cL_law 1197 = .ok (.iconst 2, 1) := by decide +kernel
theorem dL_law_1198 : decode cL_law 1198 = .ok (.iload 14, 2) := by decide +kernel
theorem dL_law_1200 : decode cL_law 1200 = .ok (.imul, 1) := by decide +kernel
theorem dL_law_1201 : decode cL_law 1201 = .ok (.istore 15, 2) := by decide +kernel
theorem dL_law_1203 : decode cL_law 1203 = .ok (.iload 15, 2) := by decide +kernel
theorem dL_law_1205 : decode cL_law 1205 = .ok (.bipush 22, 2) := by decide +kernel
theorem dL_law_1207 : decode cL_law 1207 = .ok (.if_icmp .ge 21, 3) := by decide +kernel
theorem dL_law_1210 : decode cL_law 1210 = .ok (.aload 4, 2) := by decide +kernel
theorem dL_law_1212 : decode cL_law 1212 = .ok (.iload 15, 2) := by decide +kernel
theorem dL_law_1214 : decode cL_law 1214 = .ok (.aload 4, 2) := by decide +kernel
theorem dL_law_1216 : decode cL_law 1216 = .ok (.iload 15, 2) := by decide +kernel
theorem dL_law_1218 : decode cL_law 1218 = .ok (.iconst 2, 1) := by decide +kernel
theorem dL_law_1219 : decode cL_law 1219 = .ok (.iadd, 1) := by decide +kernel
theorem dL_law_1220 : decode cL_law 1220 = .ok (.iaload, 1) := by decide +kernel
theorem dL_law_1221 : decode cL_law 1221 = .ok (.iastore, 1) := by decide +kernel
theorem dL_law_1222 : decode cL_law 1222 = .ok (.iinc 15 1, 3) := by decide +kernel
theorem dL_law_1225 : decode cL_law 1225 = .ok (.goto (-22), 3) := by decide +kernel
theorem dL_law_1228 : decode cL_law 1228 = .ok (.goto 358, 3) := by decide +kernel
theorem dL_law_1231 : decode cL_law 1231 = .ok (.iload 9, 2) := by decide +kernel
theorem dL_law_1233 : decode cL_law 1233 = .ok (.bipush 17, 2) := by decide +kernel
theorem dL_law_1235 : decode cL_law 1235 = .ok (.if_icmp .ne 43, 3) := by decide +kernel
theorem dL_law_1238 : decode cL_law 1238 = .ok (.iload 8, 2) := by decide +kernel
theorem dL_law_1240 : decode cL_law 1240 = .ok (.bipush 8, 2) := by decide +kernel
theorem dL_law_1242 : decode cL_law 1242 = .ok (.ishr, 1) := by decide +kernel
theorem dL_law_1243 : decode cL_law 1243 = .ok (.iconst 2, 1) := by decide +kernel
theorem dL_law_1244 : decode cL_law 1244 = .ok (.invokestatic 97, 3) := by decide +kernel
theorem dL_law_1247 : decode cL_law 1247 = .ok (.istore 14, 2) := by decide +kernel
theorem dL_law_1249 : decode cL_law 1249 = .ok (.aload_n 1, 1) := by decide +kernel
theorem dL_law_1250 : decode cL_law 1250 = .ok (.iload 14, 2) := by decide +kernel
theorem dL_law_1252 : decode cL_law 1252 = .ok (.invokevirtual 125, 3) := by decide +kernel
theorem dL_law_1255 : decode cL_law 1255 = .ok (.aload 6, 2) := by decide +kernel
theorem dL_law_1257 : decode cL_law 1257 = .ok (.iconst 3, 1) := by decide +kernel
theorem dL_law_1258 : decode cL_law 1258 = .ok (.iaload, 1) := by decide +kernel
theorem dL_law_1259 : decode cL_law 1259 = .ok (.if_icmp .ne 7, 3) := by decide +kernel
theorem dL_law_1262 : decode cL_law 1262 = .ok (.iconst 1, 1) := by decide +kernel
theorem dL_law_1263 : decode cL_law 1263 = .ok (.goto 4, 3) := by decide +kernel
theorem dL_law_1266 : decode cL_law 1266 = .ok (.iconst 0, 1) := by decide +kernel
theorem dL_law_1267 : decode cL_law 1267 = .ok (.istore 12, 2) := by decide +kernel
theorem dL_law_1269 : decode cL_law 1269 = .ok (.aload 6, 2) := by decide +kernel
theorem dL_law_1271 : decode cL_law 1271 = .ok (.iconst 3, 1) := by decide +kernel
theorem dL_law_1272 : decode cL_law 1272 = .ok (.iload 14, 2) := by decide +kernel
theorem dL_law_1274 : decode cL_law 1274 = .ok (.iastore, 1) := by decide +kernel
theorem dL_law_1275 : decode cL_law 1275 = .ok (.goto 311, 3) := by decide +kernel
theorem dL_law_1278 : decode cL_law 1278 = .ok (.iload 9, 2) := by decide +kernel
theorem dL_law_1280 : decode cL_law 1280 = .ok (.bipush 18, 2) := by decide +kernel
theorem dL_law_1282 : decode cL_law 1282 = .ok (.if_icmp .ne 207, 3) := by decide +kernel
theorem dL_law_1285 : decode cL_law 1285 = .ok (.iload 8, 2) := by decide +kernel
theorem dL_law_1287 : decode cL_law 1287 = .ok (.bipush 8, 2) := by decide +kernel
theorem dL_law_1289 : decode cL_law 1289 = .ok (.ishr, 1) := by decide +kernel
theorem dL_law_1290 : decode cL_law 1290 = .ok (.iconst 2, 1) := by decide +kernel
theorem dL_law_1291 : decode cL_law 1291 = .ok (.invokestatic 97, 3) := by decide +kernel
theorem dL_law_1294 : decode cL_law 1294 = .ok (.ifCond .ne 195, 3) := by decide +kernel
theorem dL_law_1297 : decode cL_law 1297 = .ok (.aload 6, 2) := by decide +kernel
theorem dL_law_1299 : decode cL_law 1299 = .ok (.iconst 4, 1) := by decide +kernel
theorem dL_law_1300 : decode cL_law 1300 = .ok (.iaload, 1) := by decide +kernel
theorem dL_law_1301 : decode cL_law 1301 = .ok (.iconst 2, 1) := by decide +kernel
theorem dL_law_1302 : decode cL_law 1302 = .ok (.if_icmp .ne 10, 3) := by decide +kernel
theorem dL_law_1305 : decode cL_law 1305 = .ok (.aload_n 3, 1) := by decide +kernel
theorem dL_law_1306 : decode cL_law 1306 = .ok (.invokestatic 30, 3) := by decide +kernel
theorem dL_law_1309 : decode cL_law 1309 = .ok (.goto 4, 3) := by decide +kernel
theorem dL_law_1312 : decode cL_law 1312 = .ok (.iconst 0, 1) := by decide +kernel
theorem dL_law_1313 : decode cL_law 1313 = .ok (.istore 14, 2) := by decide +kernel
theorem dL_law_1315 : decode cL_law 1315 = .ok (.iload 14, 2) := by decide +kernel
theorem dL_law_1317 : decode cL_law 1317 = .ok (.ifCond .le 132, 3) := by decide +kernel
theorem dL_law_1320 : decode cL_law 1320 = .ok (.aload 6, 2) := by decide +kernel
theorem dL_law_1322 : decode cL_law 1322 = .ok (.bipush 6, 2) := by decide +kernel
theorem dL_law_1324 : decode cL_law 1324 = .ok (.iaload, 1) := by decide +kernel
theorem dL_law_1325 : decode cL_law 1325 = .ok (.bipush 8, 2) := by decide +kernel
theorem dL_law_1327 : decode cL_law 1327 = .ok (.if_icmp .ge 14, 3) := by decide +kernel
theorem dL_law_1330 : decode cL_law 1330 = .ok (.bipush 6, 2) := by decide +kernel
theorem dL_law_1332 : decode cL_law 1332 = .ok (.aload 6, 2) := by decide +kernel
theorem dL_law_1334 : decode cL_law 1334 = .ok (.bipush 6, 2) := by decide +kernel
theorem dL_law_1336 : decode cL_law 1336 = .ok (.iaload, 1) := by decide +kernel
theorem dL_law_1337 : decode cL_law 1337 = .ok (.imul, 1) := by decide +kernel
theorem dL_law_1338 : decode cL_law 1338 = .ok (.goto 5, 3) := by decide +kernel
theorem dL_law_1341 : decode cL_law 1341 = .ok (.bipush 42, 2) := by decide +kernel
theorem dL_law_1343 : decode cL_law 1343 = .ok (.istore 15, 2) := by decide +kernel
theorem dL_law_1345 : decode cL_law 1345 = .ok (.iconst 0, 1) := by decide +kernel
theorem dL_law_1346 : decode cL_law 1346 = .ok (.istore 16, 2) := by decide +kernel
theorem dL_law_1348 : decode cL_law 1348 = .ok (.iload 16, 2) := by decide +kernel
theorem dL_law_1350 : decode cL_law 1350 = .ok (.bipush 42, 2) := by decide +kernel
theorem dL_law_1352 : decode cL_law 1352 = .ok (.if_icmp .ge 32, 3) := by decide +kernel
theorem dL_law_1355 : decode cL_law 1355 = .ok (.aload 6, 2) := by decide +kernel
theorem dL_law_1357 : decode cL_law 1357 = .ok (.bipush 6, 2) := by decide +kernel
theorem dL_law_1359 : decode cL_law 1359 = .ok (.iaload, 1) := by decide +kernel
theorem dL_law_1360 : decode cL_law 1360 = .ok (.bipush 7, 2) := by decide +kernel
theorem dL_law_1362 : decode cL_law 1362 = .ok (.if_icmp .le 22, 3) := by decide +kernel
theorem dL_law_1365 : decode cL_law 1365 = .ok (.aload 5, 2) := by decide +kernel
theorem dL_law_1367 : decode cL_law 1367 = .ok (.iload 16, 2) := by decide +kernel
theorem dL_law_1369 : decode cL_law 1369 = .ok (.aload 5, 2) := by decide +kernel
theorem dL_law_1371 : decode cL_law 1371 = .ok (.iload 16, 2) := by decide +kernel
theorem dL_law_1373 : decode cL_law 1373 = .ok (.bipush 6, 2) := by decide +kernel
theorem dL_law_1375 : decode cL_law 1375 = .ok (.iadd, 1) := by decide +kernel
theorem dL_law_1376 : decode cL_law 1376 = .ok (.iaload, 1) := by decide +kernel
theorem dL_law_1377 : decode cL_law 1377 = .ok (.iastore, 1) := by decide +kernel
theorem dL_law_1378 : decode cL_law 1378 = .ok (.iinc 16 1, 3) := by decide +kernel
theorem dL_law_1381 : decode cL_law 1381 = .ok (.goto (-33), 3) := by decide +kernel
theorem dL_law_1384 : decode cL_law 1384 = .ok (.aload 5, 2) := by decide +kernel
theorem dL_law_1386 : decode cL_law 1386 = .ok (.iload 15, 2) := by decide +kernel
theorem dL_law_1388 : decode cL_law 1388 = .ok (.iload 14, 2) := by decide +kernel
theorem dL_law_1390 : decode cL_law 1390 = .ok (.iastore, 1) := by decide +kernel
theorem dL_law_1391 : decode cL_law 1391 = .ok (.iconst 0, 1) := by decide +kernel
theorem dL_law_1392 : decode cL_law 1392 = .ok (.istore 16, 2) := by decide +kernel
theorem dL_law_1394 : decode cL_law 1394 = .ok (.iload 16, 2) := by decide +kernel
theorem dL_law_1396 : decode cL_law 1396 = .ok (.iload 14, 2) := by decide +kernel
theorem dL_law_1398 : decode cL_law 1398 = .ok (.if_icmp .ge 42, 3) := by decide +kernel
theorem dL_law_1401 : decode cL_law 1401 = .ok (.aload 5, 2) := by decide +kernel
theorem dL_law_1403 : decode cL_law 1403 = .ok (.iload 15, 2) := by decide +kernel
theorem dL_law_1405 : decode cL_law 1405 = .ok (.iconst 1, 1) := by decide +kernel
theorem dL_law_1406 : decode cL_law 1406 = .ok (.iadd, 1) := by decide +kernel
theorem dL_law_1407 : decode cL_law 1407 = .ok (.iload 16, 2) := by decide +kernel
theorem dL_law_1409 : decode cL_law 1409 = .ok (.iadd, 1) := by decide +kernel
theorem dL_law_1410 : decode cL_law 1410 = .ok (.aload_n 2, 1) := by decide +kernel
theorem dL_law_1411 : decode cL_law 1411 = .ok (.aload_n 3, 1) := by decide +kernel
theorem dL_law_1412 : decode cL_law 1412 = .ok (.aload 4, 2) := by decide +kernel
theorem dL_law_1414 : decode cL_law 1414 = .ok (.aload 6, 2) := by decide +kernel
theorem dL_law_1416 : decode cL_law 1416 = .ok (.aload 6, 2) := by decide +kernel
theorem dL_law_1418 : decode cL_law 1418 = .ok (.iconst 3, 1) := by decide +kernel
theorem dL_law_1419 : decode cL_law 1419 = .ok (.iaload, 1) := by decide +kernel
theorem dL_law_1420 : decode cL_law 1420 = .ok (.aload_n 3, 1) := by decide +kernel
theorem dL_law_1421 : decode cL_law 1421 = .ok (.aload 6, 2) := by decide +kernel
theorem dL_law_1423 : decode cL_law 1423 = .ok (.iconst 3, 1) := by decide +kernel
theorem dL_law_1424 : decode cL_law 1424 = .ok (.iaload, 1) := by decide +kernel
theorem dL_law_1425 : decode cL_law 1425 = .ok (.iload 16, 2) := by decide +kernel
theorem dL_law_1427 : decode cL_law 1427 = .ok (.invokestatic 38, 3) := by decide +kernel
theorem dL_law_1430 : decode cL_law 1430 = .ok (.invokestatic 26, 3) := by decide +kernel
theorem dL_law_1433 : decode cL_law 1433 = .ok (.iastore, 1) := by decide +kernel
theorem dL_law_1434 : decode cL_law 1434 = .ok (.iinc 16 1, 3) := by decide +kernel
theorem dL_law_1437 : decode cL_law 1437 = .ok (.goto (-43), 3) := by decide +kernel
theorem dL_law_1440 : decode cL_law 1440 = .ok (.aload 6, 2) := by decide +kernel
theorem dL_law_1442 : decode cL_law 1442 = .ok (.bipush 6, 2) := by decide +kernel
theorem dL_law_1444 : decode cL_law 1444 = .ok (.dup2, 1) := by decide +kernel
theorem dL_law_1445 : decode cL_law 1445 = .ok (.iaload, 1) := by decide +kernel
theorem dL_law_1446 : decode cL_law 1446 = .ok (.iconst 1, 1) := by decide +kernel
theorem dL_law_1447 : decode cL_law 1447 = .ok (.iadd, 1) := by decide +kernel
theorem dL_law_1448 : decode cL_law 1448 = .ok (.iastore, 1) := by decide +kernel
theorem dL_law_1449 : decode cL_law 1449 = .ok (.aload_n 1, 1) := by decide +kernel
theorem dL_law_1450 : decode cL_law 1450 = .ok (.invokevirtual 128, 3) := by decide +kernel
theorem dL_law_1453 : decode cL_law 1453 = .ok (.iload 14, 2) := by decide +kernel
theorem dL_law_1455 : decode cL_law 1455 = .ok (.if_icmp .ne 7, 3) := by decide +kernel
theorem dL_law_1458 : decode cL_law 1458 = .ok (.iconst 1, 1) := by decide +kernel
theorem dL_law_1459 : decode cL_law 1459 = .ok (.goto 4, 3) := by decide +kernel
theorem dL_law_1462 : decode cL_law 1462 = .ok (.iconst 0, 1) := by decide +kernel
theorem dL_law_1463 : decode cL_law 1463 = .ok (.istore 12, 2) := by decide +kernel
theorem dL_law_1465 : decode cL_law 1465 = .ok (.iconst 0, 1) := by decide +kernel
theorem dL_law_1466 : decode cL_law 1466 = .ok (.istore 15, 2) := by decide +kernel
theorem dL_law_1468 : decode cL_law 1468 = .ok (.iload 15, 2) := by decide +kernel
theorem dL_law_1470 : decode cL_law 1470 = .ok (.bipush 20, 2) := by decide +kernel
theorem dL_law_1472 : decode cL_law 1472 = .ok (.if_icmp .ge 14, 3) := by decide +kernel
theorem dL_law_1475 : decode cL_law 1475 = .ok (.aload_n 3, 1) := by decide +kernel
theorem dL_law_1476 : decode cL_law 1476 = .ok (.iload 15, 2) := by decide +kernel
theorem dL_law_1478 : decode cL_law 1478 = .ok (.iconst (-1), 1) := by decide +kernel
theorem dL_law_1479 : decode cL_law 1479 = .ok (.iastore, 1) := by decide +kernel
theorem dL_law_1480 : decode cL_law 1480 = .ok (.iinc 15 1, 3) := by decide +kernel
theorem dL_law_1483 : decode cL_law 1483 = .ok (.goto (-15), 3) := by decide +kernel
theorem dL_law_1486 : decode cL_law 1486 = .ok (.goto 100, 3) := by decide +kernel
theorem dL_law_1489 : decode cL_law 1489 = .ok (.aload_n 3, 1) := by decide +kernel
theorem dL_law_1490 : decode cL_law 1490 = .ok (.invokestatic 30, 3) := by decide +kernel
theorem dL_law_1493 : decode cL_law 1493 = .ok (.ifCond .le 42, 3) := by decide +kernel
theorem dL_law_1496 : decode cL_law 1496 = .ok (.aload 6, 2) := by decide +kernel
theorem dL_law_1498 : decode cL_law 1498 = .ok (.iconst 4, 1) := by decide +kernel
theorem dL_law_1499 : decode cL_law 1499 = .ok (.iaload, 1) := by decide +kernel
theorem dL_law_1500 : decode cL_law 1500 = .ok (.ifCond .eq 31, 3) := by decide +kernel
theorem dL_law_1503 : decode cL_law 1503 = .ok (.aload 6, 2) := by decide +kernel
theorem dL_law_1505 : decode cL_law 1505 = .ok (.iconst 4, 1) := by decide +kernel
theorem dL_law_1506 : decode cL_law 1506 = .ok (.iaload, 1) := by decide +kernel
theorem dL_law_1507 : decode cL_law 1507 = .ok (.iconst 1, 1) := by decide +kernel
theorem dL_law_1508 : decode cL_law 1508 = .ok (.if_icmp .ne 27, 3) := by decide +kernel
theorem dL_law_1511 : decode cL_law 1511 = .ok (.aload_n 2, 1) := by decide +kernel
theorem dL_law_1512 : decode cL_law 1512 = .ok (.aload_n 3, 1) := by decide +kernel
theorem dL_law_1513 : decode cL_law 1513 = .ok (.aload 4, 2) := by decide +kernel
theorem dL_law_1515 : decode cL_law 1515 = .ok (.aload 6, 2) := by decide +kernel
theorem dL_law_1517 : decode cL_law 1517 = .ok (.aload 6, 2) := by decide +kernel
theorem dL_law_1519 : decode cL_law 1519 = .ok (.iconst 3, 1) := by decide +kernel
theorem dL_law_1520 : decode cL_law 1520 = .ok (.iaload, 1) := by decide +kernel
theorem dL_law_1521 : decode cL_law 1521 = .ok (.invokestatic 34, 3) := by decide +kernel
theorem dL_law_1524 : decode cL_law 1524 = .ok (.aload_n 3, 1) := by decide +kernel
theorem dL_law_1525 : decode cL_law 1525 = .ok (.invokestatic 30, 3) := by decide +kernel
theorem dL_law_1528 : decode cL_law 1528 = .ok (.if_icmp .ne 7, 3) := by decide +kernel
theorem dL_law_1531 : decode cL_law 1531 = .ok (.iconst 1, 1) := by decide +kernel
theorem dL_law_1532 : decode cL_law 1532 = .ok (.goto 4, 3) := by decide +kernel
theorem dL_law_1535 : decode cL_law 1535 = .ok (.iconst 0, 1) := by decide +kernel
theorem dL_law_1536 : decode cL_law 1536 = .ok (.istore 14, 2) := by decide +kernel
theorem dL_law_1538 : decode cL_law 1538 = .ok (.iconst 0, 1) := by decide +kernel
theorem dL_law_1539 : decode cL_law 1539 = .ok (.istore 13, 2) := by decide +kernel
theorem dL_law_1541 : decode cL_law 1541 = .ok (.aload 6, 2) := by decide +kernel
theorem dL_law_1543 : decode cL_law 1543 = .ok (.iconst 4, 1) := by decide +kernel
theorem dL_law_1544 : decode cL_law 1544 = .ok (.dup2, 1) := by decide +kernel
theorem dL_law_1545 : decode cL_law 1545 = .ok (.iaload, 1) := by decide +kernel
theorem dL_law_1546 : decode cL_law 1546 = .ok (.iload 14, 2) := by decide +kernel
theorem dL_law_1548 : decode cL_law 1548 = .ok (.ifCond .eq 7, 3) := by decide +kernel
theorem dL_law_1551 : decode cL_law 1551 = .ok (.iconst 1, 1) := by decide +kernel
theorem dL_law_1552 : decode cL_law 1552 = .ok (.goto 4, 3) := by decide +kernel
theorem dL_law_1555 : decode cL_law 1555 = .ok (.iconst 0, 1) := by decide +kernel
theorem dL_law_1556 : decode cL_law 1556 = .ok (.iadd, 1) := by decide +kernel
theorem dL_law_1557 : decode cL_law 1557 = .ok (.iastore, 1) := by decide +kernel
theorem dL_law_1558 : decode cL_law 1558 = .ok (.aload_n 1, 1) := by decide +kernel
theorem dL_law_1559 : decode cL_law 1559 = .ok (.invokevirtual 131, 3) := by decide +kernel
theorem dL_law_1562 : decode cL_law 1562 = .ok (.iload 14, 2) := by decide +kernel
theorem dL_law_1564 : decode cL_law 1564 = .ok (.ifCond .eq 10, 3) := by decide +kernel
theorem dL_law_1567 : decode cL_law 1567 = .ok (.aload 6, 2) := by decide +kernel
theorem dL_law_1569 : decode cL_law 1569 = .ok (.iconst 4, 1) := by decide +kernel
theorem dL_law_1570 : decode cL_law 1570 = .ok (.iaload, 1) := by decide +kernel
theorem dL_law_1571 : decode cL_law 1571 = .ok (.goto 5, 3) := by decide +kernel
theorem dL_law_1574 : decode cL_law 1574 = .ok (.bipush (-3), 2) := by decide +kernel
theorem dL_law_1576 : decode cL_law 1576 = .ok (.if_icmp .ne 7, 3) := by decide +kernel
theorem dL_law_1579 : decode cL_law 1579 = .ok (.iconst 1, 1) := by decide +kernel
theorem dL_law_1580 : decode cL_law 1580 = .ok (.goto 4, 3) := by decide +kernel
theorem dL_law_1583 : decode cL_law 1583 = .ok (.iconst 0, 1) := by decide +kernel
theorem dL_law_1584 : decode cL_law 1584 = .ok (.istore 12, 2) := by decide +kernel
theorem dL_law_1586 : decode cL_law 1586 = .ok (.aload 6, 2) := by decide +kernel
theorem dL_law_1588 : decode cL_law 1588 = .ok (.iconst 4, 1) := by decide +kernel
theorem dL_law_1589 : decode cL_law 1589 = .ok (.iload 13, 2) := by decide +kernel
theorem dL_law_1591 : decode cL_law 1591 = .ok (.ifCond .eq 7, 3) := by decide +kernel
theorem dL_law_1594 : decode cL_law 1594 = .ok (.iconst 0, 1) := by decide +kernel
theorem dL_law_1595 : decode cL_law 1595 = .ok (.goto 7, 3) := by decide +kernel
theorem dL_law_1598 : decode cL_law 1598 = .ok (.aload 6, 2) := by decide +kernel
theorem dL_law_1600 : decode cL_law 1600 = .ok (.iconst 4, 1) := by decide +kernel
theorem dL_law_1601 : decode cL_law 1601 = .ok (.iaload, 1) := by decide +kernel
theorem dL_law_1602 : decode cL_law 1602 = .ok (.iastore, 1) := by decide +kernel
theorem dL_law_1603 : decode cL_law 1603 = .ok (.iload 12, 2) := by decide +kernel
theorem dL_law_1605 : decode cL_law 1605 = .ok (.ifCond .eq 52, 3) := by decide +kernel
theorem dL_law_1608 : decode cL_law 1608 = .ok (.aload_n 1, 1) := by decide +kernel
theorem dL_law_1609 : decode cL_law 1609 = .ok (.aload_n 2, 1) := by decide +kernel
theorem dL_law_1610 : decode cL_law 1610 = .ok (.aload_n 3, 1) := by decide +kernel
theorem dL_law_1611 : decode cL_law 1611 = .ok (.aload 4, 2) := by decide +kernel
theorem dL_law_1613 : decode cL_law 1613 = .ok (.aload 5, 2) := by decide +kernel
theorem dL_law_1615 : decode cL_law 1615 = .ok (.aload 6, 2) := by decide +kernel
theorem dL_law_1617 : decode cL_law 1617 = .ok (.invokestatic 134, 3) := by decide +kernel
theorem dL_law_1620 : decode cL_law 1620 = .ok (.ifCond .eq 37, 3) := by decide +kernel
theorem dL_law_1623 : decode cL_law 1623 = .ok (.iload 7, 2) := by decide +kernel
theorem dL_law_1625 : decode cL_law 1625 = .ok (.iconst 2, 1) := by decide +kernel
theorem dL_law_1626 : decode cL_law 1626 = .ok (.irem, 1) := by decide +kernel
theorem dL_law_1627 : decode cL_law 1627 = .ok (.iconst 1, 1) := by decide +kernel
theorem dL_law_1628 : decode cL_law 1628 = .ok (.if_icmp .ne 31, 3) := by decide +kernel
theorem dL_law_1631 : decode cL_law 1631 = .ok (.aload_n 1, 1) := by decide +kernel
theorem dL_law_1632 : decode cL_law 1632 = .ok (.aload_n 2, 1) := by decide +kernel
theorem dL_law_1633 : decode cL_law 1633 = .ok (.aload_n 3, 1) := by decide +kernel
theorem dL_law_1634 : decode cL_law 1634 = .ok (.aload 4, 2) := by decide +kernel
theorem dL_law_1636 : decode cL_law 1636 = .ok (.aload 6, 2) := by decide +kernel
theorem dL_law_1638 : decode cL_law 1638 = .ok (.aload_n 0, 1) := by decide +kernel
theorem dL_law_1639 : decode cL_law 1639 = .ok (.bipush 70, 2) := by decide +kernel
theorem dL_law_1641 : decode cL_law 1641 = .ok (.iload 7, 2) := by decide +kernel
theorem dL_law_1643 : decode cL_law 1643 = .ok (.iadd, 1) := by decide +kernel
theorem dL_law_1644 : decode cL_law 1644 = .ok (.invokestatic 94, 3) := by decide +kernel
theorem dL_law_1647 : decode cL_law 1647 = .ok (.iconst 4, 1) := by decide +kernel
theorem dL_law_1648 : decode cL_law 1648 = .ok (.invokestatic 97, 3) := by decide +kernel
theorem dL_law_1651 : decode cL_law 1651 = .ok (.invokestatic 138, 3) := by decide +kernel
theorem dL_law_1654 : decode cL_law 1654 = .ok (.ifCond .ne 5, 3) := by decide +kernel
theorem dL_law_1657 : decode cL_law 1657 = .ok (.iconst 0, 1) := by decide +kernel
theorem dL_law_1658 : decode cL_law 1658 = .ok (.ireturn, 1) := by decide +kernel
theorem dL_law_1659 : decode cL_law 1659 = .ok (.iinc 7 1, 3) := by decide +kernel
theorem dL_law_1662 : decode cL_law 1662 = .ok (.goto (-1536), 3) := by decide +kernel
theorem dL_law_1665 : decode cL_law 1665 = .ok (.iconst 1, 1) := by decide +kernel
theorem dL_law_1666 : decode cL_law 1666 = .ok (.ireturn, 1) := by decide +kernel
