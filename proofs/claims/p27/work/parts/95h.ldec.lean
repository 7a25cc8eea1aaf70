theorem dL_hangs_0 : decode cL_hangs 0 = .ok (.aload_n 0, 1) := by decide +kernel
theorem dL_hangs_1 : decode cL_hangs 1 = .ok (.iconst 0, 1) := by decide +kernel
theorem dL_hangs_2 : decode cL_hangs 2 = .ok (.invokestatic 92, 3) := by decide +kernel
theorem dL_hangs_5 : decode cL_hangs 5 = .ok (.istore_n 1, 1) := by decide +kernel
theorem dL_hangs_6 : decode cL_hangs 6 = .ok (.aload_n 0, 1) := by decide +kernel
theorem dL_hangs_7 : decode cL_hangs 7 = .ok (.iconst 3, 1) := by decide +kernel
theorem dL_hangs_8 : decode cL_hangs 8 = .ok (.invokestatic 92, 3) := by decide +kernel
theorem dL_hangs_11 : decode cL_hangs 11 = .ok (.istore_n 2, 1) := by decide +kernel
theorem dL_hangs_12 : decode cL_hangs 12 = .ok (.iconst 0, 1) := by decide +kernel
theorem dL_hangs_13 : decode cL_hangs 13 = .ok (.istore_n 3, 1) := by decide +kernel
theorem dL_hangs_14 : decode cL_hangs 14 = .ok (.iconst 0, 1) := by decide +kernel
theorem dL_hangs_15 : decode cL_hangs 15 = .ok (.istore 4, 2) := by decide +kernel
theorem dL_hangs_17 : decode cL_hangs 17 = .ok (.iconst 0, 1) := by decide +kernel
theorem dL_hangs_18 : decode cL_hangs 18 = .ok (.istore 5, 2) := by decide +kernel
theorem dL_hangs_20 : decode cL_hangs 20 = .ok (.iconst (-1), 1) := by decide +kernel
theorem dL_hangs_21 : decode cL_hangs 21 = .ok (.istore 6, 2) := by decide +kernel
theorem dL_hangs_23 : decode cL_hangs 23 = .ok (.iconst 0, 1) := by decide +kernel
theorem dL_hangs_24 : decode cL_hangs 24 = .ok (.istore 7, 2) := by decide +kernel
theorem dL_hangs_26 : decode cL_hangs 26 = .ok (.iconst 0, 1) := by decide +kernel
theorem dL_hangs_27 : decode cL_hangs 27 = .ok (.istore 8, 2) := by decide +kernel
theorem dL_hangs_29 : decode cL_hangs 29 = .ok (.aload_n 0, 1) := by decide +kernel
theorem dL_hangs_30 : decode cL_hangs 30 = .ok (.iload_n 1, 1) := by decide +kernel
theorem dL_hangs_31 : decode cL_hangs 31 = .ok (.iconst 0, 1) := by decide +kernel
theorem dL_hangs_32 : decode cL_hangs 32 = .ok (.invokestatic 94, 3) := by decide +kernel
theorem dL_hangs_35 : decode cL_hangs 35 = .ok (.ldc 17, 2) := by decide +kernel
theorem dL_hangs_37 : decode cL_hangs 37 = .ok (.if_icmp .ne 18, 3) := by decide +kernel
theorem dL_hangs_40 : decode cL_hangs 40 = .ok (.aload_n 0, 1) := by decide +kernel
theorem dL_hangs_41 : decode cL_hangs 41 = .ok (.iload_n 2, 1) := by decide +kernel
theorem dL_hangs_42 : decode cL_hangs 42 = .ok (.iconst 0, 1) := by decide +kernel
theorem dL_hangs_43 : decode cL_hangs 43 = .ok (.invokestatic 96, 3) := by decide +kernel
theorem dL_hangs_46 : decode cL_hangs 46 = .ok (.ldc 17, 2) := by decide +kernel
theorem dL_hangs_48 : decode cL_hangs 48 = .ok (.if_icmp .ne 7, 3) := by decide +kernel
theorem dL_hangs_51 : decode cL_hangs 51 = .ok (.iconst 1, 1) := by decide +kernel
theorem dL_hangs_52 : decode cL_hangs 52 = .ok (.goto 4, 3) := by decide +kernel
theorem dL_hangs_55 : decode cL_hangs 55 = .ok (.iconst 0, 1) := by decide +kernel
theorem dL_hangs_56 : decode cL_hangs 56 = .ok (.istore 9, 2) := by decide +kernel
theorem dL_hangs_58 : decode cL_hangs 58 = .ok (.iconst 0, 1) := by decide +kernel
theorem dL_hangs_59 : decode cL_hangs 59 = .ok (.istore 10, 2) := by decide +kernel
theorem dL_hangs_61 : decode cL_hangs 61 = .ok (.iload 10, 2) := by decide +kernel
theorem dL_hangs_63 : decode cL_hangs 63 = .ok (.iload_n 1, 1) := by decide +kernel
theorem dL_hangs_64 : decode cL_hangs 64 = .ok (.if_icmp .ge 287, 3) := by decide +kernel
theorem dL_hangs_67 : decode cL_hangs 67 = .ok (.iload 9, 2) := by decide +kernel
theorem dL_hangs_69 : decode cL_hangs 69 = .ok (.ifCond .eq 282, 3) := by decide +kernel
theorem dL_hangs_72 : decode cL_hangs 72 = .ok (.aload_n 0, 1) := by decide +kernel
theorem dL_hangs_73 : decode cL_hangs 73 = .ok (.iload 10, 2) := by decide +kernel
theorem dL_hangs_75 : decode cL_hangs 75 = .ok (.iconst 0, 1) := by decide +kernel
theorem dL_hangs_76 : decode cL_hangs 76 = .ok (.invokestatic 94, 3) := by decide +kernel
theorem dL_hangs_79 : decode cL_hangs 79 = .ok (.istore 11, 2) := by decide +kernel
theorem dL_hangs_81 : decode cL_hangs 81 = .ok (.aload_n 0, 1) := by decide +kernel
theorem dL_hangs_82 : decode cL_hangs 82 = .ok (.iload 10, 2) := by decide +kernel
theorem dL_hangs_84 : decode cL_hangs 84 = .ok (.iconst 1, 1) := by decide +kernel
theorem dL_hangs_85 : decode cL_hangs 85 = .ok (.invokestatic 94, 3) := by decide +kernel
theorem dL_hangs_88 : decode cL_hangs 88 = .ok (.istore 12, 2) := by decide +kernel
theorem dL_hangs_90 : decode cL_hangs 90 = .ok (.aload_n 0, 1) := by decide +kernel
theorem dL_hangs_91 : decode cL_hangs 91 = .ok (.iload 10, 2) := by decide +kernel
theorem dL_hangs_93 : decode cL_hangs 93 = .ok (.iconst 3, 1) := by decide +kernel
theorem dL_hangs_94 : decode cL_hangs 94 = .ok (.invokestatic 94, 3) := by decide +kernel
theorem dL_hangs_97 : decode cL_hangs 97 = .ok (.istore 13, 2) := by decide +kernel
theorem dL_hangs_99 : decode cL_hangs 99 = .ok (.iload_n 3, 1) := by decide +kernel
theorem dL_hangs_100 : decode cL_hangs 100 = .ok (.iload 11, 2) := by decide +kernel
theorem dL_hangs_102 : decode cL_hangs 102 = .ok (.iload 10, 2) := by decide +kernel
theorem dL_hangs_104 : decode cL_hangs 104 = .ok (.ishl, 1) := by decide +kernel
theorem dL_hangs_105 : decode cL_hangs 105 = .ok (.ior, 1) := by decide +kernel
theorem dL_hangs_106 : decode cL_hangs 106 = .ok (.istore_n 3, 1) := by decide +kernel
theorem dL_hangs_107 : decode cL_hangs 107 = .ok (.iload 4, 2) := by decide +kernel
theorem dL_hangs_109 : decode cL_hangs 109 = .ok (.iload 12, 2) := by decide +kernel
theorem dL_hangs_111 : decode cL_hangs 111 = .ok (.invokestatic 99, 3) := by decide +kernel
theorem dL_hangs_114 : decode cL_hangs 114 = .ok (.iadd, 1) := by decide +kernel
theorem dL_hangs_115 : decode cL_hangs 115 = .ok (.istore 4, 2) := by decide +kernel
theorem dL_hangs_117 : decode cL_hangs 117 = .ok (.iload 11, 2) := by decide +kernel
theorem dL_hangs_119 : decode cL_hangs 119 = .ok (.iconst 1, 1) := by decide +kernel
theorem dL_hangs_120 : decode cL_hangs 120 = .ok (.if_icmp .ne 87, 3) := by decide +kernel
theorem dL_hangs_123 : decode cL_hangs 123 = .ok (.iload 12, 2) := by decide +kernel
theorem dL_hangs_125 : decode cL_hangs 125 = .ok (.iload 10, 2) := by decide +kernel
theorem dL_hangs_127 : decode cL_hangs 127 = .ok (.ishr, 1) := by decide +kernel
theorem dL_hangs_128 : decode cL_hangs 128 = .ok (.iconst 1, 1) := by decide +kernel
theorem dL_hangs_129 : decode cL_hangs 129 = .ok (.iand, 1) := by decide +kernel
theorem dL_hangs_130 : decode cL_hangs 130 = .ok (.ifCond .ne 73, 3) := by decide +kernel
theorem dL_hangs_133 : decode cL_hangs 133 = .ok (.iload 13, 2) := by decide +kernel
theorem dL_hangs_135 : decode cL_hangs 135 = .ok (.ifCond .lt 68, 3) := by decide +kernel
theorem dL_hangs_138 : decode cL_hangs 138 = .ok (.aload_n 0, 1) := by decide +kernel
theorem dL_hangs_139 : decode cL_hangs 139 = .ok (.iload 10, 2) := by decide +kernel
theorem dL_hangs_141 : decode cL_hangs 141 = .ok (.iconst 4, 1) := by decide +kernel
theorem dL_hangs_142 : decode cL_hangs 142 = .ok (.invokestatic 94, 3) := by decide +kernel
theorem dL_hangs_145 : decode cL_hangs 145 = .ok (.iload 13, 2) := by decide +kernel
theorem dL_hangs_147 : decode cL_hangs 147 = .ok (.ifCond .ne 7, 3) := by decide +kernel
theorem dL_hangs_150 : decode cL_hangs 150 = .ok (.iconst 1, 1) := by decide +kernel
theorem dL_hangs_151 : decode cL_hangs 151 = .ok (.goto 4, 3) := by decide +kernel
theorem dL_hangs_154 : decode cL_hangs 154 = .ok (.iconst 0, 1) := by decide +kernel
theorem dL_hangs_155 : decode cL_hangs 155 = .ok (.if_icmp .ne 48, 3) := by decide +kernel
theorem dL_hangs_158 : decode cL_hangs 158 = .ok (.aload_n 0, 1) := by decide +kernel
theorem dL_hangs_159 : decode cL_hangs 159 = .ok (.aload_n 0, 1) := by decide +kernel
theorem dL_hangs_160 : decode cL_hangs 160 = .ok (.iload 10, 2) := by decide +kernel
theorem dL_hangs_162 : decode cL_hangs 162 = .ok (.iconst 2, 1) := by decide +kernel
theorem dL_hangs_163 : decode cL_hangs 163 = .ok (.invokestatic 94, 3) := by decide +kernel
theorem dL_hangs_166 : decode cL_hangs 166 = .ok (.iconst 0, 1) := by decide +kernel
theorem dL_hangs_167 : decode cL_hangs 167 = .ok (.invokestatic 96, 3) := by decide +kernel
theorem dL_hangs_170 : decode cL_hangs 170 = .ok (.iload 10, 2) := by decide +kernel
theorem dL_hangs_172 : decode cL_hangs 172 = .ok (.ishr, 1) := by decide +kernel
theorem dL_hangs_173 : decode cL_hangs 173 = .ok (.iconst 1, 1) := by decide +kernel
theorem dL_hangs_174 : decode cL_hangs 174 = .ok (.iand, 1) := by decide +kernel
theorem dL_hangs_175 : decode cL_hangs 175 = .ok (.iconst 1, 1) := by decide +kernel
theorem dL_hangs_176 : decode cL_hangs 176 = .ok (.if_icmp .ne 27, 3) := by decide +kernel
theorem dL_hangs_179 : decode cL_hangs 179 = .ok (.aload_n 0, 1) := by decide +kernel
theorem dL_hangs_180 : decode cL_hangs 180 = .ok (.aload_n 0, 1) := by decide +kernel
theorem dL_hangs_181 : decode cL_hangs 181 = .ok (.iload 10, 2) := by decide +kernel
theorem dL_hangs_183 : decode cL_hangs 183 = .ok (.iconst 2, 1) := by decide +kernel
theorem dL_hangs_184 : decode cL_hangs 184 = .ok (.invokestatic 94, 3) := by decide +kernel
theorem dL_hangs_187 : decode cL_hangs 187 = .ok (.iconst 0, 1) := by decide +kernel
theorem dL_hangs_188 : decode cL_hangs 188 = .ok (.invokestatic 96, 3) := by decide +kernel
theorem dL_hangs_191 : decode cL_hangs 191 = .ok (.iload 12, 2) := by decide +kernel
theorem dL_hangs_193 : decode cL_hangs 193 = .ok (.iand, 1) := by decide +kernel
theorem dL_hangs_194 : decode cL_hangs 194 = .ok (.iload 12, 2) := by decide +kernel
theorem dL_hangs_196 : decode cL_hangs 196 = .ok (.if_icmp .ne 7, 3) := by decide +kernel
theorem dL_hangs_199 : decode cL_hangs 199 = .ok (.iconst 1, 1) := by decide +kernel
theorem dL_hangs_200 : decode cL_hangs 200 = .ok (.goto 56, 3) := by decide +kernel
theorem dL_hangs_203 : decode cL_hangs 203 = .ok (.iconst 0, 1) := by decide +kernel
theorem dL_hangs_204 : decode cL_hangs 204 = .ok (.goto 52, 3) := by decide +kernel
theorem dL_hangs_207 : decode cL_hangs 207 = .ok (.iload 12, 2) := by decide +kernel
theorem dL_hangs_209 : decode cL_hangs 209 = .ok (.ifCond .ne 46, 3) := by decide +kernel
theorem dL_hangs_212 : decode cL_hangs 212 = .ok (.iload 13, 2) := by decide +kernel
theorem dL_hangs_214 : decode cL_hangs 214 = .ok (.iconst (-1), 1) := by decide +kernel
theorem dL_hangs_215 : decode cL_hangs 215 = .ok (.if_icmp .ne 40, 3) := by decide +kernel
theorem dL_hangs_218 : decode cL_hangs 218 = .ok (.aload_n 0, 1) := by decide +kernel
theorem dL_hangs_219 : decode cL_hangs 219 = .ok (.iload 10, 2) := by decide +kernel
theorem dL_hangs_221 : decode cL_hangs 221 = .ok (.iconst 2, 1) := by decide +kernel
theorem dL_hangs_222 : decode cL_hangs 222 = .ok (.invokestatic 94, 3) := by decide +kernel
theorem dL_hangs_225 : decode cL_hangs 225 = .ok (.iconst (-1), 1) := by decide +kernel
theorem dL_hangs_226 : decode cL_hangs 226 = .ok (.if_icmp .ne 29, 3) := by decide +kernel
theorem dL_hangs_229 : decode cL_hangs 229 = .ok (.aload_n 0, 1) := by decide +kernel
theorem dL_hangs_230 : decode cL_hangs 230 = .ok (.iload 10, 2) := by decide +kernel
theorem dL_hangs_232 : decode cL_hangs 232 = .ok (.iconst 4, 1) := by decide +kernel
theorem dL_hangs_233 : decode cL_hangs 233 = .ok (.invokestatic 94, 3) := by decide +kernel
theorem dL_hangs_236 : decode cL_hangs 236 = .ok (.iconst (-1), 1) := by decide +kernel
theorem dL_hangs_237 : decode cL_hangs 237 = .ok (.if_icmp .ne 18, 3) := by decide +kernel
theorem dL_hangs_240 : decode cL_hangs 240 = .ok (.aload_n 0, 1) := by decide +kernel
theorem dL_hangs_241 : decode cL_hangs 241 = .ok (.iload 10, 2) := by decide +kernel
theorem dL_hangs_243 : decode cL_hangs 243 = .ok (.iconst 5, 1) := by decide +kernel
theorem dL_hangs_244 : decode cL_hangs 244 = .ok (.invokestatic 94, 3) := by decide +kernel
theorem dL_hangs_247 : decode cL_hangs 247 = .ok (.iconst (-1), 1) := by decide +kernel
theorem dL_hangs_248 : decode cL_hangs 248 = .ok (.if_icmp .ne 7, 3) := by decide +kernel
theorem dL_hangs_251 : decode cL_hangs 251 = .ok (.iconst 1, 1) := by decide +kernel
theorem dL_hangs_252 : decode cL_hangs 252 = .ok (.goto 4, 3) := by decide +kernel
theorem dL_hangs_255 : decode cL_hangs 255 = .ok (.iconst 0, 1) := by decide +kernel
theorem dL_hangs_256 : decode cL_hangs 256 = .ok (.istore 9, 2) := by decide +kernel
theorem dL_hangs_258 : decode cL_hangs 258 = .ok (.iload 5, 2) := by decide +kernel
theorem dL_hangs_260 : decode cL_hangs 260 = .ok (.iload 11, 2) := by decide +kernel
theorem dL_hangs_262 : decode cL_hangs 262 = .ok (.iconst 1, 1) := by decide +kernel
theorem dL_hangs_263 : decode cL_hangs 263 = .ok (.if_icmp .ne 12, 3) := by decide +kernel
theorem dL_hangs_266 : decode cL_hangs 266 = .ok (.iload 13, 2) := by decide +kernel
theorem dL_hangs_268 : decode cL_hangs 268 = .ok (.ifCond .ne 7, 3) := by decide +kernel
theorem dL_hangs_271 : decode cL_hangs 271 = .ok (.iconst 1, 1) := by decide +kernel
theorem dL_hangs_272 : decode cL_hangs 272 = .ok (.goto 4, 3) := by decide +kernel
theorem dL_hangs_275 : decode cL_hangs 275 = .ok (.iconst 0, 1) := by decide +kernel
theorem dL_hangs_276 : decode cL_hangs 276 = .ok (.iadd, 1) := by decide +kernel
theorem dL_hangs_277 : decode cL_hangs 277 = .ok (.istore 5, 2) := by decide +kernel
theorem dL_hangs_279 : decode cL_hangs 279 = .ok (.iload 6, 2) := by decide +kernel
theorem dL_hangs_281 : decode cL_hangs 281 = .ok (.ifCond .ge 19, 3) := by decide +kernel
theorem dL_hangs_284 : decode cL_hangs 284 = .ok (.iload 11, 2) := by decide +kernel
theorem dL_hangs_286 : decode cL_hangs 286 = .ok (.iconst 1, 1) := by decide +kernel
theorem dL_hangs_287 : decode cL_hangs 287 = .ok (.if_icmp .ne 13, 3) := by decide +kernel
theorem dL_hangs_290 : decode cL_hangs 290 = .ok (.iload 13, 2) := by decide +kernel
theorem dL_hangs_292 : decode cL_hangs 292 = .ok (.ifCond .ne 8, 3) := by decide +kernel
theorem dL_hangs_295 : decode cL_hangs 295 = .ok (.iload 10, 2) := by decide +kernel
theorem dL_hangs_297 : decode cL_hangs 297 = .ok (.goto 5, 3) := by decide +kernel
theorem dL_hangs_300 : decode cL_hangs 300 = .ok (.iload 6, 2) := by decide +kernel
theorem dL_hangs_302 : decode cL_hangs 302 = .ok (.istore 6, 2) := by decide +kernel
theorem dL_hangs_304 : decode cL_hangs 304 = .ok (.iload 7, 2) := by decide +kernel
theorem dL_hangs_306 : decode cL_hangs 306 = .ok (.iload 11, 2) := by decide +kernel
theorem dL_hangs_308 : decode cL_hangs 308 = .ok (.iconst 1, 1) := by decide +kernel
theorem dL_hangs_309 : decode cL_hangs 309 = .ok (.if_icmp .ne 10, 3) := by decide +kernel
theorem dL_hangs_312 : decode cL_hangs 312 = .ok (.iconst 1, 1) := by decide +kernel
theorem dL_hangs_313 : decode cL_hangs 313 = .ok (.iload 13, 2) := by decide +kernel
theorem dL_hangs_315 : decode cL_hangs 315 = .ok (.ishl, 1) := by decide +kernel
theorem dL_hangs_316 : decode cL_hangs 316 = .ok (.goto 4, 3) := by decide +kernel
theorem dL_hangs_319 : decode cL_hangs 319 = .ok (.iconst 0, 1) := by decide +kernel
theorem dL_hangs_320 : decode cL_hangs 320 = .ok (.ior, 1) := by decide +kernel
theorem dL_hangs_321 : decode cL_hangs 321 = .ok (.istore 7, 2) := by decide +kernel
theorem dL_hangs_323 : decode cL_hangs 323 = .ok (.iload 8, 2) := by decide +kernel
theorem dL_hangs_325 : decode cL_hangs 325 = .ok (.iload 11, 2) := by decide +kernel
theorem dL_hangs_327 : decode cL_hangs 327 = .ok (.iconst 1, 1) := by decide +kernel
theorem dL_hangs_328 : decode cL_hangs 328 = .ok (.if_icmp .ne 13, 3) := by decide +kernel
theorem dL_hangs_331 : decode cL_hangs 331 = .ok (.aload_n 0, 1) := by decide +kernel
theorem dL_hangs_332 : decode cL_hangs 332 = .ok (.iload 10, 2) := by decide +kernel
theorem dL_hangs_334 : decode cL_hangs 334 = .ok (.iconst 5, 1) := by decide +kernel
theorem dL_hangs_335 : decode cL_hangs 335 = .ok (.invokestatic 94, 3) := by decide +kernel
theorem dL_hangs_338 : decode cL_hangs 338 = .ok (.goto 4, 3) := by decide +kernel
theorem dL_hangs_341 : decode cL_hangs 341 = .ok (.iconst 0, 1) := by decide +kernel
theorem dL_hangs_342 : decode cL_hangs 342 = .ok (.ior, 1) := by decide +kernel
theorem dL_hangs_343 : decode cL_hangs 343 = .ok (.istore 8, 2) := by decide +kernel
theorem dL_hangs_345 : decode cL_hangs 345 = .ok (.iinc 10 1, 3) := by decide +kernel
theorem dL_hangs_348 : decode cL_hangs 348 = .ok (.goto (-287), 3) := by decide +kernel
theorem dL_hangs_351 : decode cL_hangs 351 = .ok (.iconst 0, 1) := by decide +kernel
theorem dL_hangs_352 : decode cL_hangs 352 = .ok (.istore 10, 2) := by decide +kernel
theorem dL_hangs_354 : decode cL_hangs 354 = .ok (.iconst 0, 1) := by decide +kernel
theorem dL_hangs_355 : decode cL_hangs 355 = .ok (.istore 11, 2) := by decide +kernel
theorem dL_hangs_357 : decode cL_hangs 357 = .ok (.iconst 0, 1) := by decide +kernel
theorem dL_hangs_358 : decode cL_hangs 358 = .ok (.istore 12, 2) := by decide +kernel
theorem dL_hangs_360 : decode cL_hangs 360 = .ok (.iconst 0, 1) := by decide +kernel
theorem dL_hangs_361 : decode cL_hangs 361 = .ok (.istore 13, 2) := by decide +kernel
theorem dL_hangs_363 : decode cL_hangs 363 = .ok (.iconst (-1), 1) := by decide +kernel
theorem dL_hangs_364 : decode cL_hangs 364 = .ok (.istore 14, 2) := by decide +kernel
theorem dL_hangs_366 : decode cL_hangs 366 = .ok (.iconst 0, 1) := by decide +kernel
theorem dL_hangs_367 : decode cL_hangs 367 = .ok (.istore 15, 2) := by decide +kernel
theorem dL_hangs_369 : decode cL_hangs 369 = .ok (.iload 15, 2) := by decide +kernel
theorem dL_hangs_371 : decode cL_hangs 371 = .ok (.iload_n 2, 1) := by decide +kernel
theorem dL_hangs_372 : decode cL_hangs 372 = .ok (.if_icmp .ge 246, 3) := by decide +kernel
theorem dL_hangs_375 : decode cL_hangs 375 = .ok (.iload 9, 2) := by decide +kernel
theorem dL_hangs_377 : decode cL_hangs 377 = .ok (.ifCond .eq 241, 3) := by decide +kernel
theorem dL_hangs_380 : decode cL_hangs 380 = .ok (.aload_n 0, 1) := by decide +kernel
theorem dL_hangs_381 : decode cL_hangs 381 = .ok (.iload 15, 2) := by decide +kernel
theorem dL_hangs_383 : decode cL_hangs 383 = .ok (.iconst 0, 1) := by decide +kernel
theorem dL_hangs_384 : decode cL_hangs 384 = .ok (.invokestatic 96, 3) := by decide +kernel
theorem dL_hangs_387 : decode cL_hangs 387 = .ok (.istore 16, 2) := by decide +kernel
theorem dL_hangs_389 : decode cL_hangs 389 = .ok (.iload 16, 2) := by decide +kernel
theorem dL_hangs_391 : decode cL_hangs 391 = .ok (.iload 16, 2) := by decide +kernel
theorem dL_hangs_393 : decode cL_hangs 393 = .ok (.ineg, 1) := by decide +kernel
theorem dL_hangs_394 : decode cL_hangs 394 = .ok (.iand, 1) := by decide +kernel
theorem dL_hangs_395 : decode cL_hangs 395 = .ok (.istore 17, 2) := by decide +kernel
theorem dL_hangs_397 : decode cL_hangs 397 = .ok (.aload_n 0, 1) := by decide +kernel
theorem dL_hangs_398 : decode cL_hangs 398 = .ok (.iload 15, 2) := by decide +kernel
theorem dL_hangs_400 : decode cL_hangs 400 = .ok (.iconst 3, 1) := by decide +kernel
theorem dL_hangs_401 : decode cL_hangs 401 = .ok (.invokestatic 96, 3) := by decide +kernel
theorem dL_hangs_404 : decode cL_hangs 404 = .ok (.istore 18, 2) := by decide +kernel
theorem dL_hangs_406 : decode cL_hangs 406 = .ok (.iload 16, 2) := by decide +kernel
theorem dL_hangs_408 : decode cL_hangs 408 = .ok (.ifCond .le 149, 3) := by decide +kernel
theorem dL_hangs_411 : decode cL_hangs 411 = .ok (.iload 16, 2) := by decide +kernel
theorem dL_hangs_413 : decode cL_hangs 413 = .ok (.iload 10, 2) := by decide +kernel
theorem dL_hangs_415 : decode cL_hangs 415 = .ok (.iand, 1) := by decide +kernel
theorem dL_hangs_416 : decode cL_hangs 416 = .ok (.ifCond .ne 141, 3) := by decide +kernel
theorem dL_hangs_419 : decode cL_hangs 419 = .ok (.iload 17, 2) := by decide +kernel
theorem dL_hangs_421 : decode cL_hangs 421 = .ok (.iload 14, 2) := by decide +kernel
theorem dL_hangs_423 : decode cL_hangs 423 = .ok (.if_icmp .le 134, 3) := by decide +kernel
theorem dL_hangs_426 : decode cL_hangs 426 = .ok (.aload_n 0, 1) := by decide +kernel
theorem dL_hangs_427 : decode cL_hangs 427 = .ok (.iload 15, 2) := by decide +kernel
theorem dL_hangs_429 : decode cL_hangs 429 = .ok (.iconst 1, 1) := by decide +kernel
theorem dL_hangs_430 : decode cL_hangs 430 = .ok (.invokestatic 96, 3) := by decide +kernel
theorem dL_hangs_433 : decode cL_hangs 433 = .ok (.iload 16, 2) := by decide +kernel
theorem dL_hangs_435 : decode cL_hangs 435 = .ok (.invokestatic 99, 3) := by decide +kernel
theorem dL_hangs_438 : decode cL_hangs 438 = .ok (.if_icmp .ne 119, 3) := by decide +kernel
theorem dL_hangs_441 : decode cL_hangs 441 = .ok (.aload_n 0, 1) := by decide +kernel
theorem dL_hangs_442 : decode cL_hangs 442 = .ok (.iload 16, 2) := by decide +kernel
theorem dL_hangs_444 : decode cL_hangs 444 = .ok (.invokestatic 102, 3) := by decide +kernel
theorem dL_hangs_447 : decode cL_hangs 447 = .ok (.aload_n 0, 1) := by decide +kernel
theorem dL_hangs_448 : decode cL_hangs 448 = .ok (.iload 15, 2) := by decide +kernel
theorem dL_hangs_450 : decode cL_hangs 450 = .ok (.iconst 2, 1) := by decide +kernel
theorem dL_hangs_451 : decode cL_hangs 451 = .ok (.invokestatic 96, 3) := by decide +kernel
theorem dL_hangs_454 : decode cL_hangs 454 = .ok (.if_icmp .ne 103, 3) := by decide +kernel
theorem dL_hangs_457 : decode cL_hangs 457 = .ok (.iload 18, 2) := by decide +kernel
theorem dL_hangs_459 : decode cL_hangs 459 = .ok (.iload 15, 2) := by decide +kernel
theorem dL_hangs_461 : decode cL_hangs 461 = .ok (.if_icmp .gt 96, 3) := by decide +kernel
theorem dL_hangs_464 : decode cL_hangs 464 = .ok (.aload_n 0, 1) := by decide +kernel
theorem dL_hangs_465 : decode cL_hangs 465 = .ok (.iload 18, 2) := by decide +kernel
theorem dL_hangs_467 : decode cL_hangs 467 = .ok (.iconst 3, 1) := by decide +kernel
theorem dL_hangs_468 : decode cL_hangs 468 = .ok (.invokestatic 96, 3) := by decide +kernel
theorem dL_hangs_471 : decode cL_hangs 471 = .ok (.iload 18, 2) := by decide +kernel
theorem dL_hangs_473 : decode cL_hangs 473 = .ok (.if_icmp .ne 84, 3) := by decide +kernel
theorem dL_hangs_476 : decode cL_hangs 476 = .ok (.aload_n 0, 1) := by decide +kernel
theorem dL_hangs_477 : decode cL_hangs 477 = .ok (.iload 18, 2) := by decide +kernel
theorem dL_hangs_479 : decode cL_hangs 479 = .ok (.iconst 1, 1) := by decide +kernel
theorem dL_hangs_480 : decode cL_hangs 480 = .ok (.invokestatic 96, 3) := by decide +kernel
theorem dL_hangs_483 : decode cL_hangs 483 = .ok (.aload_n 0, 1) := by decide +kernel
theorem dL_hangs_484 : decode cL_hangs 484 = .ok (.iload 15, 2) := by decide +kernel
theorem dL_hangs_486 : decode cL_hangs 486 = .ok (.iconst 1, 1) := by decide +kernel
theorem dL_hangs_487 : decode cL_hangs 487 = .ok (.invokestatic 96, 3) := by decide +kernel
theorem dL_hangs_490 : decode cL_hangs 490 = .ok (.if_icmp .ne 67, 3) := by decide +kernel
theorem dL_hangs_493 : decode cL_hangs 493 = .ok (.aload_n 0, 1) := by decide +kernel
theorem dL_hangs_494 : decode cL_hangs 494 = .ok (.iload 18, 2) := by decide +kernel
theorem dL_hangs_496 : decode cL_hangs 496 = .ok (.iconst 2, 1) := by decide +kernel
theorem dL_hangs_497 : decode cL_hangs 497 = .ok (.invokestatic 96, 3) := by decide +kernel
theorem dL_hangs_500 : decode cL_hangs 500 = .ok (.aload_n 0, 1) := by decide +kernel
theorem dL_hangs_501 : decode cL_hangs 501 = .ok (.iload 15, 2) := by decide +kernel
theorem dL_hangs_503 : decode cL_hangs 503 = .ok (.iconst 2, 1) := by decide +kernel
theorem dL_hangs_504 : decode cL_hangs 504 = .ok (.invokestatic 96, 3) := by decide +kernel
theorem dL_hangs_507 : decode cL_hangs 507 = .ok (.if_icmp .ne 50, 3) := by decide +kernel
theorem dL_hangs_510 : decode cL_hangs 510 = .ok (.aload_n 0, 1) := by decide +kernel
theorem dL_hangs_511 : decode cL_hangs 511 = .ok (.iload 18, 2) := by decide +kernel
theorem dL_hangs_513 : decode cL_hangs 513 = .ok (.iconst 5, 1) := by decide +kernel
theorem dL_hangs_514 : decode cL_hangs 514 = .ok (.invokestatic 96, 3) := by decide +kernel
theorem dL_hangs_517 : decode cL_hangs 517 = .ok (.aload_n 0, 1) := by decide +kernel
theorem dL_hangs_518 : decode cL_hangs 518 = .ok (.iload 15, 2) := by decide +kernel
theorem dL_hangs_520 : decode cL_hangs 520 = .ok (.iconst 5, 1) := by decide +kernel
theorem dL_hangs_521 : decode cL_hangs 521 = .ok (.invokestatic 96, 3) := by decide +kernel
theorem dL_hangs_524 : decode cL_hangs 524 = .ok (.if_icmp .ne 33, 3) := by decide +kernel
theorem dL_hangs_527 : decode cL_hangs 527 = .ok (.aload_n 0, 1) := by decide +kernel
theorem dL_hangs_528 : decode cL_hangs 528 = .ok (.iload 15, 2) := by decide +kernel
theorem dL_hangs_530 : decode cL_hangs 530 = .ok (.iconst 5, 1) := by decide +kernel
theorem dL_hangs_531 : decode cL_hangs 531 = .ok (.invokestatic 96, 3) := by decide +kernel
theorem dL_hangs_534 : decode cL_hangs 534 = .ok (.iload 16, 2) := by decide +kernel
theorem dL_hangs_536 : decode cL_hangs 536 = .ok (.invokestatic 99, 3) := by decide +kernel
theorem dL_hangs_539 : decode cL_hangs 539 = .ok (.if_icmp .ge 18, 3) := by decide +kernel
theorem dL_hangs_542 : decode cL_hangs 542 = .ok (.aload_n 0, 1) := by decide +kernel
theorem dL_hangs_543 : decode cL_hangs 543 = .ok (.iload 15, 2) := by decide +kernel
theorem dL_hangs_545 : decode cL_hangs 545 = .ok (.iconst 4, 1) := by decide +kernel
theorem dL_hangs_546 : decode cL_hangs 546 = .ok (.invokestatic 96, 3) := by decide +kernel
theorem dL_hangs_549 : decode cL_hangs 549 = .ok (.iconst 1, 1) := by decide +kernel
theorem dL_hangs_550 : decode cL_hangs 550 = .ok (.if_icmp .gt 7, 3) := by decide +kernel
theorem dL_hangs_553 : decode cL_hangs 553 = .ok (.iconst 1, 1) := by decide +kernel
theorem dL_hangs_554 : decode cL_hangs 554 = .ok (.goto 4, 3) := by decide +kernel
theorem dL_hangs_557 : decode cL_hangs 557 = .ok (.iconst 0, 1) := by decide +kernel
theorem dL_hangs_558 : decode cL_hangs 558 = .ok (.istore 9, 2) := by decide +kernel
theorem dL_hangs_560 : decode cL_hangs 560 = .ok (.iload 17, 2) := by decide +kernel
theorem dL_hangs_562 : decode cL_hangs 562 = .ok (.istore 14, 2) := by decide +kernel
theorem dL_hangs_564 : decode cL_hangs 564 = .ok (.iload 10, 2) := by decide +kernel
theorem dL_hangs_566 : decode cL_hangs 566 = .ok (.iload 16, 2) := by decide +kernel
theorem dL_hangs_568 : decode cL_hangs 568 = .ok (.ior, 1) := by decide +kernel
theorem dL_hangs_569 : decode cL_hangs 569 = .ok (.istore 10, 2) := by decide +kernel
theorem dL_hangs_571 : decode cL_hangs 571 = .ok (.iload 11, 2) := by decide +kernel
theorem dL_hangs_573 : decode cL_hangs 573 = .ok (.aload_n 0, 1) := by decide +kernel
theorem dL_hangs_574 : decode cL_hangs 574 = .ok (.iload 15, 2) := by decide +kernel
theorem dL_hangs_576 : decode cL_hangs 576 = .ok (.iconst 2, 1) := by decide +kernel
theorem dL_hangs_577 : decode cL_hangs 577 = .ok (.invokestatic 96, 3) := by decide +kernel
theorem dL_hangs_580 : decode cL_hangs 580 = .ok (.ixor, 1) := by decide +kernel
theorem dL_hangs_581 : decode cL_hangs 581 = .ok (.istore 11, 2) := by decide +kernel
theorem dL_hangs_583 : decode cL_hangs 583 = .ok (.iload 12, 2) := by decide +kernel
theorem dL_hangs_585 : decode cL_hangs 585 = .ok (.iload 18, 2) := by decide +kernel
theorem dL_hangs_587 : decode cL_hangs 587 = .ok (.iload 15, 2) := by decide +kernel
theorem dL_hangs_589 : decode cL_hangs 589 = .ok (.if_icmp .ne 7, 3) := by decide +kernel
theorem dL_hangs_592 : decode cL_hangs 592 = .ok (.iconst 1, 1) := by decide +kernel
theorem dL_hangs_593 : decode cL_hangs 593 = .ok (.goto 4, 3) := by decide +kernel
theorem dL_hangs_596 : decode cL_hangs 596 = .ok (.iconst 0, 1) := by decide +kernel
theorem dL_hangs_597 : decode cL_hangs 597 = .ok (.iadd, 1) := by decide +kernel
theorem dL_hangs_598 : decode cL_hangs 598 = .ok (.istore 12, 2) := by decide +kernel
theorem dL_hangs_600 : decode cL_hangs 600 = .ok (.iload 13, 2) := by decide +kernel
theorem dL_hangs_602 : decode cL_hangs 602 = .ok (.aload_n 0, 1) := by decide +kernel
theorem dL_hangs_603 : decode cL_hangs 603 = .ok (.iload 15, 2) := by decide +kernel
theorem dL_hangs_605 : decode cL_hangs 605 = .ok (.iconst 4, 1) := by decide +kernel
theorem dL_hangs_606 : decode cL_hangs 606 = .ok (.invokestatic 96, 3) := by decide +kernel
theorem dL_hangs_609 : decode cL_hangs 609 = .ok (.iadd, 1) := by decide +kernel
theorem dL_hangs_610 : decode cL_hangs 610 = .ok (.istore 13, 2) := by decide +kernel
theorem dL_hangs_612 : decode cL_hangs 612 = .ok (.iinc 15 1, 3) := by decide +kernel
theorem dL_hangs_615 : decode cL_hangs 615 = .ok (.goto (-246), 3) := by decide +kernel
theorem dL_hangs_618 : decode cL_hangs 618 = .ok (.iload 9, 2) := by decide +kernel
theorem dL_hangs_620 : decode cL_hangs 620 = .ok (.ifCond .eq 173, 3) := by decide +kernel
theorem dL_hangs_623 : decode cL_hangs 623 = .ok (.iload 10, 2) := by decide +kernel
theorem dL_hangs_625 : decode cL_hangs 625 = .ok (.iload_n 3, 1) := by decide +kernel
theorem dL_hangs_626 : decode cL_hangs 626 = .ok (.if_icmp .ne 167, 3) := by decide +kernel
theorem dL_hangs_629 : decode cL_hangs 629 = .ok (.iload_n 3, 1) := by decide +kernel
theorem dL_hangs_630 : decode cL_hangs 630 = .ok (.invokestatic 99, 3) := by decide +kernel
theorem dL_hangs_633 : decode cL_hangs 633 = .ok (.aload_n 0, 1) := by decide +kernel
theorem dL_hangs_634 : decode cL_hangs 634 = .ok (.iconst 1, 1) := by decide +kernel
theorem dL_hangs_635 : decode cL_hangs 635 = .ok (.invokestatic 92, 3) := by decide +kernel
theorem dL_hangs_638 : decode cL_hangs 638 = .ok (.if_icmp .ne 155, 3) := by decide +kernel
theorem dL_hangs_641 : decode cL_hangs 641 = .ok (.iload 4, 2) := by decide +kernel
theorem dL_hangs_643 : decode cL_hangs 643 = .ok (.iconst 2, 1) := by decide +kernel
theorem dL_hangs_644 : decode cL_hangs 644 = .ok (.aload_n 0, 1) := by decide +kernel
theorem dL_hangs_645 : decode cL_hangs 645 = .ok (.iconst 2, 1) := by decide +kernel
theorem dL_hangs_646 : decode cL_hangs 646 = .ok (.invokestatic 92, 3) := by decide +kernel
theorem dL_hangs_649 : decode cL_hangs 649 = .ok (.imul, 1) := by decide +kernel
theorem dL_hangs_650 : decode cL_hangs 650 = .ok (.if_icmp .ne 143, 3) := by decide +kernel
theorem dL_hangs_653 : decode cL_hangs 653 = .ok (.aload_n 0, 1) := by decide +kernel
theorem dL_hangs_654 : decode cL_hangs 654 = .ok (.iconst 2, 1) := by decide +kernel
theorem dL_hangs_655 : decode cL_hangs 655 = .ok (.invokestatic 92, 3) := by decide +kernel
theorem dL_hangs_658 : decode cL_hangs 658 = .ok (.iload_n 2, 1) := by decide +kernel
theorem dL_hangs_659 : decode cL_hangs 659 = .ok (.iadd, 1) := by decide +kernel
theorem dL_hangs_660 : decode cL_hangs 660 = .ok (.aload_n 0, 1) := by decide +kernel
theorem dL_hangs_661 : decode cL_hangs 661 = .ok (.iconst 1, 1) := by decide +kernel
theorem dL_hangs_662 : decode cL_hangs 662 = .ok (.invokestatic 92, 3) := by decide +kernel
theorem dL_hangs_665 : decode cL_hangs 665 = .ok (.if_icmp .ne 128, 3) := by decide +kernel
theorem dL_hangs_668 : decode cL_hangs 668 = .ok (.iload 12, 2) := by decide +kernel
theorem dL_hangs_670 : decode cL_hangs 670 = .ok (.aload_n 0, 1) := by decide +kernel
theorem dL_hangs_671 : decode cL_hangs 671 = .ok (.iconst 4, 1) := by decide +kernel
theorem dL_hangs_672 : decode cL_hangs 672 = .ok (.invokestatic 92, 3) := by decide +kernel
theorem dL_hangs_675 : decode cL_hangs 675 = .ok (.if_icmp .ne 118, 3) := by decide +kernel
theorem dL_hangs_678 : decode cL_hangs 678 = .ok (.iload 11, 2) := by decide +kernel
theorem dL_hangs_680 : decode cL_hangs 680 = .ok (.aload_n 0, 1) := by decide +kernel
theorem dL_hangs_681 : decode cL_hangs 681 = .ok (.bipush 6, 2) := by decide +kernel
theorem dL_hangs_683 : decode cL_hangs 683 = .ok (.invokestatic 92, 3) := by decide +kernel
theorem dL_hangs_686 : decode cL_hangs 686 = .ok (.if_icmp .ne 107, 3) := by decide +kernel
theorem dL_hangs_689 : decode cL_hangs 689 = .ok (.iload 11, 2) := by decide +kernel
theorem dL_hangs_691 : decode cL_hangs 691 = .ok (.aload_n 0, 1) := by decide +kernel
theorem dL_hangs_692 : decode cL_hangs 692 = .ok (.iconst 5, 1) := by decide +kernel
theorem dL_hangs_693 : decode cL_hangs 693 = .ok (.invokestatic 92, 3) := by decide +kernel
theorem dL_hangs_696 : decode cL_hangs 696 = .ok (.if_icmp .ne 97, 3) := by decide +kernel
theorem dL_hangs_699 : decode cL_hangs 699 = .ok (.iload 5, 2) := by decide +kernel
theorem dL_hangs_701 : decode cL_hangs 701 = .ok (.aload_n 0, 1) := by decide +kernel
theorem dL_hangs_702 : decode cL_hangs 702 = .ok (.bipush 10, 2) := by decide +kernel
theorem dL_hangs_704 : decode cL_hangs 704 = .ok (.invokestatic 92, 3) := by decide +kernel
theorem dL_hangs_707 : decode cL_hangs 707 = .ok (.if_icmp .ne 86, 3) := by decide +kernel
theorem dL_hangs_710 : decode cL_hangs 710 = .ok (.aload_n 0, 1) := by decide +kernel
theorem dL_hangs_711 : decode cL_hangs 711 = .ok (.invokevirtual 104, 3) := by decide +kernel
theorem dL_hangs_714 : decode cL_hangs 714 = .ok (.iload 6, 2) := by decide +kernel
theorem dL_hangs_716 : decode cL_hangs 716 = .ok (.if_icmp .ne 77, 3) := by decide +kernel
theorem dL_hangs_719 : decode cL_hangs 719 = .ok (.iload_n 3, 1) := by decide +kernel
theorem dL_hangs_720 : decode cL_hangs 720 = .ok (.ifCond .ne 24, 3) := by decide +kernel
theorem dL_hangs_723 : decode cL_hangs 723 = .ok (.aload_n 0, 1) := by decide +kernel
theorem dL_hangs_724 : decode cL_hangs 724 = .ok (.iconst 5, 1) := by decide +kernel
theorem dL_hangs_725 : decode cL_hangs 725 = .ok (.invokestatic 92, 3) := by decide +kernel
theorem dL_hangs_728 : decode cL_hangs 728 = .ok (.ifCond .ne 65, 3) := by decide +kernel
theorem dL_hangs_731 : decode cL_hangs 731 = .ok (.aload_n 0, 1) := by decide +kernel
theorem dL_hangs_732 : decode cL_hangs 732 = .ok (.bipush 7, 2) := by decide +kernel
theorem dL_hangs_734 : decode cL_hangs 734 = .ok (.invokestatic 92, 3) := by decide +kernel
theorem dL_hangs_737 : decode cL_hangs 737 = .ok (.iconst 1, 1) := by decide +kernel
theorem dL_hangs_738 : decode cL_hangs 738 = .ok (.if_icmp .ne 55, 3) := by decide +kernel
theorem dL_hangs_741 : decode cL_hangs 741 = .ok (.goto 27, 3) := by decide +kernel
theorem dL_hangs_744 : decode cL_hangs 744 = .ok (.aload_n 0, 1) := by decide +kernel
theorem dL_hangs_745 : decode cL_hangs 745 = .ok (.iconst 5, 1) := by decide +kernel
theorem dL_hangs_746 : decode cL_hangs 746 = .ok (.invokestatic 92, 3) := by decide +kernel
theorem dL_hangs_749 : decode cL_hangs 749 = .ok (.iload 7, 2) := by decide +kernel
theorem dL_hangs_751 : decode cL_hangs 751 = .ok (.invokestatic 107, 3) := by decide +kernel
theorem dL_hangs_754 : decode cL_hangs 754 = .ok (.if_icmp .ne 39, 3) := by decide +kernel
theorem dL_hangs_757 : decode cL_hangs 757 = .ok (.aload_n 0, 1) := by decide +kernel
theorem dL_hangs_758 : decode cL_hangs 758 = .ok (.bipush 7, 2) := by decide +kernel
theorem dL_hangs_760 : decode cL_hangs 760 = .ok (.invokestatic 92, 3) := by decide +kernel
theorem dL_hangs_763 : decode cL_hangs 763 = .ok (.iload 8, 2) := by decide +kernel
theorem dL_hangs_765 : decode cL_hangs 765 = .ok (.if_icmp .ne 28, 3) := by decide +kernel
theorem dL_hangs_768 : decode cL_hangs 768 = .ok (.aload_n 0, 1) := by decide +kernel
theorem dL_hangs_769 : decode cL_hangs 769 = .ok (.iload_n 3, 1) := by decide +kernel
theorem dL_hangs_770 : decode cL_hangs 770 = .ok (.invokestatic 102, 3) := by decide +kernel
theorem dL_hangs_773 : decode cL_hangs 773 = .ok (.aload_n 0, 1) := by decide +kernel
theorem dL_hangs_774 : decode cL_hangs 774 = .ok (.iconst 5, 1) := by decide +kernel
theorem dL_hangs_775 : decode cL_hangs 775 = .ok (.invokestatic 92, 3) := by decide +kernel
theorem dL_hangs_778 : decode cL_hangs 778 = .ok (.if_icmp .ne 15, 3) := by decide +kernel
theorem dL_hangs_781 : decode cL_hangs 781 = .ok (.aload_n 0, 1) := by decide +kernel
theorem dL_hangs_782 : decode cL_hangs 782 = .ok (.iconst 0, 1) := by decide +kernel
theorem dL_hangs_783 : decode cL_hangs 783 = .ok (.invokestatic 102, 3) := by decide +kernel
theorem dL_hangs_786 : decode cL_hangs 786 = .ok (.ifCond .ne 7, 3) := by decide +kernel
theorem dL_hangs_789 : decode cL_hangs 789 = .ok (.iconst 1, 1) := by decide +kernel
theorem dL_hangs_790 : decode cL_hangs 790 = .ok (.goto 4, 3) := by decide +kernel
theorem dL_hangs_793 : decode cL_hangs 793 = .ok (.iconst 0, 1) := by decide +kernel
theorem dL_hangs_794 : decode cL_hangs 794 = .ok (.istore 9, 2) := by decide +kernel
theorem dL_hangs_796 : decode cL_hangs 796 = .ok (.aload_n 0, 1) := by decide +kernel
theorem dL_hangs_797 : decode cL_hangs 797 = .ok (.iconst 1, 1) := by decide +kernel
theorem dL_hangs_798 : decode cL_hangs 798 = .ok (.invokevirtual 110, 3) := by decide +kernel
theorem dL_hangs_801 : decode cL_hangs 801 = .ok (.istore 15, 2) := by decide +kernel
theorem dL_hangs_803 : decode cL_hangs 803 = .ok (.aload_n 0, 1) := by decide +kernel
theorem dL_hangs_804 : decode cL_hangs 804 = .ok (.iconst 0, 1) := by decide +kernel
theorem dL_hangs_805 : decode cL_hangs 805 = .ok (.invokevirtual 110, 3) := by decide +kernel
theorem dL_hangs_808 : decode cL_hangs 808 = .ok (.istore 16, 2) := by decide +kernel
theorem dL_hangs_810 : decode cL_hangs 810 = .ok (.iload 9, 2) := by decide +kernel
theorem dL_hangs_812 : decode cL_hangs 812 = .ok (.ifCond .eq 97, 3) := by decide +kernel
theorem dL_hangs_815 : decode cL_hangs 815 = .ok (.iload 15, 2) := by decide +kernel
theorem dL_hangs_817 : decode cL_hangs 817 = .ok (.iload 16, 2) := by decide +kernel
theorem dL_hangs_819 : decode cL_hangs 819 = .ok (.if_icmp .gt 90, 3) := by decide +kernel
theorem dL_hangs_822 : decode cL_hangs 822 = .ok (.iload 16, 2) := by decide +kernel
theorem dL_hangs_824 : decode cL_hangs 824 = .ok (.aload_n 0, 1) := by decide +kernel
theorem dL_hangs_825 : decode cL_hangs 825 = .ok (.iconst 1, 1) := by decide +kernel
theorem dL_hangs_826 : decode cL_hangs 826 = .ok (.invokestatic 92, 3) := by decide +kernel
theorem dL_hangs_829 : decode cL_hangs 829 = .ok (.if_icmp .gt 80, 3) := by decide +kernel
theorem dL_hangs_832 : decode cL_hangs 832 = .ok (.iload 15, 2) := by decide +kernel
theorem dL_hangs_834 : decode cL_hangs 834 = .ok (.ifCond .ne 7, 3) := by decide +kernel
theorem dL_hangs_837 : decode cL_hangs 837 = .ok (.iconst 1, 1) := by decide +kernel
theorem dL_hangs_838 : decode cL_hangs 838 = .ok (.goto 4, 3) := by decide +kernel
theorem dL_hangs_841 : decode cL_hangs 841 = .ok (.iconst 0, 1) := by decide +kernel
theorem dL_hangs_842 : decode cL_hangs 842 = .ok (.iload_n 3, 1) := by decide +kernel
theorem dL_hangs_843 : decode cL_hangs 843 = .ok (.ifCond .ne 7, 3) := by decide +kernel
theorem dL_hangs_846 : decode cL_hangs 846 = .ok (.iconst 1, 1) := by decide +kernel
theorem dL_hangs_847 : decode cL_hangs 847 = .ok (.goto 4, 3) := by decide +kernel
theorem dL_hangs_850 : decode cL_hangs 850 = .ok (.iconst 0, 1) := by decide +kernel
theorem dL_hangs_851 : decode cL_hangs 851 = .ok (.if_icmp .ne 58, 3) := by decide +kernel
theorem dL_hangs_854 : decode cL_hangs 854 = .ok (.iload 15, 2) := by decide +kernel
theorem dL_hangs_856 : decode cL_hangs 856 = .ok (.iload_n 2, 1) := by decide +kernel
theorem dL_hangs_857 : decode cL_hangs 857 = .ok (.bipush 7, 2) := by decide +kernel
theorem dL_hangs_859 : decode cL_hangs 859 = .ok (.imul, 1) := by decide +kernel
theorem dL_hangs_860 : decode cL_hangs 860 = .ok (.if_icmp .gt 49, 3) := by decide +kernel
theorem dL_hangs_863 : decode cL_hangs 863 = .ok (.iload 16, 2) := by decide +kernel
theorem dL_hangs_865 : decode cL_hangs 865 = .ok (.iload_n 2, 1) := by decide +kernel
theorem dL_hangs_866 : decode cL_hangs 866 = .ok (.if_icmp .lt 43, 3) := by decide +kernel
theorem dL_hangs_869 : decode cL_hangs 869 = .ok (.iload 13, 2) := by decide +kernel
theorem dL_hangs_871 : decode cL_hangs 871 = .ok (.ifCond .eq 14, 3) := by decide +kernel
theorem dL_hangs_874 : decode cL_hangs 874 = .ok (.aload_n 0, 1) := by decide +kernel
theorem dL_hangs_875 : decode cL_hangs 875 = .ok (.iload 13, 2) := by decide +kernel
theorem dL_hangs_877 : decode cL_hangs 877 = .ok (.iconst 1, 1) := by decide +kernel
theorem dL_hangs_878 : decode cL_hangs 878 = .ok (.isub, 1) := by decide +kernel
theorem dL_hangs_879 : decode cL_hangs 879 = .ok (.invokestatic 114, 3) := by decide +kernel
theorem dL_hangs_882 : decode cL_hangs 882 = .ok (.ifCond .lt 27, 3) := by decide +kernel
theorem dL_hangs_885 : decode cL_hangs 885 = .ok (.aload_n 0, 1) := by decide +kernel
theorem dL_hangs_886 : decode cL_hangs 886 = .ok (.iload 13, 2) := by decide +kernel
theorem dL_hangs_888 : decode cL_hangs 888 = .ok (.invokestatic 114, 3) := by decide +kernel
theorem dL_hangs_891 : decode cL_hangs 891 = .ok (.iconst (-1), 1) := by decide +kernel
theorem dL_hangs_892 : decode cL_hangs 892 = .ok (.if_icmp .ne 17, 3) := by decide +kernel
theorem dL_hangs_895 : decode cL_hangs 895 = .ok (.aload_n 0, 1) := by decide +kernel
theorem dL_hangs_896 : decode cL_hangs 896 = .ok (.iconst (-1), 1) := by decide +kernel
theorem dL_hangs_897 : decode cL_hangs 897 = .ok (.invokestatic 114, 3) := by decide +kernel
theorem dL_hangs_900 : decode cL_hangs 900 = .ok (.ldc 17, 2) := by decide +kernel
theorem dL_hangs_902 : decode cL_hangs 902 = .ok (.if_icmp .ne 7, 3) := by decide +kernel
theorem dL_hangs_905 : decode cL_hangs 905 = .ok (.iconst 1, 1) := by decide +kernel
theorem dL_hangs_906 : decode cL_hangs 906 = .ok (.goto 4, 3) := by decide +kernel
theorem dL_hangs_909 : decode cL_hangs 909 = .ok (.iconst 0, 1) := by decide +kernel
theorem dL_hangs_910 : decode cL_hangs 910 = .ok (.ireturn, 1) := by decide +kernel
