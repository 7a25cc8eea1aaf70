theorem dL_law_0 : decode cL_law 0 = .ok (.new 10, 3) := by decide +kernel
theorem dL_law_3 : decode cL_law 3 = .ok (.dup, 1) := by decide +kernel
theorem dL_law_4 : decode cL_law 4 = .ok (.invokespecial 116, 3) := by decide +kernel
theorem dL_law_7 : decode cL_law 7 = .ok (.astore_n 1, 1) := by decide +kernel
theorem dL_law_8 : decode cL_law 8 = .ok (.aload_n 1, 1) := by decide +kernel
theorem dL_law_9 : decode cL_law 9 = .ok (.invokestatic 117, 3) := by decide +kernel
theorem dL_law_12 : decode cL_law 12 = .ok (.ldc 17, 2) := by decide +kernel
theorem dL_law_14 : decode cL_law 14 = .ok (.if_icmp .ne 72, 3) := by decide +kernel
theorem dL_law_17 : decode cL_law 17 = .ok (.aload_n 1, 1) := by decide +kernel
theorem dL_law_18 : decode cL_law 18 = .ok (.iconst 0, 1) := by decide +kernel
theorem dL_law_19 : decode cL_law 19 = .ok (.invokestatic 88, 3) := by decide +kernel
theorem dL_law_22 : decode cL_law 22 = .ok (.ldc 20, 2) := by decide +kernel
theorem dL_law_24 : decode cL_law 24 = .ok (.if_icmp .ne 62, 3) := by decide +kernel
theorem dL_law_27 : decode cL_law 27 = .ok (.aload_n 1, 1) := by decide +kernel
theorem dL_law_28 : decode cL_law 28 = .ok (.invokestatic 82, 3) := by decide +kernel
theorem dL_law_31 : decode cL_law 31 = .ok (.ldc 17, 2) := by decide +kernel
theorem dL_law_33 : decode cL_law 33 = .ok (.if_icmp .ne 53, 3) := by decide +kernel
theorem dL_law_36 : decode cL_law 36 = .ok (.aload_n 1, 1) := by decide +kernel
theorem dL_law_37 : decode cL_law 37 = .ok (.invokevirtual 104, 3) := by decide +kernel
theorem dL_law_40 : decode cL_law 40 = .ok (.iconst (-1), 1) := by decide +kernel
theorem dL_law_41 : decode cL_law 41 = .ok (.if_icmp .ne 45, 3) := by decide +kernel
theorem dL_law_44 : decode cL_law 44 = .ok (.aload_n 1, 1) := by decide +kernel
theorem dL_law_45 : decode cL_law 45 = .ok (.invokevirtual 119, 3) := by decide +kernel
theorem dL_law_48 : decode cL_law 48 = .ok (.ifCond .ne 38, 3) := by decide +kernel
theorem dL_law_51 : decode cL_law 51 = .ok (.aload_n 1, 1) := by decide +kernel
theorem dL_law_52 : decode cL_law 52 = .ok (.invokestatic 122, 3) := by decide +kernel
theorem dL_law_55 : decode cL_law 55 = .ok (.ifCond .ne 31, 3) := by decide +kernel
theorem dL_law_58 : decode cL_law 58 = .ok (.aload_n 1, 1) := by decide +kernel
theorem dL_law_59 : decode cL_law 59 = .ok (.invokestatic 117, 3) := by decide +kernel
theorem dL_law_62 : decode cL_law 62 = .ok (.ifCond .ne 24, 3) := by decide +kernel
theorem dL_law_65 : decode cL_law 65 = .ok (.aload_n 1, 1) := by decide +kernel
theorem dL_law_66 : decode cL_law 66 = .ok (.iconst 0, 1) := by decide +kernel
theorem dL_law_67 : decode cL_law 67 = .ok (.invokestatic 70, 3) := by decide +kernel
theorem dL_law_70 : decode cL_law 70 = .ok (.ldc 17, 2) := by decide +kernel
theorem dL_law_72 : decode cL_law 72 = .ok (.if_icmp .ne 14, 3) := by decide +kernel
theorem dL_law_75 : decode cL_law 75 = .ok (.aload_n 1, 1) := by decide +kernel
theorem dL_law_76 : decode cL_law 76 = .ok (.invokestatic 124, 3) := by decide +kernel
theorem dL_law_79 : decode cL_law 79 = .ok (.ifCond .eq 7, 3) := by decide +kernel
theorem dL_law_82 : decode cL_law 82 = .ok (.iconst 1, 1) := by decide +kernel
theorem dL_law_83 : decode cL_law 83 = .ok (.goto 4, 3) := by decide +kernel
theorem dL_law_86 : decode cL_law 86 = .ok (.iconst 0, 1) := by decide +kernel
theorem dL_law_87 : decode cL_law 87 = .ok (.istore_n 2, 1) := by decide +kernel
theorem dL_law_88 : decode cL_law 88 = .ok (.iconst 0, 1) := by decide +kernel
theorem dL_law_89 : decode cL_law 89 = .ok (.istore_n 3, 1) := by decide +kernel
theorem dL_law_90 : decode cL_law 90 = .ok (.iload_n 3, 1) := by decide +kernel
theorem dL_law_91 : decode cL_law 91 = .ok (.bipush 16, 2) := by decide +kernel
theorem dL_law_93 : decode cL_law 93 = .ok (.if_icmp .ge 593, 3) := by decide +kernel
theorem dL_law_96 : decode cL_law 96 = .ok (.iload_n 2, 1) := by decide +kernel
theorem dL_law_97 : decode cL_law 97 = .ok (.ifCond .eq 589, 3) := by decide +kernel
theorem dL_law_100 : decode cL_law 100 = .ok (.aload_n 0, 1) := by decide +kernel
theorem dL_law_101 : decode cL_law 101 = .ok (.iload_n 3, 1) := by decide +kernel
theorem dL_law_102 : decode cL_law 102 = .ok (.invokestatic 128, 3) := by decide +kernel
theorem dL_law_105 : decode cL_law 105 = .ok (.istore 4, 2) := by decide +kernel
theorem dL_law_107 : decode cL_law 107 = .ok (.iload 4, 2) := by decide +kernel
theorem dL_law_109 : decode cL_law 109 = .ok (.bipush 16, 2) := by decide +kernel
theorem dL_law_111 : decode cL_law 111 = .ok (.idiv, 1) := by decide +kernel
theorem dL_law_112 : decode cL_law 112 = .ok (.istore 5, 2) := by decide +kernel
theorem dL_law_114 : decode cL_law 114 = .ok (.iload 4, 2) := by decide +kernel
theorem dL_law_116 : decode cL_law 116 = .ok (.bipush 16, 2) := by decide +kernel
theorem dL_law_118 : decode cL_law 118 = .ok (.irem, 1) := by decide +kernel
theorem dL_law_119 : decode cL_law 119 = .ok (.istore 6, 2) := by decide +kernel
theorem dL_law_121 : decode cL_law 121 = .ok (.aload_n 1, 1) := by decide +kernel
theorem dL_law_122 : decode cL_law 122 = .ok (.bipush 11, 2) := by decide +kernel
theorem dL_law_124 : decode cL_law 124 = .ok (.invokestatic 92, 3) := by decide +kernel
theorem dL_law_127 : decode cL_law 127 = .ok (.istore 7, 2) := by decide +kernel
theorem dL_law_129 : decode cL_law 129 = .ok (.aload_n 1, 1) := by decide +kernel
theorem dL_law_130 : decode cL_law 130 = .ok (.iconst 0, 1) := by decide +kernel
theorem dL_law_131 : decode cL_law 131 = .ok (.invokestatic 92, 3) := by decide +kernel
theorem dL_law_134 : decode cL_law 134 = .ok (.istore 8, 2) := by decide +kernel
theorem dL_law_136 : decode cL_law 136 = .ok (.aload_n 1, 1) := by decide +kernel
theorem dL_law_137 : decode cL_law 137 = .ok (.iconst 1, 1) := by decide +kernel
theorem dL_law_138 : decode cL_law 138 = .ok (.invokestatic 92, 3) := by decide +kernel
theorem dL_law_141 : decode cL_law 141 = .ok (.istore 9, 2) := by decide +kernel
theorem dL_law_143 : decode cL_law 143 = .ok (.aload_n 1, 1) := by decide +kernel
theorem dL_law_144 : decode cL_law 144 = .ok (.bipush 9, 2) := by decide +kernel
theorem dL_law_146 : decode cL_law 146 = .ok (.invokestatic 92, 3) := by decide +kernel
theorem dL_law_149 : decode cL_law 149 = .ok (.istore 10, 2) := by decide +kernel
theorem dL_law_151 : decode cL_law 151 = .ok (.aload_n 1, 1) := by decide +kernel
theorem dL_law_152 : decode cL_law 152 = .ok (.bipush 8, 2) := by decide +kernel
theorem dL_law_154 : decode cL_law 154 = .ok (.invokestatic 92, 3) := by decide +kernel
theorem dL_law_157 : decode cL_law 157 = .ok (.istore 11, 2) := by decide +kernel
theorem dL_law_159 : decode cL_law 159 = .ok (.aload_n 1, 1) := by decide +kernel
theorem dL_law_160 : decode cL_law 160 = .ok (.invokevirtual 104, 3) := by decide +kernel
theorem dL_law_163 : decode cL_law 163 = .ok (.istore 12, 2) := by decide +kernel
theorem dL_law_165 : decode cL_law 165 = .ok (.iload 6, 2) := by decide +kernel
theorem dL_law_167 : decode cL_law 167 = .ok (.iconst 4, 1) := by decide +kernel
theorem dL_law_168 : decode cL_law 168 = .ok (.if_icmp .eq 9, 3) := by decide +kernel
theorem dL_law_171 : decode cL_law 171 = .ok (.iload 6, 2) := by decide +kernel
theorem dL_law_173 : decode cL_law 173 = .ok (.iconst 5, 1) := by decide +kernel
theorem dL_law_174 : decode cL_law 174 = .ok (.if_icmp .ne 23, 3) := by decide +kernel
theorem dL_law_177 : decode cL_law 177 = .ok (.aload_n 1, 1) := by decide +kernel
theorem dL_law_178 : decode cL_law 178 = .ok (.iload 5, 2) := by decide +kernel
theorem dL_law_180 : decode cL_law 180 = .ok (.bipush 10, 2) := by decide +kernel
theorem dL_law_182 : decode cL_law 182 = .ok (.irem, 1) := by decide +kernel
theorem dL_law_183 : decode cL_law 183 = .ok (.iload 5, 2) := by decide +kernel
theorem dL_law_185 : decode cL_law 185 = .ok (.bipush 16, 2) := by decide +kernel
theorem dL_law_187 : decode cL_law 187 = .ok (.idiv, 1) := by decide +kernel
theorem dL_law_188 : decode cL_law 188 = .ok (.bipush 10, 2) := by decide +kernel
theorem dL_law_190 : decode cL_law 190 = .ok (.irem, 1) := by decide +kernel
theorem dL_law_191 : decode cL_law 191 = .ok (.invokestatic 132, 3) := by decide +kernel
theorem dL_law_194 : decode cL_law 194 = .ok (.goto 4, 3) := by decide +kernel
theorem dL_law_197 : decode cL_law 197 = .ok (.iconst (-1), 1) := by decide +kernel
theorem dL_law_198 : decode cL_law 198 = .ok (.istore 13, 2) := by decide +kernel
theorem dL_law_200 : decode cL_law 200 = .ok (.iload 6, 2) := by decide +kernel
theorem dL_law_202 : decode cL_law 202 = .ok (.bipush 6, 2) := by decide +kernel
theorem dL_law_204 : decode cL_law 204 = .ok (.if_icmp .ne 16, 3) := by decide +kernel
theorem dL_law_207 : decode cL_law 207 = .ok (.iload 8, 2) := by decide +kernel
theorem dL_law_209 : decode cL_law 209 = .ok (.ifCond .le 11, 3) := by decide +kernel
theorem dL_law_212 : decode cL_law 212 = .ok (.aload_n 1, 1) := by decide +kernel
theorem dL_law_213 : decode cL_law 213 = .ok (.iconst 0, 1) := by decide +kernel
theorem dL_law_214 : decode cL_law 214 = .ok (.invokestatic 114, 3) := by decide +kernel
theorem dL_law_217 : decode cL_law 217 = .ok (.goto 4, 3) := by decide +kernel
theorem dL_law_220 : decode cL_law 220 = .ok (.iconst (-1), 1) := by decide +kernel
theorem dL_law_221 : decode cL_law 221 = .ok (.istore 14, 2) := by decide +kernel
theorem dL_law_223 : decode cL_law 223 = .ok (.aload_n 1, 1) := by decide +kernel
theorem dL_law_224 : decode cL_law 224 = .ok (.iload 4, 2) := by decide +kernel
theorem dL_law_226 : decode cL_law 226 = .ok (.invokestatic 134, 3) := by decide +kernel
theorem dL_law_229 : decode cL_law 229 = .ok (.istore 15, 2) := by decide +kernel
theorem dL_law_231 : decode cL_law 231 = .ok (.iload 15, 2) := by decide +kernel
theorem dL_law_233 : decode cL_law 233 = .ok (.ldc 137, 2) := by decide +kernel
theorem dL_law_235 : decode cL_law 235 = .ok (.if_icmp .le 7, 3) := by decide +kernel
theorem dL_law_238 : decode cL_law 238 = .ok (.iconst 1, 1) := by decide +kernel
theorem dL_law_239 : decode cL_law 239 = .ok (.goto 4, 3) := by decide +kernel
theorem dL_law_242 : decode cL_law 242 = .ok (.iconst 0, 1) := by decide +kernel
theorem dL_law_243 : decode cL_law 243 = .ok (.istore 16, 2) := by decide +kernel
theorem dL_law_245 : decode cL_law 245 = .ok (.aload_n 1, 1) := by decide +kernel
theorem dL_law_246 : decode cL_law 246 = .ok (.bipush 11, 2) := by decide +kernel
theorem dL_law_248 : decode cL_law 248 = .ok (.invokestatic 92, 3) := by decide +kernel
theorem dL_law_251 : decode cL_law 251 = .ok (.iload 16, 2) := by decide +kernel
theorem dL_law_253 : decode cL_law 253 = .ok (.ifCond .eq 25, 3) := by decide +kernel
theorem dL_law_256 : decode cL_law 256 = .ok (.iload 6, 2) := by decide +kernel
theorem dL_law_258 : decode cL_law 258 = .ok (.bipush 12, 2) := by decide +kernel
theorem dL_law_260 : decode cL_law 260 = .ok (.if_icmp .ne 11, 3) := by decide +kernel
theorem dL_law_263 : decode cL_law 263 = .ok (.iload 5, 2) := by decide +kernel
theorem dL_law_265 : decode cL_law 265 = .ok (.iconst 2, 1) := by decide +kernel
theorem dL_law_266 : decode cL_law 266 = .ok (.irem, 1) := by decide +kernel
theorem dL_law_267 : decode cL_law 267 = .ok (.iconst 1, 1) := by decide +kernel
theorem dL_law_268 : decode cL_law 268 = .ok (.if_icmp .eq 10, 3) := by decide +kernel
theorem dL_law_271 : decode cL_law 271 = .ok (.iload 7, 2) := by decide +kernel
theorem dL_law_273 : decode cL_law 273 = .ok (.bipush 6, 2) := by decide +kernel
theorem dL_law_275 : decode cL_law 275 = .ok (.if_icmp .ne 8, 3) := by decide +kernel
theorem dL_law_278 : decode cL_law 278 = .ok (.iload 7, 2) := by decide +kernel
theorem dL_law_280 : decode cL_law 280 = .ok (.goto 7, 3) := by decide +kernel
theorem dL_law_283 : decode cL_law 283 = .ok (.iload 7, 2) := by decide +kernel
theorem dL_law_285 : decode cL_law 285 = .ok (.iconst 1, 1) := by decide +kernel
theorem dL_law_286 : decode cL_law 286 = .ok (.iadd, 1) := by decide +kernel
theorem dL_law_287 : decode cL_law 287 = .ok (.if_icmp .ne 7, 3) := by decide +kernel
theorem dL_law_290 : decode cL_law 290 = .ok (.iconst 1, 1) := by decide +kernel
theorem dL_law_291 : decode cL_law 291 = .ok (.goto 4, 3) := by decide +kernel
theorem dL_law_294 : decode cL_law 294 = .ok (.iconst 0, 1) := by decide +kernel
theorem dL_law_295 : decode cL_law 295 = .ok (.istore_n 2, 1) := by decide +kernel
theorem dL_law_296 : decode cL_law 296 = .ok (.iload_n 2, 1) := by decide +kernel
theorem dL_law_297 : decode cL_law 297 = .ok (.ifCond .eq 72, 3) := by decide +kernel
theorem dL_law_300 : decode cL_law 300 = .ok (.iload 6, 2) := by decide +kernel
theorem dL_law_302 : decode cL_law 302 = .ok (.iconst 4, 1) := by decide +kernel
theorem dL_law_303 : decode cL_law 303 = .ok (.if_icmp .lt 10, 3) := by decide +kernel
theorem dL_law_306 : decode cL_law 306 = .ok (.iload 6, 2) := by decide +kernel
theorem dL_law_308 : decode cL_law 308 = .ok (.bipush 12, 2) := by decide +kernel
theorem dL_law_310 : decode cL_law 310 = .ok (.if_icmp .le 59, 3) := by decide +kernel
theorem dL_law_313 : decode cL_law 313 = .ok (.iload 16, 2) := by decide +kernel
theorem dL_law_315 : decode cL_law 315 = .ok (.ifCond .eq 45, 3) := by decide +kernel
theorem dL_law_318 : decode cL_law 318 = .ok (.iload 15, 2) := by decide +kernel
theorem dL_law_320 : decode cL_law 320 = .ok (.iload 8, 2) := by decide +kernel
theorem dL_law_322 : decode cL_law 322 = .ok (.if_icmp .ne 42, 3) := by decide +kernel
theorem dL_law_325 : decode cL_law 325 = .ok (.aload_n 1, 1) := by decide +kernel
theorem dL_law_326 : decode cL_law 326 = .ok (.iconst 0, 1) := by decide +kernel
theorem dL_law_327 : decode cL_law 327 = .ok (.invokestatic 92, 3) := by decide +kernel
theorem dL_law_330 : decode cL_law 330 = .ok (.iload 8, 2) := by decide +kernel
theorem dL_law_332 : decode cL_law 332 = .ok (.iconst 1, 1) := by decide +kernel
theorem dL_law_333 : decode cL_law 333 = .ok (.iadd, 1) := by decide +kernel
theorem dL_law_334 : decode cL_law 334 = .ok (.if_icmp .ne 30, 3) := by decide +kernel
theorem dL_law_337 : decode cL_law 337 = .ok (.aload_n 1, 1) := by decide +kernel
theorem dL_law_338 : decode cL_law 338 = .ok (.iconst 1, 1) := by decide +kernel
theorem dL_law_339 : decode cL_law 339 = .ok (.invokestatic 92, 3) := by decide +kernel
theorem dL_law_342 : decode cL_law 342 = .ok (.iload 9, 2) := by decide +kernel
theorem dL_law_344 : decode cL_law 344 = .ok (.iconst 1, 1) := by decide +kernel
theorem dL_law_345 : decode cL_law 345 = .ok (.iadd, 1) := by decide +kernel
theorem dL_law_346 : decode cL_law 346 = .ok (.if_icmp .ne 18, 3) := by decide +kernel
theorem dL_law_349 : decode cL_law 349 = .ok (.aload_n 1, 1) := by decide +kernel
theorem dL_law_350 : decode cL_law 350 = .ok (.iload 8, 2) := by decide +kernel
theorem dL_law_352 : decode cL_law 352 = .ok (.iconst 0, 1) := by decide +kernel
theorem dL_law_353 : decode cL_law 353 = .ok (.invokestatic 94, 3) := by decide +kernel
theorem dL_law_356 : decode cL_law 356 = .ok (.iconst 1, 1) := by decide +kernel
theorem dL_law_357 : decode cL_law 357 = .ok (.if_icmp .ne 7, 3) := by decide +kernel
theorem dL_law_360 : decode cL_law 360 = .ok (.iconst 1, 1) := by decide +kernel
theorem dL_law_361 : decode cL_law 361 = .ok (.goto 4, 3) := by decide +kernel
theorem dL_law_364 : decode cL_law 364 = .ok (.iconst 0, 1) := by decide +kernel
theorem dL_law_365 : decode cL_law 365 = .ok (.istore_n 2, 1) := by decide +kernel
theorem dL_law_366 : decode cL_law 366 = .ok (.goto 291, 3) := by decide +kernel
theorem dL_law_369 : decode cL_law 369 = .ok (.iload_n 2, 1) := by decide +kernel
theorem dL_law_370 : decode cL_law 370 = .ok (.ifCond .eq 70, 3) := by decide +kernel
theorem dL_law_373 : decode cL_law 373 = .ok (.iload 6, 2) := by decide +kernel
theorem dL_law_375 : decode cL_law 375 = .ok (.bipush 6, 2) := by decide +kernel
theorem dL_law_377 : decode cL_law 377 = .ok (.if_icmp .ge 63, 3) := by decide +kernel
theorem dL_law_380 : decode cL_law 380 = .ok (.iload 16, 2) := by decide +kernel
theorem dL_law_382 : decode cL_law 382 = .ok (.ifCond .eq 36, 3) := by decide +kernel
theorem dL_law_385 : decode cL_law 385 = .ok (.iload 13, 2) := by decide +kernel
theorem dL_law_387 : decode cL_law 387 = .ok (.ifCond .lt 27, 3) := by decide +kernel
theorem dL_law_390 : decode cL_law 390 = .ok (.aload_n 1, 1) := by decide +kernel
theorem dL_law_391 : decode cL_law 391 = .ok (.iconst 5, 1) := by decide +kernel
theorem dL_law_392 : decode cL_law 392 = .ok (.invokestatic 92, 3) := by decide +kernel
theorem dL_law_395 : decode cL_law 395 = .ok (.iload 13, 2) := by decide +kernel
theorem dL_law_397 : decode cL_law 397 = .ok (.if_icmp .ne 17, 3) := by decide +kernel
theorem dL_law_400 : decode cL_law 400 = .ok (.iload 15, 2) := by decide +kernel
theorem dL_law_402 : decode cL_law 402 = .ok (.aload_n 1, 1) := by decide +kernel
theorem dL_law_403 : decode cL_law 403 = .ok (.iconst 3, 1) := by decide +kernel
theorem dL_law_404 : decode cL_law 404 = .ok (.invokestatic 92, 3) := by decide +kernel
theorem dL_law_407 : decode cL_law 407 = .ok (.if_icmp .ne 7, 3) := by decide +kernel
theorem dL_law_410 : decode cL_law 410 = .ok (.iconst 1, 1) := by decide +kernel
theorem dL_law_411 : decode cL_law 411 = .ok (.goto 25, 3) := by decide +kernel
theorem dL_law_414 : decode cL_law 414 = .ok (.iconst 0, 1) := by decide +kernel
theorem dL_law_415 : decode cL_law 415 = .ok (.goto 21, 3) := by decide +kernel
theorem dL_law_418 : decode cL_law 418 = .ok (.iload 13, 2) := by decide +kernel
theorem dL_law_420 : decode cL_law 420 = .ok (.iconst (-1), 1) := by decide +kernel
theorem dL_law_421 : decode cL_law 421 = .ok (.if_icmp .eq 10, 3) := by decide +kernel
theorem dL_law_424 : decode cL_law 424 = .ok (.iload 13, 2) := by decide +kernel
theorem dL_law_426 : decode cL_law 426 = .ok (.ldc 17, 2) := by decide +kernel
theorem dL_law_428 : decode cL_law 428 = .ok (.if_icmp .ne 7, 3) := by decide +kernel
theorem dL_law_431 : decode cL_law 431 = .ok (.iconst 1, 1) := by decide +kernel
theorem dL_law_432 : decode cL_law 432 = .ok (.goto 4, 3) := by decide +kernel
theorem dL_law_435 : decode cL_law 435 = .ok (.iconst 0, 1) := by decide +kernel
theorem dL_law_436 : decode cL_law 436 = .ok (.istore_n 2, 1) := by decide +kernel
theorem dL_law_437 : decode cL_law 437 = .ok (.goto 220, 3) := by decide +kernel
theorem dL_law_440 : decode cL_law 440 = .ok (.iload_n 2, 1) := by decide +kernel
theorem dL_law_441 : decode cL_law 441 = .ok (.ifCond .eq 34, 3) := by decide +kernel
theorem dL_law_444 : decode cL_law 444 = .ok (.iload 6, 2) := by decide +kernel
theorem dL_law_446 : decode cL_law 446 = .ok (.bipush 6, 2) := by decide +kernel
theorem dL_law_448 : decode cL_law 448 = .ok (.if_icmp .ne 27, 3) := by decide +kernel
theorem dL_law_451 : decode cL_law 451 = .ok (.iload 16, 2) := by decide +kernel
theorem dL_law_453 : decode cL_law 453 = .ok (.ifCond .eq 13, 3) := by decide +kernel
theorem dL_law_456 : decode cL_law 456 = .ok (.iload 15, 2) := by decide +kernel
theorem dL_law_458 : decode cL_law 458 = .ok (.ifCond .eq 8, 3) := by decide +kernel
theorem dL_law_461 : decode cL_law 461 = .ok (.iload 14, 2) := by decide +kernel
theorem dL_law_463 : decode cL_law 463 = .ok (.ifCond .lt 7, 3) := by decide +kernel
theorem dL_law_466 : decode cL_law 466 = .ok (.iconst 1, 1) := by decide +kernel
theorem dL_law_467 : decode cL_law 467 = .ok (.goto 4, 3) := by decide +kernel
theorem dL_law_470 : decode cL_law 470 = .ok (.iconst 0, 1) := by decide +kernel
theorem dL_law_471 : decode cL_law 471 = .ok (.istore_n 2, 1) := by decide +kernel
theorem dL_law_472 : decode cL_law 472 = .ok (.goto 185, 3) := by decide +kernel
theorem dL_law_475 : decode cL_law 475 = .ok (.iload_n 2, 1) := by decide +kernel
theorem dL_law_476 : decode cL_law 476 = .ok (.ifCond .eq 126, 3) := by decide +kernel
theorem dL_law_479 : decode cL_law 479 = .ok (.iload 6, 2) := by decide +kernel
theorem dL_law_481 : decode cL_law 481 = .ok (.bipush 11, 2) := by decide +kernel
theorem dL_law_483 : decode cL_law 483 = .ok (.if_icmp .ge 119, 3) := by decide +kernel
theorem dL_law_486 : decode cL_law 486 = .ok (.iload 16, 2) := by decide +kernel
theorem dL_law_488 : decode cL_law 488 = .ok (.ifCond .eq 105, 3) := by decide +kernel
theorem dL_law_491 : decode cL_law 491 = .ok (.aload_n 1, 1) := by decide +kernel
theorem dL_law_492 : decode cL_law 492 = .ok (.bipush 9, 2) := by decide +kernel
theorem dL_law_494 : decode cL_law 494 = .ok (.invokestatic 92, 3) := by decide +kernel
theorem dL_law_497 : decode cL_law 497 = .ok (.iload 10, 2) := by decide +kernel
theorem dL_law_499 : decode cL_law 499 = .ok (.iconst 1, 1) := by decide +kernel
theorem dL_law_500 : decode cL_law 500 = .ok (.iadd, 1) := by decide +kernel
theorem dL_law_501 : decode cL_law 501 = .ok (.if_icmp .ne 96, 3) := by decide +kernel
theorem dL_law_504 : decode cL_law 504 = .ok (.aload_n 1, 1) := by decide +kernel
theorem dL_law_505 : decode cL_law 505 = .ok (.bipush 8, 2) := by decide +kernel
theorem dL_law_507 : decode cL_law 507 = .ok (.invokestatic 92, 3) := by decide +kernel
theorem dL_law_510 : decode cL_law 510 = .ok (.iconst 1, 1) := by decide +kernel
theorem dL_law_511 : decode cL_law 511 = .ok (.iload 11, 2) := by decide +kernel
theorem dL_law_513 : decode cL_law 513 = .ok (.isub, 1) := by decide +kernel
theorem dL_law_514 : decode cL_law 514 = .ok (.if_icmp .ne 83, 3) := by decide +kernel
theorem dL_law_517 : decode cL_law 517 = .ok (.aload_n 1, 1) := by decide +kernel
theorem dL_law_518 : decode cL_law 518 = .ok (.iconst 0, 1) := by decide +kernel
theorem dL_law_519 : decode cL_law 519 = .ok (.invokestatic 92, 3) := by decide +kernel
theorem dL_law_522 : decode cL_law 522 = .ok (.iload 8, 2) := by decide +kernel
theorem dL_law_524 : decode cL_law 524 = .ok (.if_icmp .ne 73, 3) := by decide +kernel
theorem dL_law_527 : decode cL_law 527 = .ok (.aload_n 1, 1) := by decide +kernel
theorem dL_law_528 : decode cL_law 528 = .ok (.iconst 1, 1) := by decide +kernel
theorem dL_law_529 : decode cL_law 529 = .ok (.invokestatic 92, 3) := by decide +kernel
theorem dL_law_532 : decode cL_law 532 = .ok (.iload 9, 2) := by decide +kernel
theorem dL_law_534 : decode cL_law 534 = .ok (.if_icmp .ge 63, 3) := by decide +kernel
theorem dL_law_537 : decode cL_law 537 = .ok (.iload 6, 2) := by decide +kernel
theorem dL_law_539 : decode cL_law 539 = .ok (.bipush 10, 2) := by decide +kernel
theorem dL_law_541 : decode cL_law 541 = .ok (.if_icmp .ge 19, 3) := by decide +kernel
theorem dL_law_544 : decode cL_law 544 = .ok (.iload 15, 2) := by decide +kernel
theorem dL_law_546 : decode cL_law 546 = .ok (.iload 9, 2) := by decide +kernel
theorem dL_law_548 : decode cL_law 548 = .ok (.aload_n 1, 1) := by decide +kernel
theorem dL_law_549 : decode cL_law 549 = .ok (.iconst 1, 1) := by decide +kernel
theorem dL_law_550 : decode cL_law 550 = .ok (.invokestatic 92, 3) := by decide +kernel
theorem dL_law_553 : decode cL_law 553 = .ok (.isub, 1) := by decide +kernel
theorem dL_law_554 : decode cL_law 554 = .ok (.if_icmp .ne 43, 3) := by decide +kernel
theorem dL_law_557 : decode cL_law 557 = .ok (.goto 36, 3) := by decide +kernel
theorem dL_law_560 : decode cL_law 560 = .ok (.iload 12, 2) := by decide +kernel
theorem dL_law_562 : decode cL_law 562 = .ok (.ifCond .lt 21, 3) := by decide +kernel
theorem dL_law_565 : decode cL_law 565 = .ok (.iload 15, 2) := by decide +kernel
theorem dL_law_567 : decode cL_law 567 = .ok (.iload 12, 2) := by decide +kernel
theorem dL_law_569 : decode cL_law 569 = .ok (.if_icmp .ne 28, 3) := by decide +kernel
theorem dL_law_572 : decode cL_law 572 = .ok (.aload_n 1, 1) := by decide +kernel
theorem dL_law_573 : decode cL_law 573 = .ok (.iconst 5, 1) := by decide +kernel
theorem dL_law_574 : decode cL_law 574 = .ok (.invokestatic 92, 3) := by decide +kernel
theorem dL_law_577 : decode cL_law 577 = .ok (.ifCond .ne 20, 3) := by decide +kernel
theorem dL_law_580 : decode cL_law 580 = .ok (.goto 13, 3) := by decide +kernel
theorem dL_law_583 : decode cL_law 583 = .ok (.aload_n 1, 1) := by decide +kernel
theorem dL_law_584 : decode cL_law 584 = .ok (.iload 15, 2) := by decide +kernel
theorem dL_law_586 : decode cL_law 586 = .ok (.iconst 0, 1) := by decide +kernel
theorem dL_law_587 : decode cL_law 587 = .ok (.invokestatic 94, 3) := by decide +kernel
theorem dL_law_590 : decode cL_law 590 = .ok (.ifCond .ne 7, 3) := by decide +kernel
theorem dL_law_593 : decode cL_law 593 = .ok (.iconst 1, 1) := by decide +kernel
theorem dL_law_594 : decode cL_law 594 = .ok (.goto 4, 3) := by decide +kernel
theorem dL_law_597 : decode cL_law 597 = .ok (.iconst 0, 1) := by decide +kernel
theorem dL_law_598 : decode cL_law 598 = .ok (.istore_n 2, 1) := by decide +kernel
theorem dL_law_599 : decode cL_law 599 = .ok (.goto 58, 3) := by decide +kernel
theorem dL_law_602 : decode cL_law 602 = .ok (.iload_n 2, 1) := by decide +kernel
theorem dL_law_603 : decode cL_law 603 = .ok (.ifCond .eq 54, 3) := by decide +kernel
theorem dL_law_606 : decode cL_law 606 = .ok (.iload 6, 2) := by decide +kernel
theorem dL_law_608 : decode cL_law 608 = .ok (.bipush 11, 2) := by decide +kernel
theorem dL_law_610 : decode cL_law 610 = .ok (.if_icmp .ne 47, 3) := by decide +kernel
theorem dL_law_613 : decode cL_law 613 = .ok (.iload 15, 2) := by decide +kernel
theorem dL_law_615 : decode cL_law 615 = .ok (.iload 8, 2) := by decide +kernel
theorem dL_law_617 : decode cL_law 617 = .ok (.iload 9, 2) := by decide +kernel
theorem dL_law_619 : decode cL_law 619 = .ok (.isub, 1) := by decide +kernel
theorem dL_law_620 : decode cL_law 620 = .ok (.if_icmp .ne 35, 3) := by decide +kernel
theorem dL_law_623 : decode cL_law 623 = .ok (.aload_n 1, 1) := by decide +kernel
theorem dL_law_624 : decode cL_law 624 = .ok (.iconst 1, 1) := by decide +kernel
theorem dL_law_625 : decode cL_law 625 = .ok (.invokestatic 92, 3) := by decide +kernel
theorem dL_law_628 : decode cL_law 628 = .ok (.iload 8, 2) := by decide +kernel
theorem dL_law_630 : decode cL_law 630 = .ok (.if_icmp .ne 25, 3) := by decide +kernel
theorem dL_law_633 : decode cL_law 633 = .ok (.aload_n 1, 1) := by decide +kernel
theorem dL_law_634 : decode cL_law 634 = .ok (.bipush 8, 2) := by decide +kernel
theorem dL_law_636 : decode cL_law 636 = .ok (.invokestatic 92, 3) := by decide +kernel
theorem dL_law_639 : decode cL_law 639 = .ok (.ifCond .ne 16, 3) := by decide +kernel
theorem dL_law_642 : decode cL_law 642 = .ok (.aload_n 1, 1) := by decide +kernel
theorem dL_law_643 : decode cL_law 643 = .ok (.bipush 9, 2) := by decide +kernel
theorem dL_law_645 : decode cL_law 645 = .ok (.invokestatic 92, 3) := by decide +kernel
theorem dL_law_648 : decode cL_law 648 = .ok (.ifCond .ne 7, 3) := by decide +kernel
theorem dL_law_651 : decode cL_law 651 = .ok (.iconst 1, 1) := by decide +kernel
theorem dL_law_652 : decode cL_law 652 = .ok (.goto 4, 3) := by decide +kernel
theorem dL_law_655 : decode cL_law 655 = .ok (.iconst 0, 1) := by decide +kernel
theorem dL_law_656 : decode cL_law 656 = .ok (.istore_n 2, 1) := by decide +kernel
theorem dL_law_657 : decode cL_law 657 = .ok (.iload_n 2, 1) := by decide +kernel
theorem dL_law_658 : decode cL_law 658 = .ok (.ifCond .eq 20, 3) := by decide +kernel
theorem dL_law_661 : decode cL_law 661 = .ok (.iload_n 3, 1) := by decide +kernel
theorem dL_law_662 : decode cL_law 662 = .ok (.iconst 2, 1) := by decide +kernel
theorem dL_law_663 : decode cL_law 663 = .ok (.irem, 1) := by decide +kernel
theorem dL_law_664 : decode cL_law 664 = .ok (.ifCond .gt 10, 3) := by decide +kernel
theorem dL_law_667 : decode cL_law 667 = .ok (.aload_n 1, 1) := by decide +kernel
theorem dL_law_668 : decode cL_law 668 = .ok (.invokestatic 124, 3) := by decide +kernel
theorem dL_law_671 : decode cL_law 671 = .ok (.ifCond .eq 7, 3) := by decide +kernel
theorem dL_law_674 : decode cL_law 674 = .ok (.iconst 1, 1) := by decide +kernel
theorem dL_law_675 : decode cL_law 675 = .ok (.goto 4, 3) := by decide +kernel
theorem dL_law_678 : decode cL_law 678 = .ok (.iconst 0, 1) := by decide +kernel
theorem dL_law_679 : decode cL_law 679 = .ok (.istore_n 2, 1) := by decide +kernel
theorem dL_law_680 : decode cL_law 680 = .ok (.iinc 3 1, 3) := by decide +kernel
theorem dL_law_683 : decode cL_law 683 = .ok (.goto (-593), 3) := by decide +kernel
theorem dL_law_686 : decode cL_law 686 = .ok (.iload_n 2, 1) := by decide +kernel
theorem dL_law_687 : decode cL_law 687 = .ok (.ifCond .eq 15, 3) := by decide +kernel
theorem dL_law_690 : decode cL_law 690 = .ok (.aload_n 1, 1) := by decide +kernel
theorem dL_law_691 : decode cL_law 691 = .ok (.iconst 5, 1) := by decide +kernel
theorem dL_law_692 : decode cL_law 692 = .ok (.invokestatic 92, 3) := by decide +kernel
theorem dL_law_695 : decode cL_law 695 = .ok (.ifCond .le 7, 3) := by decide +kernel
theorem dL_law_698 : decode cL_law 698 = .ok (.iconst 1, 1) := by decide +kernel
theorem dL_law_699 : decode cL_law 699 = .ok (.goto 4, 3) := by decide +kernel
theorem dL_law_702 : decode cL_law 702 = .ok (.iconst 0, 1) := by decide +kernel
theorem dL_law_703 : decode cL_law 703 = .ok (.istore_n 3, 1) := by decide +kernel
theorem dL_law_704 : decode cL_law 704 = .ok (.iload_n 2, 1) := by decide +kernel
theorem dL_law_705 : decode cL_law 705 = .ok (.ifCond .eq 12, 3) := by decide +kernel
theorem dL_law_708 : decode cL_law 708 = .ok (.aload_n 1, 1) := by decide +kernel
theorem dL_law_709 : decode cL_law 709 = .ok (.bipush 8, 2) := by decide +kernel
theorem dL_law_711 : decode cL_law 711 = .ok (.invokestatic 92, 3) := by decide +kernel
theorem dL_law_714 : decode cL_law 714 = .ok (.goto 4, 3) := by decide +kernel
theorem dL_law_717 : decode cL_law 717 = .ok (.iconst 0, 1) := by decide +kernel
theorem dL_law_718 : decode cL_law 718 = .ok (.istore 4, 2) := by decide +kernel
theorem dL_law_720 : decode cL_law 720 = .ok (.iconst 0, 1) := by decide +kernel
theorem dL_law_721 : decode cL_law 721 = .ok (.istore 5, 2) := by decide +kernel
theorem dL_law_723 : decode cL_law 723 = .ok (.iload 5, 2) := by decide +kernel
theorem dL_law_725 : decode cL_law 725 = .ok (.bipush 14, 2) := by decide +kernel
theorem dL_law_727 : decode cL_law 727 = .ok (.if_icmp .ge 138, 3) := by decide +kernel
theorem dL_law_730 : decode cL_law 730 = .ok (.iload_n 2, 1) := by decide +kernel
theorem dL_law_731 : decode cL_law 731 = .ok (.ifCond .eq 134, 3) := by decide +kernel
theorem dL_law_734 : decode cL_law 734 = .ok (.iload_n 3, 1) := by decide +kernel
theorem dL_law_735 : decode cL_law 735 = .ok (.ifCond .eq 130, 3) := by decide +kernel
theorem dL_law_738 : decode cL_law 738 = .ok (.aload_n 1, 1) := by decide +kernel
theorem dL_law_739 : decode cL_law 739 = .ok (.iconst 1, 1) := by decide +kernel
theorem dL_law_740 : decode cL_law 740 = .ok (.invokestatic 92, 3) := by decide +kernel
theorem dL_law_743 : decode cL_law 743 = .ok (.ifCond .le 122, 3) := by decide +kernel
theorem dL_law_746 : decode cL_law 746 = .ok (.aload_n 1, 1) := by decide +kernel
theorem dL_law_747 : decode cL_law 747 = .ok (.bipush 8, 2) := by decide +kernel
theorem dL_law_749 : decode cL_law 749 = .ok (.invokestatic 92, 3) := by decide +kernel
theorem dL_law_752 : decode cL_law 752 = .ok (.iload 4, 2) := by decide +kernel
theorem dL_law_754 : decode cL_law 754 = .ok (.if_icmp .ne 35, 3) := by decide +kernel
theorem dL_law_757 : decode cL_law 757 = .ok (.aload_n 1, 1) := by decide +kernel
theorem dL_law_758 : decode cL_law 758 = .ok (.iconst 5, 1) := by decide +kernel
theorem dL_law_759 : decode cL_law 759 = .ok (.invokestatic 92, 3) := by decide +kernel
theorem dL_law_762 : decode cL_law 762 = .ok (.ifCond .le 22, 3) := by decide +kernel
theorem dL_law_765 : decode cL_law 765 = .ok (.aload_n 1, 1) := by decide +kernel
theorem dL_law_766 : decode cL_law 766 = .ok (.invokestatic 82, 3) := by decide +kernel
theorem dL_law_769 : decode cL_law 769 = .ok (.ifCond .lt 15, 3) := by decide +kernel
theorem dL_law_772 : decode cL_law 772 = .ok (.aload_n 1, 1) := by decide +kernel
theorem dL_law_773 : decode cL_law 773 = .ok (.iconst 5, 1) := by decide +kernel
theorem dL_law_774 : decode cL_law 774 = .ok (.invokestatic 92, 3) := by decide +kernel
theorem dL_law_777 : decode cL_law 777 = .ok (.ifCond .ne 7, 3) := by decide +kernel
theorem dL_law_780 : decode cL_law 780 = .ok (.iconst 1, 1) := by decide +kernel
theorem dL_law_781 : decode cL_law 781 = .ok (.goto 4, 3) := by decide +kernel
theorem dL_law_784 : decode cL_law 784 = .ok (.iconst 0, 1) := by decide +kernel
theorem dL_law_785 : decode cL_law 785 = .ok (.istore_n 2, 1) := by decide +kernel
theorem dL_law_786 : decode cL_law 786 = .ok (.goto 73, 3) := by decide +kernel
theorem dL_law_789 : decode cL_law 789 = .ok (.aload_n 0, 1) := by decide +kernel
theorem dL_law_790 : decode cL_law 790 = .ok (.bipush 20, 2) := by decide +kernel
theorem dL_law_792 : decode cL_law 792 = .ok (.iload 5, 2) := by decide +kernel
theorem dL_law_794 : decode cL_law 794 = .ok (.iadd, 1) := by decide +kernel
theorem dL_law_795 : decode cL_law 795 = .ok (.invokestatic 128, 3) := by decide +kernel
theorem dL_law_798 : decode cL_law 798 = .ok (.aload_n 1, 1) := by decide +kernel
theorem dL_law_799 : decode cL_law 799 = .ok (.iconst 0, 1) := by decide +kernel
theorem dL_law_800 : decode cL_law 800 = .ok (.invokestatic 92, 3) := by decide +kernel
theorem dL_law_803 : decode cL_law 803 = .ok (.irem, 1) := by decide +kernel
theorem dL_law_804 : decode cL_law 804 = .ok (.istore 6, 2) := by decide +kernel
theorem dL_law_806 : decode cL_law 806 = .ok (.iconst 0, 1) := by decide +kernel
theorem dL_law_807 : decode cL_law 807 = .ok (.istore 7, 2) := by decide +kernel
theorem dL_law_809 : decode cL_law 809 = .ok (.iload 7, 2) := by decide +kernel
theorem dL_law_811 : decode cL_law 811 = .ok (.bipush 14, 2) := by decide +kernel
theorem dL_law_813 : decode cL_law 813 = .ok (.if_icmp .ge 31, 3) := by decide +kernel
theorem dL_law_816 : decode cL_law 816 = .ok (.aload_n 1, 1) := by decide +kernel
theorem dL_law_817 : decode cL_law 817 = .ok (.iload 6, 2) := by decide +kernel
theorem dL_law_819 : decode cL_law 819 = .ok (.iconst 0, 1) := by decide +kernel
theorem dL_law_820 : decode cL_law 820 = .ok (.invokestatic 94, 3) := by decide +kernel
theorem dL_law_823 : decode cL_law 823 = .ok (.ifCond .ne 21, 3) := by decide +kernel
theorem dL_law_826 : decode cL_law 826 = .ok (.iload 6, 2) := by decide +kernel
theorem dL_law_828 : decode cL_law 828 = .ok (.iconst 1, 1) := by decide +kernel
theorem dL_law_829 : decode cL_law 829 = .ok (.iadd, 1) := by decide +kernel
theorem dL_law_830 : decode cL_law 830 = .ok (.aload_n 1, 1) := by decide +kernel
theorem dL_law_831 : decode cL_law 831 = .ok (.iconst 0, 1) := by decide +kernel
theorem dL_law_832 : decode cL_law 832 = .ok (.invokestatic 92, 3) := by decide +kernel
theorem dL_law_835 : decode cL_law 835 = .ok (.irem, 1) := by decide +kernel
theorem dL_law_836 : decode cL_law 836 = .ok (.istore 6, 2) := by decide +kernel
theorem dL_law_838 : decode cL_law 838 = .ok (.iinc 7 1, 3) := by decide +kernel
theorem dL_law_841 : decode cL_law 841 = .ok (.goto (-32), 3) := by decide +kernel
theorem dL_law_844 : decode cL_law 844 = .ok (.aload_n 1, 1) := by decide +kernel
theorem dL_law_845 : decode cL_law 845 = .ok (.iload 6, 2) := by decide +kernel
theorem dL_law_847 : decode cL_law 847 = .ok (.invokestatic 80, 3) := by decide +kernel
theorem dL_law_850 : decode cL_law 850 = .ok (.ifCond .le 7, 3) := by decide +kernel
theorem dL_law_853 : decode cL_law 853 = .ok (.iconst 1, 1) := by decide +kernel
theorem dL_law_854 : decode cL_law 854 = .ok (.goto 4, 3) := by decide +kernel
theorem dL_law_857 : decode cL_law 857 = .ok (.iconst 0, 1) := by decide +kernel
theorem dL_law_858 : decode cL_law 858 = .ok (.istore_n 2, 1) := by decide +kernel
theorem dL_law_859 : decode cL_law 859 = .ok (.iinc 5 1, 3) := by decide +kernel
theorem dL_law_862 : decode cL_law 862 = .ok (.goto (-139), 3) := by decide +kernel
theorem dL_law_865 : decode cL_law 865 = .ok (.iload_n 2, 1) := by decide +kernel
theorem dL_law_866 : decode cL_law 866 = .ok (.ifCond .eq 30, 3) := by decide +kernel
theorem dL_law_869 : decode cL_law 869 = .ok (.iload_n 3, 1) := by decide +kernel
theorem dL_law_870 : decode cL_law 870 = .ok (.ifCond .eq 22, 3) := by decide +kernel
theorem dL_law_873 : decode cL_law 873 = .ok (.aload_n 1, 1) := by decide +kernel
theorem dL_law_874 : decode cL_law 874 = .ok (.iconst 1, 1) := by decide +kernel
theorem dL_law_875 : decode cL_law 875 = .ok (.invokestatic 92, 3) := by decide +kernel
theorem dL_law_878 : decode cL_law 878 = .ok (.ifCond .ne 18, 3) := by decide +kernel
theorem dL_law_881 : decode cL_law 881 = .ok (.aload_n 1, 1) := by decide +kernel
theorem dL_law_882 : decode cL_law 882 = .ok (.bipush 8, 2) := by decide +kernel
theorem dL_law_884 : decode cL_law 884 = .ok (.invokestatic 92, 3) := by decide +kernel
theorem dL_law_887 : decode cL_law 887 = .ok (.iload 4, 2) := by decide +kernel
theorem dL_law_889 : decode cL_law 889 = .ok (.if_icmp .eq 7, 3) := by decide +kernel
theorem dL_law_892 : decode cL_law 892 = .ok (.iconst 1, 1) := by decide +kernel
theorem dL_law_893 : decode cL_law 893 = .ok (.goto 4, 3) := by decide +kernel
theorem dL_law_896 : decode cL_law 896 = .ok (.iconst 0, 1) := by decide +kernel
theorem dL_law_897 : decode cL_law 897 = .ok (.istore_n 2, 1) := by decide +kernel
theorem dL_law_898 : decode cL_law 898 = .ok (.iload_n 2, 1) := by decide +kernel
theorem dL_law_899 : decode cL_law 899 = .ok (.ifCond .eq 113, 3) := by decide +kernel
theorem dL_law_902 : decode cL_law 902 = .ok (.aload_n 1, 1) := by decide +kernel
theorem dL_law_903 : decode cL_law 903 = .ok (.invokestatic 124, 3) := by decide +kernel
theorem dL_law_906 : decode cL_law 906 = .ok (.ifCond .eq 106, 3) := by decide +kernel
theorem dL_law_909 : decode cL_law 909 = .ok (.aload_n 1, 1) := by decide +kernel
theorem dL_law_910 : decode cL_law 910 = .ok (.bipush 14, 2) := by decide +kernel
theorem dL_law_912 : decode cL_law 912 = .ok (.invokestatic 70, 3) := by decide +kernel
theorem dL_law_915 : decode cL_law 915 = .ok (.ldc 17, 2) := by decide +kernel
theorem dL_law_917 : decode cL_law 917 = .ok (.if_icmp .ne 95, 3) := by decide +kernel
theorem dL_law_920 : decode cL_law 920 = .ok (.aload_n 1, 1) := by decide +kernel
theorem dL_law_921 : decode cL_law 921 = .ok (.iconst 0, 1) := by decide +kernel
theorem dL_law_922 : decode cL_law 922 = .ok (.bipush 14, 2) := by decide +kernel
theorem dL_law_924 : decode cL_law 924 = .ok (.invokestatic 75, 3) := by decide +kernel
theorem dL_law_927 : decode cL_law 927 = .ok (.ldc 17, 2) := by decide +kernel
theorem dL_law_929 : decode cL_law 929 = .ok (.if_icmp .ne 83, 3) := by decide +kernel
theorem dL_law_932 : decode cL_law 932 = .ok (.aload_n 1, 1) := by decide +kernel
theorem dL_law_933 : decode cL_law 933 = .ok (.iconst (-1), 1) := by decide +kernel
theorem dL_law_934 : decode cL_law 934 = .ok (.iconst 0, 1) := by decide +kernel
theorem dL_law_935 : decode cL_law 935 = .ok (.invokestatic 78, 3) := by decide +kernel
theorem dL_law_938 : decode cL_law 938 = .ok (.ldc 17, 2) := by decide +kernel
theorem dL_law_940 : decode cL_law 940 = .ok (.if_icmp .ne 72, 3) := by decide +kernel
theorem dL_law_943 : decode cL_law 943 = .ok (.aload_n 1, 1) := by decide +kernel
theorem dL_law_944 : decode cL_law 944 = .ok (.bipush 14, 2) := by decide +kernel
theorem dL_law_946 : decode cL_law 946 = .ok (.invokestatic 80, 3) := by decide +kernel
theorem dL_law_949 : decode cL_law 949 = .ok (.ldc 17, 2) := by decide +kernel
theorem dL_law_951 : decode cL_law 951 = .ok (.if_icmp .ne 61, 3) := by decide +kernel
theorem dL_law_954 : decode cL_law 954 = .ok (.aload_n 1, 1) := by decide +kernel
theorem dL_law_955 : decode cL_law 955 = .ok (.bipush 32, 2) := by decide +kernel
theorem dL_law_957 : decode cL_law 957 = .ok (.invokestatic 138, 3) := by decide +kernel
theorem dL_law_960 : decode cL_law 960 = .ok (.ldc 17, 2) := by decide +kernel
theorem dL_law_962 : decode cL_law 962 = .ok (.if_icmp .ne 50, 3) := by decide +kernel
theorem dL_law_965 : decode cL_law 965 = .ok (.aload_n 1, 1) := by decide +kernel
theorem dL_law_966 : decode cL_law 966 = .ok (.iconst 2, 1) := by decide +kernel
theorem dL_law_967 : decode cL_law 967 = .ok (.invokestatic 90, 3) := by decide +kernel
theorem dL_law_970 : decode cL_law 970 = .ok (.ldc 17, 2) := by decide +kernel
theorem dL_law_972 : decode cL_law 972 = .ok (.if_icmp .ne 40, 3) := by decide +kernel
theorem dL_law_975 : decode cL_law 975 = .ok (.aload_n 1, 1) := by decide +kernel
theorem dL_law_976 : decode cL_law 976 = .ok (.bipush 12, 2) := by decide +kernel
theorem dL_law_978 : decode cL_law 978 = .ok (.invokestatic 92, 3) := by decide +kernel
theorem dL_law_981 : decode cL_law 981 = .ok (.ldc 17, 2) := by decide +kernel
theorem dL_law_983 : decode cL_law 983 = .ok (.if_icmp .ne 29, 3) := by decide +kernel
theorem dL_law_986 : decode cL_law 986 = .ok (.aload_n 1, 1) := by decide +kernel
theorem dL_law_987 : decode cL_law 987 = .ok (.iconst (-1), 1) := by decide +kernel
theorem dL_law_988 : decode cL_law 988 = .ok (.invokestatic 102, 3) := by decide +kernel
theorem dL_law_991 : decode cL_law 991 = .ok (.ldc 17, 2) := by decide +kernel
theorem dL_law_993 : decode cL_law 993 = .ok (.if_icmp .ne 19, 3) := by decide +kernel
theorem dL_law_996 : decode cL_law 996 = .ok (.aload_n 1, 1) := by decide +kernel
theorem dL_law_997 : decode cL_law 997 = .ok (.bipush 14, 2) := by decide +kernel
theorem dL_law_999 : decode cL_law 999 = .ok (.iconst 0, 1) := by decide +kernel
theorem dL_law_1000 : decode cL_law 1000 = .ok (.invokestatic 132, 3) := by decide +kernel
theorem dL_law_1003 : decode cL_law 1003 = .ok (.ldc 17, 2) := by decide +kernel
theorem dL_law_1005 : decode cL_law 1005 = .ok (.if_icmp .ne 7, 3) := by decide +kernel
theorem dL_law_1008 : decode cL_law 1008 = .ok (.iconst 1, 1) := by decide +kernel
theorem dL_law_1009 : decode cL_law 1009 = .ok (.goto 4, 3) := by decide +kernel
theorem dL_law_1012 : decode cL_law 1012 = .ok (.iconst 0, 1) := by decide +kernel
theorem dL_law_1013 : decode cL_law 1013 = .ok (.ireturn, 1) := by decide +kernel
