theorem dL_law_0 : decode cL_law 0 = .ok (.new 13, 3) := by decide +kernel
theorem dL_law_3 : decode cL_law 3 = .ok (.dup, 1) := by decide +kernel
theorem dL_law_4 : decode cL_law 4 = .ok (.invokespecial 97, 3) := by decide +kernel
theorem dL_law_7 : decode cL_law 7 = .ok (.astore_n 1, 1) := by decide +kernel
theorem dL_law_8 : decode cL_law 8 = .ok (.aload_n 1, 1) := by decide +kernel
theorem dL_law_9 : decode cL_law 9 = .ok (.aload_n 0, 1) := by decide +kernel
theorem dL_law_10 : decode cL_law 10 = .ok (.invokestatic 98, 3) := by decide +kernel
theorem dL_law_13 : decode cL_law 13 = .ok (.iconst 0, 1) := by decide +kernel
theorem dL_law_14 : decode cL_law 14 = .ok (.istore_n 2, 1) := by decide +kernel
theorem dL_law_15 : decode cL_law 15 = .ok (.iload_n 2, 1) := by decide +kernel
theorem dL_law_16 : decode cL_law 16 = .ok (.iconst 4, 1) := by decide +kernel
theorem dL_law_17 : decode cL_law 17 = .ok (.if_icmp .ge 1684, 3) := by decide +kernel
theorem dL_law_20 : decode cL_law 20 = .ok (.aload_n 1, 1) := by decide +kernel
theorem dL_law_21 : decode cL_law 21 = .ok (.iconst 0, 1) := by decide +kernel
theorem dL_law_22 : decode cL_law 22 = .ok (.invokevirtual 54, 3) := by decide +kernel
theorem dL_law_25 : decode cL_law 25 = .ok (.istore_n 3, 1) := by decide +kernel
theorem dL_law_26 : decode cL_law 26 = .ok (.aload_n 1, 1) := by decide +kernel
theorem dL_law_27 : decode cL_law 27 = .ok (.iconst 3, 1) := by decide +kernel
theorem dL_law_28 : decode cL_law 28 = .ok (.invokevirtual 54, 3) := by decide +kernel
theorem dL_law_31 : decode cL_law 31 = .ok (.istore 4, 2) := by decide +kernel
theorem dL_law_33 : decode cL_law 33 = .ok (.iconst 0, 1) := by decide +kernel
theorem dL_law_34 : decode cL_law 34 = .ok (.istore 5, 2) := by decide +kernel
theorem dL_law_36 : decode cL_law 36 = .ok (.iconst 0, 1) := by decide +kernel
theorem dL_law_37 : decode cL_law 37 = .ok (.istore 6, 2) := by decide +kernel
theorem dL_law_39 : decode cL_law 39 = .ok (.iconst 0, 1) := by decide +kernel
theorem dL_law_40 : decode cL_law 40 = .ok (.istore 7, 2) := by decide +kernel
theorem dL_law_42 : decode cL_law 42 = .ok (.iconst 0, 1) := by decide +kernel
theorem dL_law_43 : decode cL_law 43 = .ok (.istore 8, 2) := by decide +kernel
theorem dL_law_45 : decode cL_law 45 = .ok (.iconst 0, 1) := by decide +kernel
theorem dL_law_46 : decode cL_law 46 = .ok (.istore 9, 2) := by decide +kernel
theorem dL_law_48 : decode cL_law 48 = .ok (.iconst 0, 1) := by decide +kernel
theorem dL_law_49 : decode cL_law 49 = .ok (.istore 10, 2) := by decide +kernel
theorem dL_law_51 : decode cL_law 51 = .ok (.aload_n 1, 1) := by decide +kernel
theorem dL_law_52 : decode cL_law 52 = .ok (.bipush 11, 2) := by decide +kernel
theorem dL_law_54 : decode cL_law 54 = .ok (.invokevirtual 54, 3) := by decide +kernel
theorem dL_law_57 : decode cL_law 57 = .ok (.istore 11, 2) := by decide +kernel
theorem dL_law_59 : decode cL_law 59 = .ok (.aload_n 1, 1) := by decide +kernel
theorem dL_law_60 : decode cL_law 60 = .ok (.iconst (-1), 1) := by decide +kernel
theorem dL_law_61 : decode cL_law 61 = .ok (.invokestatic 102, 3) := by decide +kernel
theorem dL_law_64 : decode cL_law 64 = .ok (.astore 12, 2) := by decide +kernel
theorem dL_law_66 : decode cL_law 66 = .ok (.bipush 8, 2) := by decide +kernel
theorem dL_law_68 : decode cL_law 68 = .ok (.newarray .int, 2) := by decide +kernel
theorem dL_law_70 : decode cL_law 70 = .ok (.astore 13, 2) := by decide +kernel
theorem dL_law_72 : decode cL_law 72 = .ok (.bipush 8, 2) := by decide +kernel
theorem dL_law_74 : decode cL_law 74 = .ok (.newarray .int, 2) := by decide +kernel
theorem dL_law_76 : decode cL_law 76 = .ok (.astore 14, 2) := by decide +kernel
theorem dL_law_78 : decode cL_law 78 = .ok (.bipush 8, 2) := by decide +kernel
theorem dL_law_80 : decode cL_law 80 = .ok (.newarray .int, 2) := by decide +kernel
theorem dL_law_82 : decode cL_law 82 = .ok (.astore 15, 2) := by decide +kernel
theorem dL_law_84 : decode cL_law 84 = .ok (.bipush 8, 2) := by decide +kernel
theorem dL_law_86 : decode cL_law 86 = .ok (.newarray .int, 2) := by decide +kernel
theorem dL_law_88 : decode cL_law 88 = .ok (.astore 16, 2) := by decide +kernel
theorem dL_law_90 : decode cL_law 90 = .ok (.bipush 8, 2) := by decide +kernel
theorem dL_law_92 : decode cL_law 92 = .ok (.newarray .int, 2) := by decide +kernel
theorem dL_law_94 : decode cL_law 94 = .ok (.astore 17, 2) := by decide +kernel
theorem dL_law_96 : decode cL_law 96 = .ok (.iconst 3, 1) := by decide +kernel
theorem dL_law_97 : decode cL_law 97 = .ok (.newarray .int, 2) := by decide +kernel
theorem dL_law_99 : decode cL_law 99 = .ok (.astore 18, 2) := by decide +kernel
theorem dL_law_101 : decode cL_law 101 = .ok (.bipush 24, 2) := by decide +kernel
theorem dL_law_103 : decode cL_law 103 = .ok (.newarray .int, 2) := by decide +kernel
theorem dL_law_105 : decode cL_law 105 = .ok (.astore 19, 2) := by decide +kernel
theorem dL_law_107 : decode cL_law 107 = .ok (.iconst 0, 1) := by decide +kernel
theorem dL_law_108 : decode cL_law 108 = .ok (.istore 20, 2) := by decide +kernel
theorem dL_law_110 : decode cL_law 110 = .ok (.iload 20, 2) := by decide +kernel
theorem dL_law_112 : decode cL_law 112 = .ok (.sipush 360, 3) := by decide +kernel
theorem dL_law_115 : decode cL_law 115 = .ok (.if_icmp .ge 55, 3) := by decide +kernel
theorem dL_law_118 : decode cL_law 118 = .ok (.aload 12, 2) := by decide +kernel
theorem dL_law_120 : decode cL_law 120 = .ok (.iload 20, 2) := by decide +kernel
theorem dL_law_122 : decode cL_law 122 = .ok (.invokestatic 106, 3) := by decide +kernel
theorem dL_law_125 : decode cL_law 125 = .ok (.istore 21, 2) := by decide +kernel
theorem dL_law_127 : decode cL_law 127 = .ok (.aload_n 1, 1) := by decide +kernel
theorem dL_law_128 : decode cL_law 128 = .ok (.iload 20, 2) := by decide +kernel
theorem dL_law_130 : decode cL_law 130 = .ok (.invokevirtual 109, 3) := by decide +kernel
theorem dL_law_133 : decode cL_law 133 = .ok (.iload 21, 2) := by decide +kernel
theorem dL_law_135 : decode cL_law 135 = .ok (.ifCond .ge 8, 3) := by decide +kernel
theorem dL_law_138 : decode cL_law 138 = .ok (.bipush (-15), 2) := by decide +kernel
theorem dL_law_140 : decode cL_law 140 = .ok (.goto 5, 3) := by decide +kernel
theorem dL_law_143 : decode cL_law 143 = .ok (.iload 21, 2) := by decide +kernel
theorem dL_law_145 : decode cL_law 145 = .ok (.if_icmp .eq 5, 3) := by decide +kernel
theorem dL_law_148 : decode cL_law 148 = .ok (.iconst 0, 1) := by decide +kernel
theorem dL_law_149 : decode cL_law 149 = .ok (.ireturn, 1) := by decide +kernel
theorem dL_law_150 : decode cL_law 150 = .ok (.iload 21, 2) := by decide +kernel
theorem dL_law_152 : decode cL_law 152 = .ok (.ifCond .lt 12, 3) := by decide +kernel
theorem dL_law_155 : decode cL_law 155 = .ok (.aload 13, 2) := by decide +kernel
theorem dL_law_157 : decode cL_law 157 = .ok (.iload 21, 2) := by decide +kernel
theorem dL_law_159 : decode cL_law 159 = .ok (.dup2, 1) := by decide +kernel
theorem dL_law_160 : decode cL_law 160 = .ok (.iaload, 1) := by decide +kernel
theorem dL_law_161 : decode cL_law 161 = .ok (.iconst 1, 1) := by decide +kernel
theorem dL_law_162 : decode cL_law 162 = .ok (.iadd, 1) := by decide +kernel
theorem dL_law_163 : decode cL_law 163 = .ok (.iastore, 1) := by decide +kernel
theorem dL_law_164 : decode cL_law 164 = .ok (.iinc 20 1, 3) := by decide +kernel
theorem dL_law_167 : decode cL_law 167 = .ok (.goto (-57), 3) := by decide +kernel
theorem dL_law_170 : decode cL_law 170 = .ok (.bipush 8, 2) := by decide +kernel
theorem dL_law_172 : decode cL_law 172 = .ok (.anewarray 20, 3) := by decide +kernel
theorem dL_law_175 : decode cL_law 175 = .ok (.astore 20, 2) := by decide +kernel
theorem dL_law_177 : decode cL_law 177 = .ok (.iconst 0, 1) := by decide +kernel
theorem dL_law_178 : decode cL_law 178 = .ok (.istore 21, 2) := by decide +kernel
theorem dL_law_180 : decode cL_law 180 = .ok (.iload 21, 2) := by decide +kernel
theorem dL_law_182 : decode cL_law 182 = .ok (.iload_n 3, 1) := by decide +kernel
theorem dL_law_183 : decode cL_law 183 = .ok (.if_icmp .ge 70, 3) := by decide +kernel
theorem dL_law_186 : decode cL_law 186 = .ok (.aload 20, 2) := by decide +kernel
theorem dL_law_188 : decode cL_law 188 = .ok (.iload 21, 2) := by decide +kernel
theorem dL_law_190 : decode cL_law 190 = .ok (.new 112, 3) := by decide +kernel
theorem dL_law_193 : decode cL_law 193 = .ok (.dup, 1) := by decide +kernel
theorem dL_law_194 : decode cL_law 194 = .ok (.invokespecial 114, 3) := by decide +kernel
theorem dL_law_197 : decode cL_law 197 = .ok (.iload 21, 2) := by decide +kernel
theorem dL_law_199 : decode cL_law 199 = .ok (.invokevirtual 115, 3) := by decide +kernel
theorem dL_law_202 : decode cL_law 202 = .ok (.ldc 118, 2) := by decide +kernel
theorem dL_law_204 : decode cL_law 204 = .ok (.invokevirtual 120, 3) := by decide +kernel
theorem dL_law_207 : decode cL_law 207 = .ok (.aload_n 1, 1) := by decide +kernel
theorem dL_law_208 : decode cL_law 208 = .ok (.iload 21, 2) := by decide +kernel
theorem dL_law_210 : decode cL_law 210 = .ok (.iconst 0, 1) := by decide +kernel
theorem dL_law_211 : decode cL_law 211 = .ok (.invokevirtual 81, 3) := by decide +kernel
theorem dL_law_214 : decode cL_law 214 = .ok (.invokevirtual 115, 3) := by decide +kernel
theorem dL_law_217 : decode cL_law 217 = .ok (.aload_n 1, 1) := by decide +kernel
theorem dL_law_218 : decode cL_law 218 = .ok (.iload 21, 2) := by decide +kernel
theorem dL_law_220 : decode cL_law 220 = .ok (.iconst 1, 1) := by decide +kernel
theorem dL_law_221 : decode cL_law 221 = .ok (.invokevirtual 81, 3) := by decide +kernel
theorem dL_law_224 : decode cL_law 224 = .ok (.iconst 1, 1) := by decide +kernel
theorem dL_law_225 : decode cL_law 225 = .ok (.if_icmp .ne 8, 3) := by decide +kernel
theorem dL_law_228 : decode cL_law 228 = .ok (.ldc 123, 2) := by decide +kernel
theorem dL_law_230 : decode cL_law 230 = .ok (.goto 5, 3) := by decide +kernel
theorem dL_law_233 : decode cL_law 233 = .ok (.ldc 125, 2) := by decide +kernel
theorem dL_law_235 : decode cL_law 235 = .ok (.invokevirtual 120, 3) := by decide +kernel
theorem dL_law_238 : decode cL_law 238 = .ok (.ldc 127, 2) := by decide +kernel
theorem dL_law_240 : decode cL_law 240 = .ok (.invokevirtual 120, 3) := by decide +kernel
theorem dL_law_243 : decode cL_law 243 = .ok (.invokevirtual 129, 3) := by decide +kernel
theorem dL_law_246 : decode cL_law 246 = .ok (.aastore, 1) := by decide +kernel
theorem dL_law_247 : decode cL_law 247 = .ok (.iinc 21 1, 3) := by decide +kernel
theorem dL_law_250 : decode cL_law 250 = .ok (.goto (-70), 3) := by decide +kernel
theorem dL_law_253 : decode cL_law 253 = .ok (.iconst 0, 1) := by decide +kernel
theorem dL_law_254 : decode cL_law 254 = .ok (.istore 21, 2) := by decide +kernel
theorem dL_law_256 : decode cL_law 256 = .ok (.iload 21, 2) := by decide +kernel
theorem dL_law_258 : decode cL_law 258 = .ok (.iload 4, 2) := by decide +kernel
theorem dL_law_260 : decode cL_law 260 = .ok (.if_icmp .ge 506, 3) := by decide +kernel
theorem dL_law_263 : decode cL_law 263 = .ok (.aload_n 1, 1) := by decide +kernel
theorem dL_law_264 : decode cL_law 264 = .ok (.iload 21, 2) := by decide +kernel
theorem dL_law_266 : decode cL_law 266 = .ok (.iconst 0, 1) := by decide +kernel
theorem dL_law_267 : decode cL_law 267 = .ok (.invokevirtual 84, 3) := by decide +kernel
theorem dL_law_270 : decode cL_law 270 = .ok (.istore 22, 2) := by decide +kernel
theorem dL_law_272 : decode cL_law 272 = .ok (.aload_n 1, 1) := by decide +kernel
theorem dL_law_273 : decode cL_law 273 = .ok (.iload 21, 2) := by decide +kernel
theorem dL_law_275 : decode cL_law 275 = .ok (.iconst 1, 1) := by decide +kernel
theorem dL_law_276 : decode cL_law 276 = .ok (.invokevirtual 84, 3) := by decide +kernel
theorem dL_law_279 : decode cL_law 279 = .ok (.istore 23, 2) := by decide +kernel
theorem dL_law_281 : decode cL_law 281 = .ok (.bipush 37, 2) := by decide +kernel
theorem dL_law_283 : decode cL_law 283 = .ok (.iload 22, 2) := by decide +kernel
theorem dL_law_285 : decode cL_law 285 = .ok (.imul, 1) := by decide +kernel
theorem dL_law_286 : decode cL_law 286 = .ok (.bipush 11, 2) := by decide +kernel
theorem dL_law_288 : decode cL_law 288 = .ok (.iadd, 1) := by decide +kernel
theorem dL_law_289 : decode cL_law 289 = .ok (.sipush 360, 3) := by decide +kernel
theorem dL_law_292 : decode cL_law 292 = .ok (.irem, 1) := by decide +kernel
theorem dL_law_293 : decode cL_law 293 = .ok (.istore 24, 2) := by decide +kernel
theorem dL_law_295 : decode cL_law 295 = .ok (.aload 12, 2) := by decide +kernel
theorem dL_law_297 : decode cL_law 297 = .ok (.iload 24, 2) := by decide +kernel
theorem dL_law_299 : decode cL_law 299 = .ok (.invokestatic 106, 3) := by decide +kernel
theorem dL_law_302 : decode cL_law 302 = .ok (.istore 25, 2) := by decide +kernel
theorem dL_law_304 : decode cL_law 304 = .ok (.iconst 0, 1) := by decide +kernel
theorem dL_law_305 : decode cL_law 305 = .ok (.istore 26, 2) := by decide +kernel
theorem dL_law_307 : decode cL_law 307 = .ok (.aload 19, 2) := by decide +kernel
theorem dL_law_309 : decode cL_law 309 = .ok (.iload 21, 2) := by decide +kernel
theorem dL_law_311 : decode cL_law 311 = .ok (.iconst (-1), 1) := by decide +kernel
theorem dL_law_312 : decode cL_law 312 = .ok (.iastore, 1) := by decide +kernel
theorem dL_law_313 : decode cL_law 313 = .ok (.iconst 0, 1) := by decide +kernel
theorem dL_law_314 : decode cL_law 314 = .ok (.istore 27, 2) := by decide +kernel
theorem dL_law_316 : decode cL_law 316 = .ok (.iload 27, 2) := by decide +kernel
theorem dL_law_318 : decode cL_law 318 = .ok (.sipush 360, 3) := by decide +kernel
theorem dL_law_321 : decode cL_law 321 = .ok (.if_icmp .ge 83, 3) := by decide +kernel
theorem dL_law_324 : decode cL_law 324 = .ok (.aload 19, 2) := by decide +kernel
theorem dL_law_326 : decode cL_law 326 = .ok (.iload 21, 2) := by decide +kernel
theorem dL_law_328 : decode cL_law 328 = .ok (.iaload, 1) := by decide +kernel
theorem dL_law_329 : decode cL_law 329 = .ok (.ifCond .ge 75, 3) := by decide +kernel
theorem dL_law_332 : decode cL_law 332 = .ok (.aload 12, 2) := by decide +kernel
theorem dL_law_334 : decode cL_law 334 = .ok (.iload 24, 2) := by decide +kernel
theorem dL_law_336 : decode cL_law 336 = .ok (.iload 27, 2) := by decide +kernel
theorem dL_law_338 : decode cL_law 338 = .ok (.iadd, 1) := by decide +kernel
theorem dL_law_339 : decode cL_law 339 = .ok (.sipush 360, 3) := by decide +kernel
theorem dL_law_342 : decode cL_law 342 = .ok (.irem, 1) := by decide +kernel
theorem dL_law_343 : decode cL_law 343 = .ok (.iaload, 1) := by decide +kernel
theorem dL_law_344 : decode cL_law 344 = .ok (.istore 28, 2) := by decide +kernel
theorem dL_law_346 : decode cL_law 346 = .ok (.iload 28, 2) := by decide +kernel
theorem dL_law_348 : decode cL_law 348 = .ok (.ifCond .ge 6, 3) := by decide +kernel
theorem dL_law_351 : decode cL_law 351 = .ok (.goto 47, 3) := by decide +kernel
theorem dL_law_354 : decode cL_law 354 = .ok (.aload 17, 2) := by decide +kernel
theorem dL_law_356 : decode cL_law 356 = .ok (.iload 28, 2) := by decide +kernel
theorem dL_law_358 : decode cL_law 358 = .ok (.iaload, 1) := by decide +kernel
theorem dL_law_359 : decode cL_law 359 = .ok (.iload 23, 2) := by decide +kernel
theorem dL_law_361 : decode cL_law 361 = .ok (.iadd, 1) := by decide +kernel
theorem dL_law_362 : decode cL_law 362 = .ok (.aload_n 1, 1) := by decide +kernel
theorem dL_law_363 : decode cL_law 363 = .ok (.iload 28, 2) := by decide +kernel
theorem dL_law_365 : decode cL_law 365 = .ok (.iconst 0, 1) := by decide +kernel
theorem dL_law_366 : decode cL_law 366 = .ok (.invokevirtual 81, 3) := by decide +kernel
theorem dL_law_369 : decode cL_law 369 = .ok (.iload 11, 2) := by decide +kernel
theorem dL_law_371 : decode cL_law 371 = .ok (.imul, 1) := by decide +kernel
theorem dL_law_372 : decode cL_law 372 = .ok (.if_icmp .gt 23, 3) := by decide +kernel
theorem dL_law_375 : decode cL_law 375 = .ok (.aload 19, 2) := by decide +kernel
theorem dL_law_377 : decode cL_law 377 = .ok (.iload 21, 2) := by decide +kernel
theorem dL_law_379 : decode cL_law 379 = .ok (.iload 28, 2) := by decide +kernel
theorem dL_law_381 : decode cL_law 381 = .ok (.iastore, 1) := by decide +kernel
theorem dL_law_382 : decode cL_law 382 = .ok (.aload 17, 2) := by decide +kernel
theorem dL_law_384 : decode cL_law 384 = .ok (.iload 28, 2) := by decide +kernel
theorem dL_law_386 : decode cL_law 386 = .ok (.dup2, 1) := by decide +kernel
theorem dL_law_387 : decode cL_law 387 = .ok (.iaload, 1) := by decide +kernel
theorem dL_law_388 : decode cL_law 388 = .ok (.iload 23, 2) := by decide +kernel
theorem dL_law_390 : decode cL_law 390 = .ok (.iadd, 1) := by decide +kernel
theorem dL_law_391 : decode cL_law 391 = .ok (.iastore, 1) := by decide +kernel
theorem dL_law_392 : decode cL_law 392 = .ok (.goto 6, 3) := by decide +kernel
theorem dL_law_395 : decode cL_law 395 = .ok (.iinc 26 1, 3) := by decide +kernel
theorem dL_law_398 : decode cL_law 398 = .ok (.iinc 27 1, 3) := by decide +kernel
theorem dL_law_401 : decode cL_law 401 = .ok (.goto (-85), 3) := by decide +kernel
theorem dL_law_404 : decode cL_law 404 = .ok (.aload 19, 2) := by decide +kernel
theorem dL_law_406 : decode cL_law 406 = .ok (.iload 21, 2) := by decide +kernel
theorem dL_law_408 : decode cL_law 408 = .ok (.iaload, 1) := by decide +kernel
theorem dL_law_409 : decode cL_law 409 = .ok (.istore 27, 2) := by decide +kernel
theorem dL_law_411 : decode cL_law 411 = .ok (.new 112, 3) := by decide +kernel
theorem dL_law_414 : decode cL_law 414 = .ok (.dup, 1) := by decide +kernel
theorem dL_law_415 : decode cL_law 415 = .ok (.invokespecial 114, 3) := by decide +kernel
theorem dL_law_418 : decode cL_law 418 = .ok (.iload 21, 2) := by decide +kernel
theorem dL_law_420 : decode cL_law 420 = .ok (.invokevirtual 115, 3) := by decide +kernel
theorem dL_law_423 : decode cL_law 423 = .ok (.ldc 133, 2) := by decide +kernel
theorem dL_law_425 : decode cL_law 425 = .ok (.invokevirtual 120, 3) := by decide +kernel
theorem dL_law_428 : decode cL_law 428 = .ok (.iload 22, 2) := by decide +kernel
theorem dL_law_430 : decode cL_law 430 = .ok (.invokevirtual 115, 3) := by decide +kernel
theorem dL_law_433 : decode cL_law 433 = .ok (.ldc 135, 2) := by decide +kernel
theorem dL_law_435 : decode cL_law 435 = .ok (.invokevirtual 120, 3) := by decide +kernel
theorem dL_law_438 : decode cL_law 438 = .ok (.iload 24, 2) := by decide +kernel
theorem dL_law_440 : decode cL_law 440 = .ok (.invokevirtual 115, 3) := by decide +kernel
theorem dL_law_443 : decode cL_law 443 = .ok (.ldc 137, 2) := by decide +kernel
theorem dL_law_445 : decode cL_law 445 = .ok (.invokevirtual 120, 3) := by decide +kernel
theorem dL_law_448 : decode cL_law 448 = .ok (.iload 23, 2) := by decide +kernel
theorem dL_law_450 : decode cL_law 450 = .ok (.invokevirtual 115, 3) := by decide +kernel
theorem dL_law_453 : decode cL_law 453 = .ok (.ldc 139, 2) := by decide +kernel
theorem dL_law_455 : decode cL_law 455 = .ok (.invokevirtual 120, 3) := by decide +kernel
theorem dL_law_458 : decode cL_law 458 = .ok (.iload 27, 2) := by decide +kernel
theorem dL_law_460 : decode cL_law 460 = .ok (.ifCond .ge 8, 3) := by decide +kernel
theorem dL_law_463 : decode cL_law 463 = .ok (.ldc 141, 2) := by decide +kernel
theorem dL_law_465 : decode cL_law 465 = .ok (.goto 23, 3) := by decide +kernel
theorem dL_law_468 : decode cL_law 468 = .ok (.new 112, 3) := by decide +kernel
theorem dL_law_471 : decode cL_law 471 = .ok (.dup, 1) := by decide +kernel
theorem dL_law_472 : decode cL_law 472 = .ok (.invokespecial 114, 3) := by decide +kernel
theorem dL_law_475 : decode cL_law 475 = .ok (.ldc 123, 2) := by decide +kernel
theorem dL_law_477 : decode cL_law 477 = .ok (.invokevirtual 120, 3) := by decide +kernel
theorem dL_law_480 : decode cL_law 480 = .ok (.iload 27, 2) := by decide +kernel
theorem dL_law_482 : decode cL_law 482 = .ok (.invokevirtual 115, 3) := by decide +kernel
theorem dL_law_485 : decode cL_law 485 = .ok (.invokevirtual 129, 3) := by decide +kernel
theorem dL_law_488 : decode cL_law 488 = .ok (.invokevirtual 120, 3) := by decide +kernel
theorem dL_law_491 : decode cL_law 491 = .ok (.invokevirtual 129, 3) := by decide +kernel
theorem dL_law_494 : decode cL_law 494 = .ok (.astore 28, 2) := by decide +kernel
theorem dL_law_496 : decode cL_law 496 = .ok (.aload_n 1, 1) := by decide +kernel
theorem dL_law_497 : decode cL_law 497 = .ok (.iload 21, 2) := by decide +kernel
theorem dL_law_499 : decode cL_law 499 = .ok (.iconst 2, 1) := by decide +kernel
theorem dL_law_500 : decode cL_law 500 = .ok (.invokevirtual 84, 3) := by decide +kernel
theorem dL_law_503 : decode cL_law 503 = .ok (.iload 24, 2) := by decide +kernel
theorem dL_law_505 : decode cL_law 505 = .ok (.if_icmp .ne 87, 3) := by decide +kernel
theorem dL_law_508 : decode cL_law 508 = .ok (.aload_n 1, 1) := by decide +kernel
theorem dL_law_509 : decode cL_law 509 = .ok (.iload 21, 2) := by decide +kernel
theorem dL_law_511 : decode cL_law 511 = .ok (.iconst 3, 1) := by decide +kernel
theorem dL_law_512 : decode cL_law 512 = .ok (.invokevirtual 84, 3) := by decide +kernel
theorem dL_law_515 : decode cL_law 515 = .ok (.iload 27, 2) := by decide +kernel
theorem dL_law_517 : decode cL_law 517 = .ok (.ifCond .ge 8, 3) := by decide +kernel
theorem dL_law_520 : decode cL_law 520 = .ok (.bipush (-15), 2) := by decide +kernel
theorem dL_law_522 : decode cL_law 522 = .ok (.goto 5, 3) := by decide +kernel
theorem dL_law_525 : decode cL_law 525 = .ok (.iload 27, 2) := by decide +kernel
theorem dL_law_527 : decode cL_law 527 = .ok (.if_icmp .ne 65, 3) := by decide +kernel
theorem dL_law_530 : decode cL_law 530 = .ok (.aload_n 1, 1) := by decide +kernel
theorem dL_law_531 : decode cL_law 531 = .ok (.iload 21, 2) := by decide +kernel
theorem dL_law_533 : decode cL_law 533 = .ok (.iconst 4, 1) := by decide +kernel
theorem dL_law_534 : decode cL_law 534 = .ok (.invokevirtual 84, 3) := by decide +kernel
theorem dL_law_537 : decode cL_law 537 = .ok (.iload 26, 2) := by decide +kernel
theorem dL_law_539 : decode cL_law 539 = .ok (.if_icmp .ne 53, 3) := by decide +kernel
theorem dL_law_542 : decode cL_law 542 = .ok (.aload_n 1, 1) := by decide +kernel
theorem dL_law_543 : decode cL_law 543 = .ok (.iload 21, 2) := by decide +kernel
theorem dL_law_545 : decode cL_law 545 = .ok (.invokevirtual 143, 3) := by decide +kernel
theorem dL_law_548 : decode cL_law 548 = .ok (.iload 25, 2) := by decide +kernel
theorem dL_law_550 : decode cL_law 550 = .ok (.ifCond .ge 8, 3) := by decide +kernel
theorem dL_law_553 : decode cL_law 553 = .ok (.bipush (-15), 2) := by decide +kernel
theorem dL_law_555 : decode cL_law 555 = .ok (.goto 5, 3) := by decide +kernel
theorem dL_law_558 : decode cL_law 558 = .ok (.iload 25, 2) := by decide +kernel
theorem dL_law_560 : decode cL_law 560 = .ok (.if_icmp .ne 32, 3) := by decide +kernel
theorem dL_law_563 : decode cL_law 563 = .ok (.aload_n 1, 1) := by decide +kernel
theorem dL_law_564 : decode cL_law 564 = .ok (.iload 21, 2) := by decide +kernel
theorem dL_law_566 : decode cL_law 566 = .ok (.invokevirtual 145, 3) := by decide +kernel
theorem dL_law_569 : decode cL_law 569 = .ok (.aload_n 1, 1) := by decide +kernel
theorem dL_law_570 : decode cL_law 570 = .ok (.iload 21, 2) := by decide +kernel
theorem dL_law_572 : decode cL_law 572 = .ok (.invokevirtual 143, 3) := by decide +kernel
theorem dL_law_575 : decode cL_law 575 = .ok (.if_icmp .ne 17, 3) := by decide +kernel
theorem dL_law_578 : decode cL_law 578 = .ok (.aload_n 1, 1) := by decide +kernel
theorem dL_law_579 : decode cL_law 579 = .ok (.iload 21, 2) := by decide +kernel
theorem dL_law_581 : decode cL_law 581 = .ok (.invokevirtual 148, 3) := by decide +kernel
