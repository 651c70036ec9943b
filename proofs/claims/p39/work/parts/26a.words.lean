theorem dL_law_8 : decode cL_law 8 = .ok (.iconst 1, 1) := by decide +kernel
theorem dL_law_9 : decode cL_law 9 = .ok (.aload_n 0, 1) := by decide +kernel
theorem dL_law_10 : decode cL_law 10 = .ok (.iconst 0, 1) := by decide +kernel
theorem dL_law_11 : decode cL_law 11 = .ok (.iconst 3, 1) := by decide +kernel
theorem dL_law_12 : decode cL_law 12 = .ok (.invokestatic 168, 3) := by decide +kernel
theorem dL_law_15 : decode cL_law 15 = .ok (.iadd, 1) := by decide +kernel
theorem dL_law_16 : decode cL_law 16 = .ok (.istore_n 2, 1) := by decide +kernel
theorem dL_law_17 : decode cL_law 17 = .ok (.iconst 1, 1) := by decide +kernel
theorem dL_law_18 : decode cL_law 18 = .ok (.aload_n 0, 1) := by decide +kernel
theorem dL_law_19 : decode cL_law 19 = .ok (.iconst 1, 1) := by decide +kernel
theorem dL_law_20 : decode cL_law 20 = .ok (.iconst 5, 1) := by decide +kernel
theorem dL_law_21 : decode cL_law 21 = .ok (.invokestatic 168, 3) := by decide +kernel
theorem dL_law_24 : decode cL_law 24 = .ok (.iadd, 1) := by decide +kernel
theorem dL_law_25 : decode cL_law 25 = .ok (.istore_n 3, 1) := by decide +kernel
theorem dL_law_26 : decode cL_law 26 = .ok (.iconst 0, 1) := by decide +kernel
theorem dL_law_27 : decode cL_law 27 = .ok (.istore 4, 2) := by decide +kernel
theorem dL_law_29 : decode cL_law 29 = .ok (.iconst 0, 1) := by decide +kernel
theorem dL_law_30 : decode cL_law 30 = .ok (.istore 5, 2) := by decide +kernel
theorem dL_law_32 : decode cL_law 32 = .ok (.iconst 0, 1) := by decide +kernel
theorem dL_law_33 : decode cL_law 33 = .ok (.istore 6, 2) := by decide +kernel
theorem dL_law_35 : decode cL_law 35 = .ok (.iconst 0, 1) := by decide +kernel
theorem dL_law_36 : decode cL_law 36 = .ok (.istore 7, 2) := by decide +kernel
theorem dL_law_38 : decode cL_law 38 = .ok (.bipush 6, 2) := by decide +kernel
theorem dL_law_40 : decode cL_law 40 = .ok (.newarray .int, 2) := by decide +kernel
theorem dL_law_42 : decode cL_law 42 = .ok (.astore 8, 2) := by decide +kernel
theorem dL_law_44 : decode cL_law 44 = .ok (.iconst 3, 1) := by decide +kernel
theorem dL_law_45 : decode cL_law 45 = .ok (.newarray .int, 2) := by decide +kernel
theorem dL_law_47 : decode cL_law 47 = .ok (.astore 9, 2) := by decide +kernel
theorem dL_law_49 : decode cL_law 49 = .ok (.iconst 0, 1) := by decide +kernel
theorem dL_law_50 : decode cL_law 50 = .ok (.istore 10, 2) := by decide +kernel
theorem dL_law_52 : decode cL_law 52 = .ok (.iload 10, 2) := by decide +kernel
theorem dL_law_54 : decode cL_law 54 = .ok (.iload_n 2, 1) := by decide +kernel
theorem dL_law_55 : decode cL_law 55 = .ok (.if_icmp .ge 20, 3) := by decide +kernel
theorem dL_law_58 : decode cL_law 58 = .ok (.aload_n 1, 1) := by decide +kernel
theorem dL_law_59 : decode cL_law 59 = .ok (.invokestatic 172, 3) := by decide +kernel
theorem dL_law_62 : decode cL_law 62 = .ok (.iload 10, 2) := by decide +kernel
theorem dL_law_64 : decode cL_law 64 = .ok (.if_icmp .eq 5, 3) := by decide +kernel
theorem dL_law_67 : decode cL_law 67 = .ok (.iconst 0, 1) := by decide +kernel
theorem dL_law_69 : decode cL_law 69 = .ok (.iinc 10 1, 3) := by decide +kernel
theorem dL_law_72 : decode cL_law 72 = .ok (.goto (-20), 3) := by decide +kernel
theorem dL_law_75 : decode cL_law 75 = .ok (.iconst 0, 1) := by decide +kernel
theorem dL_law_76 : decode cL_law 76 = .ok (.istore 10, 2) := by decide +kernel
theorem dL_law_78 : decode cL_law 78 = .ok (.iload 10, 2) := by decide +kernel
theorem dL_law_80 : decode cL_law 80 = .ok (.iload_n 3, 1) := by decide +kernel
theorem dL_law_81 : decode cL_law 81 = .ok (.if_icmp .ge 83, 3) := by decide +kernel
theorem dL_law_84 : decode cL_law 84 = .ok (.aload 8, 2) := by decide +kernel
theorem dL_law_86 : decode cL_law 86 = .ok (.iload 10, 2) := by decide +kernel
theorem dL_law_88 : decode cL_law 88 = .ok (.aload_n 0, 1) := by decide +kernel
theorem dL_law_89 : decode cL_law 89 = .ok (.iconst 2, 1) := by decide +kernel
theorem dL_law_90 : decode cL_law 90 = .ok (.iload 10, 2) := by decide +kernel
theorem dL_law_92 : decode cL_law 92 = .ok (.iadd, 1) := by decide +kernel
theorem dL_law_93 : decode cL_law 93 = .ok (.iload_n 2, 1) := by decide +kernel
theorem dL_law_94 : decode cL_law 94 = .ok (.invokestatic 168, 3) := by decide +kernel
theorem dL_law_97 : decode cL_law 97 = .ok (.iastore, 1) := by decide +kernel
theorem dL_law_98 : decode cL_law 98 = .ok (.aload 9, 2) := by decide +kernel
theorem dL_law_100 : decode cL_law 100 = .ok (.aload 8, 2) := by decide +kernel
theorem dL_law_102 : decode cL_law 102 = .ok (.iload 10, 2) := by decide +kernel
theorem dL_law_104 : decode cL_law 104 = .ok (.iaload, 1) := by decide +kernel
theorem dL_law_105 : decode cL_law 105 = .ok (.dup2, 1) := by decide +kernel
theorem dL_law_106 : decode cL_law 106 = .ok (.iaload, 1) := by decide +kernel
theorem dL_law_107 : decode cL_law 107 = .ok (.iconst 1, 1) := by decide +kernel
theorem dL_law_108 : decode cL_law 108 = .ok (.iadd, 1) := by decide +kernel
theorem dL_law_109 : decode cL_law 109 = .ok (.iastore, 1) := by decide +kernel
theorem dL_law_110 : decode cL_law 110 = .ok (.aload_n 1, 1) := by decide +kernel
theorem dL_law_111 : decode cL_law 111 = .ok (.aload 8, 2) := by decide +kernel
theorem dL_law_113 : decode cL_law 113 = .ok (.iload 10, 2) := by decide +kernel
theorem dL_law_115 : decode cL_law 115 = .ok (.iaload, 1) := by decide +kernel
theorem dL_law_116 : decode cL_law 116 = .ok (.aload_n 0, 1) := by decide +kernel
theorem dL_law_117 : decode cL_law 117 = .ok (.bipush 8, 2) := by decide +kernel
theorem dL_law_119 : decode cL_law 119 = .ok (.iload 10, 2) := by decide +kernel
theorem dL_law_121 : decode cL_law 121 = .ok (.iadd, 1) := by decide +kernel
theorem dL_law_122 : decode cL_law 122 = .ok (.iconst 3, 1) := by decide +kernel
theorem dL_law_123 : decode cL_law 123 = .ok (.invokestatic 168, 3) := by decide +kernel
theorem dL_law_126 : decode cL_law 126 = .ok (.aload_n 0, 1) := by decide +kernel
theorem dL_law_127 : decode cL_law 127 = .ok (.bipush 14, 2) := by decide +kernel
theorem dL_law_129 : decode cL_law 129 = .ok (.iload 10, 2) := by decide +kernel
theorem dL_law_131 : decode cL_law 131 = .ok (.iadd, 1) := by decide +kernel
theorem dL_law_132 : decode cL_law 132 = .ok (.iload_n 2, 1) := by decide +kernel
theorem dL_law_133 : decode cL_law 133 = .ok (.invokestatic 168, 3) := by decide +kernel
theorem dL_law_136 : decode cL_law 136 = .ok (.aload_n 0, 1) := by decide +kernel
theorem dL_law_137 : decode cL_law 137 = .ok (.bipush 20, 2) := by decide +kernel
theorem dL_law_139 : decode cL_law 139 = .ok (.iload 10, 2) := by decide +kernel
theorem dL_law_141 : decode cL_law 141 = .ok (.iadd, 1) := by decide +kernel
theorem dL_law_142 : decode cL_law 142 = .ok (.iload_n 2, 1) := by decide +kernel
theorem dL_law_143 : decode cL_law 143 = .ok (.invokestatic 168, 3) := by decide +kernel
theorem dL_law_146 : decode cL_law 146 = .ok (.bipush 7, 2) := by decide +kernel
theorem dL_law_148 : decode cL_law 148 = .ok (.invokestatic 146, 3) := by decide +kernel
theorem dL_law_151 : decode cL_law 151 = .ok (.iload 10, 2) := by decide +kernel
theorem dL_law_153 : decode cL_law 153 = .ok (.if_icmp .eq 5, 3) := by decide +kernel
theorem dL_law_156 : decode cL_law 156 = .ok (.iconst 0, 1) := by decide +kernel
theorem dL_law_158 : decode cL_law 158 = .ok (.iinc 10 1, 3) := by decide +kernel
theorem dL_law_161 : decode cL_law 161 = .ok (.goto (-83), 3) := by decide +kernel
theorem dL_law_164 : decode cL_law 164 = .ok (.iconst 0, 1) := by decide +kernel
theorem dL_law_165 : decode cL_law 165 = .ok (.istore 10, 2) := by decide +kernel
theorem dL_law_167 : decode cL_law 167 = .ok (.iload 10, 2) := by decide +kernel
theorem dL_law_169 : decode cL_law 169 = .ok (.iload_n 2, 1) := by decide +kernel
theorem dL_law_170 : decode cL_law 170 = .ok (.if_icmp .ge 22, 3) := by decide +kernel
theorem dL_law_173 : decode cL_law 173 = .ok (.aload_n 1, 1) := by decide +kernel
theorem dL_law_174 : decode cL_law 174 = .ok (.iload 10, 2) := by decide +kernel
theorem dL_law_176 : decode cL_law 176 = .ok (.invokestatic 142, 3) := by decide +kernel
theorem dL_law_179 : decode cL_law 179 = .ok (.iload 4, 2) := by decide +kernel
theorem dL_law_181 : decode cL_law 181 = .ok (.invokestatic 175, 3) := by decide +kernel
theorem dL_law_184 : decode cL_law 184 = .ok (.istore 4, 2) := by decide +kernel
theorem dL_law_186 : decode cL_law 186 = .ok (.iinc 10 1, 3) := by decide +kernel
theorem dL_law_189 : decode cL_law 189 = .ok (.goto (-22), 3) := by decide +kernel
theorem dL_law_192 : decode cL_law 192 = .ok (.iconst 0, 1) := by decide +kernel
theorem dL_law_193 : decode cL_law 193 = .ok (.istore 10, 2) := by decide +kernel
theorem dL_law_195 : decode cL_law 195 = .ok (.iload 10, 2) := by decide +kernel
theorem dL_law_197 : decode cL_law 197 = .ok (.iload_n 3, 1) := by decide +kernel
theorem dL_law_198 : decode cL_law 198 = .ok (.if_icmp .ge 22, 3) := by decide +kernel
theorem dL_law_201 : decode cL_law 201 = .ok (.aload_n 1, 1) := by decide +kernel
theorem dL_law_202 : decode cL_law 202 = .ok (.iload 10, 2) := by decide +kernel
theorem dL_law_204 : decode cL_law 204 = .ok (.invokestatic 178, 3) := by decide +kernel
theorem dL_law_207 : decode cL_law 207 = .ok (.iload 4, 2) := by decide +kernel
theorem dL_law_209 : decode cL_law 209 = .ok (.invokestatic 175, 3) := by decide +kernel
theorem dL_law_212 : decode cL_law 212 = .ok (.istore 4, 2) := by decide +kernel
theorem dL_law_214 : decode cL_law 214 = .ok (.iinc 10 1, 3) := by decide +kernel
theorem dL_law_217 : decode cL_law 217 = .ok (.goto (-22), 3) := by decide +kernel
theorem dL_law_220 : decode cL_law 220 = .ok (.iconst 0, 1) := by decide +kernel
theorem dL_law_221 : decode cL_law 221 = .ok (.istore 10, 2) := by decide +kernel
theorem dL_law_223 : decode cL_law 223 = .ok (.iload 10, 2) := by decide +kernel
theorem dL_law_225 : decode cL_law 225 = .ok (.iconst 3, 1) := by decide +kernel
theorem dL_law_226 : decode cL_law 226 = .ok (.if_icmp .ge 22, 3) := by decide +kernel
theorem dL_law_229 : decode cL_law 229 = .ok (.aload_n 1, 1) := by decide +kernel
theorem dL_law_230 : decode cL_law 230 = .ok (.iload 10, 2) := by decide +kernel
theorem dL_law_232 : decode cL_law 232 = .ok (.invokestatic 133, 3) := by decide +kernel
theorem dL_law_235 : decode cL_law 235 = .ok (.iload 4, 2) := by decide +kernel
theorem dL_law_237 : decode cL_law 237 = .ok (.invokestatic 175, 3) := by decide +kernel
theorem dL_law_240 : decode cL_law 240 = .ok (.istore 4, 2) := by decide +kernel
theorem dL_law_242 : decode cL_law 242 = .ok (.iinc 10 1, 3) := by decide +kernel
theorem dL_law_245 : decode cL_law 245 = .ok (.goto (-22), 3) := by decide +kernel
theorem dL_law_248 : decode cL_law 248 = .ok (.aload_n 1, 1) := by decide +kernel
theorem dL_law_249 : decode cL_law 249 = .ok (.iconst 0, 1) := by decide +kernel
theorem dL_law_250 : decode cL_law 250 = .ok (.invokestatic 130, 3) := by decide +kernel
theorem dL_law_253 : decode cL_law 253 = .ok (.iload 4, 2) := by decide +kernel
theorem dL_law_255 : decode cL_law 255 = .ok (.invokestatic 175, 3) := by decide +kernel
theorem dL_law_258 : decode cL_law 258 = .ok (.istore 4, 2) := by decide +kernel
theorem dL_law_260 : decode cL_law 260 = .ok (.iconst 0, 1) := by decide +kernel
theorem dL_law_261 : decode cL_law 261 = .ok (.istore 10, 2) := by decide +kernel
theorem dL_law_263 : decode cL_law 263 = .ok (.iload 10, 2) := by decide +kernel
theorem dL_law_265 : decode cL_law 265 = .ok (.iconst 5, 1) := by decide +kernel
theorem dL_law_266 : decode cL_law 266 = .ok (.if_icmp .ge 64, 3) := by decide +kernel
theorem dL_law_269 : decode cL_law 269 = .ok (.aload_n 1, 1) := by decide +kernel
theorem dL_law_270 : decode cL_law 270 = .ok (.aload_n 0, 1) := by decide +kernel
theorem dL_law_271 : decode cL_law 271 = .ok (.bipush 26, 2) := by decide +kernel
theorem dL_law_273 : decode cL_law 273 = .ok (.iload 10, 2) := by decide +kernel
theorem dL_law_275 : decode cL_law 275 = .ok (.iadd, 1) := by decide +kernel
theorem dL_law_276 : decode cL_law 276 = .ok (.iload_n 2, 1) := by decide +kernel
theorem dL_law_277 : decode cL_law 277 = .ok (.invokestatic 168, 3) := by decide +kernel
theorem dL_law_280 : decode cL_law 280 = .ok (.iload 10, 2) := by decide +kernel
theorem dL_law_282 : decode cL_law 282 = .ok (.iconst 2, 1) := by decide +kernel
theorem dL_law_283 : decode cL_law 283 = .ok (.if_icmp .ge 16, 3) := by decide +kernel
theorem dL_law_286 : decode cL_law 286 = .ok (.aload_n 0, 1) := by decide +kernel
theorem dL_law_287 : decode cL_law 287 = .ok (.bipush 31, 2) := by decide +kernel
theorem dL_law_289 : decode cL_law 289 = .ok (.iload 10, 2) := by decide +kernel
theorem dL_law_291 : decode cL_law 291 = .ok (.iadd, 1) := by decide +kernel
theorem dL_law_292 : decode cL_law 292 = .ok (.iload_n 2, 1) := by decide +kernel
theorem dL_law_293 : decode cL_law 293 = .ok (.invokestatic 168, 3) := by decide +kernel
theorem dL_law_296 : decode cL_law 296 = .ok (.goto 18, 3) := by decide +kernel
theorem dL_law_299 : decode cL_law 299 = .ok (.iload 4, 2) := by decide +kernel
theorem dL_law_301 : decode cL_law 301 = .ok (.iconst 1, 1) := by decide +kernel
theorem dL_law_302 : decode cL_law 302 = .ok (.isub, 1) := by decide +kernel
theorem dL_law_303 : decode cL_law 303 = .ok (.aload_n 0, 1) := by decide +kernel
theorem dL_law_304 : decode cL_law 304 = .ok (.bipush 36, 2) := by decide +kernel
theorem dL_law_306 : decode cL_law 306 = .ok (.iload 10, 2) := by decide +kernel
theorem dL_law_308 : decode cL_law 308 = .ok (.iadd, 1) := by decide +kernel
theorem dL_law_309 : decode cL_law 309 = .ok (.iconst 2, 1) := by decide +kernel
theorem dL_law_310 : decode cL_law 310 = .ok (.invokestatic 168, 3) := by decide +kernel
theorem dL_law_313 : decode cL_law 313 = .ok (.isub, 1) := by decide +kernel
theorem dL_law_314 : decode cL_law 314 = .ok (.invokestatic 140, 3) := by decide +kernel
theorem dL_law_317 : decode cL_law 317 = .ok (.iload 4, 2) := by decide +kernel
theorem dL_law_319 : decode cL_law 319 = .ok (.invokestatic 175, 3) := by decide +kernel
theorem dL_law_322 : decode cL_law 322 = .ok (.istore 4, 2) := by decide +kernel
theorem dL_law_324 : decode cL_law 324 = .ok (.iinc 10 1, 3) := by decide +kernel
theorem dL_law_327 : decode cL_law 327 = .ok (.goto (-64), 3) := by decide +kernel
theorem dL_law_330 : decode cL_law 330 = .ok (.bipush 60, 2) := by decide +kernel
theorem dL_law_332 : decode cL_law 332 = .ok (.newarray .int, 2) := by decide +kernel
theorem dL_law_334 : decode cL_law 334 = .ok (.astore 10, 2) := by decide +kernel
theorem dL_law_336 : decode cL_law 336 = .ok (.lconst 0, 1) := by decide +kernel
theorem dL_law_337 : decode cL_law 337 = .ok (.lstore 11, 2) := by decide +kernel
theorem dL_law_339 : decode cL_law 339 = .ok (.iconst 0, 1) := by decide +kernel
theorem dL_law_340 : decode cL_law 340 = .ok (.istore 13, 2) := by decide +kernel
theorem dL_law_342 : decode cL_law 342 = .ok (.iload 13, 2) := by decide +kernel
theorem dL_law_344 : decode cL_law 344 = .ok (.bipush 36, 2) := by decide +kernel
theorem dL_law_346 : decode cL_law 346 = .ok (.if_icmp .ge 1191, 3) := by decide +kernel
theorem dL_law_349 : decode cL_law 349 = .ok (.bipush 42, 2) := by decide +kernel
theorem dL_law_351 : decode cL_law 351 = .ok (.iconst 5, 1) := by decide +kernel
theorem dL_law_352 : decode cL_law 352 = .ok (.iload 13, 2) := by decide +kernel
theorem dL_law_354 : decode cL_law 354 = .ok (.imul, 1) := by decide +kernel
theorem dL_law_355 : decode cL_law 355 = .ok (.iadd, 1) := by decide +kernel
theorem dL_law_356 : decode cL_law 356 = .ok (.istore 14, 2) := by decide +kernel
theorem dL_law_358 : decode cL_law 358 = .ok (.aload_n 0, 1) := by decide +kernel
theorem dL_law_359 : decode cL_law 359 = .ok (.iload 14, 2) := by decide +kernel
theorem dL_law_361 : decode cL_law 361 = .ok (.iload 4, 2) := by decide +kernel
theorem dL_law_363 : decode cL_law 363 = .ok (.invokestatic 168, 3) := by decide +kernel
theorem dL_law_366 : decode cL_law 366 = .ok (.istore 15, 2) := by decide +kernel
theorem dL_law_368 : decode cL_law 368 = .ok (.aload_n 0, 1) := by decide +kernel
theorem dL_law_369 : decode cL_law 369 = .ok (.iload 14, 2) := by decide +kernel
theorem dL_law_371 : decode cL_law 371 = .ok (.iconst 1, 1) := by decide +kernel
theorem dL_law_372 : decode cL_law 372 = .ok (.iadd, 1) := by decide +kernel
theorem dL_law_373 : decode cL_law 373 = .ok (.iload 4, 2) := by decide +kernel
theorem dL_law_375 : decode cL_law 375 = .ok (.invokestatic 168, 3) := by decide +kernel
theorem dL_law_378 : decode cL_law 378 = .ok (.istore 16, 2) := by decide +kernel
theorem dL_law_380 : decode cL_law 380 = .ok (.aload_n 0, 1) := by decide +kernel
theorem dL_law_381 : decode cL_law 381 = .ok (.iload 14, 2) := by decide +kernel
theorem dL_law_383 : decode cL_law 383 = .ok (.iconst 2, 1) := by decide +kernel
theorem dL_law_384 : decode cL_law 384 = .ok (.iadd, 1) := by decide +kernel
theorem dL_law_385 : decode cL_law 385 = .ok (.iload 5, 2) := by decide +kernel
theorem dL_law_387 : decode cL_law 387 = .ok (.iconst 1, 1) := by decide +kernel
theorem dL_law_388 : decode cL_law 388 = .ok (.iadd, 1) := by decide +kernel
theorem dL_law_389 : decode cL_law 389 = .ok (.invokestatic 168, 3) := by decide +kernel
theorem dL_law_392 : decode cL_law 392 = .ok (.istore 17, 2) := by decide +kernel
theorem dL_law_394 : decode cL_law 394 = .ok (.aload_n 0, 1) := by decide +kernel
theorem dL_law_395 : decode cL_law 395 = .ok (.iload 14, 2) := by decide +kernel
theorem dL_law_397 : decode cL_law 397 = .ok (.iconst 3, 1) := by decide +kernel
theorem dL_law_398 : decode cL_law 398 = .ok (.iadd, 1) := by decide +kernel
theorem dL_law_399 : decode cL_law 399 = .ok (.bipush 14, 2) := by decide +kernel
theorem dL_law_401 : decode cL_law 401 = .ok (.invokestatic 168, 3) := by decide +kernel
theorem dL_law_404 : decode cL_law 404 = .ok (.istore 18, 2) := by decide +kernel
theorem dL_law_406 : decode cL_law 406 = .ok (.iconst 1, 1) := by decide +kernel
theorem dL_law_407 : decode cL_law 407 = .ok (.aload_n 1, 1) := by decide +kernel
theorem dL_law_408 : decode cL_law 408 = .ok (.iload 15, 2) := by decide +kernel
theorem dL_law_410 : decode cL_law 410 = .ok (.invokevirtual 61, 3) := by decide +kernel
theorem dL_law_413 : decode cL_law 413 = .ok (.iadd, 1) := by decide +kernel
theorem dL_law_414 : decode cL_law 414 = .ok (.aload_n 1, 1) := by decide +kernel
theorem dL_law_415 : decode cL_law 415 = .ok (.iload 16, 2) := by decide +kernel
theorem dL_law_417 : decode cL_law 417 = .ok (.invokevirtual 61, 3) := by decide +kernel
theorem dL_law_420 : decode cL_law 420 = .ok (.iadd, 1) := by decide +kernel
theorem dL_law_421 : decode cL_law 421 = .ok (.istore 19, 2) := by decide +kernel
theorem dL_law_423 : decode cL_law 423 = .ok (.iload 18, 2) := by decide +kernel
theorem dL_law_425 : decode cL_law 425 = .ok (.bipush 6, 2) := by decide +kernel
theorem dL_law_427 : decode cL_law 427 = .ok (.if_icmp .ge 234, 3) := by decide +kernel
theorem dL_law_430 : decode cL_law 430 = .ok (.iload 18, 2) := by decide +kernel
theorem dL_law_432 : decode cL_law 432 = .ok (.iconst 3, 1) := by decide +kernel
theorem dL_law_433 : decode cL_law 433 = .ok (.if_icmp .ge 14, 3) := by decide +kernel
theorem dL_law_436 : decode cL_law 436 = .ok (.aload_n 1, 1) := by decide +kernel
theorem dL_law_437 : decode cL_law 437 = .ok (.iload 15, 2) := by decide +kernel
theorem dL_law_439 : decode cL_law 439 = .ok (.iload 16, 2) := by decide +kernel
theorem dL_law_441 : decode cL_law 441 = .ok (.invokestatic 135, 3) := by decide +kernel
theorem dL_law_444 : decode cL_law 444 = .ok (.goto 28, 3) := by decide +kernel
theorem dL_law_447 : decode cL_law 447 = .ok (.iload 18, 2) := by decide +kernel
theorem dL_law_449 : decode cL_law 449 = .ok (.iconst 5, 1) := by decide +kernel
theorem dL_law_450 : decode cL_law 450 = .ok (.if_icmp .ge 14, 3) := by decide +kernel
theorem dL_law_453 : decode cL_law 453 = .ok (.aload_n 1, 1) := by decide +kernel
theorem dL_law_454 : decode cL_law 454 = .ok (.iload 15, 2) := by decide +kernel
theorem dL_law_456 : decode cL_law 456 = .ok (.iload 16, 2) := by decide +kernel
theorem dL_law_458 : decode cL_law 458 = .ok (.invokestatic 138, 3) := by decide +kernel
theorem dL_law_461 : decode cL_law 461 = .ok (.goto 11, 3) := by decide +kernel
theorem dL_law_464 : decode cL_law 464 = .ok (.aload_n 1, 1) := by decide +kernel
theorem dL_law_465 : decode cL_law 465 = .ok (.iload 15, 2) := by decide +kernel
theorem dL_law_467 : decode cL_law 467 = .ok (.iload 16, 2) := by decide +kernel
theorem dL_law_469 : decode cL_law 469 = .ok (.invokestatic 140, 3) := by decide +kernel
theorem dL_law_472 : decode cL_law 472 = .ok (.istore 20, 2) := by decide +kernel
theorem dL_law_474 : decode cL_law 474 = .ok (.aload_n 1, 1) := by decide +kernel
theorem dL_law_475 : decode cL_law 475 = .ok (.iload 15, 2) := by decide +kernel
theorem dL_law_477 : decode cL_law 477 = .ok (.invokevirtual 64, 3) := by decide +kernel
theorem dL_law_480 : decode cL_law 480 = .ok (.istore 21, 2) := by decide +kernel
theorem dL_law_482 : decode cL_law 482 = .ok (.aload_n 1, 1) := by decide +kernel
theorem dL_law_483 : decode cL_law 483 = .ok (.iload 16, 2) := by decide +kernel
theorem dL_law_485 : decode cL_law 485 = .ok (.invokevirtual 64, 3) := by decide +kernel
theorem dL_law_488 : decode cL_law 488 = .ok (.istore 22, 2) := by decide +kernel
theorem dL_law_490 : decode cL_law 490 = .ok (.iload 20, 2) := by decide +kernel
theorem dL_law_492 : decode cL_law 492 = .ok (.iload 19, 2) := by decide +kernel
theorem dL_law_494 : decode cL_law 494 = .ok (.bipush 30, 2) := by decide +kernel
theorem dL_law_496 : decode cL_law 496 = .ok (.if_icmp .gt 11, 3) := by decide +kernel
theorem dL_law_499 : decode cL_law 499 = .ok (.iload 4, 2) := by decide +kernel
theorem dL_law_501 : decode cL_law 501 = .ok (.sipush 250, 3) := by decide +kernel
theorem dL_law_504 : decode cL_law 504 = .ok (.if_icmp .ne 8, 3) := by decide +kernel
theorem dL_law_507 : decode cL_law 507 = .ok (.ldc 24, 2) := by decide +kernel
theorem dL_law_509 : decode cL_law 509 = .ok (.goto 5, 3) := by decide +kernel
theorem dL_law_512 : decode cL_law 512 = .ok (.iload 4, 2) := by decide +kernel
theorem dL_law_514 : decode cL_law 514 = .ok (.if_icmp .eq 5, 3) := by decide +kernel
theorem dL_law_517 : decode cL_law 517 = .ok (.iconst 0, 1) := by decide +kernel
theorem dL_law_519 : decode cL_law 519 = .ok (.iload 20, 2) := by decide +kernel
theorem dL_law_521 : decode cL_law 521 = .ok (.ifCond .lt 88, 3) := by decide +kernel
theorem dL_law_524 : decode cL_law 524 = .ok (.aload_n 1, 1) := by decide +kernel
theorem dL_law_525 : decode cL_law 525 = .ok (.iload 20, 2) := by decide +kernel
theorem dL_law_527 : decode cL_law 527 = .ok (.invokevirtual 61, 3) := by decide +kernel
theorem dL_law_530 : decode cL_law 530 = .ok (.iload 19, 2) := by decide +kernel
theorem dL_law_532 : decode cL_law 532 = .ok (.if_icmp .ne 75, 3) := by decide +kernel
theorem dL_law_535 : decode cL_law 535 = .ok (.aload_n 1, 1) := by decide +kernel
theorem dL_law_536 : decode cL_law 536 = .ok (.iload 20, 2) := by decide +kernel
theorem dL_law_538 : decode cL_law 538 = .ok (.invokevirtual 64, 3) := by decide +kernel
theorem dL_law_541 : decode cL_law 541 = .ok (.iload 18, 2) := by decide +kernel
theorem dL_law_543 : decode cL_law 543 = .ok (.iconst 3, 1) := by decide +kernel
theorem dL_law_544 : decode cL_law 544 = .ok (.if_icmp .ge 20, 3) := by decide +kernel
theorem dL_law_547 : decode cL_law 547 = .ok (.bipush 29, 2) := by decide +kernel
theorem dL_law_549 : decode cL_law 549 = .ok (.iload 21, 2) := by decide +kernel
theorem dL_law_551 : decode cL_law 551 = .ok (.imul, 1) := by decide +kernel
theorem dL_law_552 : decode cL_law 552 = .ok (.bipush 31, 2) := by decide +kernel
theorem dL_law_554 : decode cL_law 554 = .ok (.iload 22, 2) := by decide +kernel
theorem dL_law_556 : decode cL_law 556 = .ok (.imul, 1) := by decide +kernel
theorem dL_law_557 : decode cL_law 557 = .ok (.iadd, 1) := by decide +kernel
theorem dL_law_558 : decode cL_law 558 = .ok (.bipush 37, 2) := by decide +kernel
theorem dL_law_560 : decode cL_law 560 = .ok (.iadd, 1) := by decide +kernel
theorem dL_law_561 : decode cL_law 561 = .ok (.goto 40, 3) := by decide +kernel
theorem dL_law_564 : decode cL_law 564 = .ok (.iload 18, 2) := by decide +kernel
theorem dL_law_566 : decode cL_law 566 = .ok (.iconst 5, 1) := by decide +kernel
theorem dL_law_567 : decode cL_law 567 = .ok (.if_icmp .ge 20, 3) := by decide +kernel
theorem dL_law_570 : decode cL_law 570 = .ok (.bipush 11, 2) := by decide +kernel
theorem dL_law_572 : decode cL_law 572 = .ok (.iload 21, 2) := by decide +kernel
theorem dL_law_574 : decode cL_law 574 = .ok (.imul, 1) := by decide +kernel
theorem dL_law_575 : decode cL_law 575 = .ok (.bipush 19, 2) := by decide +kernel
theorem dL_law_577 : decode cL_law 577 = .ok (.iload 22, 2) := by decide +kernel
theorem dL_law_579 : decode cL_law 579 = .ok (.imul, 1) := by decide +kernel
theorem dL_law_580 : decode cL_law 580 = .ok (.iadd, 1) := by decide +kernel
theorem dL_law_581 : decode cL_law 581 = .ok (.bipush 23, 2) := by decide +kernel
theorem dL_law_583 : decode cL_law 583 = .ok (.iadd, 1) := by decide +kernel
theorem dL_law_584 : decode cL_law 584 = .ok (.goto 17, 3) := by decide +kernel
theorem dL_law_587 : decode cL_law 587 = .ok (.bipush 7, 2) := by decide +kernel
theorem dL_law_589 : decode cL_law 589 = .ok (.iload 21, 2) := by decide +kernel
theorem dL_law_591 : decode cL_law 591 = .ok (.imul, 1) := by decide +kernel
theorem dL_law_592 : decode cL_law 592 = .ok (.bipush 13, 2) := by decide +kernel
theorem dL_law_594 : decode cL_law 594 = .ok (.iload 22, 2) := by decide +kernel
theorem dL_law_596 : decode cL_law 596 = .ok (.imul, 1) := by decide +kernel
theorem dL_law_597 : decode cL_law 597 = .ok (.iadd, 1) := by decide +kernel
theorem dL_law_598 : decode cL_law 598 = .ok (.bipush 17, 2) := by decide +kernel
theorem dL_law_600 : decode cL_law 600 = .ok (.iadd, 1) := by decide +kernel
theorem dL_law_601 : decode cL_law 601 = .ok (.ldc 180, 2) := by decide +kernel
theorem dL_law_603 : decode cL_law 603 = .ok (.irem, 1) := by decide +kernel
theorem dL_law_604 : decode cL_law 604 = .ok (.if_icmp .eq 5, 3) := by decide +kernel
theorem dL_law_607 : decode cL_law 607 = .ok (.iconst 0, 1) := by decide +kernel
theorem dL_law_609 : decode cL_law 609 = .ok (.iload 20, 2) := by decide +kernel
theorem dL_law_611 : decode cL_law 611 = .ok (.iload 4, 2) := by decide +kernel
theorem dL_law_613 : decode cL_law 613 = .ok (.invokestatic 175, 3) := by decide +kernel
theorem dL_law_616 : decode cL_law 616 = .ok (.istore 4, 2) := by decide +kernel
theorem dL_law_618 : decode cL_law 618 = .ok (.iload 20, 2) := by decide +kernel
theorem dL_law_620 : decode cL_law 620 = .ok (.ifCond .lt 38, 3) := by decide +kernel
theorem dL_law_623 : decode cL_law 623 = .ok (.iload 18, 2) := by decide +kernel
theorem dL_law_625 : decode cL_law 625 = .ok (.iconst 3, 1) := by decide +kernel
theorem dL_law_626 : decode cL_law 626 = .ok (.if_icmp .ge 32, 3) := by decide +kernel
theorem dL_law_629 : decode cL_law 629 = .ok (.aload_n 1, 1) := by decide +kernel
theorem dL_law_630 : decode cL_law 630 = .ok (.iload 20, 2) := by decide +kernel
theorem dL_law_632 : decode cL_law 632 = .ok (.invokestatic 181, 3) := by decide +kernel
theorem dL_law_635 : decode cL_law 635 = .ok (.ifCond .lt 23, 3) := by decide +kernel
theorem dL_law_638 : decode cL_law 638 = .ok (.aload_n 1, 1) := by decide +kernel
theorem dL_law_639 : decode cL_law 639 = .ok (.iload 15, 2) := by decide +kernel
theorem dL_law_641 : decode cL_law 641 = .ok (.invokestatic 181, 3) := by decide +kernel
theorem dL_law_644 : decode cL_law 644 = .ok (.ifCond .lt 12, 3) := by decide +kernel
theorem dL_law_647 : decode cL_law 647 = .ok (.aload_n 1, 1) := by decide +kernel
theorem dL_law_648 : decode cL_law 648 = .ok (.iload 16, 2) := by decide +kernel
theorem dL_law_650 : decode cL_law 650 = .ok (.invokestatic 181, 3) := by decide +kernel
theorem dL_law_653 : decode cL_law 653 = .ok (.ifCond .ge 5, 3) := by decide +kernel
theorem dL_law_656 : decode cL_law 656 = .ok (.iconst 0, 1) := by decide +kernel
theorem dL_law_658 : decode cL_law 658 = .ok (.goto 657, 3) := by decide +kernel
theorem dL_law_661 : decode cL_law 661 = .ok (.iload 18, 2) := by decide +kernel
theorem dL_law_663 : decode cL_law 663 = .ok (.bipush 8, 2) := by decide +kernel
theorem dL_law_665 : decode cL_law 665 = .ok (.if_icmp .ge 168, 3) := by decide +kernel
theorem dL_law_668 : decode cL_law 668 = .ok (.aload_n 1, 1) := by decide +kernel
theorem dL_law_669 : decode cL_law 669 = .ok (.iload 15, 2) := by decide +kernel
theorem dL_law_671 : decode cL_law 671 = .ok (.invokestatic 153, 3) := by decide +kernel
theorem dL_law_674 : decode cL_law 674 = .ok (.istore 20, 2) := by decide +kernel
theorem dL_law_676 : decode cL_law 676 = .ok (.iload 20, 2) := by decide +kernel
theorem dL_law_678 : decode cL_law 678 = .ok (.ifCond .lt 62, 3) := by decide +kernel
theorem dL_law_681 : decode cL_law 681 = .ok (.iload 20, 2) := by decide +kernel
theorem dL_law_683 : decode cL_law 683 = .ok (.iload 6, 2) := by decide +kernel
theorem dL_law_685 : decode cL_law 685 = .ok (.if_icmp .ne 53, 3) := by decide +kernel
theorem dL_law_688 : decode cL_law 688 = .ok (.aload_n 1, 1) := by decide +kernel
theorem dL_law_689 : decode cL_law 689 = .ok (.iload 15, 2) := by decide +kernel
theorem dL_law_691 : decode cL_law 691 = .ok (.invokestatic 183, 3) := by decide +kernel
theorem dL_law_694 : decode cL_law 694 = .ok (.ifCond .lt 44, 3) := by decide +kernel
theorem dL_law_697 : decode cL_law 697 = .ok (.aload_n 1, 1) := by decide +kernel
theorem dL_law_698 : decode cL_law 698 = .ok (.iload 5, 2) := by decide +kernel
theorem dL_law_700 : decode cL_law 700 = .ok (.invokestatic 185, 3) := by decide +kernel
theorem dL_law_703 : decode cL_law 703 = .ok (.iconst 1, 1) := by decide +kernel
theorem dL_law_704 : decode cL_law 704 = .ok (.if_icmp .lt 34, 3) := by decide +kernel
theorem dL_law_707 : decode cL_law 707 = .ok (.aload_n 1, 1) := by decide +kernel
theorem dL_law_708 : decode cL_law 708 = .ok (.iload 5, 2) := by decide +kernel
theorem dL_law_710 : decode cL_law 710 = .ok (.invokestatic 185, 3) := by decide +kernel
theorem dL_law_713 : decode cL_law 713 = .ok (.iconst 4, 1) := by decide +kernel
theorem dL_law_714 : decode cL_law 714 = .ok (.if_icmp .gt 24, 3) := by decide +kernel
theorem dL_law_717 : decode cL_law 717 = .ok (.aload_n 1, 1) := by decide +kernel
theorem dL_law_718 : decode cL_law 718 = .ok (.iload 20, 2) := by decide +kernel
theorem dL_law_720 : decode cL_law 720 = .ok (.invokestatic 187, 3) := by decide +kernel
theorem dL_law_723 : decode cL_law 723 = .ok (.iconst 1, 1) := by decide +kernel
theorem dL_law_724 : decode cL_law 724 = .ok (.if_icmp .ne 14, 3) := by decide +kernel
theorem dL_law_727 : decode cL_law 727 = .ok (.aload_n 1, 1) := by decide +kernel
theorem dL_law_728 : decode cL_law 728 = .ok (.iload 5, 2) := by decide +kernel
theorem dL_law_730 : decode cL_law 730 = .ok (.invokestatic 189, 3) := by decide +kernel
theorem dL_law_733 : decode cL_law 733 = .ok (.bipush 111, 2) := by decide +kernel
theorem dL_law_735 : decode cL_law 735 = .ok (.if_icmp .eq 5, 3) := by decide +kernel
theorem dL_law_738 : decode cL_law 738 = .ok (.iconst 0, 1) := by decide +kernel
theorem dL_law_740 : decode cL_law 740 = .ok (.iload 20, 2) := by decide +kernel
theorem dL_law_742 : decode cL_law 742 = .ok (.iload 6, 2) := by decide +kernel
theorem dL_law_744 : decode cL_law 744 = .ok (.if_icmp .ne 86, 3) := by decide +kernel
theorem dL_law_747 : decode cL_law 747 = .ok (.aload 10, 2) := by decide +kernel
theorem dL_law_749 : decode cL_law 749 = .ok (.iload 5, 2) := by decide +kernel
theorem dL_law_751 : decode cL_law 751 = .ok (.iload 6, 2) := by decide +kernel
theorem dL_law_753 : decode cL_law 753 = .ok (.iastore, 1) := by decide +kernel
theorem dL_law_754 : decode cL_law 754 = .ok (.iinc 5 1, 3) := by decide +kernel
theorem dL_law_757 : decode cL_law 757 = .ok (.iinc 6 1, 3) := by decide +kernel
theorem dL_law_760 : decode cL_law 760 = .ok (.aload_n 1, 1) := by decide +kernel
theorem dL_law_761 : decode cL_law 761 = .ok (.iload 20, 2) := by decide +kernel
theorem dL_law_763 : decode cL_law 763 = .ok (.invokestatic 144, 3) := by decide +kernel
theorem dL_law_766 : decode cL_law 766 = .ok (.istore 21, 2) := by decide +kernel
theorem dL_law_768 : decode cL_law 768 = .ok (.iload 21, 2) := by decide +kernel
theorem dL_law_770 : decode cL_law 770 = .ok (.iload 4, 2) := by decide +kernel
theorem dL_law_772 : decode cL_law 772 = .ok (.sipush 250, 3) := by decide +kernel
theorem dL_law_775 : decode cL_law 775 = .ok (.if_icmp .ne 8, 3) := by decide +kernel
theorem dL_law_778 : decode cL_law 778 = .ok (.ldc 24, 2) := by decide +kernel
theorem dL_law_780 : decode cL_law 780 = .ok (.goto 5, 3) := by decide +kernel
theorem dL_law_783 : decode cL_law 783 = .ok (.iload 4, 2) := by decide +kernel
theorem dL_law_785 : decode cL_law 785 = .ok (.if_icmp .ne 34, 3) := by decide +kernel
theorem dL_law_788 : decode cL_law 788 = .ok (.iload 21, 2) := by decide +kernel
theorem dL_law_790 : decode cL_law 790 = .ok (.ifCond .lt 31, 3) := by decide +kernel
theorem dL_law_793 : decode cL_law 793 = .ok (.aload_n 1, 1) := by decide +kernel
theorem dL_law_794 : decode cL_law 794 = .ok (.iload 21, 2) := by decide +kernel
theorem dL_law_796 : decode cL_law 796 = .ok (.invokestatic 181, 3) := by decide +kernel
theorem dL_law_799 : decode cL_law 799 = .ok (.aload_n 1, 1) := by decide +kernel
theorem dL_law_800 : decode cL_law 800 = .ok (.iload 15, 2) := by decide +kernel
theorem dL_law_802 : decode cL_law 802 = .ok (.invokestatic 151, 3) := by decide +kernel
theorem dL_law_805 : decode cL_law 805 = .ok (.if_icmp .ne 14, 3) := by decide +kernel
theorem dL_law_808 : decode cL_law 808 = .ok (.aload_n 1, 1) := by decide +kernel
theorem dL_law_809 : decode cL_law 809 = .ok (.iload 21, 2) := by decide +kernel
theorem dL_law_811 : decode cL_law 811 = .ok (.iload 15, 2) := by decide +kernel
theorem dL_law_813 : decode cL_law 813 = .ok (.invokevirtual 191, 3) := by decide +kernel
theorem dL_law_816 : decode cL_law 816 = .ok (.ifCond .ne 5, 3) := by decide +kernel
theorem dL_law_819 : decode cL_law 819 = .ok (.iconst 0, 1) := by decide +kernel
theorem dL_law_821 : decode cL_law 821 = .ok (.iload 21, 2) := by decide +kernel
theorem dL_law_823 : decode cL_law 823 = .ok (.iload 4, 2) := by decide +kernel
theorem dL_law_825 : decode cL_law 825 = .ok (.invokestatic 175, 3) := by decide +kernel
theorem dL_law_828 : decode cL_law 828 = .ok (.istore 4, 2) := by decide +kernel
theorem dL_law_830 : decode cL_law 830 = .ok (.goto 485, 3) := by decide +kernel
theorem dL_law_833 : decode cL_law 833 = .ok (.iload 18, 2) := by decide +kernel
theorem dL_law_835 : decode cL_law 835 = .ok (.bipush 10, 2) := by decide +kernel
theorem dL_law_837 : decode cL_law 837 = .ok (.if_icmp .ge 184, 3) := by decide +kernel
theorem dL_law_840 : decode cL_law 840 = .ok (.aload_n 0, 1) := by decide +kernel
theorem dL_law_841 : decode cL_law 841 = .ok (.iload 14, 2) := by decide +kernel
theorem dL_law_843 : decode cL_law 843 = .ok (.iconst 4, 1) := by decide +kernel
theorem dL_law_844 : decode cL_law 844 = .ok (.iadd, 1) := by decide +kernel
theorem dL_law_845 : decode cL_law 845 = .ok (.iconst 3, 1) := by decide +kernel
theorem dL_law_846 : decode cL_law 846 = .ok (.invokestatic 168, 3) := by decide +kernel
theorem dL_law_849 : decode cL_law 849 = .ok (.istore 20, 2) := by decide +kernel
theorem dL_law_851 : decode cL_law 851 = .ok (.aload_n 1, 1) := by decide +kernel
theorem dL_law_852 : decode cL_law 852 = .ok (.iload 17, 2) := by decide +kernel
theorem dL_law_854 : decode cL_law 854 = .ok (.iload 20, 2) := by decide +kernel
theorem dL_law_856 : decode cL_law 856 = .ok (.invokestatic 195, 3) := by decide +kernel
theorem dL_law_859 : decode cL_law 859 = .ok (.istore 21, 2) := by decide +kernel
theorem dL_law_861 : decode cL_law 861 = .ok (.iload 17, 2) := by decide +kernel
theorem dL_law_863 : decode cL_law 863 = .ok (.iload 5, 2) := by decide +kernel
theorem dL_law_865 : decode cL_law 865 = .ok (.if_icmp .ge 15, 3) := by decide +kernel
theorem dL_law_868 : decode cL_law 868 = .ok (.aload_n 1, 1) := by decide +kernel
theorem dL_law_869 : decode cL_law 869 = .ok (.aload 10, 2) := by decide +kernel
theorem dL_law_871 : decode cL_law 871 = .ok (.iload 17, 2) := by decide +kernel
theorem dL_law_873 : decode cL_law 873 = .ok (.iaload, 1) := by decide +kernel
theorem dL_law_874 : decode cL_law 874 = .ok (.invokestatic 187, 3) := by decide +kernel
theorem dL_law_877 : decode cL_law 877 = .ok (.goto 4, 3) := by decide +kernel
theorem dL_law_880 : decode cL_law 880 = .ok (.iconst 0, 1) := by decide +kernel
theorem dL_law_881 : decode cL_law 881 = .ok (.istore 22, 2) := by decide +kernel
theorem dL_law_883 : decode cL_law 883 = .ok (.aload_n 1, 1) := by decide +kernel
theorem dL_law_884 : decode cL_law 884 = .ok (.iload 17, 2) := by decide +kernel
theorem dL_law_886 : decode cL_law 886 = .ok (.iload 20, 2) := by decide +kernel
theorem dL_law_888 : decode cL_law 888 = .ok (.invokestatic 155, 3) := by decide +kernel
theorem dL_law_891 : decode cL_law 891 = .ok (.istore 23, 2) := by decide +kernel
theorem dL_law_893 : decode cL_law 893 = .ok (.iload 23, 2) := by decide +kernel
theorem dL_law_895 : decode cL_law 895 = .ok (.ifCond .lt 64, 3) := by decide +kernel
theorem dL_law_898 : decode cL_law 898 = .ok (.iload 21, 2) := by decide +kernel
theorem dL_law_900 : decode cL_law 900 = .ok (.bipush 101, 2) := by decide +kernel
theorem dL_law_902 : decode cL_law 902 = .ok (.if_icmp .lt 55, 3) := by decide +kernel
theorem dL_law_905 : decode cL_law 905 = .ok (.iload 21, 2) := by decide +kernel
theorem dL_law_907 : decode cL_law 907 = .ok (.bipush 101, 2) := by decide +kernel
theorem dL_law_909 : decode cL_law 909 = .ok (.iload_n 2, 1) := by decide +kernel
theorem dL_law_910 : decode cL_law 910 = .ok (.iadd, 1) := by decide +kernel
theorem dL_law_911 : decode cL_law 911 = .ok (.if_icmp .ge 46, 3) := by decide +kernel
theorem dL_law_914 : decode cL_law 914 = .ok (.iload 23, 2) := by decide +kernel
theorem dL_law_916 : decode cL_law 916 = .ok (.aload 9, 2) := by decide +kernel
theorem dL_law_918 : decode cL_law 918 = .ok (.iload 21, 2) := by decide +kernel
theorem dL_law_920 : decode cL_law 920 = .ok (.bipush 101, 2) := by decide +kernel
theorem dL_law_922 : decode cL_law 922 = .ok (.isub, 1) := by decide +kernel
theorem dL_law_923 : decode cL_law 923 = .ok (.iaload, 1) := by decide +kernel
theorem dL_law_924 : decode cL_law 924 = .ok (.if_icmp .ne 33, 3) := by decide +kernel
theorem dL_law_927 : decode cL_law 927 = .ok (.aload_n 1, 1) := by decide +kernel
theorem dL_law_928 : decode cL_law 928 = .ok (.iload 17, 2) := by decide +kernel
theorem dL_law_930 : decode cL_law 930 = .ok (.invokestatic 189, 3) := by decide +kernel
theorem dL_law_933 : decode cL_law 933 = .ok (.bipush 115, 2) := by decide +kernel
theorem dL_law_935 : decode cL_law 935 = .ok (.if_icmp .ne 22, 3) := by decide +kernel
theorem dL_law_938 : decode cL_law 938 = .ok (.aload_n 1, 1) := by decide +kernel
theorem dL_law_939 : decode cL_law 939 = .ok (.aload 10, 2) := by decide +kernel
theorem dL_law_941 : decode cL_law 941 = .ok (.iload 17, 2) := by decide +kernel
theorem dL_law_943 : decode cL_law 943 = .ok (.iaload, 1) := by decide +kernel
theorem dL_law_944 : decode cL_law 944 = .ok (.invokestatic 187, 3) := by decide +kernel
theorem dL_law_947 : decode cL_law 947 = .ok (.iload 22, 2) := by decide +kernel
theorem dL_law_949 : decode cL_law 949 = .ok (.iconst 1, 1) := by decide +kernel
theorem dL_law_950 : decode cL_law 950 = .ok (.isub, 1) := by decide +kernel
theorem dL_law_951 : decode cL_law 951 = .ok (.iload 23, 2) := by decide +kernel
theorem dL_law_953 : decode cL_law 953 = .ok (.iadd, 1) := by decide +kernel
theorem dL_law_954 : decode cL_law 954 = .ok (.if_icmp .eq 5, 3) := by decide +kernel
theorem dL_law_957 : decode cL_law 957 = .ok (.iconst 0, 1) := by decide +kernel
theorem dL_law_959 : decode cL_law 959 = .ok (.iconst 0, 1) := by decide +kernel
theorem dL_law_960 : decode cL_law 960 = .ok (.istore 24, 2) := by decide +kernel
theorem dL_law_962 : decode cL_law 962 = .ok (.iload 24, 2) := by decide +kernel
theorem dL_law_964 : decode cL_law 964 = .ok (.iload 23, 2) := by decide +kernel
theorem dL_law_966 : decode cL_law 966 = .ok (.if_icmp .ge 52, 3) := by decide +kernel
theorem dL_law_969 : decode cL_law 969 = .ok (.aload 10, 2) := by decide +kernel
theorem dL_law_971 : decode cL_law 971 = .ok (.iload 5, 2) := by decide +kernel
theorem dL_law_973 : decode cL_law 973 = .ok (.aload 10, 2) := by decide +kernel
theorem dL_law_975 : decode cL_law 975 = .ok (.iload 17, 2) := by decide +kernel
theorem dL_law_977 : decode cL_law 977 = .ok (.iaload, 1) := by decide +kernel
theorem dL_law_978 : decode cL_law 978 = .ok (.iastore, 1) := by decide +kernel
theorem dL_law_979 : decode cL_law 979 = .ok (.aload_n 1, 1) := by decide +kernel
theorem dL_law_980 : decode cL_law 980 = .ok (.iload 5, 2) := by decide +kernel
theorem dL_law_982 : decode cL_law 982 = .ok (.invokestatic 189, 3) := by decide +kernel
theorem dL_law_985 : decode cL_law 985 = .ok (.bipush 111, 2) := by decide +kernel
theorem dL_law_987 : decode cL_law 987 = .ok (.if_icmp .ne 20, 3) := by decide +kernel
theorem dL_law_990 : decode cL_law 990 = .ok (.aload_n 1, 1) := by decide +kernel
theorem dL_law_991 : decode cL_law 991 = .ok (.iload 5, 2) := by decide +kernel
theorem dL_law_993 : decode cL_law 993 = .ok (.invokestatic 185, 3) := by decide +kernel
theorem dL_law_996 : decode cL_law 996 = .ok (.aload_n 1, 1) := by decide +kernel
theorem dL_law_997 : decode cL_law 997 = .ok (.iload 17, 2) := by decide +kernel
theorem dL_law_999 : decode cL_law 999 = .ok (.invokestatic 185, 3) := by decide +kernel
theorem dL_law_1002 : decode cL_law 1002 = .ok (.iconst 1, 1) := by decide +kernel
theorem dL_law_1003 : decode cL_law 1003 = .ok (.isub, 1) := by decide +kernel
theorem dL_law_1004 : decode cL_law 1004 = .ok (.if_icmp .ge 5, 3) := by decide +kernel
theorem dL_law_1007 : decode cL_law 1007 = .ok (.iconst 0, 1) := by decide +kernel
theorem dL_law_1009 : decode cL_law 1009 = .ok (.iinc 5 1, 3) := by decide +kernel
theorem dL_law_1012 : decode cL_law 1012 = .ok (.iinc 24 1, 3) := by decide +kernel
theorem dL_law_1015 : decode cL_law 1015 = .ok (.goto (-53), 3) := by decide +kernel
theorem dL_law_1018 : decode cL_law 1018 = .ok (.goto 297, 3) := by decide +kernel
theorem dL_law_1021 : decode cL_law 1021 = .ok (.iload 18, 2) := by decide +kernel
theorem dL_law_1023 : decode cL_law 1023 = .ok (.bipush 12, 2) := by decide +kernel
theorem dL_law_1025 : decode cL_law 1025 = .ok (.if_icmp .ge 208, 3) := by decide +kernel
theorem dL_law_1028 : decode cL_law 1028 = .ok (.iload 17, 2) := by decide +kernel
theorem dL_law_1030 : decode cL_law 1030 = .ok (.iload 5, 2) := by decide +kernel
theorem dL_law_1032 : decode cL_law 1032 = .ok (.if_icmp .ge 15, 3) := by decide +kernel
theorem dL_law_1035 : decode cL_law 1035 = .ok (.aload_n 1, 1) := by decide +kernel
theorem dL_law_1036 : decode cL_law 1036 = .ok (.aload 10, 2) := by decide +kernel
theorem dL_law_1038 : decode cL_law 1038 = .ok (.iload 17, 2) := by decide +kernel
theorem dL_law_1040 : decode cL_law 1040 = .ok (.iaload, 1) := by decide +kernel
theorem dL_law_1041 : decode cL_law 1041 = .ok (.invokestatic 187, 3) := by decide +kernel
theorem dL_law_1044 : decode cL_law 1044 = .ok (.goto 4, 3) := by decide +kernel
theorem dL_law_1047 : decode cL_law 1047 = .ok (.iconst 0, 1) := by decide +kernel
theorem dL_law_1048 : decode cL_law 1048 = .ok (.istore 20, 2) := by decide +kernel
theorem dL_law_1050 : decode cL_law 1050 = .ok (.aload_n 1, 1) := by decide +kernel
theorem dL_law_1051 : decode cL_law 1051 = .ok (.iload 17, 2) := by decide +kernel
theorem dL_law_1053 : decode cL_law 1053 = .ok (.invokestatic 189, 3) := by decide +kernel
theorem dL_law_1056 : decode cL_law 1056 = .ok (.istore 21, 2) := by decide +kernel
theorem dL_law_1058 : decode cL_law 1058 = .ok (.iload 18, 2) := by decide +kernel
theorem dL_law_1060 : decode cL_law 1060 = .ok (.bipush 10, 2) := by decide +kernel
theorem dL_law_1062 : decode cL_law 1062 = .ok (.if_icmp .ne 14, 3) := by decide +kernel
theorem dL_law_1065 : decode cL_law 1065 = .ok (.aload_n 1, 1) := by decide +kernel
theorem dL_law_1066 : decode cL_law 1066 = .ok (.iload 17, 2) := by decide +kernel
theorem dL_law_1068 : decode cL_law 1068 = .ok (.iload 15, 2) := by decide +kernel
theorem dL_law_1070 : decode cL_law 1070 = .ok (.invokestatic 157, 3) := by decide +kernel
theorem dL_law_1073 : decode cL_law 1073 = .ok (.goto 9, 3) := by decide +kernel
theorem dL_law_1076 : decode cL_law 1076 = .ok (.aload_n 1, 1) := by decide +kernel
theorem dL_law_1077 : decode cL_law 1077 = .ok (.iload 17, 2) := by decide +kernel
theorem dL_law_1079 : decode cL_law 1079 = .ok (.invokestatic 159, 3) := by decide +kernel
theorem dL_law_1082 : decode cL_law 1082 = .ok (.istore 22, 2) := by decide +kernel
theorem dL_law_1084 : decode cL_law 1084 = .ok (.iload 22, 2) := by decide +kernel
theorem dL_law_1086 : decode cL_law 1086 = .ok (.ifCond .lt 55, 3) := by decide +kernel
theorem dL_law_1089 : decode cL_law 1089 = .ok (.iload 21, 2) := by decide +kernel
theorem dL_law_1091 : decode cL_law 1091 = .ok (.bipush 111, 2) := by decide +kernel
theorem dL_law_1093 : decode cL_law 1093 = .ok (.if_icmp .ne 46, 3) := by decide +kernel
theorem dL_law_1096 : decode cL_law 1096 = .ok (.aload_n 1, 1) := by decide +kernel
theorem dL_law_1097 : decode cL_law 1097 = .ok (.iload 17, 2) := by decide +kernel
theorem dL_law_1099 : decode cL_law 1099 = .ok (.invokestatic 189, 3) := by decide +kernel
theorem dL_law_1102 : decode cL_law 1102 = .ok (.bipush 102, 2) := by decide +kernel
theorem dL_law_1104 : decode cL_law 1104 = .ok (.if_icmp .ne 35, 3) := by decide +kernel
theorem dL_law_1107 : decode cL_law 1107 = .ok (.aload_n 1, 1) := by decide +kernel
theorem dL_law_1108 : decode cL_law 1108 = .ok (.aload 10, 2) := by decide +kernel
theorem dL_law_1110 : decode cL_law 1110 = .ok (.iload 17, 2) := by decide +kernel
theorem dL_law_1112 : decode cL_law 1112 = .ok (.iaload, 1) := by decide +kernel
theorem dL_law_1113 : decode cL_law 1113 = .ok (.invokestatic 187, 3) := by decide +kernel
theorem dL_law_1116 : decode cL_law 1116 = .ok (.iload 20, 2) := by decide +kernel
theorem dL_law_1118 : decode cL_law 1118 = .ok (.iconst 1, 1) := by decide +kernel
theorem dL_law_1119 : decode cL_law 1119 = .ok (.isub, 1) := by decide +kernel
theorem dL_law_1120 : decode cL_law 1120 = .ok (.if_icmp .ne 19, 3) := by decide +kernel
theorem dL_law_1123 : decode cL_law 1123 = .ok (.iload 18, 2) := by decide +kernel
theorem dL_law_1125 : decode cL_law 1125 = .ok (.bipush 10, 2) := by decide +kernel
theorem dL_law_1127 : decode cL_law 1127 = .ok (.if_icmp .ne 14, 3) := by decide +kernel
theorem dL_law_1130 : decode cL_law 1130 = .ok (.iload 22, 2) := by decide +kernel
theorem dL_law_1132 : decode cL_law 1132 = .ok (.iload 20, 2) := by decide +kernel
theorem dL_law_1134 : decode cL_law 1134 = .ok (.iconst 1, 1) := by decide +kernel
theorem dL_law_1135 : decode cL_law 1135 = .ok (.isub, 1) := by decide +kernel
theorem dL_law_1136 : decode cL_law 1136 = .ok (.if_icmp .eq 5, 3) := by decide +kernel
theorem dL_law_1139 : decode cL_law 1139 = .ok (.iconst 0, 1) := by decide +kernel
theorem dL_law_1141 : decode cL_law 1141 = .ok (.iload 22, 2) := by decide +kernel
theorem dL_law_1143 : decode cL_law 1143 = .ok (.ifCond .lt 87, 3) := by decide +kernel
theorem dL_law_1146 : decode cL_law 1146 = .ok (.aload_n 0, 1) := by decide +kernel
theorem dL_law_1147 : decode cL_law 1147 = .ok (.iload 14, 2) := by decide +kernel
theorem dL_law_1149 : decode cL_law 1149 = .ok (.iconst 4, 1) := by decide +kernel
theorem dL_law_1150 : decode cL_law 1150 = .ok (.iadd, 1) := by decide +kernel
theorem dL_law_1151 : decode cL_law 1151 = .ok (.iconst 3, 1) := by decide +kernel
theorem dL_law_1152 : decode cL_law 1152 = .ok (.invokestatic 168, 3) := by decide +kernel
theorem dL_law_1155 : decode cL_law 1155 = .ok (.ifCond .ne 75, 3) := by decide +kernel
theorem dL_law_1158 : decode cL_law 1158 = .ok (.aload_n 1, 1) := by decide +kernel
theorem dL_law_1159 : decode cL_law 1159 = .ok (.iload 17, 2) := by decide +kernel
theorem dL_law_1161 : decode cL_law 1161 = .ok (.invokestatic 161, 3) := by decide +kernel
theorem dL_law_1164 : decode cL_law 1164 = .ok (.istore 23, 2) := by decide +kernel
theorem dL_law_1166 : decode cL_law 1166 = .ok (.iload 23, 2) := by decide +kernel
theorem dL_law_1168 : decode cL_law 1168 = .ok (.iload 18, 2) := by decide +kernel
theorem dL_law_1170 : decode cL_law 1170 = .ok (.bipush 10, 2) := by decide +kernel
theorem dL_law_1172 : decode cL_law 1172 = .ok (.if_icmp .ne 12, 3) := by decide +kernel
theorem dL_law_1175 : decode cL_law 1175 = .ok (.aload_n 1, 1) := by decide +kernel
theorem dL_law_1176 : decode cL_law 1176 = .ok (.iload 15, 2) := by decide +kernel
theorem dL_law_1178 : decode cL_law 1178 = .ok (.invokevirtual 61, 3) := by decide +kernel
theorem dL_law_1181 : decode cL_law 1181 = .ok (.goto 4, 3) := by decide +kernel
theorem dL_law_1184 : decode cL_law 1184 = .ok (.iconst 1, 1) := by decide +kernel
theorem dL_law_1185 : decode cL_law 1185 = .ok (.if_icmp .ne 43, 3) := by decide +kernel
theorem dL_law_1188 : decode cL_law 1188 = .ok (.aload_n 1, 1) := by decide +kernel
theorem dL_law_1189 : decode cL_law 1189 = .ok (.iload 17, 2) := by decide +kernel
theorem dL_law_1191 : decode cL_law 1191 = .ok (.invokestatic 189, 3) := by decide +kernel
theorem dL_law_1194 : decode cL_law 1194 = .ok (.bipush 111, 2) := by decide +kernel
theorem dL_law_1196 : decode cL_law 1196 = .ok (.if_icmp .ne 32, 3) := by decide +kernel
theorem dL_law_1199 : decode cL_law 1199 = .ok (.iload 18, 2) := by decide +kernel
theorem dL_law_1201 : decode cL_law 1201 = .ok (.bipush 10, 2) := by decide +kernel
theorem dL_law_1203 : decode cL_law 1203 = .ok (.if_icmp .ne 14, 3) := by decide +kernel
theorem dL_law_1206 : decode cL_law 1206 = .ok (.aload_n 1, 1) := by decide +kernel
theorem dL_law_1207 : decode cL_law 1207 = .ok (.iload 17, 2) := by decide +kernel
theorem dL_law_1209 : decode cL_law 1209 = .ok (.iload 15, 2) := by decide +kernel
theorem dL_law_1211 : decode cL_law 1211 = .ok (.invokestatic 157, 3) := by decide +kernel
theorem dL_law_1214 : decode cL_law 1214 = .ok (.goto 9, 3) := by decide +kernel
theorem dL_law_1217 : decode cL_law 1217 = .ok (.aload_n 1, 1) := by decide +kernel
theorem dL_law_1218 : decode cL_law 1218 = .ok (.iload 17, 2) := by decide +kernel
theorem dL_law_1220 : decode cL_law 1220 = .ok (.invokestatic 159, 3) := by decide +kernel
theorem dL_law_1223 : decode cL_law 1223 = .ok (.iload 22, 2) := by decide +kernel
theorem dL_law_1225 : decode cL_law 1225 = .ok (.if_icmp .eq 5, 3) := by decide +kernel
theorem dL_law_1228 : decode cL_law 1228 = .ok (.iconst 0, 1) := by decide +kernel
theorem dL_law_1230 : decode cL_law 1230 = .ok (.goto 85, 3) := by decide +kernel
theorem dL_law_1233 : decode cL_law 1233 = .ok (.aload_n 0, 1) := by decide +kernel
theorem dL_law_1234 : decode cL_law 1234 = .ok (.iload 14, 2) := by decide +kernel
theorem dL_law_1236 : decode cL_law 1236 = .ok (.iconst 4, 1) := by decide +kernel
theorem dL_law_1237 : decode cL_law 1237 = .ok (.iadd, 1) := by decide +kernel
theorem dL_law_1238 : decode cL_law 1238 = .ok (.iload 6, 2) := by decide +kernel
theorem dL_law_1240 : decode cL_law 1240 = .ok (.iconst 1, 1) := by decide +kernel
theorem dL_law_1241 : decode cL_law 1241 = .ok (.iadd, 1) := by decide +kernel
theorem dL_law_1242 : decode cL_law 1242 = .ok (.invokestatic 168, 3) := by decide +kernel
theorem dL_law_1245 : decode cL_law 1245 = .ok (.istore 20, 2) := by decide +kernel
theorem dL_law_1247 : decode cL_law 1247 = .ok (.aload_n 1, 1) := by decide +kernel
theorem dL_law_1248 : decode cL_law 1248 = .ok (.iload 20, 2) := by decide +kernel
theorem dL_law_1250 : decode cL_law 1250 = .ok (.invokestatic 163, 3) := by decide +kernel
theorem dL_law_1253 : decode cL_law 1253 = .ok (.istore 21, 2) := by decide +kernel
theorem dL_law_1255 : decode cL_law 1255 = .ok (.iload 21, 2) := by decide +kernel
theorem dL_law_1257 : decode cL_law 1257 = .ok (.ifCond .lt 40, 3) := by decide +kernel
theorem dL_law_1260 : decode cL_law 1260 = .ok (.aload_n 1, 1) := by decide +kernel
theorem dL_law_1261 : decode cL_law 1261 = .ok (.iload 20, 2) := by decide +kernel
theorem dL_law_1263 : decode cL_law 1263 = .ok (.invokestatic 187, 3) := by decide +kernel
theorem dL_law_1266 : decode cL_law 1266 = .ok (.ifCond .ne 47, 3) := by decide +kernel
theorem dL_law_1269 : decode cL_law 1269 = .ok (.aload_n 1, 1) := by decide +kernel
theorem dL_law_1270 : decode cL_law 1270 = .ok (.iload 20, 2) := by decide +kernel
theorem dL_law_1272 : decode cL_law 1272 = .ok (.invokevirtual 197, 3) := by decide +kernel
theorem dL_law_1275 : decode cL_law 1275 = .ok (.ifCond .eq 38, 3) := by decide +kernel
theorem dL_law_1278 : decode cL_law 1278 = .ok (.aload_n 1, 1) := by decide +kernel
theorem dL_law_1279 : decode cL_law 1279 = .ok (.iload 20, 2) := by decide +kernel
theorem dL_law_1281 : decode cL_law 1281 = .ok (.invokestatic 163, 3) := by decide +kernel
theorem dL_law_1284 : decode cL_law 1284 = .ok (.ldc 24, 2) := by decide +kernel
theorem dL_law_1286 : decode cL_law 1286 = .ok (.if_icmp .ne 27, 3) := by decide +kernel
theorem dL_law_1289 : decode cL_law 1289 = .ok (.iload 21, 2) := by decide +kernel
theorem dL_law_1291 : decode cL_law 1291 = .ok (.sipush 200, 3) := by decide +kernel
theorem dL_law_1294 : decode cL_law 1294 = .ok (.if_icmp .gt 19, 3) := by decide +kernel
theorem dL_law_1297 : decode cL_law 1297 = .ok (.iload 21, 2) := by decide +kernel
theorem dL_law_1299 : decode cL_law 1299 = .ok (.ldc 72, 2) := by decide +kernel
theorem dL_law_1301 : decode cL_law 1301 = .ok (.if_icmp .ne 14, 3) := by decide +kernel
theorem dL_law_1304 : decode cL_law 1304 = .ok (.aload_n 1, 1) := by decide +kernel
theorem dL_law_1305 : decode cL_law 1305 = .ok (.iload 20, 2) := by decide +kernel
theorem dL_law_1307 : decode cL_law 1307 = .ok (.invokevirtual 197, 3) := by decide +kernel
theorem dL_law_1310 : decode cL_law 1310 = .ok (.ifCond .eq 5, 3) := by decide +kernel
theorem dL_law_1313 : decode cL_law 1313 = .ok (.iconst 0, 1) := by decide +kernel
theorem dL_law_1315 : decode cL_law 1315 = .ok (.aload_n 0, 1) := by decide +kernel
theorem dL_law_1316 : decode cL_law 1316 = .ok (.iload 14, 2) := by decide +kernel
theorem dL_law_1318 : decode cL_law 1318 = .ok (.iconst 2, 1) := by decide +kernel
theorem dL_law_1319 : decode cL_law 1319 = .ok (.iadd, 1) := by decide +kernel
theorem dL_law_1320 : decode cL_law 1320 = .ok (.iload 4, 2) := by decide +kernel
theorem dL_law_1322 : decode cL_law 1322 = .ok (.invokestatic 168, 3) := by decide +kernel
theorem dL_law_1325 : decode cL_law 1325 = .ok (.istore 20, 2) := by decide +kernel
theorem dL_law_1327 : decode cL_law 1327 = .ok (.aload_n 1, 1) := by decide +kernel
theorem dL_law_1328 : decode cL_law 1328 = .ok (.iload 20, 2) := by decide +kernel
theorem dL_law_1330 : decode cL_law 1330 = .ok (.invokestatic 151, 3) := by decide +kernel
theorem dL_law_1333 : decode cL_law 1333 = .ok (.istore 21, 2) := by decide +kernel
theorem dL_law_1335 : decode cL_law 1335 = .ok (.aload_n 1, 1) := by decide +kernel
theorem dL_law_1336 : decode cL_law 1336 = .ok (.iload 20, 2) := by decide +kernel
theorem dL_law_1338 : decode cL_law 1338 = .ok (.invokestatic 181, 3) := by decide +kernel
theorem dL_law_1341 : decode cL_law 1341 = .ok (.istore 22, 2) := by decide +kernel
theorem dL_law_1343 : decode cL_law 1343 = .ok (.aload_n 1, 1) := by decide +kernel
theorem dL_law_1344 : decode cL_law 1344 = .ok (.iload 20, 2) := by decide +kernel
theorem dL_law_1346 : decode cL_law 1346 = .ok (.invokestatic 165, 3) := by decide +kernel
theorem dL_law_1349 : decode cL_law 1349 = .ok (.istore 23, 2) := by decide +kernel
theorem dL_law_1351 : decode cL_law 1351 = .ok (.aload_n 1, 1) := by decide +kernel
theorem dL_law_1352 : decode cL_law 1352 = .ok (.iload 20, 2) := by decide +kernel
theorem dL_law_1354 : decode cL_law 1354 = .ok (.invokestatic 201, 3) := by decide +kernel
theorem dL_law_1357 : decode cL_law 1357 = .ok (.istore 24, 2) := by decide +kernel
theorem dL_law_1359 : decode cL_law 1359 = .ok (.iload 24, 2) := by decide +kernel
theorem dL_law_1361 : decode cL_law 1361 = .ok (.ifCond .lt 11, 3) := by decide +kernel
theorem dL_law_1364 : decode cL_law 1364 = .ok (.lload 11, 2) := by decide +kernel
theorem dL_law_1366 : decode cL_law 1366 = .ok (.iload 24, 2) := by decide +kernel
theorem dL_law_1368 : decode cL_law 1368 = .ok (.i2l, 1) := by decide +kernel
theorem dL_law_1369 : decode cL_law 1369 = .ok (.ladd, 1) := by decide +kernel
theorem dL_law_1370 : decode cL_law 1370 = .ok (.lstore 11, 2) := by decide +kernel
theorem dL_law_1372 : decode cL_law 1372 = .ok (.iload 21, 2) := by decide +kernel
theorem dL_law_1374 : decode cL_law 1374 = .ok (.ifCond .ge 10, 3) := by decide +kernel
theorem dL_law_1377 : decode cL_law 1377 = .ok (.iload 21, 2) := by decide +kernel
theorem dL_law_1379 : decode cL_law 1379 = .ok (.ldc 72, 2) := by decide +kernel
theorem dL_law_1381 : decode cL_law 1381 = .ok (.if_icmp .ne 83, 3) := by decide +kernel
theorem dL_law_1384 : decode cL_law 1384 = .ok (.iload 23, 2) := by decide +kernel
theorem dL_law_1386 : decode cL_law 1386 = .ok (.ifCond .lt 7, 3) := by decide +kernel
theorem dL_law_1389 : decode cL_law 1389 = .ok (.iconst 1, 1) := by decide +kernel
theorem dL_law_1390 : decode cL_law 1390 = .ok (.goto 4, 3) := by decide +kernel
theorem dL_law_1393 : decode cL_law 1393 = .ok (.iconst 0, 1) := by decide +kernel
theorem dL_law_1394 : decode cL_law 1394 = .ok (.iload 24, 2) := by decide +kernel
theorem dL_law_1396 : decode cL_law 1396 = .ok (.ifCond .lt 7, 3) := by decide +kernel
theorem dL_law_1399 : decode cL_law 1399 = .ok (.iconst 1, 1) := by decide +kernel
theorem dL_law_1400 : decode cL_law 1400 = .ok (.goto 4, 3) := by decide +kernel
theorem dL_law_1403 : decode cL_law 1403 = .ok (.iconst 0, 1) := by decide +kernel
theorem dL_law_1404 : decode cL_law 1404 = .ok (.if_icmp .ne 60, 3) := by decide +kernel
theorem dL_law_1407 : decode cL_law 1407 = .ok (.iload 23, 2) := by decide +kernel
theorem dL_law_1409 : decode cL_law 1409 = .ok (.aload_n 1, 1) := by decide +kernel
theorem dL_law_1410 : decode cL_law 1410 = .ok (.iload 20, 2) := by decide +kernel
theorem dL_law_1412 : decode cL_law 1412 = .ok (.invokestatic 203, 3) := by decide +kernel
theorem dL_law_1415 : decode cL_law 1415 = .ok (.if_icmp .ne 49, 3) := by decide +kernel
theorem dL_law_1418 : decode cL_law 1418 = .ok (.iload 23, 2) := by decide +kernel
theorem dL_law_1420 : decode cL_law 1420 = .ok (.ifCond .lt 34, 3) := by decide +kernel
theorem dL_law_1423 : decode cL_law 1423 = .ok (.iload 24, 2) := by decide +kernel
theorem dL_law_1425 : decode cL_law 1425 = .ok (.bipush 40, 2) := by decide +kernel
theorem dL_law_1427 : decode cL_law 1427 = .ok (.if_icmp .gt 37, 3) := by decide +kernel
theorem dL_law_1430 : decode cL_law 1430 = .ok (.iload 22, 2) := by decide +kernel
theorem dL_law_1432 : decode cL_law 1432 = .ok (.bipush 101, 2) := by decide +kernel
theorem dL_law_1434 : decode cL_law 1434 = .ok (.if_icmp .lt 30, 3) := by decide +kernel
theorem dL_law_1437 : decode cL_law 1437 = .ok (.iload 22, 2) := by decide +kernel
theorem dL_law_1439 : decode cL_law 1439 = .ok (.bipush 106, 2) := by decide +kernel
theorem dL_law_1441 : decode cL_law 1441 = .ok (.if_icmp .gt 23, 3) := by decide +kernel
theorem dL_law_1444 : decode cL_law 1444 = .ok (.aload_n 1, 1) := by decide +kernel
theorem dL_law_1445 : decode cL_law 1445 = .ok (.iload 20, 2) := by decide +kernel
theorem dL_law_1447 : decode cL_law 1447 = .ok (.invokestatic 205, 3) := by decide +kernel
theorem dL_law_1450 : decode cL_law 1450 = .ok (.iconst 1, 1) := by decide +kernel
theorem dL_law_1451 : decode cL_law 1451 = .ok (.if_icmp .lt 13, 3) := by decide +kernel
theorem dL_law_1454 : decode cL_law 1454 = .ok (.aload_n 1, 1) := by decide +kernel
theorem dL_law_1455 : decode cL_law 1455 = .ok (.invokevirtual 207, 3) := by decide +kernel
theorem dL_law_1458 : decode cL_law 1458 = .ok (.lload 11, 2) := by decide +kernel
theorem dL_law_1460 : decode cL_law 1460 = .ok (.lcmp, 1) := by decide +kernel
theorem dL_law_1461 : decode cL_law 1461 = .ok (.ifCond .eq 5, 3) := by decide +kernel
theorem dL_law_1464 : decode cL_law 1464 = .ok (.iconst 0, 1) := by decide +kernel
theorem dL_law_1466 : decode cL_law 1466 = .ok (.iconst 0, 1) := by decide +kernel
theorem dL_law_1467 : decode cL_law 1467 = .ok (.istore 25, 2) := by decide +kernel
theorem dL_law_1469 : decode cL_law 1469 = .ok (.iload 25, 2) := by decide +kernel
theorem dL_law_1471 : decode cL_law 1471 = .ok (.iload 4, 2) := by decide +kernel
theorem dL_law_1473 : decode cL_law 1473 = .ok (.if_icmp .ge 58, 3) := by decide +kernel
theorem dL_law_1476 : decode cL_law 1476 = .ok (.aload_n 1, 1) := by decide +kernel
theorem dL_law_1477 : decode cL_law 1477 = .ok (.iload 20, 2) := by decide +kernel
theorem dL_law_1479 : decode cL_law 1479 = .ok (.iload 25, 2) := by decide +kernel
theorem dL_law_1481 : decode cL_law 1481 = .ok (.invokevirtual 191, 3) := by decide +kernel
theorem dL_law_1484 : decode cL_law 1484 = .ok (.ifCond .eq 14, 3) := by decide +kernel
theorem dL_law_1487 : decode cL_law 1487 = .ok (.aload_n 1, 1) := by decide +kernel
theorem dL_law_1488 : decode cL_law 1488 = .ok (.iload 25, 2) := by decide +kernel
theorem dL_law_1490 : decode cL_law 1490 = .ok (.invokestatic 151, 3) := by decide +kernel
theorem dL_law_1493 : decode cL_law 1493 = .ok (.iload 22, 2) := by decide +kernel
theorem dL_law_1495 : decode cL_law 1495 = .ok (.if_icmp .ne 19, 3) := by decide +kernel
theorem dL_law_1498 : decode cL_law 1498 = .ok (.iload 22, 2) := by decide +kernel
theorem dL_law_1500 : decode cL_law 1500 = .ok (.ifCond .ge 16, 3) := by decide +kernel
theorem dL_law_1503 : decode cL_law 1503 = .ok (.aload_n 1, 1) := by decide +kernel
theorem dL_law_1504 : decode cL_law 1504 = .ok (.iload 20, 2) := by decide +kernel
theorem dL_law_1506 : decode cL_law 1506 = .ok (.iload 25, 2) := by decide +kernel
theorem dL_law_1508 : decode cL_law 1508 = .ok (.invokevirtual 191, 3) := by decide +kernel
theorem dL_law_1511 : decode cL_law 1511 = .ok (.ifCond .eq 5, 3) := by decide +kernel
theorem dL_law_1514 : decode cL_law 1514 = .ok (.iconst 0, 1) := by decide +kernel
theorem dL_law_1516 : decode cL_law 1516 = .ok (.iload 25, 2) := by decide +kernel
theorem dL_law_1518 : decode cL_law 1518 = .ok (.iconst 1, 1) := by decide +kernel
theorem dL_law_1519 : decode cL_law 1519 = .ok (.iload 4, 2) := by decide +kernel
theorem dL_law_1521 : decode cL_law 1521 = .ok (.bipush 9, 2) := by decide +kernel
theorem dL_law_1523 : decode cL_law 1523 = .ok (.idiv, 1) := by decide +kernel
theorem dL_law_1524 : decode cL_law 1524 = .ok (.iadd, 1) := by decide +kernel
theorem dL_law_1525 : decode cL_law 1525 = .ok (.iadd, 1) := by decide +kernel
theorem dL_law_1526 : decode cL_law 1526 = .ok (.istore 25, 2) := by decide +kernel
theorem dL_law_1528 : decode cL_law 1528 = .ok (.goto (-59), 3) := by decide +kernel
theorem dL_law_1531 : decode cL_law 1531 = .ok (.iinc 13 1, 3) := by decide +kernel
theorem dL_law_1534 : decode cL_law 1534 = .ok (.goto (-1192), 3) := by decide +kernel
theorem dL_law_1537 : decode cL_law 1537 = .ok (.aload_n 1, 1) := by decide +kernel
theorem dL_law_1538 : decode cL_law 1538 = .ok (.iload 4, 2) := by decide +kernel
theorem dL_law_1540 : decode cL_law 1540 = .ok (.iload 5, 2) := by decide +kernel
theorem dL_law_1542 : decode cL_law 1542 = .ok (.iload 6, 2) := by decide +kernel
theorem dL_law_1544 : decode cL_law 1544 = .ok (.invokestatic 211, 3) := by decide +kernel
theorem dL_law_1547 : decode cL_law 1547 = .ok (.ifCond .eq 14, 3) := by decide +kernel
theorem dL_law_1550 : decode cL_law 1550 = .ok (.aload_n 1, 1) := by decide +kernel
theorem dL_law_1551 : decode cL_law 1551 = .ok (.invokevirtual 215, 3) := by decide +kernel
theorem dL_law_1554 : decode cL_law 1554 = .ok (.ifCond .eq 7, 3) := by decide +kernel
theorem dL_law_1557 : decode cL_law 1557 = .ok (.iconst 1, 1) := by decide +kernel
theorem dL_law_1558 : decode cL_law 1558 = .ok (.goto 4, 3) := by decide +kernel
theorem dL_law_1561 : decode cL_law 1561 = .ok (.iconst 0, 1) := by decide +kernel
theorem dL_law_1562 : decode cL_law 1562 = .ok (.ireturn, 1) := by decide +kernel
theorem wm1065 : (Jvm.Cond.methodLink "TelescopeCourtLaw" (189 : Nat) ({ cls := "TelescopeCourtLaw", name := "goalState", desc := "(LTelescopeCourt;I)I" } : Jvm.MethodName)) ∈ W0 := wm_of 1065 (by decide +kernel) (by decide +kernel)
theorem wm1066 : (Jvm.Cond.static ({ cls := "TelescopeCourtLaw", name := "goalState", desc := "(LTelescopeCourt;I)I" } : Jvm.MethodName)) ∈ W0 := wm_of 1066 (by decide +kernel) (by decide +kernel)
theorem wm1072 : (Jvm.Cond.methodLink "TelescopeCourtLaw" (185 : Nat) ({ cls := "TelescopeCourtLaw", name := "contextSize", desc := "(LTelescopeCourt;I)I" } : Jvm.MethodName)) ∈ W0 := wm_of 1072 (by decide +kernel) (by decide +kernel)
theorem wm1073 : (Jvm.Cond.static ({ cls := "TelescopeCourtLaw", name := "contextSize", desc := "(LTelescopeCourt;I)I" } : Jvm.MethodName)) ∈ W0 := wm_of 1073 (by decide +kernel) (by decide +kernel)
theorem wm1079 : (Jvm.Cond.methodLink "TelescopeCourtLaw" (195 : Nat) ({ cls := "TelescopeCourtLaw", name := "contextType", desc := "(LTelescopeCourt;II)I" } : Jvm.MethodName)) ∈ W0 := wm_of 1079 (by decide +kernel) (by decide +kernel)
theorem wm1080 : (Jvm.Cond.static ({ cls := "TelescopeCourtLaw", name := "contextType", desc := "(LTelescopeCourt;II)I" } : Jvm.MethodName)) ∈ W0 := wm_of 1080 (by decide +kernel) (by decide +kernel)
theorem wm1087 : (Jvm.Cond.methodLink "TelescopeCourtLaw" (187 : Nat) ({ cls := "TelescopeCourtLaw", name := "openGoals", desc := "(LTelescopeCourt;I)I" } : Jvm.MethodName)) ∈ W0 := wm_of 1087 (by decide +kernel) (by decide +kernel)
theorem wm1088 : (Jvm.Cond.static ({ cls := "TelescopeCourtLaw", name := "openGoals", desc := "(LTelescopeCourt;I)I" } : Jvm.MethodName)) ∈ W0 := wm_of 1088 (by decide +kernel) (by decide +kernel)
theorem wm1223 : (Jvm.Cond.methodLink "TelescopeCourtLaw" (203 : Nat) ({ cls := "TelescopeCourtLaw", name := "runByClauses", desc := "(LTelescopeCourt;I)I" } : Jvm.MethodName)) ∈ W0 := wm_of 1223 (by decide +kernel) (by decide +kernel)
theorem wm1224 : (Jvm.Cond.static ({ cls := "TelescopeCourtLaw", name := "runByClauses", desc := "(LTelescopeCourt;I)I" } : Jvm.MethodName)) ∈ W0 := wm_of 1224 (by decide +kernel) (by decide +kernel)
theorem wm1230 : (Jvm.Cond.methodLink "TelescopeCourtLaw" (201 : Nat) ({ cls := "TelescopeCourtLaw", name := "steps", desc := "(LTelescopeCourt;I)I" } : Jvm.MethodName)) ∈ W0 := wm_of 1230 (by decide +kernel) (by decide +kernel)
theorem wm1231 : (Jvm.Cond.static ({ cls := "TelescopeCourtLaw", name := "steps", desc := "(LTelescopeCourt;I)I" } : Jvm.MethodName)) ∈ W0 := wm_of 1231 (by decide +kernel) (by decide +kernel)
theorem wm1237 : (Jvm.Cond.methodLink "TelescopeCourtLaw" (205 : Nat) ({ cls := "TelescopeCourtLaw", name := "valueSize", desc := "(LTelescopeCourt;I)I" } : Jvm.MethodName)) ∈ W0 := wm_of 1237 (by decide +kernel) (by decide +kernel)
theorem wm1238 : (Jvm.Cond.static ({ cls := "TelescopeCourtLaw", name := "valueSize", desc := "(LTelescopeCourt;I)I" } : Jvm.MethodName)) ∈ W0 := wm_of 1238 (by decide +kernel) (by decide +kernel)
theorem wm1244 : (Jvm.Cond.methodLink "TelescopeCourtLaw" (175 : Nat) ({ cls := "TelescopeCourtLaw", name := "laid", desc := "(II)I" } : Jvm.MethodName)) ∈ W0 := wm_of 1244 (by decide +kernel) (by decide +kernel)
theorem wm1245 : (Jvm.Cond.static ({ cls := "TelescopeCourtLaw", name := "laid", desc := "(II)I" } : Jvm.MethodName)) ∈ W0 := wm_of 1245 (by decide +kernel) (by decide +kernel)
theorem wm1246 : (Jvm.Cond.code ({ cls := "TelescopeCourtLaw", name := "laid", desc := "(II)I" } : Jvm.MethodName) method_34_code (2 : Nat) (Option.some Jvm.ClassFile.FieldType.int)) ∈ W0 := wm_of 1246 (by decide +kernel) (by decide +kernel)
theorem wm1248 : (Jvm.Cond.methodLink "TelescopeCourtLaw" (211 : Nat) ({ cls := "TelescopeCourtLaw", name := "refuses", desc := "(LTelescopeCourt;III)Z" } : Jvm.MethodName)) ∈ W0 := wm_of 1248 (by decide +kernel) (by decide +kernel)
theorem wm1249 : (Jvm.Cond.static ({ cls := "TelescopeCourtLaw", name := "refuses", desc := "(LTelescopeCourt;III)Z" } : Jvm.MethodName)) ∈ W0 := wm_of 1249 (by decide +kernel) (by decide +kernel)
theorem wm1250 : (Jvm.Cond.code ({ cls := "TelescopeCourtLaw", name := "refuses", desc := "(LTelescopeCourt;III)Z" } : Jvm.MethodName) method_35_code (4 : Nat) (Option.some Jvm.ClassFile.FieldType.boolean)) ∈ W0 := wm_of 1250 (by decide +kernel) (by decide +kernel)
theorem wm1254 : (Jvm.Cond.constant "TelescopeCourtLaw" (180 : Nat) (1000003 : Int32)) ∈ W0 := wm_of 1254 (by decide +kernel) (by decide +kernel)
theorem wm398 : (Jvm.Cond.methodLink "TelescopeCourtLaw" (64 : Nat) ({ cls := "TelescopeCourt", name := "number", desc := "(I)I" } : Jvm.MethodName)) ∈ W0 := wm_of 398 (by decide +kernel) (by decide +kernel)
theorem wm399 : (Jvm.Cond.instanceMethod ({ cls := "TelescopeCourt", name := "number", desc := "(I)I" } : Jvm.MethodName)) ∈ W0 := wm_of 399 (by decide +kernel) (by decide +kernel)
theorem wm400 : (Jvm.Cond.selects "TelescopeCourt" ({ cls := "TelescopeCourt", name := "number", desc := "(I)I" } : Jvm.MethodName) ({ cls := "TelescopeCourt", name := "number", desc := "(I)I" } : Jvm.MethodName)) ∈ W0 := wm_of 400 (by decide +kernel) (by decide +kernel)
theorem wm401 : (Jvm.Cond.code ({ cls := "TelescopeCourt", name := "number", desc := "(I)I" } : Jvm.MethodName) prog_1_method_13_code (2 : Nat) (Option.some Jvm.ClassFile.FieldType.int)) ∈ W0 := wm_of 401 (by decide +kernel) (by decide +kernel)
theorem wm406 : (Jvm.Cond.methodLink "TelescopeCourtLaw" (191 : Nat) ({ cls := "TelescopeCourt", name := "isOf", desc := "(II)Z" } : Jvm.MethodName)) ∈ W0 := wm_of 406 (by decide +kernel) (by decide +kernel)
theorem wm407 : (Jvm.Cond.instanceMethod ({ cls := "TelescopeCourt", name := "isOf", desc := "(II)Z" } : Jvm.MethodName)) ∈ W0 := wm_of 407 (by decide +kernel) (by decide +kernel)
theorem wm408 : (Jvm.Cond.selects "TelescopeCourt" ({ cls := "TelescopeCourt", name := "isOf", desc := "(II)Z" } : Jvm.MethodName) ({ cls := "TelescopeCourt", name := "isOf", desc := "(II)Z" } : Jvm.MethodName)) ∈ W0 := wm_of 408 (by decide +kernel) (by decide +kernel)
theorem wm409 : (Jvm.Cond.code ({ cls := "TelescopeCourt", name := "isOf", desc := "(II)Z" } : Jvm.MethodName) prog_1_method_17_code (9 : Nat) (Option.some Jvm.ClassFile.FieldType.boolean)) ∈ W0 := wm_of 409 (by decide +kernel) (by decide +kernel)
theorem wm567 : (Jvm.Cond.methodLink "TelescopeCourtLaw" (197 : Nat) ({ cls := "TelescopeCourt", name := "isAccepted", desc := "(I)Z" } : Jvm.MethodName)) ∈ W0 := wm_of 567 (by decide +kernel) (by decide +kernel)
theorem wm568 : (Jvm.Cond.instanceMethod ({ cls := "TelescopeCourt", name := "isAccepted", desc := "(I)Z" } : Jvm.MethodName)) ∈ W0 := wm_of 568 (by decide +kernel) (by decide +kernel)
theorem wm569 : (Jvm.Cond.selects "TelescopeCourt" ({ cls := "TelescopeCourt", name := "isAccepted", desc := "(I)Z" } : Jvm.MethodName) ({ cls := "TelescopeCourt", name := "isAccepted", desc := "(I)Z" } : Jvm.MethodName)) ∈ W0 := wm_of 569 (by decide +kernel) (by decide +kernel)
theorem wm570 : (Jvm.Cond.code ({ cls := "TelescopeCourt", name := "isAccepted", desc := "(I)Z" } : Jvm.MethodName) prog_1_method_29_code (2 : Nat) (Option.some Jvm.ClassFile.FieldType.boolean)) ∈ W0 := wm_of 570 (by decide +kernel) (by decide +kernel)
theorem wm596 : (Jvm.Cond.methodLink "TelescopeCourtLaw" (207 : Nat) ({ cls := "TelescopeCourt", name := "allSteps", desc := "()J" } : Jvm.MethodName)) ∈ W0 := wm_of 596 (by decide +kernel) (by decide +kernel)
theorem wm597 : (Jvm.Cond.instanceMethod ({ cls := "TelescopeCourt", name := "allSteps", desc := "()J" } : Jvm.MethodName)) ∈ W0 := wm_of 597 (by decide +kernel) (by decide +kernel)
theorem wm598 : (Jvm.Cond.selects "TelescopeCourt" ({ cls := "TelescopeCourt", name := "allSteps", desc := "()J" } : Jvm.MethodName) ({ cls := "TelescopeCourt", name := "allSteps", desc := "()J" } : Jvm.MethodName)) ∈ W0 := wm_of 598 (by decide +kernel) (by decide +kernel)
theorem wm599 : (Jvm.Cond.code ({ cls := "TelescopeCourt", name := "allSteps", desc := "()J" } : Jvm.MethodName) prog_1_method_34_code (1 : Nat) (Option.some Jvm.ClassFile.FieldType.long)) ∈ W0 := wm_of 599 (by decide +kernel) (by decide +kernel)
theorem wm600 : (Jvm.Cond.methodLink "TelescopeCourtLaw" (215 : Nat) ({ cls := "TelescopeCourt", name := "isSound", desc := "()Z" } : Jvm.MethodName)) ∈ W0 := wm_of 600 (by decide +kernel) (by decide +kernel)
theorem wm601 : (Jvm.Cond.instanceMethod ({ cls := "TelescopeCourt", name := "isSound", desc := "()Z" } : Jvm.MethodName)) ∈ W0 := wm_of 601 (by decide +kernel) (by decide +kernel)
theorem wm602 : (Jvm.Cond.selects "TelescopeCourt" ({ cls := "TelescopeCourt", name := "isSound", desc := "()Z" } : Jvm.MethodName) ({ cls := "TelescopeCourt", name := "isSound", desc := "()Z" } : Jvm.MethodName)) ∈ W0 := wm_of 602 (by decide +kernel) (by decide +kernel)
theorem wm603 : (Jvm.Cond.code ({ cls := "TelescopeCourt", name := "isSound", desc := "()Z" } : Jvm.MethodName) prog_1_method_37_code (3 : Nat) (Option.some Jvm.ClassFile.FieldType.boolean)) ∈ W0 := wm_of 603 (by decide +kernel) (by decide +kernel)
theorem wm634 : (Jvm.Cond.methodLink "TelescopeCourtLaw" (168 : Nat) ({ cls := "TelescopeCourtLaw", name := "some", desc := "([III)I" } : Jvm.MethodName)) ∈ W0 := wm_of 634 (by decide +kernel) (by decide +kernel)
theorem wm635 : (Jvm.Cond.static ({ cls := "TelescopeCourtLaw", name := "some", desc := "([III)I" } : Jvm.MethodName)) ∈ W0 := wm_of 635 (by decide +kernel) (by decide +kernel)
theorem wm636 : (Jvm.Cond.code ({ cls := "TelescopeCourtLaw", name := "some", desc := "([III)I" } : Jvm.MethodName) method_3_code (3 : Nat) (Option.some Jvm.ClassFile.FieldType.int)) ∈ W0 := wm_of 636 (by decide +kernel) (by decide +kernel)
theorem wm759 : (Jvm.Cond.methodLink "TelescopeCourtLaw" (178 : Nat) ({ cls := "TelescopeCourtLaw", name := "constructorNode", desc := "(LTelescopeCourt;I)I" } : Jvm.MethodName)) ∈ W0 := wm_of 759 (by decide +kernel) (by decide +kernel)
theorem wm760 : (Jvm.Cond.static ({ cls := "TelescopeCourtLaw", name := "constructorNode", desc := "(LTelescopeCourt;I)I" } : Jvm.MethodName)) ∈ W0 := wm_of 760 (by decide +kernel) (by decide +kernel)
theorem wm775 : (Jvm.Cond.methodLink "TelescopeCourtLaw" (172 : Nat) ({ cls := "TelescopeCourtLaw", name := "addData", desc := "(LTelescopeCourt;)I" } : Jvm.MethodName)) ∈ W0 := wm_of 775 (by decide +kernel) (by decide +kernel)
theorem wm776 : (Jvm.Cond.static ({ cls := "TelescopeCourtLaw", name := "addData", desc := "(LTelescopeCourt;)I" } : Jvm.MethodName)) ∈ W0 := wm_of 776 (by decide +kernel) (by decide +kernel)
theorem wm836 : (Jvm.Cond.methodLink "TelescopeCourtLaw" (181 : Nat) ({ cls := "TelescopeCourtLaw", name := "typeOf", desc := "(LTelescopeCourt;I)I" } : Jvm.MethodName)) ∈ W0 := wm_of 836 (by decide +kernel) (by decide +kernel)
theorem wm837 : (Jvm.Cond.static ({ cls := "TelescopeCourtLaw", name := "typeOf", desc := "(LTelescopeCourt;I)I" } : Jvm.MethodName)) ∈ W0 := wm_of 837 (by decide +kernel) (by decide +kernel)
theorem wm843 : (Jvm.Cond.methodLink "TelescopeCourtLaw" (183 : Nat) ({ cls := "TelescopeCourtLaw", name := "level", desc := "(LTelescopeCourt;I)I" } : Jvm.MethodName)) ∈ W0 := wm_of 843 (by decide +kernel) (by decide +kernel)
theorem wm844 : (Jvm.Cond.static ({ cls := "TelescopeCourtLaw", name := "level", desc := "(LTelescopeCourt;I)I" } : Jvm.MethodName)) ∈ W0 := wm_of 844 (by decide +kernel) (by decide +kernel)
