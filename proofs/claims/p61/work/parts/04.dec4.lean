theorem dL_acts_175 : decode cL_acts 175 = .ok (.irem, 1) := by decide +kernel
theorem dL_acts_176 : decode cL_acts 176 = .ok (.iadd, 1) := by decide +kernel
theorem dL_acts_177 : decode cL_acts 177 = .ok (.invokestatic 112, 3) := by decide +kernel
theorem dL_acts_180 : decode cL_acts 180 = .ok (.ireturn, 1) := by decide +kernel
theorem dL_acts_181 : decode cL_acts 181 = .ok (.aload_n 0, 1) := by decide +kernel
theorem dL_acts_182 : decode cL_acts 182 = .ok (.iload 5, 2) := by decide +kernel
theorem dL_acts_184 : decode cL_acts 184 = .ok (.bipush 7, 2) := by decide +kernel
theorem dL_acts_186 : decode cL_acts 186 = .ok (.irem, 1) := by decide +kernel
theorem dL_acts_187 : decode cL_acts 187 = .ok (.ifCond .ne 11, 3) := by decide +kernel
theorem dL_acts_190 : decode cL_acts 190 = .ok (.bipush 6, 2) := by decide +kernel
theorem dL_acts_192 : decode cL_acts 192 = .ok (.iload 5, 2) := by decide +kernel
theorem dL_acts_194 : decode cL_acts 194 = .ok (.imul, 1) := by decide +kernel
theorem dL_acts_195 : decode cL_acts 195 = .ok (.goto 10, 3) := by decide +kernel
theorem dL_acts_198 : decode cL_acts 198 = .ok (.iconst 1, 1) := by decide +kernel
theorem dL_acts_199 : decode cL_acts 199 = .ok (.iload 5, 2) := by decide +kernel
theorem dL_acts_201 : decode cL_acts 201 = .ok (.bipush 60, 2) := by decide +kernel
theorem dL_acts_203 : decode cL_acts 203 = .ok (.irem, 1) := by decide +kernel
theorem dL_acts_204 : decode cL_acts 204 = .ok (.iadd, 1) := by decide +kernel
theorem dL_acts_205 : decode cL_acts 205 = .ok (.iload 5, 2) := by decide +kernel
theorem dL_acts_207 : decode cL_acts 207 = .ok (.bipush 9, 2) := by decide +kernel
theorem dL_acts_209 : decode cL_acts 209 = .ok (.irem, 1) := by decide +kernel
theorem dL_acts_210 : decode cL_acts 210 = .ok (.ifCond .ne 8, 3) := by decide +kernel
theorem dL_acts_213 : decode cL_acts 213 = .ok (.iload 4, 2) := by decide +kernel
theorem dL_acts_215 : decode cL_acts 215 = .ok (.goto 11, 3) := by decide +kernel
theorem dL_acts_218 : decode cL_acts 218 = .ok (.bipush 10, 2) := by decide +kernel
theorem dL_acts_220 : decode cL_acts 220 = .ok (.iload 4, 2) := by decide +kernel
theorem dL_acts_222 : decode cL_acts 222 = .ok (.bipush 40, 2) := by decide +kernel
theorem dL_acts_224 : decode cL_acts 224 = .ok (.irem, 1) := by decide +kernel
theorem dL_acts_225 : decode cL_acts 225 = .ok (.iadd, 1) := by decide +kernel
theorem dL_acts_226 : decode cL_acts 226 = .ok (.invokestatic 115, 3) := by decide +kernel
theorem dL_acts_229 : decode cL_acts 229 = .ok (.ireturn, 1) := by decide +kernel
theorem dL_acts_230 : decode cL_acts 230 = .ok (.aload_n 0, 1) := by decide +kernel
theorem dL_acts_231 : decode cL_acts 231 = .ok (.iload 4, 2) := by decide +kernel
theorem dL_acts_233 : decode cL_acts 233 = .ok (.bipush 42, 2) := by decide +kernel
theorem dL_acts_235 : decode cL_acts 235 = .ok (.irem, 1) := by decide +kernel
theorem dL_acts_236 : decode cL_acts 236 = .ok (.iload_n 3, 1) := by decide +kernel
theorem dL_acts_237 : decode cL_acts 237 = .ok (.invokestatic 118, 3) := by decide +kernel
theorem dL_acts_240 : decode cL_acts 240 = .ok (.ireturn, 1) := by decide +kernel
theorem dL_acts_241 : decode cL_acts 241 = .ok (.aload_n 0, 1) := by decide +kernel
theorem dL_acts_242 : decode cL_acts 242 = .ok (.aload_n 0, 1) := by decide +kernel
theorem dL_acts_243 : decode cL_acts 243 = .ok (.iload_n 3, 1) := by decide +kernel
theorem dL_acts_244 : decode cL_acts 244 = .ok (.invokestatic 138, 3) := by decide +kernel
theorem dL_acts_247 : decode cL_acts 247 = .ok (.invokestatic 141, 3) := by decide +kernel
theorem dL_acts_250 : decode cL_acts 250 = .ok (.ireturn, 1) := by decide +kernel
theorem dL_acts_251 : decode cL_acts 251 = .ok (.aload_n 0, 1) := by decide +kernel
theorem dL_acts_252 : decode cL_acts 252 = .ok (.iload_n 3, 1) := by decide +kernel
theorem dL_acts_253 : decode cL_acts 253 = .ok (.iconst 5, 1) := by decide +kernel
theorem dL_acts_254 : decode cL_acts 254 = .ok (.irem, 1) := by decide +kernel
theorem dL_acts_255 : decode cL_acts 255 = .ok (.invokestatic 123, 3) := by decide +kernel
theorem dL_acts_258 : decode cL_acts 258 = .ok (.ireturn, 1) := by decide +kernel
theorem dL_acts_259 : decode cL_acts 259 = .ok (.aload_n 0, 1) := by decide +kernel
theorem dL_acts_260 : decode cL_acts 260 = .ok (.aload_n 0, 1) := by decide +kernel
theorem dL_acts_261 : decode cL_acts 261 = .ok (.iload_n 3, 1) := by decide +kernel
theorem dL_acts_262 : decode cL_acts 262 = .ok (.invokestatic 138, 3) := by decide +kernel
theorem dL_acts_265 : decode cL_acts 265 = .ok (.invokestatic 120, 3) := by decide +kernel
theorem dL_acts_268 : decode cL_acts 268 = .ok (.ireturn, 1) := by decide +kernel
theorem dL_acts_269 : decode cL_acts 269 = .ok (.aload_n 0, 1) := by decide +kernel
theorem dL_acts_270 : decode cL_acts 270 = .ok (.iload_n 3, 1) := by decide +kernel
theorem dL_acts_271 : decode cL_acts 271 = .ok (.iconst 1, 1) := by decide +kernel
theorem dL_acts_272 : decode cL_acts 272 = .ok (.isub, 1) := by decide +kernel
theorem dL_acts_273 : decode cL_acts 273 = .ok (.invokestatic 143, 3) := by decide +kernel
theorem dL_acts_276 : decode cL_acts 276 = .ok (.ireturn, 1) := by decide +kernel
theorem dL_acts_277 : decode cL_acts 277 = .ok (.aload_n 0, 1) := by decide +kernel
theorem dL_acts_278 : decode cL_acts 278 = .ok (.invokestatic 145, 3) := by decide +kernel
theorem dL_acts_281 : decode cL_acts 281 = .ok (.ireturn, 1) := by decide +kernel
theorem dL_acts_282 : decode cL_acts 282 = .ok (.aload_n 0, 1) := by decide +kernel
theorem dL_acts_283 : decode cL_acts 283 = .ok (.iload_n 3, 1) := by decide +kernel
theorem dL_acts_284 : decode cL_acts 284 = .ok (.invokestatic 147, 3) := by decide +kernel
theorem dL_acts_287 : decode cL_acts 287 = .ok (.ireturn, 1) := by decide +kernel
theorem dL_acts_288 : decode cL_acts 288 = .ok (.aload_n 0, 1) := by decide +kernel
theorem dL_acts_289 : decode cL_acts 289 = .ok (.iload 5, 2) := by decide +kernel
theorem dL_acts_291 : decode cL_acts 291 = .ok (.iconst 4, 1) := by decide +kernel
theorem dL_acts_292 : decode cL_acts 292 = .ok (.irem, 1) := by decide +kernel
theorem dL_acts_293 : decode cL_acts 293 = .ok (.ifCond .ne 47, 3) := by decide +kernel
theorem dL_acts_296 : decode cL_acts 296 = .ok (.new 149, 3) := by decide +kernel
theorem dL_acts_299 : decode cL_acts 299 = .ok (.dup, 1) := by decide +kernel
theorem dL_acts_300 : decode cL_acts 300 = .ok (.invokespecial 151, 3) := by decide +kernel
theorem dL_acts_303 : decode cL_acts 303 = .ok (.ldc 152, 2) := by decide +kernel
theorem dL_acts_305 : decode cL_acts 305 = .ok (.invokevirtual 154, 3) := by decide +kernel
theorem dL_acts_308 : decode cL_acts 308 = .ok (.iconst 1, 1) := by decide +kernel
theorem dL_acts_309 : decode cL_acts 309 = .ok (.iload 4, 2) := by decide +kernel
theorem dL_acts_311 : decode cL_acts 311 = .ok (.bipush 50, 2) := by decide +kernel
theorem dL_acts_313 : decode cL_acts 313 = .ok (.irem, 1) := by decide +kernel
theorem dL_acts_314 : decode cL_acts 314 = .ok (.iadd, 1) := by decide +kernel
theorem dL_acts_315 : decode cL_acts 315 = .ok (.invokevirtual 158, 3) := by decide +kernel
theorem dL_acts_318 : decode cL_acts 318 = .ok (.ldc 161, 2) := by decide +kernel
theorem dL_acts_320 : decode cL_acts 320 = .ok (.invokevirtual 154, 3) := by decide +kernel
theorem dL_acts_323 : decode cL_acts 323 = .ok (.iconst 1, 1) := by decide +kernel
theorem dL_acts_324 : decode cL_acts 324 = .ok (.iload_n 3, 1) := by decide +kernel
theorem dL_acts_325 : decode cL_acts 325 = .ok (.iadd, 1) := by decide +kernel
theorem dL_acts_326 : decode cL_acts 326 = .ok (.invokevirtual 158, 3) := by decide +kernel
theorem dL_acts_329 : decode cL_acts 329 = .ok (.ldc 163, 2) := by decide +kernel
theorem dL_acts_331 : decode cL_acts 331 = .ok (.invokevirtual 154, 3) := by decide +kernel
theorem dL_acts_334 : decode cL_acts 334 = .ok (.invokevirtual 165, 3) := by decide +kernel
theorem dL_acts_337 : decode cL_acts 337 = .ok (.goto 109, 3) := by decide +kernel
theorem dL_acts_340 : decode cL_acts 340 = .ok (.iload 5, 2) := by decide +kernel
theorem dL_acts_342 : decode cL_acts 342 = .ok (.iconst 4, 1) := by decide +kernel
theorem dL_acts_343 : decode cL_acts 343 = .ok (.irem, 1) := by decide +kernel
theorem dL_acts_344 : decode cL_acts 344 = .ok (.iconst 1, 1) := by decide +kernel
theorem dL_acts_345 : decode cL_acts 345 = .ok (.if_icmp .ne 40, 3) := by decide +kernel
theorem dL_acts_348 : decode cL_acts 348 = .ok (.new 149, 3) := by decide +kernel
theorem dL_acts_351 : decode cL_acts 351 = .ok (.dup, 1) := by decide +kernel
theorem dL_acts_352 : decode cL_acts 352 = .ok (.invokespecial 151, 3) := by decide +kernel
theorem dL_acts_355 : decode cL_acts 355 = .ok (.ldc 169, 2) := by decide +kernel
theorem dL_acts_357 : decode cL_acts 357 = .ok (.invokevirtual 154, 3) := by decide +kernel
theorem dL_acts_360 : decode cL_acts 360 = .ok (.iconst 1, 1) := by decide +kernel
theorem dL_acts_361 : decode cL_acts 361 = .ok (.iload_n 3, 1) := by decide +kernel
theorem dL_acts_362 : decode cL_acts 362 = .ok (.iadd, 1) := by decide +kernel
theorem dL_acts_363 : decode cL_acts 363 = .ok (.invokevirtual 158, 3) := by decide +kernel
theorem dL_acts_366 : decode cL_acts 366 = .ok (.ldc 171, 2) := by decide +kernel
theorem dL_acts_368 : decode cL_acts 368 = .ok (.invokevirtual 154, 3) := by decide +kernel
theorem dL_acts_371 : decode cL_acts 371 = .ok (.aload_n 0, 1) := by decide +kernel
theorem dL_acts_372 : decode cL_acts 372 = .ok (.iload_n 3, 1) := by decide +kernel
theorem dL_acts_373 : decode cL_acts 373 = .ok (.invokestatic 138, 3) := by decide +kernel
theorem dL_acts_376 : decode cL_acts 376 = .ok (.invokevirtual 158, 3) := by decide +kernel
theorem dL_acts_379 : decode cL_acts 379 = .ok (.invokevirtual 165, 3) := by decide +kernel
theorem dL_acts_382 : decode cL_acts 382 = .ok (.goto 64, 3) := by decide +kernel
theorem dL_acts_385 : decode cL_acts 385 = .ok (.iload 5, 2) := by decide +kernel
theorem dL_acts_387 : decode cL_acts 387 = .ok (.iconst 4, 1) := by decide +kernel
theorem dL_acts_388 : decode cL_acts 388 = .ok (.irem, 1) := by decide +kernel
theorem dL_acts_389 : decode cL_acts 389 = .ok (.iconst 2, 1) := by decide +kernel
theorem dL_acts_390 : decode cL_acts 390 = .ok (.if_icmp .ne 30, 3) := by decide +kernel
theorem dL_acts_393 : decode cL_acts 393 = .ok (.new 149, 3) := by decide +kernel
theorem dL_acts_396 : decode cL_acts 396 = .ok (.dup, 1) := by decide +kernel
theorem dL_acts_397 : decode cL_acts 397 = .ok (.invokespecial 151, 3) := by decide +kernel
theorem dL_acts_400 : decode cL_acts 400 = .ok (.ldc 173, 2) := by decide +kernel
theorem dL_acts_402 : decode cL_acts 402 = .ok (.invokevirtual 154, 3) := by decide +kernel
theorem dL_acts_405 : decode cL_acts 405 = .ok (.iload_n 3, 1) := by decide +kernel
theorem dL_acts_406 : decode cL_acts 406 = .ok (.invokevirtual 158, 3) := by decide +kernel
theorem dL_acts_409 : decode cL_acts 409 = .ok (.ldc 175, 2) := by decide +kernel
theorem dL_acts_411 : decode cL_acts 411 = .ok (.invokevirtual 154, 3) := by decide +kernel
theorem dL_acts_414 : decode cL_acts 414 = .ok (.invokevirtual 165, 3) := by decide +kernel
theorem dL_acts_417 : decode cL_acts 417 = .ok (.goto 29, 3) := by decide +kernel
theorem dL_acts_420 : decode cL_acts 420 = .ok (.new 149, 3) := by decide +kernel
theorem dL_acts_423 : decode cL_acts 423 = .ok (.dup, 1) := by decide +kernel
theorem dL_acts_424 : decode cL_acts 424 = .ok (.invokespecial 151, 3) := by decide +kernel
theorem dL_acts_427 : decode cL_acts 427 = .ok (.ldc 177, 2) := by decide +kernel
theorem dL_acts_429 : decode cL_acts 429 = .ok (.invokevirtual 154, 3) := by decide +kernel
theorem dL_acts_432 : decode cL_acts 432 = .ok (.iload_n 3, 1) := by decide +kernel
theorem dL_acts_433 : decode cL_acts 433 = .ok (.iconst 4, 1) := by decide +kernel
theorem dL_acts_434 : decode cL_acts 434 = .ok (.irem, 1) := by decide +kernel
theorem dL_acts_435 : decode cL_acts 435 = .ok (.invokevirtual 158, 3) := by decide +kernel
theorem dL_acts_438 : decode cL_acts 438 = .ok (.ldc 179, 2) := by decide +kernel
theorem dL_acts_440 : decode cL_acts 440 = .ok (.invokevirtual 154, 3) := by decide +kernel
theorem dL_acts_443 : decode cL_acts 443 = .ok (.invokevirtual 165, 3) := by decide +kernel
theorem dL_acts_446 : decode cL_acts 446 = .ok (.invokestatic 181, 3) := by decide +kernel
theorem dL_acts_449 : decode cL_acts 449 = .ok (.ireturn, 1) := by decide +kernel
theorem dL_seen_0 : decode cL_seen 0 = .ok (.bipush 110, 2) := by decide +kernel
theorem dL_seen_2 : decode cL_seen 2 = .ok (.newarray .int, 2) := by decide +kernel
theorem dL_seen_4 : decode cL_seen 4 = .ok (.astore_n 1, 1) := by decide +kernel
theorem dL_seen_5 : decode cL_seen 5 = .ok (.aload_n 1, 1) := by decide +kernel
theorem dL_seen_6 : decode cL_seen 6 = .ok (.iconst 0, 1) := by decide +kernel
theorem dL_seen_7 : decode cL_seen 7 = .ok (.aload_n 0, 1) := by decide +kernel
theorem dL_seen_8 : decode cL_seen 8 = .ok (.invokevirtual 185, 3) := by decide +kernel
theorem dL_seen_11 : decode cL_seen 11 = .ok (.iastore, 1) := by decide +kernel
theorem dL_seen_12 : decode cL_seen 12 = .ok (.aload_n 1, 1) := by decide +kernel
theorem dL_seen_13 : decode cL_seen 13 = .ok (.iconst 1, 1) := by decide +kernel
theorem dL_seen_14 : decode cL_seen 14 = .ok (.aload_n 0, 1) := by decide +kernel
theorem dL_seen_15 : decode cL_seen 15 = .ok (.invokevirtual 188, 3) := by decide +kernel
theorem dL_seen_18 : decode cL_seen 18 = .ok (.iastore, 1) := by decide +kernel
theorem dL_seen_19 : decode cL_seen 19 = .ok (.aload_n 1, 1) := by decide +kernel
theorem dL_seen_20 : decode cL_seen 20 = .ok (.iconst 2, 1) := by decide +kernel
theorem dL_seen_21 : decode cL_seen 21 = .ok (.aload_n 0, 1) := by decide +kernel
theorem dL_seen_22 : decode cL_seen 22 = .ok (.invokevirtual 191, 3) := by decide +kernel
theorem dL_seen_25 : decode cL_seen 25 = .ok (.iastore, 1) := by decide +kernel
theorem dL_seen_26 : decode cL_seen 26 = .ok (.aload_n 1, 1) := by decide +kernel
theorem dL_seen_27 : decode cL_seen 27 = .ok (.iconst 3, 1) := by decide +kernel
theorem dL_seen_28 : decode cL_seen 28 = .ok (.aload_n 0, 1) := by decide +kernel
theorem dL_seen_29 : decode cL_seen 29 = .ok (.invokevirtual 194, 3) := by decide +kernel
theorem dL_seen_32 : decode cL_seen 32 = .ok (.iastore, 1) := by decide +kernel
theorem dL_seen_33 : decode cL_seen 33 = .ok (.aload_n 1, 1) := by decide +kernel
theorem dL_seen_34 : decode cL_seen 34 = .ok (.iconst 4, 1) := by decide +kernel
theorem dL_seen_35 : decode cL_seen 35 = .ok (.aload_n 0, 1) := by decide +kernel
theorem dL_seen_36 : decode cL_seen 36 = .ok (.invokevirtual 197, 3) := by decide +kernel
theorem dL_seen_39 : decode cL_seen 39 = .ok (.iastore, 1) := by decide +kernel
theorem dL_seen_40 : decode cL_seen 40 = .ok (.aload_n 1, 1) := by decide +kernel
theorem dL_seen_41 : decode cL_seen 41 = .ok (.iconst 5, 1) := by decide +kernel
theorem dL_seen_42 : decode cL_seen 42 = .ok (.aload_n 0, 1) := by decide +kernel
theorem dL_seen_43 : decode cL_seen 43 = .ok (.invokevirtual 200, 3) := by decide +kernel
theorem dL_seen_46 : decode cL_seen 46 = .ok (.iastore, 1) := by decide +kernel
theorem dL_seen_47 : decode cL_seen 47 = .ok (.aload_n 1, 1) := by decide +kernel
theorem dL_seen_48 : decode cL_seen 48 = .ok (.bipush 6, 2) := by decide +kernel
theorem dL_seen_50 : decode cL_seen 50 = .ok (.aload_n 0, 1) := by decide +kernel
theorem dL_seen_51 : decode cL_seen 51 = .ok (.invokevirtual 203, 3) := by decide +kernel
theorem dL_seen_54 : decode cL_seen 54 = .ok (.iastore, 1) := by decide +kernel
theorem dL_seen_55 : decode cL_seen 55 = .ok (.aload_n 1, 1) := by decide +kernel
theorem dL_seen_56 : decode cL_seen 56 = .ok (.bipush 7, 2) := by decide +kernel
theorem dL_seen_58 : decode cL_seen 58 = .ok (.aload_n 0, 1) := by decide +kernel
theorem dL_seen_59 : decode cL_seen 59 = .ok (.invokevirtual 126, 3) := by decide +kernel
theorem dL_seen_62 : decode cL_seen 62 = .ok (.iastore, 1) := by decide +kernel
theorem dL_seen_63 : decode cL_seen 63 = .ok (.aload_n 1, 1) := by decide +kernel
theorem dL_seen_64 : decode cL_seen 64 = .ok (.bipush 8, 2) := by decide +kernel
theorem dL_seen_66 : decode cL_seen 66 = .ok (.aload_n 0, 1) := by decide +kernel
theorem dL_seen_67 : decode cL_seen 67 = .ok (.invokevirtual 132, 3) := by decide +kernel
theorem dL_seen_70 : decode cL_seen 70 = .ok (.iastore, 1) := by decide +kernel
theorem dL_seen_71 : decode cL_seen 71 = .ok (.aload_n 1, 1) := by decide +kernel
theorem dL_seen_72 : decode cL_seen 72 = .ok (.bipush 9, 2) := by decide +kernel
theorem dL_seen_74 : decode cL_seen 74 = .ok (.aload_n 0, 1) := by decide +kernel
theorem dL_seen_75 : decode cL_seen 75 = .ok (.invokevirtual 206, 3) := by decide +kernel
theorem dL_seen_78 : decode cL_seen 78 = .ok (.iastore, 1) := by decide +kernel
theorem dL_seen_79 : decode cL_seen 79 = .ok (.iconst 0, 1) := by decide +kernel
theorem dL_seen_80 : decode cL_seen 80 = .ok (.istore_n 2, 1) := by decide +kernel
theorem dL_seen_81 : decode cL_seen 81 = .ok (.iload_n 2, 1) := by decide +kernel
theorem dL_seen_82 : decode cL_seen 82 = .ok (.aload_n 0, 1) := by decide +kernel
theorem dL_seen_83 : decode cL_seen 83 = .ok (.invokevirtual 126, 3) := by decide +kernel
theorem dL_seen_86 : decode cL_seen 86 = .ok (.if_icmp .ge 63, 3) := by decide +kernel
theorem dL_seen_89 : decode cL_seen 89 = .ok (.aload_n 0, 1) := by decide +kernel
theorem dL_seen_90 : decode cL_seen 90 = .ok (.iload_n 2, 1) := by decide +kernel
theorem dL_seen_91 : decode cL_seen 91 = .ok (.invokevirtual 129, 3) := by decide +kernel
theorem dL_seen_94 : decode cL_seen 94 = .ok (.istore_n 3, 1) := by decide +kernel
theorem dL_seen_95 : decode cL_seen 95 = .ok (.aload_n 1, 1) := by decide +kernel
theorem dL_seen_96 : decode cL_seen 96 = .ok (.bipush 10, 2) := by decide +kernel
theorem dL_seen_98 : decode cL_seen 98 = .ok (.iconst 4, 1) := by decide +kernel
theorem dL_seen_99 : decode cL_seen 99 = .ok (.iload_n 2, 1) := by decide +kernel
theorem dL_seen_100 : decode cL_seen 100 = .ok (.imul, 1) := by decide +kernel
theorem dL_seen_101 : decode cL_seen 101 = .ok (.iadd, 1) := by decide +kernel
theorem dL_seen_102 : decode cL_seen 102 = .ok (.iload_n 3, 1) := by decide +kernel
theorem dL_seen_103 : decode cL_seen 103 = .ok (.iastore, 1) := by decide +kernel
theorem dL_seen_104 : decode cL_seen 104 = .ok (.aload_n 1, 1) := by decide +kernel
theorem dL_seen_105 : decode cL_seen 105 = .ok (.bipush 11, 2) := by decide +kernel
theorem dL_seen_107 : decode cL_seen 107 = .ok (.iconst 4, 1) := by decide +kernel
theorem dL_seen_108 : decode cL_seen 108 = .ok (.iload_n 2, 1) := by decide +kernel
theorem dL_seen_109 : decode cL_seen 109 = .ok (.imul, 1) := by decide +kernel
theorem dL_seen_110 : decode cL_seen 110 = .ok (.iadd, 1) := by decide +kernel
theorem dL_seen_111 : decode cL_seen 111 = .ok (.aload_n 0, 1) := by decide +kernel
theorem dL_seen_112 : decode cL_seen 112 = .ok (.iload_n 3, 1) := by decide +kernel
theorem dL_seen_113 : decode cL_seen 113 = .ok (.invokevirtual 209, 3) := by decide +kernel
theorem dL_seen_116 : decode cL_seen 116 = .ok (.iastore, 1) := by decide +kernel
theorem dL_seen_117 : decode cL_seen 117 = .ok (.aload_n 1, 1) := by decide +kernel
theorem dL_seen_118 : decode cL_seen 118 = .ok (.bipush 12, 2) := by decide +kernel
theorem dL_seen_120 : decode cL_seen 120 = .ok (.iconst 4, 1) := by decide +kernel
theorem dL_seen_121 : decode cL_seen 121 = .ok (.iload_n 2, 1) := by decide +kernel
theorem dL_seen_122 : decode cL_seen 122 = .ok (.imul, 1) := by decide +kernel
theorem dL_seen_123 : decode cL_seen 123 = .ok (.iadd, 1) := by decide +kernel
theorem dL_seen_124 : decode cL_seen 124 = .ok (.aload_n 0, 1) := by decide +kernel
theorem dL_seen_125 : decode cL_seen 125 = .ok (.iload_n 3, 1) := by decide +kernel
theorem dL_seen_126 : decode cL_seen 126 = .ok (.invokevirtual 212, 3) := by decide +kernel
theorem dL_seen_129 : decode cL_seen 129 = .ok (.iastore, 1) := by decide +kernel
theorem dL_seen_130 : decode cL_seen 130 = .ok (.aload_n 1, 1) := by decide +kernel
theorem dL_seen_131 : decode cL_seen 131 = .ok (.bipush 13, 2) := by decide +kernel
theorem dL_seen_133 : decode cL_seen 133 = .ok (.iconst 4, 1) := by decide +kernel
theorem dL_seen_134 : decode cL_seen 134 = .ok (.iload_n 2, 1) := by decide +kernel
theorem dL_seen_135 : decode cL_seen 135 = .ok (.imul, 1) := by decide +kernel
theorem dL_seen_136 : decode cL_seen 136 = .ok (.iadd, 1) := by decide +kernel
theorem dL_seen_137 : decode cL_seen 137 = .ok (.aload_n 0, 1) := by decide +kernel
theorem dL_seen_138 : decode cL_seen 138 = .ok (.iload_n 3, 1) := by decide +kernel
theorem dL_seen_139 : decode cL_seen 139 = .ok (.invokevirtual 215, 3) := by decide +kernel
theorem dL_seen_142 : decode cL_seen 142 = .ok (.iastore, 1) := by decide +kernel
theorem dL_seen_143 : decode cL_seen 143 = .ok (.iinc 2 1, 3) := by decide +kernel
theorem dL_seen_146 : decode cL_seen 146 = .ok (.goto (-65), 3) := by decide +kernel
theorem dL_seen_149 : decode cL_seen 149 = .ok (.iconst 0, 1) := by decide +kernel
theorem dL_seen_150 : decode cL_seen 150 = .ok (.istore_n 2, 1) := by decide +kernel
theorem dL_seen_151 : decode cL_seen 151 = .ok (.iload_n 2, 1) := by decide +kernel
theorem dL_seen_152 : decode cL_seen 152 = .ok (.aload_n 0, 1) := by decide +kernel
theorem dL_seen_153 : decode cL_seen 153 = .ok (.invokevirtual 132, 3) := by decide +kernel
theorem dL_seen_156 : decode cL_seen 156 = .ok (.if_icmp .ge 71, 3) := by decide +kernel
theorem dL_seen_159 : decode cL_seen 159 = .ok (.aload_n 0, 1) := by decide +kernel
theorem dL_seen_160 : decode cL_seen 160 = .ok (.iload_n 2, 1) := by decide +kernel
theorem dL_seen_161 : decode cL_seen 161 = .ok (.invokevirtual 135, 3) := by decide +kernel
theorem dL_seen_164 : decode cL_seen 164 = .ok (.istore_n 3, 1) := by decide +kernel
theorem dL_seen_165 : decode cL_seen 165 = .ok (.aload_n 1, 1) := by decide +kernel
theorem dL_seen_166 : decode cL_seen 166 = .ok (.bipush 52, 2) := by decide +kernel
theorem dL_seen_168 : decode cL_seen 168 = .ok (.iconst 4, 1) := by decide +kernel
theorem dL_seen_169 : decode cL_seen 169 = .ok (.iload_n 2, 1) := by decide +kernel
theorem dL_seen_170 : decode cL_seen 170 = .ok (.imul, 1) := by decide +kernel
theorem dL_seen_171 : decode cL_seen 171 = .ok (.iadd, 1) := by decide +kernel
theorem dL_seen_172 : decode cL_seen 172 = .ok (.iload_n 3, 1) := by decide +kernel
theorem dL_seen_173 : decode cL_seen 173 = .ok (.iastore, 1) := by decide +kernel
theorem dL_seen_174 : decode cL_seen 174 = .ok (.aload_n 1, 1) := by decide +kernel
theorem dL_seen_175 : decode cL_seen 175 = .ok (.bipush 53, 2) := by decide +kernel
theorem dL_seen_177 : decode cL_seen 177 = .ok (.iconst 4, 1) := by decide +kernel
theorem dL_seen_178 : decode cL_seen 178 = .ok (.iload_n 2, 1) := by decide +kernel
theorem dL_seen_179 : decode cL_seen 179 = .ok (.imul, 1) := by decide +kernel
theorem dL_seen_180 : decode cL_seen 180 = .ok (.iadd, 1) := by decide +kernel
theorem dL_seen_181 : decode cL_seen 181 = .ok (.aload_n 0, 1) := by decide +kernel
theorem dL_seen_182 : decode cL_seen 182 = .ok (.iload_n 3, 1) := by decide +kernel
theorem dL_seen_183 : decode cL_seen 183 = .ok (.invokevirtual 218, 3) := by decide +kernel
theorem dL_seen_186 : decode cL_seen 186 = .ok (.iastore, 1) := by decide +kernel
theorem dL_seen_187 : decode cL_seen 187 = .ok (.aload_n 1, 1) := by decide +kernel
theorem dL_seen_188 : decode cL_seen 188 = .ok (.bipush 54, 2) := by decide +kernel
theorem dL_seen_190 : decode cL_seen 190 = .ok (.iconst 4, 1) := by decide +kernel
theorem dL_seen_191 : decode cL_seen 191 = .ok (.iload_n 2, 1) := by decide +kernel
theorem dL_seen_192 : decode cL_seen 192 = .ok (.imul, 1) := by decide +kernel
theorem dL_seen_193 : decode cL_seen 193 = .ok (.iadd, 1) := by decide +kernel
theorem dL_seen_194 : decode cL_seen 194 = .ok (.aload_n 0, 1) := by decide +kernel
theorem dL_seen_195 : decode cL_seen 195 = .ok (.iload_n 3, 1) := by decide +kernel
theorem dL_seen_196 : decode cL_seen 196 = .ok (.invokevirtual 221, 3) := by decide +kernel
theorem dL_seen_199 : decode cL_seen 199 = .ok (.iastore, 1) := by decide +kernel
theorem dL_seen_200 : decode cL_seen 200 = .ok (.aload_n 1, 1) := by decide +kernel
theorem dL_seen_201 : decode cL_seen 201 = .ok (.bipush 55, 2) := by decide +kernel
theorem dL_seen_203 : decode cL_seen 203 = .ok (.iconst 4, 1) := by decide +kernel
theorem dL_seen_204 : decode cL_seen 204 = .ok (.iload_n 2, 1) := by decide +kernel
theorem dL_seen_205 : decode cL_seen 205 = .ok (.imul, 1) := by decide +kernel
theorem dL_seen_206 : decode cL_seen 206 = .ok (.iadd, 1) := by decide +kernel
theorem dL_seen_207 : decode cL_seen 207 = .ok (.aload_n 0, 1) := by decide +kernel
theorem dL_seen_208 : decode cL_seen 208 = .ok (.iload_n 3, 1) := by decide +kernel
theorem dL_seen_209 : decode cL_seen 209 = .ok (.invokevirtual 224, 3) := by decide +kernel
theorem dL_seen_212 : decode cL_seen 212 = .ok (.ifCond .eq 7, 3) := by decide +kernel
theorem dL_seen_215 : decode cL_seen 215 = .ok (.iconst 1, 1) := by decide +kernel
theorem dL_seen_216 : decode cL_seen 216 = .ok (.goto 4, 3) := by decide +kernel
theorem dL_seen_219 : decode cL_seen 219 = .ok (.iconst 0, 1) := by decide +kernel
theorem dL_seen_220 : decode cL_seen 220 = .ok (.iastore, 1) := by decide +kernel
theorem dL_seen_221 : decode cL_seen 221 = .ok (.iinc 2 1, 3) := by decide +kernel
theorem dL_seen_224 : decode cL_seen 224 = .ok (.goto (-73), 3) := by decide +kernel
theorem dL_seen_227 : decode cL_seen 227 = .ok (.iconst 0, 1) := by decide +kernel
theorem dL_seen_228 : decode cL_seen 228 = .ok (.istore_n 2, 1) := by decide +kernel
theorem dL_seen_229 : decode cL_seen 229 = .ok (.iload_n 2, 1) := by decide +kernel
theorem dL_seen_230 : decode cL_seen 230 = .ok (.aload_n 0, 1) := by decide +kernel
theorem dL_seen_231 : decode cL_seen 231 = .ok (.invokevirtual 206, 3) := by decide +kernel
theorem dL_seen_234 : decode cL_seen 234 = .ok (.if_icmp .ge 20, 3) := by decide +kernel
theorem dL_seen_237 : decode cL_seen 237 = .ok (.aload_n 1, 1) := by decide +kernel
theorem dL_seen_238 : decode cL_seen 238 = .ok (.bipush 90, 2) := by decide +kernel
theorem dL_seen_240 : decode cL_seen 240 = .ok (.iload_n 2, 1) := by decide +kernel
theorem dL_seen_241 : decode cL_seen 241 = .ok (.iadd, 1) := by decide +kernel
theorem dL_seen_242 : decode cL_seen 242 = .ok (.aload_n 0, 1) := by decide +kernel
theorem dL_seen_243 : decode cL_seen 243 = .ok (.iload_n 2, 1) := by decide +kernel
theorem dL_seen_244 : decode cL_seen 244 = .ok (.invokevirtual 228, 3) := by decide +kernel
theorem dL_seen_247 : decode cL_seen 247 = .ok (.iastore, 1) := by decide +kernel
theorem dL_seen_248 : decode cL_seen 248 = .ok (.iinc 2 1, 3) := by decide +kernel
theorem dL_seen_251 : decode cL_seen 251 = .ok (.goto (-22), 3) := by decide +kernel
theorem dL_seen_254 : decode cL_seen 254 = .ok (.aload_n 1, 1) := by decide +kernel
theorem dL_seen_255 : decode cL_seen 255 = .ok (.areturn, 1) := by decide +kernel
theorem dL_areAlike_0 : decode cL_areAlike 0 = .ok (.iconst 0, 1) := by decide +kernel
theorem dL_areAlike_1 : decode cL_areAlike 1 = .ok (.istore_n 2, 1) := by decide +kernel
theorem dL_areAlike_2 : decode cL_areAlike 2 = .ok (.iload_n 2, 1) := by decide +kernel
theorem dL_areAlike_3 : decode cL_areAlike 3 = .ok (.aload_n 0, 1) := by decide +kernel
theorem dL_areAlike_4 : decode cL_areAlike 4 = .ok (.arraylength, 1) := by decide +kernel
theorem dL_areAlike_5 : decode cL_areAlike 5 = .ok (.if_icmp .ge 20, 3) := by decide +kernel
theorem dL_areAlike_8 : decode cL_areAlike 8 = .ok (.aload_n 0, 1) := by decide +kernel
theorem dL_areAlike_9 : decode cL_areAlike 9 = .ok (.iload_n 2, 1) := by decide +kernel
theorem dL_areAlike_10 : decode cL_areAlike 10 = .ok (.iaload, 1) := by decide +kernel
theorem dL_areAlike_11 : decode cL_areAlike 11 = .ok (.aload_n 1, 1) := by decide +kernel
theorem dL_areAlike_12 : decode cL_areAlike 12 = .ok (.iload_n 2, 1) := by decide +kernel
theorem dL_areAlike_13 : decode cL_areAlike 13 = .ok (.iaload, 1) := by decide +kernel
theorem dL_areAlike_14 : decode cL_areAlike 14 = .ok (.if_icmp .eq 5, 3) := by decide +kernel
theorem dL_areAlike_17 : decode cL_areAlike 17 = .ok (.iconst 0, 1) := by decide +kernel
theorem dL_areAlike_18 : decode cL_areAlike 18 = .ok (.ireturn, 1) := by decide +kernel
theorem dL_areAlike_19 : decode cL_areAlike 19 = .ok (.iinc 2 1, 3) := by decide +kernel
theorem dL_areAlike_22 : decode cL_areAlike 22 = .ok (.goto (-20), 3) := by decide +kernel
theorem dL_areAlike_25 : decode cL_areAlike 25 = .ok (.iconst 1, 1) := by decide +kernel
theorem dL_areAlike_26 : decode cL_areAlike 26 = .ok (.ireturn, 1) := by decide +kernel
theorem dL_isWell_0 : decode cL_isWell 0 = .ok (.aload_n 0, 1) := by decide +kernel
theorem dL_isWell_1 : decode cL_isWell 1 = .ok (.invokevirtual 126, 3) := by decide +kernel
theorem dL_isWell_4 : decode cL_isWell 4 = .ok (.istore_n 3, 1) := by decide +kernel
theorem dL_isWell_5 : decode cL_isWell 5 = .ok (.aload_n 0, 1) := by decide +kernel
theorem dL_isWell_6 : decode cL_isWell 6 = .ok (.invokevirtual 132, 3) := by decide +kernel
theorem dL_isWell_9 : decode cL_isWell 9 = .ok (.istore 4, 2) := by decide +kernel
theorem dL_isWell_11 : decode cL_isWell 11 = .ok (.aload_n 0, 1) := by decide +kernel
theorem dL_isWell_12 : decode cL_isWell 12 = .ok (.invokevirtual 206, 3) := by decide +kernel
theorem dL_isWell_15 : decode cL_isWell 15 = .ok (.istore 5, 2) := by decide +kernel
theorem dL_isWell_17 : decode cL_isWell 17 = .ok (.iload_n 3, 1) := by decide +kernel
theorem dL_isWell_18 : decode cL_isWell 18 = .ok (.bipush 10, 2) := by decide +kernel
theorem dL_isWell_20 : decode cL_isWell 20 = .ok (.if_icmp .gt 41, 3) := by decide +kernel
theorem dL_isWell_23 : decode cL_isWell 23 = .ok (.iload 4, 2) := by decide +kernel
theorem dL_isWell_25 : decode cL_isWell 25 = .ok (.bipush 8, 2) := by decide +kernel
theorem dL_isWell_27 : decode cL_isWell 27 = .ok (.if_icmp .gt 34, 3) := by decide +kernel
theorem dL_isWell_30 : decode cL_isWell 30 = .ok (.iload 5, 2) := by decide +kernel
theorem dL_isWell_32 : decode cL_isWell 32 = .ok (.bipush 12, 2) := by decide +kernel
theorem dL_isWell_34 : decode cL_isWell 34 = .ok (.if_icmp .gt 27, 3) := by decide +kernel
theorem dL_isWell_37 : decode cL_isWell 37 = .ok (.aload_n 0, 1) := by decide +kernel
theorem dL_isWell_38 : decode cL_isWell 38 = .ok (.invokevirtual 188, 3) := by decide +kernel
theorem dL_isWell_41 : decode cL_isWell 41 = .ok (.ifCond .lt 20, 3) := by decide +kernel
theorem dL_isWell_44 : decode cL_isWell 44 = .ok (.aload_n 0, 1) := by decide +kernel
theorem dL_isWell_45 : decode cL_isWell 45 = .ok (.invokevirtual 188, 3) := by decide +kernel
theorem dL_isWell_48 : decode cL_isWell 48 = .ok (.sipush 999, 3) := by decide +kernel
theorem dL_isWell_51 : decode cL_isWell 51 = .ok (.if_icmp .gt 10, 3) := by decide +kernel
theorem dL_isWell_54 : decode cL_isWell 54 = .ok (.aload_n 0, 1) := by decide +kernel
theorem dL_isWell_55 : decode cL_isWell 55 = .ok (.invokevirtual 185, 3) := by decide +kernel
theorem dL_isWell_58 : decode cL_isWell 58 = .ok (.ifCond .ge 5, 3) := by decide +kernel
theorem dL_isWell_61 : decode cL_isWell 61 = .ok (.iconst 0, 1) := by decide +kernel
theorem dL_isWell_62 : decode cL_isWell 62 = .ok (.ireturn, 1) := by decide +kernel
theorem dL_isWell_63 : decode cL_isWell 63 = .ok (.iconst 0, 1) := by decide +kernel
theorem dL_isWell_64 : decode cL_isWell 64 = .ok (.istore 6, 2) := by decide +kernel
theorem dL_isWell_66 : decode cL_isWell 66 = .ok (.iload 6, 2) := by decide +kernel
theorem dL_isWell_68 : decode cL_isWell 68 = .ok (.iload_n 3, 1) := by decide +kernel
theorem dL_isWell_69 : decode cL_isWell 69 = .ok (.if_icmp .ge 33, 3) := by decide +kernel
theorem dL_isWell_72 : decode cL_isWell 72 = .ok (.iload 6, 2) := by decide +kernel
theorem dL_isWell_74 : decode cL_isWell 74 = .ok (.ifCond .le 22, 3) := by decide +kernel
theorem dL_isWell_77 : decode cL_isWell 77 = .ok (.aload_n 0, 1) := by decide +kernel
theorem dL_isWell_78 : decode cL_isWell 78 = .ok (.iload 6, 2) := by decide +kernel
theorem dL_isWell_80 : decode cL_isWell 80 = .ok (.iconst 1, 1) := by decide +kernel
theorem dL_isWell_81 : decode cL_isWell 81 = .ok (.isub, 1) := by decide +kernel
theorem dL_isWell_82 : decode cL_isWell 82 = .ok (.invokevirtual 129, 3) := by decide +kernel
theorem dL_isWell_85 : decode cL_isWell 85 = .ok (.aload_n 0, 1) := by decide +kernel
theorem dL_isWell_86 : decode cL_isWell 86 = .ok (.iload 6, 2) := by decide +kernel
theorem dL_isWell_88 : decode cL_isWell 88 = .ok (.invokevirtual 129, 3) := by decide +kernel
theorem dL_isWell_91 : decode cL_isWell 91 = .ok (.if_icmp .lt 5, 3) := by decide +kernel
theorem dL_isWell_94 : decode cL_isWell 94 = .ok (.iconst 0, 1) := by decide +kernel
theorem dL_isWell_95 : decode cL_isWell 95 = .ok (.ireturn, 1) := by decide +kernel
theorem dL_isWell_96 : decode cL_isWell 96 = .ok (.iinc 6 1, 3) := by decide +kernel
theorem dL_isWell_99 : decode cL_isWell 99 = .ok (.goto (-33), 3) := by decide +kernel
theorem dL_isWell_102 : decode cL_isWell 102 = .ok (.iconst 0, 1) := by decide +kernel
theorem dL_isWell_103 : decode cL_isWell 103 = .ok (.istore 6, 2) := by decide +kernel
theorem dL_isWell_105 : decode cL_isWell 105 = .ok (.iconst 0, 1) := by decide +kernel
theorem dL_isWell_106 : decode cL_isWell 106 = .ok (.istore 7, 2) := by decide +kernel
theorem dL_isWell_108 : decode cL_isWell 108 = .ok (.iconst 0, 1) := by decide +kernel
theorem dL_isWell_109 : decode cL_isWell 109 = .ok (.istore 8, 2) := by decide +kernel
theorem dL_isWell_111 : decode cL_isWell 111 = .ok (.iload 8, 2) := by decide +kernel
theorem dL_isWell_113 : decode cL_isWell 113 = .ok (.iload 4, 2) := by decide +kernel
theorem dL_isWell_115 : decode cL_isWell 115 = .ok (.if_icmp .ge 128, 3) := by decide +kernel
theorem dL_isWell_118 : decode cL_isWell 118 = .ok (.aload_n 0, 1) := by decide +kernel
theorem dL_isWell_119 : decode cL_isWell 119 = .ok (.iload 8, 2) := by decide +kernel
theorem dL_isWell_121 : decode cL_isWell 121 = .ok (.invokevirtual 135, 3) := by decide +kernel
theorem dL_isWell_124 : decode cL_isWell 124 = .ok (.istore 9, 2) := by decide +kernel
theorem dL_isWell_126 : decode cL_isWell 126 = .ok (.iload 6, 2) := by decide +kernel
theorem dL_isWell_128 : decode cL_isWell 128 = .ok (.aload_n 0, 1) := by decide +kernel
theorem dL_isWell_129 : decode cL_isWell 129 = .ok (.iload 9, 2) := by decide +kernel
theorem dL_isWell_131 : decode cL_isWell 131 = .ok (.invokevirtual 231, 3) := by decide +kernel
theorem dL_isWell_134 : decode cL_isWell 134 = .ok (.iadd, 1) := by decide +kernel
theorem dL_isWell_135 : decode cL_isWell 135 = .ok (.istore 6, 2) := by decide +kernel
theorem dL_isWell_137 : decode cL_isWell 137 = .ok (.iload 7, 2) := by decide +kernel
theorem dL_isWell_139 : decode cL_isWell 139 = .ok (.aload_n 0, 1) := by decide +kernel
theorem dL_isWell_140 : decode cL_isWell 140 = .ok (.iload 9, 2) := by decide +kernel
theorem dL_isWell_142 : decode cL_isWell 142 = .ok (.invokevirtual 231, 3) := by decide +kernel
theorem dL_isWell_145 : decode cL_isWell 145 = .ok (.invokestatic 234, 3) := by decide +kernel
theorem dL_isWell_148 : decode cL_isWell 148 = .ok (.istore 7, 2) := by decide +kernel
theorem dL_isWell_150 : decode cL_isWell 150 = .ok (.iconst 3, 1) := by decide +kernel
theorem dL_isWell_151 : decode cL_isWell 151 = .ok (.aload_n 0, 1) := by decide +kernel
theorem dL_isWell_152 : decode cL_isWell 152 = .ok (.iload 9, 2) := by decide +kernel
theorem dL_isWell_154 : decode cL_isWell 154 = .ok (.invokevirtual 221, 3) := by decide +kernel
theorem dL_isWell_157 : decode cL_isWell 157 = .ok (.iadd, 1) := by decide +kernel
theorem dL_isWell_158 : decode cL_isWell 158 = .ok (.istore 10, 2) := by decide +kernel
theorem dL_isWell_160 : decode cL_isWell 160 = .ok (.aload_n 0, 1) := by decide +kernel
theorem dL_isWell_161 : decode cL_isWell 161 = .ok (.iload 9, 2) := by decide +kernel
theorem dL_isWell_163 : decode cL_isWell 163 = .ok (.invokevirtual 218, 3) := by decide +kernel
theorem dL_isWell_166 : decode cL_isWell 166 = .ok (.iload 10, 2) := by decide +kernel
theorem dL_isWell_168 : decode cL_isWell 168 = .ok (.iadd, 1) := by decide +kernel
theorem dL_isWell_169 : decode cL_isWell 169 = .ok (.iconst 1, 1) := by decide +kernel
theorem dL_isWell_170 : decode cL_isWell 170 = .ok (.isub, 1) := by decide +kernel
theorem dL_isWell_171 : decode cL_isWell 171 = .ok (.iload 10, 2) := by decide +kernel
theorem dL_isWell_173 : decode cL_isWell 173 = .ok (.idiv, 1) := by decide +kernel
theorem dL_isWell_174 : decode cL_isWell 174 = .ok (.istore 11, 2) := by decide +kernel
theorem dL_isWell_176 : decode cL_isWell 176 = .ok (.aload_n 0, 1) := by decide +kernel
theorem dL_isWell_177 : decode cL_isWell 177 = .ok (.iload 9, 2) := by decide +kernel
theorem dL_isWell_179 : decode cL_isWell 179 = .ok (.invokevirtual 231, 3) := by decide +kernel
theorem dL_isWell_182 : decode cL_isWell 182 = .ok (.aload_n 0, 1) := by decide +kernel
theorem dL_isWell_183 : decode cL_isWell 183 = .ok (.iload 9, 2) := by decide +kernel
theorem dL_isWell_185 : decode cL_isWell 185 = .ok (.invokevirtual 218, 3) := by decide +kernel
theorem dL_isWell_188 : decode cL_isWell 188 = .ok (.aload_n 0, 1) := by decide +kernel
theorem dL_isWell_189 : decode cL_isWell 189 = .ok (.iload 9, 2) := by decide +kernel
theorem dL_isWell_191 : decode cL_isWell 191 = .ok (.invokevirtual 221, 3) := by decide +kernel
theorem dL_isWell_194 : decode cL_isWell 194 = .ok (.imul, 1) := by decide +kernel
theorem dL_isWell_195 : decode cL_isWell 195 = .ok (.if_icmp .ne 40, 3) := by decide +kernel
theorem dL_isWell_198 : decode cL_isWell 198 = .ok (.aload_n 0, 1) := by decide +kernel
theorem dL_isWell_199 : decode cL_isWell 199 = .ok (.iload 9, 2) := by decide +kernel
theorem dL_isWell_201 : decode cL_isWell 201 = .ok (.invokevirtual 224, 3) := by decide +kernel
theorem dL_isWell_204 : decode cL_isWell 204 = .ok (.aload_n 0, 1) := by decide +kernel
theorem dL_isWell_205 : decode cL_isWell 205 = .ok (.invokevirtual 188, 3) := by decide +kernel
theorem dL_isWell_208 : decode cL_isWell 208 = .ok (.aload_n 0, 1) := by decide +kernel
theorem dL_isWell_209 : decode cL_isWell 209 = .ok (.iload 9, 2) := by decide +kernel
theorem dL_isWell_211 : decode cL_isWell 211 = .ok (.invokevirtual 218, 3) := by decide +kernel
theorem dL_isWell_214 : decode cL_isWell 214 = .ok (.if_icmp .lt 17, 3) := by decide +kernel
theorem dL_isWell_217 : decode cL_isWell 217 = .ok (.iload 5, 2) := by decide +kernel
theorem dL_isWell_219 : decode cL_isWell 219 = .ok (.iload 11, 2) := by decide +kernel
theorem dL_isWell_221 : decode cL_isWell 221 = .ok (.iadd, 1) := by decide +kernel
theorem dL_isWell_222 : decode cL_isWell 222 = .ok (.bipush 12, 2) := by decide +kernel
theorem dL_isWell_224 : decode cL_isWell 224 = .ok (.if_icmp .gt 7, 3) := by decide +kernel
theorem dL_isWell_227 : decode cL_isWell 227 = .ok (.iconst 1, 1) := by decide +kernel
theorem dL_isWell_228 : decode cL_isWell 228 = .ok (.goto 4, 3) := by decide +kernel
theorem dL_isWell_231 : decode cL_isWell 231 = .ok (.iconst 0, 1) := by decide +kernel
theorem dL_isWell_232 : decode cL_isWell 232 = .ok (.if_icmp .eq 5, 3) := by decide +kernel
theorem dL_isWell_235 : decode cL_isWell 235 = .ok (.iconst 0, 1) := by decide +kernel
theorem dL_isWell_236 : decode cL_isWell 236 = .ok (.ireturn, 1) := by decide +kernel
theorem dL_isWell_237 : decode cL_isWell 237 = .ok (.iinc 8 1, 3) := by decide +kernel
theorem dL_isWell_240 : decode cL_isWell 240 = .ok (.goto (-129), 3) := by decide +kernel
theorem dL_isWell_243 : decode cL_isWell 243 = .ok (.aload_n 0, 1) := by decide +kernel
theorem dL_isWell_244 : decode cL_isWell 244 = .ok (.invokevirtual 239, 3) := by decide +kernel
theorem dL_isWell_247 : decode cL_isWell 247 = .ok (.istore 8, 2) := by decide +kernel
theorem dL_isWell_249 : decode cL_isWell 249 = .ok (.iload 8, 2) := by decide +kernel
theorem dL_isWell_251 : decode cL_isWell 251 = .ok (.aload_n 0, 1) := by decide +kernel
theorem dL_isWell_252 : decode cL_isWell 252 = .ok (.invokevirtual 242, 3) := by decide +kernel
theorem dL_isWell_255 : decode cL_isWell 255 = .ok (.if_icmp .ne 53, 3) := by decide +kernel
theorem dL_isWell_258 : decode cL_isWell 258 = .ok (.iload 8, 2) := by decide +kernel
theorem dL_isWell_260 : decode cL_isWell 260 = .ok (.iload 7, 2) := by decide +kernel
theorem dL_isWell_262 : decode cL_isWell 262 = .ok (.if_icmp .lt 46, 3) := by decide +kernel
theorem dL_isWell_265 : decode cL_isWell 265 = .ok (.iload 8, 2) := by decide +kernel
theorem dL_isWell_267 : decode cL_isWell 267 = .ok (.aload_n 0, 1) := by decide +kernel
theorem dL_isWell_268 : decode cL_isWell 268 = .ok (.invokevirtual 194, 3) := by decide +kernel
theorem dL_isWell_271 : decode cL_isWell 271 = .ok (.imul, 1) := by decide +kernel
theorem dL_isWell_272 : decode cL_isWell 272 = .ok (.iload 6, 2) := by decide +kernel
theorem dL_isWell_274 : decode cL_isWell 274 = .ok (.if_icmp .lt 34, 3) := by decide +kernel
theorem dL_isWell_277 : decode cL_isWell 277 = .ok (.iload 8, 2) := by decide +kernel
theorem dL_isWell_279 : decode cL_isWell 279 = .ok (.iload 6, 2) := by decide +kernel
theorem dL_isWell_281 : decode cL_isWell 281 = .ok (.if_icmp .gt 27, 3) := by decide +kernel
theorem dL_isWell_284 : decode cL_isWell 284 = .ok (.aload_n 0, 1) := by decide +kernel
theorem dL_isWell_285 : decode cL_isWell 285 = .ok (.invokevirtual 194, 3) := by decide +kernel
theorem dL_isWell_288 : decode cL_isWell 288 = .ok (.iconst 1, 1) := by decide +kernel
theorem dL_isWell_289 : decode cL_isWell 289 = .ok (.if_icmp .ne 10, 3) := by decide +kernel
theorem dL_isWell_292 : decode cL_isWell 292 = .ok (.iload 8, 2) := by decide +kernel
theorem dL_isWell_294 : decode cL_isWell 294 = .ok (.iload 6, 2) := by decide +kernel
theorem dL_isWell_296 : decode cL_isWell 296 = .ok (.if_icmp .ne 12, 3) := by decide +kernel
theorem dL_isWell_299 : decode cL_isWell 299 = .ok (.aload_n 0, 1) := by decide +kernel
theorem dL_isWell_300 : decode cL_isWell 300 = .ok (.invokevirtual 245, 3) := by decide +kernel
theorem dL_isWell_303 : decode cL_isWell 303 = .ok (.iload 4, 2) := by decide +kernel
theorem dL_isWell_305 : decode cL_isWell 305 = .ok (.if_icmp .le 5, 3) := by decide +kernel
theorem dL_isWell_308 : decode cL_isWell 308 = .ok (.iconst 0, 1) := by decide +kernel
theorem dL_isWell_309 : decode cL_isWell 309 = .ok (.ireturn, 1) := by decide +kernel
theorem dL_isWell_310 : decode cL_isWell 310 = .ok (.iconst 0, 1) := by decide +kernel
theorem dL_isWell_311 : decode cL_isWell 311 = .ok (.istore 9, 2) := by decide +kernel
theorem dL_isWell_313 : decode cL_isWell 313 = .ok (.iconst 0, 1) := by decide +kernel
theorem dL_isWell_314 : decode cL_isWell 314 = .ok (.istore 10, 2) := by decide +kernel
theorem dL_isWell_316 : decode cL_isWell 316 = .ok (.iload 10, 2) := by decide +kernel
theorem dL_isWell_318 : decode cL_isWell 318 = .ok (.iload 5, 2) := by decide +kernel
theorem dL_isWell_320 : decode cL_isWell 320 = .ok (.if_icmp .ge 56, 3) := by decide +kernel
theorem dL_isWell_323 : decode cL_isWell 323 = .ok (.aload_n 0, 1) := by decide +kernel
theorem dL_isWell_324 : decode cL_isWell 324 = .ok (.iload 10, 2) := by decide +kernel
theorem dL_isWell_326 : decode cL_isWell 326 = .ok (.invokevirtual 228, 3) := by decide +kernel
theorem dL_isWell_329 : decode cL_isWell 329 = .ok (.istore 11, 2) := by decide +kernel
theorem dL_isWell_331 : decode cL_isWell 331 = .ok (.iload 9, 2) := by decide +kernel
theorem dL_isWell_333 : decode cL_isWell 333 = .ok (.iload 11, 2) := by decide +kernel
theorem dL_isWell_335 : decode cL_isWell 335 = .ok (.iadd, 1) := by decide +kernel
theorem dL_isWell_336 : decode cL_isWell 336 = .ok (.istore 9, 2) := by decide +kernel
theorem dL_isWell_338 : decode cL_isWell 338 = .ok (.iload 11, 2) := by decide +kernel
theorem dL_isWell_340 : decode cL_isWell 340 = .ok (.iconst 1, 1) := by decide +kernel
theorem dL_isWell_341 : decode cL_isWell 341 = .ok (.if_icmp .lt 27, 3) := by decide +kernel
theorem dL_isWell_344 : decode cL_isWell 344 = .ok (.aload_n 0, 1) := by decide +kernel
theorem dL_isWell_345 : decode cL_isWell 345 = .ok (.iload 10, 2) := by decide +kernel
theorem dL_isWell_347 : decode cL_isWell 347 = .ok (.invokevirtual 248, 3) := by decide +kernel
theorem dL_isWell_350 : decode cL_isWell 350 = .ok (.iload 11, 2) := by decide +kernel
theorem dL_isWell_352 : decode cL_isWell 352 = .ok (.bipush 10, 2) := by decide +kernel
theorem dL_isWell_354 : decode cL_isWell 354 = .ok (.if_icmp .lt 7, 3) := by decide +kernel
theorem dL_isWell_357 : decode cL_isWell 357 = .ok (.iconst 5, 1) := by decide +kernel
theorem dL_isWell_358 : decode cL_isWell 358 = .ok (.goto 4, 3) := by decide +kernel
theorem dL_isWell_361 : decode cL_isWell 361 = .ok (.iconst 2, 1) := by decide +kernel
theorem dL_isWell_362 : decode cL_isWell 362 = .ok (.iload 11, 2) := by decide +kernel
theorem dL_isWell_364 : decode cL_isWell 364 = .ok (.imul, 1) := by decide +kernel
theorem dL_isWell_365 : decode cL_isWell 365 = .ok (.if_icmp .eq 5, 3) := by decide +kernel
theorem dL_isWell_368 : decode cL_isWell 368 = .ok (.iconst 0, 1) := by decide +kernel
theorem dL_isWell_369 : decode cL_isWell 369 = .ok (.ireturn, 1) := by decide +kernel
theorem dL_isWell_370 : decode cL_isWell 370 = .ok (.iinc 10 1, 3) := by decide +kernel
theorem dL_isWell_373 : decode cL_isWell 373 = .ok (.goto (-57), 3) := by decide +kernel
theorem dL_isWell_376 : decode cL_isWell 376 = .ok (.aload_n 0, 1) := by decide +kernel
theorem dL_isWell_377 : decode cL_isWell 377 = .ok (.iload_n 1, 1) := by decide +kernel
theorem dL_isWell_378 : decode cL_isWell 378 = .ok (.iload_n 2, 1) := by decide +kernel
theorem dL_isWell_379 : decode cL_isWell 379 = .ok (.invokestatic 251, 3) := by decide +kernel
theorem dL_isWell_382 : decode cL_isWell 382 = .ok (.istore 10, 2) := by decide +kernel
theorem dL_isWell_384 : decode cL_isWell 384 = .ok (.aload_n 0, 1) := by decide +kernel
theorem dL_isWell_385 : decode cL_isWell 385 = .ok (.invokevirtual 253, 3) := by decide +kernel
theorem dL_isWell_388 : decode cL_isWell 388 = .ok (.aload_n 0, 1) := by decide +kernel
theorem dL_isWell_389 : decode cL_isWell 389 = .ok (.invokevirtual 256, 3) := by decide +kernel
theorem dL_isWell_392 : decode cL_isWell 392 = .ok (.if_icmp .ne 20, 3) := by decide +kernel
theorem dL_isWell_395 : decode cL_isWell 395 = .ok (.iload 5, 2) := by decide +kernel
theorem dL_isWell_397 : decode cL_isWell 397 = .ok (.iconst 1, 1) := by decide +kernel
theorem dL_isWell_398 : decode cL_isWell 398 = .ok (.if_icmp .gt 10, 3) := by decide +kernel
theorem dL_isWell_401 : decode cL_isWell 401 = .ok (.aload_n 0, 1) := by decide +kernel
theorem dL_isWell_402 : decode cL_isWell 402 = .ok (.invokevirtual 253, 3) := by decide +kernel
theorem dL_isWell_405 : decode cL_isWell 405 = .ok (.ifCond .ne 7, 3) := by decide +kernel
theorem dL_isWell_408 : decode cL_isWell 408 = .ok (.iconst 1, 1) := by decide +kernel
theorem dL_isWell_409 : decode cL_isWell 409 = .ok (.goto 4, 3) := by decide +kernel
theorem dL_isWell_412 : decode cL_isWell 412 = .ok (.iconst 0, 1) := by decide +kernel
theorem dL_isWell_413 : decode cL_isWell 413 = .ok (.istore 11, 2) := by decide +kernel
theorem dL_isWell_415 : decode cL_isWell 415 = .ok (.iload 11, 2) := by decide +kernel
theorem dL_isWell_417 : decode cL_isWell 417 = .ok (.ifCond .eq 54, 3) := by decide +kernel
theorem dL_isWell_420 : decode cL_isWell 420 = .ok (.iload 10, 2) := by decide +kernel
theorem dL_isWell_422 : decode cL_isWell 422 = .ok (.aload_n 0, 1) := by decide +kernel
theorem dL_isWell_423 : decode cL_isWell 423 = .ok (.iload_n 1, 1) := by decide +kernel
theorem dL_isWell_424 : decode cL_isWell 424 = .ok (.iload_n 2, 1) := by decide +kernel
theorem dL_isWell_425 : decode cL_isWell 425 = .ok (.invokestatic 259, 3) := by decide +kernel
theorem dL_isWell_428 : decode cL_isWell 428 = .ok (.if_icmp .ne 43, 3) := by decide +kernel
theorem dL_isWell_431 : decode cL_isWell 431 = .ok (.iload 9, 2) := by decide +kernel
theorem dL_isWell_433 : decode cL_isWell 433 = .ok (.aload_n 0, 1) := by decide +kernel
theorem dL_isWell_434 : decode cL_isWell 434 = .ok (.invokevirtual 261, 3) := by decide +kernel
theorem dL_isWell_437 : decode cL_isWell 437 = .ok (.if_icmp .ne 34, 3) := by decide +kernel
theorem dL_isWell_440 : decode cL_isWell 440 = .ok (.iload 9, 2) := by decide +kernel
theorem dL_isWell_442 : decode cL_isWell 442 = .ok (.aload_n 0, 1) := by decide +kernel
theorem dL_isWell_443 : decode cL_isWell 443 = .ok (.invokevirtual 264, 3) := by decide +kernel
theorem dL_isWell_446 : decode cL_isWell 446 = .ok (.if_icmp .ne 25, 3) := by decide +kernel
theorem dL_isWell_449 : decode cL_isWell 449 = .ok (.aload_n 0, 1) := by decide +kernel
theorem dL_isWell_450 : decode cL_isWell 450 = .ok (.invokevirtual 185, 3) := by decide +kernel
theorem dL_isWell_453 : decode cL_isWell 453 = .ok (.aload_n 0, 1) := by decide +kernel
theorem dL_isWell_454 : decode cL_isWell 454 = .ok (.invokevirtual 267, 3) := by decide +kernel
theorem dL_isWell_457 : decode cL_isWell 457 = .ok (.if_icmp .ne 14, 3) := by decide +kernel
theorem dL_isWell_460 : decode cL_isWell 460 = .ok (.aload_n 0, 1) := by decide +kernel
theorem dL_isWell_461 : decode cL_isWell 461 = .ok (.invokevirtual 270, 3) := by decide +kernel
theorem dL_isWell_464 : decode cL_isWell 464 = .ok (.ifCond .eq 7, 3) := by decide +kernel
theorem dL_isWell_467 : decode cL_isWell 467 = .ok (.iconst 1, 1) := by decide +kernel
theorem dL_isWell_468 : decode cL_isWell 468 = .ok (.goto 4, 3) := by decide +kernel
theorem dL_isWell_471 : decode cL_isWell 471 = .ok (.iconst 0, 1) := by decide +kernel
theorem dL_isWell_472 : decode cL_isWell 472 = .ok (.ireturn, 1) := by decide +kernel
theorem dL_law_0 : decode cL_law 0 = .ok (.aload_n 0, 1) := by decide +kernel
theorem dL_law_1 : decode cL_law 1 = .ok (.invokestatic 274, 3) := by decide +kernel
theorem dL_law_4 : decode cL_law 4 = .ok (.astore_n 1, 1) := by decide +kernel
theorem dL_law_5 : decode cL_law 5 = .ok (.iconst 1, 1) := by decide +kernel
theorem dL_law_6 : decode cL_law 6 = .ok (.aload_n 0, 1) := by decide +kernel
theorem dL_law_7 : decode cL_law 7 = .ok (.bipush 58, 2) := by decide +kernel
theorem dL_law_9 : decode cL_law 9 = .ok (.bipush 80, 2) := by decide +kernel
theorem dL_law_11 : decode cL_law 11 = .ok (.invokestatic 108, 3) := by decide +kernel
theorem dL_law_14 : decode cL_law 14 = .ok (.iadd, 1) := by decide +kernel
theorem dL_law_15 : decode cL_law 15 = .ok (.istore_n 2, 1) := by decide +kernel
theorem dL_law_16 : decode cL_law 16 = .ok (.bipush 10, 2) := by decide +kernel
theorem dL_law_18 : decode cL_law 18 = .ok (.aload_n 0, 1) := by decide +kernel
theorem dL_law_19 : decode cL_law 19 = .ok (.bipush 59, 2) := by decide +kernel
theorem dL_law_21 : decode cL_law 21 = .ok (.bipush 45, 2) := by decide +kernel
theorem dL_law_23 : decode cL_law 23 = .ok (.invokestatic 108, 3) := by decide +kernel
theorem dL_law_26 : decode cL_law 26 = .ok (.iadd, 1) := by decide +kernel
theorem dL_law_27 : decode cL_law 27 = .ok (.istore_n 3, 1) := by decide +kernel
theorem dL_law_28 : decode cL_law 28 = .ok (.aload_n 1, 1) := by decide +kernel
theorem dL_law_29 : decode cL_law 29 = .ok (.ifnull 12, 3) := by decide +kernel
theorem dL_law_32 : decode cL_law 32 = .ok (.aload_n 1, 1) := by decide +kernel
theorem dL_law_33 : decode cL_law 33 = .ok (.iload_n 2, 1) := by decide +kernel
theorem dL_law_34 : decode cL_law 34 = .ok (.iload_n 3, 1) := by decide +kernel
theorem dL_law_35 : decode cL_law 35 = .ok (.invokestatic 278, 3) := by decide +kernel
theorem dL_law_38 : decode cL_law 38 = .ok (.ifCond .ne 5, 3) := by decide +kernel
theorem dL_law_41 : decode cL_law 41 = .ok (.iconst 0, 1) := by decide +kernel
theorem dL_law_42 : decode cL_law 42 = .ok (.ireturn, 1) := by decide +kernel
theorem dL_law_43 : decode cL_law 43 = .ok (.iconst 0, 1) := by decide +kernel
theorem dL_law_44 : decode cL_law 44 = .ok (.istore 4, 2) := by decide +kernel
theorem dL_law_46 : decode cL_law 46 = .ok (.iload 4, 2) := by decide +kernel
theorem dL_law_48 : decode cL_law 48 = .ok (.bipush 7, 2) := by decide +kernel
theorem dL_law_50 : decode cL_law 50 = .ok (.if_icmp .ge 109, 3) := by decide +kernel
theorem dL_law_53 : decode cL_law 53 = .ok (.aload_n 1, 1) := by decide +kernel
theorem dL_law_54 : decode cL_law 54 = .ok (.invokestatic 282, 3) := by decide +kernel
theorem dL_law_57 : decode cL_law 57 = .ok (.astore 5, 2) := by decide +kernel
theorem dL_law_59 : decode cL_law 59 = .ok (.aload_n 1, 1) := by decide +kernel
theorem dL_law_60 : decode cL_law 60 = .ok (.aload_n 0, 1) := by decide +kernel
theorem dL_law_61 : decode cL_law 61 = .ok (.bipush 60, 2) := by decide +kernel
theorem dL_law_63 : decode cL_law 63 = .ok (.iconst 4, 1) := by decide +kernel
theorem dL_law_64 : decode cL_law 64 = .ok (.iload 4, 2) := by decide +kernel
theorem dL_law_66 : decode cL_law 66 = .ok (.imul, 1) := by decide +kernel
theorem dL_law_67 : decode cL_law 67 = .ok (.iadd, 1) := by decide +kernel
theorem dL_law_68 : decode cL_law 68 = .ok (.invokestatic 286, 3) := by decide +kernel
theorem dL_law_71 : decode cL_law 71 = .ok (.istore 6, 2) := by decide +kernel
theorem dL_law_73 : decode cL_law 73 = .ok (.aload_n 1, 1) := by decide +kernel
theorem dL_law_74 : decode cL_law 74 = .ok (.iload_n 2, 1) := by decide +kernel
theorem dL_law_75 : decode cL_law 75 = .ok (.iload_n 3, 1) := by decide +kernel
theorem dL_law_76 : decode cL_law 76 = .ok (.invokestatic 278, 3) := by decide +kernel
theorem dL_law_79 : decode cL_law 79 = .ok (.ifCond .eq 30, 3) := by decide +kernel
theorem dL_law_82 : decode cL_law 82 = .ok (.iload 6, 2) := by decide +kernel
theorem dL_law_84 : decode cL_law 84 = .ok (.ldc 103, 2) := by decide +kernel
theorem dL_law_86 : decode cL_law 86 = .ok (.if_icmp .eq 23, 3) := by decide +kernel
theorem dL_law_89 : decode cL_law 89 = .ok (.iload 6, 2) := by decide +kernel
theorem dL_law_91 : decode cL_law 91 = .ok (.ldc_w 290, 3) := by decide +kernel
theorem dL_law_94 : decode cL_law 94 = .ok (.if_icmp .gt 17, 3) := by decide +kernel
theorem dL_law_97 : decode cL_law 97 = .ok (.aload 5, 2) := by decide +kernel
theorem dL_law_99 : decode cL_law 99 = .ok (.aload_n 1, 1) := by decide +kernel
theorem dL_law_100 : decode cL_law 100 = .ok (.invokestatic 282, 3) := by decide +kernel
theorem dL_law_103 : decode cL_law 103 = .ok (.invokestatic 291, 3) := by decide +kernel
theorem dL_law_106 : decode cL_law 106 = .ok (.ifCond .ne 5, 3) := by decide +kernel
theorem dL_law_109 : decode cL_law 109 = .ok (.iconst 0, 1) := by decide +kernel
theorem dL_law_110 : decode cL_law 110 = .ok (.ireturn, 1) := by decide +kernel
theorem dL_law_111 : decode cL_law 111 = .ok (.iload 6, 2) := by decide +kernel
theorem dL_law_113 : decode cL_law 113 = .ok (.ldc_w 290, 3) := by decide +kernel
theorem dL_law_116 : decode cL_law 116 = .ok (.if_icmp .le 37, 3) := by decide +kernel
theorem dL_law_119 : decode cL_law 119 = .ok (.aload_n 0, 1) := by decide +kernel
theorem dL_law_120 : decode cL_law 120 = .ok (.bipush 88, 2) := by decide +kernel
theorem dL_law_122 : decode cL_law 122 = .ok (.iload 4, 2) := by decide +kernel
theorem dL_law_124 : decode cL_law 124 = .ok (.iadd, 1) := by decide +kernel
theorem dL_law_125 : decode cL_law 125 = .ok (.iconst 5, 1) := by decide +kernel
theorem dL_law_126 : decode cL_law 126 = .ok (.invokestatic 108, 3) := by decide +kernel
theorem dL_law_129 : decode cL_law 129 = .ok (.ifCond .ne 24, 3) := by decide +kernel
theorem dL_law_132 : decode cL_law 132 = .ok (.aload_n 1, 1) := by decide +kernel
theorem dL_law_133 : decode cL_law 133 = .ok (.invokestatic 295, 3) := by decide +kernel
theorem dL_law_136 : decode cL_law 136 = .ok (.ifCond .lt 15, 3) := by decide +kernel
theorem dL_law_139 : decode cL_law 139 = .ok (.aload 5, 2) := by decide +kernel
theorem dL_law_141 : decode cL_law 141 = .ok (.aload_n 1, 1) := by decide +kernel
theorem dL_law_142 : decode cL_law 142 = .ok (.invokestatic 282, 3) := by decide +kernel
theorem dL_law_145 : decode cL_law 145 = .ok (.invokestatic 291, 3) := by decide +kernel
theorem dL_law_148 : decode cL_law 148 = .ok (.ifCond .ne 5, 3) := by decide +kernel
theorem dL_law_151 : decode cL_law 151 = .ok (.iconst 0, 1) := by decide +kernel
theorem dL_law_152 : decode cL_law 152 = .ok (.ireturn, 1) := by decide +kernel
theorem dL_law_153 : decode cL_law 153 = .ok (.iinc 4 1, 3) := by decide +kernel
theorem dL_law_156 : decode cL_law 156 = .ok (.goto (-110), 3) := by decide +kernel
theorem dL_law_159 : decode cL_law 159 = .ok (.aload_n 1, 1) := by decide +kernel
theorem dL_law_160 : decode cL_law 160 = .ok (.invokestatic 282, 3) := by decide +kernel
theorem dL_law_163 : decode cL_law 163 = .ok (.astore 4, 2) := by decide +kernel
theorem dL_law_165 : decode cL_law 165 = .ok (.aload_n 1, 1) := by decide +kernel
theorem dL_law_166 : decode cL_law 166 = .ok (.invokevirtual 297, 3) := by decide +kernel
theorem dL_law_169 : decode cL_law 169 = .ok (.istore 5, 2) := by decide +kernel
theorem dL_law_171 : decode cL_law 171 = .ok (.aload_n 1, 1) := by decide +kernel
theorem dL_law_172 : decode cL_law 172 = .ok (.aload_n 1, 1) := by decide +kernel
theorem dL_law_173 : decode cL_law 173 = .ok (.iconst 0, 1) := by decide +kernel
theorem dL_law_174 : decode cL_law 174 = .ok (.invokestatic 300, 3) := by decide +kernel
theorem dL_law_177 : decode cL_law 177 = .ok (.iload_n 2, 1) := by decide +kernel
theorem dL_law_178 : decode cL_law 178 = .ok (.iload_n 3, 1) := by decide +kernel
theorem dL_law_179 : decode cL_law 179 = .ok (.invokestatic 303, 3) := by decide +kernel
theorem dL_law_182 : decode cL_law 182 = .ok (.aload_n 1, 1) := by decide +kernel
theorem dL_law_183 : decode cL_law 183 = .ok (.invokestatic 306, 3) := by decide +kernel
theorem dL_law_186 : decode cL_law 186 = .ok (.iadd, 1) := by decide +kernel
theorem dL_law_187 : decode cL_law 187 = .ok (.aload_n 1, 1) := by decide +kernel
theorem dL_law_188 : decode cL_law 188 = .ok (.iconst 0, 1) := by decide +kernel
theorem dL_law_189 : decode cL_law 189 = .ok (.invokestatic 308, 3) := by decide +kernel
theorem dL_law_192 : decode cL_law 192 = .ok (.iadd, 1) := by decide +kernel
theorem dL_law_193 : decode cL_law 193 = .ok (.aload_n 1, 1) := by decide +kernel
theorem dL_law_194 : decode cL_law 194 = .ok (.invokevirtual 310, 3) := by decide +kernel
theorem dL_law_197 : decode cL_law 197 = .ok (.iadd, 1) := by decide +kernel
theorem dL_law_198 : decode cL_law 198 = .ok (.aload_n 1, 1) := by decide +kernel
theorem dL_law_199 : decode cL_law 199 = .ok (.iconst 0, 1) := by decide +kernel
theorem dL_law_200 : decode cL_law 200 = .ok (.invokestatic 313, 3) := by decide +kernel
theorem dL_law_203 : decode cL_law 203 = .ok (.iadd, 1) := by decide +kernel
theorem dL_law_204 : decode cL_law 204 = .ok (.istore 6, 2) := by decide +kernel
theorem dL_law_206 : decode cL_law 206 = .ok (.aload 4, 2) := by decide +kernel
theorem dL_law_208 : decode cL_law 208 = .ok (.aload_n 1, 1) := by decide +kernel
theorem dL_law_209 : decode cL_law 209 = .ok (.invokestatic 282, 3) := by decide +kernel
theorem dL_law_212 : decode cL_law 212 = .ok (.invokestatic 291, 3) := by decide +kernel
theorem dL_law_215 : decode cL_law 215 = .ok (.ifCond .ne 5, 3) := by decide +kernel
theorem dL_law_218 : decode cL_law 218 = .ok (.iconst 0, 1) := by decide +kernel
theorem dL_law_219 : decode cL_law 219 = .ok (.ireturn, 1) := by decide +kernel
theorem dL_law_220 : decode cL_law 220 = .ok (.iload 6, 2) := by decide +kernel
theorem dL_law_222 : decode cL_law 222 = .ok (.aload_n 1, 1) := by decide +kernel
theorem dL_law_223 : decode cL_law 223 = .ok (.iconst 1, 1) := by decide +kernel
theorem dL_law_224 : decode cL_law 224 = .ok (.bipush 10, 2) := by decide +kernel
theorem dL_law_226 : decode cL_law 226 = .ok (.iconst 1, 1) := by decide +kernel
theorem dL_law_227 : decode cL_law 227 = .ok (.invokestatic 112, 3) := by decide +kernel
theorem dL_law_230 : decode cL_law 230 = .ok (.aload_n 1, 1) := by decide +kernel
theorem dL_law_231 : decode cL_law 231 = .ok (.iconst 1, 1) := by decide +kernel
theorem dL_law_232 : decode cL_law 232 = .ok (.bipush 10, 2) := by decide +kernel
theorem dL_law_234 : decode cL_law 234 = .ok (.invokestatic 115, 3) := by decide +kernel
theorem dL_law_237 : decode cL_law 237 = .ok (.iadd, 1) := by decide +kernel
theorem dL_law_238 : decode cL_law 238 = .ok (.aload_n 1, 1) := by decide +kernel
theorem dL_law_239 : decode cL_law 239 = .ok (.iconst 2, 1) := by decide +kernel
theorem dL_law_240 : decode cL_law 240 = .ok (.iconst 2, 1) := by decide +kernel
theorem dL_law_241 : decode cL_law 241 = .ok (.invokestatic 118, 3) := by decide +kernel
theorem dL_law_244 : decode cL_law 244 = .ok (.iadd, 1) := by decide +kernel
theorem dL_law_245 : decode cL_law 245 = .ok (.aload_n 1, 1) := by decide +kernel
theorem dL_law_246 : decode cL_law 246 = .ok (.aload_n 1, 1) := by decide +kernel
theorem dL_law_247 : decode cL_law 247 = .ok (.iconst 0, 1) := by decide +kernel
theorem dL_law_248 : decode cL_law 248 = .ok (.invokestatic 138, 3) := by decide +kernel
theorem dL_law_251 : decode cL_law 251 = .ok (.invokestatic 120, 3) := by decide +kernel
theorem dL_law_254 : decode cL_law 254 = .ok (.iadd, 1) := by decide +kernel
theorem dL_law_255 : decode cL_law 255 = .ok (.aload_n 1, 1) := by decide +kernel
theorem dL_law_256 : decode cL_law 256 = .ok (.iconst 0, 1) := by decide +kernel
theorem dL_law_257 : decode cL_law 257 = .ok (.invokestatic 147, 3) := by decide +kernel
theorem dL_law_260 : decode cL_law 260 = .ok (.iadd, 1) := by decide +kernel
theorem dL_law_261 : decode cL_law 261 = .ok (.iadd, 1) := by decide +kernel
theorem dL_law_262 : decode cL_law 262 = .ok (.istore 6, 2) := by decide +kernel
theorem dL_law_264 : decode cL_law 264 = .ok (.iload 6, 2) := by decide +kernel
theorem dL_law_266 : decode cL_law 266 = .ok (.ldc 125, 2) := by decide +kernel
theorem dL_law_268 : decode cL_law 268 = .ok (.if_icmp .le 37, 3) := by decide +kernel
theorem dL_law_271 : decode cL_law 271 = .ok (.aload_n 1, 1) := by decide +kernel
theorem dL_law_272 : decode cL_law 272 = .ok (.invokestatic 315, 3) := by decide +kernel
theorem dL_law_275 : decode cL_law 275 = .ok (.iload 5, 2) := by decide +kernel
theorem dL_law_277 : decode cL_law 277 = .ok (.if_icmp .ne 28, 3) := by decide +kernel
theorem dL_law_280 : decode cL_law 280 = .ok (.aload 4, 2) := by decide +kernel
theorem dL_law_282 : decode cL_law 282 = .ok (.aload_n 1, 1) := by decide +kernel
theorem dL_law_283 : decode cL_law 283 = .ok (.invokestatic 282, 3) := by decide +kernel
theorem dL_law_286 : decode cL_law 286 = .ok (.invokestatic 291, 3) := by decide +kernel
theorem dL_law_289 : decode cL_law 289 = .ok (.ifCond .eq 16, 3) := by decide +kernel
theorem dL_law_292 : decode cL_law 292 = .ok (.aload_n 1, 1) := by decide +kernel
theorem dL_law_293 : decode cL_law 293 = .ok (.invokestatic 295, 3) := by decide +kernel
theorem dL_law_296 : decode cL_law 296 = .ok (.ldc 17, 2) := by decide +kernel
theorem dL_law_298 : decode cL_law 298 = .ok (.if_icmp .ne 7, 3) := by decide +kernel
theorem dL_law_301 : decode cL_law 301 = .ok (.iconst 1, 1) := by decide +kernel
theorem dL_law_302 : decode cL_law 302 = .ok (.goto 4, 3) := by decide +kernel
theorem dL_law_305 : decode cL_law 305 = .ok (.iconst 0, 1) := by decide +kernel
theorem dL_law_306 : decode cL_law 306 = .ok (.ireturn, 1) := by decide +kernel
