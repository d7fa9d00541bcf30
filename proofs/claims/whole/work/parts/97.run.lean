/-! the law's own body (printed by law.py): its rows -/
theorem dl_0 : decode code 0 = .ok (.new 8, 3) := by decide +kernel
theorem dl_3 : decode code 3 = .ok (.dup, 1) := by decide +kernel
theorem dl_4 : decode code 4 = .ok (.invokespecial 53, 3) := by decide +kernel
theorem dl_7 : decode code 7 = .ok (.astore_n 1, 1) := by decide +kernel
theorem dl_8 : decode code 8 = .ok (.new 54, 3) := by decide +kernel
theorem dl_11 : decode code 11 = .ok (.dup, 1) := by decide +kernel
theorem dl_12 : decode code 12 = .ok (.invokespecial 56, 3) := by decide +kernel
theorem dl_15 : decode code 15 = .ok (.astore_n 2, 1) := by decide +kernel
theorem dl_16 : decode code 16 = .ok (.iconst 1, 1) := by decide +kernel
theorem dl_17 : decode code 17 = .ok (.newarray .long, 2) := by decide +kernel
theorem dl_19 : decode code 19 = .ok (.astore_n 3, 1) := by decide +kernel
theorem dl_20 : decode code 20 = .ok (.iconst 1, 1) := by decide +kernel
theorem dl_21 : decode code 21 = .ok (.newarray .double, 2) := by decide +kernel
theorem dl_23 : decode code 23 = .ok (.astore 4, 2) := by decide +kernel
theorem dl_25 : decode code 25 = .ok (.iconst 0, 1) := by decide +kernel
theorem dl_26 : decode code 26 = .ok (.istore 5, 2) := by decide +kernel
theorem dl_28 : decode code 28 = .ok (.iload 5, 2) := by decide +kernel
theorem dl_30 : decode code 30 = .ok (.aload_n 0, 1) := by decide +kernel
theorem dl_31 : decode code 31 = .ok (.arraylength, 1) := by decide +kernel
theorem dl_32 : decode code 32 = .ok (.iconst 3, 1) := by decide +kernel
theorem dl_33 : decode code 33 = .ok (.isub, 1) := by decide +kernel
theorem dl_34 : decode code 34 = .ok (.if_icmp .gt (671), 3) := by decide +kernel
theorem dl_37 : decode code 37 = .ok (.aload_n 0, 1) := by decide +kernel
theorem dl_38 : decode code 38 = .ok (.iload 5, 2) := by decide +kernel
theorem dl_40 : decode code 40 = .ok (.iaload, 1) := by decide +kernel
theorem dl_41 : decode code 41 = .ok (.bipush 15, 2) := by decide +kernel
theorem dl_43 : decode code 43 = .ok (.iand, 1) := by decide +kernel
theorem dl_44 : decode code 44 = .ok (.tableswitch 655 0 10 #[60, 148, 161, 205, 218, 286, 342, 410, 466, 522, 599], 60) := by decide +kernel
theorem dl_104 : decode code 104 = .ok (.aload_n 1, 1) := by decide +kernel
theorem dl_105 : decode code 105 = .ok (.aload_n 0, 1) := by decide +kernel
theorem dl_106 : decode code 106 = .ok (.iload 5, 2) := by decide +kernel
theorem dl_108 : decode code 108 = .ok (.iconst 1, 1) := by decide +kernel
theorem dl_109 : decode code 109 = .ok (.iadd, 1) := by decide +kernel
theorem dl_110 : decode code 110 = .ok (.iaload, 1) := by decide +kernel
theorem dl_111 : decode code 111 = .ok (.i2l, 1) := by decide +kernel
theorem dl_112 : decode code 112 = .ok (.bipush 32, 2) := by decide +kernel
theorem dl_114 : decode code 114 = .ok (.lshl, 1) := by decide +kernel
theorem dl_115 : decode code 115 = .ok (.aload_n 0, 1) := by decide +kernel
theorem dl_116 : decode code 116 = .ok (.iload 5, 2) := by decide +kernel
theorem dl_118 : decode code 118 = .ok (.iconst 2, 1) := by decide +kernel
theorem dl_119 : decode code 119 = .ok (.iadd, 1) := by decide +kernel
theorem dl_120 : decode code 120 = .ok (.iaload, 1) := by decide +kernel
theorem dl_121 : decode code 121 = .ok (.i2l, 1) := by decide +kernel
theorem dl_122 : decode code 122 = .ok (.ldc2_w 57, 3) := by decide +kernel
theorem dl_125 : decode code 125 = .ok (.land, 1) := by decide +kernel
theorem dl_126 : decode code 126 = .ok (.lor, 1) := by decide +kernel
theorem dl_127 : decode code 127 = .ok (.aload_n 3, 1) := by decide +kernel
theorem dl_128 : decode code 128 = .ok (.invokestatic 59, 3) := by decide +kernel
theorem dl_131 : decode code 131 = .ok (.istore 6, 2) := by decide +kernel
theorem dl_133 : decode code 133 = .ok (.aload_n 2, 1) := by decide +kernel
theorem dl_134 : decode code 134 = .ok (.aload_n 0, 1) := by decide +kernel
theorem dl_135 : decode code 135 = .ok (.iload 5, 2) := by decide +kernel
theorem dl_137 : decode code 137 = .ok (.iconst 1, 1) := by decide +kernel
theorem dl_138 : decode code 138 = .ok (.iadd, 1) := by decide +kernel
theorem dl_139 : decode code 139 = .ok (.iaload, 1) := by decide +kernel
theorem dl_140 : decode code 140 = .ok (.i2l, 1) := by decide +kernel
theorem dl_141 : decode code 141 = .ok (.bipush 32, 2) := by decide +kernel
theorem dl_143 : decode code 143 = .ok (.lshl, 1) := by decide +kernel
theorem dl_144 : decode code 144 = .ok (.aload_n 0, 1) := by decide +kernel
theorem dl_145 : decode code 145 = .ok (.iload 5, 2) := by decide +kernel
theorem dl_147 : decode code 147 = .ok (.iconst 2, 1) := by decide +kernel
theorem dl_148 : decode code 148 = .ok (.iadd, 1) := by decide +kernel
theorem dl_149 : decode code 149 = .ok (.iaload, 1) := by decide +kernel
theorem dl_150 : decode code 150 = .ok (.i2l, 1) := by decide +kernel
theorem dl_151 : decode code 151 = .ok (.ldc2_w 57, 3) := by decide +kernel
theorem dl_154 : decode code 154 = .ok (.land, 1) := by decide +kernel
theorem dl_155 : decode code 155 = .ok (.lor, 1) := by decide +kernel
theorem dl_156 : decode code 156 = .ok (.invokevirtual 64, 3) := by decide +kernel
theorem dl_159 : decode code 159 = .ok (.istore 7, 2) := by decide +kernel
theorem dl_161 : decode code 161 = .ok (.aload_n 2, 1) := by decide +kernel
theorem dl_162 : decode code 162 = .ok (.invokevirtual 65, 3) := by decide +kernel
theorem dl_165 : decode code 165 = .ok (.iload 6, 2) := by decide +kernel
theorem dl_167 : decode code 167 = .ok (.if_icmp .eq (5), 3) := by decide +kernel
theorem dl_170 : decode code 170 = .ok (.iconst 0, 1) := by decide +kernel
theorem dl_171 : decode code 171 = .ok (.ireturn, 1) := by decide +kernel
theorem dl_172 : decode code 172 = .ok (.iload 6, 2) := by decide +kernel
theorem dl_174 : decode code 174 = .ok (.ifCond .ne (15), 3) := by decide +kernel
theorem dl_177 : decode code 177 = .ok (.aload_n 3, 1) := by decide +kernel
theorem dl_178 : decode code 178 = .ok (.iconst 0, 1) := by decide +kernel
theorem dl_179 : decode code 179 = .ok (.laload, 1) := by decide +kernel
theorem dl_180 : decode code 180 = .ok (.iload 7, 2) := by decide +kernel
theorem dl_182 : decode code 182 = .ok (.i2l, 1) := by decide +kernel
theorem dl_183 : decode code 183 = .ok (.lcmp, 1) := by decide +kernel
theorem dl_184 : decode code 184 = .ok (.ifCond .eq (5), 3) := by decide +kernel
theorem dl_187 : decode code 187 = .ok (.iconst 0, 1) := by decide +kernel
theorem dl_188 : decode code 188 = .ok (.ireturn, 1) := by decide +kernel
theorem dl_189 : decode code 189 = .ok (.goto (510), 3) := by decide +kernel
theorem dl_192 : decode code 192 = .ok (.aload_n 1, 1) := by decide +kernel
theorem dl_193 : decode code 193 = .ok (.invokevirtual 68, 3) := by decide +kernel
theorem dl_196 : decode code 196 = .ok (.aload_n 2, 1) := by decide +kernel
theorem dl_197 : decode code 197 = .ok (.invokevirtual 71, 3) := by decide +kernel
theorem dl_200 : decode code 200 = .ok (.if_icmp .eq (499), 3) := by decide +kernel
theorem dl_203 : decode code 203 = .ok (.iconst 0, 1) := by decide +kernel
theorem dl_204 : decode code 204 = .ok (.ireturn, 1) := by decide +kernel
theorem dl_205 : decode code 205 = .ok (.aload_n 1, 1) := by decide +kernel
theorem dl_206 : decode code 206 = .ok (.aload_n 3, 1) := by decide +kernel
theorem dl_207 : decode code 207 = .ok (.invokestatic 72, 3) := by decide +kernel
theorem dl_210 : decode code 210 = .ok (.istore 6, 2) := by decide +kernel
theorem dl_212 : decode code 212 = .ok (.aload_n 2, 1) := by decide +kernel
theorem dl_213 : decode code 213 = .ok (.invokevirtual 75, 3) := by decide +kernel
theorem dl_216 : decode code 216 = .ok (.istore 7, 2) := by decide +kernel
theorem dl_218 : decode code 218 = .ok (.aload_n 2, 1) := by decide +kernel
theorem dl_219 : decode code 219 = .ok (.invokevirtual 65, 3) := by decide +kernel
theorem dl_222 : decode code 222 = .ok (.iload 6, 2) := by decide +kernel
theorem dl_224 : decode code 224 = .ok (.if_icmp .eq (5), 3) := by decide +kernel
theorem dl_227 : decode code 227 = .ok (.iconst 0, 1) := by decide +kernel
theorem dl_228 : decode code 228 = .ok (.ireturn, 1) := by decide +kernel
theorem dl_229 : decode code 229 = .ok (.iload 6, 2) := by decide +kernel
theorem dl_231 : decode code 231 = .ok (.ifCond .ne (15), 3) := by decide +kernel
theorem dl_234 : decode code 234 = .ok (.aload_n 3, 1) := by decide +kernel
theorem dl_235 : decode code 235 = .ok (.iconst 0, 1) := by decide +kernel
theorem dl_236 : decode code 236 = .ok (.laload, 1) := by decide +kernel
theorem dl_237 : decode code 237 = .ok (.iload 7, 2) := by decide +kernel
theorem dl_239 : decode code 239 = .ok (.i2l, 1) := by decide +kernel
theorem dl_240 : decode code 240 = .ok (.lcmp, 1) := by decide +kernel
theorem dl_241 : decode code 241 = .ok (.ifCond .eq (5), 3) := by decide +kernel
theorem dl_244 : decode code 244 = .ok (.iconst 0, 1) := by decide +kernel
theorem dl_245 : decode code 245 = .ok (.ireturn, 1) := by decide +kernel
theorem dl_246 : decode code 246 = .ok (.goto (453), 3) := by decide +kernel
theorem dl_249 : decode code 249 = .ok (.aload_n 1, 1) := by decide +kernel
theorem dl_250 : decode code 250 = .ok (.invokevirtual 76, 3) := by decide +kernel
theorem dl_253 : decode code 253 = .ok (.aload_n 2, 1) := by decide +kernel
theorem dl_254 : decode code 254 = .ok (.invokevirtual 79, 3) := by decide +kernel
theorem dl_257 : decode code 257 = .ok (.if_icmp .eq (442), 3) := by decide +kernel
theorem dl_260 : decode code 260 = .ok (.iconst 0, 1) := by decide +kernel
theorem dl_261 : decode code 261 = .ok (.ireturn, 1) := by decide +kernel
theorem dl_262 : decode code 262 = .ok (.aload_n 1, 1) := by decide +kernel
theorem dl_263 : decode code 263 = .ok (.aload_n 0, 1) := by decide +kernel
theorem dl_264 : decode code 264 = .ok (.iload 5, 2) := by decide +kernel
theorem dl_266 : decode code 266 = .ok (.iconst 1, 1) := by decide +kernel
theorem dl_267 : decode code 267 = .ok (.iadd, 1) := by decide +kernel
theorem dl_268 : decode code 268 = .ok (.iaload, 1) := by decide +kernel
theorem dl_269 : decode code 269 = .ok (.aload_n 0, 1) := by decide +kernel
theorem dl_270 : decode code 270 = .ok (.iload 5, 2) := by decide +kernel
theorem dl_272 : decode code 272 = .ok (.iconst 2, 1) := by decide +kernel
theorem dl_273 : decode code 273 = .ok (.iadd, 1) := by decide +kernel
theorem dl_274 : decode code 274 = .ok (.iaload, 1) := by decide +kernel
theorem dl_275 : decode code 275 = .ok (.aload_n 3, 1) := by decide +kernel
theorem dl_276 : decode code 276 = .ok (.invokestatic 80, 3) := by decide +kernel
theorem dl_279 : decode code 279 = .ok (.istore 6, 2) := by decide +kernel
theorem dl_281 : decode code 281 = .ok (.aload_n 2, 1) := by decide +kernel
theorem dl_282 : decode code 282 = .ok (.aload_n 0, 1) := by decide +kernel
theorem dl_283 : decode code 283 = .ok (.iload 5, 2) := by decide +kernel
theorem dl_285 : decode code 285 = .ok (.iconst 1, 1) := by decide +kernel
theorem dl_286 : decode code 286 = .ok (.iadd, 1) := by decide +kernel
theorem dl_287 : decode code 287 = .ok (.iaload, 1) := by decide +kernel
theorem dl_288 : decode code 288 = .ok (.aload_n 0, 1) := by decide +kernel
theorem dl_289 : decode code 289 = .ok (.iload 5, 2) := by decide +kernel
theorem dl_291 : decode code 291 = .ok (.iconst 2, 1) := by decide +kernel
theorem dl_292 : decode code 292 = .ok (.iadd, 1) := by decide +kernel
theorem dl_293 : decode code 293 = .ok (.iaload, 1) := by decide +kernel
theorem dl_294 : decode code 294 = .ok (.invokevirtual 83, 3) := by decide +kernel
theorem dl_297 : decode code 297 = .ok (.istore 7, 2) := by decide +kernel
theorem dl_299 : decode code 299 = .ok (.aload_n 2, 1) := by decide +kernel
theorem dl_300 : decode code 300 = .ok (.invokevirtual 65, 3) := by decide +kernel
theorem dl_303 : decode code 303 = .ok (.iload 6, 2) := by decide +kernel
theorem dl_305 : decode code 305 = .ok (.if_icmp .eq (5), 3) := by decide +kernel
theorem dl_308 : decode code 308 = .ok (.iconst 0, 1) := by decide +kernel
theorem dl_309 : decode code 309 = .ok (.ireturn, 1) := by decide +kernel
theorem dl_310 : decode code 310 = .ok (.iload 6, 2) := by decide +kernel
theorem dl_312 : decode code 312 = .ok (.ifCond .ne (15), 3) := by decide +kernel
theorem dl_315 : decode code 315 = .ok (.aload_n 3, 1) := by decide +kernel
theorem dl_316 : decode code 316 = .ok (.iconst 0, 1) := by decide +kernel
theorem dl_317 : decode code 317 = .ok (.laload, 1) := by decide +kernel
theorem dl_318 : decode code 318 = .ok (.iload 7, 2) := by decide +kernel
theorem dl_320 : decode code 320 = .ok (.i2l, 1) := by decide +kernel
theorem dl_321 : decode code 321 = .ok (.lcmp, 1) := by decide +kernel
theorem dl_322 : decode code 322 = .ok (.ifCond .eq (5), 3) := by decide +kernel
theorem dl_325 : decode code 325 = .ok (.iconst 0, 1) := by decide +kernel
theorem dl_326 : decode code 326 = .ok (.ireturn, 1) := by decide +kernel
theorem dl_327 : decode code 327 = .ok (.goto (372), 3) := by decide +kernel
theorem dl_330 : decode code 330 = .ok (.aload_n 1, 1) := by decide +kernel
theorem dl_331 : decode code 331 = .ok (.aload_n 0, 1) := by decide +kernel
theorem dl_332 : decode code 332 = .ok (.iload 5, 2) := by decide +kernel
theorem dl_334 : decode code 334 = .ok (.iconst 1, 1) := by decide +kernel
theorem dl_335 : decode code 335 = .ok (.iadd, 1) := by decide +kernel
theorem dl_336 : decode code 336 = .ok (.iaload, 1) := by decide +kernel
theorem dl_337 : decode code 337 = .ok (.aload_n 3, 1) := by decide +kernel
theorem dl_338 : decode code 338 = .ok (.invokestatic 84, 3) := by decide +kernel
theorem dl_341 : decode code 341 = .ok (.istore 6, 2) := by decide +kernel
theorem dl_343 : decode code 343 = .ok (.aload_n 2, 1) := by decide +kernel
theorem dl_344 : decode code 344 = .ok (.aload_n 0, 1) := by decide +kernel
theorem dl_345 : decode code 345 = .ok (.iload 5, 2) := by decide +kernel
theorem dl_347 : decode code 347 = .ok (.iconst 1, 1) := by decide +kernel
theorem dl_348 : decode code 348 = .ok (.iadd, 1) := by decide +kernel
theorem dl_349 : decode code 349 = .ok (.iaload, 1) := by decide +kernel
theorem dl_350 : decode code 350 = .ok (.invokevirtual 87, 3) := by decide +kernel
theorem dl_353 : decode code 353 = .ok (.istore 7, 2) := by decide +kernel
theorem dl_355 : decode code 355 = .ok (.aload_n 2, 1) := by decide +kernel
theorem dl_356 : decode code 356 = .ok (.invokevirtual 65, 3) := by decide +kernel
theorem dl_359 : decode code 359 = .ok (.iload 6, 2) := by decide +kernel
theorem dl_361 : decode code 361 = .ok (.if_icmp .eq (5), 3) := by decide +kernel
theorem dl_364 : decode code 364 = .ok (.iconst 0, 1) := by decide +kernel
theorem dl_365 : decode code 365 = .ok (.ireturn, 1) := by decide +kernel
theorem dl_366 : decode code 366 = .ok (.iload 6, 2) := by decide +kernel
theorem dl_368 : decode code 368 = .ok (.ifCond .ne (15), 3) := by decide +kernel
theorem dl_371 : decode code 371 = .ok (.aload_n 3, 1) := by decide +kernel
theorem dl_372 : decode code 372 = .ok (.iconst 0, 1) := by decide +kernel
theorem dl_373 : decode code 373 = .ok (.laload, 1) := by decide +kernel
theorem dl_374 : decode code 374 = .ok (.iload 7, 2) := by decide +kernel
theorem dl_376 : decode code 376 = .ok (.i2l, 1) := by decide +kernel
theorem dl_377 : decode code 377 = .ok (.lcmp, 1) := by decide +kernel
theorem dl_378 : decode code 378 = .ok (.ifCond .eq (5), 3) := by decide +kernel
theorem dl_381 : decode code 381 = .ok (.iconst 0, 1) := by decide +kernel
theorem dl_382 : decode code 382 = .ok (.ireturn, 1) := by decide +kernel
theorem dl_383 : decode code 383 = .ok (.goto (316), 3) := by decide +kernel
theorem dl_386 : decode code 386 = .ok (.aload_n 1, 1) := by decide +kernel
theorem dl_387 : decode code 387 = .ok (.aload_n 0, 1) := by decide +kernel
theorem dl_388 : decode code 388 = .ok (.iload 5, 2) := by decide +kernel
theorem dl_390 : decode code 390 = .ok (.iconst 1, 1) := by decide +kernel
theorem dl_391 : decode code 391 = .ok (.iadd, 1) := by decide +kernel
theorem dl_392 : decode code 392 = .ok (.iaload, 1) := by decide +kernel
theorem dl_393 : decode code 393 = .ok (.aload_n 0, 1) := by decide +kernel
theorem dl_394 : decode code 394 = .ok (.iload 5, 2) := by decide +kernel
theorem dl_396 : decode code 396 = .ok (.iconst 2, 1) := by decide +kernel
theorem dl_397 : decode code 397 = .ok (.iadd, 1) := by decide +kernel
theorem dl_398 : decode code 398 = .ok (.iaload, 1) := by decide +kernel
theorem dl_399 : decode code 399 = .ok (.aload_n 3, 1) := by decide +kernel
theorem dl_400 : decode code 400 = .ok (.invokestatic 88, 3) := by decide +kernel
theorem dl_403 : decode code 403 = .ok (.istore 6, 2) := by decide +kernel
theorem dl_405 : decode code 405 = .ok (.aload_n 2, 1) := by decide +kernel
theorem dl_406 : decode code 406 = .ok (.aload_n 0, 1) := by decide +kernel
theorem dl_407 : decode code 407 = .ok (.iload 5, 2) := by decide +kernel
theorem dl_409 : decode code 409 = .ok (.iconst 1, 1) := by decide +kernel
theorem dl_410 : decode code 410 = .ok (.iadd, 1) := by decide +kernel
theorem dl_411 : decode code 411 = .ok (.iaload, 1) := by decide +kernel
theorem dl_412 : decode code 412 = .ok (.aload_n 0, 1) := by decide +kernel
theorem dl_413 : decode code 413 = .ok (.iload 5, 2) := by decide +kernel
theorem dl_415 : decode code 415 = .ok (.iconst 2, 1) := by decide +kernel
theorem dl_416 : decode code 416 = .ok (.iadd, 1) := by decide +kernel
theorem dl_417 : decode code 417 = .ok (.iaload, 1) := by decide +kernel
theorem dl_418 : decode code 418 = .ok (.invokevirtual 90, 3) := by decide +kernel
theorem dl_421 : decode code 421 = .ok (.istore 7, 2) := by decide +kernel
theorem dl_423 : decode code 423 = .ok (.aload_n 2, 1) := by decide +kernel
theorem dl_424 : decode code 424 = .ok (.invokevirtual 65, 3) := by decide +kernel
theorem dl_427 : decode code 427 = .ok (.iload 6, 2) := by decide +kernel
theorem dl_429 : decode code 429 = .ok (.if_icmp .eq (5), 3) := by decide +kernel
theorem dl_432 : decode code 432 = .ok (.iconst 0, 1) := by decide +kernel
theorem dl_433 : decode code 433 = .ok (.ireturn, 1) := by decide +kernel
theorem dl_434 : decode code 434 = .ok (.iload 6, 2) := by decide +kernel
theorem dl_436 : decode code 436 = .ok (.ifCond .ne (15), 3) := by decide +kernel
theorem dl_439 : decode code 439 = .ok (.aload_n 3, 1) := by decide +kernel
theorem dl_440 : decode code 440 = .ok (.iconst 0, 1) := by decide +kernel
theorem dl_441 : decode code 441 = .ok (.laload, 1) := by decide +kernel
theorem dl_442 : decode code 442 = .ok (.iload 7, 2) := by decide +kernel
theorem dl_444 : decode code 444 = .ok (.i2l, 1) := by decide +kernel
theorem dl_445 : decode code 445 = .ok (.lcmp, 1) := by decide +kernel
theorem dl_446 : decode code 446 = .ok (.ifCond .eq (5), 3) := by decide +kernel
theorem dl_449 : decode code 449 = .ok (.iconst 0, 1) := by decide +kernel
theorem dl_450 : decode code 450 = .ok (.ireturn, 1) := by decide +kernel
theorem dl_451 : decode code 451 = .ok (.goto (248), 3) := by decide +kernel
theorem dl_454 : decode code 454 = .ok (.aload_n 1, 1) := by decide +kernel
theorem dl_455 : decode code 455 = .ok (.aload_n 0, 1) := by decide +kernel
theorem dl_456 : decode code 456 = .ok (.iload 5, 2) := by decide +kernel
theorem dl_458 : decode code 458 = .ok (.iconst 1, 1) := by decide +kernel
theorem dl_459 : decode code 459 = .ok (.iadd, 1) := by decide +kernel
theorem dl_460 : decode code 460 = .ok (.iaload, 1) := by decide +kernel
theorem dl_461 : decode code 461 = .ok (.aload_n 3, 1) := by decide +kernel
theorem dl_462 : decode code 462 = .ok (.invokestatic 91, 3) := by decide +kernel
theorem dl_465 : decode code 465 = .ok (.istore 6, 2) := by decide +kernel
theorem dl_467 : decode code 467 = .ok (.aload_n 2, 1) := by decide +kernel
theorem dl_468 : decode code 468 = .ok (.aload_n 0, 1) := by decide +kernel
theorem dl_469 : decode code 469 = .ok (.iload 5, 2) := by decide +kernel
theorem dl_471 : decode code 471 = .ok (.iconst 1, 1) := by decide +kernel
theorem dl_472 : decode code 472 = .ok (.iadd, 1) := by decide +kernel
theorem dl_473 : decode code 473 = .ok (.iaload, 1) := by decide +kernel
theorem dl_474 : decode code 474 = .ok (.invokevirtual 93, 3) := by decide +kernel
theorem dl_477 : decode code 477 = .ok (.istore 7, 2) := by decide +kernel
theorem dl_479 : decode code 479 = .ok (.aload_n 2, 1) := by decide +kernel
theorem dl_480 : decode code 480 = .ok (.invokevirtual 65, 3) := by decide +kernel
theorem dl_483 : decode code 483 = .ok (.iload 6, 2) := by decide +kernel
theorem dl_485 : decode code 485 = .ok (.if_icmp .eq (5), 3) := by decide +kernel
theorem dl_488 : decode code 488 = .ok (.iconst 0, 1) := by decide +kernel
theorem dl_489 : decode code 489 = .ok (.ireturn, 1) := by decide +kernel
theorem dl_490 : decode code 490 = .ok (.iload 6, 2) := by decide +kernel
theorem dl_492 : decode code 492 = .ok (.ifCond .ne (15), 3) := by decide +kernel
theorem dl_495 : decode code 495 = .ok (.aload_n 3, 1) := by decide +kernel
theorem dl_496 : decode code 496 = .ok (.iconst 0, 1) := by decide +kernel
theorem dl_497 : decode code 497 = .ok (.laload, 1) := by decide +kernel
theorem dl_498 : decode code 498 = .ok (.iload 7, 2) := by decide +kernel
theorem dl_500 : decode code 500 = .ok (.i2l, 1) := by decide +kernel
theorem dl_501 : decode code 501 = .ok (.lcmp, 1) := by decide +kernel
theorem dl_502 : decode code 502 = .ok (.ifCond .eq (5), 3) := by decide +kernel
theorem dl_505 : decode code 505 = .ok (.iconst 0, 1) := by decide +kernel
theorem dl_506 : decode code 506 = .ok (.ireturn, 1) := by decide +kernel
theorem dl_507 : decode code 507 = .ok (.goto (192), 3) := by decide +kernel
theorem dl_510 : decode code 510 = .ok (.aload_n 1, 1) := by decide +kernel
theorem dl_511 : decode code 511 = .ok (.aload_n 0, 1) := by decide +kernel
theorem dl_512 : decode code 512 = .ok (.iload 5, 2) := by decide +kernel
theorem dl_514 : decode code 514 = .ok (.iconst 1, 1) := by decide +kernel
theorem dl_515 : decode code 515 = .ok (.iadd, 1) := by decide +kernel
theorem dl_516 : decode code 516 = .ok (.iaload, 1) := by decide +kernel
theorem dl_517 : decode code 517 = .ok (.aload_n 3, 1) := by decide +kernel
theorem dl_518 : decode code 518 = .ok (.invokestatic 94, 3) := by decide +kernel
theorem dl_521 : decode code 521 = .ok (.istore 6, 2) := by decide +kernel
theorem dl_523 : decode code 523 = .ok (.aload_n 2, 1) := by decide +kernel
theorem dl_524 : decode code 524 = .ok (.aload_n 0, 1) := by decide +kernel
theorem dl_525 : decode code 525 = .ok (.iload 5, 2) := by decide +kernel
theorem dl_527 : decode code 527 = .ok (.iconst 1, 1) := by decide +kernel
theorem dl_528 : decode code 528 = .ok (.iadd, 1) := by decide +kernel
theorem dl_529 : decode code 529 = .ok (.iaload, 1) := by decide +kernel
theorem dl_530 : decode code 530 = .ok (.invokevirtual 96, 3) := by decide +kernel
theorem dl_533 : decode code 533 = .ok (.istore 7, 2) := by decide +kernel
theorem dl_535 : decode code 535 = .ok (.aload_n 2, 1) := by decide +kernel
theorem dl_536 : decode code 536 = .ok (.invokevirtual 65, 3) := by decide +kernel
theorem dl_539 : decode code 539 = .ok (.iload 6, 2) := by decide +kernel
theorem dl_541 : decode code 541 = .ok (.if_icmp .eq (5), 3) := by decide +kernel
theorem dl_544 : decode code 544 = .ok (.iconst 0, 1) := by decide +kernel
theorem dl_545 : decode code 545 = .ok (.ireturn, 1) := by decide +kernel
theorem dl_546 : decode code 546 = .ok (.iload 6, 2) := by decide +kernel
theorem dl_548 : decode code 548 = .ok (.ifCond .ne (15), 3) := by decide +kernel
theorem dl_551 : decode code 551 = .ok (.aload_n 3, 1) := by decide +kernel
theorem dl_552 : decode code 552 = .ok (.iconst 0, 1) := by decide +kernel
theorem dl_553 : decode code 553 = .ok (.laload, 1) := by decide +kernel
theorem dl_554 : decode code 554 = .ok (.iload 7, 2) := by decide +kernel
theorem dl_556 : decode code 556 = .ok (.i2l, 1) := by decide +kernel
theorem dl_557 : decode code 557 = .ok (.lcmp, 1) := by decide +kernel
theorem dl_558 : decode code 558 = .ok (.ifCond .eq (5), 3) := by decide +kernel
theorem dl_561 : decode code 561 = .ok (.iconst 0, 1) := by decide +kernel
theorem dl_562 : decode code 562 = .ok (.ireturn, 1) := by decide +kernel
theorem dl_563 : decode code 563 = .ok (.goto (136), 3) := by decide +kernel
theorem dl_566 : decode code 566 = .ok (.aload_n 1, 1) := by decide +kernel
theorem dl_567 : decode code 567 = .ok (.aload_n 0, 1) := by decide +kernel
theorem dl_568 : decode code 568 = .ok (.iload 5, 2) := by decide +kernel
theorem dl_570 : decode code 570 = .ok (.iconst 1, 1) := by decide +kernel
theorem dl_571 : decode code 571 = .ok (.iadd, 1) := by decide +kernel
theorem dl_572 : decode code 572 = .ok (.iaload, 1) := by decide +kernel
theorem dl_573 : decode code 573 = .ok (.aload 4, 2) := by decide +kernel
theorem dl_575 : decode code 575 = .ok (.invokestatic 97, 3) := by decide +kernel
theorem dl_578 : decode code 578 = .ok (.istore 6, 2) := by decide +kernel
theorem dl_580 : decode code 580 = .ok (.aload_n 2, 1) := by decide +kernel
theorem dl_581 : decode code 581 = .ok (.aload_n 0, 1) := by decide +kernel
theorem dl_582 : decode code 582 = .ok (.iload 5, 2) := by decide +kernel
theorem dl_584 : decode code 584 = .ok (.iconst 1, 1) := by decide +kernel
theorem dl_585 : decode code 585 = .ok (.iadd, 1) := by decide +kernel
theorem dl_586 : decode code 586 = .ok (.iaload, 1) := by decide +kernel
theorem dl_587 : decode code 587 = .ok (.invokevirtual 100, 3) := by decide +kernel
theorem dl_590 : decode code 590 = .ok (.dstore 7, 2) := by decide +kernel
theorem dl_592 : decode code 592 = .ok (.aload_n 2, 1) := by decide +kernel
theorem dl_593 : decode code 593 = .ok (.invokevirtual 65, 3) := by decide +kernel
theorem dl_596 : decode code 596 = .ok (.iload 6, 2) := by decide +kernel
theorem dl_598 : decode code 598 = .ok (.if_icmp .eq (5), 3) := by decide +kernel
theorem dl_601 : decode code 601 = .ok (.iconst 0, 1) := by decide +kernel
theorem dl_602 : decode code 602 = .ok (.ireturn, 1) := by decide +kernel
theorem dl_603 : decode code 603 = .ok (.iload 6, 2) := by decide +kernel
theorem dl_605 : decode code 605 = .ok (.ifCond .ne (35), 3) := by decide +kernel
theorem dl_608 : decode code 608 = .ok (.aload 4, 2) := by decide +kernel
theorem dl_610 : decode code 610 = .ok (.iconst 0, 1) := by decide +kernel
theorem dl_611 : decode code 611 = .ok (.daload, 1) := by decide +kernel
theorem dl_612 : decode code 612 = .ok (.dload 7, 2) := by decide +kernel
theorem dl_614 : decode code 614 = .ok (.dcmp .l, 1) := by decide +kernel
theorem dl_615 : decode code 615 = .ok (.ifCond .eq (25), 3) := by decide +kernel
theorem dl_618 : decode code 618 = .ok (.aload 4, 2) := by decide +kernel
theorem dl_620 : decode code 620 = .ok (.iconst 0, 1) := by decide +kernel
theorem dl_621 : decode code 621 = .ok (.daload, 1) := by decide +kernel
theorem dl_622 : decode code 622 = .ok (.aload 4, 2) := by decide +kernel
theorem dl_624 : decode code 624 = .ok (.iconst 0, 1) := by decide +kernel
theorem dl_625 : decode code 625 = .ok (.daload, 1) := by decide +kernel
theorem dl_626 : decode code 626 = .ok (.dcmp .l, 1) := by decide +kernel
theorem dl_627 : decode code 627 = .ok (.ifCond .eq (11), 3) := by decide +kernel
theorem dl_630 : decode code 630 = .ok (.dload 7, 2) := by decide +kernel
theorem dl_632 : decode code 632 = .ok (.dload 7, 2) := by decide +kernel
theorem dl_634 : decode code 634 = .ok (.dcmp .l, 1) := by decide +kernel
theorem dl_635 : decode code 635 = .ok (.ifCond .ne (5), 3) := by decide +kernel
theorem dl_638 : decode code 638 = .ok (.iconst 0, 1) := by decide +kernel
theorem dl_639 : decode code 639 = .ok (.ireturn, 1) := by decide +kernel
theorem dl_640 : decode code 640 = .ok (.goto (59), 3) := by decide +kernel
theorem dl_643 : decode code 643 = .ok (.aload_n 1, 1) := by decide +kernel
theorem dl_644 : decode code 644 = .ok (.aload_n 0, 1) := by decide +kernel
theorem dl_645 : decode code 645 = .ok (.iload 5, 2) := by decide +kernel
theorem dl_647 : decode code 647 = .ok (.iconst 1, 1) := by decide +kernel
theorem dl_648 : decode code 648 = .ok (.iadd, 1) := by decide +kernel
theorem dl_649 : decode code 649 = .ok (.iaload, 1) := by decide +kernel
theorem dl_650 : decode code 650 = .ok (.aload_n 3, 1) := by decide +kernel
theorem dl_651 : decode code 651 = .ok (.invokestatic 101, 3) := by decide +kernel
theorem dl_654 : decode code 654 = .ok (.istore 6, 2) := by decide +kernel
theorem dl_656 : decode code 656 = .ok (.aload_n 2, 1) := by decide +kernel
theorem dl_657 : decode code 657 = .ok (.aload_n 0, 1) := by decide +kernel
theorem dl_658 : decode code 658 = .ok (.iload 5, 2) := by decide +kernel
theorem dl_660 : decode code 660 = .ok (.iconst 1, 1) := by decide +kernel
theorem dl_661 : decode code 661 = .ok (.iadd, 1) := by decide +kernel
theorem dl_662 : decode code 662 = .ok (.iaload, 1) := by decide +kernel
theorem dl_663 : decode code 663 = .ok (.invokevirtual 103, 3) := by decide +kernel
theorem dl_666 : decode code 666 = .ok (.istore 7, 2) := by decide +kernel
theorem dl_668 : decode code 668 = .ok (.aload_n 2, 1) := by decide +kernel
theorem dl_669 : decode code 669 = .ok (.invokevirtual 65, 3) := by decide +kernel
theorem dl_672 : decode code 672 = .ok (.iload 6, 2) := by decide +kernel
theorem dl_674 : decode code 674 = .ok (.if_icmp .eq (5), 3) := by decide +kernel
theorem dl_677 : decode code 677 = .ok (.iconst 0, 1) := by decide +kernel
theorem dl_678 : decode code 678 = .ok (.ireturn, 1) := by decide +kernel
theorem dl_679 : decode code 679 = .ok (.iload 6, 2) := by decide +kernel
theorem dl_681 : decode code 681 = .ok (.ifCond .ne (15), 3) := by decide +kernel
theorem dl_684 : decode code 684 = .ok (.aload_n 3, 1) := by decide +kernel
theorem dl_685 : decode code 685 = .ok (.iconst 0, 1) := by decide +kernel
theorem dl_686 : decode code 686 = .ok (.laload, 1) := by decide +kernel
theorem dl_687 : decode code 687 = .ok (.iload 7, 2) := by decide +kernel
theorem dl_689 : decode code 689 = .ok (.i2l, 1) := by decide +kernel
theorem dl_690 : decode code 690 = .ok (.lcmp, 1) := by decide +kernel
theorem dl_691 : decode code 691 = .ok (.ifCond .eq (5), 3) := by decide +kernel
theorem dl_694 : decode code 694 = .ok (.iconst 0, 1) := by decide +kernel
theorem dl_695 : decode code 695 = .ok (.ireturn, 1) := by decide +kernel
theorem dl_696 : decode code 696 = .ok (.goto (3), 3) := by decide +kernel
theorem dl_699 : decode code 699 = .ok (.iinc 5 3, 3) := by decide +kernel
theorem dl_702 : decode code 702 = .ok (.goto (-674), 3) := by decide +kernel
theorem dl_705 : decode code 705 = .ok (.iconst 1, 1) := by decide +kernel
theorem dl_706 : decode code 706 = .ok (.ireturn, 1) := by decide +kernel
theorem lawT : ∀ q ∈ TBW, q ∈ lw_tbl := fun q h => (List.mem_filter.mp h).1
section LR
variable {p : Program} {l : Launch} {e : Env} {R : Room} {s : State} {m : MethodId} {args : Array Value} {below : List Frame} {meth : Method} {c : Code} {H : Heap} {locs : List Loc} {cells slots pc nL maxL idx : Nat} {ls : Array Slot} {cc : ByteArray} {Ts : List Cond}
/-- a call of one of the law's own methods that catch -/
theorem runSW {y : MethodName} {bytes : ByteArray} {hh : List (Nat × Nat × Nat × Nat)} {Pc : Array Value → State → Prop} {Qc : Array Value → State → Outcome → State → Prop} {free : Addr → Prop} {As rest : List Value}
    (C0 : CXZ p s m args meth c Ts 14 cc nL) (hM : Met l y (Cond.codeWith y bytes maxL (some .int) hh :: TBW) rmW Pc Qc 1 6 free) (hp : PreS s H Pc As)
    (hw : Cond.codeWith y bytes maxL (some .int) hh ∈ TBW ∧ Cond.methodLink (clsN 14) idx y ∈ TBW ∧ Cond.static y ∈ TBW ∧ Cond.initialized y.cls ∈ TBW)
    (hd : y.cls ≠ "java/lang/invoke/MethodHandle" ∧ y.cls ≠ "java/lang/invoke/VarHandle" ∧ (parseMethodDescriptor y.desc).map (fun d => d.parameters.length) = some As.length)
    (hR : 61 ≤ R.frames ∧ 2019 + maxL ≤ R.locals) (hls : ls.size = nL) (hrl : (rest.map fun v => v.category).sum ≤ 8) (hdg : decode cc pc = .ok (.invokestatic idx, 3)) (hf : cells + 1 ≤ R.cells ∧ slots + 6 ≤ R.slots) :
    va_Run p l e R s m args below meth c H locs cells slots 1 6 (F0 m pc ls (As.reverse ++ rest)) rest (Qc As.toArray) free := by
  obtain ⟨hx, hb, hml, ho, hts, hT⟩ := C0
  obtain ⟨w1, w2, w3, w4⟩ := hw
  have hG : GoodIn Ts (Cond.codeWith y bytes maxL (some .int) hh :: TBW) := fun q hq => by
    rcases List.mem_cons.mp hq with rfl | z
    · exact ⟨hT _ w1, goodW w1⟩
    · exact ⟨hT _ z, goodW z⟩
  have hK : Back l R p e below s args y 3 8 (PreOf R 1 6 Pc) (PostOf Qc 1 6 free) := va_backW (hh := hh) (bytes := bytes) (maxL := maxL) (ret := some .int) hM hp.1 rfl rfl (by show 60 + 1 ≤ _; omega) (by show 8 + (maxL + 11) + 2000 ≤ _; omega) (pay_in hts hG) List.mem_cons_self (fun a' U hW => word_at hW (goodW w4) (hts _ (hT _ w4)))
  obtain ⟨mk, methM, cM, hnamed, hmethM, -, -, -, -, -, -, hsigM⟩ := Cond.codeWith_spec (hts _ (hT _ w1))
  have hstatic : methM.isStatic = true := Cond.static_spec hnamed hmethM (hts _ (hT _ w3))
  obtain ⟨kP, hkP, -⟩ := className_of_methodNamed hnamed
  have hinitP : kP.init = .initialized := Cond.initialized_spec (findClass_of_methodNamed hnamed) hkP (hts _ (hT _ w4))
  have hlen : As.length = methM.sig.parameters.length := by
    have h2 := hd.2.2
    rw [hsigM] at h2
    exact (Option.some.inj h2).symm
  intro T hT' X
  obtain ⟨vm₁, X₁, hstep₁⟩ := X.invokestatic hx ho (hts _ (hT _ w2)) hnamed hmethM hstatic hkP hinitP ⟨hd.1, hd.2.1⟩ (g := F0 m pc ls (As.reverse ++ rest)) rfl (argsL := As) (rest := rest) hlen rfl (by rw [hb]; exact hdg)
  obtain ⟨v, ⟨U', l2, c2, s2⟩, X', ⟨g', mk', t, L, e1, e2, hq, h1, hL, h2, h3⟩, st⟩ := hK m meth c ⟨T.setVm vm₁, locs, cells, slots⟩ { (F0 m pc ls (As.reverse ++ rest) : JFrame) with stack := rest } (.invokestatic idx) mk As.toArray X₁ rfl (hls.trans hml.symm) (by rw [hb]; exact hdg) (by show 2 * 0 + (rest.map fun v => v.category).sum ≤ 8; omega) (X₁.named hnamed) ⟨hf.1, hf.2, hp.2 (T.setVm vm₁) hT' X₁.warmed⟩
  dsimp only [Pt.U, Pt.locs, Pt.cells, Pt.slots] at X' e1 e2 h1 h2 h3 st
  subst h1; subst h2; subst h3
  exact ⟨v, (T.setVm vm₁).calling g' mk' As.toArray, t, U', L, hT', X', hL, e1, e2, hq, fun target h => hstep₁ _ fun acts => by rw [doInvoke_state]; exact st.trans h⟩
end LR
abbrev LVs (b B : Nat) (i : Int32) : List (Nat × Value) := [(0, .ref b), (1, .ref (adF B 56)), (2, .ref (adF B 0)), (3, .ref (B + 151)), (4, .ref (B + 152)), (5, .int i)]
/-- what stands at every place of the law's body -/
def LC (p : Program) (s : State) (m : MethodId) (meth : Method) (c : Code) (D : va_G) (cT : Nat → ClassId) (cL cD : ClassId) (b L : Nat) (xs : Nat → Int32) : Prop := CXZ p s m #[Value.ref b] meth c lw_tbl 14 code 9 ∧ KZ D cT s ∧ ThrK s ∧ NCK s ∧ ArrOfT s cL .long ∧ ArrOfT s cD .double ∧ va_X b L xs s s.heap ∧ b < s.heap.size ∧ L ≤ 1536
/-- the memory between two calls: the objects, the two cells for answers -/
def LM (s : State) (D : va_G) (cT : Nat → ClassId) (cL cD : ClassId) (w : Mem) (zo uo : Value) (H : Heap) (locs : List Loc) : Prop := va_P D clZ (wS (adF s.heap.size) cT w) H ∧ MOK w ∧ H[s.heap.size + 151]? = some (arrV cL 1 (fun _ => zo)) ∧ H[s.heap.size + 152]? = some (arrV cD 1 (fun _ => uo)) ∧ va_S (fun q => s.heap.size ≤ q) s.heap H locs
theorem ad_ge {B sz q : Nat} (hsz : B ≤ sz) (h : AZ (adF B) sz q) : B ≤ q := by
  rcases h with ⟨k, hk, rfl⟩ | z
  · exact Nat.le_add_right _ _
  · omega
theorem ad_ne {B k j : Nat} (hk : k < lyt.length) (hj : 151 ≤ j) : adF B k ≠ B + j := fun h => by
  have := (chk_k (by rw [lyt_len] at hk; exact hk)).2.1
  unfold adF at h
  omega
theorem ad_nz {B sz j : Nat} (hj : 151 ≤ j) (hs : B + j < sz) : ¬ AZ (adF B) sz (B + j) := fun h => by
  rcases h with ⟨k, hk, e⟩ | z
  · exact ad_ne hk hj e.symm
  · omega
set_option maxRecDepth 20000 in
theorem ll_thrown : Cond.methodLink (clsN 14) 65 (mN 0) ∈ TBW := tb6 156 rfl rfl
set_option maxRecDepth 20000 in
theorem ll_clearF : Cond.methodLink (clsN 14) 68 (mN 65) ∈ TBW := tb3 1 rfl rfl
set_option maxRecDepth 20000 in
theorem ll_clearM : Cond.methodLink (clsN 14) 71 (mN 4) ∈ TBW := tb6 171 rfl rfl
set_option maxRecDepth 20000 in
theorem ll_whereF : Cond.methodLink (clsN 14) 76 (mN 67) ∈ TBW := tb3 5 rfl rfl
set_option maxRecDepth 20000 in
theorem ll_whereM : Cond.methodLink (clsN 14) 79 (mN 47) ∈ TBW := tb7 114 rfl rfl
set_option maxRecDepth 20000 in
theorem ll_text : Cond.methodLink (clsN 14) 64 (mN 3) ∈ TBW := tb6 160 rfl rfl
set_option maxRecDepth 20000 in
theorem sw_text : Cond.codeWith y_text method_3_code 5 (some .int) [((0 : Nat), (9 : Nat), (12 : Nat), (13 : Nat)), ((0 : Nat), (9 : Nat), (16 : Nat), (15 : Nat))] ∈ TBW ∧ Cond.methodLink (clsN 14) 59 y_text ∈ TBW ∧ Cond.static y_text ∈ TBW ∧ Cond.initialized y_text.cls ∈ TBW := ⟨tb3 11 rfl rfl, tb3 9 rfl rfl, tb3 10 rfl rfl, tb1 0 rfl rfl⟩
set_option maxRecDepth 20000 in
theorem ll_compile : Cond.methodLink (clsN 14) 75 (mN 46) ∈ TBW := tb6 175 rfl rfl
set_option maxRecDepth 20000 in
theorem sw_compile : Cond.codeWith y_compile method_4_code 3 (some .int) [((0 : Nat), (8 : Nat), (11 : Nat), (13 : Nat)), ((0 : Nat), (8 : Nat), (14 : Nat), (21 : Nat)), ((0 : Nat), (8 : Nat), (17 : Nat), (15 : Nat)), ((0 : Nat), (8 : Nat), (20 : Nat), (23 : Nat)), ((0 : Nat), (8 : Nat), (23 : Nat), (25 : Nat))] ∈ TBW ∧ Cond.methodLink (clsN 14) 72 y_compile ∈ TBW ∧ Cond.static y_compile ∈ TBW ∧ Cond.initialized y_compile.cls ∈ TBW := ⟨tb3 110 rfl rfl, tb3 108 rfl rfl, tb3 109 rfl rfl, tb1 0 rfl rfl⟩
set_option maxRecDepth 20000 in
theorem ll_signal : Cond.methodLink (clsN 14) 83 (mN 52) ∈ TBW := tb7 118 rfl rfl
set_option maxRecDepth 20000 in
theorem sw_signal : Cond.codeWith y_signal method_5_code 5 (some .int) [((0 : Nat), (10 : Nat), (13 : Nat), (13 : Nat)), ((0 : Nat), (10 : Nat), (17 : Nat), (31 : Nat))] ∈ TBW ∧ Cond.methodLink (clsN 14) 80 y_signal ∈ TBW ∧ Cond.static y_signal ∈ TBW ∧ Cond.initialized y_signal.cls ∈ TBW := ⟨tb5 66 rfl rfl, tb5 64 rfl rfl, tb5 65 rfl rfl, tb1 0 rfl rfl⟩
set_option maxRecDepth 20000 in
theorem ll_depends : Cond.methodLink (clsN 14) 87 (mN 53) ∈ TBW := tb7 122 rfl rfl
set_option maxRecDepth 20000 in
theorem sw_depends : Cond.codeWith y_depends method_6_code 4 (some .int) [((0 : Nat), (9 : Nat), (12 : Nat), (31 : Nat))] ∈ TBW ∧ Cond.methodLink (clsN 14) 84 y_depends ∈ TBW ∧ Cond.static y_depends ∈ TBW ∧ Cond.initialized y_depends.cls ∈ TBW := ⟨tb5 95 rfl rfl, tb5 93 rfl rfl, tb5 94 rfl rfl, tb1 0 rfl rfl⟩
set_option maxRecDepth 20000 in
theorem ll_set : Cond.methodLink (clsN 14) 90 (mN 54) ∈ TBW := tb7 126 rfl rfl
set_option maxRecDepth 20000 in
theorem sw_set : Cond.codeWith y_set method_7_code 5 (some .int) [((0 : Nat), (10 : Nat), (13 : Nat), (31 : Nat)), ((0 : Nat), (10 : Nat), (17 : Nat), (21 : Nat))] ∈ TBW ∧ Cond.methodLink (clsN 14) 88 y_set ∈ TBW ∧ Cond.static y_set ∈ TBW ∧ Cond.initialized y_set.cls ∈ TBW := ⟨tb5 102 rfl rfl, tb5 100 rfl rfl, tb5 101 rfl rfl, tb1 0 rfl rfl⟩
set_option maxRecDepth 20000 in
theorem ll_value : Cond.methodLink (clsN 14) 93 (mN 55) ∈ TBW := tb7 130 rfl rfl
set_option maxRecDepth 20000 in
theorem sw_value : Cond.codeWith y_value method_8_code 4 (some .int) [((0 : Nat), (9 : Nat), (12 : Nat), (31 : Nat))] ∈ TBW ∧ Cond.methodLink (clsN 14) 91 y_value ∈ TBW ∧ Cond.static y_value ∈ TBW ∧ Cond.initialized y_value.cls ∈ TBW := ⟨tb5 115 rfl rfl, tb5 113 rfl rfl, tb5 114 rfl rfl, tb1 0 rfl rfl⟩
set_option maxRecDepth 20000 in
theorem ll_clock : Cond.methodLink (clsN 14) 96 (mN 57) ∈ TBW := tb7 134 rfl rfl
set_option maxRecDepth 20000 in
theorem sw_clock : Cond.codeWith y_clock method_9_code 4 (some .int) [((0 : Nat), (9 : Nat), (12 : Nat), (13 : Nat)), ((0 : Nat), (9 : Nat), (15 : Nat), (15 : Nat))] ∈ TBW ∧ Cond.methodLink (clsN 14) 94 y_clock ∈ TBW ∧ Cond.static y_clock ∈ TBW ∧ Cond.initialized y_clock.cls ∈ TBW := ⟨tb5 122 rfl rfl, tb5 120 rfl rfl, tb5 121 rfl rfl, tb1 0 rfl rfl⟩
set_option maxRecDepth 20000 in
theorem ll_activity : Cond.methodLink (clsN 14) 100 (mN 58) ∈ TBW := tb7 142 rfl rfl
set_option maxRecDepth 20000 in
theorem sw_activity : Cond.codeWith y_activity method_10_code 4 (some .int) [((0 : Nat), (8 : Nat), (11 : Nat), (31 : Nat))] ∈ TBW ∧ Cond.methodLink (clsN 14) 97 y_activity ∈ TBW ∧ Cond.static y_activity ∈ TBW ∧ Cond.initialized y_activity.cls ∈ TBW := ⟨tb5 136 rfl rfl, tb5 134 rfl rfl, tb5 135 rfl rfl, tb1 0 rfl rfl⟩
set_option maxRecDepth 20000 in
theorem ll_count : Cond.methodLink (clsN 14) 103 (mN 59) ∈ TBW := tb7 146 rfl rfl
set_option maxRecDepth 20000 in
theorem sw_count : Cond.codeWith y_count method_11_code 4 (some .int) [((0 : Nat), (9 : Nat), (12 : Nat), (13 : Nat))] ∈ TBW ∧ Cond.methodLink (clsN 14) 101 y_count ∈ TBW ∧ Cond.static y_count ∈ TBW ∧ Cond.initialized y_count.cls ∈ TBW := ⟨tb5 143 rfl rfl, tb5 141 rfl rfl, tb5 142 rfl rfl, tb1 0 rfl rfl⟩
set_option maxRecDepth 20000 in
theorem kl_57 : Cond.constantLong (clsN 14) 57 4294967295 ∈ TBW := tb7 150 rfl rfl
section LS
variable {p : Program} {l : Launch} {e : Env} {s : State} {m : MethodId} {below : List Frame} {meth : Method} {c : Code} {Q : State → Prop}
variable {D : va_G} {cT : Nat → ClassId} {cL cD : ClassId} {b L : Nat} {xs : Nat → Int32} {pc cells slots n : Nat} {w w1 w2 : Mem} {ls : Array Slot} {H : Heap} {locs : List Loc} {rest st : List Value}
theorem callLaw {y : MethodName} {bytes : ByteArray} {maxL idx : Nat} {hh : List (Nat × Nat × Nat × Nat)} {as : List AV} {k : Int} {zo zo' uo : Value} (C : LC p s m meth c D cT cL cD b L xs)
    (hM : Met l y (Cond.codeWith y bytes maxL (some .int) hh :: TBW) rmW (PcW (adF s.heap.size) D cT w as (s.heap.size + 151) cL .long zo H.size) (QW (adF s.heap.size) D cT (fun q => AZ (adF s.heap.size) H.size q ∨ q = s.heap.size + 151) (s.heap.size + 151) cL k w1 zo') 1 6 (fun q => AZ (adF s.heap.size) H.size q ∨ q = s.heap.size + 151))
    (hw : Cond.codeWith y bytes maxL (some .int) hh ∈ TBW ∧ Cond.methodLink (clsN 14) idx y ∈ TBW ∧ Cond.static y ∈ TBW ∧ Cond.initialized y.cls ∈ TBW)
    (hd : y.cls ≠ "java/lang/invoke/MethodHandle" ∧ y.cls ≠ "java/lang/invoke/VarHandle" ∧ (parseMethodDescriptor y.desc).map (fun d => d.parameters.length) = some (as.length + 1)) (hmx : maxL ≤ 20)
    (hL : LM s D cT cL cD w zo uo H locs) (hls : ls.size = 9) (hf : cells + 1 ≤ 601024 ∧ slots + 6 ≤ 7293034) (hdg : decode code pc = .ok (.invokestatic idx, 3)) (hst : st = (as.map (cV (adF s.heap.size)) ++ [Value.ref (s.heap.size + 151)]).reverse)
    (kk : ∀ H1 locs1, LM s D cT cL cD w1 zo' uo H1 locs1 → W p l e room_1 s m #[Value.ref b] below meth c H1 locs1 (cells + 1) (slots + 6) Q (F0 m (pc + 3) ls [.int (i32 k)])) : W p l e room_1 s m #[Value.ref b] below meth c H locs cells slots Q (F0 m pc ls st) := by
  subst hst
  obtain ⟨C0, hK, hT0, hN, tL, tD, hX, hbl, hLx⟩ := C
  obtain ⟨hP, hm, ho, hu, hS⟩ := hL
  have hso : s.heap.size + 151 < H.size := (Array.getElem?_eq_some_iff.mp ho).1
  have hsu : s.heap.size + 152 < H.size := (Array.getElem?_eq_some_iff.mp hu).1
  have hp : PreS s H (PcW (adF s.heap.size) D cT w as (s.heap.size + 151) cL .long zo H.size) (as.map (cV (adF s.heap.size)) ++ [Value.ref (s.heap.size + 151)]) := ⟨pcW_blind, fun U hU hW => ⟨rfl, by rw [hU], ⟨by rw [hU]; exact hP, first_D.weaken (fun _ _ _ _ => trivial), hK.moved hW, hm⟩, hT0.moved hW (fun a cell h1 h2 => by
    have hlt : a < s.heap.size := (Array.getElem?_eq_some_iff.mp h1).1
    rw [hU, hS.2.1 a hlt (by omega)]
    exact h1), hN.moved hW.alike, by rw [hU]; exact ho, arrOfT_moved hW.alike tL⟩⟩
  have hr := runSW (e := e) (below := below) (R := room_1) (rest := []) (ls := ls) (cells := cells) (slots := slots) (locs := locs) C0 hM hp hw ⟨hd.1, hd.2.1, by rw [hd.2.2, List.length_append, List.length_map]; rfl⟩ ⟨by decide, by show 2019 + maxL ≤ 84000; omega⟩ hls (Nat.zero_le _) hdg hf
  rw [List.append_nil] at hr
  have key : ∀ q, (AZ (adF s.heap.size) H.size q ∨ q = s.heap.size + 151) → s.heap.size ≤ q := fun q hq => by
    rcases hq with z | rfl
    · exact ad_ge hS.1 z
    · exact Nat.le_add_right _ _
  refine va_calli hr hS (fun q _ hq => key q hq) (fun q hq => key q hq) (fun x u t H1 locs1 ht hvm hx hB hz hk hS1 => ?_)
  obtain ⟨⟨hP1, -, -, hm1⟩, ho1⟩ := hB
  rw [ht] at hP1 ho1
  have hx' : x = i32 k := hx
  subst hx'
  exact kk H1 locs1 ⟨hP1, hm1, ho1, by
    rw [hk _ hsu (fun z => by
      rcases z with z | z
      · exact ad_nz (by decide) hsu z
      · omega)]
    exact hu, hS1⟩
theorem callLawD {y : MethodName} {bytes : ByteArray} {maxL idx : Nat} {hh : List (Nat × Nat × Nat × Nat)} {as : List AV} {k : Int} {zo zo' uo : Value} (C : LC p s m meth c D cT cL cD b L xs)
    (hM : Met l y (Cond.codeWith y bytes maxL (some .int) hh :: TBW) rmW (PcW (adF s.heap.size) D cT w as (s.heap.size + 152) cD .double uo H.size) (QW (adF s.heap.size) D cT (fun q => AZ (adF s.heap.size) H.size q ∨ q = s.heap.size + 152) (s.heap.size + 152) cD k w1 zo') 1 6 (fun q => AZ (adF s.heap.size) H.size q ∨ q = s.heap.size + 152))
    (hw : Cond.codeWith y bytes maxL (some .int) hh ∈ TBW ∧ Cond.methodLink (clsN 14) idx y ∈ TBW ∧ Cond.static y ∈ TBW ∧ Cond.initialized y.cls ∈ TBW)
    (hd : y.cls ≠ "java/lang/invoke/MethodHandle" ∧ y.cls ≠ "java/lang/invoke/VarHandle" ∧ (parseMethodDescriptor y.desc).map (fun d => d.parameters.length) = some (as.length + 1)) (hmx : maxL ≤ 20)
    (hL : LM s D cT cL cD w zo uo H locs) (hls : ls.size = 9) (hf : cells + 1 ≤ 601024 ∧ slots + 6 ≤ 7293034) (hdg : decode code pc = .ok (.invokestatic idx, 3)) (hst : st = (as.map (cV (adF s.heap.size)) ++ [Value.ref (s.heap.size + 152)]).reverse)
    (kk : ∀ H1 locs1, LM s D cT cL cD w1 zo zo' H1 locs1 → W p l e room_1 s m #[Value.ref b] below meth c H1 locs1 (cells + 1) (slots + 6) Q (F0 m (pc + 3) ls [.int (i32 k)])) : W p l e room_1 s m #[Value.ref b] below meth c H locs cells slots Q (F0 m pc ls st) := by
  subst hst
  obtain ⟨C0, hK, hT0, hN, tL, tD, hX, hbl, hLx⟩ := C
  obtain ⟨hP, hm, ho, hu, hS⟩ := hL
  have hso : s.heap.size + 151 < H.size := (Array.getElem?_eq_some_iff.mp ho).1
  have hsu : s.heap.size + 152 < H.size := (Array.getElem?_eq_some_iff.mp hu).1
  have hp : PreS s H (PcW (adF s.heap.size) D cT w as (s.heap.size + 152) cD .double uo H.size) (as.map (cV (adF s.heap.size)) ++ [Value.ref (s.heap.size + 152)]) := ⟨pcW_blind, fun U hU hW => ⟨rfl, by rw [hU], ⟨by rw [hU]; exact hP, first_D.weaken (fun _ _ _ _ => trivial), hK.moved hW, hm⟩, hT0.moved hW (fun a cell h1 h2 => by
    have hlt : a < s.heap.size := (Array.getElem?_eq_some_iff.mp h1).1
    rw [hU, hS.2.1 a hlt (by omega)]
    exact h1), hN.moved hW.alike, by rw [hU]; exact hu, arrOfT_moved hW.alike tD⟩⟩
  have hr := runSW (e := e) (below := below) (R := room_1) (rest := []) (ls := ls) (cells := cells) (slots := slots) (locs := locs) C0 hM hp hw ⟨hd.1, hd.2.1, by rw [hd.2.2, List.length_append, List.length_map]; rfl⟩ ⟨by decide, by show 2019 + maxL ≤ 84000; omega⟩ hls (Nat.zero_le _) hdg hf
  rw [List.append_nil] at hr
  have key : ∀ q, (AZ (adF s.heap.size) H.size q ∨ q = s.heap.size + 152) → s.heap.size ≤ q := fun q hq => by
    rcases hq with z | rfl
    · exact ad_ge hS.1 z
    · exact Nat.le_add_right _ _
  refine va_calli hr hS (fun q _ hq => key q hq) (fun q hq => key q hq) (fun x u t H1 locs1 ht hvm hx hB hz hk hS1 => ?_)
  obtain ⟨⟨hP1, -, -, hm1⟩, ho1⟩ := hB
  rw [ht] at hP1 ho1
  have hx' : x = i32 k := hx
  subst hx'
  exact kk H1 locs1 ⟨hP1, hm1, by
    rw [hk _ hso (fun z => by
      rcases z with z | z
      · exact ad_nz (by decide) hso z
      · omega)]
    exact ho, ho1, hS1⟩
theorem callMod {rr j idx : Nat} {as' : List AV} {v : Int} {zo uo : Value} (C : LC p s m meth c D cT cL cD b L xs) (hj : j < 171) (hj2 : ¬ (60 ≤ j ∧ j ≤ 62)) (hmj : mL j ≤ 20) (hs : mSt j = 0) (hln : Cond.methodLink (clsN 14) idx (mN j) ∈ TBW) (hn : (aR rr :: as').length = mNa j) (hrx : obC rr = mC j) (hmc : mC j < 13) (hrl : (rest.map fun v => v.category).sum ≤ 8) (hd : decode code pc = .ok (.invokevirtual idx, 3))
    (hz : Zc 20 j (aR rr :: as') w = rI v w1) (hok : ∀ q ∈ as', okV q) (hL : LM s D cT cL cD w zo uo H locs) (hls : ls.size = 9) (hc : cells ≤ 601024 ∧ slots ≤ 7293034) (hst : st = (as'.map (cV (adF s.heap.size))).reverse ++ .ref (adF s.heap.size rr) :: rest)
    (kk : ∀ H1 locs1, LM s D cT cL cD w1 zo uo H1 locs1 → W p l e room_1 s m #[Value.ref b] below meth c H1 locs1 cells slots Q (F0 m (pc + 3) ls (.int (i32 v) :: rest))) : W p l e room_1 s m #[Value.ref b] below meth c H locs cells slots Q (F0 m pc ls st) := by
  subst hst
  obtain ⟨C0, hK, hT0, hN, tL, tD, hX, hbl, hLx⟩ := C
  obtain ⟨hP, hm, ho, hu, hS⟩ := hL
  have hso : s.heap.size + 151 < H.size := (Array.getElem?_eq_some_iff.mp ho).1
  have hsu : s.heap.size + 152 < H.size := (Array.getElem?_eq_some_iff.mp hu).1
  obtain ⟨Ar, hrun⟩ := runX (e := e) (below := below) (locs := locs) (cells := cells) (slots := slots) (R := room_1) (d := 20) (j := j) (rr := rr) (rest := rest) (ls := ls) C0 hK ⟨by decide, by decide⟩ hmj (fmAll j hj hj2) hs hln hn hrx hmc hrl hd (z_met l 20 (adF s.heap.size) D cT j _ w _ H.size (by rw [mtt_len]; exact hj) hj2 hz (fun q hq => by
    rcases List.mem_cons.mp hq with rfl | z
    · exact okV_R _
    · exact hok q z) (by show (1 : Nat) < 10; decide)) hP (first_D.weaken (fun _ _ _ _ => trivial)) hm hls hc
  unfold QZ at hrun
  rw [if_pos rfl] at hrun
  refine va_calli hrun hS (fun q _ hq => ad_ge hS.1 hq) (fun q hq => ad_ge hS.1 hq) (fun x u t H1 locs1 ht hvm hp hB hz1 hk1 hS1 => ?_)
  obtain ⟨hP1, -, -, hm1⟩ := hB
  rw [ht] at hP1
  have hx' : x = i32 v := hp.1
  subst hx'
  exact kk H1 locs1 ⟨hP1, hm1, by rw [hk1 _ hso (ad_nz (by decide) hso)]; exact ho, by rw [hk1 _ hsu (ad_nz (by decide) hsu)]; exact hu, hS1⟩
theorem callModD {rr j idx : Nat} {as' : List AV} {v : Int} {zo uo : Value} (C : LC p s m meth c D cT cL cD b L xs) (hj : j < 171) (hj2 : ¬ (60 ≤ j ∧ j ≤ 62)) (hmj : mL j ≤ 20) (hs : mSt j = 0) (hln : Cond.methodLink (clsN 14) idx (mN j) ∈ TBW) (hn : (aR rr :: as').length = mNa j) (hrx : obC rr = mC j) (hmc : mC j < 13) (hrl : (rest.map fun v => v.category).sum ≤ 8) (hd : decode code pc = .ok (.invokevirtual idx, 3))
    (hz : Zc 20 j (aR rr :: as') w = rD v w1) (hok : ∀ q ∈ as', okV q) (hL : LM s D cT cL cD w zo uo H locs) (hls : ls.size = 9) (hc : cells ≤ 601024 ∧ slots ≤ 7293034) (hst : st = (as'.map (cV (adF s.heap.size))).reverse ++ .ref (adF s.heap.size rr) :: rest)
    (kk : ∀ H1 locs1, LM s D cT cL cD w1 zo uo H1 locs1 → W p l e room_1 s m #[Value.ref b] below meth c H1 locs1 cells slots Q (F0 m (pc + 3) ls (.double (dU v) :: rest))) : W p l e room_1 s m #[Value.ref b] below meth c H locs cells slots Q (F0 m pc ls st) := by
  subst hst
  obtain ⟨C0, hK, hT0, hN, tL, tD, hX, hbl, hLx⟩ := C
  obtain ⟨hP, hm, ho, hu, hS⟩ := hL
  have hso : s.heap.size + 151 < H.size := (Array.getElem?_eq_some_iff.mp ho).1
  have hsu : s.heap.size + 152 < H.size := (Array.getElem?_eq_some_iff.mp hu).1
  obtain ⟨Ar, hrun⟩ := runX (e := e) (below := below) (locs := locs) (cells := cells) (slots := slots) (R := room_1) (d := 20) (j := j) (rr := rr) (rest := rest) (ls := ls) C0 hK ⟨by decide, by decide⟩ hmj (fmAll j hj hj2) hs hln hn hrx hmc hrl hd (z_met l 20 (adF s.heap.size) D cT j _ w _ H.size (by rw [mtt_len]; exact hj) hj2 hz (fun q hq => by
    rcases List.mem_cons.mp hq with rfl | z
    · exact okV_R _
    · exact hok q z) (by show (2 : Nat) < 10; decide)) hP (first_D.weaken (fun _ _ _ _ => trivial)) hm hls hc
  unfold QZ at hrun
  rw [if_neg (by show ¬ (2 : Nat) = 1; decide), if_pos rfl] at hrun
  refine va_calld hrun hS (fun q _ hq => ad_ge hS.1 hq) (fun q hq => ad_ge hS.1 hq) (fun x u t H1 locs1 ht hvm hp hB hz1 hk1 hS1 => ?_)
  obtain ⟨hP1, -, -, hm1⟩ := hB
  rw [ht] at hP1
  have hx' : x = dU v := hp
  subst hx'
  exact kk H1 locs1 ⟨hP1, hm1, by rw [hk1 _ hso (ad_nz (by decide) hso)]; exact ho, by rw [hk1 _ hsu (ad_nz (by decide) hsu)]; exact hu, hS1⟩
theorem ld_x {k : Nat} {zo uo : Value} {lv : List (Nat × Value)} {a0 a5 : Nat} (C : LC p s m meth c D cT cL cD b L xs) (hk : n + k < L) (hL : LM s D cT cL cD w zo uo H locs) (hl : lv_has ls 9 lv) (h0 : lv[a0]? = some (0, .ref b)) (h5 : lv[a5]? = some (5, .int (i32 (n : Int)))) (d0 : decode code pc = .ok (.aload_n 0, 1)) (d1 : decode code (pc + 1) = .ok (.iload 5, 2)) (d3 : decode code (pc + 3) = .ok (.iconst (k : Int), 1)) (d4 : decode code (pc + 4) = .ok (.iadd, 1)) (d5 : decode code (pc + 5) = .ok (.iaload, 1))
    (kk : W p l e room_1 s m #[Value.ref b] below meth c H locs cells slots Q (F0 m (pc + 6) ls (.int (xs (n + k)) :: rest))) : W p l e room_1 s m #[Value.ref b] below meth c H locs cells slots Q (F0 m pc ls rest) := by
  obtain ⟨⟨hx, hb, -⟩, -, -, -, -, -, hX, hbl, hLx⟩ := C
  obtain ⟨-, -, -, -, hS⟩ := hL
  have hin : inI ((n + k : Nat) : Int) := by unfold inI; omega
  have e1 : i32 (n : Int) + i32 (k : Int) = i32 ((n + k : Nat) : Int) := by rw [i32_add, Int.natCast_add]
  refine lv_aload_n hx hb d0 rfl (lv_at hl a0 h0) ?_
  refine lv_iload hx hb d1 (lv_at hl a5 h5) ?_
  refine lv_iconst (v := i32 (k : Int)) hx hb d3 rfl ?_
  refine lv_iadd hx hb d4 ?_
  rw [e1]
  refine va_sld hx hb hX hbl (A := fun q => s.heap.size ≤ q) (by show ¬ s.heap.size ≤ b; omega) hS (i32_vp hin (Int.natCast_nonneg _) (by omega)) d5 ?_
  rw [i32_clamp hin, Int.toNat_natCast]
  exact kk
/-- the law compares: the answer's kind, then the answer -/
theorem tail_int {q : Nat} {off v k : Int} {z' : Int64} {uo : Value} {i : Int32} (C : LC p s m meth c D cT cL cD b L xs) (hoff : ((q + 30 : Nat) : Int) + off = ((699 : Nat) : Int))
    (d0 : decode code q = .ok (.istore 7, 2)) (d2 : decode code (q + 2) = .ok (.aload_n 2, 1)) (d3 : decode code (q + 3) = .ok (.invokevirtual 65, 3)) (d6 : decode code (q + 6) = .ok (.iload 6, 2)) (d8 : decode code (q + 8) = .ok (.if_icmp .eq 5, 3)) (d13 : decode code (q + 13) = .ok (.iload 6, 2)) (d15 : decode code (q + 15) = .ok (.ifCond .ne 15, 3)) (d18 : decode code (q + 18) = .ok (.aload_n 3, 1)) (d19 : decode code (q + 19) = .ok (.iconst 0, 1)) (d20 : decode code (q + 20) = .ok (.laload, 1)) (d21 : decode code (q + 21) = .ok (.iload 7, 2)) (d23 : decode code (q + 23) = .ok (.i2l, 1)) (d24 : decode code (q + 24) = .ok (.lcmp, 1)) (d25 : decode code (q + 25) = .ok (.ifCond .eq 5, 3)) (d30 : decode code (q + 30) = .ok (.goto off, 3))
    (hL : LM s D cT cL cD w (.long z') uo H locs) (hl : lv_has ls 9 ((6, .int (i32 k)) :: LVs b s.heap.size i)) (hth : w 0 4 = k) (hv : (k = 0 ∧ z' = (i32 v).toInt64) ∨ ¬ i32 k = 0) (hc : cells ≤ 601024 ∧ slots ≤ 7293034)
    (kn : ∀ ls1 H1 locs1, lv_has ls1 9 (LVs b s.heap.size i) → LM s D cT cL cD w (.long z') uo H1 locs1 → W p l e room_1 s m #[Value.ref b] below meth c H1 locs1 cells slots Q (F0 m 699 ls1 [])) : W p l e room_1 s m #[Value.ref b] below meth c H locs cells slots Q (F0 m q ls [.int (i32 v)]) := by
  have C1 := C
  obtain ⟨⟨hx, hb, -⟩, -, -, -, tL, -⟩ := C1
  refine lv_istore hx hb d0 hl (by decide) rfl (fun ls1 hl1 => ?_)
  have hl2 : lv_has ls1 9 ((7, .int (i32 v)) :: (6, .int (i32 k)) :: LVs b s.heap.size i) := hl1
  refine lv_aload_n hx hb d2 rfl (lv_at hl2 4 rfl) ?_
  refine callMod (rr := 0) (j := 0) (as' := []) (v := w 0 4) (w := w) (w1 := w) (rest := []) C (by decide) (by decide) (by decide +kernel) rfl ll_thrown rfl (by decide +kernel) (by decide +kernel) (Nat.zero_le _) d3 (t_thrown (by decide)) (fun q hq => absurd hq List.not_mem_nil) hL hl2.1 hc rfl (fun H2 locs2 hL2 => ?_)
  have fin : W p l e room_1 s m #[Value.ref b] below meth c H2 locs2 cells slots Q (F0 m (q + 30) ls1 []) := lv_goto (tgt := 699) hx hb d30 hoff (kn ls1 H2 locs2 (lv_sub hl2 [2, 3, 4, 5, 6, 7] rfl) hL2)
  rw [hth]
  refine lv_iload hx hb d6 (lv_at hl2 1 rfl) ?_
  refine lv_icmp_eq (tgt := q + 13) hx hb d8 (by omega) (fun _ => ?_) (fun h => absurd rfl h)
  refine lv_iload hx hb d13 (lv_at hl2 1 rfl) ?_
  refine lv_if_ne (tgt := q + 30) hx hb d15 (by omega) (fun _ => fin) (fun h0 => ?_)
  obtain ⟨-, -, ho, -, -⟩ := id hL2
  refine lv_aload_n hx hb d18 rfl (lv_at hl2 5 rfl) ?_
  refine lv_iconst (v := 0) hx hb d19 rfl ?_
  refine W.lald (j := 0) (v := .long z') hx hb ho (tL 1 _) (fun q => by cases q) (by show ¬ ((0 : Int32) < 0 ∨ (arrV _ _ _).slots.size ≤ _); rw [arrV_size]; decide) (by show (arrV _ _ _).slots[0]? = _; rw [arrV_read _ _ (by decide)]) rfl rfl d20 ?_
  show W p l e room_1 s m #[Value.ref b] below meth c H2 locs2 cells slots Q (F0 m (q + 21) ls1 [.long z'])
  refine lv_iload hx hb d21 (lv_at hl2 0 rfl) ?_
  refine lv_i2l hx hb d23 rfl ?_
  refine W.lcmp hx hb d24 ?_
  have e : lg_cmp z' (i32 v).toInt64 = 0 := by
    rcases hv with ⟨-, hz⟩ | h
    · rw [hz]; simp [lg_cmp]
    · exact absurd h0 h
  rw [e]
  exact lv_if_eq (tgt := q + 30) hx hb d25 (by omega) (fun _ => fin) (fun h => absurd rfl h)
end LS
/-- what a coupled state gives of a call, for the law's method and for the reference -/
theorem out_HR {w : Mem} {y ym : Nat} {as : List AV} {codes : List (Nat × Int)} (h : OUTz w y ym as codes) (hc : codes.all (fun q => decide (0 < q.2) && decide (q.2 < 100)) = true) (z : Int64) :
    ∃ (k : Int) (z' : Int64) (w1 : Mem) (v : Int) (w2 : Mem), HR y (aR 56 :: as) codes w w1 k (.long z) (.long z') ∧ Zc 20 ym (aR 0 :: as) w1 = rI v w2 ∧ w2 0 4 = k ∧ ((k = 0 ∧ z' = (i32 v).toInt64) ∨ ¬ i32 k = 0) ∧ CPL w2 := by
  rcases h with ⟨v, s1, s2, h1, h2, h3, h4⟩ | ⟨q, hq, v, s1, s2, h1, h2, h3, h4⟩
  · exact ⟨0, (i32 v).toInt64, s1, v, s2, Or.inl ⟨v, h1, rfl, rfl⟩, h2, h3, Or.inl ⟨rfl, rfl⟩, h4⟩
  · have hb := List.all_eq_true.mp hc q hq
    simp only [Bool.and_eq_true, decide_eq_true_eq] at hb
    refine ⟨q.2, z, s1, v, s2, Or.inr ⟨q, hq, h1, rfl, rfl⟩, h2, h3, Or.inr (fun e => ?_), h4⟩
    have := (i32_eq (b := 0) (by unfold inI; omega) inI_0).mp e
    omega
