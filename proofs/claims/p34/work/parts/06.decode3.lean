theorem dL_errors_88 : decode cL_errors 88 = .ok (.bipush 9, 2) := by decide +kernel
theorem dL_errors_90 : decode cL_errors 90 = .ok (.invokestatic 132, 3) := by decide +kernel
theorem dL_errors_93 : decode cL_errors 93 = .ok (.ldc2_w 36, 3) := by decide +kernel
theorem dL_errors_96 : decode cL_errors 96 = .ok (.lcmp, 1) := by decide +kernel
theorem dL_errors_97 : decode cL_errors 97 = .ok (.ifCond .ne 390, 3) := by decide +kernel
theorem dL_errors_100 : decode cL_errors 100 = .ok (.aload_n 0, 1) := by decide +kernel
theorem dL_errors_101 : decode cL_errors 101 = .ok (.iconst 0, 1) := by decide +kernel
theorem dL_errors_102 : decode cL_errors 102 = .ok (.bipush 6, 2) := by decide +kernel
theorem dL_errors_104 : decode cL_errors 104 = .ok (.invokestatic 132, 3) := by decide +kernel
theorem dL_errors_107 : decode cL_errors 107 = .ok (.ldc2_w 17, 3) := by decide +kernel
theorem dL_errors_110 : decode cL_errors 110 = .ok (.lcmp, 1) := by decide +kernel
theorem dL_errors_111 : decode cL_errors 111 = .ok (.ifCond .ne 376, 3) := by decide +kernel
theorem dL_errors_114 : decode cL_errors 114 = .ok (.aload_n 0, 1) := by decide +kernel
theorem dL_errors_115 : decode cL_errors 115 = .ok (.iconst (-1), 1) := by decide +kernel
theorem dL_errors_116 : decode cL_errors 116 = .ok (.invokestatic 134, 3) := by decide +kernel
theorem dL_errors_119 : decode cL_errors 119 = .ok (.ldc2_w 17, 3) := by decide +kernel
theorem dL_errors_122 : decode cL_errors 122 = .ok (.lcmp, 1) := by decide +kernel
theorem dL_errors_123 : decode cL_errors 123 = .ok (.ifCond .ne 364, 3) := by decide +kernel
theorem dL_errors_126 : decode cL_errors 126 = .ok (.aload_n 0, 1) := by decide +kernel
theorem dL_errors_127 : decode cL_errors 127 = .ok (.bipush 24, 2) := by decide +kernel
theorem dL_errors_129 : decode cL_errors 129 = .ok (.iconst (-1), 1) := by decide +kernel
theorem dL_errors_130 : decode cL_errors 130 = .ok (.invokestatic 142, 3) := by decide +kernel
theorem dL_errors_133 : decode cL_errors 133 = .ok (.ldc2_w 36, 3) := by decide +kernel
theorem dL_errors_136 : decode cL_errors 136 = .ok (.lcmp, 1) := by decide +kernel
theorem dL_errors_137 : decode cL_errors 137 = .ok (.ifCond .ne 350, 3) := by decide +kernel
theorem dL_errors_140 : decode cL_errors 140 = .ok (.aload_n 0, 1) := by decide +kernel
theorem dL_errors_141 : decode cL_errors 141 = .ok (.iconst 0, 1) := by decide +kernel
theorem dL_errors_142 : decode cL_errors 142 = .ok (.iconst (-1), 1) := by decide +kernel
theorem dL_errors_143 : decode cL_errors 143 = .ok (.invokestatic 142, 3) := by decide +kernel
theorem dL_errors_146 : decode cL_errors 146 = .ok (.ldc2_w 17, 3) := by decide +kernel
theorem dL_errors_149 : decode cL_errors 149 = .ok (.lcmp, 1) := by decide +kernel
theorem dL_errors_150 : decode cL_errors 150 = .ok (.ifCond .ne 337, 3) := by decide +kernel
theorem dL_errors_153 : decode cL_errors 153 = .ok (.aload_n 0, 1) := by decide +kernel
theorem dL_errors_154 : decode cL_errors 154 = .ok (.iconst 4, 1) := by decide +kernel
theorem dL_errors_155 : decode cL_errors 155 = .ok (.invokestatic 127, 3) := by decide +kernel
theorem dL_errors_158 : decode cL_errors 158 = .ok (.ldc2_w 36, 3) := by decide +kernel
theorem dL_errors_161 : decode cL_errors 161 = .ok (.lcmp, 1) := by decide +kernel
theorem dL_errors_162 : decode cL_errors 162 = .ok (.ifCond .ne 325, 3) := by decide +kernel
theorem dL_errors_165 : decode cL_errors 165 = .ok (.aload_n 0, 1) := by decide +kernel
theorem dL_errors_166 : decode cL_errors 166 = .ok (.iconst 5, 1) := by decide +kernel
theorem dL_errors_167 : decode cL_errors 167 = .ok (.invokestatic 125, 3) := by decide +kernel
theorem dL_errors_170 : decode cL_errors 170 = .ok (.ldc2_w 17, 3) := by decide +kernel
theorem dL_errors_173 : decode cL_errors 173 = .ok (.lcmp, 1) := by decide +kernel
theorem dL_errors_174 : decode cL_errors 174 = .ok (.ifCond .ne 313, 3) := by decide +kernel
theorem dL_errors_177 : decode cL_errors 177 = .ok (.aload_n 0, 1) := by decide +kernel
theorem dL_errors_178 : decode cL_errors 178 = .ok (.bipush 10, 2) := by decide +kernel
theorem dL_errors_180 : decode cL_errors 180 = .ok (.invokestatic 144, 3) := by decide +kernel
theorem dL_errors_183 : decode cL_errors 183 = .ok (.ldc2_w 36, 3) := by decide +kernel
theorem dL_errors_186 : decode cL_errors 186 = .ok (.lcmp, 1) := by decide +kernel
theorem dL_errors_187 : decode cL_errors 187 = .ok (.ifCond .ne 300, 3) := by decide +kernel
theorem dL_errors_190 : decode cL_errors 190 = .ok (.aload_n 0, 1) := by decide +kernel
theorem dL_errors_191 : decode cL_errors 191 = .ok (.bipush 10, 2) := by decide +kernel
theorem dL_errors_193 : decode cL_errors 193 = .ok (.iconst 0, 1) := by decide +kernel
theorem dL_errors_194 : decode cL_errors 194 = .ok (.invokestatic 146, 3) := by decide +kernel
theorem dL_errors_197 : decode cL_errors 197 = .ok (.ldc2_w 36, 3) := by decide +kernel
theorem dL_errors_200 : decode cL_errors 200 = .ok (.lcmp, 1) := by decide +kernel
theorem dL_errors_201 : decode cL_errors 201 = .ok (.ifCond .ne 286, 3) := by decide +kernel
theorem dL_errors_204 : decode cL_errors 204 = .ok (.aload_n 0, 1) := by decide +kernel
theorem dL_errors_205 : decode cL_errors 205 = .ok (.iconst 0, 1) := by decide +kernel
theorem dL_errors_206 : decode cL_errors 206 = .ok (.bipush 24, 2) := by decide +kernel
theorem dL_errors_208 : decode cL_errors 208 = .ok (.invokestatic 146, 3) := by decide +kernel
theorem dL_errors_211 : decode cL_errors 211 = .ok (.ldc2_w 36, 3) := by decide +kernel
theorem dL_errors_214 : decode cL_errors 214 = .ok (.lcmp, 1) := by decide +kernel
theorem dL_errors_215 : decode cL_errors 215 = .ok (.ifCond .ne 272, 3) := by decide +kernel
theorem dL_errors_218 : decode cL_errors 218 = .ok (.aload_n 0, 1) := by decide +kernel
theorem dL_errors_219 : decode cL_errors 219 = .ok (.bipush 24, 2) := by decide +kernel
theorem dL_errors_221 : decode cL_errors 221 = .ok (.invokestatic 148, 3) := by decide +kernel
theorem dL_errors_224 : decode cL_errors 224 = .ok (.ldc2_w 36, 3) := by decide +kernel
theorem dL_errors_227 : decode cL_errors 227 = .ok (.lcmp, 1) := by decide +kernel
theorem dL_errors_228 : decode cL_errors 228 = .ok (.ifCond .ne 259, 3) := by decide +kernel
theorem dL_errors_231 : decode cL_errors 231 = .ok (.aload_n 0, 1) := by decide +kernel
theorem dL_errors_232 : decode cL_errors 232 = .ok (.bipush 24, 2) := by decide +kernel
theorem dL_errors_234 : decode cL_errors 234 = .ok (.iconst 0, 1) := by decide +kernel
theorem dL_errors_235 : decode cL_errors 235 = .ok (.invokestatic 150, 3) := by decide +kernel
theorem dL_errors_238 : decode cL_errors 238 = .ok (.ldc2_w 36, 3) := by decide +kernel
theorem dL_errors_241 : decode cL_errors 241 = .ok (.lcmp, 1) := by decide +kernel
theorem dL_errors_242 : decode cL_errors 242 = .ok (.ifCond .ne 245, 3) := by decide +kernel
theorem dL_errors_245 : decode cL_errors 245 = .ok (.aload_n 0, 1) := by decide +kernel
theorem dL_errors_246 : decode cL_errors 246 = .ok (.iconst 0, 1) := by decide +kernel
theorem dL_errors_247 : decode cL_errors 247 = .ok (.iconst 0, 1) := by decide +kernel
theorem dL_errors_248 : decode cL_errors 248 = .ok (.invokestatic 150, 3) := by decide +kernel
theorem dL_errors_251 : decode cL_errors 251 = .ok (.ldc2_w 17, 3) := by decide +kernel
theorem dL_errors_254 : decode cL_errors 254 = .ok (.lcmp, 1) := by decide +kernel
theorem dL_errors_255 : decode cL_errors 255 = .ok (.ifCond .ne 232, 3) := by decide +kernel
theorem dL_errors_258 : decode cL_errors 258 = .ok (.aload_n 0, 1) := by decide +kernel
theorem dL_errors_259 : decode cL_errors 259 = .ok (.iconst 0, 1) := by decide +kernel
theorem dL_errors_260 : decode cL_errors 260 = .ok (.bipush 100, 2) := by decide +kernel
theorem dL_errors_262 : decode cL_errors 262 = .ok (.invokestatic 150, 3) := by decide +kernel
theorem dL_errors_265 : decode cL_errors 265 = .ok (.ldc2_w 17, 3) := by decide +kernel
theorem dL_errors_268 : decode cL_errors 268 = .ok (.lcmp, 1) := by decide +kernel
theorem dL_errors_269 : decode cL_errors 269 = .ok (.ifCond .ne 218, 3) := by decide +kernel
theorem dL_errors_272 : decode cL_errors 272 = .ok (.aload_n 0, 1) := by decide +kernel
theorem dL_errors_273 : decode cL_errors 273 = .ok (.bipush 24, 2) := by decide +kernel
theorem dL_errors_275 : decode cL_errors 275 = .ok (.iconst 0, 1) := by decide +kernel
theorem dL_errors_276 : decode cL_errors 276 = .ok (.invokestatic 152, 3) := by decide +kernel
theorem dL_errors_279 : decode cL_errors 279 = .ok (.ldc2_w 36, 3) := by decide +kernel
theorem dL_errors_282 : decode cL_errors 282 = .ok (.lcmp, 1) := by decide +kernel
theorem dL_errors_283 : decode cL_errors 283 = .ok (.ifCond .ne 204, 3) := by decide +kernel
theorem dL_errors_286 : decode cL_errors 286 = .ok (.aload_n 0, 1) := by decide +kernel
theorem dL_errors_287 : decode cL_errors 287 = .ok (.iconst 0, 1) := by decide +kernel
theorem dL_errors_288 : decode cL_errors 288 = .ok (.bipush 10, 2) := by decide +kernel
theorem dL_errors_290 : decode cL_errors 290 = .ok (.invokestatic 152, 3) := by decide +kernel
theorem dL_errors_293 : decode cL_errors 293 = .ok (.ldc2_w 36, 3) := by decide +kernel
theorem dL_errors_296 : decode cL_errors 296 = .ok (.lcmp, 1) := by decide +kernel
theorem dL_errors_297 : decode cL_errors 297 = .ok (.ifCond .ne 190, 3) := by decide +kernel
theorem dL_errors_300 : decode cL_errors 300 = .ok (.aload_n 0, 1) := by decide +kernel
theorem dL_errors_301 : decode cL_errors 301 = .ok (.iconst (-1), 1) := by decide +kernel
theorem dL_errors_302 : decode cL_errors 302 = .ok (.iconst 1, 1) := by decide +kernel
theorem dL_errors_303 : decode cL_errors 303 = .ok (.invokestatic 154, 3) := by decide +kernel
theorem dL_errors_306 : decode cL_errors 306 = .ok (.ldc2_w 36, 3) := by decide +kernel
theorem dL_errors_309 : decode cL_errors 309 = .ok (.lcmp, 1) := by decide +kernel
theorem dL_errors_310 : decode cL_errors 310 = .ok (.ifCond .ne 177, 3) := by decide +kernel
theorem dL_errors_313 : decode cL_errors 313 = .ok (.aload_n 0, 1) := by decide +kernel
theorem dL_errors_314 : decode cL_errors 314 = .ok (.bipush 24, 2) := by decide +kernel
theorem dL_errors_316 : decode cL_errors 316 = .ok (.invokestatic 157, 3) := by decide +kernel
theorem dL_errors_319 : decode cL_errors 319 = .ok (.ldc2_w 36, 3) := by decide +kernel
theorem dL_errors_322 : decode cL_errors 322 = .ok (.lcmp, 1) := by decide +kernel
theorem dL_errors_323 : decode cL_errors 323 = .ok (.ifCond .ne 164, 3) := by decide +kernel
theorem dL_errors_326 : decode cL_errors 326 = .ok (.aload_n 0, 1) := by decide +kernel
theorem dL_errors_327 : decode cL_errors 327 = .ok (.iconst 4, 1) := by decide +kernel
theorem dL_errors_328 : decode cL_errors 328 = .ok (.bipush 9, 2) := by decide +kernel
theorem dL_errors_330 : decode cL_errors 330 = .ok (.invokestatic 159, 3) := by decide +kernel
theorem dL_errors_333 : decode cL_errors 333 = .ok (.ldc2_w 36, 3) := by decide +kernel
theorem dL_errors_336 : decode cL_errors 336 = .ok (.lcmp, 1) := by decide +kernel
theorem dL_errors_337 : decode cL_errors 337 = .ok (.ifCond .ne 150, 3) := by decide +kernel
theorem dL_errors_340 : decode cL_errors 340 = .ok (.aload_n 0, 1) := by decide +kernel
theorem dL_errors_341 : decode cL_errors 341 = .ok (.iconst 0, 1) := by decide +kernel
theorem dL_errors_342 : decode cL_errors 342 = .ok (.iconst 4, 1) := by decide +kernel
theorem dL_errors_343 : decode cL_errors 343 = .ok (.invokestatic 159, 3) := by decide +kernel
theorem dL_errors_346 : decode cL_errors 346 = .ok (.ldc2_w 17, 3) := by decide +kernel
theorem dL_errors_349 : decode cL_errors 349 = .ok (.lcmp, 1) := by decide +kernel
theorem dL_errors_350 : decode cL_errors 350 = .ok (.ifCond .ne 137, 3) := by decide +kernel
theorem dL_errors_353 : decode cL_errors 353 = .ok (.aload_n 0, 1) := by decide +kernel
theorem dL_errors_354 : decode cL_errors 354 = .ok (.iconst 0, 1) := by decide +kernel
theorem dL_errors_355 : decode cL_errors 355 = .ok (.invokestatic 161, 3) := by decide +kernel
theorem dL_errors_358 : decode cL_errors 358 = .ok (.ldc2_w 17, 3) := by decide +kernel
theorem dL_errors_361 : decode cL_errors 361 = .ok (.lcmp, 1) := by decide +kernel
theorem dL_errors_362 : decode cL_errors 362 = .ok (.ifCond .ne 125, 3) := by decide +kernel
theorem dL_errors_365 : decode cL_errors 365 = .ok (.aload_n 0, 1) := by decide +kernel
theorem dL_errors_366 : decode cL_errors 366 = .ok (.bipush 100, 2) := by decide +kernel
theorem dL_errors_368 : decode cL_errors 368 = .ok (.invokestatic 161, 3) := by decide +kernel
theorem dL_errors_371 : decode cL_errors 371 = .ok (.ldc2_w 17, 3) := by decide +kernel
theorem dL_errors_374 : decode cL_errors 374 = .ok (.lcmp, 1) := by decide +kernel
theorem dL_errors_375 : decode cL_errors 375 = .ok (.ifCond .ne 112, 3) := by decide +kernel
theorem dL_errors_378 : decode cL_errors 378 = .ok (.aload_n 0, 1) := by decide +kernel
theorem dL_errors_379 : decode cL_errors 379 = .ok (.iconst 0, 1) := by decide +kernel
theorem dL_errors_380 : decode cL_errors 380 = .ok (.bipush 100, 2) := by decide +kernel
theorem dL_errors_382 : decode cL_errors 382 = .ok (.invokestatic 163, 3) := by decide +kernel
theorem dL_errors_385 : decode cL_errors 385 = .ok (.ldc2_w 17, 3) := by decide +kernel
theorem dL_errors_388 : decode cL_errors 388 = .ok (.lcmp, 1) := by decide +kernel
theorem dL_errors_389 : decode cL_errors 389 = .ok (.ifCond .ne 98, 3) := by decide +kernel
theorem dL_errors_392 : decode cL_errors 392 = .ok (.aload_n 0, 1) := by decide +kernel
theorem dL_errors_393 : decode cL_errors 393 = .ok (.iconst 1, 1) := by decide +kernel
theorem dL_errors_394 : decode cL_errors 394 = .ok (.iconst 0, 1) := by decide +kernel
theorem dL_errors_395 : decode cL_errors 395 = .ok (.invokestatic 163, 3) := by decide +kernel
theorem dL_errors_398 : decode cL_errors 398 = .ok (.ldc2_w 17, 3) := by decide +kernel
theorem dL_errors_401 : decode cL_errors 401 = .ok (.lcmp, 1) := by decide +kernel
theorem dL_errors_402 : decode cL_errors 402 = .ok (.ifCond .ne 85, 3) := by decide +kernel
theorem dL_errors_405 : decode cL_errors 405 = .ok (.aload_n 0, 1) := by decide +kernel
theorem dL_errors_406 : decode cL_errors 406 = .ok (.iconst 5, 1) := by decide +kernel
theorem dL_errors_407 : decode cL_errors 407 = .ok (.iconst 1, 1) := by decide +kernel
theorem dL_errors_408 : decode cL_errors 408 = .ok (.invokestatic 163, 3) := by decide +kernel
theorem dL_errors_411 : decode cL_errors 411 = .ok (.ldc2_w 17, 3) := by decide +kernel
theorem dL_errors_414 : decode cL_errors 414 = .ok (.lcmp, 1) := by decide +kernel
theorem dL_errors_415 : decode cL_errors 415 = .ok (.ifCond .ne 72, 3) := by decide +kernel
theorem dL_errors_418 : decode cL_errors 418 = .ok (.aload_n 0, 1) := by decide +kernel
theorem dL_errors_419 : decode cL_errors 419 = .ok (.iconst (-1), 1) := by decide +kernel
theorem dL_errors_420 : decode cL_errors 420 = .ok (.invokestatic 165, 3) := by decide +kernel
theorem dL_errors_423 : decode cL_errors 423 = .ok (.ldc2_w 36, 3) := by decide +kernel
theorem dL_errors_426 : decode cL_errors 426 = .ok (.lcmp, 1) := by decide +kernel
theorem dL_errors_427 : decode cL_errors 427 = .ok (.ifCond .ne 60, 3) := by decide +kernel
theorem dL_errors_430 : decode cL_errors 430 = .ok (.aload_n 0, 1) := by decide +kernel
theorem dL_errors_431 : decode cL_errors 431 = .ok (.bipush 24, 2) := by decide +kernel
theorem dL_errors_433 : decode cL_errors 433 = .ok (.invokestatic 167, 3) := by decide +kernel
theorem dL_errors_436 : decode cL_errors 436 = .ok (.ldc2_w 36, 3) := by decide +kernel
theorem dL_errors_439 : decode cL_errors 439 = .ok (.lcmp, 1) := by decide +kernel
theorem dL_errors_440 : decode cL_errors 440 = .ok (.ifCond .ne 47, 3) := by decide +kernel
theorem dL_errors_443 : decode cL_errors 443 = .ok (.aload_n 0, 1) := by decide +kernel
theorem dL_errors_444 : decode cL_errors 444 = .ok (.iconst 0, 1) := by decide +kernel
theorem dL_errors_445 : decode cL_errors 445 = .ok (.iconst 0, 1) := by decide +kernel
theorem dL_errors_446 : decode cL_errors 446 = .ok (.invokestatic 169, 3) := by decide +kernel
theorem dL_errors_449 : decode cL_errors 449 = .ok (.ldc2_w 17, 3) := by decide +kernel
theorem dL_errors_452 : decode cL_errors 452 = .ok (.lcmp, 1) := by decide +kernel
theorem dL_errors_453 : decode cL_errors 453 = .ok (.ifCond .ne 34, 3) := by decide +kernel
theorem dL_errors_456 : decode cL_errors 456 = .ok (.aload_n 0, 1) := by decide +kernel
theorem dL_errors_457 : decode cL_errors 457 = .ok (.bipush 9, 2) := by decide +kernel
theorem dL_errors_459 : decode cL_errors 459 = .ok (.iconst 4, 1) := by decide +kernel
theorem dL_errors_460 : decode cL_errors 460 = .ok (.invokestatic 169, 3) := by decide +kernel
theorem dL_errors_463 : decode cL_errors 463 = .ok (.ldc2_w 17, 3) := by decide +kernel
theorem dL_errors_466 : decode cL_errors 466 = .ok (.lcmp, 1) := by decide +kernel
theorem dL_errors_467 : decode cL_errors 467 = .ok (.ifCond .ne 20, 3) := by decide +kernel
theorem dL_errors_470 : decode cL_errors 470 = .ok (.aload_n 0, 1) := by decide +kernel
theorem dL_errors_471 : decode cL_errors 471 = .ok (.bipush 10, 2) := by decide +kernel
theorem dL_errors_473 : decode cL_errors 473 = .ok (.invokestatic 171, 3) := by decide +kernel
theorem dL_errors_476 : decode cL_errors 476 = .ok (.ldc2_w 36, 3) := by decide +kernel
theorem dL_errors_479 : decode cL_errors 479 = .ok (.lcmp, 1) := by decide +kernel
theorem dL_errors_480 : decode cL_errors 480 = .ok (.ifCond .ne 7, 3) := by decide +kernel
theorem dL_errors_483 : decode cL_errors 483 = .ok (.iconst 1, 1) := by decide +kernel
theorem dL_errors_484 : decode cL_errors 484 = .ok (.goto 4, 3) := by decide +kernel
theorem dL_errors_487 : decode cL_errors 487 = .ok (.iconst 0, 1) := by decide +kernel
theorem dL_errors_488 : decode cL_errors 488 = .ok (.istore_n 3, 1) := by decide +kernel
theorem dL_errors_489 : decode cL_errors 489 = .ok (.iconst 0, 1) := by decide +kernel
theorem dL_errors_490 : decode cL_errors 490 = .ok (.istore 4, 2) := by decide +kernel
theorem dL_errors_492 : decode cL_errors 492 = .ok (.iload 4, 2) := by decide +kernel
theorem dL_errors_494 : decode cL_errors 494 = .ok (.bipush 24, 2) := by decide +kernel
theorem dL_errors_496 : decode cL_errors 496 = .ok (.if_icmp .ge 233, 3) := by decide +kernel
theorem dL_errors_499 : decode cL_errors 499 = .ok (.iload_n 3, 1) := by decide +kernel
theorem dL_errors_500 : decode cL_errors 500 = .ok (.ifCond .eq 229, 3) := by decide +kernel
theorem dL_errors_503 : decode cL_errors 503 = .ok (.aload_n 0, 1) := by decide +kernel
theorem dL_errors_504 : decode cL_errors 504 = .ok (.iload 4, 2) := by decide +kernel
theorem dL_errors_506 : decode cL_errors 506 = .ok (.iconst 5, 1) := by decide +kernel
theorem dL_errors_507 : decode cL_errors 507 = .ok (.invokestatic 129, 3) := by decide +kernel
theorem dL_errors_510 : decode cL_errors 510 = .ok (.lstore 5, 2) := by decide +kernel
theorem dL_errors_512 : decode cL_errors 512 = .ok (.aload_n 0, 1) := by decide +kernel
theorem dL_errors_513 : decode cL_errors 513 = .ok (.iload 4, 2) := by decide +kernel
theorem dL_errors_515 : decode cL_errors 515 = .ok (.iconst 4, 1) := by decide +kernel
theorem dL_errors_516 : decode cL_errors 516 = .ok (.invokestatic 129, 3) := by decide +kernel
theorem dL_errors_519 : decode cL_errors 519 = .ok (.ldc2_w 173, 3) := by decide +kernel
theorem dL_errors_522 : decode cL_errors 522 = .ok (.lcmp, 1) := by decide +kernel
theorem dL_errors_523 : decode cL_errors 523 = .ok (.ifCond .eq 7, 3) := by decide +kernel
theorem dL_errors_526 : decode cL_errors 526 = .ok (.iconst 1, 1) := by decide +kernel
theorem dL_errors_527 : decode cL_errors 527 = .ok (.goto 4, 3) := by decide +kernel
theorem dL_errors_530 : decode cL_errors 530 = .ok (.iconst 0, 1) := by decide +kernel
theorem dL_errors_531 : decode cL_errors 531 = .ok (.istore 7, 2) := by decide +kernel
theorem dL_errors_533 : decode cL_errors 533 = .ok (.aload_n 0, 1) := by decide +kernel
theorem dL_errors_534 : decode cL_errors 534 = .ok (.iload 4, 2) := by decide +kernel
theorem dL_errors_536 : decode cL_errors 536 = .ok (.iconst 0, 1) := by decide +kernel
theorem dL_errors_537 : decode cL_errors 537 = .ok (.invokestatic 129, 3) := by decide +kernel
theorem dL_errors_540 : decode cL_errors 540 = .ok (.l2i, 1) := by decide +kernel
theorem dL_errors_541 : decode cL_errors 541 = .ok (.istore 8, 2) := by decide +kernel
theorem dL_errors_543 : decode cL_errors 543 = .ok (.lload 5, 2) := by decide +kernel
theorem dL_errors_545 : decode cL_errors 545 = .ok (.lconst 0, 1) := by decide +kernel
theorem dL_errors_546 : decode cL_errors 546 = .ok (.lcmp, 1) := by decide +kernel
theorem dL_errors_547 : decode cL_errors 547 = .ok (.ifCond .eq 17, 3) := by decide +kernel
theorem dL_errors_550 : decode cL_errors 550 = .ok (.aload_n 0, 1) := by decide +kernel
theorem dL_errors_551 : decode cL_errors 551 = .ok (.iconst 3, 1) := by decide +kernel
theorem dL_errors_552 : decode cL_errors 552 = .ok (.iload 4, 2) := by decide +kernel
theorem dL_errors_554 : decode cL_errors 554 = .ok (.invokestatic 146, 3) := by decide +kernel
theorem dL_errors_557 : decode cL_errors 557 = .ok (.ldc2_w 21, 3) := by decide +kernel
theorem dL_errors_560 : decode cL_errors 560 = .ok (.lcmp, 1) := by decide +kernel
theorem dL_errors_561 : decode cL_errors 561 = .ok (.ifCond .ne 160, 3) := by decide +kernel
theorem dL_errors_564 : decode cL_errors 564 = .ok (.lload 5, 2) := by decide +kernel
theorem dL_errors_566 : decode cL_errors 566 = .ok (.ldc2_w 175, 3) := by decide +kernel
theorem dL_errors_569 : decode cL_errors 569 = .ok (.lcmp, 1) := by decide +kernel
theorem dL_errors_570 : decode cL_errors 570 = .ok (.ifCond .eq 16, 3) := by decide +kernel
theorem dL_errors_573 : decode cL_errors 573 = .ok (.aload_n 0, 1) := by decide +kernel
theorem dL_errors_574 : decode cL_errors 574 = .ok (.iload 4, 2) := by decide +kernel
theorem dL_errors_576 : decode cL_errors 576 = .ok (.invokestatic 157, 3) := by decide +kernel
theorem dL_errors_579 : decode cL_errors 579 = .ok (.ldc2_w 21, 3) := by decide +kernel
theorem dL_errors_582 : decode cL_errors 582 = .ok (.lcmp, 1) := by decide +kernel
theorem dL_errors_583 : decode cL_errors 583 = .ok (.ifCond .ne 138, 3) := by decide +kernel
theorem dL_errors_586 : decode cL_errors 586 = .ok (.lload 5, 2) := by decide +kernel
theorem dL_errors_588 : decode cL_errors 588 = .ok (.lconst 1, 1) := by decide +kernel
theorem dL_errors_589 : decode cL_errors 589 = .ok (.lcmp, 1) := by decide +kernel
theorem dL_errors_590 : decode cL_errors 590 = .ok (.ifCond .ne 8, 3) := by decide +kernel
theorem dL_errors_593 : decode cL_errors 593 = .ok (.iload 7, 2) := by decide +kernel
theorem dL_errors_595 : decode cL_errors 595 = .ok (.ifCond .eq 16, 3) := by decide +kernel
theorem dL_errors_598 : decode cL_errors 598 = .ok (.aload_n 0, 1) := by decide +kernel
theorem dL_errors_599 : decode cL_errors 599 = .ok (.iload 4, 2) := by decide +kernel
theorem dL_errors_601 : decode cL_errors 601 = .ok (.invokestatic 148, 3) := by decide +kernel
theorem dL_errors_604 : decode cL_errors 604 = .ok (.ldc2_w 21, 3) := by decide +kernel
theorem dL_errors_607 : decode cL_errors 607 = .ok (.lcmp, 1) := by decide +kernel
theorem dL_errors_608 : decode cL_errors 608 = .ok (.ifCond .ne 113, 3) := by decide +kernel
theorem dL_errors_611 : decode cL_errors 611 = .ok (.iload 7, 2) := by decide +kernel
theorem dL_errors_613 : decode cL_errors 613 = .ok (.ifCond .eq 34, 3) := by decide +kernel
theorem dL_errors_616 : decode cL_errors 616 = .ok (.aload_n 0, 1) := by decide +kernel
theorem dL_errors_617 : decode cL_errors 617 = .ok (.iload 4, 2) := by decide +kernel
theorem dL_errors_619 : decode cL_errors 619 = .ok (.iconst 1, 1) := by decide +kernel
theorem dL_errors_620 : decode cL_errors 620 = .ok (.invokestatic 152, 3) := by decide +kernel
theorem dL_errors_623 : decode cL_errors 623 = .ok (.ldc2_w 21, 3) := by decide +kernel
theorem dL_errors_626 : decode cL_errors 626 = .ok (.lcmp, 1) := by decide +kernel
theorem dL_errors_627 : decode cL_errors 627 = .ok (.ifCond .ne 94, 3) := by decide +kernel
theorem dL_errors_630 : decode cL_errors 630 = .ok (.aload_n 0, 1) := by decide +kernel
theorem dL_errors_631 : decode cL_errors 631 = .ok (.iload 4, 2) := by decide +kernel
theorem dL_errors_633 : decode cL_errors 633 = .ok (.iconst 5, 1) := by decide +kernel
theorem dL_errors_634 : decode cL_errors 634 = .ok (.invokestatic 150, 3) := by decide +kernel
theorem dL_errors_637 : decode cL_errors 637 = .ok (.ldc2_w 21, 3) := by decide +kernel
theorem dL_errors_640 : decode cL_errors 640 = .ok (.lcmp, 1) := by decide +kernel
theorem dL_errors_641 : decode cL_errors 641 = .ok (.ifCond .ne 80, 3) := by decide +kernel
theorem dL_errors_644 : decode cL_errors 644 = .ok (.goto 17, 3) := by decide +kernel
theorem dL_errors_647 : decode cL_errors 647 = .ok (.aload_n 0, 1) := by decide +kernel
theorem dL_errors_648 : decode cL_errors 648 = .ok (.iload 4, 2) := by decide +kernel
theorem dL_errors_650 : decode cL_errors 650 = .ok (.iconst 0, 1) := by decide +kernel
theorem dL_errors_651 : decode cL_errors 651 = .ok (.invokestatic 154, 3) := by decide +kernel
theorem dL_errors_654 : decode cL_errors 654 = .ok (.ldc2_w 21, 3) := by decide +kernel
theorem dL_errors_657 : decode cL_errors 657 = .ok (.lcmp, 1) := by decide +kernel
theorem dL_errors_658 : decode cL_errors 658 = .ok (.ifCond .ne 63, 3) := by decide +kernel
theorem dL_errors_661 : decode cL_errors 661 = .ok (.lload 5, 2) := by decide +kernel
theorem dL_errors_663 : decode cL_errors 663 = .ok (.lconst 0, 1) := by decide +kernel
theorem dL_errors_664 : decode cL_errors 664 = .ok (.lcmp, 1) := by decide +kernel
theorem dL_errors_665 : decode cL_errors 665 = .ok (.ifCond .gt 31, 3) := by decide +kernel
theorem dL_errors_668 : decode cL_errors 668 = .ok (.aload_n 0, 1) := by decide +kernel
theorem dL_errors_669 : decode cL_errors 669 = .ok (.iload 4, 2) := by decide +kernel
theorem dL_errors_671 : decode cL_errors 671 = .ok (.iconst 1, 1) := by decide +kernel
theorem dL_errors_672 : decode cL_errors 672 = .ok (.invokestatic 152, 3) := by decide +kernel
theorem dL_errors_675 : decode cL_errors 675 = .ok (.ldc2_w 21, 3) := by decide +kernel
theorem dL_errors_678 : decode cL_errors 678 = .ok (.lcmp, 1) := by decide +kernel
theorem dL_errors_679 : decode cL_errors 679 = .ok (.ifCond .ne 42, 3) := by decide +kernel
theorem dL_errors_682 : decode cL_errors 682 = .ok (.aload_n 0, 1) := by decide +kernel
theorem dL_errors_683 : decode cL_errors 683 = .ok (.iload 4, 2) := by decide +kernel
theorem dL_errors_685 : decode cL_errors 685 = .ok (.iconst 5, 1) := by decide +kernel
theorem dL_errors_686 : decode cL_errors 686 = .ok (.invokestatic 150, 3) := by decide +kernel
theorem dL_errors_689 : decode cL_errors 689 = .ok (.ldc2_w 21, 3) := by decide +kernel
theorem dL_errors_692 : decode cL_errors 692 = .ok (.lcmp, 1) := by decide +kernel
theorem dL_errors_693 : decode cL_errors 693 = .ok (.ifCond .ne 28, 3) := by decide +kernel
theorem dL_errors_696 : decode cL_errors 696 = .ok (.iload 8, 2) := by decide +kernel
theorem dL_errors_698 : decode cL_errors 698 = .ok (.iconst (-1), 1) := by decide +kernel
theorem dL_errors_699 : decode cL_errors 699 = .ok (.if_icmp .eq 18, 3) := by decide +kernel
theorem dL_errors_702 : decode cL_errors 702 = .ok (.aload_n 0, 1) := by decide +kernel
theorem dL_errors_703 : decode cL_errors 703 = .ok (.iload 4, 2) := by decide +kernel
theorem dL_errors_705 : decode cL_errors 705 = .ok (.iload 8, 2) := by decide +kernel
theorem dL_errors_707 : decode cL_errors 707 = .ok (.invokestatic 152, 3) := by decide +kernel
theorem dL_errors_710 : decode cL_errors 710 = .ok (.ldc2_w 21, 3) := by decide +kernel
theorem dL_errors_713 : decode cL_errors 713 = .ok (.lcmp, 1) := by decide +kernel
theorem dL_errors_714 : decode cL_errors 714 = .ok (.ifCond .ne 7, 3) := by decide +kernel
theorem dL_errors_717 : decode cL_errors 717 = .ok (.iconst 1, 1) := by decide +kernel
theorem dL_errors_718 : decode cL_errors 718 = .ok (.goto 4, 3) := by decide +kernel
theorem dL_errors_721 : decode cL_errors 721 = .ok (.iconst 0, 1) := by decide +kernel
theorem dL_errors_722 : decode cL_errors 722 = .ok (.istore_n 3, 1) := by decide +kernel
theorem dL_errors_723 : decode cL_errors 723 = .ok (.iinc 4 1, 3) := by decide +kernel
theorem dL_errors_726 : decode cL_errors 726 = .ok (.goto (-234), 3) := by decide +kernel
theorem dL_errors_729 : decode cL_errors 729 = .ok (.iload_n 3, 1) := by decide +kernel
theorem dL_errors_730 : decode cL_errors 730 = .ok (.ifCond .eq 127, 3) := by decide +kernel
theorem dL_errors_733 : decode cL_errors 733 = .ok (.aload_n 0, 1) := by decide +kernel
theorem dL_errors_734 : decode cL_errors 734 = .ok (.iconst 1, 1) := by decide +kernel
theorem dL_errors_735 : decode cL_errors 735 = .ok (.invokestatic 120, 3) := by decide +kernel
theorem dL_errors_738 : decode cL_errors 738 = .ok (.lconst 0, 1) := by decide +kernel
theorem dL_errors_739 : decode cL_errors 739 = .ok (.lcmp, 1) := by decide +kernel
theorem dL_errors_740 : decode cL_errors 740 = .ok (.ifCond .gt 27, 3) := by decide +kernel
theorem dL_errors_743 : decode cL_errors 743 = .ok (.aload_n 0, 1) := by decide +kernel
theorem dL_errors_744 : decode cL_errors 744 = .ok (.iconst 5, 1) := by decide +kernel
theorem dL_errors_745 : decode cL_errors 745 = .ok (.invokestatic 120, 3) := by decide +kernel
theorem dL_errors_748 : decode cL_errors 748 = .ok (.ldc2_w 177, 3) := by decide +kernel
theorem dL_errors_751 : decode cL_errors 751 = .ok (.lcmp, 1) := by decide +kernel
theorem dL_errors_752 : decode cL_errors 752 = .ok (.ifCond .lt 15, 3) := by decide +kernel
theorem dL_errors_755 : decode cL_errors 755 = .ok (.aload_n 0, 1) := by decide +kernel
theorem dL_errors_756 : decode cL_errors 756 = .ok (.iconst 0, 1) := by decide +kernel
theorem dL_errors_757 : decode cL_errors 757 = .ok (.invokestatic 144, 3) := by decide +kernel
theorem dL_errors_760 : decode cL_errors 760 = .ok (.ldc2_w 21, 3) := by decide +kernel
theorem dL_errors_763 : decode cL_errors 763 = .ok (.lcmp, 1) := by decide +kernel
theorem dL_errors_764 : decode cL_errors 764 = .ok (.ifCond .ne 93, 3) := by decide +kernel
theorem dL_errors_767 : decode cL_errors 767 = .ok (.aload_n 0, 1) := by decide +kernel
theorem dL_errors_768 : decode cL_errors 768 = .ok (.iconst 0, 1) := by decide +kernel
theorem dL_errors_769 : decode cL_errors 769 = .ok (.lconst 0, 1) := by decide +kernel
theorem dL_errors_770 : decode cL_errors 770 = .ok (.invokestatic 179, 3) := by decide +kernel
theorem dL_errors_773 : decode cL_errors 773 = .ok (.ldc2_w 17, 3) := by decide +kernel
theorem dL_errors_776 : decode cL_errors 776 = .ok (.lcmp, 1) := by decide +kernel
theorem dL_errors_777 : decode cL_errors 777 = .ok (.ifCond .ne 80, 3) := by decide +kernel
theorem dL_errors_780 : decode cL_errors 780 = .ok (.aload_n 0, 1) := by decide +kernel
theorem dL_errors_781 : decode cL_errors 781 = .ok (.iconst 3, 1) := by decide +kernel
theorem dL_errors_782 : decode cL_errors 782 = .ok (.ldc2_w 183, 3) := by decide +kernel
theorem dL_errors_785 : decode cL_errors 785 = .ok (.invokestatic 179, 3) := by decide +kernel
theorem dL_errors_788 : decode cL_errors 788 = .ok (.ldc2_w 17, 3) := by decide +kernel
theorem dL_errors_791 : decode cL_errors 791 = .ok (.lcmp, 1) := by decide +kernel
theorem dL_errors_792 : decode cL_errors 792 = .ok (.ifCond .ne 65, 3) := by decide +kernel
theorem dL_errors_795 : decode cL_errors 795 = .ok (.aload_n 0, 1) := by decide +kernel
theorem dL_errors_796 : decode cL_errors 796 = .ok (.lconst 1, 1) := by decide +kernel
theorem dL_errors_797 : decode cL_errors 797 = .ok (.iconst 0, 1) := by decide +kernel
theorem dL_errors_798 : decode cL_errors 798 = .ok (.invokestatic 185, 3) := by decide +kernel
theorem dL_errors_801 : decode cL_errors 801 = .ok (.ldc2_w 17, 3) := by decide +kernel
theorem dL_errors_804 : decode cL_errors 804 = .ok (.lcmp, 1) := by decide +kernel
theorem dL_errors_805 : decode cL_errors 805 = .ok (.ifCond .ne 52, 3) := by decide +kernel
theorem dL_errors_808 : decode cL_errors 808 = .ok (.aload_n 0, 1) := by decide +kernel
theorem dL_errors_809 : decode cL_errors 809 = .ok (.iconst 2, 1) := by decide +kernel
theorem dL_errors_810 : decode cL_errors 810 = .ok (.invokestatic 188, 3) := by decide +kernel
theorem dL_errors_813 : decode cL_errors 813 = .ok (.ldc2_w 36, 3) := by decide +kernel
theorem dL_errors_816 : decode cL_errors 816 = .ok (.lcmp, 1) := by decide +kernel
theorem dL_errors_817 : decode cL_errors 817 = .ok (.ifCond .ne 40, 3) := by decide +kernel
theorem dL_errors_820 : decode cL_errors 820 = .ok (.aload_n 0, 1) := by decide +kernel
theorem dL_errors_821 : decode cL_errors 821 = .ok (.iconst 2, 1) := by decide +kernel
theorem dL_errors_822 : decode cL_errors 822 = .ok (.invokestatic 190, 3) := by decide +kernel
theorem dL_errors_825 : decode cL_errors 825 = .ok (.ldc2_w 36, 3) := by decide +kernel
theorem dL_errors_828 : decode cL_errors 828 = .ok (.lcmp, 1) := by decide +kernel
theorem dL_errors_829 : decode cL_errors 829 = .ok (.ifCond .ne 28, 3) := by decide +kernel
theorem dL_errors_832 : decode cL_errors 832 = .ok (.aload_n 0, 1) := by decide +kernel
theorem dL_errors_833 : decode cL_errors 833 = .ok (.iconst (-1), 1) := by decide +kernel
theorem dL_errors_834 : decode cL_errors 834 = .ok (.invokestatic 192, 3) := by decide +kernel
theorem dL_errors_837 : decode cL_errors 837 = .ok (.ldc2_w 17, 3) := by decide +kernel
theorem dL_errors_840 : decode cL_errors 840 = .ok (.lcmp, 1) := by decide +kernel
theorem dL_errors_841 : decode cL_errors 841 = .ok (.ifCond .ne 16, 3) := by decide +kernel
theorem dL_errors_844 : decode cL_errors 844 = .ok (.aload_n 0, 1) := by decide +kernel
theorem dL_errors_845 : decode cL_errors 845 = .ok (.invokestatic 138, 3) := by decide +kernel
theorem dL_errors_848 : decode cL_errors 848 = .ok (.lload_n 1, 1) := by decide +kernel
theorem dL_errors_849 : decode cL_errors 849 = .ok (.lcmp, 1) := by decide +kernel
theorem dL_errors_850 : decode cL_errors 850 = .ok (.ifCond .ne 7, 3) := by decide +kernel
theorem dL_errors_853 : decode cL_errors 853 = .ok (.iconst 1, 1) := by decide +kernel
theorem dL_errors_854 : decode cL_errors 854 = .ok (.goto 4, 3) := by decide +kernel
theorem dL_errors_857 : decode cL_errors 857 = .ok (.iconst 0, 1) := by decide +kernel
theorem dL_errors_858 : decode cL_errors 858 = .ok (.ireturn, 1) := by decide +kernel
theorem dL_read_0 : decode cL_read 0 = .ok (.lconst 0, 1) := by decide +kernel
theorem dL_read_1 : decode cL_read 1 = .ok (.lstore_n 2, 1) := by decide +kernel
theorem dL_read_2 : decode cL_read 2 = .ok (.iconst 1, 1) := by decide +kernel
theorem dL_read_3 : decode cL_read 3 = .ok (.istore 4, 2) := by decide +kernel
theorem dL_read_5 : decode cL_read 5 = .ok (.aload_n 0, 1) := by decide +kernel
theorem dL_read_6 : decode cL_read 6 = .ok (.iload_n 1, 1) := by decide +kernel
theorem dL_read_7 : decode cL_read 7 = .ok (.iconst 0, 1) := by decide +kernel
theorem dL_read_8 : decode cL_read 8 = .ok (.invokestatic 142, 3) := by decide +kernel
theorem dL_read_11 : decode cL_read 11 = .ok (.ldc2_w 194, 3) := by decide +kernel
theorem dL_read_14 : decode cL_read 14 = .ok (.lcmp, 1) := by decide +kernel
theorem dL_read_15 : decode cL_read 15 = .ok (.ifCond .ne 7, 3) := by decide +kernel
theorem dL_read_18 : decode cL_read 18 = .ok (.iconst 1, 1) := by decide +kernel
theorem dL_read_19 : decode cL_read 19 = .ok (.goto 4, 3) := by decide +kernel
theorem dL_read_22 : decode cL_read 22 = .ok (.iconst 0, 1) := by decide +kernel
theorem dL_read_23 : decode cL_read 23 = .ok (.istore 5, 2) := by decide +kernel
theorem dL_read_25 : decode cL_read 25 = .ok (.iconst 0, 1) := by decide +kernel
theorem dL_read_26 : decode cL_read 26 = .ok (.istore 6, 2) := by decide +kernel
theorem dL_read_28 : decode cL_read 28 = .ok (.iload 6, 2) := by decide +kernel
theorem dL_read_30 : decode cL_read 30 = .ok (.iconst 5, 1) := by decide +kernel
theorem dL_read_31 : decode cL_read 31 = .ok (.if_icmp .ge 176, 3) := by decide +kernel
theorem dL_read_34 : decode cL_read 34 = .ok (.lconst 0, 1) := by decide +kernel
theorem dL_read_35 : decode cL_read 35 = .ok (.lstore 7, 2) := by decide +kernel
theorem dL_read_37 : decode cL_read 37 = .ok (.iload 5, 2) := by decide +kernel
theorem dL_read_39 : decode cL_read 39 = .ok (.ifCond .eq 26, 3) := by decide +kernel
theorem dL_read_42 : decode cL_read 42 = .ok (.aload_n 0, 1) := by decide +kernel
theorem dL_read_43 : decode cL_read 43 = .ok (.iload_n 1, 1) := by decide +kernel
theorem dL_read_44 : decode cL_read 44 = .ok (.iload 4, 2) := by decide +kernel
theorem dL_read_46 : decode cL_read 46 = .ok (.invokestatic 142, 3) := by decide +kernel
theorem dL_read_49 : decode cL_read 49 = .ok (.ldc2_w 196, 3) := by decide +kernel
theorem dL_read_52 : decode cL_read 52 = .ok (.ldc2_w 198, 3) := by decide +kernel
theorem dL_read_55 : decode cL_read 55 = .ok (.invokestatic 200, 3) := by decide +kernel
theorem dL_read_58 : decode cL_read 58 = .ok (.ifCond .eq 7, 3) := by decide +kernel
theorem dL_read_61 : decode cL_read 61 = .ok (.iconst 1, 1) := by decide +kernel
theorem dL_read_62 : decode cL_read 62 = .ok (.goto 4, 3) := by decide +kernel
theorem dL_read_65 : decode cL_read 65 = .ok (.iconst 0, 1) := by decide +kernel
theorem dL_read_66 : decode cL_read 66 = .ok (.istore 5, 2) := by decide +kernel
theorem dL_read_68 : decode cL_read 68 = .ok (.aload_n 0, 1) := by decide +kernel
theorem dL_read_69 : decode cL_read 69 = .ok (.iload_n 1, 1) := by decide +kernel
theorem dL_read_70 : decode cL_read 70 = .ok (.iload 4, 2) := by decide +kernel
theorem dL_read_72 : decode cL_read 72 = .ok (.invokestatic 142, 3) := by decide +kernel
theorem dL_read_75 : decode cL_read 75 = .ok (.ldc2_w 196, 3) := by decide +kernel
theorem dL_read_78 : decode cL_read 78 = .ok (.ldc2_w 198, 3) := by decide +kernel
theorem dL_read_81 : decode cL_read 81 = .ok (.invokestatic 200, 3) := by decide +kernel
theorem dL_read_84 : decode cL_read 84 = .ok (.ifCond .eq 29, 3) := by decide +kernel
theorem dL_read_87 : decode cL_read 87 = .ok (.ldc2_w 204, 3) := by decide +kernel
theorem dL_read_90 : decode cL_read 90 = .ok (.lload 7, 2) := by decide +kernel
theorem dL_read_92 : decode cL_read 92 = .ok (.lmul, 1) := by decide +kernel
theorem dL_read_93 : decode cL_read 93 = .ok (.aload_n 0, 1) := by decide +kernel
theorem dL_read_94 : decode cL_read 94 = .ok (.iload_n 1, 1) := by decide +kernel
theorem dL_read_95 : decode cL_read 95 = .ok (.iload 4, 2) := by decide +kernel
theorem dL_read_97 : decode cL_read 97 = .ok (.invokestatic 142, 3) := by decide +kernel
theorem dL_read_100 : decode cL_read 100 = .ok (.ladd, 1) := by decide +kernel
theorem dL_read_101 : decode cL_read 101 = .ok (.ldc2_w 196, 3) := by decide +kernel
theorem dL_read_104 : decode cL_read 104 = .ok (.lsub, 1) := by decide +kernel
theorem dL_read_105 : decode cL_read 105 = .ok (.lstore 7, 2) := by decide +kernel
theorem dL_read_107 : decode cL_read 107 = .ok (.iinc 4 1, 3) := by decide +kernel
theorem dL_read_110 : decode cL_read 110 = .ok (.goto (-42), 3) := by decide +kernel
theorem dL_read_113 : decode cL_read 113 = .ok (.ldc2_w 206, 3) := by decide +kernel
theorem dL_read_116 : decode cL_read 116 = .ok (.lload_n 2, 1) := by decide +kernel
theorem dL_read_117 : decode cL_read 117 = .ok (.lmul, 1) := by decide +kernel
theorem dL_read_118 : decode cL_read 118 = .ok (.lload 7, 2) := by decide +kernel
theorem dL_read_120 : decode cL_read 120 = .ok (.ladd, 1) := by decide +kernel
theorem dL_read_121 : decode cL_read 121 = .ok (.lstore_n 2, 1) := by decide +kernel
theorem dL_read_122 : decode cL_read 122 = .ok (.iload 6, 2) := by decide +kernel
theorem dL_read_124 : decode cL_read 124 = .ok (.iconst 4, 1) := by decide +kernel
theorem dL_read_125 : decode cL_read 125 = .ok (.if_icmp .ge 76, 3) := by decide +kernel
theorem dL_read_128 : decode cL_read 128 = .ok (.iload 5, 2) := by decide +kernel
theorem dL_read_130 : decode cL_read 130 = .ok (.ifCond .eq 53, 3) := by decide +kernel
theorem dL_read_133 : decode cL_read 133 = .ok (.aload_n 0, 1) := by decide +kernel
theorem dL_read_134 : decode cL_read 134 = .ok (.iload_n 1, 1) := by decide +kernel
theorem dL_read_135 : decode cL_read 135 = .ok (.iload 4, 2) := by decide +kernel
theorem dL_read_137 : decode cL_read 137 = .ok (.invokestatic 142, 3) := by decide +kernel
theorem dL_read_140 : decode cL_read 140 = .ok (.iload 6, 2) := by decide +kernel
theorem dL_read_142 : decode cL_read 142 = .ok (.iconst 2, 1) := by decide +kernel
theorem dL_read_143 : decode cL_read 143 = .ok (.if_icmp .ne 8, 3) := by decide +kernel
theorem dL_read_146 : decode cL_read 146 = .ok (.bipush 47, 2) := by decide +kernel
theorem dL_read_148 : decode cL_read 148 = .ok (.goto 5, 3) := by decide +kernel
theorem dL_read_151 : decode cL_read 151 = .ok (.bipush 32, 2) := by decide +kernel
theorem dL_read_153 : decode cL_read 153 = .ok (.i2l, 1) := by decide +kernel
theorem dL_read_154 : decode cL_read 154 = .ok (.lcmp, 1) := by decide +kernel
theorem dL_read_155 : decode cL_read 155 = .ok (.ifCond .ne 28, 3) := by decide +kernel
theorem dL_read_158 : decode cL_read 158 = .ok (.iload 6, 2) := by decide +kernel
theorem dL_read_160 : decode cL_read 160 = .ok (.ifCond .gt 19, 3) := by decide +kernel
theorem dL_read_163 : decode cL_read 163 = .ok (.aload_n 0, 1) := by decide +kernel
theorem dL_read_164 : decode cL_read 164 = .ok (.iload_n 1, 1) := by decide +kernel
theorem dL_read_165 : decode cL_read 165 = .ok (.iload 4, 2) := by decide +kernel
theorem dL_read_167 : decode cL_read 167 = .ok (.iconst 1, 1) := by decide +kernel
theorem dL_read_168 : decode cL_read 168 = .ok (.iadd, 1) := by decide +kernel
theorem dL_read_169 : decode cL_read 169 = .ok (.invokestatic 142, 3) := by decide +kernel
theorem dL_read_172 : decode cL_read 172 = .ok (.ldc2_w 208, 3) := by decide +kernel
theorem dL_read_175 : decode cL_read 175 = .ok (.lcmp, 1) := by decide +kernel
theorem dL_read_176 : decode cL_read 176 = .ok (.ifCond .ne 7, 3) := by decide +kernel
theorem dL_read_179 : decode cL_read 179 = .ok (.iconst 1, 1) := by decide +kernel
theorem dL_read_180 : decode cL_read 180 = .ok (.goto 4, 3) := by decide +kernel
theorem dL_read_183 : decode cL_read 183 = .ok (.iconst 0, 1) := by decide +kernel
theorem dL_read_184 : decode cL_read 184 = .ok (.istore 5, 2) := by decide +kernel
theorem dL_read_186 : decode cL_read 186 = .ok (.iload 4, 2) := by decide +kernel
theorem dL_read_188 : decode cL_read 188 = .ok (.iload 6, 2) := by decide +kernel
theorem dL_read_190 : decode cL_read 190 = .ok (.ifCond .ne 7, 3) := by decide +kernel
theorem dL_read_193 : decode cL_read 193 = .ok (.iconst 2, 1) := by decide +kernel
theorem dL_read_194 : decode cL_read 194 = .ok (.goto 4, 3) := by decide +kernel
theorem dL_read_197 : decode cL_read 197 = .ok (.iconst 1, 1) := by decide +kernel
theorem dL_read_198 : decode cL_read 198 = .ok (.iadd, 1) := by decide +kernel
theorem dL_read_199 : decode cL_read 199 = .ok (.istore 4, 2) := by decide +kernel
theorem dL_read_201 : decode cL_read 201 = .ok (.iinc 6 1, 3) := by decide +kernel
theorem dL_read_204 : decode cL_read 204 = .ok (.goto (-176), 3) := by decide +kernel
theorem dL_read_207 : decode cL_read 207 = .ok (.aload_n 0, 1) := by decide +kernel
theorem dL_read_208 : decode cL_read 208 = .ok (.iload_n 1, 1) := by decide +kernel
theorem dL_read_209 : decode cL_read 209 = .ok (.iload 4, 2) := by decide +kernel
theorem dL_read_211 : decode cL_read 211 = .ok (.invokestatic 142, 3) := by decide +kernel
theorem dL_read_214 : decode cL_read 214 = .ok (.ldc2_w 210, 3) := by decide +kernel
theorem dL_read_217 : decode cL_read 217 = .ok (.lcmp, 1) := by decide +kernel
theorem dL_read_218 : decode cL_read 218 = .ok (.ifCond .ne 7, 3) := by decide +kernel
theorem dL_read_221 : decode cL_read 221 = .ok (.iconst 1, 1) := by decide +kernel
theorem dL_read_222 : decode cL_read 222 = .ok (.goto 4, 3) := by decide +kernel
theorem dL_read_225 : decode cL_read 225 = .ok (.iconst 0, 1) := by decide +kernel
theorem dL_read_226 : decode cL_read 226 = .ok (.istore 6, 2) := by decide +kernel
theorem dL_read_228 : decode cL_read 228 = .ok (.iload 4, 2) := by decide +kernel
theorem dL_read_230 : decode cL_read 230 = .ok (.iload 6, 2) := by decide +kernel
theorem dL_read_232 : decode cL_read 232 = .ok (.ifCond .eq 7, 3) := by decide +kernel
theorem dL_read_235 : decode cL_read 235 = .ok (.iconst 1, 1) := by decide +kernel
theorem dL_read_236 : decode cL_read 236 = .ok (.goto 4, 3) := by decide +kernel
theorem dL_read_239 : decode cL_read 239 = .ok (.iconst 0, 1) := by decide +kernel
theorem dL_read_240 : decode cL_read 240 = .ok (.iadd, 1) := by decide +kernel
theorem dL_read_241 : decode cL_read 241 = .ok (.istore 4, 2) := by decide +kernel
theorem dL_read_243 : decode cL_read 243 = .ok (.aload_n 0, 1) := by decide +kernel
theorem dL_read_244 : decode cL_read 244 = .ok (.iload_n 1, 1) := by decide +kernel
theorem dL_read_245 : decode cL_read 245 = .ok (.iload 4, 2) := by decide +kernel
theorem dL_read_247 : decode cL_read 247 = .ok (.invokestatic 142, 3) := by decide +kernel
theorem dL_read_250 : decode cL_read 250 = .ok (.ldc2_w 212, 3) := by decide +kernel
theorem dL_read_253 : decode cL_read 253 = .ok (.lcmp, 1) := by decide +kernel
theorem dL_read_254 : decode cL_read 254 = .ok (.ifCond .ne 7, 3) := by decide +kernel
theorem dL_read_257 : decode cL_read 257 = .ok (.iconst 1, 1) := by decide +kernel
theorem dL_read_258 : decode cL_read 258 = .ok (.goto 4, 3) := by decide +kernel
theorem dL_read_261 : decode cL_read 261 = .ok (.iconst 0, 1) := by decide +kernel
theorem dL_read_262 : decode cL_read 262 = .ok (.istore 7, 2) := by decide +kernel
theorem dL_read_264 : decode cL_read 264 = .ok (.iload 5, 2) := by decide +kernel
theorem dL_read_266 : decode cL_read 266 = .ok (.ifCond .eq 104, 3) := by decide +kernel
theorem dL_read_269 : decode cL_read 269 = .ok (.iload 6, 2) := by decide +kernel
theorem dL_read_271 : decode cL_read 271 = .ok (.aload_n 0, 1) := by decide +kernel
theorem dL_read_272 : decode cL_read 272 = .ok (.iload_n 1, 1) := by decide +kernel
theorem dL_read_273 : decode cL_read 273 = .ok (.iconst 5, 1) := by decide +kernel
theorem dL_read_274 : decode cL_read 274 = .ok (.invokestatic 129, 3) := by decide +kernel
theorem dL_read_277 : decode cL_read 277 = .ok (.lconst 1, 1) := by decide +kernel
theorem dL_read_278 : decode cL_read 278 = .ok (.lcmp, 1) := by decide +kernel
theorem dL_read_279 : decode cL_read 279 = .ok (.ifCond .le 7, 3) := by decide +kernel
theorem dL_read_282 : decode cL_read 282 = .ok (.iconst 1, 1) := by decide +kernel
theorem dL_read_283 : decode cL_read 283 = .ok (.goto 4, 3) := by decide +kernel
theorem dL_read_286 : decode cL_read 286 = .ok (.iconst 0, 1) := by decide +kernel
theorem dL_read_287 : decode cL_read 287 = .ok (.if_icmp .ne 83, 3) := by decide +kernel
theorem dL_read_290 : decode cL_read 290 = .ok (.iload 7, 2) := by decide +kernel
theorem dL_read_292 : decode cL_read 292 = .ok (.aload_n 0, 1) := by decide +kernel
theorem dL_read_293 : decode cL_read 293 = .ok (.iload_n 1, 1) := by decide +kernel
theorem dL_read_294 : decode cL_read 294 = .ok (.iconst 4, 1) := by decide +kernel
theorem dL_read_295 : decode cL_read 295 = .ok (.invokestatic 129, 3) := by decide +kernel
theorem dL_read_298 : decode cL_read 298 = .ok (.ldc2_w 173, 3) := by decide +kernel
theorem dL_read_301 : decode cL_read 301 = .ok (.lcmp, 1) := by decide +kernel
theorem dL_read_302 : decode cL_read 302 = .ok (.ifCond .eq 7, 3) := by decide +kernel
theorem dL_read_305 : decode cL_read 305 = .ok (.iconst 1, 1) := by decide +kernel
theorem dL_read_306 : decode cL_read 306 = .ok (.goto 4, 3) := by decide +kernel
theorem dL_read_309 : decode cL_read 309 = .ok (.iconst 0, 1) := by decide +kernel
theorem dL_read_310 : decode cL_read 310 = .ok (.if_icmp .ne 60, 3) := by decide +kernel
theorem dL_read_313 : decode cL_read 313 = .ok (.iload 7, 2) := by decide +kernel
theorem dL_read_315 : decode cL_read 315 = .ok (.ifCond .eq 26, 3) := by decide +kernel
theorem dL_read_318 : decode cL_read 318 = .ok (.aload_n 0, 1) := by decide +kernel
theorem dL_read_319 : decode cL_read 319 = .ok (.iload_n 1, 1) := by decide +kernel
theorem dL_read_320 : decode cL_read 320 = .ok (.iload 4, 2) := by decide +kernel
theorem dL_read_322 : decode cL_read 322 = .ok (.iconst 1, 1) := by decide +kernel
theorem dL_read_323 : decode cL_read 323 = .ok (.iadd, 1) := by decide +kernel
theorem dL_read_324 : decode cL_read 324 = .ok (.invokestatic 142, 3) := by decide +kernel
theorem dL_read_327 : decode cL_read 327 = .ok (.ldc2_w 196, 3) := by decide +kernel
theorem dL_read_330 : decode cL_read 330 = .ok (.aload_n 0, 1) := by decide +kernel
theorem dL_read_331 : decode cL_read 331 = .ok (.iload_n 1, 1) := by decide +kernel
theorem dL_read_332 : decode cL_read 332 = .ok (.iconst 4, 1) := by decide +kernel
theorem dL_read_333 : decode cL_read 333 = .ok (.invokestatic 129, 3) := by decide +kernel
theorem dL_read_336 : decode cL_read 336 = .ok (.ladd, 1) := by decide +kernel
theorem dL_read_337 : decode cL_read 337 = .ok (.lcmp, 1) := by decide +kernel
theorem dL_read_338 : decode cL_read 338 = .ok (.ifCond .ne 32, 3) := by decide +kernel
theorem dL_read_341 : decode cL_read 341 = .ok (.aload_n 0, 1) := by decide +kernel
theorem dL_read_342 : decode cL_read 342 = .ok (.iload_n 1, 1) := by decide +kernel
theorem dL_read_343 : decode cL_read 343 = .ok (.iload 4, 2) := by decide +kernel
theorem dL_read_345 : decode cL_read 345 = .ok (.iload 7, 2) := by decide +kernel
theorem dL_read_347 : decode cL_read 347 = .ok (.ifCond .eq 7, 3) := by decide +kernel
theorem dL_read_350 : decode cL_read 350 = .ok (.iconst 2, 1) := by decide +kernel
theorem dL_read_351 : decode cL_read 351 = .ok (.goto 4, 3) := by decide +kernel
theorem dL_read_354 : decode cL_read 354 = .ok (.iconst 0, 1) := by decide +kernel
theorem dL_read_355 : decode cL_read 355 = .ok (.iadd, 1) := by decide +kernel
theorem dL_read_356 : decode cL_read 356 = .ok (.invokestatic 142, 3) := by decide +kernel
theorem dL_read_359 : decode cL_read 359 = .ok (.ldc2_w 173, 3) := by decide +kernel
theorem dL_read_362 : decode cL_read 362 = .ok (.lcmp, 1) := by decide +kernel
theorem dL_read_363 : decode cL_read 363 = .ok (.ifCond .ne 7, 3) := by decide +kernel
theorem dL_read_366 : decode cL_read 366 = .ok (.iconst 1, 1) := by decide +kernel
theorem dL_read_367 : decode cL_read 367 = .ok (.goto 4, 3) := by decide +kernel
theorem dL_read_370 : decode cL_read 370 = .ok (.iconst 0, 1) := by decide +kernel
theorem dL_read_371 : decode cL_read 371 = .ok (.istore 5, 2) := by decide +kernel
theorem dL_read_373 : decode cL_read 373 = .ok (.iload 5, 2) := by decide +kernel
theorem dL_read_375 : decode cL_read 375 = .ok (.ifCond .eq 7, 3) := by decide +kernel
theorem dL_read_378 : decode cL_read 378 = .ok (.lload_n 2, 1) := by decide +kernel
theorem dL_read_379 : decode cL_read 379 = .ok (.goto 6, 3) := by decide +kernel
theorem dL_read_382 : decode cL_read 382 = .ok (.ldc2_w 173, 3) := by decide +kernel
theorem dL_read_385 : decode cL_read 385 = .ok (.lreturn, 1) := by decide +kernel
theorem dL_kept_0 : decode cL_kept 0 = .ok (.aload_n 0, 1) := by decide +kernel
theorem dL_kept_1 : decode cL_kept 1 = .ok (.iconst 0, 1) := by decide +kernel
theorem dL_kept_2 : decode cL_kept 2 = .ok (.invokestatic 120, 3) := by decide +kernel
theorem dL_kept_5 : decode cL_kept 5 = .ok (.lstore_n 1, 1) := by decide +kernel
theorem dL_kept_6 : decode cL_kept 6 = .ok (.lconst 0, 1) := by decide +kernel
theorem dL_kept_7 : decode cL_kept 7 = .ok (.lstore_n 3, 1) := by decide +kernel
theorem dL_kept_8 : decode cL_kept 8 = .ok (.lconst 0, 1) := by decide +kernel
theorem dL_kept_9 : decode cL_kept 9 = .ok (.lstore 5, 2) := by decide +kernel
theorem dL_kept_11 : decode cL_kept 11 = .ok (.lconst 0, 1) := by decide +kernel
theorem dL_kept_12 : decode cL_kept 12 = .ok (.lstore 7, 2) := by decide +kernel
theorem dL_kept_14 : decode cL_kept 14 = .ok (.lconst 0, 1) := by decide +kernel
theorem dL_kept_15 : decode cL_kept 15 = .ok (.lstore 9, 2) := by decide +kernel
theorem dL_kept_17 : decode cL_kept 17 = .ok (.lconst 0, 1) := by decide +kernel
theorem dL_kept_18 : decode cL_kept 18 = .ok (.lstore 11, 2) := by decide +kernel
theorem dL_kept_20 : decode cL_kept 20 = .ok (.iconst 1, 1) := by decide +kernel
theorem dL_kept_21 : decode cL_kept 21 = .ok (.istore 13, 2) := by decide +kernel
theorem dL_kept_23 : decode cL_kept 23 = .ok (.iconst 0, 1) := by decide +kernel
theorem dL_kept_24 : decode cL_kept 24 = .ok (.istore 14, 2) := by decide +kernel
theorem dL_kept_26 : decode cL_kept 26 = .ok (.iload 14, 2) := by decide +kernel
theorem dL_kept_28 : decode cL_kept 28 = .ok (.bipush 24, 2) := by decide +kernel
theorem dL_kept_30 : decode cL_kept 30 = .ok (.if_icmp .ge 660, 3) := by decide +kernel
theorem dL_kept_33 : decode cL_kept 33 = .ok (.iload 13, 2) := by decide +kernel
theorem dL_kept_35 : decode cL_kept 35 = .ok (.ifCond .eq 655, 3) := by decide +kernel
theorem dL_kept_38 : decode cL_kept 38 = .ok (.aload_n 0, 1) := by decide +kernel
theorem dL_kept_39 : decode cL_kept 39 = .ok (.iload 14, 2) := by decide +kernel
theorem dL_kept_41 : decode cL_kept 41 = .ok (.iconst 5, 1) := by decide +kernel
theorem dL_kept_42 : decode cL_kept 42 = .ok (.invokestatic 129, 3) := by decide +kernel
theorem dL_kept_45 : decode cL_kept 45 = .ok (.lstore 15, 2) := by decide +kernel
theorem dL_kept_47 : decode cL_kept 47 = .ok (.aload_n 0, 1) := by decide +kernel
theorem dL_kept_48 : decode cL_kept 48 = .ok (.iload 14, 2) := by decide +kernel
theorem dL_kept_50 : decode cL_kept 50 = .ok (.iconst 0, 1) := by decide +kernel
theorem dL_kept_51 : decode cL_kept 51 = .ok (.invokestatic 129, 3) := by decide +kernel
theorem dL_kept_54 : decode cL_kept 54 = .ok (.lstore 17, 2) := by decide +kernel
theorem dL_kept_56 : decode cL_kept 56 = .ok (.aload_n 0, 1) := by decide +kernel
theorem dL_kept_57 : decode cL_kept 57 = .ok (.iload 14, 2) := by decide +kernel
theorem dL_kept_59 : decode cL_kept 59 = .ok (.iconst 1, 1) := by decide +kernel
theorem dL_kept_60 : decode cL_kept 60 = .ok (.invokestatic 129, 3) := by decide +kernel
theorem dL_kept_63 : decode cL_kept 63 = .ok (.lstore 19, 2) := by decide +kernel
theorem dL_kept_65 : decode cL_kept 65 = .ok (.aload_n 0, 1) := by decide +kernel
theorem dL_kept_66 : decode cL_kept 66 = .ok (.iload 14, 2) := by decide +kernel
theorem dL_kept_68 : decode cL_kept 68 = .ok (.iconst 2, 1) := by decide +kernel
theorem dL_kept_69 : decode cL_kept 69 = .ok (.invokestatic 129, 3) := by decide +kernel
theorem dL_kept_72 : decode cL_kept 72 = .ok (.lstore 21, 2) := by decide +kernel
theorem dL_kept_74 : decode cL_kept 74 = .ok (.aload_n 0, 1) := by decide +kernel
theorem dL_kept_75 : decode cL_kept 75 = .ok (.iload 14, 2) := by decide +kernel
theorem dL_kept_77 : decode cL_kept 77 = .ok (.iconst 3, 1) := by decide +kernel
theorem dL_kept_78 : decode cL_kept 78 = .ok (.invokestatic 129, 3) := by decide +kernel
theorem dL_kept_81 : decode cL_kept 81 = .ok (.lstore 23, 2) := by decide +kernel
theorem dL_kept_83 : decode cL_kept 83 = .ok (.aload_n 0, 1) := by decide +kernel
theorem dL_kept_84 : decode cL_kept 84 = .ok (.iload 14, 2) := by decide +kernel
theorem dL_kept_86 : decode cL_kept 86 = .ok (.iconst 4, 1) := by decide +kernel
theorem dL_kept_87 : decode cL_kept 87 = .ok (.invokestatic 129, 3) := by decide +kernel
theorem dL_kept_90 : decode cL_kept 90 = .ok (.ldc2_w 173, 3) := by decide +kernel
theorem dL_kept_93 : decode cL_kept 93 = .ok (.lcmp, 1) := by decide +kernel
theorem dL_kept_94 : decode cL_kept 94 = .ok (.ifCond .eq 7, 3) := by decide +kernel
theorem dL_kept_97 : decode cL_kept 97 = .ok (.iconst 1, 1) := by decide +kernel
theorem dL_kept_98 : decode cL_kept 98 = .ok (.goto 4, 3) := by decide +kernel
theorem dL_kept_101 : decode cL_kept 101 = .ok (.iconst 0, 1) := by decide +kernel
theorem dL_kept_102 : decode cL_kept 102 = .ok (.istore 25, 2) := by decide +kernel
theorem dL_kept_104 : decode cL_kept 104 = .ok (.lload 17, 2) := by decide +kernel
theorem dL_kept_106 : decode cL_kept 106 = .ok (.ldc2_w 173, 3) := by decide +kernel
theorem dL_kept_109 : decode cL_kept 109 = .ok (.lcmp, 1) := by decide +kernel
theorem dL_kept_110 : decode cL_kept 110 = .ok (.ifCond .eq 14, 3) := by decide +kernel
theorem dL_kept_113 : decode cL_kept 113 = .ok (.lload_n 1, 1) := by decide +kernel
theorem dL_kept_114 : decode cL_kept 114 = .ok (.lload 19, 2) := by decide +kernel
theorem dL_kept_116 : decode cL_kept 116 = .ok (.lcmp, 1) := by decide +kernel
theorem dL_kept_117 : decode cL_kept 117 = .ok (.ifCond .le 7, 3) := by decide +kernel
theorem dL_kept_120 : decode cL_kept 120 = .ok (.iconst 1, 1) := by decide +kernel
theorem dL_kept_121 : decode cL_kept 121 = .ok (.goto 4, 3) := by decide +kernel
theorem dL_kept_124 : decode cL_kept 124 = .ok (.iconst 0, 1) := by decide +kernel
theorem dL_kept_125 : decode cL_kept 125 = .ok (.istore 26, 2) := by decide +kernel
theorem dL_kept_127 : decode cL_kept 127 = .ok (.lload 21, 2) := by decide +kernel
theorem dL_kept_129 : decode cL_kept 129 = .ok (.lconst 0, 1) := by decide +kernel
theorem dL_kept_130 : decode cL_kept 130 = .ok (.lcmp, 1) := by decide +kernel
theorem dL_kept_131 : decode cL_kept 131 = .ok (.ifCond .le 20, 3) := by decide +kernel
theorem dL_kept_134 : decode cL_kept 134 = .ok (.lload_n 1, 1) := by decide +kernel
theorem dL_kept_135 : decode cL_kept 135 = .ok (.lload 23, 2) := by decide +kernel
theorem dL_kept_137 : decode cL_kept 137 = .ok (.aload_n 0, 1) := by decide +kernel
theorem dL_kept_138 : decode cL_kept 138 = .ok (.iconst 1, 1) := by decide +kernel
theorem dL_kept_139 : decode cL_kept 139 = .ok (.invokestatic 125, 3) := by decide +kernel
theorem dL_kept_142 : decode cL_kept 142 = .ok (.ladd, 1) := by decide +kernel
theorem dL_kept_143 : decode cL_kept 143 = .ok (.lcmp, 1) := by decide +kernel
theorem dL_kept_144 : decode cL_kept 144 = .ok (.ifCond .ge 7, 3) := by decide +kernel
theorem dL_kept_147 : decode cL_kept 147 = .ok (.iconst 1, 1) := by decide +kernel
theorem dL_kept_148 : decode cL_kept 148 = .ok (.goto 4, 3) := by decide +kernel
theorem dL_kept_151 : decode cL_kept 151 = .ok (.iconst 0, 1) := by decide +kernel
theorem dL_kept_152 : decode cL_kept 152 = .ok (.istore 27, 2) := by decide +kernel
theorem dL_kept_154 : decode cL_kept 154 = .ok (.lload_n 3, 1) := by decide +kernel
theorem dL_kept_155 : decode cL_kept 155 = .ok (.lload 17, 2) := by decide +kernel
theorem dL_kept_157 : decode cL_kept 157 = .ok (.ldc2_w 173, 3) := by decide +kernel
theorem dL_kept_160 : decode cL_kept 160 = .ok (.lcmp, 1) := by decide +kernel
theorem dL_kept_161 : decode cL_kept 161 = .ok (.ifCond .ne 7, 3) := by decide +kernel
theorem dL_kept_164 : decode cL_kept 164 = .ok (.lconst 1, 1) := by decide +kernel
theorem dL_kept_165 : decode cL_kept 165 = .ok (.goto 4, 3) := by decide +kernel
theorem dL_kept_168 : decode cL_kept 168 = .ok (.lconst 0, 1) := by decide +kernel
theorem dL_kept_169 : decode cL_kept 169 = .ok (.ladd, 1) := by decide +kernel
theorem dL_kept_170 : decode cL_kept 170 = .ok (.lstore_n 3, 1) := by decide +kernel
theorem dL_kept_171 : decode cL_kept 171 = .ok (.lload 5, 2) := by decide +kernel
theorem dL_kept_173 : decode cL_kept 173 = .ok (.iload 26, 2) := by decide +kernel
theorem dL_kept_175 : decode cL_kept 175 = .ok (.ifCond .eq 7, 3) := by decide +kernel
theorem dL_kept_178 : decode cL_kept 178 = .ok (.lconst 1, 1) := by decide +kernel
theorem dL_kept_179 : decode cL_kept 179 = .ok (.goto 4, 3) := by decide +kernel
theorem dL_kept_182 : decode cL_kept 182 = .ok (.lconst 0, 1) := by decide +kernel
theorem dL_kept_183 : decode cL_kept 183 = .ok (.ladd, 1) := by decide +kernel
theorem dL_kept_184 : decode cL_kept 184 = .ok (.lstore 5, 2) := by decide +kernel
theorem dL_kept_186 : decode cL_kept 186 = .ok (.lload 7, 2) := by decide +kernel
theorem dL_kept_188 : decode cL_kept 188 = .ok (.lload 15, 2) := by decide +kernel
theorem dL_kept_190 : decode cL_kept 190 = .ok (.ldc2_w 175, 3) := by decide +kernel
theorem dL_kept_193 : decode cL_kept 193 = .ok (.lcmp, 1) := by decide +kernel
theorem dL_kept_194 : decode cL_kept 194 = .ok (.ifCond .ne 7, 3) := by decide +kernel
theorem dL_kept_197 : decode cL_kept 197 = .ok (.lconst 1, 1) := by decide +kernel
theorem dL_kept_198 : decode cL_kept 198 = .ok (.goto 4, 3) := by decide +kernel
theorem dL_kept_201 : decode cL_kept 201 = .ok (.lconst 0, 1) := by decide +kernel
theorem dL_kept_202 : decode cL_kept 202 = .ok (.ladd, 1) := by decide +kernel
theorem dL_kept_203 : decode cL_kept 203 = .ok (.lstore 7, 2) := by decide +kernel
theorem dL_kept_205 : decode cL_kept 205 = .ok (.lload 9, 2) := by decide +kernel
theorem dL_kept_207 : decode cL_kept 207 = .ok (.iload 25, 2) := by decide +kernel
theorem dL_kept_209 : decode cL_kept 209 = .ok (.ifCond .eq 7, 3) := by decide +kernel
theorem dL_kept_212 : decode cL_kept 212 = .ok (.lconst 1, 1) := by decide +kernel
theorem dL_kept_213 : decode cL_kept 213 = .ok (.goto 4, 3) := by decide +kernel
theorem dL_kept_216 : decode cL_kept 216 = .ok (.lconst 0, 1) := by decide +kernel
theorem dL_kept_217 : decode cL_kept 217 = .ok (.ladd, 1) := by decide +kernel
theorem dL_kept_218 : decode cL_kept 218 = .ok (.lstore 9, 2) := by decide +kernel
theorem dL_kept_220 : decode cL_kept 220 = .ok (.lload 11, 2) := by decide +kernel
theorem dL_kept_222 : decode cL_kept 222 = .ok (.lload 21, 2) := by decide +kernel
theorem dL_kept_224 : decode cL_kept 224 = .ok (.ladd, 1) := by decide +kernel
theorem dL_kept_225 : decode cL_kept 225 = .ok (.lstore 11, 2) := by decide +kernel
theorem dL_kept_227 : decode cL_kept 227 = .ok (.lload 17, 2) := by decide +kernel
theorem dL_kept_229 : decode cL_kept 229 = .ok (.ldc2_w 173, 3) := by decide +kernel
theorem dL_kept_232 : decode cL_kept 232 = .ok (.ldc2_w 214, 3) := by decide +kernel
theorem dL_kept_235 : decode cL_kept 235 = .ok (.invokestatic 200, 3) := by decide +kernel
theorem dL_kept_238 : decode cL_kept 238 = .ok (.ifCond .eq 149, 3) := by decide +kernel
theorem dL_kept_241 : decode cL_kept 241 = .ok (.lload 21, 2) := by decide +kernel
theorem dL_kept_243 : decode cL_kept 243 = .ok (.lconst 0, 1) := by decide +kernel
theorem dL_kept_244 : decode cL_kept 244 = .ok (.ldc2_w 216, 3) := by decide +kernel
theorem dL_kept_247 : decode cL_kept 247 = .ok (.invokestatic 200, 3) := by decide +kernel
theorem dL_kept_250 : decode cL_kept 250 = .ok (.ifCond .eq 137, 3) := by decide +kernel
theorem dL_kept_253 : decode cL_kept 253 = .ok (.lload 17, 2) := by decide +kernel
theorem dL_kept_255 : decode cL_kept 255 = .ok (.ldc2_w 173, 3) := by decide +kernel
theorem dL_kept_258 : decode cL_kept 258 = .ok (.lcmp, 1) := by decide +kernel
theorem dL_kept_259 : decode cL_kept 259 = .ok (.ifCond .ne 24, 3) := by decide +kernel
theorem dL_kept_262 : decode cL_kept 262 = .ok (.lload 19, 2) := by decide +kernel
theorem dL_kept_264 : decode cL_kept 264 = .ok (.ldc2_w 173, 3) := by decide +kernel
theorem dL_kept_267 : decode cL_kept 267 = .ok (.lcmp, 1) := by decide +kernel
theorem dL_kept_268 : decode cL_kept 268 = .ok (.ifCond .ne 119, 3) := by decide +kernel
theorem dL_kept_271 : decode cL_kept 271 = .ok (.lload 21, 2) := by decide +kernel
theorem dL_kept_273 : decode cL_kept 273 = .ok (.lconst 0, 1) := by decide +kernel
theorem dL_kept_274 : decode cL_kept 274 = .ok (.lcmp, 1) := by decide +kernel
theorem dL_kept_275 : decode cL_kept 275 = .ok (.ifCond .ne 112, 3) := by decide +kernel
theorem dL_kept_278 : decode cL_kept 278 = .ok (.iload 25, 2) := by decide +kernel
theorem dL_kept_280 : decode cL_kept 280 = .ok (.ifCond .ne 107, 3) := by decide +kernel
theorem dL_kept_283 : decode cL_kept 283 = .ok (.lload 23, 2) := by decide +kernel
theorem dL_kept_285 : decode cL_kept 285 = .ok (.ldc2_w 173, 3) := by decide +kernel
theorem dL_kept_288 : decode cL_kept 288 = .ok (.lcmp, 1) := by decide +kernel
theorem dL_kept_289 : decode cL_kept 289 = .ok (.ifCond .ne 7, 3) := by decide +kernel
theorem dL_kept_292 : decode cL_kept 292 = .ok (.iconst 1, 1) := by decide +kernel
theorem dL_kept_293 : decode cL_kept 293 = .ok (.goto 4, 3) := by decide +kernel
theorem dL_kept_296 : decode cL_kept 296 = .ok (.iconst 0, 1) := by decide +kernel
theorem dL_kept_297 : decode cL_kept 297 = .ok (.lload 21, 2) := by decide +kernel
theorem dL_kept_299 : decode cL_kept 299 = .ok (.lconst 0, 1) := by decide +kernel
theorem dL_kept_300 : decode cL_kept 300 = .ok (.lcmp, 1) := by decide +kernel
theorem dL_kept_301 : decode cL_kept 301 = .ok (.ifCond .ne 7, 3) := by decide +kernel
theorem dL_kept_304 : decode cL_kept 304 = .ok (.iconst 1, 1) := by decide +kernel
theorem dL_kept_305 : decode cL_kept 305 = .ok (.goto 4, 3) := by decide +kernel
theorem dL_kept_308 : decode cL_kept 308 = .ok (.iconst 0, 1) := by decide +kernel
theorem dL_kept_309 : decode cL_kept 309 = .ok (.if_icmp .ne 78, 3) := by decide +kernel
theorem dL_kept_312 : decode cL_kept 312 = .ok (.lload 15, 2) := by decide +kernel
theorem dL_kept_314 : decode cL_kept 314 = .ok (.lload 17, 2) := by decide +kernel
theorem dL_kept_316 : decode cL_kept 316 = .ok (.ldc2_w 173, 3) := by decide +kernel
theorem dL_kept_319 : decode cL_kept 319 = .ok (.lcmp, 1) := by decide +kernel
theorem dL_kept_320 : decode cL_kept 320 = .ok (.ifCond .ne 7, 3) := by decide +kernel
theorem dL_kept_323 : decode cL_kept 323 = .ok (.lconst 0, 1) := by decide +kernel
theorem dL_kept_324 : decode cL_kept 324 = .ok (.goto 37, 3) := by decide +kernel
theorem dL_kept_327 : decode cL_kept 327 = .ok (.iload 26, 2) := by decide +kernel
theorem dL_kept_329 : decode cL_kept 329 = .ok (.ifCond .ne 7, 3) := by decide +kernel
theorem dL_kept_332 : decode cL_kept 332 = .ok (.lconst 1, 1) := by decide +kernel
theorem dL_kept_333 : decode cL_kept 333 = .ok (.goto 28, 3) := by decide +kernel
theorem dL_kept_336 : decode cL_kept 336 = .ok (.iload 25, 2) := by decide +kernel
theorem dL_kept_338 : decode cL_kept 338 = .ok (.ifCond .eq 9, 3) := by decide +kernel
theorem dL_kept_341 : decode cL_kept 341 = .ok (.ldc2_w 218, 3) := by decide +kernel
theorem dL_kept_344 : decode cL_kept 344 = .ok (.goto 17, 3) := by decide +kernel
theorem dL_kept_347 : decode cL_kept 347 = .ok (.iload 27, 2) := by decide +kernel
theorem dL_kept_349 : decode cL_kept 349 = .ok (.ifCond .eq 9, 3) := by decide +kernel
theorem dL_kept_352 : decode cL_kept 352 = .ok (.ldc2_w 216, 3) := by decide +kernel
theorem dL_kept_355 : decode cL_kept 355 = .ok (.goto 6, 3) := by decide +kernel
theorem dL_kept_358 : decode cL_kept 358 = .ok (.ldc2_w 175, 3) := by decide +kernel
theorem dL_kept_361 : decode cL_kept 361 = .ok (.lcmp, 1) := by decide +kernel
theorem dL_kept_362 : decode cL_kept 362 = .ok (.ifCond .ne 25, 3) := by decide +kernel
theorem dL_kept_365 : decode cL_kept 365 = .ok (.iload 25, 2) := by decide +kernel
theorem dL_kept_367 : decode cL_kept 367 = .ok (.ifCond .eq 16, 3) := by decide +kernel
theorem dL_kept_370 : decode cL_kept 370 = .ok (.aload_n 0, 1) := by decide +kernel
theorem dL_kept_371 : decode cL_kept 371 = .ok (.iload 14, 2) := by decide +kernel
theorem dL_kept_373 : decode cL_kept 373 = .ok (.iconst 4, 1) := by decide +kernel
theorem dL_kept_374 : decode cL_kept 374 = .ok (.invokestatic 129, 3) := by decide +kernel
theorem dL_kept_377 : decode cL_kept 377 = .ok (.lload 17, 2) := by decide +kernel
theorem dL_kept_379 : decode cL_kept 379 = .ok (.lcmp, 1) := by decide +kernel
theorem dL_kept_380 : decode cL_kept 380 = .ok (.ifCond .eq 7, 3) := by decide +kernel
theorem dL_kept_383 : decode cL_kept 383 = .ok (.iconst 1, 1) := by decide +kernel
theorem dL_kept_384 : decode cL_kept 384 = .ok (.goto 4, 3) := by decide +kernel
theorem dL_kept_387 : decode cL_kept 387 = .ok (.iconst 0, 1) := by decide +kernel
theorem dL_kept_388 : decode cL_kept 388 = .ok (.istore 13, 2) := by decide +kernel
theorem dL_kept_390 : decode cL_kept 390 = .ok (.iconst 0, 1) := by decide +kernel
theorem dL_kept_391 : decode cL_kept 391 = .ok (.istore 28, 2) := by decide +kernel
theorem dL_kept_393 : decode cL_kept 393 = .ok (.iload 28, 2) := by decide +kernel
theorem dL_kept_395 : decode cL_kept 395 = .ok (.iconst 4, 1) := by decide +kernel
theorem dL_kept_396 : decode cL_kept 396 = .ok (.if_icmp .ge 94, 3) := by decide +kernel
theorem dL_kept_399 : decode cL_kept 399 = .ok (.iload 13, 2) := by decide +kernel
theorem dL_kept_401 : decode cL_kept 401 = .ok (.ifCond .eq 89, 3) := by decide +kernel
theorem dL_kept_404 : decode cL_kept 404 = .ok (.aload_n 0, 1) := by decide +kernel
theorem dL_kept_405 : decode cL_kept 405 = .ok (.iload 14, 2) := by decide +kernel
theorem dL_kept_407 : decode cL_kept 407 = .ok (.iload 28, 2) := by decide +kernel
theorem dL_kept_409 : decode cL_kept 409 = .ok (.invokestatic 136, 3) := by decide +kernel
theorem dL_kept_412 : decode cL_kept 412 = .ok (.ldc2_w 173, 3) := by decide +kernel
theorem dL_kept_415 : decode cL_kept 415 = .ok (.lcmp, 1) := by decide +kernel
theorem dL_kept_416 : decode cL_kept 416 = .ok (.ifCond .ne 7, 3) := by decide +kernel
theorem dL_kept_419 : decode cL_kept 419 = .ok (.iconst 1, 1) := by decide +kernel
theorem dL_kept_420 : decode cL_kept 420 = .ok (.goto 4, 3) := by decide +kernel
theorem dL_kept_423 : decode cL_kept 423 = .ok (.iconst 0, 1) := by decide +kernel
theorem dL_kept_424 : decode cL_kept 424 = .ok (.iload 28, 2) := by decide +kernel
theorem dL_kept_426 : decode cL_kept 426 = .ok (.i2l, 1) := by decide +kernel
theorem dL_kept_427 : decode cL_kept 427 = .ok (.lload 21, 2) := by decide +kernel
theorem dL_kept_429 : decode cL_kept 429 = .ok (.lcmp, 1) := by decide +kernel
theorem dL_kept_430 : decode cL_kept 430 = .ok (.ifCond .lt 7, 3) := by decide +kernel
theorem dL_kept_433 : decode cL_kept 433 = .ok (.iconst 1, 1) := by decide +kernel
theorem dL_kept_434 : decode cL_kept 434 = .ok (.goto 4, 3) := by decide +kernel
theorem dL_kept_437 : decode cL_kept 437 = .ok (.iconst 0, 1) := by decide +kernel
theorem dL_kept_438 : decode cL_kept 438 = .ok (.if_icmp .ne 43, 3) := by decide +kernel
theorem dL_kept_441 : decode cL_kept 441 = .ok (.iload 28, 2) := by decide +kernel
theorem dL_kept_443 : decode cL_kept 443 = .ok (.ifCond .eq 34, 3) := by decide +kernel
theorem dL_kept_446 : decode cL_kept 446 = .ok (.iload 28, 2) := by decide +kernel
theorem dL_kept_448 : decode cL_kept 448 = .ok (.i2l, 1) := by decide +kernel
theorem dL_kept_449 : decode cL_kept 449 = .ok (.lload 21, 2) := by decide +kernel
theorem dL_kept_451 : decode cL_kept 451 = .ok (.lcmp, 1) := by decide +kernel
theorem dL_kept_452 : decode cL_kept 452 = .ok (.ifCond .ge 25, 3) := by decide +kernel
theorem dL_kept_455 : decode cL_kept 455 = .ok (.aload_n 0, 1) := by decide +kernel
theorem dL_kept_456 : decode cL_kept 456 = .ok (.iload 14, 2) := by decide +kernel
theorem dL_kept_458 : decode cL_kept 458 = .ok (.iload 28, 2) := by decide +kernel
theorem dL_kept_460 : decode cL_kept 460 = .ok (.invokestatic 136, 3) := by decide +kernel
theorem dL_kept_463 : decode cL_kept 463 = .ok (.aload_n 0, 1) := by decide +kernel
theorem dL_kept_464 : decode cL_kept 464 = .ok (.iload 14, 2) := by decide +kernel
theorem dL_kept_466 : decode cL_kept 466 = .ok (.iload 28, 2) := by decide +kernel
theorem dL_kept_468 : decode cL_kept 468 = .ok (.iconst 1, 1) := by decide +kernel
theorem dL_kept_469 : decode cL_kept 469 = .ok (.isub, 1) := by decide +kernel
theorem dL_kept_470 : decode cL_kept 470 = .ok (.invokestatic 136, 3) := by decide +kernel
theorem dL_kept_473 : decode cL_kept 473 = .ok (.lcmp, 1) := by decide +kernel
theorem dL_kept_474 : decode cL_kept 474 = .ok (.ifCond .lt 7, 3) := by decide +kernel
theorem dL_kept_477 : decode cL_kept 477 = .ok (.iconst 1, 1) := by decide +kernel
theorem dL_kept_478 : decode cL_kept 478 = .ok (.goto 4, 3) := by decide +kernel
theorem dL_kept_481 : decode cL_kept 481 = .ok (.iconst 0, 1) := by decide +kernel
theorem dL_kept_482 : decode cL_kept 482 = .ok (.istore 13, 2) := by decide +kernel
theorem dL_kept_484 : decode cL_kept 484 = .ok (.iinc 28 1, 3) := by decide +kernel
theorem dL_kept_487 : decode cL_kept 487 = .ok (.goto (-94), 3) := by decide +kernel
theorem dL_kept_490 : decode cL_kept 490 = .ok (.iload 13, 2) := by decide +kernel
theorem dL_kept_492 : decode cL_kept 492 = .ok (.ifCond .eq 87, 3) := by decide +kernel
theorem dL_kept_495 : decode cL_kept 495 = .ok (.lload 17, 2) := by decide +kernel
theorem dL_kept_497 : decode cL_kept 497 = .ok (.ldc2_w 173, 3) := by decide +kernel
theorem dL_kept_500 : decode cL_kept 500 = .ok (.lcmp, 1) := by decide +kernel
theorem dL_kept_501 : decode cL_kept 501 = .ok (.ifCond .ne 78, 3) := by decide +kernel
theorem dL_kept_504 : decode cL_kept 504 = .ok (.aload_n 0, 1) := by decide +kernel
theorem dL_kept_505 : decode cL_kept 505 = .ok (.iload 14, 2) := by decide +kernel
theorem dL_kept_507 : decode cL_kept 507 = .ok (.iload 14, 2) := by decide +kernel
theorem dL_kept_509 : decode cL_kept 509 = .ok (.bipush 10, 2) := by decide +kernel
theorem dL_kept_511 : decode cL_kept 511 = .ok (.if_icmp .ge 7, 3) := by decide +kernel
theorem dL_kept_514 : decode cL_kept 514 = .ok (.iconst 3, 1) := by decide +kernel
theorem dL_kept_515 : decode cL_kept 515 = .ok (.goto 4, 3) := by decide +kernel
theorem dL_kept_518 : decode cL_kept 518 = .ok (.iconst 4, 1) := by decide +kernel
theorem dL_kept_519 : decode cL_kept 519 = .ok (.invokestatic 142, 3) := by decide +kernel
theorem dL_kept_522 : decode cL_kept 522 = .ok (.ldc2_w 208, 3) := by decide +kernel
theorem dL_kept_525 : decode cL_kept 525 = .ok (.lcmp, 1) := by decide +kernel
theorem dL_kept_526 : decode cL_kept 526 = .ok (.ifCond .ne 47, 3) := by decide +kernel
theorem dL_kept_529 : decode cL_kept 529 = .ok (.aload_n 0, 1) := by decide +kernel
theorem dL_kept_530 : decode cL_kept 530 = .ok (.iload 14, 2) := by decide +kernel
theorem dL_kept_532 : decode cL_kept 532 = .ok (.iload 14, 2) := by decide +kernel
theorem dL_kept_534 : decode cL_kept 534 = .ok (.bipush 10, 2) := by decide +kernel
theorem dL_kept_536 : decode cL_kept 536 = .ok (.if_icmp .ge 8, 3) := by decide +kernel
theorem dL_kept_539 : decode cL_kept 539 = .ok (.bipush 7, 2) := by decide +kernel
theorem dL_kept_541 : decode cL_kept 541 = .ok (.goto 5, 3) := by decide +kernel
theorem dL_kept_544 : decode cL_kept 544 = .ok (.bipush 8, 2) := by decide +kernel
theorem dL_kept_546 : decode cL_kept 546 = .ok (.invokestatic 142, 3) := by decide +kernel
theorem dL_kept_549 : decode cL_kept 549 = .ok (.ldc2_w 173, 3) := by decide +kernel
theorem dL_kept_552 : decode cL_kept 552 = .ok (.lcmp, 1) := by decide +kernel
theorem dL_kept_553 : decode cL_kept 553 = .ok (.ifCond .ne 20, 3) := by decide +kernel
theorem dL_kept_556 : decode cL_kept 556 = .ok (.aload_n 0, 1) := by decide +kernel
theorem dL_kept_557 : decode cL_kept 557 = .ok (.iload 14, 2) := by decide +kernel
theorem dL_kept_559 : decode cL_kept 559 = .ok (.invokestatic 167, 3) := by decide +kernel
theorem dL_kept_562 : decode cL_kept 562 = .ok (.ldc2_w 173, 3) := by decide +kernel
theorem dL_kept_565 : decode cL_kept 565 = .ok (.lcmp, 1) := by decide +kernel
theorem dL_kept_566 : decode cL_kept 566 = .ok (.ifCond .ne 7, 3) := by decide +kernel
theorem dL_kept_569 : decode cL_kept 569 = .ok (.iconst 1, 1) := by decide +kernel
theorem dL_kept_570 : decode cL_kept 570 = .ok (.goto 4, 3) := by decide +kernel
theorem dL_kept_573 : decode cL_kept 573 = .ok (.iconst 0, 1) := by decide +kernel
theorem dL_kept_574 : decode cL_kept 574 = .ok (.istore 13, 2) := by decide +kernel
theorem dL_kept_576 : decode cL_kept 576 = .ok (.goto 108, 3) := by decide +kernel
theorem dL_kept_579 : decode cL_kept 579 = .ok (.iload 13, 2) := by decide +kernel
theorem dL_kept_581 : decode cL_kept 581 = .ok (.ifCond .eq 103, 3) := by decide +kernel
theorem dL_kept_584 : decode cL_kept 584 = .ok (.aload_n 0, 1) := by decide +kernel
theorem dL_kept_585 : decode cL_kept 585 = .ok (.iload 14, 2) := by decide +kernel
theorem dL_kept_587 : decode cL_kept 587 = .ok (.invokestatic 220, 3) := by decide +kernel
theorem dL_kept_590 : decode cL_kept 590 = .ok (.ldc2_w 206, 3) := by decide +kernel
theorem dL_kept_593 : decode cL_kept 593 = .ok (.ldc2_w 206, 3) := by decide +kernel
theorem dL_kept_596 : decode cL_kept 596 = .ok (.ldc2_w 206, 3) := by decide +kernel
theorem dL_kept_599 : decode cL_kept 599 = .ok (.ldc2_w 206, 3) := by decide +kernel
theorem dL_kept_602 : decode cL_kept 602 = .ok (.iload 14, 2) := by decide +kernel
theorem dL_kept_604 : decode cL_kept 604 = .ok (.i2l, 1) := by decide +kernel
theorem dL_kept_605 : decode cL_kept 605 = .ok (.lmul, 1) := by decide +kernel
theorem dL_kept_606 : decode cL_kept 606 = .ok (.lload 17, 2) := by decide +kernel
theorem dL_kept_608 : decode cL_kept 608 = .ok (.ladd, 1) := by decide +kernel
theorem dL_kept_609 : decode cL_kept 609 = .ok (.lmul, 1) := by decide +kernel
theorem dL_kept_610 : decode cL_kept 610 = .ok (.lload 21, 2) := by decide +kernel
theorem dL_kept_612 : decode cL_kept 612 = .ok (.ladd, 1) := by decide +kernel
theorem dL_kept_613 : decode cL_kept 613 = .ok (.lmul, 1) := by decide +kernel
theorem dL_kept_614 : decode cL_kept 614 = .ok (.aload_n 0, 1) := by decide +kernel
theorem dL_kept_615 : decode cL_kept 615 = .ok (.iload 14, 2) := by decide +kernel
theorem dL_kept_617 : decode cL_kept 617 = .ok (.bipush 6, 2) := by decide +kernel
theorem dL_kept_619 : decode cL_kept 619 = .ok (.idiv, 1) := by decide +kernel
theorem dL_kept_620 : decode cL_kept 620 = .ok (.invokestatic 127, 3) := by decide +kernel
theorem dL_kept_623 : decode cL_kept 623 = .ok (.ladd, 1) := by decide +kernel
theorem dL_kept_624 : decode cL_kept 624 = .ok (.lmul, 1) := by decide +kernel
theorem dL_kept_625 : decode cL_kept 625 = .ok (.lload 19, 2) := by decide +kernel
theorem dL_kept_627 : decode cL_kept 627 = .ok (.ladd, 1) := by decide +kernel
theorem dL_kept_628 : decode cL_kept 628 = .ok (.lcmp, 1) := by decide +kernel
theorem dL_kept_629 : decode cL_kept 629 = .ok (.ifCond .ne 52, 3) := by decide +kernel
theorem dL_kept_632 : decode cL_kept 632 = .ok (.aload_n 0, 1) := by decide +kernel
theorem dL_kept_633 : decode cL_kept 633 = .ok (.iload 14, 2) := by decide +kernel
theorem dL_kept_635 : decode cL_kept 635 = .ok (.invokestatic 167, 3) := by decide +kernel
theorem dL_kept_638 : decode cL_kept 638 = .ok (.lload_n 1, 1) := by decide +kernel
theorem dL_kept_639 : decode cL_kept 639 = .ok (.lcmp, 1) := by decide +kernel
theorem dL_kept_640 : decode cL_kept 640 = .ok (.ifCond .lt 41, 3) := by decide +kernel
theorem dL_kept_643 : decode cL_kept 643 = .ok (.aload_n 0, 1) := by decide +kernel
theorem dL_kept_644 : decode cL_kept 644 = .ok (.iload 14, 2) := by decide +kernel
theorem dL_kept_646 : decode cL_kept 646 = .ok (.invokestatic 167, 3) := by decide +kernel
theorem dL_kept_649 : decode cL_kept 649 = .ok (.lload_n 1, 1) := by decide +kernel
theorem dL_kept_650 : decode cL_kept 650 = .ok (.lcmp, 1) := by decide +kernel
theorem dL_kept_651 : decode cL_kept 651 = .ok (.ifCond .ne 7, 3) := by decide +kernel
theorem dL_kept_654 : decode cL_kept 654 = .ok (.iconst 1, 1) := by decide +kernel
theorem dL_kept_655 : decode cL_kept 655 = .ok (.goto 4, 3) := by decide +kernel
theorem dL_kept_658 : decode cL_kept 658 = .ok (.iconst 0, 1) := by decide +kernel
theorem dL_kept_659 : decode cL_kept 659 = .ok (.iload 26, 2) := by decide +kernel
theorem dL_kept_661 : decode cL_kept 661 = .ok (.ifCond .eq 12, 3) := by decide +kernel
theorem dL_kept_664 : decode cL_kept 664 = .ok (.iload 27, 2) := by decide +kernel
theorem dL_kept_666 : decode cL_kept 666 = .ok (.ifCond .ne 7, 3) := by decide +kernel
theorem dL_kept_669 : decode cL_kept 669 = .ok (.iconst 1, 1) := by decide +kernel
theorem dL_kept_670 : decode cL_kept 670 = .ok (.goto 4, 3) := by decide +kernel
theorem dL_kept_673 : decode cL_kept 673 = .ok (.iconst 0, 1) := by decide +kernel
theorem dL_kept_674 : decode cL_kept 674 = .ok (.if_icmp .ne 7, 3) := by decide +kernel
theorem dL_kept_677 : decode cL_kept 677 = .ok (.iconst 1, 1) := by decide +kernel
theorem dL_kept_678 : decode cL_kept 678 = .ok (.goto 4, 3) := by decide +kernel
theorem dL_kept_681 : decode cL_kept 681 = .ok (.iconst 0, 1) := by decide +kernel
theorem dL_kept_682 : decode cL_kept 682 = .ok (.istore 13, 2) := by decide +kernel
theorem dL_kept_684 : decode cL_kept 684 = .ok (.iinc 14 1, 3) := by decide +kernel
theorem dL_kept_687 : decode cL_kept 687 = .ok (.goto (-661), 3) := by decide +kernel
theorem dL_kept_690 : decode cL_kept 690 = .ok (.lconst 0, 1) := by decide +kernel
theorem dL_kept_691 : decode cL_kept 691 = .ok (.lstore 14, 2) := by decide +kernel
theorem dL_kept_693 : decode cL_kept 693 = .ok (.lconst 0, 1) := by decide +kernel
theorem dL_kept_694 : decode cL_kept 694 = .ok (.lstore 16, 2) := by decide +kernel
theorem dL_kept_696 : decode cL_kept 696 = .ok (.lconst 0, 1) := by decide +kernel
theorem dL_kept_697 : decode cL_kept 697 = .ok (.lstore 18, 2) := by decide +kernel
theorem dL_kept_699 : decode cL_kept 699 = .ok (.lconst 0, 1) := by decide +kernel
theorem dL_kept_700 : decode cL_kept 700 = .ok (.lstore 20, 2) := by decide +kernel
theorem dL_kept_702 : decode cL_kept 702 = .ok (.iconst 0, 1) := by decide +kernel
theorem dL_kept_703 : decode cL_kept 703 = .ok (.istore 22, 2) := by decide +kernel
theorem dL_kept_705 : decode cL_kept 705 = .ok (.iload 22, 2) := by decide +kernel
theorem dL_kept_707 : decode cL_kept 707 = .ok (.bipush 10, 2) := by decide +kernel
theorem dL_kept_709 : decode cL_kept 709 = .ok (.if_icmp .ge 192, 3) := by decide +kernel
theorem dL_kept_712 : decode cL_kept 712 = .ok (.iload 13, 2) := by decide +kernel
theorem dL_kept_714 : decode cL_kept 714 = .ok (.ifCond .eq 187, 3) := by decide +kernel
theorem dL_kept_717 : decode cL_kept 717 = .ok (.lload 14, 2) := by decide +kernel
theorem dL_kept_719 : decode cL_kept 719 = .ok (.aload_n 0, 1) := by decide +kernel
theorem dL_kept_720 : decode cL_kept 720 = .ok (.iload 22, 2) := by decide +kernel
theorem dL_kept_722 : decode cL_kept 722 = .ok (.iconst 0, 1) := by decide +kernel
theorem dL_kept_723 : decode cL_kept 723 = .ok (.invokestatic 132, 3) := by decide +kernel
theorem dL_kept_726 : decode cL_kept 726 = .ok (.ladd, 1) := by decide +kernel
theorem dL_kept_727 : decode cL_kept 727 = .ok (.lstore 14, 2) := by decide +kernel
theorem dL_kept_729 : decode cL_kept 729 = .ok (.lload 16, 2) := by decide +kernel
theorem dL_kept_731 : decode cL_kept 731 = .ok (.aload_n 0, 1) := by decide +kernel
theorem dL_kept_732 : decode cL_kept 732 = .ok (.iload 22, 2) := by decide +kernel
theorem dL_kept_734 : decode cL_kept 734 = .ok (.iconst 1, 1) := by decide +kernel
theorem dL_kept_735 : decode cL_kept 735 = .ok (.invokestatic 132, 3) := by decide +kernel
theorem dL_kept_738 : decode cL_kept 738 = .ok (.ladd, 1) := by decide +kernel
theorem dL_kept_739 : decode cL_kept 739 = .ok (.lstore 16, 2) := by decide +kernel
theorem dL_kept_741 : decode cL_kept 741 = .ok (.lload 20, 2) := by decide +kernel
theorem dL_kept_743 : decode cL_kept 743 = .ok (.aload_n 0, 1) := by decide +kernel
theorem dL_kept_744 : decode cL_kept 744 = .ok (.iload 22, 2) := by decide +kernel
theorem dL_kept_746 : decode cL_kept 746 = .ok (.iconst 2, 1) := by decide +kernel
theorem dL_kept_747 : decode cL_kept 747 = .ok (.invokestatic 132, 3) := by decide +kernel
theorem dL_kept_750 : decode cL_kept 750 = .ok (.ladd, 1) := by decide +kernel
theorem dL_kept_751 : decode cL_kept 751 = .ok (.lstore 20, 2) := by decide +kernel
theorem dL_kept_753 : decode cL_kept 753 = .ok (.lload 18, 2) := by decide +kernel
theorem dL_kept_755 : decode cL_kept 755 = .ok (.aload_n 0, 1) := by decide +kernel
theorem dL_kept_756 : decode cL_kept 756 = .ok (.iload 22, 2) := by decide +kernel
theorem dL_kept_758 : decode cL_kept 758 = .ok (.iconst 5, 1) := by decide +kernel
theorem dL_kept_759 : decode cL_kept 759 = .ok (.invokestatic 132, 3) := by decide +kernel
theorem dL_kept_762 : decode cL_kept 762 = .ok (.ladd, 1) := by decide +kernel
theorem dL_kept_763 : decode cL_kept 763 = .ok (.lstore 18, 2) := by decide +kernel
theorem dL_kept_765 : decode cL_kept 765 = .ok (.aload_n 0, 1) := by decide +kernel
theorem dL_kept_766 : decode cL_kept 766 = .ok (.iload 22, 2) := by decide +kernel
theorem dL_kept_768 : decode cL_kept 768 = .ok (.iconst 3, 1) := by decide +kernel
theorem dL_kept_769 : decode cL_kept 769 = .ok (.invokestatic 132, 3) := by decide +kernel
theorem dL_kept_772 : decode cL_kept 772 = .ok (.lstore 23, 2) := by decide +kernel
theorem dL_kept_774 : decode cL_kept 774 = .ok (.lload 23, 2) := by decide +kernel
theorem dL_kept_776 : decode cL_kept 776 = .ok (.ldc2_w 173, 3) := by decide +kernel
theorem dL_kept_779 : decode cL_kept 779 = .ok (.lcmp, 1) := by decide +kernel
theorem dL_kept_780 : decode cL_kept 780 = .ok (.ifCond .ne 7, 3) := by decide +kernel
theorem dL_kept_783 : decode cL_kept 783 = .ok (.iconst 1, 1) := by decide +kernel
theorem dL_kept_784 : decode cL_kept 784 = .ok (.goto 4, 3) := by decide +kernel
theorem dL_kept_787 : decode cL_kept 787 = .ok (.iconst 0, 1) := by decide +kernel
theorem dL_kept_788 : decode cL_kept 788 = .ok (.aload_n 0, 1) := by decide +kernel
theorem dL_kept_789 : decode cL_kept 789 = .ok (.iload 22, 2) := by decide +kernel
theorem dL_kept_791 : decode cL_kept 791 = .ok (.iconst 2, 1) := by decide +kernel
theorem dL_kept_792 : decode cL_kept 792 = .ok (.invokestatic 132, 3) := by decide +kernel
theorem dL_kept_795 : decode cL_kept 795 = .ok (.lconst 0, 1) := by decide +kernel
theorem dL_kept_796 : decode cL_kept 796 = .ok (.lcmp, 1) := by decide +kernel
theorem dL_kept_797 : decode cL_kept 797 = .ok (.ifCond .ne 7, 3) := by decide +kernel
theorem dL_kept_800 : decode cL_kept 800 = .ok (.iconst 1, 1) := by decide +kernel
theorem dL_kept_801 : decode cL_kept 801 = .ok (.goto 4, 3) := by decide +kernel
theorem dL_kept_804 : decode cL_kept 804 = .ok (.iconst 0, 1) := by decide +kernel
theorem dL_kept_805 : decode cL_kept 805 = .ok (.if_icmp .ne 87, 3) := by decide +kernel
theorem dL_kept_808 : decode cL_kept 808 = .ok (.lload 23, 2) := by decide +kernel
theorem dL_kept_810 : decode cL_kept 810 = .ok (.ldc2_w 173, 3) := by decide +kernel
theorem dL_kept_813 : decode cL_kept 813 = .ok (.lcmp, 1) := by decide +kernel
theorem dL_kept_814 : decode cL_kept 814 = .ok (.ifCond .eq 17, 3) := by decide +kernel
theorem dL_kept_817 : decode cL_kept 817 = .ok (.aload_n 0, 1) := by decide +kernel
theorem dL_kept_818 : decode cL_kept 818 = .ok (.lload 23, 2) := by decide +kernel
theorem dL_kept_820 : decode cL_kept 820 = .ok (.l2i, 1) := by decide +kernel
theorem dL_kept_821 : decode cL_kept 821 = .ok (.invokestatic 134, 3) := by decide +kernel
theorem dL_kept_824 : decode cL_kept 824 = .ok (.iload 22, 2) := by decide +kernel
theorem dL_kept_826 : decode cL_kept 826 = .ok (.i2l, 1) := by decide +kernel
theorem dL_kept_827 : decode cL_kept 827 = .ok (.lcmp, 1) := by decide +kernel
theorem dL_kept_828 : decode cL_kept 828 = .ok (.ifCond .ne 64, 3) := by decide +kernel
theorem dL_kept_831 : decode cL_kept 831 = .ok (.aload_n 0, 1) := by decide +kernel
theorem dL_kept_832 : decode cL_kept 832 = .ok (.iload 22, 2) := by decide +kernel
theorem dL_kept_834 : decode cL_kept 834 = .ok (.invokestatic 165, 3) := by decide +kernel
theorem dL_kept_837 : decode cL_kept 837 = .ok (.ldc2_w 173, 3) := by decide +kernel
theorem dL_kept_840 : decode cL_kept 840 = .ok (.lcmp, 1) := by decide +kernel
theorem dL_kept_841 : decode cL_kept 841 = .ok (.ifCond .ne 7, 3) := by decide +kernel
theorem dL_kept_844 : decode cL_kept 844 = .ok (.iconst 1, 1) := by decide +kernel
theorem dL_kept_845 : decode cL_kept 845 = .ok (.goto 4, 3) := by decide +kernel
theorem dL_kept_848 : decode cL_kept 848 = .ok (.iconst 0, 1) := by decide +kernel
theorem dL_kept_849 : decode cL_kept 849 = .ok (.lload_n 3, 1) := by decide +kernel
theorem dL_kept_850 : decode cL_kept 850 = .ok (.lconst 0, 1) := by decide +kernel
theorem dL_kept_851 : decode cL_kept 851 = .ok (.lcmp, 1) := by decide +kernel
theorem dL_kept_852 : decode cL_kept 852 = .ok (.ifCond .ne 7, 3) := by decide +kernel
theorem dL_kept_855 : decode cL_kept 855 = .ok (.iconst 1, 1) := by decide +kernel
theorem dL_kept_856 : decode cL_kept 856 = .ok (.goto 4, 3) := by decide +kernel
theorem dL_kept_859 : decode cL_kept 859 = .ok (.iconst 0, 1) := by decide +kernel
theorem dL_kept_860 : decode cL_kept 860 = .ok (.if_icmp .ne 32, 3) := by decide +kernel
theorem dL_kept_863 : decode cL_kept 863 = .ok (.lload_n 3, 1) := by decide +kernel
theorem dL_kept_864 : decode cL_kept 864 = .ok (.lconst 0, 1) := by decide +kernel
theorem dL_kept_865 : decode cL_kept 865 = .ok (.lcmp, 1) := by decide +kernel
theorem dL_kept_866 : decode cL_kept 866 = .ok (.ifCond .eq 22, 3) := by decide +kernel
theorem dL_kept_869 : decode cL_kept 869 = .ok (.aload_n 0, 1) := by decide +kernel
theorem dL_kept_870 : decode cL_kept 870 = .ok (.aload_n 0, 1) := by decide +kernel
theorem dL_kept_871 : decode cL_kept 871 = .ok (.iload 22, 2) := by decide +kernel
theorem dL_kept_873 : decode cL_kept 873 = .ok (.invokestatic 165, 3) := by decide +kernel
theorem dL_kept_876 : decode cL_kept 876 = .ok (.l2i, 1) := by decide +kernel
theorem dL_kept_877 : decode cL_kept 877 = .ok (.iconst 0, 1) := by decide +kernel
theorem dL_kept_878 : decode cL_kept 878 = .ok (.invokestatic 129, 3) := by decide +kernel
theorem dL_kept_881 : decode cL_kept 881 = .ok (.ldc2_w 173, 3) := by decide +kernel
theorem dL_kept_884 : decode cL_kept 884 = .ok (.lcmp, 1) := by decide +kernel
theorem dL_kept_885 : decode cL_kept 885 = .ok (.ifCond .ne 7, 3) := by decide +kernel
theorem dL_kept_888 : decode cL_kept 888 = .ok (.iconst 1, 1) := by decide +kernel
theorem dL_kept_889 : decode cL_kept 889 = .ok (.goto 4, 3) := by decide +kernel
theorem dL_kept_892 : decode cL_kept 892 = .ok (.iconst 0, 1) := by decide +kernel
theorem dL_kept_893 : decode cL_kept 893 = .ok (.istore 13, 2) := by decide +kernel
theorem dL_kept_895 : decode cL_kept 895 = .ok (.iinc 22 1, 3) := by decide +kernel
theorem dL_kept_898 : decode cL_kept 898 = .ok (.goto (-193), 3) := by decide +kernel
theorem dL_kept_901 : decode cL_kept 901 = .ok (.iload 13, 2) := by decide +kernel
theorem dL_kept_903 : decode cL_kept 903 = .ok (.ifCond .eq 118, 3) := by decide +kernel
theorem dL_kept_906 : decode cL_kept 906 = .ok (.lload_n 3, 1) := by decide +kernel
theorem dL_kept_907 : decode cL_kept 907 = .ok (.aload_n 0, 1) := by decide +kernel
theorem dL_kept_908 : decode cL_kept 908 = .ok (.iconst 1, 1) := by decide +kernel
theorem dL_kept_909 : decode cL_kept 909 = .ok (.invokestatic 120, 3) := by decide +kernel
theorem dL_kept_912 : decode cL_kept 912 = .ok (.lcmp, 1) := by decide +kernel
theorem dL_kept_913 : decode cL_kept 913 = .ok (.ifCond .ne 108, 3) := by decide +kernel
theorem dL_kept_916 : decode cL_kept 916 = .ok (.lload 5, 2) := by decide +kernel
theorem dL_kept_918 : decode cL_kept 918 = .ok (.aload_n 0, 1) := by decide +kernel
theorem dL_kept_919 : decode cL_kept 919 = .ok (.iconst 2, 1) := by decide +kernel
theorem dL_kept_920 : decode cL_kept 920 = .ok (.invokestatic 120, 3) := by decide +kernel
theorem dL_kept_923 : decode cL_kept 923 = .ok (.lcmp, 1) := by decide +kernel
theorem dL_kept_924 : decode cL_kept 924 = .ok (.ifCond .ne 97, 3) := by decide +kernel
theorem dL_kept_927 : decode cL_kept 927 = .ok (.lload 7, 2) := by decide +kernel
theorem dL_kept_929 : decode cL_kept 929 = .ok (.aload_n 0, 1) := by decide +kernel
theorem dL_kept_930 : decode cL_kept 930 = .ok (.iconst 3, 1) := by decide +kernel
theorem dL_kept_931 : decode cL_kept 931 = .ok (.invokestatic 120, 3) := by decide +kernel
theorem dL_kept_934 : decode cL_kept 934 = .ok (.lcmp, 1) := by decide +kernel
theorem dL_kept_935 : decode cL_kept 935 = .ok (.ifCond .ne 86, 3) := by decide +kernel
theorem dL_kept_938 : decode cL_kept 938 = .ok (.lload 9, 2) := by decide +kernel
theorem dL_kept_940 : decode cL_kept 940 = .ok (.aload_n 0, 1) := by decide +kernel
theorem dL_kept_941 : decode cL_kept 941 = .ok (.iconst 4, 1) := by decide +kernel
theorem dL_kept_942 : decode cL_kept 942 = .ok (.invokestatic 120, 3) := by decide +kernel
theorem dL_kept_945 : decode cL_kept 945 = .ok (.lcmp, 1) := by decide +kernel
theorem dL_kept_946 : decode cL_kept 946 = .ok (.ifCond .ne 75, 3) := by decide +kernel
theorem dL_kept_949 : decode cL_kept 949 = .ok (.lload 11, 2) := by decide +kernel
theorem dL_kept_951 : decode cL_kept 951 = .ok (.aload_n 0, 1) := by decide +kernel
theorem dL_kept_952 : decode cL_kept 952 = .ok (.bipush 6, 2) := by decide +kernel
theorem dL_kept_954 : decode cL_kept 954 = .ok (.invokestatic 120, 3) := by decide +kernel
theorem dL_kept_957 : decode cL_kept 957 = .ok (.lcmp, 1) := by decide +kernel
theorem dL_kept_958 : decode cL_kept 958 = .ok (.ifCond .ne 63, 3) := by decide +kernel
theorem dL_kept_961 : decode cL_kept 961 = .ok (.lload 14, 2) := by decide +kernel
theorem dL_kept_963 : decode cL_kept 963 = .ok (.ldc2_w 223, 3) := by decide +kernel
theorem dL_kept_966 : decode cL_kept 966 = .ok (.lload_n 3, 1) := by decide +kernel
theorem dL_kept_967 : decode cL_kept 967 = .ok (.lsub, 1) := by decide +kernel
theorem dL_kept_968 : decode cL_kept 968 = .ok (.lcmp, 1) := by decide +kernel
theorem dL_kept_969 : decode cL_kept 969 = .ok (.ifCond .ne 52, 3) := by decide +kernel
theorem dL_kept_972 : decode cL_kept 972 = .ok (.lload 16, 2) := by decide +kernel
theorem dL_kept_974 : decode cL_kept 974 = .ok (.lload 11, 2) := by decide +kernel
theorem dL_kept_976 : decode cL_kept 976 = .ok (.lcmp, 1) := by decide +kernel
theorem dL_kept_977 : decode cL_kept 977 = .ok (.ifCond .ne 44, 3) := by decide +kernel
theorem dL_kept_980 : decode cL_kept 980 = .ok (.lload 18, 2) := by decide +kernel
theorem dL_kept_982 : decode cL_kept 982 = .ok (.aload_n 0, 1) := by decide +kernel
theorem dL_kept_983 : decode cL_kept 983 = .ok (.bipush 8, 2) := by decide +kernel
theorem dL_kept_985 : decode cL_kept 985 = .ok (.invokestatic 120, 3) := by decide +kernel
theorem dL_kept_988 : decode cL_kept 988 = .ok (.lcmp, 1) := by decide +kernel
theorem dL_kept_989 : decode cL_kept 989 = .ok (.ifCond .ne 32, 3) := by decide +kernel
theorem dL_kept_992 : decode cL_kept 992 = .ok (.lload 20, 2) := by decide +kernel
theorem dL_kept_994 : decode cL_kept 994 = .ok (.aload_n 0, 1) := by decide +kernel
theorem dL_kept_995 : decode cL_kept 995 = .ok (.iconst 5, 1) := by decide +kernel
theorem dL_kept_996 : decode cL_kept 996 = .ok (.invokestatic 120, 3) := by decide +kernel
theorem dL_kept_999 : decode cL_kept 999 = .ok (.lcmp, 1) := by decide +kernel
theorem dL_kept_1000 : decode cL_kept 1000 = .ok (.ifCond .ne 21, 3) := by decide +kernel
theorem dL_kept_1003 : decode cL_kept 1003 = .ok (.aload_n 0, 1) := by decide +kernel
theorem dL_kept_1004 : decode cL_kept 1004 = .ok (.lload 20, 2) := by decide +kernel
theorem dL_kept_1006 : decode cL_kept 1006 = .ok (.l2i, 1) := by decide +kernel
theorem dL_kept_1007 : decode cL_kept 1007 = .ok (.invokestatic 134, 3) := by decide +kernel
theorem dL_kept_1010 : decode cL_kept 1010 = .ok (.ldc2_w 173, 3) := by decide +kernel
theorem dL_kept_1013 : decode cL_kept 1013 = .ok (.lcmp, 1) := by decide +kernel
theorem dL_kept_1014 : decode cL_kept 1014 = .ok (.ifCond .ne 7, 3) := by decide +kernel
theorem dL_kept_1017 : decode cL_kept 1017 = .ok (.iconst 1, 1) := by decide +kernel
theorem dL_kept_1018 : decode cL_kept 1018 = .ok (.goto 4, 3) := by decide +kernel
theorem dL_kept_1021 : decode cL_kept 1021 = .ok (.iconst 0, 1) := by decide +kernel
theorem dL_kept_1022 : decode cL_kept 1022 = .ok (.ireturn, 1) := by decide +kernel
theorem dL_follows_0 : decode cL_follows 0 = .ok (.aload_n 0, 1) := by decide +kernel
theorem dL_follows_1 : decode cL_follows 1 = .ok (.invokestatic 138, 3) := by decide +kernel
theorem dL_follows_4 : decode cL_follows 4 = .ok (.lstore_n 2, 1) := by decide +kernel
theorem dL_follows_5 : decode cL_follows 5 = .ok (.aload_n 0, 1) := by decide +kernel
theorem dL_follows_6 : decode cL_follows 6 = .ok (.iconst 0, 1) := by decide +kernel
theorem dL_follows_7 : decode cL_follows 7 = .ok (.invokestatic 120, 3) := by decide +kernel
theorem dL_follows_10 : decode cL_follows 10 = .ok (.lstore 4, 2) := by decide +kernel
theorem dL_follows_12 : decode cL_follows 12 = .ok (.iconst 1, 1) := by decide +kernel
theorem dL_follows_13 : decode cL_follows 13 = .ok (.iload_n 1, 1) := by decide +kernel
theorem dL_follows_14 : decode cL_follows 14 = .ok (.bipush 60, 2) := by decide +kernel
theorem dL_follows_16 : decode cL_follows 16 = .ok (.irem, 1) := by decide +kernel
theorem dL_follows_17 : decode cL_follows 17 = .ok (.iadd, 1) := by decide +kernel
theorem dL_follows_18 : decode cL_follows 18 = .ok (.istore 6, 2) := by decide +kernel
theorem dL_follows_20 : decode cL_follows 20 = .ok (.aload_n 0, 1) := by decide +kernel
theorem dL_follows_21 : decode cL_follows 21 = .ok (.iconst 1, 1) := by decide +kernel
theorem dL_follows_22 : decode cL_follows 22 = .ok (.invokestatic 188, 3) := by decide +kernel
theorem dL_follows_25 : decode cL_follows 25 = .ok (.lload 4, 2) := by decide +kernel
theorem dL_follows_27 : decode cL_follows 27 = .ok (.lcmp, 1) := by decide +kernel
theorem dL_follows_28 : decode cL_follows 28 = .ok (.ifCond .ne 34, 3) := by decide +kernel
theorem dL_follows_31 : decode cL_follows 31 = .ok (.aload_n 0, 1) := by decide +kernel
theorem dL_follows_32 : decode cL_follows 32 = .ok (.iload_n 1, 1) := by decide +kernel
theorem dL_follows_33 : decode cL_follows 33 = .ok (.i2l, 1) := by decide +kernel
theorem dL_follows_34 : decode cL_follows 34 = .ok (.iconst 5, 1) := by decide +kernel
theorem dL_follows_35 : decode cL_follows 35 = .ok (.invokestatic 185, 3) := by decide +kernel
theorem dL_follows_38 : decode cL_follows 38 = .ok (.aload_n 0, 1) := by decide +kernel
theorem dL_follows_39 : decode cL_follows 39 = .ok (.iload_n 1, 1) := by decide +kernel
theorem dL_follows_40 : decode cL_follows 40 = .ok (.i2l, 1) := by decide +kernel
theorem dL_follows_41 : decode cL_follows 41 = .ok (.iconst 5, 1) := by decide +kernel
theorem dL_follows_42 : decode cL_follows 42 = .ok (.invokestatic 185, 3) := by decide +kernel
theorem dL_follows_45 : decode cL_follows 45 = .ok (.lcmp, 1) := by decide +kernel
theorem dL_follows_46 : decode cL_follows 46 = .ok (.ifCond .ne 16, 3) := by decide +kernel
theorem dL_follows_49 : decode cL_follows 49 = .ok (.aload_n 0, 1) := by decide +kernel
theorem dL_follows_50 : decode cL_follows 50 = .ok (.invokestatic 138, 3) := by decide +kernel
theorem dL_follows_53 : decode cL_follows 53 = .ok (.lload_n 2, 1) := by decide +kernel
theorem dL_follows_54 : decode cL_follows 54 = .ok (.lcmp, 1) := by decide +kernel
theorem dL_follows_55 : decode cL_follows 55 = .ok (.ifCond .ne 7, 3) := by decide +kernel
theorem dL_follows_58 : decode cL_follows 58 = .ok (.iconst 1, 1) := by decide +kernel
theorem dL_follows_59 : decode cL_follows 59 = .ok (.goto 4, 3) := by decide +kernel
theorem dL_follows_62 : decode cL_follows 62 = .ok (.iconst 0, 1) := by decide +kernel
theorem dL_follows_63 : decode cL_follows 63 = .ok (.istore 7, 2) := by decide +kernel
theorem dL_follows_65 : decode cL_follows 65 = .ok (.aload_n 0, 1) := by decide +kernel
theorem dL_follows_66 : decode cL_follows 66 = .ok (.iload 6, 2) := by decide +kernel
theorem dL_follows_68 : decode cL_follows 68 = .ok (.iconst 0, 1) := by decide +kernel
theorem dL_follows_69 : decode cL_follows 69 = .ok (.invokestatic 169, 3) := by decide +kernel
theorem dL_follows_72 : decode cL_follows 72 = .ok (.lstore 8, 2) := by decide +kernel
theorem dL_follows_74 : decode cL_follows 74 = .ok (.aload_n 0, 1) := by decide +kernel
theorem dL_follows_75 : decode cL_follows 75 = .ok (.iload 6, 2) := by decide +kernel
theorem dL_follows_77 : decode cL_follows 77 = .ok (.iconst 1, 1) := by decide +kernel
theorem dL_follows_78 : decode cL_follows 78 = .ok (.invokestatic 169, 3) := by decide +kernel
theorem dL_follows_81 : decode cL_follows 81 = .ok (.lstore 10, 2) := by decide +kernel
theorem dL_follows_83 : decode cL_follows 83 = .ok (.aload_n 0, 1) := by decide +kernel
theorem dL_follows_84 : decode cL_follows 84 = .ok (.iload 6, 2) := by decide +kernel
theorem dL_follows_86 : decode cL_follows 86 = .ok (.iconst 2, 1) := by decide +kernel
theorem dL_follows_87 : decode cL_follows 87 = .ok (.invokestatic 169, 3) := by decide +kernel
theorem dL_follows_90 : decode cL_follows 90 = .ok (.lstore 12, 2) := by decide +kernel
theorem dL_follows_92 : decode cL_follows 92 = .ok (.aload_n 0, 1) := by decide +kernel
theorem dL_follows_93 : decode cL_follows 93 = .ok (.iload 6, 2) := by decide +kernel
theorem dL_follows_95 : decode cL_follows 95 = .ok (.iconst 3, 1) := by decide +kernel
theorem dL_follows_96 : decode cL_follows 96 = .ok (.invokestatic 169, 3) := by decide +kernel
theorem dL_follows_99 : decode cL_follows 99 = .ok (.lstore 14, 2) := by decide +kernel
theorem dL_follows_101 : decode cL_follows 101 = .ok (.aload_n 0, 1) := by decide +kernel
theorem dL_follows_102 : decode cL_follows 102 = .ok (.iconst 5, 1) := by decide +kernel
theorem dL_follows_103 : decode cL_follows 103 = .ok (.invokestatic 120, 3) := by decide +kernel
theorem dL_follows_106 : decode cL_follows 106 = .ok (.lstore 16, 2) := by decide +kernel
theorem dL_follows_108 : decode cL_follows 108 = .ok (.iload 7, 2) := by decide +kernel
theorem dL_follows_110 : decode cL_follows 110 = .ok (.ifCond .eq 99, 3) := by decide +kernel
theorem dL_follows_113 : decode cL_follows 113 = .ok (.aload_n 0, 1) := by decide +kernel
theorem dL_follows_114 : decode cL_follows 114 = .ok (.iload 6, 2) := by decide +kernel
theorem dL_follows_116 : decode cL_follows 116 = .ok (.invokestatic 161, 3) := by decide +kernel
theorem dL_follows_119 : decode cL_follows 119 = .ok (.lload 16, 2) := by decide +kernel
theorem dL_follows_121 : decode cL_follows 121 = .ok (.lload 14, 2) := by decide +kernel
theorem dL_follows_123 : decode cL_follows 123 = .ok (.lsub, 1) := by decide +kernel
theorem dL_follows_124 : decode cL_follows 124 = .ok (.lcmp, 1) := by decide +kernel
theorem dL_follows_125 : decode cL_follows 125 = .ok (.ifCond .ne 84, 3) := by decide +kernel
theorem dL_follows_128 : decode cL_follows 128 = .ok (.aload_n 0, 1) := by decide +kernel
theorem dL_follows_129 : decode cL_follows 129 = .ok (.iconst 0, 1) := by decide +kernel
theorem dL_follows_130 : decode cL_follows 130 = .ok (.invokestatic 120, 3) := by decide +kernel
theorem dL_follows_133 : decode cL_follows 133 = .ok (.lload 4, 2) := by decide +kernel
theorem dL_follows_135 : decode cL_follows 135 = .ok (.iload 6, 2) := by decide +kernel
theorem dL_follows_137 : decode cL_follows 137 = .ok (.i2l, 1) := by decide +kernel
theorem dL_follows_138 : decode cL_follows 138 = .ok (.ladd, 1) := by decide +kernel
theorem dL_follows_139 : decode cL_follows 139 = .ok (.lcmp, 1) := by decide +kernel
theorem dL_follows_140 : decode cL_follows 140 = .ok (.ifCond .ne 69, 3) := by decide +kernel
theorem dL_follows_143 : decode cL_follows 143 = .ok (.aload_n 0, 1) := by decide +kernel
theorem dL_follows_144 : decode cL_follows 144 = .ok (.iconst 1, 1) := by decide +kernel
theorem dL_follows_145 : decode cL_follows 145 = .ok (.invokestatic 120, 3) := by decide +kernel
theorem dL_follows_148 : decode cL_follows 148 = .ok (.lload 8, 2) := by decide +kernel
theorem dL_follows_150 : decode cL_follows 150 = .ok (.lcmp, 1) := by decide +kernel
theorem dL_follows_151 : decode cL_follows 151 = .ok (.ifCond .ne 58, 3) := by decide +kernel
theorem dL_follows_154 : decode cL_follows 154 = .ok (.aload_n 0, 1) := by decide +kernel
theorem dL_follows_155 : decode cL_follows 155 = .ok (.iconst 2, 1) := by decide +kernel
theorem dL_follows_156 : decode cL_follows 156 = .ok (.invokestatic 120, 3) := by decide +kernel
theorem dL_follows_159 : decode cL_follows 159 = .ok (.lload 10, 2) := by decide +kernel
theorem dL_follows_161 : decode cL_follows 161 = .ok (.lcmp, 1) := by decide +kernel
theorem dL_follows_162 : decode cL_follows 162 = .ok (.ifCond .ne 47, 3) := by decide +kernel
theorem dL_follows_165 : decode cL_follows 165 = .ok (.aload_n 0, 1) := by decide +kernel
theorem dL_follows_166 : decode cL_follows 166 = .ok (.iconst 3, 1) := by decide +kernel
theorem dL_follows_167 : decode cL_follows 167 = .ok (.invokestatic 120, 3) := by decide +kernel
theorem dL_follows_170 : decode cL_follows 170 = .ok (.lload 12, 2) := by decide +kernel
theorem dL_follows_172 : decode cL_follows 172 = .ok (.lcmp, 1) := by decide +kernel
theorem dL_follows_173 : decode cL_follows 173 = .ok (.ifCond .ne 36, 3) := by decide +kernel
theorem dL_follows_176 : decode cL_follows 176 = .ok (.aload_n 0, 1) := by decide +kernel
theorem dL_follows_177 : decode cL_follows 177 = .ok (.iconst 5, 1) := by decide +kernel
theorem dL_follows_178 : decode cL_follows 178 = .ok (.invokestatic 120, 3) := by decide +kernel
theorem dL_follows_181 : decode cL_follows 181 = .ok (.lload 14, 2) := by decide +kernel
theorem dL_follows_183 : decode cL_follows 183 = .ok (.lcmp, 1) := by decide +kernel
theorem dL_follows_184 : decode cL_follows 184 = .ok (.ifCond .ne 25, 3) := by decide +kernel
theorem dL_follows_187 : decode cL_follows 187 = .ok (.aload_n 0, 1) := by decide +kernel
theorem dL_follows_188 : decode cL_follows 188 = .ok (.invokestatic 225, 3) := by decide +kernel
theorem dL_follows_191 : decode cL_follows 191 = .ok (.lconst 0, 1) := by decide +kernel
theorem dL_follows_192 : decode cL_follows 192 = .ok (.lcmp, 1) := by decide +kernel
theorem dL_follows_193 : decode cL_follows 193 = .ok (.ifCond .lt 16, 3) := by decide +kernel
theorem dL_follows_196 : decode cL_follows 196 = .ok (.aload_n 0, 1) := by decide +kernel
theorem dL_follows_197 : decode cL_follows 197 = .ok (.invokestatic 138, 3) := by decide +kernel
theorem dL_follows_200 : decode cL_follows 200 = .ok (.lload_n 2, 1) := by decide +kernel
theorem dL_follows_201 : decode cL_follows 201 = .ok (.lcmp, 1) := by decide +kernel
theorem dL_follows_202 : decode cL_follows 202 = .ok (.ifCond .ne 7, 3) := by decide +kernel
theorem dL_follows_205 : decode cL_follows 205 = .ok (.iconst 1, 1) := by decide +kernel
theorem dL_follows_206 : decode cL_follows 206 = .ok (.goto 4, 3) := by decide +kernel
theorem dL_follows_209 : decode cL_follows 209 = .ok (.iconst 0, 1) := by decide +kernel
theorem dL_follows_210 : decode cL_follows 210 = .ok (.istore 7, 2) := by decide +kernel
theorem dL_follows_212 : decode cL_follows 212 = .ok (.iload_n 1, 1) := by decide +kernel
theorem dL_follows_213 : decode cL_follows 213 = .ok (.bipush 7, 2) := by decide +kernel
theorem dL_follows_215 : decode cL_follows 215 = .ok (.idiv, 1) := by decide +kernel
theorem dL_follows_216 : decode cL_follows 216 = .ok (.bipush 10, 2) := by decide +kernel
theorem dL_follows_218 : decode cL_follows 218 = .ok (.irem, 1) := by decide +kernel
theorem dL_follows_219 : decode cL_follows 219 = .ok (.istore 18, 2) := by decide +kernel
theorem dL_follows_221 : decode cL_follows 221 = .ok (.aload_n 0, 1) := by decide +kernel
theorem dL_follows_222 : decode cL_follows 222 = .ok (.iload 18, 2) := by decide +kernel
theorem dL_follows_224 : decode cL_follows 224 = .ok (.invokestatic 165, 3) := by decide +kernel
theorem dL_follows_227 : decode cL_follows 227 = .ok (.lstore 19, 2) := by decide +kernel
theorem dL_follows_229 : decode cL_follows 229 = .ok (.aload_n 0, 1) := by decide +kernel
theorem dL_follows_230 : decode cL_follows 230 = .ok (.iload 18, 2) := by decide +kernel
theorem dL_follows_232 : decode cL_follows 232 = .ok (.iconst 0, 1) := by decide +kernel
theorem dL_follows_233 : decode cL_follows 233 = .ok (.invokestatic 132, 3) := by decide +kernel
theorem dL_follows_236 : decode cL_follows 236 = .ok (.lstore 21, 2) := by decide +kernel
theorem dL_follows_238 : decode cL_follows 238 = .ok (.lload 19, 2) := by decide +kernel
theorem dL_follows_240 : decode cL_follows 240 = .ok (.ldc2_w 173, 3) := by decide +kernel
theorem dL_follows_243 : decode cL_follows 243 = .ok (.lcmp, 1) := by decide +kernel
theorem dL_follows_244 : decode cL_follows 244 = .ok (.ifCond .eq 138, 3) := by decide +kernel
theorem dL_follows_247 : decode cL_follows 247 = .ok (.iload 7, 2) := by decide +kernel
theorem dL_follows_249 : decode cL_follows 249 = .ok (.ifCond .eq 133, 3) := by decide +kernel
theorem dL_follows_252 : decode cL_follows 252 = .ok (.aload_n 0, 1) := by decide +kernel
theorem dL_follows_253 : decode cL_follows 253 = .ok (.iload 18, 2) := by decide +kernel
theorem dL_follows_255 : decode cL_follows 255 = .ok (.invokestatic 171, 3) := by decide +kernel
theorem dL_follows_258 : decode cL_follows 258 = .ok (.lload 4, 2) := by decide +kernel
theorem dL_follows_260 : decode cL_follows 260 = .ok (.lcmp, 1) := by decide +kernel
theorem dL_follows_261 : decode cL_follows 261 = .ok (.ifCond .ne 115, 3) := by decide +kernel
theorem dL_follows_264 : decode cL_follows 264 = .ok (.aload_n 0, 1) := by decide +kernel
theorem dL_follows_265 : decode cL_follows 265 = .ok (.iload 18, 2) := by decide +kernel
theorem dL_follows_267 : decode cL_follows 267 = .ok (.invokestatic 144, 3) := by decide +kernel
theorem dL_follows_270 : decode cL_follows 270 = .ok (.lload 19, 2) := by decide +kernel
theorem dL_follows_272 : decode cL_follows 272 = .ok (.lcmp, 1) := by decide +kernel
theorem dL_follows_273 : decode cL_follows 273 = .ok (.ifCond .ne 103, 3) := by decide +kernel
theorem dL_follows_276 : decode cL_follows 276 = .ok (.aload_n 0, 1) := by decide +kernel
theorem dL_follows_277 : decode cL_follows 277 = .ok (.iload 18, 2) := by decide +kernel
theorem dL_follows_279 : decode cL_follows 279 = .ok (.iconst 0, 1) := by decide +kernel
theorem dL_follows_280 : decode cL_follows 280 = .ok (.invokestatic 132, 3) := by decide +kernel
theorem dL_follows_283 : decode cL_follows 283 = .ok (.lload 21, 2) := by decide +kernel
theorem dL_follows_285 : decode cL_follows 285 = .ok (.lconst 1, 1) := by decide +kernel
theorem dL_follows_286 : decode cL_follows 286 = .ok (.ladd, 1) := by decide +kernel
theorem dL_follows_287 : decode cL_follows 287 = .ok (.lcmp, 1) := by decide +kernel
theorem dL_follows_288 : decode cL_follows 288 = .ok (.ifCond .ne 88, 3) := by decide +kernel
theorem dL_follows_291 : decode cL_follows 291 = .ok (.aload_n 0, 1) := by decide +kernel
theorem dL_follows_292 : decode cL_follows 292 = .ok (.lload 19, 2) := by decide +kernel
theorem dL_follows_294 : decode cL_follows 294 = .ok (.l2i, 1) := by decide +kernel
theorem dL_follows_295 : decode cL_follows 295 = .ok (.iconst 1, 1) := by decide +kernel
theorem dL_follows_296 : decode cL_follows 296 = .ok (.invokestatic 129, 3) := by decide +kernel
theorem dL_follows_299 : decode cL_follows 299 = .ok (.lload 4, 2) := by decide +kernel
theorem dL_follows_301 : decode cL_follows 301 = .ok (.aload_n 0, 1) := by decide +kernel
theorem dL_follows_302 : decode cL_follows 302 = .ok (.iconst 0, 1) := by decide +kernel
theorem dL_follows_303 : decode cL_follows 303 = .ok (.invokestatic 125, 3) := by decide +kernel
theorem dL_follows_306 : decode cL_follows 306 = .ok (.ladd, 1) := by decide +kernel
theorem dL_follows_307 : decode cL_follows 307 = .ok (.lconst 1, 1) := by decide +kernel
theorem dL_follows_308 : decode cL_follows 308 = .ok (.lsub, 1) := by decide +kernel
theorem dL_follows_309 : decode cL_follows 309 = .ok (.lcmp, 1) := by decide +kernel
theorem dL_follows_310 : decode cL_follows 310 = .ok (.ifCond .ne 66, 3) := by decide +kernel
theorem dL_follows_313 : decode cL_follows 313 = .ok (.aload_n 0, 1) := by decide +kernel
theorem dL_follows_314 : decode cL_follows 314 = .ok (.invokestatic 225, 3) := by decide +kernel
theorem dL_follows_317 : decode cL_follows 317 = .ok (.lconst 0, 1) := by decide +kernel
theorem dL_follows_318 : decode cL_follows 318 = .ok (.lcmp, 1) := by decide +kernel
theorem dL_follows_319 : decode cL_follows 319 = .ok (.ifCond .lt 57, 3) := by decide +kernel
theorem dL_follows_322 : decode cL_follows 322 = .ok (.aload_n 0, 1) := by decide +kernel
theorem dL_follows_323 : decode cL_follows 323 = .ok (.invokestatic 138, 3) := by decide +kernel
theorem dL_follows_326 : decode cL_follows 326 = .ok (.lload_n 2, 1) := by decide +kernel
theorem dL_follows_327 : decode cL_follows 327 = .ok (.lcmp, 1) := by decide +kernel
theorem dL_follows_328 : decode cL_follows 328 = .ok (.ifCond .ne 48, 3) := by decide +kernel
theorem dL_follows_331 : decode cL_follows 331 = .ok (.aload_n 0, 1) := by decide +kernel
theorem dL_follows_332 : decode cL_follows 332 = .ok (.iload 18, 2) := by decide +kernel
theorem dL_follows_334 : decode cL_follows 334 = .ok (.lload 19, 2) := by decide +kernel
theorem dL_follows_336 : decode cL_follows 336 = .ok (.l2i, 1) := by decide +kernel
theorem dL_follows_337 : decode cL_follows 337 = .ok (.invokestatic 146, 3) := by decide +kernel
theorem dL_follows_340 : decode cL_follows 340 = .ok (.lload 4, 2) := by decide +kernel
theorem dL_follows_342 : decode cL_follows 342 = .ok (.aload_n 0, 1) := by decide +kernel
theorem dL_follows_343 : decode cL_follows 343 = .ok (.iconst 0, 1) := by decide +kernel
theorem dL_follows_344 : decode cL_follows 344 = .ok (.invokestatic 125, 3) := by decide +kernel
theorem dL_follows_347 : decode cL_follows 347 = .ok (.ladd, 1) := by decide +kernel
theorem dL_follows_348 : decode cL_follows 348 = .ok (.lconst 1, 1) := by decide +kernel
theorem dL_follows_349 : decode cL_follows 349 = .ok (.lsub, 1) := by decide +kernel
theorem dL_follows_350 : decode cL_follows 350 = .ok (.lcmp, 1) := by decide +kernel
theorem dL_follows_351 : decode cL_follows 351 = .ok (.ifCond .ne 25, 3) := by decide +kernel
theorem dL_follows_354 : decode cL_follows 354 = .ok (.aload_n 0, 1) := by decide +kernel
theorem dL_follows_355 : decode cL_follows 355 = .ok (.invokestatic 225, 3) := by decide +kernel
theorem dL_follows_358 : decode cL_follows 358 = .ok (.lconst 0, 1) := by decide +kernel
theorem dL_follows_359 : decode cL_follows 359 = .ok (.lcmp, 1) := by decide +kernel
theorem dL_follows_360 : decode cL_follows 360 = .ok (.ifCond .lt 16, 3) := by decide +kernel
theorem dL_follows_363 : decode cL_follows 363 = .ok (.aload_n 0, 1) := by decide +kernel
theorem dL_follows_364 : decode cL_follows 364 = .ok (.invokestatic 138, 3) := by decide +kernel
theorem dL_follows_367 : decode cL_follows 367 = .ok (.lload_n 2, 1) := by decide +kernel
theorem dL_follows_368 : decode cL_follows 368 = .ok (.lcmp, 1) := by decide +kernel
theorem dL_follows_369 : decode cL_follows 369 = .ok (.ifCond .ne 7, 3) := by decide +kernel
theorem dL_follows_372 : decode cL_follows 372 = .ok (.iconst 1, 1) := by decide +kernel
theorem dL_follows_373 : decode cL_follows 373 = .ok (.goto 4, 3) := by decide +kernel
theorem dL_follows_376 : decode cL_follows 376 = .ok (.iconst 0, 1) := by decide +kernel
theorem dL_follows_377 : decode cL_follows 377 = .ok (.istore 7, 2) := by decide +kernel
theorem dL_follows_379 : decode cL_follows 379 = .ok (.goto 320, 3) := by decide +kernel
theorem dL_follows_382 : decode cL_follows 382 = .ok (.iload 7, 2) := by decide +kernel
theorem dL_follows_384 : decode cL_follows 384 = .ok (.ifCond .eq 315, 3) := by decide +kernel
theorem dL_follows_387 : decode cL_follows 387 = .ok (.aload_n 0, 1) := by decide +kernel
theorem dL_follows_388 : decode cL_follows 388 = .ok (.iconst 5, 1) := by decide +kernel
theorem dL_follows_389 : decode cL_follows 389 = .ok (.invokestatic 120, 3) := by decide +kernel
theorem dL_follows_392 : decode cL_follows 392 = .ok (.ldc2_w 177, 3) := by decide +kernel
theorem dL_follows_395 : decode cL_follows 395 = .ok (.lcmp, 1) := by decide +kernel
theorem dL_follows_396 : decode cL_follows 396 = .ok (.ifCond .ge 303, 3) := by decide +kernel
theorem dL_follows_399 : decode cL_follows 399 = .ok (.aload_n 0, 1) := by decide +kernel
theorem dL_follows_400 : decode cL_follows 400 = .ok (.iload 18, 2) := by decide +kernel
theorem dL_follows_402 : decode cL_follows 402 = .ok (.invokestatic 171, 3) := by decide +kernel
theorem dL_follows_405 : decode cL_follows 405 = .ok (.lstore 23, 2) := by decide +kernel
theorem dL_follows_407 : decode cL_follows 407 = .ok (.aload_n 0, 1) := by decide +kernel
theorem dL_follows_408 : decode cL_follows 408 = .ok (.iload 18, 2) := by decide +kernel
theorem dL_follows_410 : decode cL_follows 410 = .ok (.invokestatic 144, 3) := by decide +kernel
theorem dL_follows_413 : decode cL_follows 413 = .ok (.ldc2_w 173, 3) := by decide +kernel
theorem dL_follows_416 : decode cL_follows 416 = .ok (.lcmp, 1) := by decide +kernel
theorem dL_follows_417 : decode cL_follows 417 = .ok (.ifCond .ne 19, 3) := by decide +kernel
theorem dL_follows_420 : decode cL_follows 420 = .ok (.aload_n 0, 1) := by decide +kernel
theorem dL_follows_421 : decode cL_follows 421 = .ok (.iload 18, 2) := by decide +kernel
theorem dL_follows_423 : decode cL_follows 423 = .ok (.iconst 2, 1) := by decide +kernel
theorem dL_follows_424 : decode cL_follows 424 = .ok (.invokestatic 132, 3) := by decide +kernel
theorem dL_follows_427 : decode cL_follows 427 = .ok (.lconst 1, 1) := by decide +kernel
theorem dL_follows_428 : decode cL_follows 428 = .ok (.lcmp, 1) := by decide +kernel
theorem dL_follows_429 : decode cL_follows 429 = .ok (.ifCond .lt 7, 3) := by decide +kernel
theorem dL_follows_432 : decode cL_follows 432 = .ok (.iconst 1, 1) := by decide +kernel
theorem dL_follows_433 : decode cL_follows 433 = .ok (.goto 4, 3) := by decide +kernel
theorem dL_follows_436 : decode cL_follows 436 = .ok (.iconst 0, 1) := by decide +kernel
theorem dL_follows_437 : decode cL_follows 437 = .ok (.istore 7, 2) := by decide +kernel
theorem dL_follows_439 : decode cL_follows 439 = .ok (.iconst 0, 1) := by decide +kernel
theorem dL_follows_440 : decode cL_follows 440 = .ok (.istore 25, 2) := by decide +kernel
theorem dL_follows_442 : decode cL_follows 442 = .ok (.iconst 0, 1) := by decide +kernel
theorem dL_follows_443 : decode cL_follows 443 = .ok (.istore 26, 2) := by decide +kernel
theorem dL_follows_445 : decode cL_follows 445 = .ok (.iload 26, 2) := by decide +kernel
theorem dL_follows_447 : decode cL_follows 447 = .ok (.bipush 40, 2) := by decide +kernel
theorem dL_follows_449 : decode cL_follows 449 = .ok (.if_icmp .ge 201, 3) := by decide +kernel
theorem dL_follows_452 : decode cL_follows 452 = .ok (.iload 7, 2) := by decide +kernel
theorem dL_follows_454 : decode cL_follows 454 = .ok (.ifCond .eq 196, 3) := by decide +kernel
theorem dL_follows_457 : decode cL_follows 457 = .ok (.iload 25, 2) := by decide +kernel
theorem dL_follows_459 : decode cL_follows 459 = .ok (.ifCond .ne 191, 3) := by decide +kernel
theorem dL_follows_462 : decode cL_follows 462 = .ok (.aload_n 0, 1) := by decide +kernel
theorem dL_follows_463 : decode cL_follows 463 = .ok (.iload 18, 2) := by decide +kernel
theorem dL_follows_465 : decode cL_follows 465 = .ok (.iconst 2, 1) := by decide +kernel
theorem dL_follows_466 : decode cL_follows 466 = .ok (.invokestatic 132, 3) := by decide +kernel
theorem dL_follows_469 : decode cL_follows 469 = .ok (.lstore 27, 2) := by decide +kernel
theorem dL_follows_471 : decode cL_follows 471 = .ok (.iconst 0, 1) := by decide +kernel
theorem dL_follows_472 : decode cL_follows 472 = .ok (.istore 29, 2) := by decide +kernel
theorem dL_follows_474 : decode cL_follows 474 = .ok (.iload 29, 2) := by decide +kernel
theorem dL_follows_476 : decode cL_follows 476 = .ok (.bipush 24, 2) := by decide +kernel
theorem dL_follows_478 : decode cL_follows 478 = .ok (.if_icmp .ge 46, 3) := by decide +kernel
theorem dL_follows_481 : decode cL_follows 481 = .ok (.iload 7, 2) := by decide +kernel
theorem dL_follows_483 : decode cL_follows 483 = .ok (.ifCond .eq 41, 3) := by decide +kernel
theorem dL_follows_486 : decode cL_follows 486 = .ok (.aload_n 0, 1) := by decide +kernel
theorem dL_follows_487 : decode cL_follows 487 = .ok (.iload 29, 2) := by decide +kernel
theorem dL_follows_489 : decode cL_follows 489 = .ok (.iconst 5, 1) := by decide +kernel
theorem dL_follows_490 : decode cL_follows 490 = .ok (.invokestatic 129, 3) := by decide +kernel
theorem dL_follows_493 : decode cL_follows 493 = .ok (.ldc2_w 175, 3) := by decide +kernel
theorem dL_follows_496 : decode cL_follows 496 = .ok (.lcmp, 1) := by decide +kernel
theorem dL_follows_497 : decode cL_follows 497 = .ok (.ifCond .ne 14, 3) := by decide +kernel
theorem dL_follows_500 : decode cL_follows 500 = .ok (.aload_n 0, 1) := by decide +kernel
theorem dL_follows_501 : decode cL_follows 501 = .ok (.iload 29, 2) := by decide +kernel
theorem dL_follows_503 : decode cL_follows 503 = .ok (.invokestatic 157, 3) := by decide +kernel
theorem dL_follows_506 : decode cL_follows 506 = .ok (.lconst 0, 1) := by decide +kernel
theorem dL_follows_507 : decode cL_follows 507 = .ok (.lcmp, 1) := by decide +kernel
theorem dL_follows_508 : decode cL_follows 508 = .ok (.ifCond .lt 7, 3) := by decide +kernel
theorem dL_follows_511 : decode cL_follows 511 = .ok (.iconst 1, 1) := by decide +kernel
theorem dL_follows_512 : decode cL_follows 512 = .ok (.goto 4, 3) := by decide +kernel
theorem dL_follows_515 : decode cL_follows 515 = .ok (.iconst 0, 1) := by decide +kernel
theorem dL_follows_516 : decode cL_follows 516 = .ok (.istore 7, 2) := by decide +kernel
theorem dL_follows_518 : decode cL_follows 518 = .ok (.iinc 29 1, 3) := by decide +kernel
theorem dL_follows_521 : decode cL_follows 521 = .ok (.goto (-47), 3) := by decide +kernel
theorem dL_follows_524 : decode cL_follows 524 = .ok (.aload_n 0, 1) := by decide +kernel
theorem dL_follows_525 : decode cL_follows 525 = .ok (.iconst 1, 1) := by decide +kernel
theorem dL_follows_526 : decode cL_follows 526 = .ok (.invokestatic 120, 3) := by decide +kernel
theorem dL_follows_529 : decode cL_follows 529 = .ok (.aload_n 0, 1) := by decide +kernel
theorem dL_follows_530 : decode cL_follows 530 = .ok (.iload 18, 2) := by decide +kernel
theorem dL_follows_532 : decode cL_follows 532 = .ok (.iconst 3, 1) := by decide +kernel
theorem dL_follows_533 : decode cL_follows 533 = .ok (.invokestatic 132, 3) := by decide +kernel
theorem dL_follows_536 : decode cL_follows 536 = .ok (.lcmp, 1) := by decide +kernel
theorem dL_follows_537 : decode cL_follows 537 = .ok (.ifCond .le 7, 3) := by decide +kernel
theorem dL_follows_540 : decode cL_follows 540 = .ok (.iconst 1, 1) := by decide +kernel
theorem dL_follows_541 : decode cL_follows 541 = .ok (.goto 4, 3) := by decide +kernel
theorem dL_follows_544 : decode cL_follows 544 = .ok (.iconst 0, 1) := by decide +kernel
theorem dL_follows_545 : decode cL_follows 545 = .ok (.istore 29, 2) := by decide +kernel
theorem dL_follows_547 : decode cL_follows 547 = .ok (.iload 29, 2) := by decide +kernel
theorem dL_follows_549 : decode cL_follows 549 = .ok (.istore 25, 2) := by decide +kernel
theorem dL_follows_551 : decode cL_follows 551 = .ok (.iload 7, 2) := by decide +kernel
theorem dL_follows_553 : decode cL_follows 553 = .ok (.ifCond .eq 36, 3) := by decide +kernel
theorem dL_follows_556 : decode cL_follows 556 = .ok (.iload 29, 2) := by decide +kernel
theorem dL_follows_558 : decode cL_follows 558 = .ok (.ifCond .eq 27, 3) := by decide +kernel
theorem dL_follows_561 : decode cL_follows 561 = .ok (.lload 23, 2) := by decide +kernel
theorem dL_follows_563 : decode cL_follows 563 = .ok (.aload_n 0, 1) := by decide +kernel
theorem dL_follows_564 : decode cL_follows 564 = .ok (.iconst 0, 1) := by decide +kernel
theorem dL_follows_565 : decode cL_follows 565 = .ok (.invokestatic 120, 3) := by decide +kernel
theorem dL_follows_568 : decode cL_follows 568 = .ok (.lcmp, 1) := by decide +kernel
theorem dL_follows_569 : decode cL_follows 569 = .ok (.ifCond .eq 16, 3) := by decide +kernel
theorem dL_follows_572 : decode cL_follows 572 = .ok (.iload 26, 2) := by decide +kernel
theorem dL_follows_574 : decode cL_follows 574 = .ok (.ifCond .le 15, 3) := by decide +kernel
theorem dL_follows_577 : decode cL_follows 577 = .ok (.lload 23, 2) := by decide +kernel
theorem dL_follows_579 : decode cL_follows 579 = .ok (.lload 4, 2) := by decide +kernel
theorem dL_follows_581 : decode cL_follows 581 = .ok (.lcmp, 1) := by decide +kernel
theorem dL_follows_582 : decode cL_follows 582 = .ok (.ifCond .lt 7, 3) := by decide +kernel
theorem dL_follows_585 : decode cL_follows 585 = .ok (.iconst 1, 1) := by decide +kernel
theorem dL_follows_586 : decode cL_follows 586 = .ok (.goto 4, 3) := by decide +kernel
theorem dL_follows_589 : decode cL_follows 589 = .ok (.iconst 0, 1) := by decide +kernel
theorem dL_follows_590 : decode cL_follows 590 = .ok (.istore 7, 2) := by decide +kernel
theorem dL_follows_592 : decode cL_follows 592 = .ok (.iload 7, 2) := by decide +kernel
theorem dL_follows_594 : decode cL_follows 594 = .ok (.ifCond .eq 22, 3) := by decide +kernel
theorem dL_follows_597 : decode cL_follows 597 = .ok (.iload 25, 2) := by decide +kernel
theorem dL_follows_599 : decode cL_follows 599 = .ok (.ifCond .ne 13, 3) := by decide +kernel
theorem dL_follows_602 : decode cL_follows 602 = .ok (.aload_n 0, 1) := by decide +kernel
theorem dL_follows_603 : decode cL_follows 603 = .ok (.iconst 1, 1) := by decide +kernel
theorem dL_follows_604 : decode cL_follows 604 = .ok (.invokestatic 161, 3) := by decide +kernel
theorem dL_follows_607 : decode cL_follows 607 = .ok (.lconst 0, 1) := by decide +kernel
theorem dL_follows_608 : decode cL_follows 608 = .ok (.lcmp, 1) := by decide +kernel
theorem dL_follows_609 : decode cL_follows 609 = .ok (.ifCond .lt 7, 3) := by decide +kernel
theorem dL_follows_612 : decode cL_follows 612 = .ok (.iconst 1, 1) := by decide +kernel
theorem dL_follows_613 : decode cL_follows 613 = .ok (.goto 4, 3) := by decide +kernel
theorem dL_follows_616 : decode cL_follows 616 = .ok (.iconst 0, 1) := by decide +kernel
theorem dL_follows_617 : decode cL_follows 617 = .ok (.istore 7, 2) := by decide +kernel
theorem dL_follows_619 : decode cL_follows 619 = .ok (.iload 25, 2) := by decide +kernel
theorem dL_follows_621 : decode cL_follows 621 = .ok (.ifCond .ne 16, 3) := by decide +kernel
theorem dL_follows_624 : decode cL_follows 624 = .ok (.aload_n 0, 1) := by decide +kernel
theorem dL_follows_625 : decode cL_follows 625 = .ok (.iload 18, 2) := by decide +kernel
theorem dL_follows_627 : decode cL_follows 627 = .ok (.iconst 2, 1) := by decide +kernel
theorem dL_follows_628 : decode cL_follows 628 = .ok (.invokestatic 132, 3) := by decide +kernel
theorem dL_follows_631 : decode cL_follows 631 = .ok (.lload 27, 2) := by decide +kernel
theorem dL_follows_633 : decode cL_follows 633 = .ok (.lcmp, 1) := by decide +kernel
theorem dL_follows_634 : decode cL_follows 634 = .ok (.ifCond .ge 7, 3) := by decide +kernel
theorem dL_follows_637 : decode cL_follows 637 = .ok (.iconst 1, 1) := by decide +kernel
theorem dL_follows_638 : decode cL_follows 638 = .ok (.goto 4, 3) := by decide +kernel
theorem dL_follows_641 : decode cL_follows 641 = .ok (.iconst 0, 1) := by decide +kernel
theorem dL_follows_642 : decode cL_follows 642 = .ok (.istore 25, 2) := by decide +kernel
theorem dL_follows_644 : decode cL_follows 644 = .ok (.iinc 26 1, 3) := by decide +kernel
theorem dL_follows_647 : decode cL_follows 647 = .ok (.goto (-202), 3) := by decide +kernel
theorem dL_follows_650 : decode cL_follows 650 = .ok (.iload 7, 2) := by decide +kernel
theorem dL_follows_652 : decode cL_follows 652 = .ok (.ifCond .eq 44, 3) := by decide +kernel
theorem dL_follows_655 : decode cL_follows 655 = .ok (.lload 23, 2) := by decide +kernel
theorem dL_follows_657 : decode cL_follows 657 = .ok (.ldc2_w 173, 3) := by decide +kernel
theorem dL_follows_660 : decode cL_follows 660 = .ok (.lcmp, 1) := by decide +kernel
theorem dL_follows_661 : decode cL_follows 661 = .ok (.ifCond .eq 11, 3) := by decide +kernel
theorem dL_follows_664 : decode cL_follows 664 = .ok (.lload 23, 2) := by decide +kernel
theorem dL_follows_666 : decode cL_follows 666 = .ok (.lload 4, 2) := by decide +kernel
theorem dL_follows_668 : decode cL_follows 668 = .ok (.lcmp, 1) := by decide +kernel
theorem dL_follows_669 : decode cL_follows 669 = .ok (.ifCond .lt 27, 3) := by decide +kernel
theorem dL_follows_672 : decode cL_follows 672 = .ok (.aload_n 0, 1) := by decide +kernel
theorem dL_follows_673 : decode cL_follows 673 = .ok (.iconst 1, 1) := by decide +kernel
theorem dL_follows_674 : decode cL_follows 674 = .ok (.invokestatic 190, 3) := by decide +kernel
theorem dL_follows_677 : decode cL_follows 677 = .ok (.lload 4, 2) := by decide +kernel
theorem dL_follows_679 : decode cL_follows 679 = .ok (.lcmp, 1) := by decide +kernel
theorem dL_follows_680 : decode cL_follows 680 = .ok (.ifCond .ne 16, 3) := by decide +kernel
theorem dL_follows_683 : decode cL_follows 683 = .ok (.aload_n 0, 1) := by decide +kernel
theorem dL_follows_684 : decode cL_follows 684 = .ok (.invokestatic 138, 3) := by decide +kernel
theorem dL_follows_687 : decode cL_follows 687 = .ok (.lload_n 2, 1) := by decide +kernel
theorem dL_follows_688 : decode cL_follows 688 = .ok (.lcmp, 1) := by decide +kernel
theorem dL_follows_689 : decode cL_follows 689 = .ok (.ifCond .ne 7, 3) := by decide +kernel
theorem dL_follows_692 : decode cL_follows 692 = .ok (.iconst 1, 1) := by decide +kernel
theorem dL_follows_693 : decode cL_follows 693 = .ok (.goto 4, 3) := by decide +kernel
theorem dL_follows_696 : decode cL_follows 696 = .ok (.iconst 0, 1) := by decide +kernel
theorem dL_follows_697 : decode cL_follows 697 = .ok (.istore 7, 2) := by decide +kernel
theorem dL_follows_699 : decode cL_follows 699 = .ok (.iload_n 1, 1) := by decide +kernel
theorem dL_follows_700 : decode cL_follows 700 = .ok (.bipush 70, 2) := by decide +kernel
theorem dL_follows_702 : decode cL_follows 702 = .ok (.idiv, 1) := by decide +kernel
theorem dL_follows_703 : decode cL_follows 703 = .ok (.bipush 24, 2) := by decide +kernel
theorem dL_follows_705 : decode cL_follows 705 = .ok (.irem, 1) := by decide +kernel
theorem dL_follows_706 : decode cL_follows 706 = .ok (.istore 23, 2) := by decide +kernel
theorem dL_follows_708 : decode cL_follows 708 = .ok (.aload_n 0, 1) := by decide +kernel
theorem dL_follows_709 : decode cL_follows 709 = .ok (.iload 23, 2) := by decide +kernel
theorem dL_follows_711 : decode cL_follows 711 = .ok (.invokestatic 167, 3) := by decide +kernel
theorem dL_follows_714 : decode cL_follows 714 = .ok (.lstore 24, 2) := by decide +kernel
theorem dL_follows_716 : decode cL_follows 716 = .ok (.iload 7, 2) := by decide +kernel
theorem dL_follows_718 : decode cL_follows 718 = .ok (.ifCond .eq 135, 3) := by decide +kernel
theorem dL_follows_721 : decode cL_follows 721 = .ok (.lload 24, 2) := by decide +kernel
theorem dL_follows_723 : decode cL_follows 723 = .ok (.ldc2_w 173, 3) := by decide +kernel
theorem dL_follows_726 : decode cL_follows 726 = .ok (.lcmp, 1) := by decide +kernel
theorem dL_follows_727 : decode cL_follows 727 = .ok (.ifCond .eq 126, 3) := by decide +kernel
theorem dL_follows_730 : decode cL_follows 730 = .ok (.aload_n 0, 1) := by decide +kernel
theorem dL_follows_731 : decode cL_follows 731 = .ok (.iload 23, 2) := by decide +kernel
theorem dL_follows_733 : decode cL_follows 733 = .ok (.iconst 4, 1) := by decide +kernel
theorem dL_follows_734 : decode cL_follows 734 = .ok (.invokestatic 129, 3) := by decide +kernel
theorem dL_follows_737 : decode cL_follows 737 = .ok (.ldc2_w 173, 3) := by decide +kernel
theorem dL_follows_740 : decode cL_follows 740 = .ok (.lcmp, 1) := by decide +kernel
theorem dL_follows_741 : decode cL_follows 741 = .ok (.ifCond .ne 112, 3) := by decide +kernel
theorem dL_follows_744 : decode cL_follows 744 = .ok (.aload_n 0, 1) := by decide +kernel
theorem dL_follows_745 : decode cL_follows 745 = .ok (.iload 23, 2) := by decide +kernel
theorem dL_follows_747 : decode cL_follows 747 = .ok (.iconst 2, 1) := by decide +kernel
theorem dL_follows_748 : decode cL_follows 748 = .ok (.invokestatic 129, 3) := by decide +kernel
theorem dL_follows_751 : decode cL_follows 751 = .ok (.lconst 0, 1) := by decide +kernel
theorem dL_follows_752 : decode cL_follows 752 = .ok (.lcmp, 1) := by decide +kernel
theorem dL_follows_753 : decode cL_follows 753 = .ok (.ifCond .le 100, 3) := by decide +kernel
theorem dL_follows_756 : decode cL_follows 756 = .ok (.lload 24, 2) := by decide +kernel
theorem dL_follows_758 : decode cL_follows 758 = .ok (.lload 4, 2) := by decide +kernel
theorem dL_follows_760 : decode cL_follows 760 = .ok (.lsub, 1) := by decide +kernel
theorem dL_follows_761 : decode cL_follows 761 = .ok (.ldc2_w 227, 3) := by decide +kernel
theorem dL_follows_764 : decode cL_follows 764 = .ok (.lcmp, 1) := by decide +kernel
theorem dL_follows_765 : decode cL_follows 765 = .ok (.ifCond .ge 88, 3) := by decide +kernel
theorem dL_follows_768 : decode cL_follows 768 = .ok (.aload_n 0, 1) := by decide +kernel
theorem dL_follows_769 : decode cL_follows 769 = .ok (.iload 23, 2) := by decide +kernel
theorem dL_follows_771 : decode cL_follows 771 = .ok (.iconst 2, 1) := by decide +kernel
theorem dL_follows_772 : decode cL_follows 772 = .ok (.invokestatic 129, 3) := by decide +kernel
theorem dL_follows_775 : decode cL_follows 775 = .ok (.lstore 26, 2) := by decide +kernel
theorem dL_follows_777 : decode cL_follows 777 = .ok (.lload 24, 2) := by decide +kernel
theorem dL_follows_779 : decode cL_follows 779 = .ok (.lload 4, 2) := by decide +kernel
theorem dL_follows_781 : decode cL_follows 781 = .ok (.lcmp, 1) := by decide +kernel
theorem dL_follows_782 : decode cL_follows 782 = .ok (.ifCond .eq 18, 3) := by decide +kernel
theorem dL_follows_785 : decode cL_follows 785 = .ok (.aload_n 0, 1) := by decide +kernel
theorem dL_follows_786 : decode cL_follows 786 = .ok (.lload 24, 2) := by decide +kernel
theorem dL_follows_788 : decode cL_follows 788 = .ok (.lload 4, 2) := by decide +kernel
theorem dL_follows_790 : decode cL_follows 790 = .ok (.lsub, 1) := by decide +kernel
theorem dL_follows_791 : decode cL_follows 791 = .ok (.l2i, 1) := by decide +kernel
theorem dL_follows_792 : decode cL_follows 792 = .ok (.invokestatic 161, 3) := by decide +kernel
theorem dL_follows_795 : decode cL_follows 795 = .ok (.lconst 0, 1) := by decide +kernel
theorem dL_follows_796 : decode cL_follows 796 = .ok (.lcmp, 1) := by decide +kernel
theorem dL_follows_797 : decode cL_follows 797 = .ok (.ifCond .lt 53, 3) := by decide +kernel
theorem dL_follows_800 : decode cL_follows 800 = .ok (.aload_n 0, 1) := by decide +kernel
theorem dL_follows_801 : decode cL_follows 801 = .ok (.iload 23, 2) := by decide +kernel
theorem dL_follows_803 : decode cL_follows 803 = .ok (.iconst 5, 1) := by decide +kernel
theorem dL_follows_804 : decode cL_follows 804 = .ok (.invokestatic 129, 3) := by decide +kernel
theorem dL_follows_807 : decode cL_follows 807 = .ok (.ldc2_w 175, 3) := by decide +kernel
theorem dL_follows_810 : decode cL_follows 810 = .ok (.lcmp, 1) := by decide +kernel
theorem dL_follows_811 : decode cL_follows 811 = .ok (.ifCond .ne 39, 3) := by decide +kernel
theorem dL_follows_814 : decode cL_follows 814 = .ok (.aload_n 0, 1) := by decide +kernel
theorem dL_follows_815 : decode cL_follows 815 = .ok (.iload 23, 2) := by decide +kernel
theorem dL_follows_817 : decode cL_follows 817 = .ok (.invokestatic 157, 3) := by decide +kernel
theorem dL_follows_820 : decode cL_follows 820 = .ok (.lload 26, 2) := by decide +kernel
theorem dL_follows_822 : decode cL_follows 822 = .ok (.lcmp, 1) := by decide +kernel
theorem dL_follows_823 : decode cL_follows 823 = .ok (.ifCond .ne 27, 3) := by decide +kernel
theorem dL_follows_826 : decode cL_follows 826 = .ok (.aload_n 0, 1) := by decide +kernel
theorem dL_follows_827 : decode cL_follows 827 = .ok (.iconst 1, 1) := by decide +kernel
theorem dL_follows_828 : decode cL_follows 828 = .ok (.invokestatic 190, 3) := by decide +kernel
theorem dL_follows_831 : decode cL_follows 831 = .ok (.lload 4, 2) := by decide +kernel
theorem dL_follows_833 : decode cL_follows 833 = .ok (.lcmp, 1) := by decide +kernel
theorem dL_follows_834 : decode cL_follows 834 = .ok (.ifCond .ne 16, 3) := by decide +kernel
theorem dL_follows_837 : decode cL_follows 837 = .ok (.aload_n 0, 1) := by decide +kernel
theorem dL_follows_838 : decode cL_follows 838 = .ok (.invokestatic 138, 3) := by decide +kernel
theorem dL_follows_841 : decode cL_follows 841 = .ok (.lload_n 2, 1) := by decide +kernel
theorem dL_follows_842 : decode cL_follows 842 = .ok (.lcmp, 1) := by decide +kernel
theorem dL_follows_843 : decode cL_follows 843 = .ok (.ifCond .ne 7, 3) := by decide +kernel
theorem dL_follows_846 : decode cL_follows 846 = .ok (.iconst 1, 1) := by decide +kernel
theorem dL_follows_847 : decode cL_follows 847 = .ok (.goto 4, 3) := by decide +kernel
theorem dL_follows_850 : decode cL_follows 850 = .ok (.iconst 0, 1) := by decide +kernel
theorem dL_follows_851 : decode cL_follows 851 = .ok (.istore 7, 2) := by decide +kernel
theorem dL_follows_853 : decode cL_follows 853 = .ok (.iload 7, 2) := by decide +kernel
theorem dL_follows_855 : decode cL_follows 855 = .ok (.ifCond .eq 167, 3) := by decide +kernel
theorem dL_follows_858 : decode cL_follows 858 = .ok (.lload 24, 2) := by decide +kernel
theorem dL_follows_860 : decode cL_follows 860 = .ok (.ldc2_w 173, 3) := by decide +kernel
theorem dL_follows_863 : decode cL_follows 863 = .ok (.lcmp, 1) := by decide +kernel
theorem dL_follows_864 : decode cL_follows 864 = .ok (.ifCond .eq 158, 3) := by decide +kernel
theorem dL_follows_867 : decode cL_follows 867 = .ok (.aload_n 0, 1) := by decide +kernel
theorem dL_follows_868 : decode cL_follows 868 = .ok (.iload 23, 2) := by decide +kernel
theorem dL_follows_870 : decode cL_follows 870 = .ok (.iconst 4, 1) := by decide +kernel
theorem dL_follows_871 : decode cL_follows 871 = .ok (.invokestatic 129, 3) := by decide +kernel
theorem dL_follows_874 : decode cL_follows 874 = .ok (.ldc2_w 173, 3) := by decide +kernel
theorem dL_follows_877 : decode cL_follows 877 = .ok (.lcmp, 1) := by decide +kernel
theorem dL_follows_878 : decode cL_follows 878 = .ok (.ifCond .ne 144, 3) := by decide +kernel
theorem dL_follows_881 : decode cL_follows 881 = .ok (.aload_n 0, 1) := by decide +kernel
theorem dL_follows_882 : decode cL_follows 882 = .ok (.iload 23, 2) := by decide +kernel
theorem dL_follows_884 : decode cL_follows 884 = .ok (.iconst 0, 1) := by decide +kernel
theorem dL_follows_885 : decode cL_follows 885 = .ok (.invokestatic 129, 3) := by decide +kernel
theorem dL_follows_888 : decode cL_follows 888 = .ok (.lconst 1, 1) := by decide +kernel
theorem dL_follows_889 : decode cL_follows 889 = .ok (.ladd, 1) := by decide +kernel
theorem dL_follows_890 : decode cL_follows 890 = .ok (.l2i, 1) := by decide +kernel
theorem dL_follows_891 : decode cL_follows 891 = .ok (.bipush 10, 2) := by decide +kernel
theorem dL_follows_893 : decode cL_follows 893 = .ok (.irem, 1) := by decide +kernel
theorem dL_follows_894 : decode cL_follows 894 = .ok (.istore 26, 2) := by decide +kernel
theorem dL_follows_896 : decode cL_follows 896 = .ok (.aload_n 0, 1) := by decide +kernel
theorem dL_follows_897 : decode cL_follows 897 = .ok (.iload 23, 2) := by decide +kernel
theorem dL_follows_899 : decode cL_follows 899 = .ok (.iconst 1, 1) := by decide +kernel
theorem dL_follows_900 : decode cL_follows 900 = .ok (.invokestatic 129, 3) := by decide +kernel
theorem dL_follows_903 : decode cL_follows 903 = .ok (.lstore 27, 2) := by decide +kernel
theorem dL_follows_905 : decode cL_follows 905 = .ok (.aload_n 0, 1) := by decide +kernel
theorem dL_follows_906 : decode cL_follows 906 = .ok (.iload 23, 2) := by decide +kernel
theorem dL_follows_908 : decode cL_follows 908 = .ok (.iload 26, 2) := by decide +kernel
theorem dL_follows_910 : decode cL_follows 910 = .ok (.invokestatic 152, 3) := by decide +kernel
theorem dL_follows_913 : decode cL_follows 913 = .ok (.aload_n 0, 1) := by decide +kernel
theorem dL_follows_914 : decode cL_follows 914 = .ok (.iconst 4, 1) := by decide +kernel
theorem dL_follows_915 : decode cL_follows 915 = .ok (.invokestatic 120, 3) := by decide +kernel
theorem dL_follows_918 : decode cL_follows 918 = .ok (.lcmp, 1) := by decide +kernel
theorem dL_follows_919 : decode cL_follows 919 = .ok (.ifCond .ne 100, 3) := by decide +kernel
theorem dL_follows_922 : decode cL_follows 922 = .ok (.aload_n 0, 1) := by decide +kernel
theorem dL_follows_923 : decode cL_follows 923 = .ok (.iload 23, 2) := by decide +kernel
theorem dL_follows_925 : decode cL_follows 925 = .ok (.iconst 4, 1) := by decide +kernel
theorem dL_follows_926 : decode cL_follows 926 = .ok (.invokestatic 129, 3) := by decide +kernel
theorem dL_follows_929 : decode cL_follows 929 = .ok (.iload 26, 2) := by decide +kernel
theorem dL_follows_931 : decode cL_follows 931 = .ok (.i2l, 1) := by decide +kernel
theorem dL_follows_932 : decode cL_follows 932 = .ok (.lcmp, 1) := by decide +kernel
theorem dL_follows_933 : decode cL_follows 933 = .ok (.ifCond .ne 86, 3) := by decide +kernel
theorem dL_follows_936 : decode cL_follows 936 = .ok (.aload_n 0, 1) := by decide +kernel
theorem dL_follows_937 : decode cL_follows 937 = .ok (.iload 23, 2) := by decide +kernel
theorem dL_follows_939 : decode cL_follows 939 = .ok (.iconst 1, 1) := by decide +kernel
theorem dL_follows_940 : decode cL_follows 940 = .ok (.invokestatic 154, 3) := by decide +kernel
theorem dL_follows_943 : decode cL_follows 943 = .ok (.iload 26, 2) := by decide +kernel
theorem dL_follows_945 : decode cL_follows 945 = .ok (.i2l, 1) := by decide +kernel
theorem dL_follows_946 : decode cL_follows 946 = .ok (.lcmp, 1) := by decide +kernel
theorem dL_follows_947 : decode cL_follows 947 = .ok (.ifCond .ne 72, 3) := by decide +kernel
theorem dL_follows_950 : decode cL_follows 950 = .ok (.aload_n 0, 1) := by decide +kernel
theorem dL_follows_951 : decode cL_follows 951 = .ok (.iload 23, 2) := by decide +kernel
theorem dL_follows_953 : decode cL_follows 953 = .ok (.iconst 0, 1) := by decide +kernel
theorem dL_follows_954 : decode cL_follows 954 = .ok (.invokestatic 129, 3) := by decide +kernel
theorem dL_follows_957 : decode cL_follows 957 = .ok (.iload 26, 2) := by decide +kernel
theorem dL_follows_959 : decode cL_follows 959 = .ok (.i2l, 1) := by decide +kernel
theorem dL_follows_960 : decode cL_follows 960 = .ok (.lcmp, 1) := by decide +kernel
theorem dL_follows_961 : decode cL_follows 961 = .ok (.ifCond .ne 58, 3) := by decide +kernel
theorem dL_follows_964 : decode cL_follows 964 = .ok (.aload_n 0, 1) := by decide +kernel
theorem dL_follows_965 : decode cL_follows 965 = .ok (.iload 23, 2) := by decide +kernel
theorem dL_follows_967 : decode cL_follows 967 = .ok (.iconst 1, 1) := by decide +kernel
theorem dL_follows_968 : decode cL_follows 968 = .ok (.invokestatic 129, 3) := by decide +kernel
theorem dL_follows_971 : decode cL_follows 971 = .ok (.lload 27, 2) := by decide +kernel
theorem dL_follows_973 : decode cL_follows 973 = .ok (.lcmp, 1) := by decide +kernel
theorem dL_follows_974 : decode cL_follows 974 = .ok (.ifCond .ne 45, 3) := by decide +kernel
theorem dL_follows_977 : decode cL_follows 977 = .ok (.aload_n 0, 1) := by decide +kernel
theorem dL_follows_978 : decode cL_follows 978 = .ok (.iload 23, 2) := by decide +kernel
theorem dL_follows_980 : decode cL_follows 980 = .ok (.bipush 7, 2) := by decide +kernel
theorem dL_follows_982 : decode cL_follows 982 = .ok (.invokestatic 150, 3) := by decide +kernel
theorem dL_follows_985 : decode cL_follows 985 = .ok (.lload 27, 2) := by decide +kernel
theorem dL_follows_987 : decode cL_follows 987 = .ok (.ldc2_w 229, 3) := by decide +kernel
theorem dL_follows_990 : decode cL_follows 990 = .ok (.ladd, 1) := by decide +kernel
theorem dL_follows_991 : decode cL_follows 991 = .ok (.lcmp, 1) := by decide +kernel
theorem dL_follows_992 : decode cL_follows 992 = .ok (.ifCond .ne 27, 3) := by decide +kernel
theorem dL_follows_995 : decode cL_follows 995 = .ok (.aload_n 0, 1) := by decide +kernel
theorem dL_follows_996 : decode cL_follows 996 = .ok (.iconst 1, 1) := by decide +kernel
theorem dL_follows_997 : decode cL_follows 997 = .ok (.invokestatic 190, 3) := by decide +kernel
theorem dL_follows_1000 : decode cL_follows 1000 = .ok (.lload 4, 2) := by decide +kernel
theorem dL_follows_1002 : decode cL_follows 1002 = .ok (.lcmp, 1) := by decide +kernel
theorem dL_follows_1003 : decode cL_follows 1003 = .ok (.ifCond .ne 16, 3) := by decide +kernel
theorem dL_follows_1006 : decode cL_follows 1006 = .ok (.aload_n 0, 1) := by decide +kernel
theorem dL_follows_1007 : decode cL_follows 1007 = .ok (.invokestatic 138, 3) := by decide +kernel
theorem dL_follows_1010 : decode cL_follows 1010 = .ok (.lload_n 2, 1) := by decide +kernel
theorem dL_follows_1011 : decode cL_follows 1011 = .ok (.lcmp, 1) := by decide +kernel
theorem dL_follows_1012 : decode cL_follows 1012 = .ok (.ifCond .ne 7, 3) := by decide +kernel
theorem dL_follows_1015 : decode cL_follows 1015 = .ok (.iconst 1, 1) := by decide +kernel
theorem dL_follows_1016 : decode cL_follows 1016 = .ok (.goto 4, 3) := by decide +kernel
theorem dL_follows_1019 : decode cL_follows 1019 = .ok (.iconst 0, 1) := by decide +kernel
theorem dL_follows_1020 : decode cL_follows 1020 = .ok (.istore 7, 2) := by decide +kernel
theorem dL_follows_1022 : decode cL_follows 1022 = .ok (.iload 7, 2) := by decide +kernel
theorem dL_follows_1024 : decode cL_follows 1024 = .ok (.ifCond .eq 38, 3) := by decide +kernel
theorem dL_follows_1027 : decode cL_follows 1027 = .ok (.aload_n 0, 1) := by decide +kernel
theorem dL_follows_1028 : decode cL_follows 1028 = .ok (.iconst 1, 1) := by decide +kernel
theorem dL_follows_1029 : decode cL_follows 1029 = .ok (.invokestatic 190, 3) := by decide +kernel
theorem dL_follows_1032 : decode cL_follows 1032 = .ok (.lload 4, 2) := by decide +kernel
theorem dL_follows_1034 : decode cL_follows 1034 = .ok (.lcmp, 1) := by decide +kernel
theorem dL_follows_1035 : decode cL_follows 1035 = .ok (.ifCond .ne 27, 3) := by decide +kernel
theorem dL_follows_1038 : decode cL_follows 1038 = .ok (.aload_n 0, 1) := by decide +kernel
theorem dL_follows_1039 : decode cL_follows 1039 = .ok (.invokestatic 138, 3) := by decide +kernel
theorem dL_follows_1042 : decode cL_follows 1042 = .ok (.lload_n 2, 1) := by decide +kernel
theorem dL_follows_1043 : decode cL_follows 1043 = .ok (.lcmp, 1) := by decide +kernel
theorem dL_follows_1044 : decode cL_follows 1044 = .ok (.ifCond .ne 18, 3) := by decide +kernel
theorem dL_follows_1047 : decode cL_follows 1047 = .ok (.aload_n 0, 1) := by decide +kernel
theorem dL_follows_1048 : decode cL_follows 1048 = .ok (.invokestatic 225, 3) := by decide +kernel
theorem dL_follows_1051 : decode cL_follows 1051 = .ok (.ldc2_w 21, 3) := by decide +kernel
theorem dL_follows_1054 : decode cL_follows 1054 = .ok (.lcmp, 1) := by decide +kernel
theorem dL_follows_1055 : decode cL_follows 1055 = .ok (.ifCond .ne 7, 3) := by decide +kernel
theorem dL_follows_1058 : decode cL_follows 1058 = .ok (.iconst 1, 1) := by decide +kernel
theorem dL_follows_1059 : decode cL_follows 1059 = .ok (.goto 4, 3) := by decide +kernel
theorem dL_follows_1062 : decode cL_follows 1062 = .ok (.iconst 0, 1) := by decide +kernel
theorem dL_follows_1063 : decode cL_follows 1063 = .ok (.ireturn, 1) := by decide +kernel
theorem dL_alike_0 : decode cL_alike 0 = .ok (.aload_n 0, 1) := by decide +kernel
theorem dL_alike_1 : decode cL_alike 1 = .ok (.invokestatic 138, 3) := by decide +kernel
theorem dL_alike_4 : decode cL_alike 4 = .ok (.aload_n 1, 1) := by decide +kernel
theorem dL_alike_5 : decode cL_alike 5 = .ok (.invokestatic 138, 3) := by decide +kernel
theorem dL_alike_8 : decode cL_alike 8 = .ok (.lcmp, 1) := by decide +kernel
theorem dL_alike_9 : decode cL_alike 9 = .ok (.ifCond .ne 176, 3) := by decide +kernel
theorem dL_alike_12 : decode cL_alike 12 = .ok (.aload_n 0, 1) := by decide +kernel
theorem dL_alike_13 : decode cL_alike 13 = .ok (.invokevirtual 231, 3) := by decide +kernel
theorem dL_alike_16 : decode cL_alike 16 = .ok (.aload_n 1, 1) := by decide +kernel
theorem dL_alike_17 : decode cL_alike 17 = .ok (.invokevirtual 231, 3) := by decide +kernel
theorem dL_alike_20 : decode cL_alike 20 = .ok (.if_icmp .ne 165, 3) := by decide +kernel
theorem dL_alike_23 : decode cL_alike 23 = .ok (.aload_n 0, 1) := by decide +kernel
theorem dL_alike_24 : decode cL_alike 24 = .ok (.iconst 1, 1) := by decide +kernel
theorem dL_alike_25 : decode cL_alike 25 = .ok (.iload_n 2, 1) := by decide +kernel
theorem dL_alike_26 : decode cL_alike 26 = .ok (.bipush 90, 2) := by decide +kernel
theorem dL_alike_28 : decode cL_alike 28 = .ok (.irem, 1) := by decide +kernel
theorem dL_alike_29 : decode cL_alike 29 = .ok (.iadd, 1) := by decide +kernel
theorem dL_alike_30 : decode cL_alike 30 = .ok (.iload_n 2, 1) := by decide +kernel
theorem dL_alike_31 : decode cL_alike 31 = .ok (.iconst 4, 1) := by decide +kernel
theorem dL_alike_32 : decode cL_alike 32 = .ok (.irem, 1) := by decide +kernel
theorem dL_alike_33 : decode cL_alike 33 = .ok (.invokestatic 169, 3) := by decide +kernel
theorem dL_alike_36 : decode cL_alike 36 = .ok (.aload_n 1, 1) := by decide +kernel
theorem dL_alike_37 : decode cL_alike 37 = .ok (.iconst 1, 1) := by decide +kernel
theorem dL_alike_38 : decode cL_alike 38 = .ok (.iload_n 2, 1) := by decide +kernel
theorem dL_alike_39 : decode cL_alike 39 = .ok (.bipush 90, 2) := by decide +kernel
theorem dL_alike_41 : decode cL_alike 41 = .ok (.irem, 1) := by decide +kernel
theorem dL_alike_42 : decode cL_alike 42 = .ok (.iadd, 1) := by decide +kernel
theorem dL_alike_43 : decode cL_alike 43 = .ok (.iload_n 2, 1) := by decide +kernel
theorem dL_alike_44 : decode cL_alike 44 = .ok (.iconst 4, 1) := by decide +kernel
theorem dL_alike_45 : decode cL_alike 45 = .ok (.irem, 1) := by decide +kernel
theorem dL_alike_46 : decode cL_alike 46 = .ok (.invokestatic 169, 3) := by decide +kernel
theorem dL_alike_49 : decode cL_alike 49 = .ok (.lcmp, 1) := by decide +kernel
theorem dL_alike_50 : decode cL_alike 50 = .ok (.ifCond .ne 135, 3) := by decide +kernel
theorem dL_alike_53 : decode cL_alike 53 = .ok (.aload_n 0, 1) := by decide +kernel
theorem dL_alike_54 : decode cL_alike 54 = .ok (.iload_n 2, 1) := by decide +kernel
theorem dL_alike_55 : decode cL_alike 55 = .ok (.bipush 10, 2) := by decide +kernel
theorem dL_alike_57 : decode cL_alike 57 = .ok (.irem, 1) := by decide +kernel
theorem dL_alike_58 : decode cL_alike 58 = .ok (.invokestatic 171, 3) := by decide +kernel
theorem dL_alike_61 : decode cL_alike 61 = .ok (.aload_n 1, 1) := by decide +kernel
theorem dL_alike_62 : decode cL_alike 62 = .ok (.iload_n 2, 1) := by decide +kernel
theorem dL_alike_63 : decode cL_alike 63 = .ok (.bipush 10, 2) := by decide +kernel
theorem dL_alike_65 : decode cL_alike 65 = .ok (.irem, 1) := by decide +kernel
theorem dL_alike_66 : decode cL_alike 66 = .ok (.invokestatic 171, 3) := by decide +kernel
theorem dL_alike_69 : decode cL_alike 69 = .ok (.lcmp, 1) := by decide +kernel
theorem dL_alike_70 : decode cL_alike 70 = .ok (.ifCond .ne 115, 3) := by decide +kernel
theorem dL_alike_73 : decode cL_alike 73 = .ok (.aload_n 0, 1) := by decide +kernel
theorem dL_alike_74 : decode cL_alike 74 = .ok (.iload_n 2, 1) := by decide +kernel
theorem dL_alike_75 : decode cL_alike 75 = .ok (.bipush 10, 2) := by decide +kernel
theorem dL_alike_77 : decode cL_alike 77 = .ok (.irem, 1) := by decide +kernel
theorem dL_alike_78 : decode cL_alike 78 = .ok (.invokestatic 165, 3) := by decide +kernel
theorem dL_alike_81 : decode cL_alike 81 = .ok (.aload_n 1, 1) := by decide +kernel
theorem dL_alike_82 : decode cL_alike 82 = .ok (.iload_n 2, 1) := by decide +kernel
theorem dL_alike_83 : decode cL_alike 83 = .ok (.bipush 10, 2) := by decide +kernel
theorem dL_alike_85 : decode cL_alike 85 = .ok (.irem, 1) := by decide +kernel
theorem dL_alike_86 : decode cL_alike 86 = .ok (.invokestatic 165, 3) := by decide +kernel
theorem dL_alike_89 : decode cL_alike 89 = .ok (.lcmp, 1) := by decide +kernel
theorem dL_alike_90 : decode cL_alike 90 = .ok (.ifCond .ne 95, 3) := by decide +kernel
theorem dL_alike_93 : decode cL_alike 93 = .ok (.aload_n 0, 1) := by decide +kernel
theorem dL_alike_94 : decode cL_alike 94 = .ok (.iload_n 2, 1) := by decide +kernel
theorem dL_alike_95 : decode cL_alike 95 = .ok (.bipush 24, 2) := by decide +kernel
theorem dL_alike_97 : decode cL_alike 97 = .ok (.irem, 1) := by decide +kernel
theorem dL_alike_98 : decode cL_alike 98 = .ok (.invokestatic 167, 3) := by decide +kernel
theorem dL_alike_101 : decode cL_alike 101 = .ok (.aload_n 1, 1) := by decide +kernel
theorem dL_alike_102 : decode cL_alike 102 = .ok (.iload_n 2, 1) := by decide +kernel
theorem dL_alike_103 : decode cL_alike 103 = .ok (.bipush 24, 2) := by decide +kernel
theorem dL_alike_105 : decode cL_alike 105 = .ok (.irem, 1) := by decide +kernel
theorem dL_alike_106 : decode cL_alike 106 = .ok (.invokestatic 167, 3) := by decide +kernel
theorem dL_alike_109 : decode cL_alike 109 = .ok (.lcmp, 1) := by decide +kernel
theorem dL_alike_110 : decode cL_alike 110 = .ok (.ifCond .ne 75, 3) := by decide +kernel
theorem dL_alike_113 : decode cL_alike 113 = .ok (.aload_n 0, 1) := by decide +kernel
theorem dL_alike_114 : decode cL_alike 114 = .ok (.iload_n 2, 1) := by decide +kernel
theorem dL_alike_115 : decode cL_alike 115 = .ok (.bipush 24, 2) := by decide +kernel
theorem dL_alike_117 : decode cL_alike 117 = .ok (.irem, 1) := by decide +kernel
theorem dL_alike_118 : decode cL_alike 118 = .ok (.iload_n 2, 1) := by decide +kernel
theorem dL_alike_119 : decode cL_alike 119 = .ok (.bipush 14, 2) := by decide +kernel
theorem dL_alike_121 : decode cL_alike 121 = .ok (.irem, 1) := by decide +kernel
theorem dL_alike_122 : decode cL_alike 122 = .ok (.invokestatic 142, 3) := by decide +kernel
theorem dL_alike_125 : decode cL_alike 125 = .ok (.aload_n 1, 1) := by decide +kernel
theorem dL_alike_126 : decode cL_alike 126 = .ok (.iload_n 2, 1) := by decide +kernel
theorem dL_alike_127 : decode cL_alike 127 = .ok (.bipush 24, 2) := by decide +kernel
theorem dL_alike_129 : decode cL_alike 129 = .ok (.irem, 1) := by decide +kernel
theorem dL_alike_130 : decode cL_alike 130 = .ok (.iload_n 2, 1) := by decide +kernel
theorem dL_alike_131 : decode cL_alike 131 = .ok (.bipush 14, 2) := by decide +kernel
theorem dL_alike_133 : decode cL_alike 133 = .ok (.irem, 1) := by decide +kernel
theorem dL_alike_134 : decode cL_alike 134 = .ok (.invokestatic 142, 3) := by decide +kernel
theorem dL_alike_137 : decode cL_alike 137 = .ok (.lcmp, 1) := by decide +kernel
theorem dL_alike_138 : decode cL_alike 138 = .ok (.ifCond .ne 47, 3) := by decide +kernel
theorem dL_alike_141 : decode cL_alike 141 = .ok (.aload_n 0, 1) := by decide +kernel
theorem dL_alike_142 : decode cL_alike 142 = .ok (.iload_n 2, 1) := by decide +kernel
theorem dL_alike_143 : decode cL_alike 143 = .ok (.i2l, 1) := by decide +kernel
theorem dL_alike_144 : decode cL_alike 144 = .ok (.bipush 15, 2) := by decide +kernel
theorem dL_alike_146 : decode cL_alike 146 = .ok (.invokestatic 185, 3) := by decide +kernel
theorem dL_alike_149 : decode cL_alike 149 = .ok (.aload_n 1, 1) := by decide +kernel
theorem dL_alike_150 : decode cL_alike 150 = .ok (.iload_n 2, 1) := by decide +kernel
theorem dL_alike_151 : decode cL_alike 151 = .ok (.i2l, 1) := by decide +kernel
theorem dL_alike_152 : decode cL_alike 152 = .ok (.bipush 15, 2) := by decide +kernel
theorem dL_alike_154 : decode cL_alike 154 = .ok (.invokestatic 185, 3) := by decide +kernel
theorem dL_alike_157 : decode cL_alike 157 = .ok (.lcmp, 1) := by decide +kernel
theorem dL_alike_158 : decode cL_alike 158 = .ok (.ifCond .ne 27, 3) := by decide +kernel
theorem dL_alike_161 : decode cL_alike 161 = .ok (.aload_n 0, 1) := by decide +kernel
theorem dL_alike_162 : decode cL_alike 162 = .ok (.iconst 3, 1) := by decide +kernel
theorem dL_alike_163 : decode cL_alike 163 = .ok (.ldc2_w 234, 3) := by decide +kernel
theorem dL_alike_166 : decode cL_alike 166 = .ok (.invokestatic 179, 3) := by decide +kernel
theorem dL_alike_169 : decode cL_alike 169 = .ok (.aload_n 1, 1) := by decide +kernel
theorem dL_alike_170 : decode cL_alike 170 = .ok (.iconst 3, 1) := by decide +kernel
theorem dL_alike_171 : decode cL_alike 171 = .ok (.ldc2_w 234, 3) := by decide +kernel
theorem dL_alike_174 : decode cL_alike 174 = .ok (.invokestatic 179, 3) := by decide +kernel
theorem dL_alike_177 : decode cL_alike 177 = .ok (.lcmp, 1) := by decide +kernel
theorem dL_alike_178 : decode cL_alike 178 = .ok (.ifCond .ne 7, 3) := by decide +kernel
theorem dL_alike_181 : decode cL_alike 181 = .ok (.iconst 1, 1) := by decide +kernel
theorem dL_alike_182 : decode cL_alike 182 = .ok (.goto 4, 3) := by decide +kernel
theorem dL_alike_185 : decode cL_alike 185 = .ok (.iconst 0, 1) := by decide +kernel
theorem dL_alike_186 : decode cL_alike 186 = .ok (.ireturn, 1) := by decide +kernel
theorem dL_says_0 : decode cL_says 0 = .ok (.aload_n 0, 1) := by decide +kernel
theorem dL_says_1 : decode cL_says 1 = .ok (.iload_n 1, 1) := by decide +kernel
theorem dL_says_2 : decode cL_says 2 = .ok (.invokestatic 192, 3) := by decide +kernel
theorem dL_says_5 : decode cL_says 5 = .ok (.lconst 0, 1) := by decide +kernel
theorem dL_says_6 : decode cL_says 6 = .ok (.lcmp, 1) := by decide +kernel
theorem dL_says_7 : decode cL_says 7 = .ok (.ifCond .le 7, 3) := by decide +kernel
theorem dL_says_10 : decode cL_says 10 = .ok (.iconst 1, 1) := by decide +kernel
theorem dL_says_11 : decode cL_says 11 = .ok (.goto 4, 3) := by decide +kernel
theorem dL_says_14 : decode cL_says 14 = .ok (.iconst 0, 1) := by decide +kernel
theorem dL_says_15 : decode cL_says 15 = .ok (.ireturn, 1) := by decide +kernel
theorem dL_number_0 : decode cL_number 0 = .ok (.aload_n 0, 1) := by decide +kernel
theorem dL_number_1 : decode cL_number 1 = .ok (.bipush 44, 2) := by decide +kernel
theorem dL_number_3 : decode cL_number 3 = .ok (.invokestatic 236, 3) := by decide +kernel
theorem dL_number_6 : decode cL_number 6 = .ok (.ifCond .eq 41, 3) := by decide +kernel
theorem dL_number_9 : decode cL_number 9 = .ok (.iload_n 1, 1) := by decide +kernel
theorem dL_number_10 : decode cL_number 10 = .ok (.bipush 10, 2) := by decide +kernel
theorem dL_number_12 : decode cL_number 12 = .ok (.if_icmp .lt 17, 3) := by decide +kernel
theorem dL_number_15 : decode cL_number 15 = .ok (.aload_n 0, 1) := by decide +kernel
theorem dL_number_16 : decode cL_number 16 = .ok (.bipush 48, 2) := by decide +kernel
theorem dL_number_18 : decode cL_number 18 = .ok (.iload_n 1, 1) := by decide +kernel
theorem dL_number_19 : decode cL_number 19 = .ok (.bipush 10, 2) := by decide +kernel
theorem dL_number_21 : decode cL_number 21 = .ok (.idiv, 1) := by decide +kernel
theorem dL_number_22 : decode cL_number 22 = .ok (.iadd, 1) := by decide +kernel
theorem dL_number_23 : decode cL_number 23 = .ok (.invokestatic 236, 3) := by decide +kernel
theorem dL_number_26 : decode cL_number 26 = .ok (.ifCond .eq 21, 3) := by decide +kernel
theorem dL_number_29 : decode cL_number 29 = .ok (.aload_n 0, 1) := by decide +kernel
theorem dL_number_30 : decode cL_number 30 = .ok (.bipush 48, 2) := by decide +kernel
theorem dL_number_32 : decode cL_number 32 = .ok (.iload_n 1, 1) := by decide +kernel
theorem dL_number_33 : decode cL_number 33 = .ok (.bipush 10, 2) := by decide +kernel
theorem dL_number_35 : decode cL_number 35 = .ok (.irem, 1) := by decide +kernel
theorem dL_number_36 : decode cL_number 36 = .ok (.iadd, 1) := by decide +kernel
theorem dL_number_37 : decode cL_number 37 = .ok (.invokestatic 236, 3) := by decide +kernel
theorem dL_number_40 : decode cL_number 40 = .ok (.ifCond .eq 7, 3) := by decide +kernel
theorem dL_number_43 : decode cL_number 43 = .ok (.iconst 1, 1) := by decide +kernel
theorem dL_number_44 : decode cL_number 44 = .ok (.goto 4, 3) := by decide +kernel
theorem dL_number_47 : decode cL_number 47 = .ok (.iconst 0, 1) := by decide +kernel
theorem dL_number_48 : decode cL_number 48 = .ok (.ireturn, 1) := by decide +kernel
theorem dL_tells_0 : decode cL_tells 0 = .ok (.aload_n 0, 1) := by decide +kernel
theorem dL_tells_1 : decode cL_tells 1 = .ok (.invokevirtual 240, 3) := by decide +kernel
theorem dL_tells_4 : decode cL_tells 4 = .ok (.ifCond .lt 7, 3) := by decide +kernel
theorem dL_tells_7 : decode cL_tells 7 = .ok (.iconst 1, 1) := by decide +kernel
theorem dL_tells_8 : decode cL_tells 8 = .ok (.goto 4, 3) := by decide +kernel
theorem dL_tells_11 : decode cL_tells 11 = .ok (.iconst 0, 1) := by decide +kernel
theorem dL_tells_12 : decode cL_tells 12 = .ok (.istore_n 3, 1) := by decide +kernel
theorem dL_tells_13 : decode cL_tells 13 = .ok (.iconst 0, 1) := by decide +kernel
theorem dL_tells_14 : decode cL_tells 14 = .ok (.istore 4, 2) := by decide +kernel
theorem dL_tells_16 : decode cL_tells 16 = .ok (.iload 4, 2) := by decide +kernel
theorem dL_tells_18 : decode cL_tells 18 = .ok (.iconst 5, 1) := by decide +kernel
theorem dL_tells_19 : decode cL_tells 19 = .ok (.if_icmp .ge 181, 3) := by decide +kernel
theorem dL_tells_22 : decode cL_tells 22 = .ok (.iload_n 3, 1) := by decide +kernel
theorem dL_tells_23 : decode cL_tells 23 = .ok (.ifCond .eq 177, 3) := by decide +kernel
theorem dL_tells_26 : decode cL_tells 26 = .ok (.iload_n 1, 1) := by decide +kernel
theorem dL_tells_27 : decode cL_tells 27 = .ok (.iload 4, 2) := by decide +kernel
theorem dL_tells_29 : decode cL_tells 29 = .ok (.ishr, 1) := by decide +kernel
theorem dL_tells_30 : decode cL_tells 30 = .ok (.ldc 243, 2) := by decide +kernel
theorem dL_tells_32 : decode cL_tells 32 = .ok (.irem, 1) := by decide +kernel
theorem dL_tells_33 : decode cL_tells 33 = .ok (.bipush 113, 2) := by decide +kernel
theorem dL_tells_35 : decode cL_tells 35 = .ok (.iload 4, 2) := by decide +kernel
theorem dL_tells_37 : decode cL_tells 37 = .ok (.imul, 1) := by decide +kernel
theorem dL_tells_38 : decode cL_tells 38 = .ok (.iadd, 1) := by decide +kernel
theorem dL_tells_39 : decode cL_tells 39 = .ok (.istore 5, 2) := by decide +kernel
theorem dL_tells_41 : decode cL_tells 41 = .ok (.iload_n 2, 1) := by decide +kernel
theorem dL_tells_42 : decode cL_tells 42 = .ok (.iload 4, 2) := by decide +kernel
theorem dL_tells_44 : decode cL_tells 44 = .ok (.ishr, 1) := by decide +kernel
theorem dL_tells_45 : decode cL_tells 45 = .ok (.ldc 243, 2) := by decide +kernel
theorem dL_tells_47 : decode cL_tells 47 = .ok (.irem, 1) := by decide +kernel
theorem dL_tells_48 : decode cL_tells 48 = .ok (.bipush 127, 2) := by decide +kernel
theorem dL_tells_50 : decode cL_tells 50 = .ok (.iload 4, 2) := by decide +kernel
theorem dL_tells_52 : decode cL_tells 52 = .ok (.imul, 1) := by decide +kernel
theorem dL_tells_53 : decode cL_tells 53 = .ok (.iadd, 1) := by decide +kernel
theorem dL_tells_54 : decode cL_tells 54 = .ok (.istore 6, 2) := by decide +kernel
theorem dL_tells_56 : decode cL_tells 56 = .ok (.aload_n 0, 1) := by decide +kernel
theorem dL_tells_57 : decode cL_tells 57 = .ok (.bipush 108, 2) := by decide +kernel
theorem dL_tells_59 : decode cL_tells 59 = .ok (.invokestatic 236, 3) := by decide +kernel
theorem dL_tells_62 : decode cL_tells 62 = .ok (.ifCond .eq 130, 3) := by decide +kernel
theorem dL_tells_65 : decode cL_tells 65 = .ok (.aload_n 0, 1) := by decide +kernel
theorem dL_tells_66 : decode cL_tells 66 = .ok (.bipush 101, 2) := by decide +kernel
theorem dL_tells_68 : decode cL_tells 68 = .ok (.invokestatic 236, 3) := by decide +kernel
theorem dL_tells_71 : decode cL_tells 71 = .ok (.ifCond .eq 121, 3) := by decide +kernel
theorem dL_tells_74 : decode cL_tells 74 = .ok (.aload_n 0, 1) := by decide +kernel
theorem dL_tells_75 : decode cL_tells 75 = .ok (.bipush 116, 2) := by decide +kernel
theorem dL_tells_77 : decode cL_tells 77 = .ok (.invokestatic 236, 3) := by decide +kernel
theorem dL_tells_80 : decode cL_tells 80 = .ok (.ifCond .eq 112, 3) := by decide +kernel
theorem dL_tells_83 : decode cL_tells 83 = .ok (.aload_n 0, 1) := by decide +kernel
theorem dL_tells_84 : decode cL_tells 84 = .ok (.iload 5, 2) := by decide +kernel
theorem dL_tells_86 : decode cL_tells 86 = .ok (.bipush 10, 2) := by decide +kernel
theorem dL_tells_88 : decode cL_tells 88 = .ok (.irem, 1) := by decide +kernel
theorem dL_tells_89 : decode cL_tells 89 = .ok (.invokestatic 244, 3) := by decide +kernel
theorem dL_tells_92 : decode cL_tells 92 = .ok (.ifCond .eq 100, 3) := by decide +kernel
theorem dL_tells_95 : decode cL_tells 95 = .ok (.aload_n 0, 1) := by decide +kernel
theorem dL_tells_96 : decode cL_tells 96 = .ok (.iload 6, 2) := by decide +kernel
theorem dL_tells_98 : decode cL_tells 98 = .ok (.bipush 24, 2) := by decide +kernel
theorem dL_tells_100 : decode cL_tells 100 = .ok (.irem, 1) := by decide +kernel
theorem dL_tells_101 : decode cL_tells 101 = .ok (.invokestatic 244, 3) := by decide +kernel
theorem dL_tells_104 : decode cL_tells 104 = .ok (.ifCond .eq 88, 3) := by decide +kernel
theorem dL_tells_107 : decode cL_tells 107 = .ok (.aload_n 0, 1) := by decide +kernel
theorem dL_tells_108 : decode cL_tells 108 = .ok (.bipush 59, 2) := by decide +kernel
theorem dL_tells_110 : decode cL_tells 110 = .ok (.invokestatic 236, 3) := by decide +kernel
theorem dL_tells_113 : decode cL_tells 113 = .ok (.ifCond .eq 79, 3) := by decide +kernel
theorem dL_tells_116 : decode cL_tells 116 = .ok (.aload_n 0, 1) := by decide +kernel
theorem dL_tells_117 : decode cL_tells 117 = .ok (.bipush 98, 2) := by decide +kernel
theorem dL_tells_119 : decode cL_tells 119 = .ok (.invokestatic 236, 3) := by decide +kernel
theorem dL_tells_122 : decode cL_tells 122 = .ok (.ifCond .eq 70, 3) := by decide +kernel
theorem dL_tells_125 : decode cL_tells 125 = .ok (.aload_n 0, 1) := by decide +kernel
theorem dL_tells_126 : decode cL_tells 126 = .ok (.bipush 117, 2) := by decide +kernel
theorem dL_tells_128 : decode cL_tells 128 = .ok (.invokestatic 236, 3) := by decide +kernel
theorem dL_tells_131 : decode cL_tells 131 = .ok (.ifCond .eq 61, 3) := by decide +kernel
theorem dL_tells_134 : decode cL_tells 134 = .ok (.aload_n 0, 1) := by decide +kernel
theorem dL_tells_135 : decode cL_tells 135 = .ok (.bipush 114, 2) := by decide +kernel
theorem dL_tells_137 : decode cL_tells 137 = .ok (.invokestatic 236, 3) := by decide +kernel
theorem dL_tells_140 : decode cL_tells 140 = .ok (.ifCond .eq 52, 3) := by decide +kernel
theorem dL_tells_143 : decode cL_tells 143 = .ok (.aload_n 0, 1) := by decide +kernel
theorem dL_tells_144 : decode cL_tells 144 = .ok (.bipush 121, 2) := by decide +kernel
theorem dL_tells_146 : decode cL_tells 146 = .ok (.invokestatic 236, 3) := by decide +kernel
theorem dL_tells_149 : decode cL_tells 149 = .ok (.ifCond .eq 43, 3) := by decide +kernel
theorem dL_tells_152 : decode cL_tells 152 = .ok (.aload_n 0, 1) := by decide +kernel
theorem dL_tells_153 : decode cL_tells 153 = .ok (.iload 4, 2) := by decide +kernel
theorem dL_tells_155 : decode cL_tells 155 = .ok (.iconst 2, 1) := by decide +kernel
theorem dL_tells_156 : decode cL_tells 156 = .ok (.irem, 1) := by decide +kernel
theorem dL_tells_157 : decode cL_tells 157 = .ok (.ifCond .ne 11, 3) := by decide +kernel
theorem dL_tells_160 : decode cL_tells 160 = .ok (.iload 6, 2) := by decide +kernel
theorem dL_tells_162 : decode cL_tells 162 = .ok (.bipush 24, 2) := by decide +kernel
theorem dL_tells_164 : decode cL_tells 164 = .ok (.irem, 1) := by decide +kernel
theorem dL_tells_165 : decode cL_tells 165 = .ok (.goto 8, 3) := by decide +kernel
theorem dL_tells_168 : decode cL_tells 168 = .ok (.iload 5, 2) := by decide +kernel
theorem dL_tells_170 : decode cL_tells 170 = .ok (.bipush 24, 2) := by decide +kernel
theorem dL_tells_172 : decode cL_tells 172 = .ok (.irem, 1) := by decide +kernel
theorem dL_tells_173 : decode cL_tells 173 = .ok (.invokestatic 244, 3) := by decide +kernel
theorem dL_tells_176 : decode cL_tells 176 = .ok (.ifCond .eq 16, 3) := by decide +kernel
theorem dL_tells_179 : decode cL_tells 179 = .ok (.aload_n 0, 1) := by decide +kernel
theorem dL_tells_180 : decode cL_tells 180 = .ok (.bipush 59, 2) := by decide +kernel
theorem dL_tells_182 : decode cL_tells 182 = .ok (.invokestatic 236, 3) := by decide +kernel
theorem dL_tells_185 : decode cL_tells 185 = .ok (.ifCond .eq 7, 3) := by decide +kernel
theorem dL_tells_188 : decode cL_tells 188 = .ok (.iconst 1, 1) := by decide +kernel
theorem dL_tells_189 : decode cL_tells 189 = .ok (.goto 4, 3) := by decide +kernel
theorem dL_tells_192 : decode cL_tells 192 = .ok (.iconst 0, 1) := by decide +kernel
theorem dL_tells_193 : decode cL_tells 193 = .ok (.istore_n 3, 1) := by decide +kernel
theorem dL_tells_194 : decode cL_tells 194 = .ok (.iinc 4 1, 3) := by decide +kernel
theorem dL_tells_197 : decode cL_tells 197 = .ok (.goto (-181), 3) := by decide +kernel
theorem dL_tells_200 : decode cL_tells 200 = .ok (.iload_n 3, 1) := by decide +kernel
theorem dL_tells_201 : decode cL_tells 201 = .ok (.ifCond .eq 102, 3) := by decide +kernel
theorem dL_tells_204 : decode cL_tells 204 = .ok (.aload_n 0, 1) := by decide +kernel
theorem dL_tells_205 : decode cL_tells 205 = .ok (.bipush 97, 2) := by decide +kernel
theorem dL_tells_207 : decode cL_tells 207 = .ok (.invokestatic 236, 3) := by decide +kernel
theorem dL_tells_210 : decode cL_tells 210 = .ok (.ifCond .eq 93, 3) := by decide +kernel
theorem dL_tells_213 : decode cL_tells 213 = .ok (.aload_n 0, 1) := by decide +kernel
theorem dL_tells_214 : decode cL_tells 214 = .ok (.bipush 115, 2) := by decide +kernel
theorem dL_tells_216 : decode cL_tells 216 = .ok (.invokestatic 236, 3) := by decide +kernel
theorem dL_tells_219 : decode cL_tells 219 = .ok (.ifCond .eq 84, 3) := by decide +kernel
theorem dL_tells_222 : decode cL_tells 222 = .ok (.aload_n 0, 1) := by decide +kernel
theorem dL_tells_223 : decode cL_tells 223 = .ok (.bipush 107, 2) := by decide +kernel
theorem dL_tells_225 : decode cL_tells 225 = .ok (.invokestatic 236, 3) := by decide +kernel
theorem dL_tells_228 : decode cL_tells 228 = .ok (.ifCond .eq 75, 3) := by decide +kernel
theorem dL_tells_231 : decode cL_tells 231 = .ok (.aload_n 0, 1) := by decide +kernel
theorem dL_tells_232 : decode cL_tells 232 = .ok (.iload_n 1, 1) := by decide +kernel
theorem dL_tells_233 : decode cL_tells 233 = .ok (.bipush 10, 2) := by decide +kernel
theorem dL_tells_235 : decode cL_tells 235 = .ok (.irem, 1) := by decide +kernel
theorem dL_tells_236 : decode cL_tells 236 = .ok (.invokestatic 244, 3) := by decide +kernel
theorem dL_tells_239 : decode cL_tells 239 = .ok (.ifCond .eq 64, 3) := by decide +kernel
theorem dL_tells_242 : decode cL_tells 242 = .ok (.aload_n 0, 1) := by decide +kernel
theorem dL_tells_243 : decode cL_tells 243 = .ok (.bipush 59, 2) := by decide +kernel
theorem dL_tells_245 : decode cL_tells 245 = .ok (.invokestatic 236, 3) := by decide +kernel
theorem dL_tells_248 : decode cL_tells 248 = .ok (.ifCond .eq 55, 3) := by decide +kernel
theorem dL_tells_251 : decode cL_tells 251 = .ok (.aload_n 0, 1) := by decide +kernel
theorem dL_tells_252 : decode cL_tells 252 = .ok (.bipush 114, 2) := by decide +kernel
theorem dL_tells_254 : decode cL_tells 254 = .ok (.invokestatic 236, 3) := by decide +kernel
theorem dL_tells_257 : decode cL_tells 257 = .ok (.ifCond .eq 46, 3) := by decide +kernel
theorem dL_tells_260 : decode cL_tells 260 = .ok (.aload_n 0, 1) := by decide +kernel
theorem dL_tells_261 : decode cL_tells 261 = .ok (.bipush 117, 2) := by decide +kernel
theorem dL_tells_263 : decode cL_tells 263 = .ok (.invokestatic 236, 3) := by decide +kernel
theorem dL_tells_266 : decode cL_tells 266 = .ok (.ifCond .eq 37, 3) := by decide +kernel
theorem dL_tells_269 : decode cL_tells 269 = .ok (.aload_n 0, 1) := by decide +kernel
theorem dL_tells_270 : decode cL_tells 270 = .ok (.bipush 110, 2) := by decide +kernel
theorem dL_tells_272 : decode cL_tells 272 = .ok (.invokestatic 236, 3) := by decide +kernel
theorem dL_tells_275 : decode cL_tells 275 = .ok (.ifCond .eq 28, 3) := by decide +kernel
theorem dL_tells_278 : decode cL_tells 278 = .ok (.aload_n 0, 1) := by decide +kernel
theorem dL_tells_279 : decode cL_tells 279 = .ok (.iconst 1, 1) := by decide +kernel
theorem dL_tells_280 : decode cL_tells 280 = .ok (.iload_n 2, 1) := by decide +kernel
theorem dL_tells_281 : decode cL_tells 281 = .ok (.bipush 40, 2) := by decide +kernel
theorem dL_tells_283 : decode cL_tells 283 = .ok (.irem, 1) := by decide +kernel
theorem dL_tells_284 : decode cL_tells 284 = .ok (.iadd, 1) := by decide +kernel
theorem dL_tells_285 : decode cL_tells 285 = .ok (.invokestatic 244, 3) := by decide +kernel
theorem dL_tells_288 : decode cL_tells 288 = .ok (.ifCond .eq 15, 3) := by decide +kernel
theorem dL_tells_291 : decode cL_tells 291 = .ok (.aload_n 0, 1) := by decide +kernel
theorem dL_tells_292 : decode cL_tells 292 = .ok (.invokevirtual 231, 3) := by decide +kernel
theorem dL_tells_295 : decode cL_tells 295 = .ok (.iconst (-1), 1) := by decide +kernel
theorem dL_tells_296 : decode cL_tells 296 = .ok (.if_icmp .ne 7, 3) := by decide +kernel
theorem dL_tells_299 : decode cL_tells 299 = .ok (.iconst 1, 1) := by decide +kernel
theorem dL_tells_300 : decode cL_tells 300 = .ok (.goto 4, 3) := by decide +kernel
theorem dL_tells_303 : decode cL_tells 303 = .ok (.iconst 0, 1) := by decide +kernel
theorem dL_tells_304 : decode cL_tells 304 = .ok (.ireturn, 1) := by decide +kernel
theorem dL_act_0 : decode cL_act 0 = .ok (.iload_n 2, 1) := by decide +kernel
theorem dL_act_1 : decode cL_act 1 = .ok (.iconst 4, 1) := by decide +kernel
theorem dL_act_2 : decode cL_act 2 = .ok (.idiv, 1) := by decide +kernel
theorem dL_act_3 : decode cL_act 3 = .ok (.istore_n 3, 1) := by decide +kernel
theorem dL_act_4 : decode cL_act 4 = .ok (.iload_n 3, 1) := by decide +kernel
theorem dL_act_5 : decode cL_act 5 = .ok (.bipush 24, 2) := by decide +kernel
theorem dL_act_7 : decode cL_act 7 = .ok (.irem, 1) := by decide +kernel
theorem dL_act_8 : decode cL_act 8 = .ok (.istore 4, 2) := by decide +kernel
theorem dL_act_10 : decode cL_act 10 = .ok (.iconst 0, 1) := by decide +kernel
theorem dL_act_11 : decode cL_act 11 = .ok (.istore 5, 2) := by decide +kernel
theorem dL_act_13 : decode cL_act 13 = .ok (.iload 5, 2) := by decide +kernel
theorem dL_act_15 : decode cL_act 15 = .ok (.bipush 24, 2) := by decide +kernel
theorem dL_act_17 : decode cL_act 17 = .ok (.if_icmp .ge 38, 3) := by decide +kernel
theorem dL_act_20 : decode cL_act 20 = .ok (.iload_n 3, 1) := by decide +kernel
theorem dL_act_21 : decode cL_act 21 = .ok (.iconst 5, 1) := by decide +kernel
theorem dL_act_22 : decode cL_act 22 = .ok (.irem, 1) := by decide +kernel
theorem dL_act_23 : decode cL_act 23 = .ok (.ifCond .le 32, 3) := by decide +kernel
theorem dL_act_26 : decode cL_act 26 = .ok (.aload_n 0, 1) := by decide +kernel
theorem dL_act_27 : decode cL_act 27 = .ok (.iload 4, 2) := by decide +kernel
theorem dL_act_29 : decode cL_act 29 = .ok (.iconst 0, 1) := by decide +kernel
theorem dL_act_30 : decode cL_act 30 = .ok (.invokestatic 129, 3) := by decide +kernel
theorem dL_act_33 : decode cL_act 33 = .ok (.ldc2_w 173, 3) := by decide +kernel
theorem dL_act_36 : decode cL_act 36 = .ok (.lcmp, 1) := by decide +kernel
theorem dL_act_37 : decode cL_act 37 = .ok (.ifCond .ne 18, 3) := by decide +kernel
theorem dL_act_40 : decode cL_act 40 = .ok (.iload 4, 2) := by decide +kernel
theorem dL_act_42 : decode cL_act 42 = .ok (.iconst 1, 1) := by decide +kernel
theorem dL_act_43 : decode cL_act 43 = .ok (.iadd, 1) := by decide +kernel
theorem dL_act_44 : decode cL_act 44 = .ok (.bipush 24, 2) := by decide +kernel
theorem dL_act_46 : decode cL_act 46 = .ok (.irem, 1) := by decide +kernel
theorem dL_act_47 : decode cL_act 47 = .ok (.istore 4, 2) := by decide +kernel
theorem dL_act_49 : decode cL_act 49 = .ok (.iinc 5 1, 3) := by decide +kernel
theorem dL_act_52 : decode cL_act 52 = .ok (.goto (-39), 3) := by decide +kernel
theorem dL_act_55 : decode cL_act 55 = .ok (.iload_n 1, 1) := by decide +kernel
theorem dL_act_56 : decode cL_act 56 = .ok (.bipush 24, 2) := by decide +kernel
theorem dL_act_58 : decode cL_act 58 = .ok (.irem, 1) := by decide +kernel
theorem dL_act_59 : decode cL_act 59 = .ok (.tableswitch 251 0 19 #[93, 93, 93, 93, 102, 118, 118, 118, 118, 125, 141, 141, 155, 155, 176, 176, 183, 198, 218, 223], 93) := by decide +kernel
theorem dL_act_152 : decode cL_act 152 = .ok (.aload_n 0, 1) := by decide +kernel
theorem dL_act_153 : decode cL_act 153 = .ok (.iload_n 3, 1) := by decide +kernel
theorem dL_act_154 : decode cL_act 154 = .ok (.bipush 10, 2) := by decide +kernel
theorem dL_act_156 : decode cL_act 156 = .ok (.irem, 1) := by decide +kernel
theorem dL_act_157 : decode cL_act 157 = .ok (.invokestatic 144, 3) := by decide +kernel
theorem dL_act_160 : decode cL_act 160 = .ok (.lreturn, 1) := by decide +kernel
theorem dL_act_161 : decode cL_act 161 = .ok (.aload_n 0, 1) := by decide +kernel
theorem dL_act_162 : decode cL_act 162 = .ok (.iload_n 3, 1) := by decide +kernel
theorem dL_act_163 : decode cL_act 163 = .ok (.bipush 10, 2) := by decide +kernel
theorem dL_act_165 : decode cL_act 165 = .ok (.irem, 1) := by decide +kernel
theorem dL_act_166 : decode cL_act 166 = .ok (.iload_n 3, 1) := by decide +kernel
theorem dL_act_167 : decode cL_act 167 = .ok (.bipush 10, 2) := by decide +kernel
theorem dL_act_169 : decode cL_act 169 = .ok (.idiv, 1) := by decide +kernel
theorem dL_act_170 : decode cL_act 170 = .ok (.bipush 24, 2) := by decide +kernel
theorem dL_act_172 : decode cL_act 172 = .ok (.irem, 1) := by decide +kernel
theorem dL_act_173 : decode cL_act 173 = .ok (.invokestatic 146, 3) := by decide +kernel
theorem dL_act_176 : decode cL_act 176 = .ok (.lreturn, 1) := by decide +kernel
theorem dL_act_177 : decode cL_act 177 = .ok (.aload_n 0, 1) := by decide +kernel
theorem dL_act_178 : decode cL_act 178 = .ok (.iload 4, 2) := by decide +kernel
theorem dL_act_180 : decode cL_act 180 = .ok (.invokestatic 148, 3) := by decide +kernel
theorem dL_act_183 : decode cL_act 183 = .ok (.lreturn, 1) := by decide +kernel
theorem dL_act_184 : decode cL_act 184 = .ok (.aload_n 0, 1) := by decide +kernel
theorem dL_act_185 : decode cL_act 185 = .ok (.iload 4, 2) := by decide +kernel
theorem dL_act_187 : decode cL_act 187 = .ok (.iconst 1, 1) := by decide +kernel
theorem dL_act_188 : decode cL_act 188 = .ok (.iload_n 3, 1) := by decide +kernel
theorem dL_act_189 : decode cL_act 189 = .ok (.bipush 24, 2) := by decide +kernel
theorem dL_act_191 : decode cL_act 191 = .ok (.idiv, 1) := by decide +kernel
theorem dL_act_192 : decode cL_act 192 = .ok (.bipush 40, 2) := by decide +kernel
theorem dL_act_194 : decode cL_act 194 = .ok (.irem, 1) := by decide +kernel
theorem dL_act_195 : decode cL_act 195 = .ok (.iadd, 1) := by decide +kernel
theorem dL_act_196 : decode cL_act 196 = .ok (.invokestatic 150, 3) := by decide +kernel
theorem dL_act_199 : decode cL_act 199 = .ok (.lreturn, 1) := by decide +kernel
theorem dL_act_200 : decode cL_act 200 = .ok (.aload_n 0, 1) := by decide +kernel
theorem dL_act_201 : decode cL_act 201 = .ok (.iload 4, 2) := by decide +kernel
theorem dL_act_203 : decode cL_act 203 = .ok (.iload_n 3, 1) := by decide +kernel
theorem dL_act_204 : decode cL_act 204 = .ok (.bipush 24, 2) := by decide +kernel
theorem dL_act_206 : decode cL_act 206 = .ok (.idiv, 1) := by decide +kernel
theorem dL_act_207 : decode cL_act 207 = .ok (.bipush 10, 2) := by decide +kernel
theorem dL_act_209 : decode cL_act 209 = .ok (.irem, 1) := by decide +kernel
theorem dL_act_210 : decode cL_act 210 = .ok (.invokestatic 152, 3) := by decide +kernel
theorem dL_act_213 : decode cL_act 213 = .ok (.lreturn, 1) := by decide +kernel
theorem dL_act_214 : decode cL_act 214 = .ok (.aload_n 0, 1) := by decide +kernel
theorem dL_act_215 : decode cL_act 215 = .ok (.iload 4, 2) := by decide +kernel
theorem dL_act_217 : decode cL_act 217 = .ok (.iload_n 3, 1) := by decide +kernel
theorem dL_act_218 : decode cL_act 218 = .ok (.bipush 24, 2) := by decide +kernel
theorem dL_act_220 : decode cL_act 220 = .ok (.idiv, 1) := by decide +kernel
theorem dL_act_221 : decode cL_act 221 = .ok (.iconst 2, 1) := by decide +kernel
theorem dL_act_222 : decode cL_act 222 = .ok (.irem, 1) := by decide +kernel
theorem dL_act_223 : decode cL_act 223 = .ok (.ifCond .ne 7, 3) := by decide +kernel
theorem dL_act_226 : decode cL_act 226 = .ok (.iconst 1, 1) := by decide +kernel
theorem dL_act_227 : decode cL_act 227 = .ok (.goto 4, 3) := by decide +kernel
theorem dL_act_230 : decode cL_act 230 = .ok (.iconst 0, 1) := by decide +kernel
theorem dL_act_231 : decode cL_act 231 = .ok (.invokestatic 154, 3) := by decide +kernel
theorem dL_act_234 : decode cL_act 234 = .ok (.lreturn, 1) := by decide +kernel
theorem dL_act_235 : decode cL_act 235 = .ok (.aload_n 0, 1) := by decide +kernel
theorem dL_act_236 : decode cL_act 236 = .ok (.iload 4, 2) := by decide +kernel
theorem dL_act_238 : decode cL_act 238 = .ok (.invokestatic 157, 3) := by decide +kernel
theorem dL_act_241 : decode cL_act 241 = .ok (.lreturn, 1) := by decide +kernel
theorem dL_act_242 : decode cL_act 242 = .ok (.aload_n 0, 1) := by decide +kernel
theorem dL_act_243 : decode cL_act 243 = .ok (.iload_n 3, 1) := by decide +kernel
theorem dL_act_244 : decode cL_act 244 = .ok (.iconst 4, 1) := by decide +kernel
theorem dL_act_245 : decode cL_act 245 = .ok (.irem, 1) := by decide +kernel
theorem dL_act_246 : decode cL_act 246 = .ok (.iconst 1, 1) := by decide +kernel
theorem dL_act_247 : decode cL_act 247 = .ok (.iload_n 3, 1) := by decide +kernel
theorem dL_act_248 : decode cL_act 248 = .ok (.iconst 4, 1) := by decide +kernel
theorem dL_act_249 : decode cL_act 249 = .ok (.idiv, 1) := by decide +kernel
theorem dL_act_250 : decode cL_act 250 = .ok (.iconst 3, 1) := by decide +kernel
theorem dL_act_251 : decode cL_act 251 = .ok (.irem, 1) := by decide +kernel
theorem dL_act_252 : decode cL_act 252 = .ok (.iadd, 1) := by decide +kernel
theorem dL_act_253 : decode cL_act 253 = .ok (.invokestatic 159, 3) := by decide +kernel
theorem dL_act_256 : decode cL_act 256 = .ok (.lreturn, 1) := by decide +kernel
theorem dL_act_257 : decode cL_act 257 = .ok (.iload_n 3, 1) := by decide +kernel
theorem dL_act_258 : decode cL_act 258 = .ok (.iconst 5, 1) := by decide +kernel
theorem dL_act_259 : decode cL_act 259 = .ok (.irem, 1) := by decide +kernel
theorem dL_act_260 : decode cL_act 260 = .ok (.istore 5, 2) := by decide +kernel
theorem dL_act_262 : decode cL_act 262 = .ok (.aload_n 0, 1) := by decide +kernel
theorem dL_act_263 : decode cL_act 263 = .ok (.iload 5, 2) := by decide +kernel
theorem dL_act_265 : decode cL_act 265 = .ok (.iconst 1, 1) := by decide +kernel
theorem dL_act_266 : decode cL_act 266 = .ok (.iload_n 3, 1) := by decide +kernel
theorem dL_act_267 : decode cL_act 267 = .ok (.iconst 5, 1) := by decide +kernel
theorem dL_act_268 : decode cL_act 268 = .ok (.idiv, 1) := by decide +kernel
theorem dL_act_269 : decode cL_act 269 = .ok (.bipush 50, 2) := by decide +kernel
theorem dL_act_271 : decode cL_act 271 = .ok (.irem, 1) := by decide +kernel
theorem dL_act_272 : decode cL_act 272 = .ok (.iadd, 1) := by decide +kernel
theorem dL_act_273 : decode cL_act 273 = .ok (.invokestatic 163, 3) := by decide +kernel
theorem dL_act_276 : decode cL_act 276 = .ok (.lreturn, 1) := by decide +kernel
theorem dL_act_277 : decode cL_act 277 = .ok (.aload_n 0, 1) := by decide +kernel
theorem dL_act_278 : decode cL_act 278 = .ok (.invokestatic 225, 3) := by decide +kernel
theorem dL_act_281 : decode cL_act 281 = .ok (.lreturn, 1) := by decide +kernel
theorem dL_act_282 : decode cL_act 282 = .ok (.iload_n 3, 1) := by decide +kernel
theorem dL_act_283 : decode cL_act 283 = .ok (.iconst 2, 1) := by decide +kernel
theorem dL_act_284 : decode cL_act 284 = .ok (.irem, 1) := by decide +kernel
theorem dL_act_285 : decode cL_act 285 = .ok (.ifCond .ne 15, 3) := by decide +kernel
theorem dL_act_288 : decode cL_act 288 = .ok (.aload_n 0, 1) := by decide +kernel
theorem dL_act_289 : decode cL_act 289 = .ok (.iload_n 3, 1) := by decide +kernel
theorem dL_act_290 : decode cL_act 290 = .ok (.iconst 2, 1) := by decide +kernel
theorem dL_act_291 : decode cL_act 291 = .ok (.idiv, 1) := by decide +kernel
theorem dL_act_292 : decode cL_act 292 = .ok (.iconst 1, 1) := by decide +kernel
theorem dL_act_293 : decode cL_act 293 = .ok (.iand, 1) := by decide +kernel
theorem dL_act_294 : decode cL_act 294 = .ok (.invokestatic 188, 3) := by decide +kernel
theorem dL_act_297 : decode cL_act 297 = .ok (.goto 12, 3) := by decide +kernel
theorem dL_act_300 : decode cL_act 300 = .ok (.aload_n 0, 1) := by decide +kernel
theorem dL_act_301 : decode cL_act 301 = .ok (.iload_n 3, 1) := by decide +kernel
theorem dL_act_302 : decode cL_act 302 = .ok (.iconst 2, 1) := by decide +kernel
theorem dL_act_303 : decode cL_act 303 = .ok (.idiv, 1) := by decide +kernel
theorem dL_act_304 : decode cL_act 304 = .ok (.iconst 1, 1) := by decide +kernel
theorem dL_act_305 : decode cL_act 305 = .ok (.iand, 1) := by decide +kernel
theorem dL_act_306 : decode cL_act 306 = .ok (.invokestatic 190, 3) := by decide +kernel
theorem dL_act_309 : decode cL_act 309 = .ok (.lreturn, 1) := by decide +kernel
theorem dL_act_310 : decode cL_act 310 = .ok (.aload_n 0, 1) := by decide +kernel
theorem dL_act_311 : decode cL_act 311 = .ok (.iconst 1, 1) := by decide +kernel
theorem dL_act_312 : decode cL_act 312 = .ok (.iload_n 3, 1) := by decide +kernel
theorem dL_act_313 : decode cL_act 313 = .ok (.iload_n 3, 1) := by decide +kernel
theorem dL_act_314 : decode cL_act 314 = .ok (.iconst 4, 1) := by decide +kernel
theorem dL_act_315 : decode cL_act 315 = .ok (.irem, 1) := by decide +kernel
theorem dL_act_316 : decode cL_act 316 = .ok (.ifCond .ne 8, 3) := by decide +kernel
theorem dL_act_319 : decode cL_act 319 = .ok (.bipush 99, 2) := by decide +kernel
theorem dL_act_321 : decode cL_act 321 = .ok (.goto 5, 3) := by decide +kernel
theorem dL_act_324 : decode cL_act 324 = .ok (.bipush 12, 2) := by decide +kernel
theorem dL_act_326 : decode cL_act 326 = .ok (.irem, 1) := by decide +kernel
theorem dL_act_327 : decode cL_act 327 = .ok (.iadd, 1) := by decide +kernel
theorem dL_act_328 : decode cL_act 328 = .ok (.invokestatic 161, 3) := by decide +kernel
theorem dL_act_331 : decode cL_act 331 = .ok (.lreturn, 1) := by decide +kernel
theorem dL_law_0 : decode cL_law 0 = .ok (.new 10, 3) := by decide +kernel
theorem dL_law_3 : decode cL_law 3 = .ok (.dup, 1) := by decide +kernel
theorem dL_law_4 : decode cL_law 4 = .ok (.invokespecial 247, 3) := by decide +kernel
theorem dL_law_7 : decode cL_law 7 = .ok (.astore_n 1, 1) := by decide +kernel
theorem dL_law_8 : decode cL_law 8 = .ok (.new 10, 3) := by decide +kernel
theorem dL_law_11 : decode cL_law 11 = .ok (.dup, 1) := by decide +kernel
theorem dL_law_12 : decode cL_law 12 = .ok (.invokespecial 247, 3) := by decide +kernel
theorem dL_law_15 : decode cL_law 15 = .ok (.astore_n 2, 1) := by decide +kernel
theorem dL_law_16 : decode cL_law 16 = .ok (.aload_n 1, 1) := by decide +kernel
theorem dL_law_17 : decode cL_law 17 = .ok (.aload_n 2, 1) := by decide +kernel
theorem dL_law_18 : decode cL_law 18 = .ok (.aload_n 0, 1) := by decide +kernel
theorem dL_law_19 : decode cL_law 19 = .ok (.iconst 0, 1) := by decide +kernel
theorem dL_law_20 : decode cL_law 20 = .ok (.invokestatic 248, 3) := by decide +kernel
theorem dL_law_23 : decode cL_law 23 = .ok (.invokestatic 252, 3) := by decide +kernel
theorem dL_law_26 : decode cL_law 26 = .ok (.ifCond .eq 21, 3) := by decide +kernel
theorem dL_law_29 : decode cL_law 29 = .ok (.aload_n 1, 1) := by decide +kernel
theorem dL_law_30 : decode cL_law 30 = .ok (.invokestatic 256, 3) := by decide +kernel
theorem dL_law_33 : decode cL_law 33 = .ok (.ifCond .eq 14, 3) := by decide +kernel
theorem dL_law_36 : decode cL_law 36 = .ok (.aload_n 1, 1) := by decide +kernel
theorem dL_law_37 : decode cL_law 37 = .ok (.invokestatic 260, 3) := by decide +kernel
theorem dL_law_40 : decode cL_law 40 = .ok (.ifCond .eq 7, 3) := by decide +kernel
theorem dL_law_43 : decode cL_law 43 = .ok (.iconst 1, 1) := by decide +kernel
theorem dL_law_44 : decode cL_law 44 = .ok (.goto 4, 3) := by decide +kernel
theorem dL_law_47 : decode cL_law 47 = .ok (.iconst 0, 1) := by decide +kernel
theorem dL_law_48 : decode cL_law 48 = .ok (.istore_n 3, 1) := by decide +kernel
theorem dL_law_49 : decode cL_law 49 = .ok (.iconst 0, 1) := by decide +kernel
theorem dL_law_50 : decode cL_law 50 = .ok (.istore 4, 2) := by decide +kernel
theorem dL_law_52 : decode cL_law 52 = .ok (.iload 4, 2) := by decide +kernel
theorem dL_law_54 : decode cL_law 54 = .ok (.bipush 48, 2) := by decide +kernel
theorem dL_law_56 : decode cL_law 56 = .ok (.if_icmp .ge 222, 3) := by decide +kernel
theorem dL_law_59 : decode cL_law 59 = .ok (.iload_n 3, 1) := by decide +kernel
theorem dL_law_60 : decode cL_law 60 = .ok (.ifCond .eq 218, 3) := by decide +kernel
theorem dL_law_63 : decode cL_law 63 = .ok (.aload_n 0, 1) := by decide +kernel
theorem dL_law_64 : decode cL_law 64 = .ok (.iconst 2, 1) := by decide +kernel
theorem dL_law_65 : decode cL_law 65 = .ok (.iload 4, 2) := by decide +kernel
theorem dL_law_67 : decode cL_law 67 = .ok (.imul, 1) := by decide +kernel
theorem dL_law_68 : decode cL_law 68 = .ok (.invokestatic 248, 3) := by decide +kernel
theorem dL_law_71 : decode cL_law 71 = .ok (.istore 5, 2) := by decide +kernel
theorem dL_law_73 : decode cL_law 73 = .ok (.aload_n 0, 1) := by decide +kernel
theorem dL_law_74 : decode cL_law 74 = .ok (.iconst 2, 1) := by decide +kernel
theorem dL_law_75 : decode cL_law 75 = .ok (.iload 4, 2) := by decide +kernel
theorem dL_law_77 : decode cL_law 77 = .ok (.imul, 1) := by decide +kernel
theorem dL_law_78 : decode cL_law 78 = .ok (.iconst 1, 1) := by decide +kernel
theorem dL_law_79 : decode cL_law 79 = .ok (.iadd, 1) := by decide +kernel
theorem dL_law_80 : decode cL_law 80 = .ok (.invokestatic 248, 3) := by decide +kernel
theorem dL_law_83 : decode cL_law 83 = .ok (.istore 6, 2) := by decide +kernel
theorem dL_law_85 : decode cL_law 85 = .ok (.iload 4, 2) := by decide +kernel
theorem dL_law_87 : decode cL_law 87 = .ok (.bipush 24, 2) := by decide +kernel
theorem dL_law_89 : decode cL_law 89 = .ok (.irem, 1) := by decide +kernel
theorem dL_law_90 : decode cL_law 90 = .ok (.ifCond .ne 46, 3) := by decide +kernel
theorem dL_law_93 : decode cL_law 93 = .ok (.aload_n 1, 1) := by decide +kernel
theorem dL_law_94 : decode cL_law 94 = .ok (.iload 5, 2) := by decide +kernel
theorem dL_law_96 : decode cL_law 96 = .ok (.iload 6, 2) := by decide +kernel
theorem dL_law_98 : decode cL_law 98 = .ok (.invokestatic 263, 3) := by decide +kernel
theorem dL_law_101 : decode cL_law 101 = .ok (.ifCond .eq 30, 3) := by decide +kernel
theorem dL_law_104 : decode cL_law 104 = .ok (.aload_n 2, 1) := by decide +kernel
theorem dL_law_105 : decode cL_law 105 = .ok (.iload 5, 2) := by decide +kernel
theorem dL_law_107 : decode cL_law 107 = .ok (.iload 6, 2) := by decide +kernel
theorem dL_law_109 : decode cL_law 109 = .ok (.invokestatic 263, 3) := by decide +kernel
theorem dL_law_112 : decode cL_law 112 = .ok (.ifCond .eq 19, 3) := by decide +kernel
theorem dL_law_115 : decode cL_law 115 = .ok (.aload_n 1, 1) := by decide +kernel
theorem dL_law_116 : decode cL_law 116 = .ok (.invokestatic 267, 3) := by decide +kernel
theorem dL_law_119 : decode cL_law 119 = .ok (.aload_n 2, 1) := by decide +kernel
theorem dL_law_120 : decode cL_law 120 = .ok (.invokestatic 267, 3) := by decide +kernel
theorem dL_law_123 : decode cL_law 123 = .ok (.lcmp, 1) := by decide +kernel
theorem dL_law_124 : decode cL_law 124 = .ok (.ifCond .ne 7, 3) := by decide +kernel
theorem dL_law_127 : decode cL_law 127 = .ok (.iconst 1, 1) := by decide +kernel
theorem dL_law_128 : decode cL_law 128 = .ok (.goto 4, 3) := by decide +kernel
theorem dL_law_131 : decode cL_law 131 = .ok (.iconst 0, 1) := by decide +kernel
theorem dL_law_132 : decode cL_law 132 = .ok (.istore_n 3, 1) := by decide +kernel
theorem dL_law_133 : decode cL_law 133 = .ok (.goto 139, 3) := by decide +kernel
theorem dL_law_136 : decode cL_law 136 = .ok (.aload_n 1, 1) := by decide +kernel
theorem dL_law_137 : decode cL_law 137 = .ok (.iload 5, 2) := by decide +kernel
theorem dL_law_139 : decode cL_law 139 = .ok (.iload 6, 2) := by decide +kernel
theorem dL_law_141 : decode cL_law 141 = .ok (.invokestatic 269, 3) := by decide +kernel
theorem dL_law_144 : decode cL_law 144 = .ok (.aload_n 2, 1) := by decide +kernel
theorem dL_law_145 : decode cL_law 145 = .ok (.iload 5, 2) := by decide +kernel
theorem dL_law_147 : decode cL_law 147 = .ok (.iload 6, 2) := by decide +kernel
theorem dL_law_149 : decode cL_law 149 = .ok (.invokestatic 269, 3) := by decide +kernel
theorem dL_law_152 : decode cL_law 152 = .ok (.lcmp, 1) := by decide +kernel
theorem dL_law_153 : decode cL_law 153 = .ok (.ifCond .ne 7, 3) := by decide +kernel
theorem dL_law_156 : decode cL_law 156 = .ok (.iconst 1, 1) := by decide +kernel
theorem dL_law_157 : decode cL_law 157 = .ok (.goto 4, 3) := by decide +kernel
theorem dL_law_160 : decode cL_law 160 = .ok (.iconst 0, 1) := by decide +kernel
theorem dL_law_161 : decode cL_law 161 = .ok (.istore_n 3, 1) := by decide +kernel
theorem dL_law_162 : decode cL_law 162 = .ok (.iload 4, 2) := by decide +kernel
theorem dL_law_164 : decode cL_law 164 = .ok (.bipush 9, 2) := by decide +kernel
theorem dL_law_166 : decode cL_law 166 = .ok (.irem, 1) := by decide +kernel
theorem dL_law_167 : decode cL_law 167 = .ok (.iconst 1, 1) := by decide +kernel
theorem dL_law_168 : decode cL_law 168 = .ok (.if_icmp .ne 27, 3) := by decide +kernel
theorem dL_law_171 : decode cL_law 171 = .ok (.iload_n 3, 1) := by decide +kernel
theorem dL_law_172 : decode cL_law 172 = .ok (.ifCond .eq 21, 3) := by decide +kernel
theorem dL_law_175 : decode cL_law 175 = .ok (.aload_n 2, 1) := by decide +kernel
theorem dL_law_176 : decode cL_law 176 = .ok (.invokestatic 256, 3) := by decide +kernel
theorem dL_law_179 : decode cL_law 179 = .ok (.ifCond .eq 14, 3) := by decide +kernel
theorem dL_law_182 : decode cL_law 182 = .ok (.aload_n 2, 1) := by decide +kernel
theorem dL_law_183 : decode cL_law 183 = .ok (.invokestatic 260, 3) := by decide +kernel
theorem dL_law_186 : decode cL_law 186 = .ok (.ifCond .eq 7, 3) := by decide +kernel
theorem dL_law_189 : decode cL_law 189 = .ok (.iconst 1, 1) := by decide +kernel
theorem dL_law_190 : decode cL_law 190 = .ok (.goto 4, 3) := by decide +kernel
theorem dL_law_193 : decode cL_law 193 = .ok (.iconst 0, 1) := by decide +kernel
theorem dL_law_194 : decode cL_law 194 = .ok (.istore_n 3, 1) := by decide +kernel
theorem dL_law_195 : decode cL_law 195 = .ok (.iload 4, 2) := by decide +kernel
theorem dL_law_197 : decode cL_law 197 = .ok (.bipush 16, 2) := by decide +kernel
theorem dL_law_199 : decode cL_law 199 = .ok (.irem, 1) := by decide +kernel
theorem dL_law_200 : decode cL_law 200 = .ok (.bipush 13, 2) := by decide +kernel
theorem dL_law_202 : decode cL_law 202 = .ok (.if_icmp .ne 42, 3) := by decide +kernel
theorem dL_law_205 : decode cL_law 205 = .ok (.iload_n 3, 1) := by decide +kernel
theorem dL_law_206 : decode cL_law 206 = .ok (.ifCond .eq 36, 3) := by decide +kernel
theorem dL_law_209 : decode cL_law 209 = .ok (.aload_n 2, 1) := by decide +kernel
theorem dL_law_210 : decode cL_law 210 = .ok (.iload 6, 2) := by decide +kernel
theorem dL_law_212 : decode cL_law 212 = .ok (.invokestatic 272, 3) := by decide +kernel
theorem dL_law_215 : decode cL_law 215 = .ok (.ifCond .eq 27, 3) := by decide +kernel
theorem dL_law_218 : decode cL_law 218 = .ok (.aload_n 1, 1) := by decide +kernel
theorem dL_law_219 : decode cL_law 219 = .ok (.iconst 1, 1) := by decide +kernel
theorem dL_law_220 : decode cL_law 220 = .ok (.invokestatic 188, 3) := by decide +kernel
theorem dL_law_223 : decode cL_law 223 = .ok (.lconst 0, 1) := by decide +kernel
theorem dL_law_224 : decode cL_law 224 = .ok (.lcmp, 1) := by decide +kernel
theorem dL_law_225 : decode cL_law 225 = .ok (.ifCond .lt 17, 3) := by decide +kernel
theorem dL_law_228 : decode cL_law 228 = .ok (.aload_n 1, 1) := by decide +kernel
theorem dL_law_229 : decode cL_law 229 = .ok (.iconst 1, 1) := by decide +kernel
theorem dL_law_230 : decode cL_law 230 = .ok (.invokestatic 190, 3) := by decide +kernel
theorem dL_law_233 : decode cL_law 233 = .ok (.lconst 0, 1) := by decide +kernel
theorem dL_law_234 : decode cL_law 234 = .ok (.lcmp, 1) := by decide +kernel
theorem dL_law_235 : decode cL_law 235 = .ok (.ifCond .lt 7, 3) := by decide +kernel
theorem dL_law_238 : decode cL_law 238 = .ok (.iconst 1, 1) := by decide +kernel
theorem dL_law_239 : decode cL_law 239 = .ok (.goto 4, 3) := by decide +kernel
theorem dL_law_242 : decode cL_law 242 = .ok (.iconst 0, 1) := by decide +kernel
theorem dL_law_243 : decode cL_law 243 = .ok (.istore_n 3, 1) := by decide +kernel
theorem dL_law_244 : decode cL_law 244 = .ok (.iload_n 3, 1) := by decide +kernel
theorem dL_law_245 : decode cL_law 245 = .ok (.ifCond .eq 25, 3) := by decide +kernel
theorem dL_law_248 : decode cL_law 248 = .ok (.iload 4, 2) := by decide +kernel
theorem dL_law_250 : decode cL_law 250 = .ok (.bipush 16, 2) := by decide +kernel
theorem dL_law_252 : decode cL_law 252 = .ok (.irem, 1) := by decide +kernel
theorem dL_law_253 : decode cL_law 253 = .ok (.ifCond .gt 13, 3) := by decide +kernel
theorem dL_law_256 : decode cL_law 256 = .ok (.aload_n 1, 1) := by decide +kernel
theorem dL_law_257 : decode cL_law 257 = .ok (.aload_n 2, 1) := by decide +kernel
theorem dL_law_258 : decode cL_law 258 = .ok (.iload 6, 2) := by decide +kernel
theorem dL_law_260 : decode cL_law 260 = .ok (.invokestatic 252, 3) := by decide +kernel
theorem dL_law_263 : decode cL_law 263 = .ok (.ifCond .eq 7, 3) := by decide +kernel
theorem dL_law_266 : decode cL_law 266 = .ok (.iconst 1, 1) := by decide +kernel
theorem dL_law_267 : decode cL_law 267 = .ok (.goto 4, 3) := by decide +kernel
theorem dL_law_270 : decode cL_law 270 = .ok (.iconst 0, 1) := by decide +kernel
theorem dL_law_271 : decode cL_law 271 = .ok (.istore_n 3, 1) := by decide +kernel
theorem dL_law_272 : decode cL_law 272 = .ok (.iinc 4 1, 3) := by decide +kernel
theorem dL_law_275 : decode cL_law 275 = .ok (.goto (-223), 3) := by decide +kernel
theorem dL_law_278 : decode cL_law 278 = .ok (.iload_n 3, 1) := by decide +kernel
theorem dL_law_279 : decode cL_law 279 = .ok (.ifCond .eq 18, 3) := by decide +kernel
theorem dL_law_282 : decode cL_law 282 = .ok (.aload_n 1, 1) := by decide +kernel
theorem dL_law_283 : decode cL_law 283 = .ok (.aload_n 2, 1) := by decide +kernel
theorem dL_law_284 : decode cL_law 284 = .ok (.ldc_w 275, 3) := by decide +kernel
theorem dL_law_287 : decode cL_law 287 = .ok (.invokestatic 252, 3) := by decide +kernel
theorem dL_law_290 : decode cL_law 290 = .ok (.ifCond .eq 7, 3) := by decide +kernel
theorem dL_law_293 : decode cL_law 293 = .ok (.iconst 1, 1) := by decide +kernel
theorem dL_law_294 : decode cL_law 294 = .ok (.goto 4, 3) := by decide +kernel
theorem dL_law_297 : decode cL_law 297 = .ok (.iconst 0, 1) := by decide +kernel
theorem dL_law_298 : decode cL_law 298 = .ok (.ireturn, 1) := by decide +kernel
