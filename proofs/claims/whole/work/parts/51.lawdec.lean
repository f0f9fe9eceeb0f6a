theorem dL_20 : decode code 20 = .ok (.iconst 0, 1) := by decide +kernel
theorem dL_21 : decode code 21 = .ok (.istore 4, 2) := by decide +kernel
theorem dL_23 : decode code 23 = .ok (.iload 4, 2) := by decide +kernel
theorem dL_25 : decode code 25 = .ok (.aload_n 0, 1) := by decide +kernel
theorem dL_26 : decode code 26 = .ok (.arraylength, 1) := by decide +kernel
theorem dL_27 : decode code 27 = .ok (.bipush 6, 2) := by decide +kernel
theorem dL_29 : decode code 29 = .ok (.isub, 1) := by decide +kernel
theorem dL_30 : decode code 30 = .ok (.if_icmp .gt 1146, 3) := by decide +kernel
theorem dL_33 : decode code 33 = .ok (.aload_n 0, 1) := by decide +kernel
theorem dL_34 : decode code 34 = .ok (.iload 4, 2) := by decide +kernel
theorem dL_36 : decode code 36 = .ok (.iaload, 1) := by decide +kernel
theorem dL_37 : decode code 37 = .ok (.bipush 31, 2) := by decide +kernel
theorem dL_39 : decode code 39 = .ok (.iand, 1) := by decide +kernel
theorem dL_40 : decode code 40 = .ok (.tableswitch 1130 0 24 #[116, 189, 214, 239, 252, 265, 290, 315, 395, 444, 510, 576, 589, 654, 732, 757, 795, 845, 870, 908, 981, 1018, 1055, 1080, 1105], 116) := by decide +kernel
theorem dL_156 : decode code 156 = .ok (.aload_n 1, 1) := by decide +kernel
theorem dL_157 : decode code 157 = .ok (.aload_n 0, 1) := by decide +kernel
theorem dL_158 : decode code 158 = .ok (.iload 4, 2) := by decide +kernel
theorem dL_160 : decode code 160 = .ok (.iconst 1, 1) := by decide +kernel
theorem dL_161 : decode code 161 = .ok (.iadd, 1) := by decide +kernel
theorem dL_162 : decode code 162 = .ok (.iaload, 1) := by decide +kernel
theorem dL_163 : decode code 163 = .ok (.aload_n 0, 1) := by decide +kernel
theorem dL_164 : decode code 164 = .ok (.iload 4, 2) := by decide +kernel
theorem dL_166 : decode code 166 = .ok (.iconst 2, 1) := by decide +kernel
theorem dL_167 : decode code 167 = .ok (.iadd, 1) := by decide +kernel
theorem dL_168 : decode code 168 = .ok (.iaload, 1) := by decide +kernel
theorem dL_169 : decode code 169 = .ok (.aload_n 0, 1) := by decide +kernel
theorem dL_170 : decode code 170 = .ok (.iload 4, 2) := by decide +kernel
theorem dL_172 : decode code 172 = .ok (.iconst 3, 1) := by decide +kernel
theorem dL_173 : decode code 173 = .ok (.iadd, 1) := by decide +kernel
theorem dL_174 : decode code 174 = .ok (.iaload, 1) := by decide +kernel
theorem dL_175 : decode code 175 = .ok (.aload_n 0, 1) := by decide +kernel
theorem dL_176 : decode code 176 = .ok (.iload 4, 2) := by decide +kernel
theorem dL_178 : decode code 178 = .ok (.iconst 4, 1) := by decide +kernel
theorem dL_179 : decode code 179 = .ok (.iadd, 1) := by decide +kernel
theorem dL_180 : decode code 180 = .ok (.iaload, 1) := by decide +kernel
theorem dL_181 : decode code 181 = .ok (.aload_n 0, 1) := by decide +kernel
theorem dL_182 : decode code 182 = .ok (.iload 4, 2) := by decide +kernel
theorem dL_184 : decode code 184 = .ok (.iconst 5, 1) := by decide +kernel
theorem dL_185 : decode code 185 = .ok (.iadd, 1) := by decide +kernel
theorem dL_186 : decode code 186 = .ok (.iaload, 1) := by decide +kernel
theorem dL_187 : decode code 187 = .ok (.invokevirtual 19, 3) := by decide +kernel
theorem dL_190 : decode code 190 = .ok (.aload_n 2, 1) := by decide +kernel
theorem dL_191 : decode code 191 = .ok (.aload_n 0, 1) := by decide +kernel
theorem dL_192 : decode code 192 = .ok (.iload 4, 2) := by decide +kernel
theorem dL_194 : decode code 194 = .ok (.iconst 1, 1) := by decide +kernel
theorem dL_195 : decode code 195 = .ok (.iadd, 1) := by decide +kernel
theorem dL_196 : decode code 196 = .ok (.iaload, 1) := by decide +kernel
theorem dL_197 : decode code 197 = .ok (.aload_n 0, 1) := by decide +kernel
theorem dL_198 : decode code 198 = .ok (.iload 4, 2) := by decide +kernel
theorem dL_200 : decode code 200 = .ok (.iconst 2, 1) := by decide +kernel
theorem dL_201 : decode code 201 = .ok (.iadd, 1) := by decide +kernel
theorem dL_202 : decode code 202 = .ok (.iaload, 1) := by decide +kernel
theorem dL_203 : decode code 203 = .ok (.aload_n 0, 1) := by decide +kernel
theorem dL_204 : decode code 204 = .ok (.iload 4, 2) := by decide +kernel
theorem dL_206 : decode code 206 = .ok (.iconst 3, 1) := by decide +kernel
theorem dL_207 : decode code 207 = .ok (.iadd, 1) := by decide +kernel
theorem dL_208 : decode code 208 = .ok (.iaload, 1) := by decide +kernel
theorem dL_209 : decode code 209 = .ok (.aload_n 0, 1) := by decide +kernel
theorem dL_210 : decode code 210 = .ok (.iload 4, 2) := by decide +kernel
theorem dL_212 : decode code 212 = .ok (.iconst 4, 1) := by decide +kernel
theorem dL_213 : decode code 213 = .ok (.iadd, 1) := by decide +kernel
theorem dL_214 : decode code 214 = .ok (.iaload, 1) := by decide +kernel
theorem dL_215 : decode code 215 = .ok (.aload_n 0, 1) := by decide +kernel
theorem dL_216 : decode code 216 = .ok (.iload 4, 2) := by decide +kernel
theorem dL_218 : decode code 218 = .ok (.iconst 5, 1) := by decide +kernel
theorem dL_219 : decode code 219 = .ok (.iadd, 1) := by decide +kernel
theorem dL_220 : decode code 220 = .ok (.iaload, 1) := by decide +kernel
theorem dL_221 : decode code 221 = .ok (.invokevirtual 23, 3) := by decide +kernel
theorem dL_224 : decode code 224 = .ok (.if_icmp .eq 946, 3) := by decide +kernel
theorem dL_227 : decode code 227 = .ok (.iconst 0, 1) := by decide +kernel
theorem dL_229 : decode code 229 = .ok (.aload_n 1, 1) := by decide +kernel
theorem dL_230 : decode code 230 = .ok (.aload_n 0, 1) := by decide +kernel
theorem dL_231 : decode code 231 = .ok (.iload 4, 2) := by decide +kernel
theorem dL_233 : decode code 233 = .ok (.iconst 1, 1) := by decide +kernel
theorem dL_234 : decode code 234 = .ok (.iadd, 1) := by decide +kernel
theorem dL_235 : decode code 235 = .ok (.iaload, 1) := by decide +kernel
theorem dL_236 : decode code 236 = .ok (.invokevirtual 24, 3) := by decide +kernel
theorem dL_239 : decode code 239 = .ok (.aload_n 2, 1) := by decide +kernel
theorem dL_240 : decode code 240 = .ok (.aload_n 0, 1) := by decide +kernel
theorem dL_241 : decode code 241 = .ok (.iload 4, 2) := by decide +kernel
theorem dL_243 : decode code 243 = .ok (.iconst 1, 1) := by decide +kernel
theorem dL_244 : decode code 244 = .ok (.iadd, 1) := by decide +kernel
theorem dL_245 : decode code 245 = .ok (.iaload, 1) := by decide +kernel
theorem dL_246 : decode code 246 = .ok (.invokevirtual 28, 3) := by decide +kernel
theorem dL_249 : decode code 249 = .ok (.if_icmp .eq 921, 3) := by decide +kernel
theorem dL_252 : decode code 252 = .ok (.iconst 0, 1) := by decide +kernel
theorem dL_254 : decode code 254 = .ok (.aload_n 1, 1) := by decide +kernel
theorem dL_255 : decode code 255 = .ok (.aload_n 0, 1) := by decide +kernel
theorem dL_256 : decode code 256 = .ok (.iload 4, 2) := by decide +kernel
theorem dL_258 : decode code 258 = .ok (.iconst 1, 1) := by decide +kernel
theorem dL_259 : decode code 259 = .ok (.iadd, 1) := by decide +kernel
theorem dL_260 : decode code 260 = .ok (.iaload, 1) := by decide +kernel
theorem dL_261 : decode code 261 = .ok (.invokevirtual 29, 3) := by decide +kernel
theorem dL_264 : decode code 264 = .ok (.aload_n 2, 1) := by decide +kernel
theorem dL_265 : decode code 265 = .ok (.aload_n 0, 1) := by decide +kernel
theorem dL_266 : decode code 266 = .ok (.iload 4, 2) := by decide +kernel
theorem dL_268 : decode code 268 = .ok (.iconst 1, 1) := by decide +kernel
theorem dL_269 : decode code 269 = .ok (.iadd, 1) := by decide +kernel
theorem dL_270 : decode code 270 = .ok (.iaload, 1) := by decide +kernel
theorem dL_271 : decode code 271 = .ok (.invokevirtual 33, 3) := by decide +kernel
theorem dL_274 : decode code 274 = .ok (.if_icmp .eq 896, 3) := by decide +kernel
theorem dL_277 : decode code 277 = .ok (.iconst 0, 1) := by decide +kernel
theorem dL_279 : decode code 279 = .ok (.aload_n 1, 1) := by decide +kernel
theorem dL_280 : decode code 280 = .ok (.invokevirtual 34, 3) := by decide +kernel
theorem dL_283 : decode code 283 = .ok (.aload_n 2, 1) := by decide +kernel
theorem dL_284 : decode code 284 = .ok (.invokevirtual 38, 3) := by decide +kernel
theorem dL_287 : decode code 287 = .ok (.if_icmp .eq 883, 3) := by decide +kernel
theorem dL_290 : decode code 290 = .ok (.iconst 0, 1) := by decide +kernel
theorem dL_292 : decode code 292 = .ok (.aload_n 1, 1) := by decide +kernel
theorem dL_293 : decode code 293 = .ok (.invokevirtual 39, 3) := by decide +kernel
theorem dL_296 : decode code 296 = .ok (.aload_n 2, 1) := by decide +kernel
theorem dL_297 : decode code 297 = .ok (.invokevirtual 42, 3) := by decide +kernel
theorem dL_300 : decode code 300 = .ok (.if_icmp .eq 870, 3) := by decide +kernel
theorem dL_303 : decode code 303 = .ok (.iconst 0, 1) := by decide +kernel
theorem dL_305 : decode code 305 = .ok (.aload_n 1, 1) := by decide +kernel
theorem dL_306 : decode code 306 = .ok (.aload_n 0, 1) := by decide +kernel
theorem dL_307 : decode code 307 = .ok (.iload 4, 2) := by decide +kernel
theorem dL_309 : decode code 309 = .ok (.iconst 1, 1) := by decide +kernel
theorem dL_310 : decode code 310 = .ok (.iadd, 1) := by decide +kernel
theorem dL_311 : decode code 311 = .ok (.iaload, 1) := by decide +kernel
theorem dL_312 : decode code 312 = .ok (.invokevirtual 43, 3) := by decide +kernel
theorem dL_315 : decode code 315 = .ok (.aload_n 2, 1) := by decide +kernel
theorem dL_316 : decode code 316 = .ok (.aload_n 0, 1) := by decide +kernel
theorem dL_317 : decode code 317 = .ok (.iload 4, 2) := by decide +kernel
theorem dL_319 : decode code 319 = .ok (.iconst 1, 1) := by decide +kernel
theorem dL_320 : decode code 320 = .ok (.iadd, 1) := by decide +kernel
theorem dL_321 : decode code 321 = .ok (.iaload, 1) := by decide +kernel
theorem dL_322 : decode code 322 = .ok (.invokevirtual 46, 3) := by decide +kernel
theorem dL_325 : decode code 325 = .ok (.if_icmp .eq 845, 3) := by decide +kernel
theorem dL_328 : decode code 328 = .ok (.iconst 0, 1) := by decide +kernel
theorem dL_330 : decode code 330 = .ok (.aload_n 1, 1) := by decide +kernel
theorem dL_331 : decode code 331 = .ok (.aload_n 0, 1) := by decide +kernel
theorem dL_332 : decode code 332 = .ok (.iload 4, 2) := by decide +kernel
theorem dL_334 : decode code 334 = .ok (.iconst 1, 1) := by decide +kernel
theorem dL_335 : decode code 335 = .ok (.iadd, 1) := by decide +kernel
theorem dL_336 : decode code 336 = .ok (.iaload, 1) := by decide +kernel
theorem dL_337 : decode code 337 = .ok (.invokevirtual 47, 3) := by decide +kernel
theorem dL_340 : decode code 340 = .ok (.aload_n 2, 1) := by decide +kernel
theorem dL_341 : decode code 341 = .ok (.aload_n 0, 1) := by decide +kernel
theorem dL_342 : decode code 342 = .ok (.iload 4, 2) := by decide +kernel
theorem dL_344 : decode code 344 = .ok (.iconst 1, 1) := by decide +kernel
theorem dL_345 : decode code 345 = .ok (.iadd, 1) := by decide +kernel
theorem dL_346 : decode code 346 = .ok (.iaload, 1) := by decide +kernel
theorem dL_347 : decode code 347 = .ok (.invokevirtual 50, 3) := by decide +kernel
theorem dL_350 : decode code 350 = .ok (.if_icmp .eq 820, 3) := by decide +kernel
theorem dL_353 : decode code 353 = .ok (.iconst 0, 1) := by decide +kernel
theorem dL_355 : decode code 355 = .ok (.aload_n 1, 1) := by decide +kernel
theorem dL_356 : decode code 356 = .ok (.aload_n 0, 1) := by decide +kernel
theorem dL_357 : decode code 357 = .ok (.iload 4, 2) := by decide +kernel
theorem dL_359 : decode code 359 = .ok (.iconst 1, 1) := by decide +kernel
theorem dL_360 : decode code 360 = .ok (.iadd, 1) := by decide +kernel
theorem dL_361 : decode code 361 = .ok (.iaload, 1) := by decide +kernel
theorem dL_362 : decode code 362 = .ok (.aload_n 0, 1) := by decide +kernel
theorem dL_363 : decode code 363 = .ok (.iload 4, 2) := by decide +kernel
theorem dL_365 : decode code 365 = .ok (.iconst 2, 1) := by decide +kernel
theorem dL_366 : decode code 366 = .ok (.iadd, 1) := by decide +kernel
theorem dL_367 : decode code 367 = .ok (.iaload, 1) := by decide +kernel
theorem dL_368 : decode code 368 = .ok (.aload_n 0, 1) := by decide +kernel
theorem dL_369 : decode code 369 = .ok (.iload 4, 2) := by decide +kernel
theorem dL_371 : decode code 371 = .ok (.iconst 3, 1) := by decide +kernel
theorem dL_372 : decode code 372 = .ok (.iadd, 1) := by decide +kernel
theorem dL_373 : decode code 373 = .ok (.iaload, 1) := by decide +kernel
theorem dL_374 : decode code 374 = .ok (.aload_n 3, 1) := by decide +kernel
theorem dL_375 : decode code 375 = .ok (.invokestatic 51, 3) := by decide +kernel
theorem dL_378 : decode code 378 = .ok (.istore 5, 2) := by decide +kernel
theorem dL_380 : decode code 380 = .ok (.aload_n 2, 1) := by decide +kernel
theorem dL_381 : decode code 381 = .ok (.aload_n 0, 1) := by decide +kernel
theorem dL_382 : decode code 382 = .ok (.iload 4, 2) := by decide +kernel
theorem dL_384 : decode code 384 = .ok (.iconst 1, 1) := by decide +kernel
theorem dL_385 : decode code 385 = .ok (.iadd, 1) := by decide +kernel
theorem dL_386 : decode code 386 = .ok (.iaload, 1) := by decide +kernel
theorem dL_387 : decode code 387 = .ok (.aload_n 0, 1) := by decide +kernel
theorem dL_388 : decode code 388 = .ok (.iload 4, 2) := by decide +kernel
theorem dL_390 : decode code 390 = .ok (.iconst 2, 1) := by decide +kernel
theorem dL_391 : decode code 391 = .ok (.iadd, 1) := by decide +kernel
theorem dL_392 : decode code 392 = .ok (.iaload, 1) := by decide +kernel
theorem dL_393 : decode code 393 = .ok (.aload_n 0, 1) := by decide +kernel
theorem dL_394 : decode code 394 = .ok (.iload 4, 2) := by decide +kernel
theorem dL_396 : decode code 396 = .ok (.iconst 3, 1) := by decide +kernel
theorem dL_397 : decode code 397 = .ok (.iadd, 1) := by decide +kernel
theorem dL_398 : decode code 398 = .ok (.iaload, 1) := by decide +kernel
theorem dL_399 : decode code 399 = .ok (.invokevirtual 56, 3) := by decide +kernel
theorem dL_402 : decode code 402 = .ok (.istore 6, 2) := by decide +kernel
theorem dL_404 : decode code 404 = .ok (.aload_n 2, 1) := by decide +kernel
theorem dL_405 : decode code 405 = .ok (.invokevirtual 57, 3) := by decide +kernel
theorem dL_408 : decode code 408 = .ok (.iload 5, 2) := by decide +kernel
theorem dL_410 : decode code 410 = .ok (.if_icmp .eq 5, 3) := by decide +kernel
theorem dL_413 : decode code 413 = .ok (.iconst 0, 1) := by decide +kernel
theorem dL_415 : decode code 415 = .ok (.iload 5, 2) := by decide +kernel
theorem dL_417 : decode code 417 = .ok (.ifCond .ne 15, 3) := by decide +kernel
theorem dL_420 : decode code 420 = .ok (.aload_n 3, 1) := by decide +kernel
theorem dL_421 : decode code 421 = .ok (.iconst 0, 1) := by decide +kernel
theorem dL_422 : decode code 422 = .ok (.laload, 1) := by decide +kernel
theorem dL_423 : decode code 423 = .ok (.iload 6, 2) := by decide +kernel
theorem dL_425 : decode code 425 = .ok (.i2l, 1) := by decide +kernel
theorem dL_426 : decode code 426 = .ok (.lcmp, 1) := by decide +kernel
theorem dL_427 : decode code 427 = .ok (.ifCond .eq 5, 3) := by decide +kernel
theorem dL_430 : decode code 430 = .ok (.iconst 0, 1) := by decide +kernel
theorem dL_432 : decode code 432 = .ok (.goto 738, 3) := by decide +kernel
theorem dL_435 : decode code 435 = .ok (.aload_n 1, 1) := by decide +kernel
theorem dL_436 : decode code 436 = .ok (.aload_n 0, 1) := by decide +kernel
theorem dL_437 : decode code 437 = .ok (.iload 4, 2) := by decide +kernel
theorem dL_439 : decode code 439 = .ok (.iconst 1, 1) := by decide +kernel
theorem dL_440 : decode code 440 = .ok (.iadd, 1) := by decide +kernel
theorem dL_441 : decode code 441 = .ok (.iaload, 1) := by decide +kernel
theorem dL_442 : decode code 442 = .ok (.aload_n 0, 1) := by decide +kernel
theorem dL_443 : decode code 443 = .ok (.iload 4, 2) := by decide +kernel
theorem dL_445 : decode code 445 = .ok (.iconst 2, 1) := by decide +kernel
theorem dL_446 : decode code 446 = .ok (.iadd, 1) := by decide +kernel
theorem dL_447 : decode code 447 = .ok (.iaload, 1) := by decide +kernel
theorem dL_448 : decode code 448 = .ok (.aload_n 0, 1) := by decide +kernel
theorem dL_449 : decode code 449 = .ok (.iload 4, 2) := by decide +kernel
theorem dL_451 : decode code 451 = .ok (.iconst 3, 1) := by decide +kernel
theorem dL_452 : decode code 452 = .ok (.iadd, 1) := by decide +kernel
theorem dL_453 : decode code 453 = .ok (.iaload, 1) := by decide +kernel
theorem dL_454 : decode code 454 = .ok (.invokevirtual 60, 3) := by decide +kernel
theorem dL_457 : decode code 457 = .ok (.aload_n 2, 1) := by decide +kernel
theorem dL_458 : decode code 458 = .ok (.aload_n 0, 1) := by decide +kernel
theorem dL_459 : decode code 459 = .ok (.iload 4, 2) := by decide +kernel
theorem dL_461 : decode code 461 = .ok (.iconst 1, 1) := by decide +kernel
theorem dL_462 : decode code 462 = .ok (.iadd, 1) := by decide +kernel
theorem dL_463 : decode code 463 = .ok (.iaload, 1) := by decide +kernel
theorem dL_464 : decode code 464 = .ok (.aload_n 0, 1) := by decide +kernel
theorem dL_465 : decode code 465 = .ok (.iload 4, 2) := by decide +kernel
theorem dL_467 : decode code 467 = .ok (.iconst 2, 1) := by decide +kernel
theorem dL_468 : decode code 468 = .ok (.iadd, 1) := by decide +kernel
theorem dL_469 : decode code 469 = .ok (.iaload, 1) := by decide +kernel
theorem dL_470 : decode code 470 = .ok (.aload_n 0, 1) := by decide +kernel
theorem dL_471 : decode code 471 = .ok (.iload 4, 2) := by decide +kernel
theorem dL_473 : decode code 473 = .ok (.iconst 3, 1) := by decide +kernel
theorem dL_474 : decode code 474 = .ok (.iadd, 1) := by decide +kernel
theorem dL_475 : decode code 475 = .ok (.iaload, 1) := by decide +kernel
theorem dL_476 : decode code 476 = .ok (.invokevirtual 63, 3) := by decide +kernel
theorem dL_479 : decode code 479 = .ok (.if_icmp .eq 691, 3) := by decide +kernel
theorem dL_482 : decode code 482 = .ok (.iconst 0, 1) := by decide +kernel
theorem dL_484 : decode code 484 = .ok (.aload_n 1, 1) := by decide +kernel
theorem dL_485 : decode code 485 = .ok (.aload_n 0, 1) := by decide +kernel
theorem dL_486 : decode code 486 = .ok (.iload 4, 2) := by decide +kernel
theorem dL_488 : decode code 488 = .ok (.iconst 1, 1) := by decide +kernel
theorem dL_489 : decode code 489 = .ok (.iadd, 1) := by decide +kernel
theorem dL_490 : decode code 490 = .ok (.iaload, 1) := by decide +kernel
theorem dL_491 : decode code 491 = .ok (.aload_n 0, 1) := by decide +kernel
theorem dL_492 : decode code 492 = .ok (.iload 4, 2) := by decide +kernel
theorem dL_494 : decode code 494 = .ok (.iconst 2, 1) := by decide +kernel
theorem dL_495 : decode code 495 = .ok (.iadd, 1) := by decide +kernel
theorem dL_496 : decode code 496 = .ok (.iaload, 1) := by decide +kernel
theorem dL_497 : decode code 497 = .ok (.ifCond .eq 7, 3) := by decide +kernel
theorem dL_500 : decode code 500 = .ok (.iconst 1, 1) := by decide +kernel
theorem dL_501 : decode code 501 = .ok (.goto 4, 3) := by decide +kernel
theorem dL_504 : decode code 504 = .ok (.iconst 0, 1) := by decide +kernel
theorem dL_505 : decode code 505 = .ok (.aload_n 0, 1) := by decide +kernel
theorem dL_506 : decode code 506 = .ok (.iload 4, 2) := by decide +kernel
theorem dL_508 : decode code 508 = .ok (.iconst 3, 1) := by decide +kernel
theorem dL_509 : decode code 509 = .ok (.iadd, 1) := by decide +kernel
theorem dL_510 : decode code 510 = .ok (.iaload, 1) := by decide +kernel
theorem dL_511 : decode code 511 = .ok (.invokevirtual 64, 3) := by decide +kernel
theorem dL_514 : decode code 514 = .ok (.aload_n 2, 1) := by decide +kernel
theorem dL_515 : decode code 515 = .ok (.aload_n 0, 1) := by decide +kernel
theorem dL_516 : decode code 516 = .ok (.iload 4, 2) := by decide +kernel
theorem dL_518 : decode code 518 = .ok (.iconst 1, 1) := by decide +kernel
theorem dL_519 : decode code 519 = .ok (.iadd, 1) := by decide +kernel
theorem dL_520 : decode code 520 = .ok (.iaload, 1) := by decide +kernel
theorem dL_521 : decode code 521 = .ok (.aload_n 0, 1) := by decide +kernel
theorem dL_522 : decode code 522 = .ok (.iload 4, 2) := by decide +kernel
theorem dL_524 : decode code 524 = .ok (.iconst 2, 1) := by decide +kernel
theorem dL_525 : decode code 525 = .ok (.iadd, 1) := by decide +kernel
theorem dL_526 : decode code 526 = .ok (.iaload, 1) := by decide +kernel
theorem dL_527 : decode code 527 = .ok (.ifCond .eq 7, 3) := by decide +kernel
theorem dL_530 : decode code 530 = .ok (.iconst 1, 1) := by decide +kernel
theorem dL_531 : decode code 531 = .ok (.goto 4, 3) := by decide +kernel
theorem dL_534 : decode code 534 = .ok (.iconst 0, 1) := by decide +kernel
theorem dL_535 : decode code 535 = .ok (.aload_n 0, 1) := by decide +kernel
theorem dL_536 : decode code 536 = .ok (.iload 4, 2) := by decide +kernel
theorem dL_538 : decode code 538 = .ok (.iconst 3, 1) := by decide +kernel
theorem dL_539 : decode code 539 = .ok (.iadd, 1) := by decide +kernel
theorem dL_540 : decode code 540 = .ok (.iaload, 1) := by decide +kernel
theorem dL_541 : decode code 541 = .ok (.invokevirtual 68, 3) := by decide +kernel
theorem dL_544 : decode code 544 = .ok (.lcmp, 1) := by decide +kernel
theorem dL_545 : decode code 545 = .ok (.ifCond .eq 625, 3) := by decide +kernel
theorem dL_548 : decode code 548 = .ok (.iconst 0, 1) := by decide +kernel
theorem dL_550 : decode code 550 = .ok (.aload_n 1, 1) := by decide +kernel
theorem dL_551 : decode code 551 = .ok (.aload_n 0, 1) := by decide +kernel
theorem dL_552 : decode code 552 = .ok (.iload 4, 2) := by decide +kernel
theorem dL_554 : decode code 554 = .ok (.iconst 1, 1) := by decide +kernel
theorem dL_555 : decode code 555 = .ok (.iadd, 1) := by decide +kernel
theorem dL_556 : decode code 556 = .ok (.iaload, 1) := by decide +kernel
theorem dL_557 : decode code 557 = .ok (.aload_n 0, 1) := by decide +kernel
theorem dL_558 : decode code 558 = .ok (.iload 4, 2) := by decide +kernel
theorem dL_560 : decode code 560 = .ok (.iconst 2, 1) := by decide +kernel
theorem dL_561 : decode code 561 = .ok (.iadd, 1) := by decide +kernel
theorem dL_562 : decode code 562 = .ok (.iaload, 1) := by decide +kernel
theorem dL_563 : decode code 563 = .ok (.ifCond .eq 7, 3) := by decide +kernel
theorem dL_566 : decode code 566 = .ok (.iconst 1, 1) := by decide +kernel
theorem dL_567 : decode code 567 = .ok (.goto 4, 3) := by decide +kernel
theorem dL_570 : decode code 570 = .ok (.iconst 0, 1) := by decide +kernel
theorem dL_571 : decode code 571 = .ok (.aload_n 0, 1) := by decide +kernel
theorem dL_572 : decode code 572 = .ok (.iload 4, 2) := by decide +kernel
theorem dL_574 : decode code 574 = .ok (.iconst 3, 1) := by decide +kernel
theorem dL_575 : decode code 575 = .ok (.iadd, 1) := by decide +kernel
theorem dL_576 : decode code 576 = .ok (.iaload, 1) := by decide +kernel
theorem dL_577 : decode code 577 = .ok (.invokevirtual 69, 3) := by decide +kernel
theorem dL_580 : decode code 580 = .ok (.aload_n 2, 1) := by decide +kernel
theorem dL_581 : decode code 581 = .ok (.aload_n 0, 1) := by decide +kernel
theorem dL_582 : decode code 582 = .ok (.iload 4, 2) := by decide +kernel
theorem dL_584 : decode code 584 = .ok (.iconst 1, 1) := by decide +kernel
theorem dL_585 : decode code 585 = .ok (.iadd, 1) := by decide +kernel
theorem dL_586 : decode code 586 = .ok (.iaload, 1) := by decide +kernel
theorem dL_587 : decode code 587 = .ok (.aload_n 0, 1) := by decide +kernel
theorem dL_588 : decode code 588 = .ok (.iload 4, 2) := by decide +kernel
theorem dL_590 : decode code 590 = .ok (.iconst 2, 1) := by decide +kernel
theorem dL_591 : decode code 591 = .ok (.iadd, 1) := by decide +kernel
theorem dL_592 : decode code 592 = .ok (.iaload, 1) := by decide +kernel
theorem dL_593 : decode code 593 = .ok (.ifCond .eq 7, 3) := by decide +kernel
theorem dL_596 : decode code 596 = .ok (.iconst 1, 1) := by decide +kernel
theorem dL_597 : decode code 597 = .ok (.goto 4, 3) := by decide +kernel
theorem dL_600 : decode code 600 = .ok (.iconst 0, 1) := by decide +kernel
theorem dL_601 : decode code 601 = .ok (.aload_n 0, 1) := by decide +kernel
theorem dL_602 : decode code 602 = .ok (.iload 4, 2) := by decide +kernel
theorem dL_604 : decode code 604 = .ok (.iconst 3, 1) := by decide +kernel
theorem dL_605 : decode code 605 = .ok (.iadd, 1) := by decide +kernel
theorem dL_606 : decode code 606 = .ok (.iaload, 1) := by decide +kernel
theorem dL_607 : decode code 607 = .ok (.invokevirtual 72, 3) := by decide +kernel
theorem dL_610 : decode code 610 = .ok (.lcmp, 1) := by decide +kernel
theorem dL_611 : decode code 611 = .ok (.ifCond .eq 559, 3) := by decide +kernel
theorem dL_614 : decode code 614 = .ok (.iconst 0, 1) := by decide +kernel
theorem dL_616 : decode code 616 = .ok (.aload_n 1, 1) := by decide +kernel
theorem dL_617 : decode code 617 = .ok (.invokevirtual 73, 3) := by decide +kernel
theorem dL_620 : decode code 620 = .ok (.aload_n 2, 1) := by decide +kernel
theorem dL_621 : decode code 621 = .ok (.invokevirtual 76, 3) := by decide +kernel
theorem dL_624 : decode code 624 = .ok (.if_icmp .eq 546, 3) := by decide +kernel
theorem dL_627 : decode code 627 = .ok (.iconst 0, 1) := by decide +kernel
theorem dL_629 : decode code 629 = .ok (.aload_n 1, 1) := by decide +kernel
theorem dL_630 : decode code 630 = .ok (.aload_n 0, 1) := by decide +kernel
theorem dL_631 : decode code 631 = .ok (.iload 4, 2) := by decide +kernel
theorem dL_633 : decode code 633 = .ok (.iconst 1, 1) := by decide +kernel
theorem dL_634 : decode code 634 = .ok (.iadd, 1) := by decide +kernel
theorem dL_635 : decode code 635 = .ok (.iaload, 1) := by decide +kernel
theorem dL_636 : decode code 636 = .ok (.aload_n 0, 1) := by decide +kernel
theorem dL_637 : decode code 637 = .ok (.iload 4, 2) := by decide +kernel
theorem dL_639 : decode code 639 = .ok (.iconst 2, 1) := by decide +kernel
theorem dL_640 : decode code 640 = .ok (.iadd, 1) := by decide +kernel
theorem dL_641 : decode code 641 = .ok (.iaload, 1) := by decide +kernel
theorem dL_642 : decode code 642 = .ok (.ifCond .eq 7, 3) := by decide +kernel
theorem dL_645 : decode code 645 = .ok (.iconst 1, 1) := by decide +kernel
theorem dL_646 : decode code 646 = .ok (.goto 4, 3) := by decide +kernel
theorem dL_649 : decode code 649 = .ok (.iconst 0, 1) := by decide +kernel
theorem dL_650 : decode code 650 = .ok (.aload_n 0, 1) := by decide +kernel
theorem dL_651 : decode code 651 = .ok (.iload 4, 2) := by decide +kernel
theorem dL_653 : decode code 653 = .ok (.iconst 3, 1) := by decide +kernel
theorem dL_654 : decode code 654 = .ok (.iadd, 1) := by decide +kernel
theorem dL_655 : decode code 655 = .ok (.iaload, 1) := by decide +kernel
theorem dL_656 : decode code 656 = .ok (.invokevirtual 77, 3) := by decide +kernel
theorem dL_659 : decode code 659 = .ok (.aload_n 2, 1) := by decide +kernel
theorem dL_660 : decode code 660 = .ok (.aload_n 0, 1) := by decide +kernel
theorem dL_661 : decode code 661 = .ok (.iload 4, 2) := by decide +kernel
theorem dL_663 : decode code 663 = .ok (.iconst 1, 1) := by decide +kernel
theorem dL_664 : decode code 664 = .ok (.iadd, 1) := by decide +kernel
theorem dL_665 : decode code 665 = .ok (.iaload, 1) := by decide +kernel
theorem dL_666 : decode code 666 = .ok (.aload_n 0, 1) := by decide +kernel
theorem dL_667 : decode code 667 = .ok (.iload 4, 2) := by decide +kernel
theorem dL_669 : decode code 669 = .ok (.iconst 2, 1) := by decide +kernel
theorem dL_670 : decode code 670 = .ok (.iadd, 1) := by decide +kernel
theorem dL_671 : decode code 671 = .ok (.iaload, 1) := by decide +kernel
theorem dL_672 : decode code 672 = .ok (.ifCond .eq 7, 3) := by decide +kernel
theorem dL_675 : decode code 675 = .ok (.iconst 1, 1) := by decide +kernel
theorem dL_676 : decode code 676 = .ok (.goto 4, 3) := by decide +kernel
theorem dL_679 : decode code 679 = .ok (.iconst 0, 1) := by decide +kernel
theorem dL_680 : decode code 680 = .ok (.aload_n 0, 1) := by decide +kernel
theorem dL_681 : decode code 681 = .ok (.iload 4, 2) := by decide +kernel
theorem dL_683 : decode code 683 = .ok (.iconst 3, 1) := by decide +kernel
theorem dL_684 : decode code 684 = .ok (.iadd, 1) := by decide +kernel
theorem dL_685 : decode code 685 = .ok (.iaload, 1) := by decide +kernel
theorem dL_686 : decode code 686 = .ok (.invokevirtual 81, 3) := by decide +kernel
theorem dL_689 : decode code 689 = .ok (.if_icmp .eq 481, 3) := by decide +kernel
theorem dL_692 : decode code 692 = .ok (.iconst 0, 1) := by decide +kernel
theorem dL_694 : decode code 694 = .ok (.aload_n 1, 1) := by decide +kernel
theorem dL_695 : decode code 695 = .ok (.aload_n 0, 1) := by decide +kernel
theorem dL_696 : decode code 696 = .ok (.iload 4, 2) := by decide +kernel
theorem dL_698 : decode code 698 = .ok (.iconst 1, 1) := by decide +kernel
theorem dL_699 : decode code 699 = .ok (.iadd, 1) := by decide +kernel
theorem dL_700 : decode code 700 = .ok (.iaload, 1) := by decide +kernel
theorem dL_701 : decode code 701 = .ok (.aload_n 0, 1) := by decide +kernel
theorem dL_702 : decode code 702 = .ok (.iload 4, 2) := by decide +kernel
theorem dL_704 : decode code 704 = .ok (.iconst 2, 1) := by decide +kernel
theorem dL_705 : decode code 705 = .ok (.iadd, 1) := by decide +kernel
theorem dL_706 : decode code 706 = .ok (.iaload, 1) := by decide +kernel
theorem dL_707 : decode code 707 = .ok (.aload_n 0, 1) := by decide +kernel
theorem dL_708 : decode code 708 = .ok (.iload 4, 2) := by decide +kernel
theorem dL_710 : decode code 710 = .ok (.iconst 3, 1) := by decide +kernel
theorem dL_711 : decode code 711 = .ok (.iadd, 1) := by decide +kernel
theorem dL_712 : decode code 712 = .ok (.iaload, 1) := by decide +kernel
theorem dL_713 : decode code 713 = .ok (.ifCond .eq 7, 3) := by decide +kernel
theorem dL_716 : decode code 716 = .ok (.iconst 1, 1) := by decide +kernel
theorem dL_717 : decode code 717 = .ok (.goto 4, 3) := by decide +kernel
theorem dL_720 : decode code 720 = .ok (.iconst 0, 1) := by decide +kernel
theorem dL_721 : decode code 721 = .ok (.aload_n 0, 1) := by decide +kernel
theorem dL_722 : decode code 722 = .ok (.iload 4, 2) := by decide +kernel
theorem dL_724 : decode code 724 = .ok (.iconst 4, 1) := by decide +kernel
theorem dL_725 : decode code 725 = .ok (.iadd, 1) := by decide +kernel
theorem dL_726 : decode code 726 = .ok (.iaload, 1) := by decide +kernel
theorem dL_727 : decode code 727 = .ok (.invokevirtual 82, 3) := by decide +kernel
theorem dL_730 : decode code 730 = .ok (.aload_n 2, 1) := by decide +kernel
theorem dL_731 : decode code 731 = .ok (.aload_n 0, 1) := by decide +kernel
theorem dL_732 : decode code 732 = .ok (.iload 4, 2) := by decide +kernel
theorem dL_734 : decode code 734 = .ok (.iconst 1, 1) := by decide +kernel
theorem dL_735 : decode code 735 = .ok (.iadd, 1) := by decide +kernel
theorem dL_736 : decode code 736 = .ok (.iaload, 1) := by decide +kernel
theorem dL_737 : decode code 737 = .ok (.aload_n 0, 1) := by decide +kernel
theorem dL_738 : decode code 738 = .ok (.iload 4, 2) := by decide +kernel
theorem dL_740 : decode code 740 = .ok (.iconst 2, 1) := by decide +kernel
theorem dL_741 : decode code 741 = .ok (.iadd, 1) := by decide +kernel
theorem dL_742 : decode code 742 = .ok (.iaload, 1) := by decide +kernel
theorem dL_743 : decode code 743 = .ok (.aload_n 0, 1) := by decide +kernel
theorem dL_744 : decode code 744 = .ok (.iload 4, 2) := by decide +kernel
theorem dL_746 : decode code 746 = .ok (.iconst 3, 1) := by decide +kernel
theorem dL_747 : decode code 747 = .ok (.iadd, 1) := by decide +kernel
theorem dL_748 : decode code 748 = .ok (.iaload, 1) := by decide +kernel
theorem dL_749 : decode code 749 = .ok (.ifCond .eq 7, 3) := by decide +kernel
theorem dL_752 : decode code 752 = .ok (.iconst 1, 1) := by decide +kernel
theorem dL_753 : decode code 753 = .ok (.goto 4, 3) := by decide +kernel
theorem dL_756 : decode code 756 = .ok (.iconst 0, 1) := by decide +kernel
theorem dL_757 : decode code 757 = .ok (.aload_n 0, 1) := by decide +kernel
theorem dL_758 : decode code 758 = .ok (.iload 4, 2) := by decide +kernel
theorem dL_760 : decode code 760 = .ok (.iconst 4, 1) := by decide +kernel
theorem dL_761 : decode code 761 = .ok (.iadd, 1) := by decide +kernel
theorem dL_762 : decode code 762 = .ok (.iaload, 1) := by decide +kernel
theorem dL_763 : decode code 763 = .ok (.invokevirtual 86, 3) := by decide +kernel
theorem dL_766 : decode code 766 = .ok (.lcmp, 1) := by decide +kernel
theorem dL_767 : decode code 767 = .ok (.ifCond .eq 403, 3) := by decide +kernel
theorem dL_770 : decode code 770 = .ok (.iconst 0, 1) := by decide +kernel
theorem dL_772 : decode code 772 = .ok (.aload_n 1, 1) := by decide +kernel
theorem dL_773 : decode code 773 = .ok (.aload_n 0, 1) := by decide +kernel
theorem dL_774 : decode code 774 = .ok (.iload 4, 2) := by decide +kernel
theorem dL_776 : decode code 776 = .ok (.iconst 1, 1) := by decide +kernel
theorem dL_777 : decode code 777 = .ok (.iadd, 1) := by decide +kernel
theorem dL_778 : decode code 778 = .ok (.iaload, 1) := by decide +kernel
theorem dL_779 : decode code 779 = .ok (.invokevirtual 87, 3) := by decide +kernel
theorem dL_782 : decode code 782 = .ok (.aload_n 2, 1) := by decide +kernel
theorem dL_783 : decode code 783 = .ok (.aload_n 0, 1) := by decide +kernel
theorem dL_784 : decode code 784 = .ok (.iload 4, 2) := by decide +kernel
theorem dL_786 : decode code 786 = .ok (.iconst 1, 1) := by decide +kernel
theorem dL_787 : decode code 787 = .ok (.iadd, 1) := by decide +kernel
theorem dL_788 : decode code 788 = .ok (.iaload, 1) := by decide +kernel
theorem dL_789 : decode code 789 = .ok (.invokevirtual 90, 3) := by decide +kernel
theorem dL_792 : decode code 792 = .ok (.if_icmp .eq 378, 3) := by decide +kernel
theorem dL_795 : decode code 795 = .ok (.iconst 0, 1) := by decide +kernel
theorem dL_797 : decode code 797 = .ok (.aload_n 1, 1) := by decide +kernel
theorem dL_798 : decode code 798 = .ok (.aload_n 0, 1) := by decide +kernel
theorem dL_799 : decode code 799 = .ok (.iload 4, 2) := by decide +kernel
theorem dL_801 : decode code 801 = .ok (.iconst 1, 1) := by decide +kernel
theorem dL_802 : decode code 802 = .ok (.iadd, 1) := by decide +kernel
theorem dL_803 : decode code 803 = .ok (.iaload, 1) := by decide +kernel
theorem dL_804 : decode code 804 = .ok (.aload_n 0, 1) := by decide +kernel
theorem dL_805 : decode code 805 = .ok (.iload 4, 2) := by decide +kernel
theorem dL_807 : decode code 807 = .ok (.iconst 2, 1) := by decide +kernel
theorem dL_808 : decode code 808 = .ok (.iadd, 1) := by decide +kernel
theorem dL_809 : decode code 809 = .ok (.iaload, 1) := by decide +kernel
theorem dL_810 : decode code 810 = .ok (.invokevirtual 91, 3) := by decide +kernel
theorem dL_813 : decode code 813 = .ok (.aload_n 2, 1) := by decide +kernel
theorem dL_814 : decode code 814 = .ok (.aload_n 0, 1) := by decide +kernel
theorem dL_815 : decode code 815 = .ok (.iload 4, 2) := by decide +kernel
theorem dL_817 : decode code 817 = .ok (.iconst 1, 1) := by decide +kernel
theorem dL_818 : decode code 818 = .ok (.iadd, 1) := by decide +kernel
theorem dL_819 : decode code 819 = .ok (.iaload, 1) := by decide +kernel
theorem dL_820 : decode code 820 = .ok (.aload_n 0, 1) := by decide +kernel
theorem dL_821 : decode code 821 = .ok (.iload 4, 2) := by decide +kernel
theorem dL_823 : decode code 823 = .ok (.iconst 2, 1) := by decide +kernel
theorem dL_824 : decode code 824 = .ok (.iadd, 1) := by decide +kernel
theorem dL_825 : decode code 825 = .ok (.iaload, 1) := by decide +kernel
theorem dL_826 : decode code 826 = .ok (.invokevirtual 95, 3) := by decide +kernel
theorem dL_829 : decode code 829 = .ok (.lcmp, 1) := by decide +kernel
theorem dL_830 : decode code 830 = .ok (.ifCond .eq 340, 3) := by decide +kernel
theorem dL_833 : decode code 833 = .ok (.iconst 0, 1) := by decide +kernel
theorem dL_835 : decode code 835 = .ok (.aload_n 1, 1) := by decide +kernel
theorem dL_836 : decode code 836 = .ok (.aload_n 0, 1) := by decide +kernel
theorem dL_837 : decode code 837 = .ok (.iload 4, 2) := by decide +kernel
theorem dL_839 : decode code 839 = .ok (.iconst 1, 1) := by decide +kernel
theorem dL_840 : decode code 840 = .ok (.iadd, 1) := by decide +kernel
theorem dL_841 : decode code 841 = .ok (.iaload, 1) := by decide +kernel
theorem dL_842 : decode code 842 = .ok (.aload_n 0, 1) := by decide +kernel
theorem dL_843 : decode code 843 = .ok (.iload 4, 2) := by decide +kernel
theorem dL_845 : decode code 845 = .ok (.iconst 2, 1) := by decide +kernel
theorem dL_846 : decode code 846 = .ok (.iadd, 1) := by decide +kernel
theorem dL_847 : decode code 847 = .ok (.iaload, 1) := by decide +kernel
theorem dL_848 : decode code 848 = .ok (.aload_n 0, 1) := by decide +kernel
theorem dL_849 : decode code 849 = .ok (.iload 4, 2) := by decide +kernel
theorem dL_851 : decode code 851 = .ok (.iconst 3, 1) := by decide +kernel
theorem dL_852 : decode code 852 = .ok (.iadd, 1) := by decide +kernel
theorem dL_853 : decode code 853 = .ok (.iaload, 1) := by decide +kernel
theorem dL_854 : decode code 854 = .ok (.invokevirtual 96, 3) := by decide +kernel
theorem dL_857 : decode code 857 = .ok (.aload_n 2, 1) := by decide +kernel
theorem dL_858 : decode code 858 = .ok (.aload_n 0, 1) := by decide +kernel
theorem dL_859 : decode code 859 = .ok (.iload 4, 2) := by decide +kernel
theorem dL_861 : decode code 861 = .ok (.iconst 1, 1) := by decide +kernel
theorem dL_862 : decode code 862 = .ok (.iadd, 1) := by decide +kernel
theorem dL_863 : decode code 863 = .ok (.iaload, 1) := by decide +kernel
theorem dL_864 : decode code 864 = .ok (.aload_n 0, 1) := by decide +kernel
theorem dL_865 : decode code 865 = .ok (.iload 4, 2) := by decide +kernel
theorem dL_867 : decode code 867 = .ok (.iconst 2, 1) := by decide +kernel
theorem dL_868 : decode code 868 = .ok (.iadd, 1) := by decide +kernel
theorem dL_869 : decode code 869 = .ok (.iaload, 1) := by decide +kernel
theorem dL_870 : decode code 870 = .ok (.aload_n 0, 1) := by decide +kernel
theorem dL_871 : decode code 871 = .ok (.iload 4, 2) := by decide +kernel
theorem dL_873 : decode code 873 = .ok (.iconst 3, 1) := by decide +kernel
theorem dL_874 : decode code 874 = .ok (.iadd, 1) := by decide +kernel
theorem dL_875 : decode code 875 = .ok (.iaload, 1) := by decide +kernel
theorem dL_876 : decode code 876 = .ok (.invokevirtual 100, 3) := by decide +kernel
theorem dL_879 : decode code 879 = .ok (.lcmp, 1) := by decide +kernel
theorem dL_880 : decode code 880 = .ok (.ifCond .eq 290, 3) := by decide +kernel
theorem dL_883 : decode code 883 = .ok (.iconst 0, 1) := by decide +kernel
theorem dL_885 : decode code 885 = .ok (.aload_n 1, 1) := by decide +kernel
theorem dL_886 : decode code 886 = .ok (.aload_n 0, 1) := by decide +kernel
theorem dL_887 : decode code 887 = .ok (.iload 4, 2) := by decide +kernel
theorem dL_889 : decode code 889 = .ok (.iconst 1, 1) := by decide +kernel
theorem dL_890 : decode code 890 = .ok (.iadd, 1) := by decide +kernel
theorem dL_891 : decode code 891 = .ok (.iaload, 1) := by decide +kernel
theorem dL_892 : decode code 892 = .ok (.invokevirtual 101, 3) := by decide +kernel
theorem dL_895 : decode code 895 = .ok (.aload_n 2, 1) := by decide +kernel
theorem dL_896 : decode code 896 = .ok (.aload_n 0, 1) := by decide +kernel
theorem dL_897 : decode code 897 = .ok (.iload 4, 2) := by decide +kernel
theorem dL_899 : decode code 899 = .ok (.iconst 1, 1) := by decide +kernel
theorem dL_900 : decode code 900 = .ok (.iadd, 1) := by decide +kernel
theorem dL_901 : decode code 901 = .ok (.iaload, 1) := by decide +kernel
theorem dL_902 : decode code 902 = .ok (.invokevirtual 104, 3) := by decide +kernel
theorem dL_905 : decode code 905 = .ok (.if_icmp .eq 265, 3) := by decide +kernel
theorem dL_908 : decode code 908 = .ok (.iconst 0, 1) := by decide +kernel
theorem dL_910 : decode code 910 = .ok (.aload_n 1, 1) := by decide +kernel
theorem dL_911 : decode code 911 = .ok (.aload_n 0, 1) := by decide +kernel
theorem dL_912 : decode code 912 = .ok (.iload 4, 2) := by decide +kernel
theorem dL_914 : decode code 914 = .ok (.iconst 1, 1) := by decide +kernel
theorem dL_915 : decode code 915 = .ok (.iadd, 1) := by decide +kernel
theorem dL_916 : decode code 916 = .ok (.iaload, 1) := by decide +kernel
theorem dL_917 : decode code 917 = .ok (.aload_n 0, 1) := by decide +kernel
theorem dL_918 : decode code 918 = .ok (.iload 4, 2) := by decide +kernel
theorem dL_920 : decode code 920 = .ok (.iconst 2, 1) := by decide +kernel
theorem dL_921 : decode code 921 = .ok (.iadd, 1) := by decide +kernel
theorem dL_922 : decode code 922 = .ok (.iaload, 1) := by decide +kernel
theorem dL_923 : decode code 923 = .ok (.invokevirtual 105, 3) := by decide +kernel
theorem dL_926 : decode code 926 = .ok (.aload_n 2, 1) := by decide +kernel
theorem dL_927 : decode code 927 = .ok (.aload_n 0, 1) := by decide +kernel
theorem dL_928 : decode code 928 = .ok (.iload 4, 2) := by decide +kernel
theorem dL_930 : decode code 930 = .ok (.iconst 1, 1) := by decide +kernel
theorem dL_931 : decode code 931 = .ok (.iadd, 1) := by decide +kernel
theorem dL_932 : decode code 932 = .ok (.iaload, 1) := by decide +kernel
theorem dL_933 : decode code 933 = .ok (.aload_n 0, 1) := by decide +kernel
theorem dL_934 : decode code 934 = .ok (.iload 4, 2) := by decide +kernel
theorem dL_936 : decode code 936 = .ok (.iconst 2, 1) := by decide +kernel
theorem dL_937 : decode code 937 = .ok (.iadd, 1) := by decide +kernel
theorem dL_938 : decode code 938 = .ok (.iaload, 1) := by decide +kernel
theorem dL_939 : decode code 939 = .ok (.invokevirtual 108, 3) := by decide +kernel
theorem dL_942 : decode code 942 = .ok (.lcmp, 1) := by decide +kernel
theorem dL_943 : decode code 943 = .ok (.ifCond .eq 227, 3) := by decide +kernel
theorem dL_946 : decode code 946 = .ok (.iconst 0, 1) := by decide +kernel
theorem dL_948 : decode code 948 = .ok (.aload_n 1, 1) := by decide +kernel
theorem dL_949 : decode code 949 = .ok (.aload_n 0, 1) := by decide +kernel
theorem dL_950 : decode code 950 = .ok (.iload 4, 2) := by decide +kernel
theorem dL_952 : decode code 952 = .ok (.iconst 1, 1) := by decide +kernel
theorem dL_953 : decode code 953 = .ok (.iadd, 1) := by decide +kernel
theorem dL_954 : decode code 954 = .ok (.iaload, 1) := by decide +kernel
theorem dL_955 : decode code 955 = .ok (.aload_n 0, 1) := by decide +kernel
theorem dL_956 : decode code 956 = .ok (.iload 4, 2) := by decide +kernel
theorem dL_958 : decode code 958 = .ok (.iconst 2, 1) := by decide +kernel
theorem dL_959 : decode code 959 = .ok (.iadd, 1) := by decide +kernel
theorem dL_960 : decode code 960 = .ok (.iaload, 1) := by decide +kernel
theorem dL_961 : decode code 961 = .ok (.aload_n 0, 1) := by decide +kernel
theorem dL_962 : decode code 962 = .ok (.iload 4, 2) := by decide +kernel
theorem dL_964 : decode code 964 = .ok (.iconst 3, 1) := by decide +kernel
theorem dL_965 : decode code 965 = .ok (.iadd, 1) := by decide +kernel
theorem dL_966 : decode code 966 = .ok (.iaload, 1) := by decide +kernel
theorem dL_967 : decode code 967 = .ok (.aload_n 0, 1) := by decide +kernel
theorem dL_968 : decode code 968 = .ok (.iload 4, 2) := by decide +kernel
theorem dL_970 : decode code 970 = .ok (.iconst 4, 1) := by decide +kernel
theorem dL_971 : decode code 971 = .ok (.iadd, 1) := by decide +kernel
theorem dL_972 : decode code 972 = .ok (.iaload, 1) := by decide +kernel
theorem dL_973 : decode code 973 = .ok (.aload_n 0, 1) := by decide +kernel
theorem dL_974 : decode code 974 = .ok (.iload 4, 2) := by decide +kernel
theorem dL_976 : decode code 976 = .ok (.iconst 5, 1) := by decide +kernel
theorem dL_977 : decode code 977 = .ok (.iadd, 1) := by decide +kernel
theorem dL_978 : decode code 978 = .ok (.iaload, 1) := by decide +kernel
theorem dL_979 : decode code 979 = .ok (.invokevirtual 109, 3) := by decide +kernel
theorem dL_982 : decode code 982 = .ok (.aload_n 2, 1) := by decide +kernel
theorem dL_983 : decode code 983 = .ok (.aload_n 0, 1) := by decide +kernel
theorem dL_984 : decode code 984 = .ok (.iload 4, 2) := by decide +kernel
theorem dL_986 : decode code 986 = .ok (.iconst 1, 1) := by decide +kernel
theorem dL_987 : decode code 987 = .ok (.iadd, 1) := by decide +kernel
theorem dL_988 : decode code 988 = .ok (.iaload, 1) := by decide +kernel
theorem dL_989 : decode code 989 = .ok (.aload_n 0, 1) := by decide +kernel
theorem dL_990 : decode code 990 = .ok (.iload 4, 2) := by decide +kernel
theorem dL_992 : decode code 992 = .ok (.iconst 2, 1) := by decide +kernel
theorem dL_993 : decode code 993 = .ok (.iadd, 1) := by decide +kernel
theorem dL_994 : decode code 994 = .ok (.iaload, 1) := by decide +kernel
theorem dL_995 : decode code 995 = .ok (.aload_n 0, 1) := by decide +kernel
theorem dL_996 : decode code 996 = .ok (.iload 4, 2) := by decide +kernel
theorem dL_998 : decode code 998 = .ok (.iconst 3, 1) := by decide +kernel
theorem dL_999 : decode code 999 = .ok (.iadd, 1) := by decide +kernel
theorem dL_1000 : decode code 1000 = .ok (.iaload, 1) := by decide +kernel
theorem dL_1001 : decode code 1001 = .ok (.aload_n 0, 1) := by decide +kernel
theorem dL_1002 : decode code 1002 = .ok (.iload 4, 2) := by decide +kernel
theorem dL_1004 : decode code 1004 = .ok (.iconst 4, 1) := by decide +kernel
theorem dL_1005 : decode code 1005 = .ok (.iadd, 1) := by decide +kernel
theorem dL_1006 : decode code 1006 = .ok (.iaload, 1) := by decide +kernel
theorem dL_1007 : decode code 1007 = .ok (.aload_n 0, 1) := by decide +kernel
theorem dL_1008 : decode code 1008 = .ok (.iload 4, 2) := by decide +kernel
theorem dL_1010 : decode code 1010 = .ok (.iconst 5, 1) := by decide +kernel
theorem dL_1011 : decode code 1011 = .ok (.iadd, 1) := by decide +kernel
theorem dL_1012 : decode code 1012 = .ok (.iaload, 1) := by decide +kernel
theorem dL_1013 : decode code 1013 = .ok (.invokevirtual 112, 3) := by decide +kernel
theorem dL_1016 : decode code 1016 = .ok (.if_icmp .eq 154, 3) := by decide +kernel
theorem dL_1019 : decode code 1019 = .ok (.iconst 0, 1) := by decide +kernel
theorem dL_1021 : decode code 1021 = .ok (.aload_n 1, 1) := by decide +kernel
theorem dL_1022 : decode code 1022 = .ok (.aload_n 0, 1) := by decide +kernel
theorem dL_1023 : decode code 1023 = .ok (.iload 4, 2) := by decide +kernel
theorem dL_1025 : decode code 1025 = .ok (.iconst 1, 1) := by decide +kernel
theorem dL_1026 : decode code 1026 = .ok (.iadd, 1) := by decide +kernel
theorem dL_1027 : decode code 1027 = .ok (.iaload, 1) := by decide +kernel
theorem dL_1028 : decode code 1028 = .ok (.aload_n 0, 1) := by decide +kernel
theorem dL_1029 : decode code 1029 = .ok (.iload 4, 2) := by decide +kernel
theorem dL_1031 : decode code 1031 = .ok (.iconst 2, 1) := by decide +kernel
theorem dL_1032 : decode code 1032 = .ok (.iadd, 1) := by decide +kernel
theorem dL_1033 : decode code 1033 = .ok (.iaload, 1) := by decide +kernel
theorem dL_1034 : decode code 1034 = .ok (.invokevirtual 113, 3) := by decide +kernel
theorem dL_1037 : decode code 1037 = .ok (.aload_n 2, 1) := by decide +kernel
theorem dL_1038 : decode code 1038 = .ok (.aload_n 0, 1) := by decide +kernel
theorem dL_1039 : decode code 1039 = .ok (.iload 4, 2) := by decide +kernel
theorem dL_1041 : decode code 1041 = .ok (.iconst 1, 1) := by decide +kernel
theorem dL_1042 : decode code 1042 = .ok (.iadd, 1) := by decide +kernel
theorem dL_1043 : decode code 1043 = .ok (.iaload, 1) := by decide +kernel
theorem dL_1044 : decode code 1044 = .ok (.aload_n 0, 1) := by decide +kernel
theorem dL_1045 : decode code 1045 = .ok (.iload 4, 2) := by decide +kernel
theorem dL_1047 : decode code 1047 = .ok (.iconst 2, 1) := by decide +kernel
theorem dL_1048 : decode code 1048 = .ok (.iadd, 1) := by decide +kernel
theorem dL_1049 : decode code 1049 = .ok (.iaload, 1) := by decide +kernel
theorem dL_1050 : decode code 1050 = .ok (.invokevirtual 117, 3) := by decide +kernel
theorem dL_1053 : decode code 1053 = .ok (.if_icmp .eq 117, 3) := by decide +kernel
theorem dL_1056 : decode code 1056 = .ok (.iconst 0, 1) := by decide +kernel
theorem dL_1058 : decode code 1058 = .ok (.aload_n 1, 1) := by decide +kernel
theorem dL_1059 : decode code 1059 = .ok (.aload_n 0, 1) := by decide +kernel
theorem dL_1060 : decode code 1060 = .ok (.iload 4, 2) := by decide +kernel
theorem dL_1062 : decode code 1062 = .ok (.iconst 1, 1) := by decide +kernel
theorem dL_1063 : decode code 1063 = .ok (.iadd, 1) := by decide +kernel
theorem dL_1064 : decode code 1064 = .ok (.iaload, 1) := by decide +kernel
theorem dL_1065 : decode code 1065 = .ok (.aload_n 0, 1) := by decide +kernel
theorem dL_1066 : decode code 1066 = .ok (.iload 4, 2) := by decide +kernel
theorem dL_1068 : decode code 1068 = .ok (.iconst 2, 1) := by decide +kernel
theorem dL_1069 : decode code 1069 = .ok (.iadd, 1) := by decide +kernel
theorem dL_1070 : decode code 1070 = .ok (.iaload, 1) := by decide +kernel
theorem dL_1071 : decode code 1071 = .ok (.invokevirtual 118, 3) := by decide +kernel
theorem dL_1074 : decode code 1074 = .ok (.aload_n 2, 1) := by decide +kernel
theorem dL_1075 : decode code 1075 = .ok (.aload_n 0, 1) := by decide +kernel
theorem dL_1076 : decode code 1076 = .ok (.iload 4, 2) := by decide +kernel
theorem dL_1078 : decode code 1078 = .ok (.iconst 1, 1) := by decide +kernel
theorem dL_1079 : decode code 1079 = .ok (.iadd, 1) := by decide +kernel
theorem dL_1080 : decode code 1080 = .ok (.iaload, 1) := by decide +kernel
theorem dL_1081 : decode code 1081 = .ok (.aload_n 0, 1) := by decide +kernel
theorem dL_1082 : decode code 1082 = .ok (.iload 4, 2) := by decide +kernel
theorem dL_1084 : decode code 1084 = .ok (.iconst 2, 1) := by decide +kernel
theorem dL_1085 : decode code 1085 = .ok (.iadd, 1) := by decide +kernel
theorem dL_1086 : decode code 1086 = .ok (.iaload, 1) := by decide +kernel
theorem dL_1087 : decode code 1087 = .ok (.invokevirtual 121, 3) := by decide +kernel
theorem dL_1090 : decode code 1090 = .ok (.if_icmp .eq 80, 3) := by decide +kernel
theorem dL_1093 : decode code 1093 = .ok (.iconst 0, 1) := by decide +kernel
theorem dL_1095 : decode code 1095 = .ok (.aload_n 1, 1) := by decide +kernel
theorem dL_1096 : decode code 1096 = .ok (.aload_n 0, 1) := by decide +kernel
theorem dL_1097 : decode code 1097 = .ok (.iload 4, 2) := by decide +kernel
theorem dL_1099 : decode code 1099 = .ok (.iconst 1, 1) := by decide +kernel
theorem dL_1100 : decode code 1100 = .ok (.iadd, 1) := by decide +kernel
theorem dL_1101 : decode code 1101 = .ok (.iaload, 1) := by decide +kernel
theorem dL_1102 : decode code 1102 = .ok (.invokevirtual 122, 3) := by decide +kernel
theorem dL_1105 : decode code 1105 = .ok (.aload_n 2, 1) := by decide +kernel
theorem dL_1106 : decode code 1106 = .ok (.aload_n 0, 1) := by decide +kernel
theorem dL_1107 : decode code 1107 = .ok (.iload 4, 2) := by decide +kernel
theorem dL_1109 : decode code 1109 = .ok (.iconst 1, 1) := by decide +kernel
theorem dL_1110 : decode code 1110 = .ok (.iadd, 1) := by decide +kernel
theorem dL_1111 : decode code 1111 = .ok (.iaload, 1) := by decide +kernel
theorem dL_1112 : decode code 1112 = .ok (.invokevirtual 125, 3) := by decide +kernel
theorem dL_1115 : decode code 1115 = .ok (.if_icmp .eq 55, 3) := by decide +kernel
theorem dL_1118 : decode code 1118 = .ok (.iconst 0, 1) := by decide +kernel
theorem dL_1120 : decode code 1120 = .ok (.aload_n 1, 1) := by decide +kernel
theorem dL_1121 : decode code 1121 = .ok (.aload_n 0, 1) := by decide +kernel
theorem dL_1122 : decode code 1122 = .ok (.iload 4, 2) := by decide +kernel
theorem dL_1124 : decode code 1124 = .ok (.iconst 1, 1) := by decide +kernel
theorem dL_1125 : decode code 1125 = .ok (.iadd, 1) := by decide +kernel
theorem dL_1126 : decode code 1126 = .ok (.iaload, 1) := by decide +kernel
theorem dL_1127 : decode code 1127 = .ok (.invokevirtual 126, 3) := by decide +kernel
theorem dL_1130 : decode code 1130 = .ok (.aload_n 2, 1) := by decide +kernel
theorem dL_1131 : decode code 1131 = .ok (.aload_n 0, 1) := by decide +kernel
theorem dL_1132 : decode code 1132 = .ok (.iload 4, 2) := by decide +kernel
theorem dL_1134 : decode code 1134 = .ok (.iconst 1, 1) := by decide +kernel
theorem dL_1135 : decode code 1135 = .ok (.iadd, 1) := by decide +kernel
theorem dL_1136 : decode code 1136 = .ok (.iaload, 1) := by decide +kernel
theorem dL_1137 : decode code 1137 = .ok (.invokevirtual 129, 3) := by decide +kernel
theorem dL_1140 : decode code 1140 = .ok (.if_icmp .eq 30, 3) := by decide +kernel
theorem dL_1143 : decode code 1143 = .ok (.iconst 0, 1) := by decide +kernel
theorem dL_1145 : decode code 1145 = .ok (.aload_n 1, 1) := by decide +kernel
theorem dL_1146 : decode code 1146 = .ok (.aload_n 0, 1) := by decide +kernel
theorem dL_1147 : decode code 1147 = .ok (.iload 4, 2) := by decide +kernel
theorem dL_1149 : decode code 1149 = .ok (.iconst 1, 1) := by decide +kernel
theorem dL_1150 : decode code 1150 = .ok (.iadd, 1) := by decide +kernel
theorem dL_1151 : decode code 1151 = .ok (.iaload, 1) := by decide +kernel
theorem dL_1152 : decode code 1152 = .ok (.invokevirtual 130, 3) := by decide +kernel
theorem dL_1155 : decode code 1155 = .ok (.aload_n 2, 1) := by decide +kernel
theorem dL_1156 : decode code 1156 = .ok (.aload_n 0, 1) := by decide +kernel
theorem dL_1157 : decode code 1157 = .ok (.iload 4, 2) := by decide +kernel
theorem dL_1159 : decode code 1159 = .ok (.iconst 1, 1) := by decide +kernel
theorem dL_1160 : decode code 1160 = .ok (.iadd, 1) := by decide +kernel
theorem dL_1161 : decode code 1161 = .ok (.iaload, 1) := by decide +kernel
theorem dL_1162 : decode code 1162 = .ok (.invokevirtual 133, 3) := by decide +kernel
theorem dL_1165 : decode code 1165 = .ok (.if_icmp .eq 5, 3) := by decide +kernel
theorem dL_1168 : decode code 1168 = .ok (.iconst 0, 1) := by decide +kernel
theorem dL_1170 : decode code 1170 = .ok (.iinc 4 6, 3) := by decide +kernel
theorem dL_1173 : decode code 1173 = .ok (.goto (-1150), 3) := by decide +kernel
theorem dL_1176 : decode code 1176 = .ok (.iconst 1, 1) := by decide +kernel
theorem dL_1177 : decode code 1177 = .ok (.ireturn, 1) := by decide +kernel
theorem wK_19 : Cond.methodLink R_law 19 yX10_feed ∈ h_T := hs_3 24 rfl rfl
theorem wK_23 : Cond.methodLink R_law 23 yX11_feed ∈ h_T := hs_7 83 rfl rfl
theorem wK_24 : Cond.methodLink R_law 24 yX10_end ∈ h_T := hs_3 35 rfl rfl
theorem wK_28 : Cond.methodLink R_law 28 yX11_end ∈ h_T := hs_7 90 rfl rfl
theorem wK_29 : Cond.methodLink R_law 29 yX10_fault ∈ h_T := hs_3 39 rfl rfl
theorem wK_33 : Cond.methodLink R_law 33 yX11_fault ∈ h_T := hs_7 97 rfl rfl
theorem wK_34 : Cond.methodLink R_law 34 yX10_loop ∈ h_T := hs_4 0 rfl rfl
theorem wK_38 : Cond.methodLink R_law 38 yX11_loop ∈ h_T := hs_7 214 rfl rfl
theorem wK_39 : Cond.methodLink R_law 39 yX10_guess ∈ h_T := hs_4 91 rfl rfl
theorem wK_42 : Cond.methodLink R_law 42 yX11_guess ∈ h_T := hs_8 41 rfl rfl
theorem wK_43 : Cond.methodLink R_law 43 yX10_rule ∈ h_T := hs_4 95 rfl rfl
theorem wK_46 : Cond.methodLink R_law 46 yX11_rule ∈ h_T := hs_8 45 rfl rfl
theorem wK_47 : Cond.methodLink R_law 47 yX10_choices ∈ h_T := hs_4 104 rfl rfl
theorem wK_50 : Cond.methodLink R_law 50 yX11_choices ∈ h_T := hs_8 79 rfl rfl
theorem wK_56 : Cond.methodLink R_law 56 yX11_choice ∈ h_T := hs_8 87 rfl rfl
theorem wK_57 : Cond.methodLink R_law 57 yX11_thrown ∈ h_T := hs_7 79 rfl rfl
theorem wK_60 : Cond.methodLink R_law 60 yX10_leads ∈ h_T := hs_4 108 rfl rfl
theorem wK_63 : Cond.methodLink R_law 63 yX11_leads ∈ h_T := hs_8 96 rfl rfl
theorem wK_64 : Cond.methodLink R_law 64 yX10_paid ∈ h_T := hs_4 117 rfl rfl
theorem wK_68 : Cond.methodLink R_law 68 yX11_paid ∈ h_T := hs_8 100 rfl rfl
theorem wK_69 : Cond.methodLink R_law 69 yX10_ends ∈ h_T := hs_4 199 rfl rfl
theorem wK_72 : Cond.methodLink R_law 72 yX11_ends ∈ h_T := hs_8 170 rfl rfl
theorem wK_73 : Cond.methodLink R_law 73 yX10_unsure ∈ h_T := hs_4 203 rfl rfl
theorem wK_76 : Cond.methodLink R_law 76 yX11_unsure ∈ h_T := hs_8 174 rfl rfl
theorem wK_77 : Cond.methodLink R_law 77 yX10_plan ∈ h_T := hs_4 212 rfl rfl
theorem wK_81 : Cond.methodLink R_law 81 yX11_plan ∈ h_T := hs_8 182 rfl rfl
theorem wK_82 : Cond.methodLink R_law 82 yX10_within ∈ h_T := hs_4 222 rfl rfl
theorem wK_86 : Cond.methodLink R_law 86 yX11_within ∈ h_T := hs_8 186 rfl rfl
theorem wK_87 : Cond.methodLink R_law 87 yX10_half ∈ h_T := hs_5 3 rfl rfl
theorem wK_90 : Cond.methodLink R_law 90 yX11_half ∈ h_T := hs_8 206 rfl rfl
theorem wK_91 : Cond.methodLink R_law 91 yX10_guessed ∈ h_T := hs_5 8 rfl rfl
theorem wK_95 : Cond.methodLink R_law 95 yX11_guessed ∈ h_T := hs_8 210 rfl rfl
theorem wK_96 : Cond.methodLink R_law 96 yX10_ahead ∈ h_T := hs_5 29 rfl rfl
theorem wK_100 : Cond.methodLink R_law 100 yX11_ahead ∈ h_T := hs_8 227 rfl rfl
theorem wK_101 : Cond.methodLink R_law 101 yX10_refutes ∈ h_T := hs_5 38 rfl rfl
theorem wK_104 : Cond.methodLink R_law 104 yX11_refutes ∈ h_T := hs_8 236 rfl rfl
theorem wK_105 : Cond.methodLink R_law 105 yX10_best ∈ h_T := hs_5 55 rfl rfl
theorem wK_108 : Cond.methodLink R_law 108 yX11_best ∈ h_T := hs_9 12 rfl rfl
theorem wK_109 : Cond.methodLink R_law 109 yX10_run ∈ h_T := hs_5 126 rfl rfl
theorem wK_112 : Cond.methodLink R_law 112 yX11_run ∈ h_T := hs_9 48 rfl rfl
theorem wK_113 : Cond.methodLink R_law 113 yX10_bind ∈ h_T := hs_5 140 rfl rfl
theorem wK_117 : Cond.methodLink R_law 117 yX11_bind ∈ h_T := hs_9 53 rfl rfl
theorem wK_118 : Cond.methodLink R_law 118 yX10_price ∈ h_T := hs_5 144 rfl rfl
theorem wK_121 : Cond.methodLink R_law 121 yX11_price ∈ h_T := hs_9 57 rfl rfl
theorem wK_122 : Cond.methodLink R_law 122 yX10_most ∈ h_T := hs_5 148 rfl rfl
theorem wK_125 : Cond.methodLink R_law 125 yX11_most ∈ h_T := hs_9 65 rfl rfl
theorem wK_126 : Cond.methodLink R_law 126 yX10_status ∈ h_T := hs_5 184 rfl rfl
theorem wK_129 : Cond.methodLink R_law 129 yX11_status ∈ h_T := hs_9 91 rfl rfl
theorem wK_130 : Cond.methodLink R_law 130 yX10_count ∈ h_T := hs_5 188 rfl rfl
theorem wK_133 : Cond.methodLink R_law 133 yX11_count ∈ h_T := hs_9 95 rfl rfl
