noncomputable section
theorem dL_law_0 : decode cL_law 0 = .ok (.new 8, 3) := by decide +kernel
theorem dL_law_3 : decode cL_law 3 = .ok (.dup, 1) := by decide +kernel
theorem dL_law_4 : decode cL_law 4 = .ok (.invokespecial 22, 3) := by decide +kernel
theorem dL_law_7 : decode cL_law 7 = .ok (.astore_n 1, 1) := by decide +kernel
theorem dL_law_8 : decode cL_law 8 = .ok (.new 23, 3) := by decide +kernel
theorem dL_law_11 : decode cL_law 11 = .ok (.dup, 1) := by decide +kernel
theorem dL_law_12 : decode cL_law 12 = .ok (.invokespecial 25, 3) := by decide +kernel
theorem dL_law_15 : decode cL_law 15 = .ok (.astore_n 2, 1) := by decide +kernel
theorem dL_law_16 : decode cL_law 16 = .ok (.iconst 1, 1) := by decide +kernel
theorem dL_law_17 : decode cL_law 17 = .ok (.newarray .long, 2) := by decide +kernel
theorem dL_law_19 : decode cL_law 19 = .ok (.astore_n 3, 1) := by decide +kernel
theorem dL_law_20 : decode cL_law 20 = .ok (.iconst 0, 1) := by decide +kernel
theorem dL_law_21 : decode cL_law 21 = .ok (.istore 4, 2) := by decide +kernel
theorem dL_law_23 : decode cL_law 23 = .ok (.iload 4, 2) := by decide +kernel
theorem dL_law_25 : decode cL_law 25 = .ok (.aload_n 0, 1) := by decide +kernel
theorem dL_law_26 : decode cL_law 26 = .ok (.arraylength, 1) := by decide +kernel
theorem dL_law_27 : decode cL_law 27 = .ok (.bipush 6, 2) := by decide +kernel
theorem dL_law_29 : decode cL_law 29 = .ok (.isub, 1) := by decide +kernel
theorem dL_law_30 : decode cL_law 30 = .ok (.if_icmp .gt 1497, 3) := by decide +kernel
theorem dL_law_33 : decode cL_law 33 = .ok (.aload_n 0, 1) := by decide +kernel
theorem dL_law_34 : decode cL_law 34 = .ok (.iload 4, 2) := by decide +kernel
theorem dL_law_36 : decode cL_law 36 = .ok (.iaload, 1) := by decide +kernel
theorem dL_law_37 : decode cL_law 37 = .ok (.bipush 63, 2) := by decide +kernel
theorem dL_law_39 : decode cL_law 39 = .ok (.iand, 1) := by decide +kernel
theorem dL_law_40 : decode cL_law 40 = .ok (.tableswitch 1481 0 43 #[192, 265, 290, 303, 316, 384, 464, 532, 557, 606, 643, 668, 693, 718, 743, 768, 781, 806, 843, 868, 893, 930, 943, 956, 981, 1006, 1019, 1044, 1057, 1070, 1083, 1120, 1145, 1182, 1207, 1232, 1269, 1318, 1343, 1368, 1381, 1406, 1431, 1456], 192) := by decide +kernel
theorem dL_law_232 : decode cL_law 232 = .ok (.aload_n 1, 1) := by decide +kernel
theorem dL_law_233 : decode cL_law 233 = .ok (.aload_n 0, 1) := by decide +kernel
theorem dL_law_234 : decode cL_law 234 = .ok (.iload 4, 2) := by decide +kernel
theorem dL_law_236 : decode cL_law 236 = .ok (.iconst 1, 1) := by decide +kernel
theorem dL_law_237 : decode cL_law 237 = .ok (.iadd, 1) := by decide +kernel
theorem dL_law_238 : decode cL_law 238 = .ok (.iaload, 1) := by decide +kernel
theorem dL_law_239 : decode cL_law 239 = .ok (.aload_n 0, 1) := by decide +kernel
theorem dL_law_240 : decode cL_law 240 = .ok (.iload 4, 2) := by decide +kernel
theorem dL_law_242 : decode cL_law 242 = .ok (.iconst 2, 1) := by decide +kernel
theorem dL_law_243 : decode cL_law 243 = .ok (.iadd, 1) := by decide +kernel
theorem dL_law_244 : decode cL_law 244 = .ok (.iaload, 1) := by decide +kernel
theorem dL_law_245 : decode cL_law 245 = .ok (.aload_n 0, 1) := by decide +kernel
theorem dL_law_246 : decode cL_law 246 = .ok (.iload 4, 2) := by decide +kernel
theorem dL_law_248 : decode cL_law 248 = .ok (.iconst 3, 1) := by decide +kernel
theorem dL_law_249 : decode cL_law 249 = .ok (.iadd, 1) := by decide +kernel
theorem dL_law_250 : decode cL_law 250 = .ok (.iaload, 1) := by decide +kernel
theorem dL_law_251 : decode cL_law 251 = .ok (.aload_n 0, 1) := by decide +kernel
theorem dL_law_252 : decode cL_law 252 = .ok (.iload 4, 2) := by decide +kernel
theorem dL_law_254 : decode cL_law 254 = .ok (.iconst 4, 1) := by decide +kernel
theorem dL_law_255 : decode cL_law 255 = .ok (.iadd, 1) := by decide +kernel
theorem dL_law_256 : decode cL_law 256 = .ok (.iaload, 1) := by decide +kernel
theorem dL_law_257 : decode cL_law 257 = .ok (.aload_n 0, 1) := by decide +kernel
theorem dL_law_258 : decode cL_law 258 = .ok (.iload 4, 2) := by decide +kernel
theorem dL_law_260 : decode cL_law 260 = .ok (.iconst 5, 1) := by decide +kernel
theorem dL_law_261 : decode cL_law 261 = .ok (.iadd, 1) := by decide +kernel
theorem dL_law_262 : decode cL_law 262 = .ok (.iaload, 1) := by decide +kernel
theorem dL_law_263 : decode cL_law 263 = .ok (.invokevirtual 26, 3) := by decide +kernel
theorem dL_law_266 : decode cL_law 266 = .ok (.aload_n 2, 1) := by decide +kernel
theorem dL_law_267 : decode cL_law 267 = .ok (.aload_n 0, 1) := by decide +kernel
theorem dL_law_268 : decode cL_law 268 = .ok (.iload 4, 2) := by decide +kernel
theorem dL_law_270 : decode cL_law 270 = .ok (.iconst 1, 1) := by decide +kernel
theorem dL_law_271 : decode cL_law 271 = .ok (.iadd, 1) := by decide +kernel
theorem dL_law_272 : decode cL_law 272 = .ok (.iaload, 1) := by decide +kernel
theorem dL_law_273 : decode cL_law 273 = .ok (.aload_n 0, 1) := by decide +kernel
theorem dL_law_274 : decode cL_law 274 = .ok (.iload 4, 2) := by decide +kernel
theorem dL_law_276 : decode cL_law 276 = .ok (.iconst 2, 1) := by decide +kernel
theorem dL_law_277 : decode cL_law 277 = .ok (.iadd, 1) := by decide +kernel
theorem dL_law_278 : decode cL_law 278 = .ok (.iaload, 1) := by decide +kernel
theorem dL_law_279 : decode cL_law 279 = .ok (.aload_n 0, 1) := by decide +kernel
theorem dL_law_280 : decode cL_law 280 = .ok (.iload 4, 2) := by decide +kernel
theorem dL_law_282 : decode cL_law 282 = .ok (.iconst 3, 1) := by decide +kernel
theorem dL_law_283 : decode cL_law 283 = .ok (.iadd, 1) := by decide +kernel
theorem dL_law_284 : decode cL_law 284 = .ok (.iaload, 1) := by decide +kernel
theorem dL_law_285 : decode cL_law 285 = .ok (.aload_n 0, 1) := by decide +kernel
theorem dL_law_286 : decode cL_law 286 = .ok (.iload 4, 2) := by decide +kernel
theorem dL_law_288 : decode cL_law 288 = .ok (.iconst 4, 1) := by decide +kernel
theorem dL_law_289 : decode cL_law 289 = .ok (.iadd, 1) := by decide +kernel
theorem dL_law_290 : decode cL_law 290 = .ok (.iaload, 1) := by decide +kernel
theorem dL_law_291 : decode cL_law 291 = .ok (.aload_n 0, 1) := by decide +kernel
theorem dL_law_292 : decode cL_law 292 = .ok (.iload 4, 2) := by decide +kernel
theorem dL_law_294 : decode cL_law 294 = .ok (.iconst 5, 1) := by decide +kernel
theorem dL_law_295 : decode cL_law 295 = .ok (.iadd, 1) := by decide +kernel
theorem dL_law_296 : decode cL_law 296 = .ok (.iaload, 1) := by decide +kernel
theorem dL_law_297 : decode cL_law 297 = .ok (.invokevirtual 30, 3) := by decide +kernel
theorem dL_law_300 : decode cL_law 300 = .ok (.if_icmp .eq 1221, 3) := by decide +kernel
theorem dL_law_303 : decode cL_law 303 = .ok (.iconst 0, 1) := by decide +kernel
theorem dL_law_304 : decode cL_law 304 = .ok (.ireturn, 1) := by decide +kernel
theorem dL_law_305 : decode cL_law 305 = .ok (.aload_n 1, 1) := by decide +kernel
theorem dL_law_306 : decode cL_law 306 = .ok (.aload_n 0, 1) := by decide +kernel
theorem dL_law_307 : decode cL_law 307 = .ok (.iload 4, 2) := by decide +kernel
theorem dL_law_309 : decode cL_law 309 = .ok (.iconst 1, 1) := by decide +kernel
theorem dL_law_310 : decode cL_law 310 = .ok (.iadd, 1) := by decide +kernel
theorem dL_law_311 : decode cL_law 311 = .ok (.iaload, 1) := by decide +kernel
theorem dL_law_312 : decode cL_law 312 = .ok (.invokevirtual 31, 3) := by decide +kernel
theorem dL_law_315 : decode cL_law 315 = .ok (.aload_n 2, 1) := by decide +kernel
theorem dL_law_316 : decode cL_law 316 = .ok (.aload_n 0, 1) := by decide +kernel
theorem dL_law_317 : decode cL_law 317 = .ok (.iload 4, 2) := by decide +kernel
theorem dL_law_319 : decode cL_law 319 = .ok (.iconst 1, 1) := by decide +kernel
theorem dL_law_320 : decode cL_law 320 = .ok (.iadd, 1) := by decide +kernel
theorem dL_law_321 : decode cL_law 321 = .ok (.iaload, 1) := by decide +kernel
theorem dL_law_322 : decode cL_law 322 = .ok (.invokevirtual 35, 3) := by decide +kernel
theorem dL_law_325 : decode cL_law 325 = .ok (.if_icmp .eq 1196, 3) := by decide +kernel
theorem dL_law_328 : decode cL_law 328 = .ok (.iconst 0, 1) := by decide +kernel
theorem dL_law_329 : decode cL_law 329 = .ok (.ireturn, 1) := by decide +kernel
theorem dL_law_330 : decode cL_law 330 = .ok (.aload_n 1, 1) := by decide +kernel
theorem dL_law_331 : decode cL_law 331 = .ok (.invokevirtual 36, 3) := by decide +kernel
theorem dL_law_334 : decode cL_law 334 = .ok (.aload_n 2, 1) := by decide +kernel
theorem dL_law_335 : decode cL_law 335 = .ok (.invokevirtual 40, 3) := by decide +kernel
theorem dL_law_338 : decode cL_law 338 = .ok (.if_icmp .eq 1183, 3) := by decide +kernel
theorem dL_law_341 : decode cL_law 341 = .ok (.iconst 0, 1) := by decide +kernel
theorem dL_law_342 : decode cL_law 342 = .ok (.ireturn, 1) := by decide +kernel
theorem dL_law_343 : decode cL_law 343 = .ok (.aload_n 1, 1) := by decide +kernel
theorem dL_law_344 : decode cL_law 344 = .ok (.invokevirtual 41, 3) := by decide +kernel
theorem dL_law_347 : decode cL_law 347 = .ok (.aload_n 2, 1) := by decide +kernel
theorem dL_law_348 : decode cL_law 348 = .ok (.invokevirtual 44, 3) := by decide +kernel
theorem dL_law_351 : decode cL_law 351 = .ok (.if_icmp .eq 1170, 3) := by decide +kernel
theorem dL_law_354 : decode cL_law 354 = .ok (.iconst 0, 1) := by decide +kernel
theorem dL_law_355 : decode cL_law 355 = .ok (.ireturn, 1) := by decide +kernel
theorem dL_law_356 : decode cL_law 356 = .ok (.aload_n 1, 1) := by decide +kernel
theorem dL_law_357 : decode cL_law 357 = .ok (.aload_n 0, 1) := by decide +kernel
theorem dL_law_358 : decode cL_law 358 = .ok (.iload 4, 2) := by decide +kernel
theorem dL_law_360 : decode cL_law 360 = .ok (.iconst 1, 1) := by decide +kernel
theorem dL_law_361 : decode cL_law 361 = .ok (.iadd, 1) := by decide +kernel
theorem dL_law_362 : decode cL_law 362 = .ok (.iaload, 1) := by decide +kernel
theorem dL_law_363 : decode cL_law 363 = .ok (.aload_n 0, 1) := by decide +kernel
theorem dL_law_364 : decode cL_law 364 = .ok (.iload 4, 2) := by decide +kernel
theorem dL_law_366 : decode cL_law 366 = .ok (.iconst 2, 1) := by decide +kernel
theorem dL_law_367 : decode cL_law 367 = .ok (.iadd, 1) := by decide +kernel
theorem dL_law_368 : decode cL_law 368 = .ok (.iaload, 1) := by decide +kernel
theorem dL_law_369 : decode cL_law 369 = .ok (.aload_n 3, 1) := by decide +kernel
theorem dL_law_370 : decode cL_law 370 = .ok (.invokestatic 45, 3) := by decide +kernel
theorem dL_law_373 : decode cL_law 373 = .ok (.istore 5, 2) := by decide +kernel
theorem dL_law_375 : decode cL_law 375 = .ok (.aload_n 2, 1) := by decide +kernel
theorem dL_law_376 : decode cL_law 376 = .ok (.aload_n 0, 1) := by decide +kernel
theorem dL_law_377 : decode cL_law 377 = .ok (.iload 4, 2) := by decide +kernel
theorem dL_law_379 : decode cL_law 379 = .ok (.iconst 1, 1) := by decide +kernel
theorem dL_law_380 : decode cL_law 380 = .ok (.iadd, 1) := by decide +kernel
theorem dL_law_381 : decode cL_law 381 = .ok (.iaload, 1) := by decide +kernel
theorem dL_law_382 : decode cL_law 382 = .ok (.aload_n 0, 1) := by decide +kernel
theorem dL_law_383 : decode cL_law 383 = .ok (.iload 4, 2) := by decide +kernel
theorem dL_law_385 : decode cL_law 385 = .ok (.iconst 2, 1) := by decide +kernel
theorem dL_law_386 : decode cL_law 386 = .ok (.iadd, 1) := by decide +kernel
theorem dL_law_387 : decode cL_law 387 = .ok (.iaload, 1) := by decide +kernel
theorem dL_law_388 : decode cL_law 388 = .ok (.invokevirtual 50, 3) := by decide +kernel
theorem dL_law_391 : decode cL_law 391 = .ok (.istore 6, 2) := by decide +kernel
theorem dL_law_393 : decode cL_law 393 = .ok (.aload_n 2, 1) := by decide +kernel
theorem dL_law_394 : decode cL_law 394 = .ok (.invokevirtual 51, 3) := by decide +kernel
theorem dL_law_397 : decode cL_law 397 = .ok (.iload 5, 2) := by decide +kernel
theorem dL_law_399 : decode cL_law 399 = .ok (.if_icmp .eq 5, 3) := by decide +kernel
theorem dL_law_402 : decode cL_law 402 = .ok (.iconst 0, 1) := by decide +kernel
theorem dL_law_403 : decode cL_law 403 = .ok (.ireturn, 1) := by decide +kernel
theorem dL_law_404 : decode cL_law 404 = .ok (.iload 5, 2) := by decide +kernel
theorem dL_law_406 : decode cL_law 406 = .ok (.ifCond .ne 15, 3) := by decide +kernel
theorem dL_law_409 : decode cL_law 409 = .ok (.aload_n 3, 1) := by decide +kernel
theorem dL_law_410 : decode cL_law 410 = .ok (.iconst 0, 1) := by decide +kernel
theorem dL_law_411 : decode cL_law 411 = .ok (.laload, 1) := by decide +kernel
theorem dL_law_412 : decode cL_law 412 = .ok (.iload 6, 2) := by decide +kernel
theorem dL_law_414 : decode cL_law 414 = .ok (.i2l, 1) := by decide +kernel
theorem dL_law_415 : decode cL_law 415 = .ok (.lcmp, 1) := by decide +kernel
theorem dL_law_416 : decode cL_law 416 = .ok (.ifCond .eq 5, 3) := by decide +kernel
theorem dL_law_419 : decode cL_law 419 = .ok (.iconst 0, 1) := by decide +kernel
theorem dL_law_420 : decode cL_law 420 = .ok (.ireturn, 1) := by decide +kernel
theorem dL_law_421 : decode cL_law 421 = .ok (.goto 1100, 3) := by decide +kernel
theorem dL_law_424 : decode cL_law 424 = .ok (.aload_n 1, 1) := by decide +kernel
theorem dL_law_425 : decode cL_law 425 = .ok (.aload_n 0, 1) := by decide +kernel
theorem dL_law_426 : decode cL_law 426 = .ok (.iload 4, 2) := by decide +kernel
theorem dL_law_428 : decode cL_law 428 = .ok (.iconst 1, 1) := by decide +kernel
theorem dL_law_429 : decode cL_law 429 = .ok (.iadd, 1) := by decide +kernel
theorem dL_law_430 : decode cL_law 430 = .ok (.iaload, 1) := by decide +kernel
theorem dL_law_431 : decode cL_law 431 = .ok (.aload_n 0, 1) := by decide +kernel
theorem dL_law_432 : decode cL_law 432 = .ok (.iload 4, 2) := by decide +kernel
theorem dL_law_434 : decode cL_law 434 = .ok (.iconst 2, 1) := by decide +kernel
theorem dL_law_435 : decode cL_law 435 = .ok (.iadd, 1) := by decide +kernel
theorem dL_law_436 : decode cL_law 436 = .ok (.iaload, 1) := by decide +kernel
theorem dL_law_437 : decode cL_law 437 = .ok (.aload_n 0, 1) := by decide +kernel
theorem dL_law_438 : decode cL_law 438 = .ok (.iload 4, 2) := by decide +kernel
theorem dL_law_440 : decode cL_law 440 = .ok (.iconst 3, 1) := by decide +kernel
theorem dL_law_441 : decode cL_law 441 = .ok (.iadd, 1) := by decide +kernel
theorem dL_law_442 : decode cL_law 442 = .ok (.iaload, 1) := by decide +kernel
theorem dL_law_443 : decode cL_law 443 = .ok (.aload_n 3, 1) := by decide +kernel
theorem dL_law_444 : decode cL_law 444 = .ok (.invokestatic 54, 3) := by decide +kernel
theorem dL_law_447 : decode cL_law 447 = .ok (.istore 5, 2) := by decide +kernel
theorem dL_law_449 : decode cL_law 449 = .ok (.aload_n 2, 1) := by decide +kernel
theorem dL_law_450 : decode cL_law 450 = .ok (.aload_n 0, 1) := by decide +kernel
theorem dL_law_451 : decode cL_law 451 = .ok (.iload 4, 2) := by decide +kernel
theorem dL_law_453 : decode cL_law 453 = .ok (.iconst 1, 1) := by decide +kernel
theorem dL_law_454 : decode cL_law 454 = .ok (.iadd, 1) := by decide +kernel
theorem dL_law_455 : decode cL_law 455 = .ok (.iaload, 1) := by decide +kernel
theorem dL_law_456 : decode cL_law 456 = .ok (.aload_n 0, 1) := by decide +kernel
theorem dL_law_457 : decode cL_law 457 = .ok (.iload 4, 2) := by decide +kernel
theorem dL_law_459 : decode cL_law 459 = .ok (.iconst 2, 1) := by decide +kernel
theorem dL_law_460 : decode cL_law 460 = .ok (.iadd, 1) := by decide +kernel
theorem dL_law_461 : decode cL_law 461 = .ok (.iaload, 1) := by decide +kernel
theorem dL_law_462 : decode cL_law 462 = .ok (.aload_n 0, 1) := by decide +kernel
theorem dL_law_463 : decode cL_law 463 = .ok (.iload 4, 2) := by decide +kernel
theorem dL_law_465 : decode cL_law 465 = .ok (.iconst 3, 1) := by decide +kernel
theorem dL_law_466 : decode cL_law 466 = .ok (.iadd, 1) := by decide +kernel
theorem dL_law_467 : decode cL_law 467 = .ok (.iaload, 1) := by decide +kernel
theorem dL_law_468 : decode cL_law 468 = .ok (.invokevirtual 57, 3) := by decide +kernel
theorem dL_law_471 : decode cL_law 471 = .ok (.istore 6, 2) := by decide +kernel
theorem dL_law_473 : decode cL_law 473 = .ok (.aload_n 2, 1) := by decide +kernel
theorem dL_law_474 : decode cL_law 474 = .ok (.invokevirtual 51, 3) := by decide +kernel
theorem dL_law_477 : decode cL_law 477 = .ok (.iload 5, 2) := by decide +kernel
theorem dL_law_479 : decode cL_law 479 = .ok (.if_icmp .eq 5, 3) := by decide +kernel
theorem dL_law_482 : decode cL_law 482 = .ok (.iconst 0, 1) := by decide +kernel
theorem dL_law_483 : decode cL_law 483 = .ok (.ireturn, 1) := by decide +kernel
theorem dL_law_484 : decode cL_law 484 = .ok (.iload 5, 2) := by decide +kernel
theorem dL_law_486 : decode cL_law 486 = .ok (.ifCond .ne 15, 3) := by decide +kernel
theorem dL_law_489 : decode cL_law 489 = .ok (.aload_n 3, 1) := by decide +kernel
theorem dL_law_490 : decode cL_law 490 = .ok (.iconst 0, 1) := by decide +kernel
theorem dL_law_491 : decode cL_law 491 = .ok (.laload, 1) := by decide +kernel
theorem dL_law_492 : decode cL_law 492 = .ok (.iload 6, 2) := by decide +kernel
theorem dL_law_494 : decode cL_law 494 = .ok (.i2l, 1) := by decide +kernel
theorem dL_law_495 : decode cL_law 495 = .ok (.lcmp, 1) := by decide +kernel
theorem dL_law_496 : decode cL_law 496 = .ok (.ifCond .eq 5, 3) := by decide +kernel
theorem dL_law_499 : decode cL_law 499 = .ok (.iconst 0, 1) := by decide +kernel
theorem dL_law_500 : decode cL_law 500 = .ok (.ireturn, 1) := by decide +kernel
theorem dL_law_501 : decode cL_law 501 = .ok (.goto 1020, 3) := by decide +kernel
theorem dL_law_504 : decode cL_law 504 = .ok (.aload_n 1, 1) := by decide +kernel
theorem dL_law_505 : decode cL_law 505 = .ok (.aload_n 0, 1) := by decide +kernel
theorem dL_law_506 : decode cL_law 506 = .ok (.iload 4, 2) := by decide +kernel
theorem dL_law_508 : decode cL_law 508 = .ok (.iconst 1, 1) := by decide +kernel
theorem dL_law_509 : decode cL_law 509 = .ok (.iadd, 1) := by decide +kernel
theorem dL_law_510 : decode cL_law 510 = .ok (.iaload, 1) := by decide +kernel
theorem dL_law_511 : decode cL_law 511 = .ok (.aload_n 0, 1) := by decide +kernel
theorem dL_law_512 : decode cL_law 512 = .ok (.iload 4, 2) := by decide +kernel
theorem dL_law_514 : decode cL_law 514 = .ok (.iconst 2, 1) := by decide +kernel
theorem dL_law_515 : decode cL_law 515 = .ok (.iadd, 1) := by decide +kernel
theorem dL_law_516 : decode cL_law 516 = .ok (.iaload, 1) := by decide +kernel
theorem dL_law_517 : decode cL_law 517 = .ok (.aload_n 3, 1) := by decide +kernel
theorem dL_law_518 : decode cL_law 518 = .ok (.invokestatic 58, 3) := by decide +kernel
theorem dL_law_521 : decode cL_law 521 = .ok (.istore 5, 2) := by decide +kernel
theorem dL_law_523 : decode cL_law 523 = .ok (.aload_n 2, 1) := by decide +kernel
theorem dL_law_524 : decode cL_law 524 = .ok (.aload_n 0, 1) := by decide +kernel
theorem dL_law_525 : decode cL_law 525 = .ok (.iload 4, 2) := by decide +kernel
theorem dL_law_527 : decode cL_law 527 = .ok (.iconst 1, 1) := by decide +kernel
theorem dL_law_528 : decode cL_law 528 = .ok (.iadd, 1) := by decide +kernel
theorem dL_law_529 : decode cL_law 529 = .ok (.iaload, 1) := by decide +kernel
theorem dL_law_530 : decode cL_law 530 = .ok (.aload_n 0, 1) := by decide +kernel
theorem dL_law_531 : decode cL_law 531 = .ok (.iload 4, 2) := by decide +kernel
theorem dL_law_533 : decode cL_law 533 = .ok (.iconst 2, 1) := by decide +kernel
theorem dL_law_534 : decode cL_law 534 = .ok (.iadd, 1) := by decide +kernel
theorem dL_law_535 : decode cL_law 535 = .ok (.iaload, 1) := by decide +kernel
theorem dL_law_536 : decode cL_law 536 = .ok (.invokevirtual 60, 3) := by decide +kernel
theorem dL_law_539 : decode cL_law 539 = .ok (.istore 6, 2) := by decide +kernel
theorem dL_law_541 : decode cL_law 541 = .ok (.aload_n 2, 1) := by decide +kernel
theorem dL_law_542 : decode cL_law 542 = .ok (.invokevirtual 51, 3) := by decide +kernel
theorem dL_law_545 : decode cL_law 545 = .ok (.iload 5, 2) := by decide +kernel
theorem dL_law_547 : decode cL_law 547 = .ok (.if_icmp .eq 5, 3) := by decide +kernel
theorem dL_law_550 : decode cL_law 550 = .ok (.iconst 0, 1) := by decide +kernel
theorem dL_law_551 : decode cL_law 551 = .ok (.ireturn, 1) := by decide +kernel
theorem dL_law_552 : decode cL_law 552 = .ok (.iload 5, 2) := by decide +kernel
theorem dL_law_554 : decode cL_law 554 = .ok (.ifCond .ne 15, 3) := by decide +kernel
theorem dL_law_557 : decode cL_law 557 = .ok (.aload_n 3, 1) := by decide +kernel
theorem dL_law_558 : decode cL_law 558 = .ok (.iconst 0, 1) := by decide +kernel
theorem dL_law_559 : decode cL_law 559 = .ok (.laload, 1) := by decide +kernel
theorem dL_law_560 : decode cL_law 560 = .ok (.iload 6, 2) := by decide +kernel
theorem dL_law_562 : decode cL_law 562 = .ok (.i2l, 1) := by decide +kernel
theorem dL_law_563 : decode cL_law 563 = .ok (.lcmp, 1) := by decide +kernel
theorem dL_law_564 : decode cL_law 564 = .ok (.ifCond .eq 5, 3) := by decide +kernel
theorem dL_law_567 : decode cL_law 567 = .ok (.iconst 0, 1) := by decide +kernel
theorem dL_law_568 : decode cL_law 568 = .ok (.ireturn, 1) := by decide +kernel
theorem dL_law_569 : decode cL_law 569 = .ok (.goto 952, 3) := by decide +kernel
theorem dL_law_572 : decode cL_law 572 = .ok (.aload_n 1, 1) := by decide +kernel
theorem dL_law_573 : decode cL_law 573 = .ok (.aload_n 0, 1) := by decide +kernel
theorem dL_law_574 : decode cL_law 574 = .ok (.iload 4, 2) := by decide +kernel
theorem dL_law_576 : decode cL_law 576 = .ok (.iconst 1, 1) := by decide +kernel
theorem dL_law_577 : decode cL_law 577 = .ok (.iadd, 1) := by decide +kernel
theorem dL_law_578 : decode cL_law 578 = .ok (.iaload, 1) := by decide +kernel
theorem dL_law_579 : decode cL_law 579 = .ok (.invokevirtual 61, 3) := by decide +kernel
theorem dL_law_582 : decode cL_law 582 = .ok (.aload_n 2, 1) := by decide +kernel
theorem dL_law_583 : decode cL_law 583 = .ok (.aload_n 0, 1) := by decide +kernel
theorem dL_law_584 : decode cL_law 584 = .ok (.iload 4, 2) := by decide +kernel
theorem dL_law_586 : decode cL_law 586 = .ok (.iconst 1, 1) := by decide +kernel
theorem dL_law_587 : decode cL_law 587 = .ok (.iadd, 1) := by decide +kernel
theorem dL_law_588 : decode cL_law 588 = .ok (.iaload, 1) := by decide +kernel
theorem dL_law_589 : decode cL_law 589 = .ok (.invokevirtual 65, 3) := by decide +kernel
theorem dL_law_592 : decode cL_law 592 = .ok (.if_icmp .eq 929, 3) := by decide +kernel
theorem dL_law_595 : decode cL_law 595 = .ok (.iconst 0, 1) := by decide +kernel
theorem dL_law_596 : decode cL_law 596 = .ok (.ireturn, 1) := by decide +kernel
theorem dL_law_597 : decode cL_law 597 = .ok (.aload_n 1, 1) := by decide +kernel
theorem dL_law_598 : decode cL_law 598 = .ok (.aload_n 0, 1) := by decide +kernel
theorem dL_law_599 : decode cL_law 599 = .ok (.iload 4, 2) := by decide +kernel
theorem dL_law_601 : decode cL_law 601 = .ok (.iconst 1, 1) := by decide +kernel
theorem dL_law_602 : decode cL_law 602 = .ok (.iadd, 1) := by decide +kernel
theorem dL_law_603 : decode cL_law 603 = .ok (.iaload, 1) := by decide +kernel
theorem dL_law_604 : decode cL_law 604 = .ok (.aload_n 0, 1) := by decide +kernel
theorem dL_law_605 : decode cL_law 605 = .ok (.iload 4, 2) := by decide +kernel
theorem dL_law_607 : decode cL_law 607 = .ok (.iconst 2, 1) := by decide +kernel
theorem dL_law_608 : decode cL_law 608 = .ok (.iadd, 1) := by decide +kernel
theorem dL_law_609 : decode cL_law 609 = .ok (.iaload, 1) := by decide +kernel
theorem dL_law_610 : decode cL_law 610 = .ok (.aload_n 0, 1) := by decide +kernel
theorem dL_law_611 : decode cL_law 611 = .ok (.iload 4, 2) := by decide +kernel
theorem dL_law_613 : decode cL_law 613 = .ok (.iconst 3, 1) := by decide +kernel
theorem dL_law_614 : decode cL_law 614 = .ok (.iadd, 1) := by decide +kernel
theorem dL_law_615 : decode cL_law 615 = .ok (.iaload, 1) := by decide +kernel
theorem dL_law_616 : decode cL_law 616 = .ok (.invokevirtual 66, 3) := by decide +kernel
theorem dL_law_619 : decode cL_law 619 = .ok (.aload_n 2, 1) := by decide +kernel
theorem dL_law_620 : decode cL_law 620 = .ok (.aload_n 0, 1) := by decide +kernel
theorem dL_law_621 : decode cL_law 621 = .ok (.iload 4, 2) := by decide +kernel
theorem dL_law_623 : decode cL_law 623 = .ok (.iconst 1, 1) := by decide +kernel
theorem dL_law_624 : decode cL_law 624 = .ok (.iadd, 1) := by decide +kernel
theorem dL_law_625 : decode cL_law 625 = .ok (.iaload, 1) := by decide +kernel
theorem dL_law_626 : decode cL_law 626 = .ok (.aload_n 0, 1) := by decide +kernel
theorem dL_law_627 : decode cL_law 627 = .ok (.iload 4, 2) := by decide +kernel
theorem dL_law_629 : decode cL_law 629 = .ok (.iconst 2, 1) := by decide +kernel
theorem dL_law_630 : decode cL_law 630 = .ok (.iadd, 1) := by decide +kernel
theorem dL_law_631 : decode cL_law 631 = .ok (.iaload, 1) := by decide +kernel
theorem dL_law_632 : decode cL_law 632 = .ok (.aload_n 0, 1) := by decide +kernel
theorem dL_law_633 : decode cL_law 633 = .ok (.iload 4, 2) := by decide +kernel
theorem dL_law_635 : decode cL_law 635 = .ok (.iconst 3, 1) := by decide +kernel
theorem dL_law_636 : decode cL_law 636 = .ok (.iadd, 1) := by decide +kernel
theorem dL_law_637 : decode cL_law 637 = .ok (.iaload, 1) := by decide +kernel
theorem dL_law_638 : decode cL_law 638 = .ok (.invokevirtual 69, 3) := by decide +kernel
theorem dL_law_641 : decode cL_law 641 = .ok (.if_icmp .eq 880, 3) := by decide +kernel
theorem dL_law_644 : decode cL_law 644 = .ok (.iconst 0, 1) := by decide +kernel
theorem dL_law_645 : decode cL_law 645 = .ok (.ireturn, 1) := by decide +kernel
theorem dL_law_646 : decode cL_law 646 = .ok (.aload_n 1, 1) := by decide +kernel
theorem dL_law_647 : decode cL_law 647 = .ok (.aload_n 0, 1) := by decide +kernel
theorem dL_law_648 : decode cL_law 648 = .ok (.iload 4, 2) := by decide +kernel
theorem dL_law_650 : decode cL_law 650 = .ok (.iconst 1, 1) := by decide +kernel
theorem dL_law_651 : decode cL_law 651 = .ok (.iadd, 1) := by decide +kernel
theorem dL_law_652 : decode cL_law 652 = .ok (.iaload, 1) := by decide +kernel
theorem dL_law_653 : decode cL_law 653 = .ok (.aload_n 0, 1) := by decide +kernel
theorem dL_law_654 : decode cL_law 654 = .ok (.iload 4, 2) := by decide +kernel
theorem dL_law_656 : decode cL_law 656 = .ok (.iconst 2, 1) := by decide +kernel
theorem dL_law_657 : decode cL_law 657 = .ok (.iadd, 1) := by decide +kernel
theorem dL_law_658 : decode cL_law 658 = .ok (.iaload, 1) := by decide +kernel
theorem dL_law_659 : decode cL_law 659 = .ok (.invokevirtual 70, 3) := by decide +kernel
theorem dL_law_662 : decode cL_law 662 = .ok (.aload_n 2, 1) := by decide +kernel
theorem dL_law_663 : decode cL_law 663 = .ok (.aload_n 0, 1) := by decide +kernel
theorem dL_law_664 : decode cL_law 664 = .ok (.iload 4, 2) := by decide +kernel
theorem dL_law_666 : decode cL_law 666 = .ok (.iconst 1, 1) := by decide +kernel
theorem dL_law_667 : decode cL_law 667 = .ok (.iadd, 1) := by decide +kernel
theorem dL_law_668 : decode cL_law 668 = .ok (.iaload, 1) := by decide +kernel
theorem dL_law_669 : decode cL_law 669 = .ok (.aload_n 0, 1) := by decide +kernel
theorem dL_law_670 : decode cL_law 670 = .ok (.iload 4, 2) := by decide +kernel
theorem dL_law_672 : decode cL_law 672 = .ok (.iconst 2, 1) := by decide +kernel
theorem dL_law_673 : decode cL_law 673 = .ok (.iadd, 1) := by decide +kernel
theorem dL_law_674 : decode cL_law 674 = .ok (.iaload, 1) := by decide +kernel
theorem dL_law_675 : decode cL_law 675 = .ok (.invokevirtual 73, 3) := by decide +kernel
theorem dL_law_678 : decode cL_law 678 = .ok (.if_icmp .eq 843, 3) := by decide +kernel
theorem dL_law_681 : decode cL_law 681 = .ok (.iconst 0, 1) := by decide +kernel
theorem dL_law_682 : decode cL_law 682 = .ok (.ireturn, 1) := by decide +kernel
theorem dL_law_683 : decode cL_law 683 = .ok (.aload_n 1, 1) := by decide +kernel
theorem dL_law_684 : decode cL_law 684 = .ok (.aload_n 0, 1) := by decide +kernel
theorem dL_law_685 : decode cL_law 685 = .ok (.iload 4, 2) := by decide +kernel
theorem dL_law_687 : decode cL_law 687 = .ok (.iconst 1, 1) := by decide +kernel
theorem dL_law_688 : decode cL_law 688 = .ok (.iadd, 1) := by decide +kernel
theorem dL_law_689 : decode cL_law 689 = .ok (.iaload, 1) := by decide +kernel
theorem dL_law_690 : decode cL_law 690 = .ok (.invokevirtual 74, 3) := by decide +kernel
theorem dL_law_693 : decode cL_law 693 = .ok (.aload_n 2, 1) := by decide +kernel
theorem dL_law_694 : decode cL_law 694 = .ok (.aload_n 0, 1) := by decide +kernel
theorem dL_law_695 : decode cL_law 695 = .ok (.iload 4, 2) := by decide +kernel
theorem dL_law_697 : decode cL_law 697 = .ok (.iconst 1, 1) := by decide +kernel
theorem dL_law_698 : decode cL_law 698 = .ok (.iadd, 1) := by decide +kernel
theorem dL_law_699 : decode cL_law 699 = .ok (.iaload, 1) := by decide +kernel
theorem dL_law_700 : decode cL_law 700 = .ok (.invokevirtual 77, 3) := by decide +kernel
theorem dL_law_703 : decode cL_law 703 = .ok (.if_icmp .eq 818, 3) := by decide +kernel
theorem dL_law_706 : decode cL_law 706 = .ok (.iconst 0, 1) := by decide +kernel
theorem dL_law_707 : decode cL_law 707 = .ok (.ireturn, 1) := by decide +kernel
theorem dL_law_708 : decode cL_law 708 = .ok (.aload_n 1, 1) := by decide +kernel
theorem dL_law_709 : decode cL_law 709 = .ok (.aload_n 0, 1) := by decide +kernel
theorem dL_law_710 : decode cL_law 710 = .ok (.iload 4, 2) := by decide +kernel
theorem dL_law_712 : decode cL_law 712 = .ok (.iconst 1, 1) := by decide +kernel
theorem dL_law_713 : decode cL_law 713 = .ok (.iadd, 1) := by decide +kernel
theorem dL_law_714 : decode cL_law 714 = .ok (.iaload, 1) := by decide +kernel
theorem dL_law_715 : decode cL_law 715 = .ok (.invokevirtual 78, 3) := by decide +kernel
theorem dL_law_718 : decode cL_law 718 = .ok (.aload_n 2, 1) := by decide +kernel
theorem dL_law_719 : decode cL_law 719 = .ok (.aload_n 0, 1) := by decide +kernel
theorem dL_law_720 : decode cL_law 720 = .ok (.iload 4, 2) := by decide +kernel
theorem dL_law_722 : decode cL_law 722 = .ok (.iconst 1, 1) := by decide +kernel
theorem dL_law_723 : decode cL_law 723 = .ok (.iadd, 1) := by decide +kernel
theorem dL_law_724 : decode cL_law 724 = .ok (.iaload, 1) := by decide +kernel
theorem dL_law_725 : decode cL_law 725 = .ok (.invokevirtual 81, 3) := by decide +kernel
theorem dL_law_728 : decode cL_law 728 = .ok (.if_icmp .eq 793, 3) := by decide +kernel
theorem dL_law_731 : decode cL_law 731 = .ok (.iconst 0, 1) := by decide +kernel
theorem dL_law_732 : decode cL_law 732 = .ok (.ireturn, 1) := by decide +kernel
theorem dL_law_733 : decode cL_law 733 = .ok (.aload_n 1, 1) := by decide +kernel
theorem dL_law_734 : decode cL_law 734 = .ok (.aload_n 0, 1) := by decide +kernel
theorem dL_law_735 : decode cL_law 735 = .ok (.iload 4, 2) := by decide +kernel
theorem dL_law_737 : decode cL_law 737 = .ok (.iconst 1, 1) := by decide +kernel
theorem dL_law_738 : decode cL_law 738 = .ok (.iadd, 1) := by decide +kernel
theorem dL_law_739 : decode cL_law 739 = .ok (.iaload, 1) := by decide +kernel
theorem dL_law_740 : decode cL_law 740 = .ok (.invokevirtual 82, 3) := by decide +kernel
theorem dL_law_743 : decode cL_law 743 = .ok (.aload_n 2, 1) := by decide +kernel
theorem dL_law_744 : decode cL_law 744 = .ok (.aload_n 0, 1) := by decide +kernel
theorem dL_law_745 : decode cL_law 745 = .ok (.iload 4, 2) := by decide +kernel
theorem dL_law_747 : decode cL_law 747 = .ok (.iconst 1, 1) := by decide +kernel
theorem dL_law_748 : decode cL_law 748 = .ok (.iadd, 1) := by decide +kernel
theorem dL_law_749 : decode cL_law 749 = .ok (.iaload, 1) := by decide +kernel
theorem dL_law_750 : decode cL_law 750 = .ok (.invokevirtual 85, 3) := by decide +kernel
theorem dL_law_753 : decode cL_law 753 = .ok (.if_icmp .eq 768, 3) := by decide +kernel
theorem dL_law_756 : decode cL_law 756 = .ok (.iconst 0, 1) := by decide +kernel
theorem dL_law_757 : decode cL_law 757 = .ok (.ireturn, 1) := by decide +kernel
theorem dL_law_758 : decode cL_law 758 = .ok (.aload_n 1, 1) := by decide +kernel
theorem dL_law_759 : decode cL_law 759 = .ok (.aload_n 0, 1) := by decide +kernel
theorem dL_law_760 : decode cL_law 760 = .ok (.iload 4, 2) := by decide +kernel
theorem dL_law_762 : decode cL_law 762 = .ok (.iconst 1, 1) := by decide +kernel
theorem dL_law_763 : decode cL_law 763 = .ok (.iadd, 1) := by decide +kernel
theorem dL_law_764 : decode cL_law 764 = .ok (.iaload, 1) := by decide +kernel
theorem dL_law_765 : decode cL_law 765 = .ok (.invokevirtual 86, 3) := by decide +kernel
theorem dL_law_768 : decode cL_law 768 = .ok (.aload_n 2, 1) := by decide +kernel
theorem dL_law_769 : decode cL_law 769 = .ok (.aload_n 0, 1) := by decide +kernel
theorem dL_law_770 : decode cL_law 770 = .ok (.iload 4, 2) := by decide +kernel
theorem dL_law_772 : decode cL_law 772 = .ok (.iconst 1, 1) := by decide +kernel
theorem dL_law_773 : decode cL_law 773 = .ok (.iadd, 1) := by decide +kernel
theorem dL_law_774 : decode cL_law 774 = .ok (.iaload, 1) := by decide +kernel
theorem dL_law_775 : decode cL_law 775 = .ok (.invokevirtual 89, 3) := by decide +kernel
theorem dL_law_778 : decode cL_law 778 = .ok (.if_icmp .eq 743, 3) := by decide +kernel
theorem dL_law_781 : decode cL_law 781 = .ok (.iconst 0, 1) := by decide +kernel
theorem dL_law_782 : decode cL_law 782 = .ok (.ireturn, 1) := by decide +kernel
theorem dL_law_783 : decode cL_law 783 = .ok (.aload_n 1, 1) := by decide +kernel
theorem dL_law_784 : decode cL_law 784 = .ok (.aload_n 0, 1) := by decide +kernel
theorem dL_law_785 : decode cL_law 785 = .ok (.iload 4, 2) := by decide +kernel
theorem dL_law_787 : decode cL_law 787 = .ok (.iconst 1, 1) := by decide +kernel
theorem dL_law_788 : decode cL_law 788 = .ok (.iadd, 1) := by decide +kernel
theorem dL_law_789 : decode cL_law 789 = .ok (.iaload, 1) := by decide +kernel
theorem dL_law_790 : decode cL_law 790 = .ok (.invokevirtual 90, 3) := by decide +kernel
theorem dL_law_793 : decode cL_law 793 = .ok (.aload_n 2, 1) := by decide +kernel
theorem dL_law_794 : decode cL_law 794 = .ok (.aload_n 0, 1) := by decide +kernel
theorem dL_law_795 : decode cL_law 795 = .ok (.iload 4, 2) := by decide +kernel
theorem dL_law_797 : decode cL_law 797 = .ok (.iconst 1, 1) := by decide +kernel
theorem dL_law_798 : decode cL_law 798 = .ok (.iadd, 1) := by decide +kernel
theorem dL_law_799 : decode cL_law 799 = .ok (.iaload, 1) := by decide +kernel
theorem dL_law_800 : decode cL_law 800 = .ok (.invokevirtual 93, 3) := by decide +kernel
theorem dL_law_803 : decode cL_law 803 = .ok (.if_icmp .eq 718, 3) := by decide +kernel
theorem dL_law_806 : decode cL_law 806 = .ok (.iconst 0, 1) := by decide +kernel
theorem dL_law_807 : decode cL_law 807 = .ok (.ireturn, 1) := by decide +kernel
theorem dL_law_808 : decode cL_law 808 = .ok (.aload_n 1, 1) := by decide +kernel
theorem dL_law_809 : decode cL_law 809 = .ok (.invokevirtual 94, 3) := by decide +kernel
theorem dL_law_812 : decode cL_law 812 = .ok (.aload_n 2, 1) := by decide +kernel
theorem dL_law_813 : decode cL_law 813 = .ok (.invokevirtual 97, 3) := by decide +kernel
theorem dL_law_816 : decode cL_law 816 = .ok (.if_icmp .eq 705, 3) := by decide +kernel
theorem dL_law_819 : decode cL_law 819 = .ok (.iconst 0, 1) := by decide +kernel
theorem dL_law_820 : decode cL_law 820 = .ok (.ireturn, 1) := by decide +kernel
theorem dL_law_821 : decode cL_law 821 = .ok (.aload_n 1, 1) := by decide +kernel
theorem dL_law_822 : decode cL_law 822 = .ok (.aload_n 0, 1) := by decide +kernel
theorem dL_law_823 : decode cL_law 823 = .ok (.iload 4, 2) := by decide +kernel
theorem dL_law_825 : decode cL_law 825 = .ok (.iconst 1, 1) := by decide +kernel
theorem dL_law_826 : decode cL_law 826 = .ok (.iadd, 1) := by decide +kernel
theorem dL_law_827 : decode cL_law 827 = .ok (.iaload, 1) := by decide +kernel
theorem dL_law_828 : decode cL_law 828 = .ok (.invokevirtual 98, 3) := by decide +kernel
theorem dL_law_831 : decode cL_law 831 = .ok (.aload_n 2, 1) := by decide +kernel
theorem dL_law_832 : decode cL_law 832 = .ok (.aload_n 0, 1) := by decide +kernel
theorem dL_law_833 : decode cL_law 833 = .ok (.iload 4, 2) := by decide +kernel
theorem dL_law_835 : decode cL_law 835 = .ok (.iconst 1, 1) := by decide +kernel
theorem dL_law_836 : decode cL_law 836 = .ok (.iadd, 1) := by decide +kernel
theorem dL_law_837 : decode cL_law 837 = .ok (.iaload, 1) := by decide +kernel
theorem dL_law_838 : decode cL_law 838 = .ok (.invokevirtual 101, 3) := by decide +kernel
theorem dL_law_841 : decode cL_law 841 = .ok (.if_icmp .eq 680, 3) := by decide +kernel
theorem dL_law_844 : decode cL_law 844 = .ok (.iconst 0, 1) := by decide +kernel
theorem dL_law_845 : decode cL_law 845 = .ok (.ireturn, 1) := by decide +kernel
theorem dL_law_846 : decode cL_law 846 = .ok (.aload_n 1, 1) := by decide +kernel
theorem dL_law_847 : decode cL_law 847 = .ok (.aload_n 0, 1) := by decide +kernel
theorem dL_law_848 : decode cL_law 848 = .ok (.iload 4, 2) := by decide +kernel
theorem dL_law_850 : decode cL_law 850 = .ok (.iconst 1, 1) := by decide +kernel
theorem dL_law_851 : decode cL_law 851 = .ok (.iadd, 1) := by decide +kernel
theorem dL_law_852 : decode cL_law 852 = .ok (.iaload, 1) := by decide +kernel
theorem dL_law_853 : decode cL_law 853 = .ok (.aload_n 0, 1) := by decide +kernel
theorem dL_law_854 : decode cL_law 854 = .ok (.iload 4, 2) := by decide +kernel
theorem dL_law_856 : decode cL_law 856 = .ok (.iconst 2, 1) := by decide +kernel
theorem dL_law_857 : decode cL_law 857 = .ok (.iadd, 1) := by decide +kernel
theorem dL_law_858 : decode cL_law 858 = .ok (.iaload, 1) := by decide +kernel
theorem dL_law_859 : decode cL_law 859 = .ok (.invokevirtual 102, 3) := by decide +kernel
theorem dL_law_862 : decode cL_law 862 = .ok (.aload_n 2, 1) := by decide +kernel
theorem dL_law_863 : decode cL_law 863 = .ok (.aload_n 0, 1) := by decide +kernel
theorem dL_law_864 : decode cL_law 864 = .ok (.iload 4, 2) := by decide +kernel
theorem dL_law_866 : decode cL_law 866 = .ok (.iconst 1, 1) := by decide +kernel
theorem dL_law_867 : decode cL_law 867 = .ok (.iadd, 1) := by decide +kernel
theorem dL_law_868 : decode cL_law 868 = .ok (.iaload, 1) := by decide +kernel
theorem dL_law_869 : decode cL_law 869 = .ok (.aload_n 0, 1) := by decide +kernel
theorem dL_law_870 : decode cL_law 870 = .ok (.iload 4, 2) := by decide +kernel
theorem dL_law_872 : decode cL_law 872 = .ok (.iconst 2, 1) := by decide +kernel
theorem dL_law_873 : decode cL_law 873 = .ok (.iadd, 1) := by decide +kernel
theorem dL_law_874 : decode cL_law 874 = .ok (.iaload, 1) := by decide +kernel
theorem dL_law_875 : decode cL_law 875 = .ok (.invokevirtual 105, 3) := by decide +kernel
theorem dL_law_878 : decode cL_law 878 = .ok (.if_icmp .eq 643, 3) := by decide +kernel
theorem dL_law_881 : decode cL_law 881 = .ok (.iconst 0, 1) := by decide +kernel
theorem dL_law_882 : decode cL_law 882 = .ok (.ireturn, 1) := by decide +kernel
theorem dL_law_883 : decode cL_law 883 = .ok (.aload_n 1, 1) := by decide +kernel
theorem dL_law_884 : decode cL_law 884 = .ok (.aload_n 0, 1) := by decide +kernel
theorem dL_law_885 : decode cL_law 885 = .ok (.iload 4, 2) := by decide +kernel
theorem dL_law_887 : decode cL_law 887 = .ok (.iconst 1, 1) := by decide +kernel
theorem dL_law_888 : decode cL_law 888 = .ok (.iadd, 1) := by decide +kernel
theorem dL_law_889 : decode cL_law 889 = .ok (.iaload, 1) := by decide +kernel
theorem dL_law_890 : decode cL_law 890 = .ok (.invokevirtual 106, 3) := by decide +kernel
theorem dL_law_893 : decode cL_law 893 = .ok (.aload_n 2, 1) := by decide +kernel
theorem dL_law_894 : decode cL_law 894 = .ok (.aload_n 0, 1) := by decide +kernel
theorem dL_law_895 : decode cL_law 895 = .ok (.iload 4, 2) := by decide +kernel
theorem dL_law_897 : decode cL_law 897 = .ok (.iconst 1, 1) := by decide +kernel
theorem dL_law_898 : decode cL_law 898 = .ok (.iadd, 1) := by decide +kernel
theorem dL_law_899 : decode cL_law 899 = .ok (.iaload, 1) := by decide +kernel
theorem dL_law_900 : decode cL_law 900 = .ok (.invokevirtual 109, 3) := by decide +kernel
theorem dL_law_903 : decode cL_law 903 = .ok (.if_icmp .eq 618, 3) := by decide +kernel
theorem dL_law_906 : decode cL_law 906 = .ok (.iconst 0, 1) := by decide +kernel
theorem dL_law_907 : decode cL_law 907 = .ok (.ireturn, 1) := by decide +kernel
theorem dL_law_908 : decode cL_law 908 = .ok (.aload_n 1, 1) := by decide +kernel
theorem dL_law_909 : decode cL_law 909 = .ok (.aload_n 0, 1) := by decide +kernel
theorem dL_law_910 : decode cL_law 910 = .ok (.iload 4, 2) := by decide +kernel
theorem dL_law_912 : decode cL_law 912 = .ok (.iconst 1, 1) := by decide +kernel
theorem dL_law_913 : decode cL_law 913 = .ok (.iadd, 1) := by decide +kernel
theorem dL_law_914 : decode cL_law 914 = .ok (.iaload, 1) := by decide +kernel
theorem dL_law_915 : decode cL_law 915 = .ok (.invokevirtual 110, 3) := by decide +kernel
theorem dL_law_918 : decode cL_law 918 = .ok (.aload_n 2, 1) := by decide +kernel
theorem dL_law_919 : decode cL_law 919 = .ok (.aload_n 0, 1) := by decide +kernel
theorem dL_law_920 : decode cL_law 920 = .ok (.iload 4, 2) := by decide +kernel
theorem dL_law_922 : decode cL_law 922 = .ok (.iconst 1, 1) := by decide +kernel
theorem dL_law_923 : decode cL_law 923 = .ok (.iadd, 1) := by decide +kernel
theorem dL_law_924 : decode cL_law 924 = .ok (.iaload, 1) := by decide +kernel
theorem dL_law_925 : decode cL_law 925 = .ok (.invokevirtual 113, 3) := by decide +kernel
theorem dL_law_928 : decode cL_law 928 = .ok (.if_icmp .eq 593, 3) := by decide +kernel
theorem dL_law_931 : decode cL_law 931 = .ok (.iconst 0, 1) := by decide +kernel
theorem dL_law_932 : decode cL_law 932 = .ok (.ireturn, 1) := by decide +kernel
theorem dL_law_933 : decode cL_law 933 = .ok (.aload_n 1, 1) := by decide +kernel
theorem dL_law_934 : decode cL_law 934 = .ok (.aload_n 0, 1) := by decide +kernel
theorem dL_law_935 : decode cL_law 935 = .ok (.iload 4, 2) := by decide +kernel
theorem dL_law_937 : decode cL_law 937 = .ok (.iconst 1, 1) := by decide +kernel
theorem dL_law_938 : decode cL_law 938 = .ok (.iadd, 1) := by decide +kernel
theorem dL_law_939 : decode cL_law 939 = .ok (.iaload, 1) := by decide +kernel
theorem dL_law_940 : decode cL_law 940 = .ok (.aload_n 0, 1) := by decide +kernel
theorem dL_law_941 : decode cL_law 941 = .ok (.iload 4, 2) := by decide +kernel
theorem dL_law_943 : decode cL_law 943 = .ok (.iconst 2, 1) := by decide +kernel
theorem dL_law_944 : decode cL_law 944 = .ok (.iadd, 1) := by decide +kernel
theorem dL_law_945 : decode cL_law 945 = .ok (.iaload, 1) := by decide +kernel
theorem dL_law_946 : decode cL_law 946 = .ok (.invokevirtual 114, 3) := by decide +kernel
theorem dL_law_949 : decode cL_law 949 = .ok (.aload_n 2, 1) := by decide +kernel
theorem dL_law_950 : decode cL_law 950 = .ok (.aload_n 0, 1) := by decide +kernel
theorem dL_law_951 : decode cL_law 951 = .ok (.iload 4, 2) := by decide +kernel
theorem dL_law_953 : decode cL_law 953 = .ok (.iconst 1, 1) := by decide +kernel
theorem dL_law_954 : decode cL_law 954 = .ok (.iadd, 1) := by decide +kernel
theorem dL_law_955 : decode cL_law 955 = .ok (.iaload, 1) := by decide +kernel
theorem dL_law_956 : decode cL_law 956 = .ok (.aload_n 0, 1) := by decide +kernel
theorem dL_law_957 : decode cL_law 957 = .ok (.iload 4, 2) := by decide +kernel
theorem dL_law_959 : decode cL_law 959 = .ok (.iconst 2, 1) := by decide +kernel
theorem dL_law_960 : decode cL_law 960 = .ok (.iadd, 1) := by decide +kernel
theorem dL_law_961 : decode cL_law 961 = .ok (.iaload, 1) := by decide +kernel
theorem dL_law_962 : decode cL_law 962 = .ok (.invokevirtual 117, 3) := by decide +kernel
theorem dL_law_965 : decode cL_law 965 = .ok (.if_icmp .eq 556, 3) := by decide +kernel
theorem dL_law_968 : decode cL_law 968 = .ok (.iconst 0, 1) := by decide +kernel
theorem dL_law_969 : decode cL_law 969 = .ok (.ireturn, 1) := by decide +kernel
theorem dL_law_970 : decode cL_law 970 = .ok (.aload_n 1, 1) := by decide +kernel
theorem dL_law_971 : decode cL_law 971 = .ok (.invokevirtual 118, 3) := by decide +kernel
theorem dL_law_974 : decode cL_law 974 = .ok (.aload_n 2, 1) := by decide +kernel
theorem dL_law_975 : decode cL_law 975 = .ok (.invokevirtual 121, 3) := by decide +kernel
theorem dL_law_978 : decode cL_law 978 = .ok (.if_icmp .eq 543, 3) := by decide +kernel
theorem dL_law_981 : decode cL_law 981 = .ok (.iconst 0, 1) := by decide +kernel
theorem dL_law_982 : decode cL_law 982 = .ok (.ireturn, 1) := by decide +kernel
theorem dL_law_983 : decode cL_law 983 = .ok (.aload_n 1, 1) := by decide +kernel
theorem dL_law_984 : decode cL_law 984 = .ok (.invokevirtual 122, 3) := by decide +kernel
theorem dL_law_987 : decode cL_law 987 = .ok (.aload_n 2, 1) := by decide +kernel
theorem dL_law_988 : decode cL_law 988 = .ok (.invokevirtual 125, 3) := by decide +kernel
theorem dL_law_991 : decode cL_law 991 = .ok (.if_icmp .eq 530, 3) := by decide +kernel
theorem dL_law_994 : decode cL_law 994 = .ok (.iconst 0, 1) := by decide +kernel
theorem dL_law_995 : decode cL_law 995 = .ok (.ireturn, 1) := by decide +kernel
theorem dL_law_996 : decode cL_law 996 = .ok (.aload_n 1, 1) := by decide +kernel
theorem dL_law_997 : decode cL_law 997 = .ok (.aload_n 0, 1) := by decide +kernel
theorem dL_law_998 : decode cL_law 998 = .ok (.iload 4, 2) := by decide +kernel
theorem dL_law_1000 : decode cL_law 1000 = .ok (.iconst 1, 1) := by decide +kernel
theorem dL_law_1001 : decode cL_law 1001 = .ok (.iadd, 1) := by decide +kernel
theorem dL_law_1002 : decode cL_law 1002 = .ok (.iaload, 1) := by decide +kernel
theorem dL_law_1003 : decode cL_law 1003 = .ok (.invokevirtual 126, 3) := by decide +kernel
theorem dL_law_1006 : decode cL_law 1006 = .ok (.aload_n 2, 1) := by decide +kernel
theorem dL_law_1007 : decode cL_law 1007 = .ok (.aload_n 0, 1) := by decide +kernel
theorem dL_law_1008 : decode cL_law 1008 = .ok (.iload 4, 2) := by decide +kernel
theorem dL_law_1010 : decode cL_law 1010 = .ok (.iconst 1, 1) := by decide +kernel
theorem dL_law_1011 : decode cL_law 1011 = .ok (.iadd, 1) := by decide +kernel
theorem dL_law_1012 : decode cL_law 1012 = .ok (.iaload, 1) := by decide +kernel
theorem dL_law_1013 : decode cL_law 1013 = .ok (.invokevirtual 129, 3) := by decide +kernel
theorem dL_law_1016 : decode cL_law 1016 = .ok (.if_icmp .eq 505, 3) := by decide +kernel
theorem dL_law_1019 : decode cL_law 1019 = .ok (.iconst 0, 1) := by decide +kernel
theorem dL_law_1020 : decode cL_law 1020 = .ok (.ireturn, 1) := by decide +kernel
theorem dL_law_1021 : decode cL_law 1021 = .ok (.aload_n 1, 1) := by decide +kernel
theorem dL_law_1022 : decode cL_law 1022 = .ok (.aload_n 0, 1) := by decide +kernel
theorem dL_law_1023 : decode cL_law 1023 = .ok (.iload 4, 2) := by decide +kernel
theorem dL_law_1025 : decode cL_law 1025 = .ok (.iconst 1, 1) := by decide +kernel
theorem dL_law_1026 : decode cL_law 1026 = .ok (.iadd, 1) := by decide +kernel
theorem dL_law_1027 : decode cL_law 1027 = .ok (.iaload, 1) := by decide +kernel
theorem dL_law_1028 : decode cL_law 1028 = .ok (.invokevirtual 130, 3) := by decide +kernel
theorem dL_law_1031 : decode cL_law 1031 = .ok (.aload_n 2, 1) := by decide +kernel
theorem dL_law_1032 : decode cL_law 1032 = .ok (.aload_n 0, 1) := by decide +kernel
theorem dL_law_1033 : decode cL_law 1033 = .ok (.iload 4, 2) := by decide +kernel
theorem dL_law_1035 : decode cL_law 1035 = .ok (.iconst 1, 1) := by decide +kernel
theorem dL_law_1036 : decode cL_law 1036 = .ok (.iadd, 1) := by decide +kernel
theorem dL_law_1037 : decode cL_law 1037 = .ok (.iaload, 1) := by decide +kernel
theorem dL_law_1038 : decode cL_law 1038 = .ok (.invokevirtual 133, 3) := by decide +kernel
theorem dL_law_1041 : decode cL_law 1041 = .ok (.if_icmp .eq 480, 3) := by decide +kernel
theorem dL_law_1044 : decode cL_law 1044 = .ok (.iconst 0, 1) := by decide +kernel
theorem dL_law_1045 : decode cL_law 1045 = .ok (.ireturn, 1) := by decide +kernel
theorem dL_law_1046 : decode cL_law 1046 = .ok (.aload_n 1, 1) := by decide +kernel
theorem dL_law_1047 : decode cL_law 1047 = .ok (.invokevirtual 134, 3) := by decide +kernel
theorem dL_law_1050 : decode cL_law 1050 = .ok (.aload_n 2, 1) := by decide +kernel
theorem dL_law_1051 : decode cL_law 1051 = .ok (.invokevirtual 137, 3) := by decide +kernel
theorem dL_law_1054 : decode cL_law 1054 = .ok (.if_icmp .eq 467, 3) := by decide +kernel
theorem dL_law_1057 : decode cL_law 1057 = .ok (.iconst 0, 1) := by decide +kernel
theorem dL_law_1058 : decode cL_law 1058 = .ok (.ireturn, 1) := by decide +kernel
theorem dL_law_1059 : decode cL_law 1059 = .ok (.aload_n 1, 1) := by decide +kernel
theorem dL_law_1060 : decode cL_law 1060 = .ok (.aload_n 0, 1) := by decide +kernel
theorem dL_law_1061 : decode cL_law 1061 = .ok (.iload 4, 2) := by decide +kernel
theorem dL_law_1063 : decode cL_law 1063 = .ok (.iconst 1, 1) := by decide +kernel
theorem dL_law_1064 : decode cL_law 1064 = .ok (.iadd, 1) := by decide +kernel
theorem dL_law_1065 : decode cL_law 1065 = .ok (.iaload, 1) := by decide +kernel
theorem dL_law_1066 : decode cL_law 1066 = .ok (.invokevirtual 138, 3) := by decide +kernel
theorem dL_law_1069 : decode cL_law 1069 = .ok (.aload_n 2, 1) := by decide +kernel
theorem dL_law_1070 : decode cL_law 1070 = .ok (.aload_n 0, 1) := by decide +kernel
theorem dL_law_1071 : decode cL_law 1071 = .ok (.iload 4, 2) := by decide +kernel
theorem dL_law_1073 : decode cL_law 1073 = .ok (.iconst 1, 1) := by decide +kernel
theorem dL_law_1074 : decode cL_law 1074 = .ok (.iadd, 1) := by decide +kernel
theorem dL_law_1075 : decode cL_law 1075 = .ok (.iaload, 1) := by decide +kernel
theorem dL_law_1076 : decode cL_law 1076 = .ok (.invokevirtual 141, 3) := by decide +kernel
theorem dL_law_1079 : decode cL_law 1079 = .ok (.if_icmp .eq 442, 3) := by decide +kernel
theorem dL_law_1082 : decode cL_law 1082 = .ok (.iconst 0, 1) := by decide +kernel
theorem dL_law_1083 : decode cL_law 1083 = .ok (.ireturn, 1) := by decide +kernel
theorem dL_law_1084 : decode cL_law 1084 = .ok (.aload_n 1, 1) := by decide +kernel
theorem dL_law_1085 : decode cL_law 1085 = .ok (.invokevirtual 142, 3) := by decide +kernel
theorem dL_law_1088 : decode cL_law 1088 = .ok (.aload_n 2, 1) := by decide +kernel
theorem dL_law_1089 : decode cL_law 1089 = .ok (.invokevirtual 145, 3) := by decide +kernel
theorem dL_law_1092 : decode cL_law 1092 = .ok (.if_icmp .eq 429, 3) := by decide +kernel
theorem dL_law_1095 : decode cL_law 1095 = .ok (.iconst 0, 1) := by decide +kernel
theorem dL_law_1096 : decode cL_law 1096 = .ok (.ireturn, 1) := by decide +kernel
theorem dL_law_1097 : decode cL_law 1097 = .ok (.aload_n 1, 1) := by decide +kernel
theorem dL_law_1098 : decode cL_law 1098 = .ok (.invokevirtual 146, 3) := by decide +kernel
theorem dL_law_1101 : decode cL_law 1101 = .ok (.aload_n 2, 1) := by decide +kernel
theorem dL_law_1102 : decode cL_law 1102 = .ok (.invokevirtual 149, 3) := by decide +kernel
theorem dL_law_1105 : decode cL_law 1105 = .ok (.if_icmp .eq 416, 3) := by decide +kernel
theorem dL_law_1108 : decode cL_law 1108 = .ok (.iconst 0, 1) := by decide +kernel
theorem dL_law_1109 : decode cL_law 1109 = .ok (.ireturn, 1) := by decide +kernel
theorem dL_law_1110 : decode cL_law 1110 = .ok (.aload_n 1, 1) := by decide +kernel
theorem dL_law_1111 : decode cL_law 1111 = .ok (.invokevirtual 150, 3) := by decide +kernel
theorem dL_law_1114 : decode cL_law 1114 = .ok (.aload_n 2, 1) := by decide +kernel
theorem dL_law_1115 : decode cL_law 1115 = .ok (.invokevirtual 153, 3) := by decide +kernel
theorem dL_law_1118 : decode cL_law 1118 = .ok (.if_icmp .eq 403, 3) := by decide +kernel
theorem dL_law_1121 : decode cL_law 1121 = .ok (.iconst 0, 1) := by decide +kernel
theorem dL_law_1122 : decode cL_law 1122 = .ok (.ireturn, 1) := by decide +kernel
theorem dL_law_1123 : decode cL_law 1123 = .ok (.aload_n 1, 1) := by decide +kernel
theorem dL_law_1124 : decode cL_law 1124 = .ok (.aload_n 0, 1) := by decide +kernel
theorem dL_law_1125 : decode cL_law 1125 = .ok (.iload 4, 2) := by decide +kernel
theorem dL_law_1127 : decode cL_law 1127 = .ok (.iconst 1, 1) := by decide +kernel
theorem dL_law_1128 : decode cL_law 1128 = .ok (.iadd, 1) := by decide +kernel
theorem dL_law_1129 : decode cL_law 1129 = .ok (.iaload, 1) := by decide +kernel
theorem dL_law_1130 : decode cL_law 1130 = .ok (.aload_n 0, 1) := by decide +kernel
theorem dL_law_1131 : decode cL_law 1131 = .ok (.iload 4, 2) := by decide +kernel
theorem dL_law_1133 : decode cL_law 1133 = .ok (.iconst 2, 1) := by decide +kernel
theorem dL_law_1134 : decode cL_law 1134 = .ok (.iadd, 1) := by decide +kernel
theorem dL_law_1135 : decode cL_law 1135 = .ok (.iaload, 1) := by decide +kernel
theorem dL_law_1136 : decode cL_law 1136 = .ok (.invokevirtual 154, 3) := by decide +kernel
theorem dL_law_1139 : decode cL_law 1139 = .ok (.aload_n 2, 1) := by decide +kernel
theorem dL_law_1140 : decode cL_law 1140 = .ok (.aload_n 0, 1) := by decide +kernel
theorem dL_law_1141 : decode cL_law 1141 = .ok (.iload 4, 2) := by decide +kernel
theorem dL_law_1143 : decode cL_law 1143 = .ok (.iconst 1, 1) := by decide +kernel
theorem dL_law_1144 : decode cL_law 1144 = .ok (.iadd, 1) := by decide +kernel
theorem dL_law_1145 : decode cL_law 1145 = .ok (.iaload, 1) := by decide +kernel
theorem dL_law_1146 : decode cL_law 1146 = .ok (.aload_n 0, 1) := by decide +kernel
theorem dL_law_1147 : decode cL_law 1147 = .ok (.iload 4, 2) := by decide +kernel
theorem dL_law_1149 : decode cL_law 1149 = .ok (.iconst 2, 1) := by decide +kernel
theorem dL_law_1150 : decode cL_law 1150 = .ok (.iadd, 1) := by decide +kernel
theorem dL_law_1151 : decode cL_law 1151 = .ok (.iaload, 1) := by decide +kernel
theorem dL_law_1152 : decode cL_law 1152 = .ok (.invokevirtual 157, 3) := by decide +kernel
theorem dL_law_1155 : decode cL_law 1155 = .ok (.if_icmp .eq 366, 3) := by decide +kernel
theorem dL_law_1158 : decode cL_law 1158 = .ok (.iconst 0, 1) := by decide +kernel
theorem dL_law_1159 : decode cL_law 1159 = .ok (.ireturn, 1) := by decide +kernel
theorem dL_law_1160 : decode cL_law 1160 = .ok (.aload_n 1, 1) := by decide +kernel
theorem dL_law_1161 : decode cL_law 1161 = .ok (.aload_n 0, 1) := by decide +kernel
theorem dL_law_1162 : decode cL_law 1162 = .ok (.iload 4, 2) := by decide +kernel
theorem dL_law_1164 : decode cL_law 1164 = .ok (.iconst 1, 1) := by decide +kernel
theorem dL_law_1165 : decode cL_law 1165 = .ok (.iadd, 1) := by decide +kernel
theorem dL_law_1166 : decode cL_law 1166 = .ok (.iaload, 1) := by decide +kernel
theorem dL_law_1167 : decode cL_law 1167 = .ok (.invokevirtual 158, 3) := by decide +kernel
theorem dL_law_1170 : decode cL_law 1170 = .ok (.aload_n 2, 1) := by decide +kernel
theorem dL_law_1171 : decode cL_law 1171 = .ok (.aload_n 0, 1) := by decide +kernel
theorem dL_law_1172 : decode cL_law 1172 = .ok (.iload 4, 2) := by decide +kernel
theorem dL_law_1174 : decode cL_law 1174 = .ok (.iconst 1, 1) := by decide +kernel
theorem dL_law_1175 : decode cL_law 1175 = .ok (.iadd, 1) := by decide +kernel
theorem dL_law_1176 : decode cL_law 1176 = .ok (.iaload, 1) := by decide +kernel
theorem dL_law_1177 : decode cL_law 1177 = .ok (.invokevirtual 161, 3) := by decide +kernel
theorem dL_law_1180 : decode cL_law 1180 = .ok (.if_icmp .eq 341, 3) := by decide +kernel
theorem dL_law_1183 : decode cL_law 1183 = .ok (.iconst 0, 1) := by decide +kernel
theorem dL_law_1184 : decode cL_law 1184 = .ok (.ireturn, 1) := by decide +kernel
theorem dL_law_1185 : decode cL_law 1185 = .ok (.aload_n 1, 1) := by decide +kernel
theorem dL_law_1186 : decode cL_law 1186 = .ok (.aload_n 0, 1) := by decide +kernel
theorem dL_law_1187 : decode cL_law 1187 = .ok (.iload 4, 2) := by decide +kernel
theorem dL_law_1189 : decode cL_law 1189 = .ok (.iconst 1, 1) := by decide +kernel
theorem dL_law_1190 : decode cL_law 1190 = .ok (.iadd, 1) := by decide +kernel
theorem dL_law_1191 : decode cL_law 1191 = .ok (.iaload, 1) := by decide +kernel
theorem dL_law_1192 : decode cL_law 1192 = .ok (.aload_n 0, 1) := by decide +kernel
theorem dL_law_1193 : decode cL_law 1193 = .ok (.iload 4, 2) := by decide +kernel
theorem dL_law_1195 : decode cL_law 1195 = .ok (.iconst 2, 1) := by decide +kernel
theorem dL_law_1196 : decode cL_law 1196 = .ok (.iadd, 1) := by decide +kernel
theorem dL_law_1197 : decode cL_law 1197 = .ok (.iaload, 1) := by decide +kernel
theorem dL_law_1198 : decode cL_law 1198 = .ok (.invokevirtual 162, 3) := by decide +kernel
theorem dL_law_1201 : decode cL_law 1201 = .ok (.aload_n 2, 1) := by decide +kernel
theorem dL_law_1202 : decode cL_law 1202 = .ok (.aload_n 0, 1) := by decide +kernel
theorem dL_law_1203 : decode cL_law 1203 = .ok (.iload 4, 2) := by decide +kernel
theorem dL_law_1205 : decode cL_law 1205 = .ok (.iconst 1, 1) := by decide +kernel
theorem dL_law_1206 : decode cL_law 1206 = .ok (.iadd, 1) := by decide +kernel
theorem dL_law_1207 : decode cL_law 1207 = .ok (.iaload, 1) := by decide +kernel
theorem dL_law_1208 : decode cL_law 1208 = .ok (.aload_n 0, 1) := by decide +kernel
theorem dL_law_1209 : decode cL_law 1209 = .ok (.iload 4, 2) := by decide +kernel
theorem dL_law_1211 : decode cL_law 1211 = .ok (.iconst 2, 1) := by decide +kernel
theorem dL_law_1212 : decode cL_law 1212 = .ok (.iadd, 1) := by decide +kernel
theorem dL_law_1213 : decode cL_law 1213 = .ok (.iaload, 1) := by decide +kernel
theorem dL_law_1214 : decode cL_law 1214 = .ok (.invokevirtual 165, 3) := by decide +kernel
theorem dL_law_1217 : decode cL_law 1217 = .ok (.if_icmp .eq 304, 3) := by decide +kernel
theorem dL_law_1220 : decode cL_law 1220 = .ok (.iconst 0, 1) := by decide +kernel
theorem dL_law_1221 : decode cL_law 1221 = .ok (.ireturn, 1) := by decide +kernel
theorem dL_law_1222 : decode cL_law 1222 = .ok (.aload_n 1, 1) := by decide +kernel
theorem dL_law_1223 : decode cL_law 1223 = .ok (.aload_n 0, 1) := by decide +kernel
theorem dL_law_1224 : decode cL_law 1224 = .ok (.iload 4, 2) := by decide +kernel
theorem dL_law_1226 : decode cL_law 1226 = .ok (.iconst 1, 1) := by decide +kernel
theorem dL_law_1227 : decode cL_law 1227 = .ok (.iadd, 1) := by decide +kernel
theorem dL_law_1228 : decode cL_law 1228 = .ok (.iaload, 1) := by decide +kernel
theorem dL_law_1229 : decode cL_law 1229 = .ok (.invokevirtual 166, 3) := by decide +kernel
theorem dL_law_1232 : decode cL_law 1232 = .ok (.aload_n 2, 1) := by decide +kernel
theorem dL_law_1233 : decode cL_law 1233 = .ok (.aload_n 0, 1) := by decide +kernel
theorem dL_law_1234 : decode cL_law 1234 = .ok (.iload 4, 2) := by decide +kernel
theorem dL_law_1236 : decode cL_law 1236 = .ok (.iconst 1, 1) := by decide +kernel
theorem dL_law_1237 : decode cL_law 1237 = .ok (.iadd, 1) := by decide +kernel
theorem dL_law_1238 : decode cL_law 1238 = .ok (.iaload, 1) := by decide +kernel
theorem dL_law_1239 : decode cL_law 1239 = .ok (.invokevirtual 169, 3) := by decide +kernel
theorem dL_law_1242 : decode cL_law 1242 = .ok (.if_icmp .eq 279, 3) := by decide +kernel
theorem dL_law_1245 : decode cL_law 1245 = .ok (.iconst 0, 1) := by decide +kernel
theorem dL_law_1246 : decode cL_law 1246 = .ok (.ireturn, 1) := by decide +kernel
theorem dL_law_1247 : decode cL_law 1247 = .ok (.aload_n 1, 1) := by decide +kernel
theorem dL_law_1248 : decode cL_law 1248 = .ok (.aload_n 0, 1) := by decide +kernel
theorem dL_law_1249 : decode cL_law 1249 = .ok (.iload 4, 2) := by decide +kernel
theorem dL_law_1251 : decode cL_law 1251 = .ok (.iconst 1, 1) := by decide +kernel
theorem dL_law_1252 : decode cL_law 1252 = .ok (.iadd, 1) := by decide +kernel
theorem dL_law_1253 : decode cL_law 1253 = .ok (.iaload, 1) := by decide +kernel
theorem dL_law_1254 : decode cL_law 1254 = .ok (.invokevirtual 170, 3) := by decide +kernel
theorem dL_law_1257 : decode cL_law 1257 = .ok (.aload_n 2, 1) := by decide +kernel
theorem dL_law_1258 : decode cL_law 1258 = .ok (.aload_n 0, 1) := by decide +kernel
theorem dL_law_1259 : decode cL_law 1259 = .ok (.iload 4, 2) := by decide +kernel
theorem dL_law_1261 : decode cL_law 1261 = .ok (.iconst 1, 1) := by decide +kernel
theorem dL_law_1262 : decode cL_law 1262 = .ok (.iadd, 1) := by decide +kernel
theorem dL_law_1263 : decode cL_law 1263 = .ok (.iaload, 1) := by decide +kernel
theorem dL_law_1264 : decode cL_law 1264 = .ok (.invokevirtual 173, 3) := by decide +kernel
theorem dL_law_1267 : decode cL_law 1267 = .ok (.if_icmp .eq 254, 3) := by decide +kernel
theorem dL_law_1270 : decode cL_law 1270 = .ok (.iconst 0, 1) := by decide +kernel
theorem dL_law_1271 : decode cL_law 1271 = .ok (.ireturn, 1) := by decide +kernel
theorem dL_law_1272 : decode cL_law 1272 = .ok (.aload_n 1, 1) := by decide +kernel
theorem dL_law_1273 : decode cL_law 1273 = .ok (.aload_n 0, 1) := by decide +kernel
theorem dL_law_1274 : decode cL_law 1274 = .ok (.iload 4, 2) := by decide +kernel
theorem dL_law_1276 : decode cL_law 1276 = .ok (.iconst 1, 1) := by decide +kernel
theorem dL_law_1277 : decode cL_law 1277 = .ok (.iadd, 1) := by decide +kernel
theorem dL_law_1278 : decode cL_law 1278 = .ok (.iaload, 1) := by decide +kernel
theorem dL_law_1279 : decode cL_law 1279 = .ok (.aload_n 0, 1) := by decide +kernel
theorem dL_law_1280 : decode cL_law 1280 = .ok (.iload 4, 2) := by decide +kernel
theorem dL_law_1282 : decode cL_law 1282 = .ok (.iconst 2, 1) := by decide +kernel
theorem dL_law_1283 : decode cL_law 1283 = .ok (.iadd, 1) := by decide +kernel
theorem dL_law_1284 : decode cL_law 1284 = .ok (.iaload, 1) := by decide +kernel
theorem dL_law_1285 : decode cL_law 1285 = .ok (.invokevirtual 174, 3) := by decide +kernel
theorem dL_law_1288 : decode cL_law 1288 = .ok (.aload_n 2, 1) := by decide +kernel
theorem dL_law_1289 : decode cL_law 1289 = .ok (.aload_n 0, 1) := by decide +kernel
theorem dL_law_1290 : decode cL_law 1290 = .ok (.iload 4, 2) := by decide +kernel
theorem dL_law_1292 : decode cL_law 1292 = .ok (.iconst 1, 1) := by decide +kernel
theorem dL_law_1293 : decode cL_law 1293 = .ok (.iadd, 1) := by decide +kernel
theorem dL_law_1294 : decode cL_law 1294 = .ok (.iaload, 1) := by decide +kernel
theorem dL_law_1295 : decode cL_law 1295 = .ok (.aload_n 0, 1) := by decide +kernel
theorem dL_law_1296 : decode cL_law 1296 = .ok (.iload 4, 2) := by decide +kernel
theorem dL_law_1298 : decode cL_law 1298 = .ok (.iconst 2, 1) := by decide +kernel
theorem dL_law_1299 : decode cL_law 1299 = .ok (.iadd, 1) := by decide +kernel
theorem dL_law_1300 : decode cL_law 1300 = .ok (.iaload, 1) := by decide +kernel
theorem dL_law_1301 : decode cL_law 1301 = .ok (.invokevirtual 177, 3) := by decide +kernel
theorem dL_law_1304 : decode cL_law 1304 = .ok (.if_icmp .eq 217, 3) := by decide +kernel
theorem dL_law_1307 : decode cL_law 1307 = .ok (.iconst 0, 1) := by decide +kernel
theorem dL_law_1308 : decode cL_law 1308 = .ok (.ireturn, 1) := by decide +kernel
theorem dL_law_1309 : decode cL_law 1309 = .ok (.aload_n 1, 1) := by decide +kernel
theorem dL_law_1310 : decode cL_law 1310 = .ok (.aload_n 0, 1) := by decide +kernel
theorem dL_law_1311 : decode cL_law 1311 = .ok (.iload 4, 2) := by decide +kernel
theorem dL_law_1313 : decode cL_law 1313 = .ok (.iconst 1, 1) := by decide +kernel
theorem dL_law_1314 : decode cL_law 1314 = .ok (.iadd, 1) := by decide +kernel
theorem dL_law_1315 : decode cL_law 1315 = .ok (.iaload, 1) := by decide +kernel
theorem dL_law_1316 : decode cL_law 1316 = .ok (.aload_n 0, 1) := by decide +kernel
theorem dL_law_1317 : decode cL_law 1317 = .ok (.iload 4, 2) := by decide +kernel
theorem dL_law_1319 : decode cL_law 1319 = .ok (.iconst 2, 1) := by decide +kernel
theorem dL_law_1320 : decode cL_law 1320 = .ok (.iadd, 1) := by decide +kernel
theorem dL_law_1321 : decode cL_law 1321 = .ok (.iaload, 1) := by decide +kernel
theorem dL_law_1322 : decode cL_law 1322 = .ok (.aload_n 0, 1) := by decide +kernel
theorem dL_law_1323 : decode cL_law 1323 = .ok (.iload 4, 2) := by decide +kernel
theorem dL_law_1325 : decode cL_law 1325 = .ok (.iconst 3, 1) := by decide +kernel
theorem dL_law_1326 : decode cL_law 1326 = .ok (.iadd, 1) := by decide +kernel
theorem dL_law_1327 : decode cL_law 1327 = .ok (.iaload, 1) := by decide +kernel
theorem dL_law_1328 : decode cL_law 1328 = .ok (.invokevirtual 178, 3) := by decide +kernel
theorem dL_law_1331 : decode cL_law 1331 = .ok (.aload_n 2, 1) := by decide +kernel
theorem dL_law_1332 : decode cL_law 1332 = .ok (.aload_n 0, 1) := by decide +kernel
theorem dL_law_1333 : decode cL_law 1333 = .ok (.iload 4, 2) := by decide +kernel
theorem dL_law_1335 : decode cL_law 1335 = .ok (.iconst 1, 1) := by decide +kernel
theorem dL_law_1336 : decode cL_law 1336 = .ok (.iadd, 1) := by decide +kernel
theorem dL_law_1337 : decode cL_law 1337 = .ok (.iaload, 1) := by decide +kernel
theorem dL_law_1338 : decode cL_law 1338 = .ok (.aload_n 0, 1) := by decide +kernel
theorem dL_law_1339 : decode cL_law 1339 = .ok (.iload 4, 2) := by decide +kernel
theorem dL_law_1341 : decode cL_law 1341 = .ok (.iconst 2, 1) := by decide +kernel
theorem dL_law_1342 : decode cL_law 1342 = .ok (.iadd, 1) := by decide +kernel
theorem dL_law_1343 : decode cL_law 1343 = .ok (.iaload, 1) := by decide +kernel
theorem dL_law_1344 : decode cL_law 1344 = .ok (.aload_n 0, 1) := by decide +kernel
theorem dL_law_1345 : decode cL_law 1345 = .ok (.iload 4, 2) := by decide +kernel
theorem dL_law_1347 : decode cL_law 1347 = .ok (.iconst 3, 1) := by decide +kernel
theorem dL_law_1348 : decode cL_law 1348 = .ok (.iadd, 1) := by decide +kernel
theorem dL_law_1349 : decode cL_law 1349 = .ok (.iaload, 1) := by decide +kernel
theorem dL_law_1350 : decode cL_law 1350 = .ok (.invokevirtual 181, 3) := by decide +kernel
theorem dL_law_1353 : decode cL_law 1353 = .ok (.if_icmp .eq 168, 3) := by decide +kernel
theorem dL_law_1356 : decode cL_law 1356 = .ok (.iconst 0, 1) := by decide +kernel
theorem dL_law_1357 : decode cL_law 1357 = .ok (.ireturn, 1) := by decide +kernel
theorem dL_law_1358 : decode cL_law 1358 = .ok (.aload_n 1, 1) := by decide +kernel
theorem dL_law_1359 : decode cL_law 1359 = .ok (.aload_n 0, 1) := by decide +kernel
theorem dL_law_1360 : decode cL_law 1360 = .ok (.iload 4, 2) := by decide +kernel
theorem dL_law_1362 : decode cL_law 1362 = .ok (.iconst 1, 1) := by decide +kernel
theorem dL_law_1363 : decode cL_law 1363 = .ok (.iadd, 1) := by decide +kernel
theorem dL_law_1364 : decode cL_law 1364 = .ok (.iaload, 1) := by decide +kernel
theorem dL_law_1365 : decode cL_law 1365 = .ok (.invokevirtual 182, 3) := by decide +kernel
theorem dL_law_1368 : decode cL_law 1368 = .ok (.aload_n 2, 1) := by decide +kernel
theorem dL_law_1369 : decode cL_law 1369 = .ok (.aload_n 0, 1) := by decide +kernel
theorem dL_law_1370 : decode cL_law 1370 = .ok (.iload 4, 2) := by decide +kernel
theorem dL_law_1372 : decode cL_law 1372 = .ok (.iconst 1, 1) := by decide +kernel
theorem dL_law_1373 : decode cL_law 1373 = .ok (.iadd, 1) := by decide +kernel
theorem dL_law_1374 : decode cL_law 1374 = .ok (.iaload, 1) := by decide +kernel
theorem dL_law_1375 : decode cL_law 1375 = .ok (.invokevirtual 185, 3) := by decide +kernel
theorem dL_law_1378 : decode cL_law 1378 = .ok (.if_icmp .eq 143, 3) := by decide +kernel
theorem dL_law_1381 : decode cL_law 1381 = .ok (.iconst 0, 1) := by decide +kernel
theorem dL_law_1382 : decode cL_law 1382 = .ok (.ireturn, 1) := by decide +kernel
theorem dL_law_1383 : decode cL_law 1383 = .ok (.aload_n 1, 1) := by decide +kernel
theorem dL_law_1384 : decode cL_law 1384 = .ok (.aload_n 0, 1) := by decide +kernel
theorem dL_law_1385 : decode cL_law 1385 = .ok (.iload 4, 2) := by decide +kernel
theorem dL_law_1387 : decode cL_law 1387 = .ok (.iconst 1, 1) := by decide +kernel
theorem dL_law_1388 : decode cL_law 1388 = .ok (.iadd, 1) := by decide +kernel
theorem dL_law_1389 : decode cL_law 1389 = .ok (.iaload, 1) := by decide +kernel
theorem dL_law_1390 : decode cL_law 1390 = .ok (.invokevirtual 186, 3) := by decide +kernel
theorem dL_law_1393 : decode cL_law 1393 = .ok (.aload_n 2, 1) := by decide +kernel
theorem dL_law_1394 : decode cL_law 1394 = .ok (.aload_n 0, 1) := by decide +kernel
theorem dL_law_1395 : decode cL_law 1395 = .ok (.iload 4, 2) := by decide +kernel
theorem dL_law_1397 : decode cL_law 1397 = .ok (.iconst 1, 1) := by decide +kernel
theorem dL_law_1398 : decode cL_law 1398 = .ok (.iadd, 1) := by decide +kernel
theorem dL_law_1399 : decode cL_law 1399 = .ok (.iaload, 1) := by decide +kernel
theorem dL_law_1400 : decode cL_law 1400 = .ok (.invokevirtual 189, 3) := by decide +kernel
theorem dL_law_1403 : decode cL_law 1403 = .ok (.if_icmp .eq 118, 3) := by decide +kernel
theorem dL_law_1406 : decode cL_law 1406 = .ok (.iconst 0, 1) := by decide +kernel
theorem dL_law_1407 : decode cL_law 1407 = .ok (.ireturn, 1) := by decide +kernel
theorem dL_law_1408 : decode cL_law 1408 = .ok (.aload_n 1, 1) := by decide +kernel
theorem dL_law_1409 : decode cL_law 1409 = .ok (.invokevirtual 190, 3) := by decide +kernel
theorem dL_law_1412 : decode cL_law 1412 = .ok (.aload_n 2, 1) := by decide +kernel
theorem dL_law_1413 : decode cL_law 1413 = .ok (.invokevirtual 193, 3) := by decide +kernel
theorem dL_law_1416 : decode cL_law 1416 = .ok (.if_icmp .eq 105, 3) := by decide +kernel
theorem dL_law_1419 : decode cL_law 1419 = .ok (.iconst 0, 1) := by decide +kernel
theorem dL_law_1420 : decode cL_law 1420 = .ok (.ireturn, 1) := by decide +kernel
theorem dL_law_1421 : decode cL_law 1421 = .ok (.aload_n 1, 1) := by decide +kernel
theorem dL_law_1422 : decode cL_law 1422 = .ok (.aload_n 0, 1) := by decide +kernel
theorem dL_law_1423 : decode cL_law 1423 = .ok (.iload 4, 2) := by decide +kernel
theorem dL_law_1425 : decode cL_law 1425 = .ok (.iconst 1, 1) := by decide +kernel
theorem dL_law_1426 : decode cL_law 1426 = .ok (.iadd, 1) := by decide +kernel
theorem dL_law_1427 : decode cL_law 1427 = .ok (.iaload, 1) := by decide +kernel
theorem dL_law_1428 : decode cL_law 1428 = .ok (.invokevirtual 194, 3) := by decide +kernel
theorem dL_law_1431 : decode cL_law 1431 = .ok (.aload_n 2, 1) := by decide +kernel
theorem dL_law_1432 : decode cL_law 1432 = .ok (.aload_n 0, 1) := by decide +kernel
theorem dL_law_1433 : decode cL_law 1433 = .ok (.iload 4, 2) := by decide +kernel
theorem dL_law_1435 : decode cL_law 1435 = .ok (.iconst 1, 1) := by decide +kernel
theorem dL_law_1436 : decode cL_law 1436 = .ok (.iadd, 1) := by decide +kernel
theorem dL_law_1437 : decode cL_law 1437 = .ok (.iaload, 1) := by decide +kernel
theorem dL_law_1438 : decode cL_law 1438 = .ok (.invokevirtual 197, 3) := by decide +kernel
theorem dL_law_1441 : decode cL_law 1441 = .ok (.if_icmp .eq 80, 3) := by decide +kernel
theorem dL_law_1444 : decode cL_law 1444 = .ok (.iconst 0, 1) := by decide +kernel
theorem dL_law_1445 : decode cL_law 1445 = .ok (.ireturn, 1) := by decide +kernel
theorem dL_law_1446 : decode cL_law 1446 = .ok (.aload_n 1, 1) := by decide +kernel
theorem dL_law_1447 : decode cL_law 1447 = .ok (.aload_n 0, 1) := by decide +kernel
theorem dL_law_1448 : decode cL_law 1448 = .ok (.iload 4, 2) := by decide +kernel
theorem dL_law_1450 : decode cL_law 1450 = .ok (.iconst 1, 1) := by decide +kernel
theorem dL_law_1451 : decode cL_law 1451 = .ok (.iadd, 1) := by decide +kernel
theorem dL_law_1452 : decode cL_law 1452 = .ok (.iaload, 1) := by decide +kernel
theorem dL_law_1453 : decode cL_law 1453 = .ok (.invokevirtual 198, 3) := by decide +kernel
theorem dL_law_1456 : decode cL_law 1456 = .ok (.aload_n 2, 1) := by decide +kernel
theorem dL_law_1457 : decode cL_law 1457 = .ok (.aload_n 0, 1) := by decide +kernel
theorem dL_law_1458 : decode cL_law 1458 = .ok (.iload 4, 2) := by decide +kernel
theorem dL_law_1460 : decode cL_law 1460 = .ok (.iconst 1, 1) := by decide +kernel
theorem dL_law_1461 : decode cL_law 1461 = .ok (.iadd, 1) := by decide +kernel
theorem dL_law_1462 : decode cL_law 1462 = .ok (.iaload, 1) := by decide +kernel
theorem dL_law_1463 : decode cL_law 1463 = .ok (.invokevirtual 201, 3) := by decide +kernel
theorem dL_law_1466 : decode cL_law 1466 = .ok (.if_icmp .eq 55, 3) := by decide +kernel
theorem dL_law_1469 : decode cL_law 1469 = .ok (.iconst 0, 1) := by decide +kernel
theorem dL_law_1470 : decode cL_law 1470 = .ok (.ireturn, 1) := by decide +kernel
theorem dL_law_1471 : decode cL_law 1471 = .ok (.aload_n 1, 1) := by decide +kernel
theorem dL_law_1472 : decode cL_law 1472 = .ok (.aload_n 0, 1) := by decide +kernel
theorem dL_law_1473 : decode cL_law 1473 = .ok (.iload 4, 2) := by decide +kernel
theorem dL_law_1475 : decode cL_law 1475 = .ok (.iconst 1, 1) := by decide +kernel
theorem dL_law_1476 : decode cL_law 1476 = .ok (.iadd, 1) := by decide +kernel
theorem dL_law_1477 : decode cL_law 1477 = .ok (.iaload, 1) := by decide +kernel
theorem dL_law_1478 : decode cL_law 1478 = .ok (.invokevirtual 202, 3) := by decide +kernel
theorem dL_law_1481 : decode cL_law 1481 = .ok (.aload_n 2, 1) := by decide +kernel
theorem dL_law_1482 : decode cL_law 1482 = .ok (.aload_n 0, 1) := by decide +kernel
theorem dL_law_1483 : decode cL_law 1483 = .ok (.iload 4, 2) := by decide +kernel
theorem dL_law_1485 : decode cL_law 1485 = .ok (.iconst 1, 1) := by decide +kernel
theorem dL_law_1486 : decode cL_law 1486 = .ok (.iadd, 1) := by decide +kernel
theorem dL_law_1487 : decode cL_law 1487 = .ok (.iaload, 1) := by decide +kernel
theorem dL_law_1488 : decode cL_law 1488 = .ok (.invokevirtual 205, 3) := by decide +kernel
theorem dL_law_1491 : decode cL_law 1491 = .ok (.if_icmp .eq 30, 3) := by decide +kernel
theorem dL_law_1494 : decode cL_law 1494 = .ok (.iconst 0, 1) := by decide +kernel
theorem dL_law_1495 : decode cL_law 1495 = .ok (.ireturn, 1) := by decide +kernel
theorem dL_law_1496 : decode cL_law 1496 = .ok (.aload_n 1, 1) := by decide +kernel
theorem dL_law_1497 : decode cL_law 1497 = .ok (.aload_n 0, 1) := by decide +kernel
theorem dL_law_1498 : decode cL_law 1498 = .ok (.iload 4, 2) := by decide +kernel
theorem dL_law_1500 : decode cL_law 1500 = .ok (.iconst 1, 1) := by decide +kernel
theorem dL_law_1501 : decode cL_law 1501 = .ok (.iadd, 1) := by decide +kernel
theorem dL_law_1502 : decode cL_law 1502 = .ok (.iaload, 1) := by decide +kernel
theorem dL_law_1503 : decode cL_law 1503 = .ok (.invokevirtual 206, 3) := by decide +kernel
theorem dL_law_1506 : decode cL_law 1506 = .ok (.aload_n 2, 1) := by decide +kernel
theorem dL_law_1507 : decode cL_law 1507 = .ok (.aload_n 0, 1) := by decide +kernel
theorem dL_law_1508 : decode cL_law 1508 = .ok (.iload 4, 2) := by decide +kernel
theorem dL_law_1510 : decode cL_law 1510 = .ok (.iconst 1, 1) := by decide +kernel
theorem dL_law_1511 : decode cL_law 1511 = .ok (.iadd, 1) := by decide +kernel
theorem dL_law_1512 : decode cL_law 1512 = .ok (.iaload, 1) := by decide +kernel
theorem dL_law_1513 : decode cL_law 1513 = .ok (.invokevirtual 209, 3) := by decide +kernel
theorem dL_law_1516 : decode cL_law 1516 = .ok (.if_icmp .eq 5, 3) := by decide +kernel
theorem dL_law_1519 : decode cL_law 1519 = .ok (.iconst 0, 1) := by decide +kernel
theorem dL_law_1520 : decode cL_law 1520 = .ok (.ireturn, 1) := by decide +kernel
theorem dL_law_1521 : decode cL_law 1521 = .ok (.iinc 4 6, 3) := by decide +kernel
theorem dL_law_1524 : decode cL_law 1524 = .ok (.goto (-1501), 3) := by decide +kernel
theorem dL_law_1527 : decode cL_law 1527 = .ok (.iconst 1, 1) := by decide +kernel
theorem dL_law_1528 : decode cL_law 1528 = .ok (.ireturn, 1) := by decide +kernel
theorem okc_X11_init {kn : sKn} {cc : ByteArray} {own : String} {nL : Nat} {D : Nat} {ret : Option FieldType} {ini : Bool} {pc index : Nat} (hD : 5 + 1 ≤ D) (hl : Cond.methodLink own index yX11_init ∈ wsL_law) (hd : decode cc pc = .ok (.invokespecial index, 3)) : mOk kn cc own nL wsL_law D ret ini pc (a_callI true (fX11_init kn) (0 + 1) (pc + 3)) := ok_callI (mX11_init kn) (good_ws ws_good (fun _ h => h) kw1032) hD (by decide) hl kw1033 rfl kw119 ⟨by decide +kernel, by decide +kernel, by decide +kernel⟩ hd
theorem okc_X12_init {kn : sKn} {cc : ByteArray} {own : String} {nL : Nat} {D : Nat} {ret : Option FieldType} {ini : Bool} {pc index : Nat} (hD : 2 + 1 ≤ D) (hl : Cond.methodLink own index yX12_init ∈ wsL_law) (hd : decode cc pc = .ok (.invokespecial index, 3)) : mOk kn cc own nL wsL_law D ret ini pc (a_callI true (fX12_init kn) (0 + 1) (pc + 3)) := ok_callI (mX12_init kn) (good_ws ws_good (fun _ h => h) kw1036) hD (by decide) hl kw1037 rfl kw686 ⟨by decide +kernel, by decide +kernel, by decide +kernel⟩ hd
theorem okc_X11_feed {kn : sKn} {cc : ByteArray} {own : String} {nL : Nat} {D : Nat} {ret : Option FieldType} {ini : Bool} {pc index : Nat} (hD : 2 + 1 ≤ D) (hl : Cond.methodLink own index yX11_feed ∈ wsL_law) (hd : decode cc pc = .ok (.invokevirtual index, 3)) : mOk kn cc own nL wsL_law D ret ini pc (a_callV false (fX11_feed kn) 12 (5 + 1) (pc + 3)) := ok_callV (mX11_feed kn) (good_ws ws_good (fun _ h => h) kw1039) hD (by decide) hl kw1040 kw1041 kw119 ⟨by decide +kernel, by decide +kernel, by decide +kernel⟩ rfl hd
theorem okc_X12_feed {kn : sKn} {cc : ByteArray} {own : String} {nL : Nat} {D : Nat} {ret : Option FieldType} {ini : Bool} {pc index : Nat} (hD : 2 + 1 ≤ D) (hl : Cond.methodLink own index yX12_feed ∈ wsL_law) (hd : decode cc pc = .ok (.invokevirtual index, 3)) : mOk kn cc own nL wsL_law D ret ini pc (a_callV false (fX12_feed kn) 13 (5 + 1) (pc + 3)) := ok_callV (mX12_feed kn) (good_ws ws_good (fun _ h => h) kw1043) hD (by decide) hl kw1044 kw1045 kw686 ⟨by decide +kernel, by decide +kernel, by decide +kernel⟩ rfl hd
theorem okc_X11_end {kn : sKn} {cc : ByteArray} {own : String} {nL : Nat} {D : Nat} {ret : Option FieldType} {ini : Bool} {pc index : Nat} (hD : 1 + 1 ≤ D) (hl : Cond.methodLink own index yX11_end ∈ wsL_law) (hd : decode cc pc = .ok (.invokevirtual index, 3)) : mOk kn cc own nL wsL_law D ret ini pc (a_callV false (fX11_end kn) 12 (1 + 1) (pc + 3)) := ok_callV (mX11_end kn) (good_ws ws_good (fun _ h => h) kw1047) hD (by decide) hl kw1048 kw1049 kw119 ⟨by decide +kernel, by decide +kernel, by decide +kernel⟩ rfl hd
theorem okc_X12_end {kn : sKn} {cc : ByteArray} {own : String} {nL : Nat} {D : Nat} {ret : Option FieldType} {ini : Bool} {pc index : Nat} (hD : 1 + 1 ≤ D) (hl : Cond.methodLink own index yX12_end ∈ wsL_law) (hd : decode cc pc = .ok (.invokevirtual index, 3)) : mOk kn cc own nL wsL_law D ret ini pc (a_callV false (fX12_end kn) 13 (1 + 1) (pc + 3)) := ok_callV (mX12_end kn) (good_ws ws_good (fun _ h => h) kw1051) hD (by decide) hl kw1052 kw1053 kw686 ⟨by decide +kernel, by decide +kernel, by decide +kernel⟩ rfl hd
theorem okc_X11_bridge {kn : sKn} {cc : ByteArray} {own : String} {nL : Nat} {D : Nat} {ret : Option FieldType} {ini : Bool} {pc index : Nat} (hD : 5 + 1 ≤ D) (hl : Cond.methodLink own index yX11_bridge ∈ wsL_law) (hd : decode cc pc = .ok (.invokevirtual index, 3)) : mOk kn cc own nL wsL_law D ret ini pc (a_callV false (fX11_bridge kn) 12 (0 + 1) (pc + 3)) := ok_callV (mX11_bridge kn) (good_ws ws_good (fun _ h => h) kw1055) hD (by decide) hl kw1056 kw1057 kw119 ⟨by decide +kernel, by decide +kernel, by decide +kernel⟩ rfl hd
theorem okc_X12_bridge {kn : sKn} {cc : ByteArray} {own : String} {nL : Nat} {D : Nat} {ret : Option FieldType} {ini : Bool} {pc index : Nat} (hD : 3 + 1 ≤ D) (hl : Cond.methodLink own index yX12_bridge ∈ wsL_law) (hd : decode cc pc = .ok (.invokevirtual index, 3)) : mOk kn cc own nL wsL_law D ret ini pc (a_callV false (fX12_bridge kn) 13 (0 + 1) (pc + 3)) := ok_callV (mX12_bridge kn) (good_ws ws_good (fun _ h => h) kw1059) hD (by decide) hl kw1060 kw1061 kw686 ⟨by decide +kernel, by decide +kernel, by decide +kernel⟩ rfl hd
theorem okc_X11_fault {kn : sKn} {cc : ByteArray} {own : String} {nL : Nat} {D : Nat} {ret : Option FieldType} {ini : Bool} {pc index : Nat} (hD : 1 + 1 ≤ D) (hl : Cond.methodLink own index yX11_fault ∈ wsL_law) (hd : decode cc pc = .ok (.invokevirtual index, 3)) : mOk kn cc own nL wsL_law D ret ini pc (a_callV false (fX11_fault kn) 12 (0 + 1) (pc + 3)) := ok_callV (mX11_fault kn) (good_ws ws_good (fun _ h => h) kw1063) hD (by decide) hl kw1064 kw1065 kw119 ⟨by decide +kernel, by decide +kernel, by decide +kernel⟩ rfl hd
theorem okc_X12_fault {kn : sKn} {cc : ByteArray} {own : String} {nL : Nat} {D : Nat} {ret : Option FieldType} {ini : Bool} {pc index : Nat} (hD : 1 + 1 ≤ D) (hl : Cond.methodLink own index yX12_fault ∈ wsL_law) (hd : decode cc pc = .ok (.invokevirtual index, 3)) : mOk kn cc own nL wsL_law D ret ini pc (a_callV false (fX12_fault kn) 13 (0 + 1) (pc + 3)) := ok_callV (mX12_fault kn) (good_ws ws_good (fun _ h => h) kw1067) hD (by decide) hl kw1068 kw1069 kw686 ⟨by decide +kernel, by decide +kernel, by decide +kernel⟩ rfl hd
theorem okc_X12_signer {kn : sKn} {cc : ByteArray} {own : String} {nL : Nat} {D : Nat} {ret : Option FieldType} {ini : Bool} {pc index : Nat} (hD : 3 + 1 ≤ D) (hl : Cond.methodLink own index yX12_signer ∈ wsL_law) (hd : decode cc pc = .ok (.invokevirtual index, 3)) : mOk kn cc own nL wsL_law D ret ini pc (a_callV false (fX12_signer kn) 13 (2 + 1) (pc + 3)) := ok_callV (mX12_signer kn) (good_ws ws_good (fun _ h => h) kw1075) hD (by decide) hl kw1076 kw1077 kw686 ⟨by decide +kernel, by decide +kernel, by decide +kernel⟩ rfl hd
theorem okc0_X12_thrown {kn : sKn} {cc : ByteArray} {own : String} {nL : Nat} {D : Nat} {ret : Option FieldType} {ini : Bool} {pc index : Nat} (hD : 0 + 1 ≤ D) (hl : Cond.methodLink own index yX12_thrown ∈ wsL_law) (hd : decode cc pc = .ok (.invokevirtual index, 3)) : mOk kn cc own nL wsL_law D ret ini pc (a_callV false f_none 13 (0 + 1) (pc + 3)) := ok_callV (m_none (D := 0)) (good_ws ws_good (fun _ h => h) kw1079) hD (by decide) hl kw1080 kw1081 kw686 ⟨by decide +kernel, by decide +kernel, by decide +kernel⟩ rfl hd
theorem okc_X12_plank {kn : sKn} {cc : ByteArray} {own : String} {nL : Nat} {D : Nat} {ret : Option FieldType} {ini : Bool} {pc index : Nat} (hD : 4 + 1 ≤ D) (hl : Cond.methodLink own index yX12_plank ∈ wsL_law) (hd : decode cc pc = .ok (.invokevirtual index, 3)) : mOk kn cc own nL wsL_law D ret ini pc (a_callV false (fX12_plank kn) 13 (3 + 1) (pc + 3)) := ok_callV (mX12_plank kn) (good_ws ws_good (fun _ h => h) kw1086) hD (by decide) hl kw1087 kw1088 kw686 ⟨by decide +kernel, by decide +kernel, by decide +kernel⟩ rfl hd
theorem okc_X12_load {kn : sKn} {cc : ByteArray} {own : String} {nL : Nat} {D : Nat} {ret : Option FieldType} {ini : Bool} {pc index : Nat} (hD : 3 + 1 ≤ D) (hl : Cond.methodLink own index yX12_load ∈ wsL_law) (hd : decode cc pc = .ok (.invokevirtual index, 3)) : mOk kn cc own nL wsL_law D ret ini pc (a_callV false (fX12_load kn) 13 (2 + 1) (pc + 3)) := ok_callV (mX12_load kn) (good_ws ws_good (fun _ h => h) kw1093) hD (by decide) hl kw1094 kw1095 kw686 ⟨by decide +kernel, by decide +kernel, by decide +kernel⟩ rfl hd
theorem okc_X11_now {kn : sKn} {cc : ByteArray} {own : String} {nL : Nat} {D : Nat} {ret : Option FieldType} {ini : Bool} {pc index : Nat} (hD : 4 + 1 ≤ D) (hl : Cond.methodLink own index yX11_now ∈ wsL_law) (hd : decode cc pc = .ok (.invokevirtual index, 3)) : mOk kn cc own nL wsL_law D ret ini pc (a_callV false (fX11_now kn) 12 (1 + 1) (pc + 3)) := ok_callV (mX11_now kn) (good_ws ws_good (fun _ h => h) kw1097) hD (by decide) hl kw1098 kw1099 kw119 ⟨by decide +kernel, by decide +kernel, by decide +kernel⟩ rfl hd
theorem okc_X12_now {kn : sKn} {cc : ByteArray} {own : String} {nL : Nat} {D : Nat} {ret : Option FieldType} {ini : Bool} {pc index : Nat} (hD : 2 + 1 ≤ D) (hl : Cond.methodLink own index yX12_now ∈ wsL_law) (hd : decode cc pc = .ok (.invokevirtual index, 3)) : mOk kn cc own nL wsL_law D ret ini pc (a_callV false (fX12_now kn) 13 (1 + 1) (pc + 3)) := ok_callV (mX12_now kn) (good_ws ws_good (fun _ h => h) kw1101) hD (by decide) hl kw1102 kw1103 kw686 ⟨by decide +kernel, by decide +kernel, by decide +kernel⟩ rfl hd
theorem okc_X11_sign {kn : sKn} {cc : ByteArray} {own : String} {nL : Nat} {D : Nat} {ret : Option FieldType} {ini : Bool} {pc index : Nat} (hD : 3 + 1 ≤ D) (hl : Cond.methodLink own index yX11_sign ∈ wsL_law) (hd : decode cc pc = .ok (.invokevirtual index, 3)) : mOk kn cc own nL wsL_law D ret ini pc (a_callV false (fX11_sign kn) 12 (3 + 1) (pc + 3)) := ok_callV (mX11_sign kn) (good_ws ws_good (fun _ h => h) kw1105) hD (by decide) hl kw1106 kw1107 kw119 ⟨by decide +kernel, by decide +kernel, by decide +kernel⟩ rfl hd
theorem okc_X12_sign {kn : sKn} {cc : ByteArray} {own : String} {nL : Nat} {D : Nat} {ret : Option FieldType} {ini : Bool} {pc index : Nat} (hD : 4 + 1 ≤ D) (hl : Cond.methodLink own index yX12_sign ∈ wsL_law) (hd : decode cc pc = .ok (.invokevirtual index, 3)) : mOk kn cc own nL wsL_law D ret ini pc (a_callV false (fX12_sign kn) 13 (3 + 1) (pc + 3)) := ok_callV (mX12_sign kn) (good_ws ws_good (fun _ h => h) kw1109) hD (by decide) hl kw1110 kw1111 kw686 ⟨by decide +kernel, by decide +kernel, by decide +kernel⟩ rfl hd
theorem okc_X11_burn {kn : sKn} {cc : ByteArray} {own : String} {nL : Nat} {D : Nat} {ret : Option FieldType} {ini : Bool} {pc index : Nat} (hD : 3 + 1 ≤ D) (hl : Cond.methodLink own index yX11_burn ∈ wsL_law) (hd : decode cc pc = .ok (.invokevirtual index, 3)) : mOk kn cc own nL wsL_law D ret ini pc (a_callV false (fX11_burn kn) 12 (2 + 1) (pc + 3)) := ok_callV (mX11_burn kn) (good_ws ws_good (fun _ h => h) kw1113) hD (by decide) hl kw1114 kw1115 kw119 ⟨by decide +kernel, by decide +kernel, by decide +kernel⟩ rfl hd
theorem okc_X12_burn {kn : sKn} {cc : ByteArray} {own : String} {nL : Nat} {D : Nat} {ret : Option FieldType} {ini : Bool} {pc index : Nat} (hD : 4 + 1 ≤ D) (hl : Cond.methodLink own index yX12_burn ∈ wsL_law) (hd : decode cc pc = .ok (.invokevirtual index, 3)) : mOk kn cc own nL wsL_law D ret ini pc (a_callV false (fX12_burn kn) 13 (2 + 1) (pc + 3)) := ok_callV (mX12_burn kn) (good_ws ws_good (fun _ h => h) kw1117) hD (by decide) hl kw1118 kw1119 kw686 ⟨by decide +kernel, by decide +kernel, by decide +kernel⟩ rfl hd
theorem okc_X11_breaks {kn : sKn} {cc : ByteArray} {own : String} {nL : Nat} {D : Nat} {ret : Option FieldType} {ini : Bool} {pc index : Nat} (hD : 3 + 1 ≤ D) (hl : Cond.methodLink own index yX11_breaks ∈ wsL_law) (hd : decode cc pc = .ok (.invokevirtual index, 3)) : mOk kn cc own nL wsL_law D ret ini pc (a_callV false (fX11_breaks kn) 12 (1 + 1) (pc + 3)) := ok_callV (mX11_breaks kn) (good_ws ws_good (fun _ h => h) kw1121) hD (by decide) hl kw1122 kw1123 kw119 ⟨by decide +kernel, by decide +kernel, by decide +kernel⟩ rfl hd
theorem okc_X12_breaks {kn : sKn} {cc : ByteArray} {own : String} {nL : Nat} {D : Nat} {ret : Option FieldType} {ini : Bool} {pc index : Nat} (hD : 3 + 1 ≤ D) (hl : Cond.methodLink own index yX12_breaks ∈ wsL_law) (hd : decode cc pc = .ok (.invokevirtual index, 3)) : mOk kn cc own nL wsL_law D ret ini pc (a_callV false (fX12_breaks kn) 13 (1 + 1) (pc + 3)) := ok_callV (mX12_breaks kn) (good_ws ws_good (fun _ h => h) kw1125) hD (by decide) hl kw1126 kw1127 kw686 ⟨by decide +kernel, by decide +kernel, by decide +kernel⟩ rfl hd
theorem okc_X11_holds {kn : sKn} {cc : ByteArray} {own : String} {nL : Nat} {D : Nat} {ret : Option FieldType} {ini : Bool} {pc index : Nat} (hD : 3 + 1 ≤ D) (hl : Cond.methodLink own index yX11_holds ∈ wsL_law) (hd : decode cc pc = .ok (.invokevirtual index, 3)) : mOk kn cc own nL wsL_law D ret ini pc (a_callV false (fX11_holds kn) 12 (1 + 1) (pc + 3)) := ok_callV (mX11_holds kn) (good_ws ws_good (fun _ h => h) kw1129) hD (by decide) hl kw1130 kw1131 kw119 ⟨by decide +kernel, by decide +kernel, by decide +kernel⟩ rfl hd
theorem okc_X12_holds {kn : sKn} {cc : ByteArray} {own : String} {nL : Nat} {D : Nat} {ret : Option FieldType} {ini : Bool} {pc index : Nat} (hD : 3 + 1 ≤ D) (hl : Cond.methodLink own index yX12_holds ∈ wsL_law) (hd : decode cc pc = .ok (.invokevirtual index, 3)) : mOk kn cc own nL wsL_law D ret ini pc (a_callV false (fX12_holds kn) 13 (1 + 1) (pc + 3)) := ok_callV (mX12_holds kn) (good_ws ws_good (fun _ h => h) kw1133) hD (by decide) hl kw1134 kw1135 kw686 ⟨by decide +kernel, by decide +kernel, by decide +kernel⟩ rfl hd
theorem okc_X11_die {kn : sKn} {cc : ByteArray} {own : String} {nL : Nat} {D : Nat} {ret : Option FieldType} {ini : Bool} {pc index : Nat} (hD : 3 + 1 ≤ D) (hl : Cond.methodLink own index yX11_die ∈ wsL_law) (hd : decode cc pc = .ok (.invokevirtual index, 3)) : mOk kn cc own nL wsL_law D ret ini pc (a_callV false (fX11_die kn) 12 (1 + 1) (pc + 3)) := ok_callV (mX11_die kn) (good_ws ws_good (fun _ h => h) kw1137) hD (by decide) hl kw1138 kw1139 kw119 ⟨by decide +kernel, by decide +kernel, by decide +kernel⟩ rfl hd
theorem okc_X12_die {kn : sKn} {cc : ByteArray} {own : String} {nL : Nat} {D : Nat} {ret : Option FieldType} {ini : Bool} {pc index : Nat} (hD : 3 + 1 ≤ D) (hl : Cond.methodLink own index yX12_die ∈ wsL_law) (hd : decode cc pc = .ok (.invokevirtual index, 3)) : mOk kn cc own nL wsL_law D ret ini pc (a_callV false (fX12_die kn) 13 (1 + 1) (pc + 3)) := ok_callV (mX12_die kn) (good_ws ws_good (fun _ h => h) kw1141) hD (by decide) hl kw1142 kw1143 kw686 ⟨by decide +kernel, by decide +kernel, by decide +kernel⟩ rfl hd
theorem okc_X11_cross {kn : sKn} {cc : ByteArray} {own : String} {nL : Nat} {D : Nat} {ret : Option FieldType} {ini : Bool} {pc index : Nat} (hD : 3 + 1 ≤ D) (hl : Cond.methodLink own index yX11_cross ∈ wsL_law) (hd : decode cc pc = .ok (.invokevirtual index, 3)) : mOk kn cc own nL wsL_law D ret ini pc (a_callV false (fX11_cross kn) 12 (1 + 1) (pc + 3)) := ok_callV (mX11_cross kn) (good_ws ws_good (fun _ h => h) kw1145) hD (by decide) hl kw1146 kw1147 kw119 ⟨by decide +kernel, by decide +kernel, by decide +kernel⟩ rfl hd
theorem okc_X12_cross {kn : sKn} {cc : ByteArray} {own : String} {nL : Nat} {D : Nat} {ret : Option FieldType} {ini : Bool} {pc index : Nat} (hD : 3 + 1 ≤ D) (hl : Cond.methodLink own index yX12_cross ∈ wsL_law) (hd : decode cc pc = .ok (.invokevirtual index, 3)) : mOk kn cc own nL wsL_law D ret ini pc (a_callV false (fX12_cross kn) 13 (1 + 1) (pc + 3)) := ok_callV (mX12_cross kn) (good_ws ws_good (fun _ h => h) kw1149) hD (by decide) hl kw1150 kw1151 kw686 ⟨by decide +kernel, by decide +kernel, by decide +kernel⟩ rfl hd
theorem okc_X11_days {kn : sKn} {cc : ByteArray} {own : String} {nL : Nat} {D : Nat} {ret : Option FieldType} {ini : Bool} {pc index : Nat} (hD : 3 + 1 ≤ D) (hl : Cond.methodLink own index yX11_days ∈ wsL_law) (hd : decode cc pc = .ok (.invokevirtual index, 3)) : mOk kn cc own nL wsL_law D ret ini pc (a_callV false (fX11_days kn) 12 (1 + 1) (pc + 3)) := ok_callV (mX11_days kn) (good_ws ws_good (fun _ h => h) kw1153) hD (by decide) hl kw1154 kw1155 kw119 ⟨by decide +kernel, by decide +kernel, by decide +kernel⟩ rfl hd
theorem okc_X12_days {kn : sKn} {cc : ByteArray} {own : String} {nL : Nat} {D : Nat} {ret : Option FieldType} {ini : Bool} {pc index : Nat} (hD : 3 + 1 ≤ D) (hl : Cond.methodLink own index yX12_days ∈ wsL_law) (hd : decode cc pc = .ok (.invokevirtual index, 3)) : mOk kn cc own nL wsL_law D ret ini pc (a_callV false (fX12_days kn) 13 (1 + 1) (pc + 3)) := ok_callV (mX12_days kn) (good_ws ws_good (fun _ h => h) kw1157) hD (by decide) hl kw1158 kw1159 kw686 ⟨by decide +kernel, by decide +kernel, by decide +kernel⟩ rfl hd
theorem okc_X11_undo {kn : sKn} {cc : ByteArray} {own : String} {nL : Nat} {D : Nat} {ret : Option FieldType} {ini : Bool} {pc index : Nat} (hD : 2 + 1 ≤ D) (hl : Cond.methodLink own index yX11_undo ∈ wsL_law) (hd : decode cc pc = .ok (.invokevirtual index, 3)) : mOk kn cc own nL wsL_law D ret ini pc (a_callV false (fX11_undo kn) 12 (0 + 1) (pc + 3)) := ok_callV (mX11_undo kn) (good_ws ws_good (fun _ h => h) kw1161) hD (by decide) hl kw1162 kw1163 kw119 ⟨by decide +kernel, by decide +kernel, by decide +kernel⟩ rfl hd
theorem okc_X12_undo {kn : sKn} {cc : ByteArray} {own : String} {nL : Nat} {D : Nat} {ret : Option FieldType} {ini : Bool} {pc index : Nat} (hD : 1 + 1 ≤ D) (hl : Cond.methodLink own index yX12_undo ∈ wsL_law) (hd : decode cc pc = .ok (.invokevirtual index, 3)) : mOk kn cc own nL wsL_law D ret ini pc (a_callV false (fX12_undo kn) 13 (0 + 1) (pc + 3)) := ok_callV (mX12_undo kn) (good_ws ws_good (fun _ h => h) kw1165) hD (by decide) hl kw1166 kw1167 kw686 ⟨by decide +kernel, by decide +kernel, by decide +kernel⟩ rfl hd
theorem okc_X11_spare {kn : sKn} {cc : ByteArray} {own : String} {nL : Nat} {D : Nat} {ret : Option FieldType} {ini : Bool} {pc index : Nat} (hD : 2 + 1 ≤ D) (hl : Cond.methodLink own index yX11_spare ∈ wsL_law) (hd : decode cc pc = .ok (.invokevirtual index, 3)) : mOk kn cc own nL wsL_law D ret ini pc (a_callV false (fX11_spare kn) 12 (1 + 1) (pc + 3)) := ok_callV (mX11_spare kn) (good_ws ws_good (fun _ h => h) kw1169) hD (by decide) hl kw1170 kw1171 kw119 ⟨by decide +kernel, by decide +kernel, by decide +kernel⟩ rfl hd
theorem okc_X12_spare {kn : sKn} {cc : ByteArray} {own : String} {nL : Nat} {D : Nat} {ret : Option FieldType} {ini : Bool} {pc index : Nat} (hD : 3 + 1 ≤ D) (hl : Cond.methodLink own index yX12_spare ∈ wsL_law) (hd : decode cc pc = .ok (.invokevirtual index, 3)) : mOk kn cc own nL wsL_law D ret ini pc (a_callV false (fX12_spare kn) 13 (1 + 1) (pc + 3)) := ok_callV (mX12_spare kn) (good_ws ws_good (fun _ h => h) kw1173) hD (by decide) hl kw1174 kw1175 kw686 ⟨by decide +kernel, by decide +kernel, by decide +kernel⟩ rfl hd
theorem okc_X11_path {kn : sKn} {cc : ByteArray} {own : String} {nL : Nat} {D : Nat} {ret : Option FieldType} {ini : Bool} {pc index : Nat} (hD : 2 + 1 ≤ D) (hl : Cond.methodLink own index yX11_path ∈ wsL_law) (hd : decode cc pc = .ok (.invokevirtual index, 3)) : mOk kn cc own nL wsL_law D ret ini pc (a_callV false (fX11_path kn) 12 (2 + 1) (pc + 3)) := ok_callV (mX11_path kn) (good_ws ws_good (fun _ h => h) kw1177) hD (by decide) hl kw1178 kw1179 kw119 ⟨by decide +kernel, by decide +kernel, by decide +kernel⟩ rfl hd
theorem okc_X12_path {kn : sKn} {cc : ByteArray} {own : String} {nL : Nat} {D : Nat} {ret : Option FieldType} {ini : Bool} {pc index : Nat} (hD : 3 + 1 ≤ D) (hl : Cond.methodLink own index yX12_path ∈ wsL_law) (hd : decode cc pc = .ok (.invokevirtual index, 3)) : mOk kn cc own nL wsL_law D ret ini pc (a_callV false (fX12_path kn) 13 (2 + 1) (pc + 3)) := ok_callV (mX12_path kn) (good_ws ws_good (fun _ h => h) kw1181) hD (by decide) hl kw1182 kw1183 kw686 ⟨by decide +kernel, by decide +kernel, by decide +kernel⟩ rfl hd
theorem okc_X11_limit {kn : sKn} {cc : ByteArray} {own : String} {nL : Nat} {D : Nat} {ret : Option FieldType} {ini : Bool} {pc index : Nat} (hD : 4 + 1 ≤ D) (hl : Cond.methodLink own index yX11_limit ∈ wsL_law) (hd : decode cc pc = .ok (.invokevirtual index, 3)) : mOk kn cc own nL wsL_law D ret ini pc (a_callV false (fX11_limit kn) 12 (1 + 1) (pc + 3)) := ok_callV (mX11_limit kn) (good_ws ws_good (fun _ h => h) kw1185) hD (by decide) hl kw1186 kw1187 kw119 ⟨by decide +kernel, by decide +kernel, by decide +kernel⟩ rfl hd
theorem okc_X12_limit {kn : sKn} {cc : ByteArray} {own : String} {nL : Nat} {D : Nat} {ret : Option FieldType} {ini : Bool} {pc index : Nat} (hD : 3 + 1 ≤ D) (hl : Cond.methodLink own index yX12_limit ∈ wsL_law) (hd : decode cc pc = .ok (.invokevirtual index, 3)) : mOk kn cc own nL wsL_law D ret ini pc (a_callV false (fX12_limit kn) 13 (1 + 1) (pc + 3)) := ok_callV (mX12_limit kn) (good_ws ws_good (fun _ h => h) kw1189) hD (by decide) hl kw1190 kw1191 kw686 ⟨by decide +kernel, by decide +kernel, by decide +kernel⟩ rfl hd
theorem okc_X11_asks {kn : sKn} {cc : ByteArray} {own : String} {nL : Nat} {D : Nat} {ret : Option FieldType} {ini : Bool} {pc index : Nat} (hD : 2 + 1 ≤ D) (hl : Cond.methodLink own index yX11_asks ∈ wsL_law) (hd : decode cc pc = .ok (.invokevirtual index, 3)) : mOk kn cc own nL wsL_law D ret ini pc (a_callV false (fX11_asks kn) 12 (1 + 1) (pc + 3)) := ok_callV (mX11_asks kn) (good_ws ws_good (fun _ h => h) kw1193) hD (by decide) hl kw1194 kw1195 kw119 ⟨by decide +kernel, by decide +kernel, by decide +kernel⟩ rfl hd
theorem okc_X12_asks {kn : sKn} {cc : ByteArray} {own : String} {nL : Nat} {D : Nat} {ret : Option FieldType} {ini : Bool} {pc index : Nat} (hD : 3 + 1 ≤ D) (hl : Cond.methodLink own index yX12_asks ∈ wsL_law) (hd : decode cc pc = .ok (.invokevirtual index, 3)) : mOk kn cc own nL wsL_law D ret ini pc (a_callV false (fX12_asks kn) 13 (1 + 1) (pc + 3)) := ok_callV (mX12_asks kn) (good_ws ws_good (fun _ h => h) kw1197) hD (by decide) hl kw1198 kw1199 kw686 ⟨by decide +kernel, by decide +kernel, by decide +kernel⟩ rfl hd
theorem okc_X11_asked {kn : sKn} {cc : ByteArray} {own : String} {nL : Nat} {D : Nat} {ret : Option FieldType} {ini : Bool} {pc index : Nat} (hD : 3 + 1 ≤ D) (hl : Cond.methodLink own index yX11_asked ∈ wsL_law) (hd : decode cc pc = .ok (.invokevirtual index, 3)) : mOk kn cc own nL wsL_law D ret ini pc (a_callV false (fX11_asked kn) 12 (2 + 1) (pc + 3)) := ok_callV (mX11_asked kn) (good_ws ws_good (fun _ h => h) kw1201) hD (by decide) hl kw1202 kw1203 kw119 ⟨by decide +kernel, by decide +kernel, by decide +kernel⟩ rfl hd
theorem okc_X12_asked {kn : sKn} {cc : ByteArray} {own : String} {nL : Nat} {D : Nat} {ret : Option FieldType} {ini : Bool} {pc index : Nat} (hD : 2 + 1 ≤ D) (hl : Cond.methodLink own index yX12_asked ∈ wsL_law) (hd : decode cc pc = .ok (.invokevirtual index, 3)) : mOk kn cc own nL wsL_law D ret ini pc (a_callV false (fX12_asked kn) 13 (2 + 1) (pc + 3)) := ok_callV (mX12_asked kn) (good_ws ws_good (fun _ h => h) kw1205) hD (by decide) hl kw1206 kw1207 kw686 ⟨by decide +kernel, by decide +kernel, by decide +kernel⟩ rfl hd
theorem okc_X11_keystone {kn : sKn} {cc : ByteArray} {own : String} {nL : Nat} {D : Nat} {ret : Option FieldType} {ini : Bool} {pc index : Nat} (hD : 5 + 1 ≤ D) (hl : Cond.methodLink own index yX11_keystone ∈ wsL_law) (hd : decode cc pc = .ok (.invokevirtual index, 3)) : mOk kn cc own nL wsL_law D ret ini pc (a_callV false (fX11_keystone kn) 12 (0 + 1) (pc + 3)) := ok_callV (mX11_keystone kn) (good_ws ws_good (fun _ h => h) kw1209) hD (by decide) hl kw1210 kw1211 kw119 ⟨by decide +kernel, by decide +kernel, by decide +kernel⟩ rfl hd
theorem okc_X12_keystone {kn : sKn} {cc : ByteArray} {own : String} {nL : Nat} {D : Nat} {ret : Option FieldType} {ini : Bool} {pc index : Nat} (hD : 2 + 1 ≤ D) (hl : Cond.methodLink own index yX12_keystone ∈ wsL_law) (hd : decode cc pc = .ok (.invokevirtual index, 3)) : mOk kn cc own nL wsL_law D ret ini pc (a_callV false (fX12_keystone kn) 13 (0 + 1) (pc + 3)) := ok_callV (mX12_keystone kn) (good_ws ws_good (fun _ h => h) kw1213) hD (by decide) hl kw1214 kw1215 kw686 ⟨by decide +kernel, by decide +kernel, by decide +kernel⟩ rfl hd
theorem okc_X11_able {kn : sKn} {cc : ByteArray} {own : String} {nL : Nat} {D : Nat} {ret : Option FieldType} {ini : Bool} {pc index : Nat} (hD : 4 + 1 ≤ D) (hl : Cond.methodLink own index yX11_able ∈ wsL_law) (hd : decode cc pc = .ok (.invokevirtual index, 3)) : mOk kn cc own nL wsL_law D ret ini pc (a_callV false (fX11_able kn) 12 (0 + 1) (pc + 3)) := ok_callV (mX11_able kn) (good_ws ws_good (fun _ h => h) kw1217) hD (by decide) hl kw1218 kw1219 kw119 ⟨by decide +kernel, by decide +kernel, by decide +kernel⟩ rfl hd
theorem okc_X12_able {kn : sKn} {cc : ByteArray} {own : String} {nL : Nat} {D : Nat} {ret : Option FieldType} {ini : Bool} {pc index : Nat} (hD : 2 + 1 ≤ D) (hl : Cond.methodLink own index yX12_able ∈ wsL_law) (hd : decode cc pc = .ok (.invokevirtual index, 3)) : mOk kn cc own nL wsL_law D ret ini pc (a_callV false (fX12_able kn) 13 (0 + 1) (pc + 3)) := ok_callV (mX12_able kn) (good_ws ws_good (fun _ h => h) kw1221) hD (by decide) hl kw1222 kw1223 kw686 ⟨by decide +kernel, by decide +kernel, by decide +kernel⟩ rfl hd
theorem okc_X11_cut {kn : sKn} {cc : ByteArray} {own : String} {nL : Nat} {D : Nat} {ret : Option FieldType} {ini : Bool} {pc index : Nat} (hD : 2 + 1 ≤ D) (hl : Cond.methodLink own index yX11_cut ∈ wsL_law) (hd : decode cc pc = .ok (.invokevirtual index, 3)) : mOk kn cc own nL wsL_law D ret ini pc (a_callV false (fX11_cut kn) 12 (1 + 1) (pc + 3)) := ok_callV (mX11_cut kn) (good_ws ws_good (fun _ h => h) kw1225) hD (by decide) hl kw1226 kw1227 kw119 ⟨by decide +kernel, by decide +kernel, by decide +kernel⟩ rfl hd
theorem okc_X12_cut {kn : sKn} {cc : ByteArray} {own : String} {nL : Nat} {D : Nat} {ret : Option FieldType} {ini : Bool} {pc index : Nat} (hD : 3 + 1 ≤ D) (hl : Cond.methodLink own index yX12_cut ∈ wsL_law) (hd : decode cc pc = .ok (.invokevirtual index, 3)) : mOk kn cc own nL wsL_law D ret ini pc (a_callV false (fX12_cut kn) 13 (1 + 1) (pc + 3)) := ok_callV (mX12_cut kn) (good_ws ws_good (fun _ h => h) kw1229) hD (by decide) hl kw1230 kw1231 kw686 ⟨by decide +kernel, by decide +kernel, by decide +kernel⟩ rfl hd
theorem okc_X11_cutAt {kn : sKn} {cc : ByteArray} {own : String} {nL : Nat} {D : Nat} {ret : Option FieldType} {ini : Bool} {pc index : Nat} (hD : 1 + 1 ≤ D) (hl : Cond.methodLink own index yX11_cutAt ∈ wsL_law) (hd : decode cc pc = .ok (.invokevirtual index, 3)) : mOk kn cc own nL wsL_law D ret ini pc (a_callV false (fX11_cutAt kn) 12 (1 + 1) (pc + 3)) := ok_callV (mX11_cutAt kn) (good_ws ws_good (fun _ h => h) kw1233) hD (by decide) hl kw1234 kw1235 kw119 ⟨by decide +kernel, by decide +kernel, by decide +kernel⟩ rfl hd
theorem okc_X12_cutAt {kn : sKn} {cc : ByteArray} {own : String} {nL : Nat} {D : Nat} {ret : Option FieldType} {ini : Bool} {pc index : Nat} (hD : 2 + 1 ≤ D) (hl : Cond.methodLink own index yX12_cutAt ∈ wsL_law) (hd : decode cc pc = .ok (.invokevirtual index, 3)) : mOk kn cc own nL wsL_law D ret ini pc (a_callV false (fX12_cutAt kn) 13 (1 + 1) (pc + 3)) := ok_callV (mX12_cutAt kn) (good_ws ws_good (fun _ h => h) kw1237) hD (by decide) hl kw1238 kw1239 kw686 ⟨by decide +kernel, by decide +kernel, by decide +kernel⟩ rfl hd
theorem okc_X11_order {kn : sKn} {cc : ByteArray} {own : String} {nL : Nat} {D : Nat} {ret : Option FieldType} {ini : Bool} {pc index : Nat} (hD : 5 + 1 ≤ D) (hl : Cond.methodLink own index yX11_order ∈ wsL_law) (hd : decode cc pc = .ok (.invokevirtual index, 3)) : mOk kn cc own nL wsL_law D ret ini pc (a_callV false (fX11_order kn) 12 (0 + 1) (pc + 3)) := ok_callV (mX11_order kn) (good_ws ws_good (fun _ h => h) kw1241) hD (by decide) hl kw1242 kw1243 kw119 ⟨by decide +kernel, by decide +kernel, by decide +kernel⟩ rfl hd
theorem okc_X12_order {kn : sKn} {cc : ByteArray} {own : String} {nL : Nat} {D : Nat} {ret : Option FieldType} {ini : Bool} {pc index : Nat} (hD : 2 + 1 ≤ D) (hl : Cond.methodLink own index yX12_order ∈ wsL_law) (hd : decode cc pc = .ok (.invokevirtual index, 3)) : mOk kn cc own nL wsL_law D ret ini pc (a_callV false (fX12_order kn) 13 (0 + 1) (pc + 3)) := ok_callV (mX12_order kn) (good_ws ws_good (fun _ h => h) kw1245) hD (by decide) hl kw1246 kw1247 kw686 ⟨by decide +kernel, by decide +kernel, by decide +kernel⟩ rfl hd
theorem okc_X11_orderAt {kn : sKn} {cc : ByteArray} {own : String} {nL : Nat} {D : Nat} {ret : Option FieldType} {ini : Bool} {pc index : Nat} (hD : 1 + 1 ≤ D) (hl : Cond.methodLink own index yX11_orderAt ∈ wsL_law) (hd : decode cc pc = .ok (.invokevirtual index, 3)) : mOk kn cc own nL wsL_law D ret ini pc (a_callV false (fX11_orderAt kn) 12 (1 + 1) (pc + 3)) := ok_callV (mX11_orderAt kn) (good_ws ws_good (fun _ h => h) kw1249) hD (by decide) hl kw1250 kw1251 kw119 ⟨by decide +kernel, by decide +kernel, by decide +kernel⟩ rfl hd
theorem okc_X12_orderAt {kn : sKn} {cc : ByteArray} {own : String} {nL : Nat} {D : Nat} {ret : Option FieldType} {ini : Bool} {pc index : Nat} (hD : 2 + 1 ≤ D) (hl : Cond.methodLink own index yX12_orderAt ∈ wsL_law) (hd : decode cc pc = .ok (.invokevirtual index, 3)) : mOk kn cc own nL wsL_law D ret ini pc (a_callV false (fX12_orderAt kn) 13 (1 + 1) (pc + 3)) := ok_callV (mX12_orderAt kn) (good_ws ws_good (fun _ h => h) kw1253) hD (by decide) hl kw1254 kw1255 kw686 ⟨by decide +kernel, by decide +kernel, by decide +kernel⟩ rfl hd
theorem okc_X11_forgers {kn : sKn} {cc : ByteArray} {own : String} {nL : Nat} {D : Nat} {ret : Option FieldType} {ini : Bool} {pc index : Nat} (hD : 3 + 1 ≤ D) (hl : Cond.methodLink own index yX11_forgers ∈ wsL_law) (hd : decode cc pc = .ok (.invokevirtual index, 3)) : mOk kn cc own nL wsL_law D ret ini pc (a_callV false (fX11_forgers kn) 12 (0 + 1) (pc + 3)) := ok_callV (mX11_forgers kn) (good_ws ws_good (fun _ h => h) kw1257) hD (by decide) hl kw1258 kw1259 kw119 ⟨by decide +kernel, by decide +kernel, by decide +kernel⟩ rfl hd
theorem okc_X12_forgers {kn : sKn} {cc : ByteArray} {own : String} {nL : Nat} {D : Nat} {ret : Option FieldType} {ini : Bool} {pc index : Nat} (hD : 3 + 1 ≤ D) (hl : Cond.methodLink own index yX12_forgers ∈ wsL_law) (hd : decode cc pc = .ok (.invokevirtual index, 3)) : mOk kn cc own nL wsL_law D ret ini pc (a_callV false (fX12_forgers kn) 13 (0 + 1) (pc + 3)) := ok_callV (mX12_forgers kn) (good_ws ws_good (fun _ h => h) kw1261) hD (by decide) hl kw1262 kw1263 kw686 ⟨by decide +kernel, by decide +kernel, by decide +kernel⟩ rfl hd
theorem okc_X11_surely {kn : sKn} {cc : ByteArray} {own : String} {nL : Nat} {D : Nat} {ret : Option FieldType} {ini : Bool} {pc index : Nat} (hD : 1 + 1 ≤ D) (hl : Cond.methodLink own index yX11_surely ∈ wsL_law) (hd : decode cc pc = .ok (.invokevirtual index, 3)) : mOk kn cc own nL wsL_law D ret ini pc (a_callV false (fX11_surely kn) 12 (0 + 1) (pc + 3)) := ok_callV (mX11_surely kn) (good_ws ws_good (fun _ h => h) kw1265) hD (by decide) hl kw1266 kw1267 kw119 ⟨by decide +kernel, by decide +kernel, by decide +kernel⟩ rfl hd
theorem okc_X12_surely {kn : sKn} {cc : ByteArray} {own : String} {nL : Nat} {D : Nat} {ret : Option FieldType} {ini : Bool} {pc index : Nat} (hD : 1 + 1 ≤ D) (hl : Cond.methodLink own index yX12_surely ∈ wsL_law) (hd : decode cc pc = .ok (.invokevirtual index, 3)) : mOk kn cc own nL wsL_law D ret ini pc (a_callV false (fX12_surely kn) 13 (0 + 1) (pc + 3)) := ok_callV (mX12_surely kn) (good_ws ws_good (fun _ h => h) kw1269) hD (by decide) hl kw1270 kw1271 kw686 ⟨by decide +kernel, by decide +kernel, by decide +kernel⟩ rfl hd
theorem okc_X11_tells {kn : sKn} {cc : ByteArray} {own : String} {nL : Nat} {D : Nat} {ret : Option FieldType} {ini : Bool} {pc index : Nat} (hD : 1 + 1 ≤ D) (hl : Cond.methodLink own index yX11_tells ∈ wsL_law) (hd : decode cc pc = .ok (.invokevirtual index, 3)) : mOk kn cc own nL wsL_law D ret ini pc (a_callV false (fX11_tells kn) 12 (0 + 1) (pc + 3)) := ok_callV (mX11_tells kn) (good_ws ws_good (fun _ h => h) kw1273) hD (by decide) hl kw1274 kw1275 kw119 ⟨by decide +kernel, by decide +kernel, by decide +kernel⟩ rfl hd
theorem okc_X12_tells {kn : sKn} {cc : ByteArray} {own : String} {nL : Nat} {D : Nat} {ret : Option FieldType} {ini : Bool} {pc index : Nat} (hD : 1 + 1 ≤ D) (hl : Cond.methodLink own index yX12_tells ∈ wsL_law) (hd : decode cc pc = .ok (.invokevirtual index, 3)) : mOk kn cc own nL wsL_law D ret ini pc (a_callV false (fX12_tells kn) 13 (0 + 1) (pc + 3)) := ok_callV (mX12_tells kn) (good_ws ws_good (fun _ h => h) kw1277) hD (by decide) hl kw1278 kw1279 kw686 ⟨by decide +kernel, by decide +kernel, by decide +kernel⟩ rfl hd
theorem okc_X11_law {kn : sKn} {cc : ByteArray} {own : String} {nL : Nat} {D : Nat} {ret : Option FieldType} {ini : Bool} {pc index : Nat} (hD : 2 + 1 ≤ D) (hl : Cond.methodLink own index yX11_law ∈ wsL_law) (hd : decode cc pc = .ok (.invokevirtual index, 3)) : mOk kn cc own nL wsL_law D ret ini pc (a_callV false (fX11_law kn) 12 (2 + 1) (pc + 3)) := ok_callV (mX11_law kn) (good_ws ws_good (fun _ h => h) kw1281) hD (by decide) hl kw1282 kw1283 kw119 ⟨by decide +kernel, by decide +kernel, by decide +kernel⟩ rfl hd
theorem okc_X12_law {kn : sKn} {cc : ByteArray} {own : String} {nL : Nat} {D : Nat} {ret : Option FieldType} {ini : Bool} {pc index : Nat} (hD : 3 + 1 ≤ D) (hl : Cond.methodLink own index yX12_law ∈ wsL_law) (hd : decode cc pc = .ok (.invokevirtual index, 3)) : mOk kn cc own nL wsL_law D ret ini pc (a_callV false (fX12_law kn) 13 (2 + 1) (pc + 3)) := ok_callV (mX12_law kn) (good_ws ws_good (fun _ h => h) kw1285) hD (by decide) hl kw1286 kw1287 kw686 ⟨by decide +kernel, by decide +kernel, by decide +kernel⟩ rfl hd
theorem okc_X11_lasts {kn : sKn} {cc : ByteArray} {own : String} {nL : Nat} {D : Nat} {ret : Option FieldType} {ini : Bool} {pc index : Nat} (hD : 2 + 1 ≤ D) (hl : Cond.methodLink own index yX11_lasts ∈ wsL_law) (hd : decode cc pc = .ok (.invokevirtual index, 3)) : mOk kn cc own nL wsL_law D ret ini pc (a_callV false (fX11_lasts kn) 12 (1 + 1) (pc + 3)) := ok_callV (mX11_lasts kn) (good_ws ws_good (fun _ h => h) kw1289) hD (by decide) hl kw1290 kw1291 kw119 ⟨by decide +kernel, by decide +kernel, by decide +kernel⟩ rfl hd
theorem okc_X12_lasts {kn : sKn} {cc : ByteArray} {own : String} {nL : Nat} {D : Nat} {ret : Option FieldType} {ini : Bool} {pc index : Nat} (hD : 3 + 1 ≤ D) (hl : Cond.methodLink own index yX12_lasts ∈ wsL_law) (hd : decode cc pc = .ok (.invokevirtual index, 3)) : mOk kn cc own nL wsL_law D ret ini pc (a_callV false (fX12_lasts kn) 13 (1 + 1) (pc + 3)) := ok_callV (mX12_lasts kn) (good_ws ws_good (fun _ h => h) kw1293) hD (by decide) hl kw1294 kw1295 kw686 ⟨by decide +kernel, by decide +kernel, by decide +kernel⟩ rfl hd
theorem okc_X11_toll {kn : sKn} {cc : ByteArray} {own : String} {nL : Nat} {D : Nat} {ret : Option FieldType} {ini : Bool} {pc index : Nat} (hD : 2 + 1 ≤ D) (hl : Cond.methodLink own index yX11_toll ∈ wsL_law) (hd : decode cc pc = .ok (.invokevirtual index, 3)) : mOk kn cc own nL wsL_law D ret ini pc (a_callV false (fX11_toll kn) 12 (2 + 1) (pc + 3)) := ok_callV (mX11_toll kn) (good_ws ws_good (fun _ h => h) kw1297) hD (by decide) hl kw1298 kw1299 kw119 ⟨by decide +kernel, by decide +kernel, by decide +kernel⟩ rfl hd
theorem okc_X12_toll {kn : sKn} {cc : ByteArray} {own : String} {nL : Nat} {D : Nat} {ret : Option FieldType} {ini : Bool} {pc index : Nat} (hD : 3 + 1 ≤ D) (hl : Cond.methodLink own index yX12_toll ∈ wsL_law) (hd : decode cc pc = .ok (.invokevirtual index, 3)) : mOk kn cc own nL wsL_law D ret ini pc (a_callV false (fX12_toll kn) 13 (2 + 1) (pc + 3)) := ok_callV (mX12_toll kn) (good_ws ws_good (fun _ h => h) kw1301) hD (by decide) hl kw1302 kw1303 kw686 ⟨by decide +kernel, by decide +kernel, by decide +kernel⟩ rfl hd
theorem okc_X11_plate {kn : sKn} {cc : ByteArray} {own : String} {nL : Nat} {D : Nat} {ret : Option FieldType} {ini : Bool} {pc index : Nat} (hD : 2 + 1 ≤ D) (hl : Cond.methodLink own index yX11_plate ∈ wsL_law) (hd : decode cc pc = .ok (.invokevirtual index, 3)) : mOk kn cc own nL wsL_law D ret ini pc (a_callV false (fX11_plate kn) 12 (1 + 1) (pc + 3)) := ok_callV (mX11_plate kn) (good_ws ws_good (fun _ h => h) kw1305) hD (by decide) hl kw1306 kw1307 kw119 ⟨by decide +kernel, by decide +kernel, by decide +kernel⟩ rfl hd
theorem okc_X12_plate {kn : sKn} {cc : ByteArray} {own : String} {nL : Nat} {D : Nat} {ret : Option FieldType} {ini : Bool} {pc index : Nat} (hD : 3 + 1 ≤ D) (hl : Cond.methodLink own index yX12_plate ∈ wsL_law) (hd : decode cc pc = .ok (.invokevirtual index, 3)) : mOk kn cc own nL wsL_law D ret ini pc (a_callV false (fX12_plate kn) 13 (1 + 1) (pc + 3)) := ok_callV (mX12_plate kn) (good_ws ws_good (fun _ h => h) kw1309) hD (by decide) hl kw1310 kw1311 kw686 ⟨by decide +kernel, by decide +kernel, by decide +kernel⟩ rfl hd
theorem okc_X11_byteAt {kn : sKn} {cc : ByteArray} {own : String} {nL : Nat} {D : Nat} {ret : Option FieldType} {ini : Bool} {pc index : Nat} (hD : 2 + 1 ≤ D) (hl : Cond.methodLink own index yX11_byteAt ∈ wsL_law) (hd : decode cc pc = .ok (.invokevirtual index, 3)) : mOk kn cc own nL wsL_law D ret ini pc (a_callV false (fX11_byteAt kn) 12 (1 + 1) (pc + 3)) := ok_callV (mX11_byteAt kn) (good_ws ws_good (fun _ h => h) kw1313) hD (by decide) hl kw1314 kw1315 kw119 ⟨by decide +kernel, by decide +kernel, by decide +kernel⟩ rfl hd
theorem okc_X12_byteAt {kn : sKn} {cc : ByteArray} {own : String} {nL : Nat} {D : Nat} {ret : Option FieldType} {ini : Bool} {pc index : Nat} (hD : 2 + 1 ≤ D) (hl : Cond.methodLink own index yX12_byteAt ∈ wsL_law) (hd : decode cc pc = .ok (.invokevirtual index, 3)) : mOk kn cc own nL wsL_law D ret ini pc (a_callV false (fX12_byteAt kn) 13 (1 + 1) (pc + 3)) := ok_callV (mX12_byteAt kn) (good_ws ws_good (fun _ h => h) kw1317) hD (by decide) hl kw1318 kw1319 kw686 ⟨by decide +kernel, by decide +kernel, by decide +kernel⟩ rfl hd
theorem okc_X11_drawn {kn : sKn} {cc : ByteArray} {own : String} {nL : Nat} {D : Nat} {ret : Option FieldType} {ini : Bool} {pc index : Nat} (hD : 3 + 1 ≤ D) (hl : Cond.methodLink own index yX11_drawn ∈ wsL_law) (hd : decode cc pc = .ok (.invokevirtual index, 3)) : mOk kn cc own nL wsL_law D ret ini pc (a_callV false (fX11_drawn kn) 12 (2 + 1) (pc + 3)) := ok_callV (mX11_drawn kn) (good_ws ws_good (fun _ h => h) kw1321) hD (by decide) hl kw1322 kw1323 kw119 ⟨by decide +kernel, by decide +kernel, by decide +kernel⟩ rfl hd
theorem okc_X12_drawn {kn : sKn} {cc : ByteArray} {own : String} {nL : Nat} {D : Nat} {ret : Option FieldType} {ini : Bool} {pc index : Nat} (hD : 2 + 1 ≤ D) (hl : Cond.methodLink own index yX12_drawn ∈ wsL_law) (hd : decode cc pc = .ok (.invokevirtual index, 3)) : mOk kn cc own nL wsL_law D ret ini pc (a_callV false (fX12_drawn kn) 13 (2 + 1) (pc + 3)) := ok_callV (mX12_drawn kn) (good_ws ws_good (fun _ h => h) kw1325) hD (by decide) hl kw1326 kw1327 kw686 ⟨by decide +kernel, by decide +kernel, by decide +kernel⟩ rfl hd
theorem okc_X11_odds {kn : sKn} {cc : ByteArray} {own : String} {nL : Nat} {D : Nat} {ret : Option FieldType} {ini : Bool} {pc index : Nat} (hD : 2 + 1 ≤ D) (hl : Cond.methodLink own index yX11_odds ∈ wsL_law) (hd : decode cc pc = .ok (.invokevirtual index, 3)) : mOk kn cc own nL wsL_law D ret ini pc (a_callV false (fX11_odds kn) 12 (3 + 1) (pc + 3)) := ok_callV (mX11_odds kn) (good_ws ws_good (fun _ h => h) kw1329) hD (by decide) hl kw1330 kw1331 kw119 ⟨by decide +kernel, by decide +kernel, by decide +kernel⟩ rfl hd
theorem okc_X12_odds {kn : sKn} {cc : ByteArray} {own : String} {nL : Nat} {D : Nat} {ret : Option FieldType} {ini : Bool} {pc index : Nat} (hD : 3 + 1 ≤ D) (hl : Cond.methodLink own index yX12_odds ∈ wsL_law) (hd : decode cc pc = .ok (.invokevirtual index, 3)) : mOk kn cc own nL wsL_law D ret ini pc (a_callV false (fX12_odds kn) 13 (3 + 1) (pc + 3)) := ok_callV (mX12_odds kn) (good_ws ws_good (fun _ h => h) kw1333) hD (by decide) hl kw1334 kw1335 kw686 ⟨by decide +kernel, by decide +kernel, by decide +kernel⟩ rfl hd
theorem okc_X11_book {kn : sKn} {cc : ByteArray} {own : String} {nL : Nat} {D : Nat} {ret : Option FieldType} {ini : Bool} {pc index : Nat} (hD : 5 + 1 ≤ D) (hl : Cond.methodLink own index yX11_book ∈ wsL_law) (hd : decode cc pc = .ok (.invokevirtual index, 3)) : mOk kn cc own nL wsL_law D ret ini pc (a_callV false (fX11_book kn) 12 (1 + 1) (pc + 3)) := ok_callV (mX11_book kn) (good_ws ws_good (fun _ h => h) kw1337) hD (by decide) hl kw1338 kw1339 kw119 ⟨by decide +kernel, by decide +kernel, by decide +kernel⟩ rfl hd
theorem okc_X12_book {kn : sKn} {cc : ByteArray} {own : String} {nL : Nat} {D : Nat} {ret : Option FieldType} {ini : Bool} {pc index : Nat} (hD : 3 + 1 ≤ D) (hl : Cond.methodLink own index yX12_book ∈ wsL_law) (hd : decode cc pc = .ok (.invokevirtual index, 3)) : mOk kn cc own nL wsL_law D ret ini pc (a_callV false (fX12_book kn) 13 (1 + 1) (pc + 3)) := ok_callV (mX12_book kn) (good_ws ws_good (fun _ h => h) kw1341) hD (by decide) hl kw1342 kw1343 kw686 ⟨by decide +kernel, by decide +kernel, by decide +kernel⟩ rfl hd
theorem okc_X11_told {kn : sKn} {cc : ByteArray} {own : String} {nL : Nat} {D : Nat} {ret : Option FieldType} {ini : Bool} {pc index : Nat} (hD : 1 + 1 ≤ D) (hl : Cond.methodLink own index yX11_told ∈ wsL_law) (hd : decode cc pc = .ok (.invokevirtual index, 3)) : mOk kn cc own nL wsL_law D ret ini pc (a_callV false (fX11_told kn) 12 (1 + 1) (pc + 3)) := ok_callV (mX11_told kn) (good_ws ws_good (fun _ h => h) kw1345) hD (by decide) hl kw1346 kw1347 kw119 ⟨by decide +kernel, by decide +kernel, by decide +kernel⟩ rfl hd
theorem okc_X12_told {kn : sKn} {cc : ByteArray} {own : String} {nL : Nat} {D : Nat} {ret : Option FieldType} {ini : Bool} {pc index : Nat} (hD : 2 + 1 ≤ D) (hl : Cond.methodLink own index yX12_told ∈ wsL_law) (hd : decode cc pc = .ok (.invokevirtual index, 3)) : mOk kn cc own nL wsL_law D ret ini pc (a_callV false (fX12_told kn) 13 (1 + 1) (pc + 3)) := ok_callV (mX12_told kn) (good_ws ws_good (fun _ h => h) kw1349) hD (by decide) hl kw1350 kw1351 kw686 ⟨by decide +kernel, by decide +kernel, by decide +kernel⟩ rfl hd
theorem okc_X11_sentence {kn : sKn} {cc : ByteArray} {own : String} {nL : Nat} {D : Nat} {ret : Option FieldType} {ini : Bool} {pc index : Nat} (hD : 5 + 1 ≤ D) (hl : Cond.methodLink own index yX11_sentence ∈ wsL_law) (hd : decode cc pc = .ok (.invokevirtual index, 3)) : mOk kn cc own nL wsL_law D ret ini pc (a_callV false (fX11_sentence kn) 12 (0 + 1) (pc + 3)) := ok_callV (mX11_sentence kn) (good_ws ws_good (fun _ h => h) kw1353) hD (by decide) hl kw1354 kw1355 kw119 ⟨by decide +kernel, by decide +kernel, by decide +kernel⟩ rfl hd
theorem okc_X12_sentence {kn : sKn} {cc : ByteArray} {own : String} {nL : Nat} {D : Nat} {ret : Option FieldType} {ini : Bool} {pc index : Nat} (hD : 5 + 1 ≤ D) (hl : Cond.methodLink own index yX12_sentence ∈ wsL_law) (hd : decode cc pc = .ok (.invokevirtual index, 3)) : mOk kn cc own nL wsL_law D ret ini pc (a_callV false (fX12_sentence kn) 13 (0 + 1) (pc + 3)) := ok_callV (mX12_sentence kn) (good_ws ws_good (fun _ h => h) kw1357) hD (by decide) hl kw1358 kw1359 kw686 ⟨by decide +kernel, by decide +kernel, by decide +kernel⟩ rfl hd
theorem okc_X11_said {kn : sKn} {cc : ByteArray} {own : String} {nL : Nat} {D : Nat} {ret : Option FieldType} {ini : Bool} {pc index : Nat} (hD : 2 + 1 ≤ D) (hl : Cond.methodLink own index yX11_said ∈ wsL_law) (hd : decode cc pc = .ok (.invokevirtual index, 3)) : mOk kn cc own nL wsL_law D ret ini pc (a_callV false (fX11_said kn) 12 (1 + 1) (pc + 3)) := ok_callV (mX11_said kn) (good_ws ws_good (fun _ h => h) kw1361) hD (by decide) hl kw1362 kw1363 kw119 ⟨by decide +kernel, by decide +kernel, by decide +kernel⟩ rfl hd
theorem okc_X12_said {kn : sKn} {cc : ByteArray} {own : String} {nL : Nat} {D : Nat} {ret : Option FieldType} {ini : Bool} {pc index : Nat} (hD : 1 + 1 ≤ D) (hl : Cond.methodLink own index yX12_said ∈ wsL_law) (hd : decode cc pc = .ok (.invokevirtual index, 3)) : mOk kn cc own nL wsL_law D ret ini pc (a_callV false (fX12_said kn) 13 (1 + 1) (pc + 3)) := ok_callV (mX12_said kn) (good_ws ws_good (fun _ h => h) kw1365) hD (by decide) hl kw1366 kw1367 kw686 ⟨by decide +kernel, by decide +kernel, by decide +kernel⟩ rfl hd
theorem okc_X11_image {kn : sKn} {cc : ByteArray} {own : String} {nL : Nat} {D : Nat} {ret : Option FieldType} {ini : Bool} {pc index : Nat} (hD : 2 + 1 ≤ D) (hl : Cond.methodLink own index yX11_image ∈ wsL_law) (hd : decode cc pc = .ok (.invokevirtual index, 3)) : mOk kn cc own nL wsL_law D ret ini pc (a_callV false (fX11_image kn) 12 (1 + 1) (pc + 3)) := ok_callV (mX11_image kn) (good_ws ws_good (fun _ h => h) kw1369) hD (by decide) hl kw1370 kw1371 kw119 ⟨by decide +kernel, by decide +kernel, by decide +kernel⟩ rfl hd
theorem okc_X12_image {kn : sKn} {cc : ByteArray} {own : String} {nL : Nat} {D : Nat} {ret : Option FieldType} {ini : Bool} {pc index : Nat} (hD : 2 + 1 ≤ D) (hl : Cond.methodLink own index yX12_image ∈ wsL_law) (hd : decode cc pc = .ok (.invokevirtual index, 3)) : mOk kn cc own nL wsL_law D ret ini pc (a_callV false (fX12_image kn) 13 (1 + 1) (pc + 3)) := ok_callV (mX12_image kn) (good_ws ws_good (fun _ h => h) kw1373) hD (by decide) hl kw1374 kw1375 kw686 ⟨by decide +kernel, by decide +kernel, by decide +kernel⟩ rfl hd
theorem okc_X11_restore {kn : sKn} {cc : ByteArray} {own : String} {nL : Nat} {D : Nat} {ret : Option FieldType} {ini : Bool} {pc index : Nat} (hD : 2 + 1 ≤ D) (hl : Cond.methodLink own index yX11_restore ∈ wsL_law) (hd : decode cc pc = .ok (.invokevirtual index, 3)) : mOk kn cc own nL wsL_law D ret ini pc (a_callV false (fX11_restore kn) 12 (1 + 1) (pc + 3)) := ok_callV (mX11_restore kn) (good_ws ws_good (fun _ h => h) kw1377) hD (by decide) hl kw1378 kw1379 kw119 ⟨by decide +kernel, by decide +kernel, by decide +kernel⟩ rfl hd
theorem okc_X12_restore {kn : sKn} {cc : ByteArray} {own : String} {nL : Nat} {D : Nat} {ret : Option FieldType} {ini : Bool} {pc index : Nat} (hD : 2 + 1 ≤ D) (hl : Cond.methodLink own index yX12_restore ∈ wsL_law) (hd : decode cc pc = .ok (.invokevirtual index, 3)) : mOk kn cc own nL wsL_law D ret ini pc (a_callV false (fX12_restore kn) 13 (1 + 1) (pc + 3)) := ok_callV (mX12_restore kn) (good_ws ws_good (fun _ h => h) kw1381) hD (by decide) hl kw1382 kw1383 kw686 ⟨by decide +kernel, by decide +kernel, by decide +kernel⟩ rfl hd
theorem okc_X11_count {kn : sKn} {cc : ByteArray} {own : String} {nL : Nat} {D : Nat} {ret : Option FieldType} {ini : Bool} {pc index : Nat} (hD : 1 + 1 ≤ D) (hl : Cond.methodLink own index yX11_count ∈ wsL_law) (hd : decode cc pc = .ok (.invokevirtual index, 3)) : mOk kn cc own nL wsL_law D ret ini pc (a_callV false (fX11_count kn) 12 (1 + 1) (pc + 3)) := ok_callV (mX11_count kn) (good_ws ws_good (fun _ h => h) kw1385) hD (by decide) hl kw1386 kw1387 kw119 ⟨by decide +kernel, by decide +kernel, by decide +kernel⟩ rfl hd
theorem okc_X12_count {kn : sKn} {cc : ByteArray} {own : String} {nL : Nat} {D : Nat} {ret : Option FieldType} {ini : Bool} {pc index : Nat} (hD : 1 + 1 ≤ D) (hl : Cond.methodLink own index yX12_count ∈ wsL_law) (hd : decode cc pc = .ok (.invokevirtual index, 3)) : mOk kn cc own nL wsL_law D ret ini pc (a_callV false (fX12_count kn) 13 (1 + 1) (pc + 3)) := ok_callV (mX12_count kn) (good_ws ws_good (fun _ h => h) kw1389) hD (by decide) hl kw1390 kw1391 kw686 ⟨by decide +kernel, by decide +kernel, by decide +kernel⟩ rfl hd
def tL_law_0 (kn : sKn) : List (Nat × sA) := [(0, a_new 12 3 [.null, .null, .null, .null, .null, .null, .null, .null, .null, .null, .null, .null, .null, .null, .int 0, .int 0, .null, .null, .null, .null]), (3, a_stk q_dup 4), (4, a_callI true (fX11_init kn) 1 7), (7, a_astore 1 8), (8, a_new 13 11 [.int 0, .null, .int 0, .int 0, .int 0, .int 0, .int 0, .int 0, .int 0, .int 0, .int 0, .int 0, .long 0, .int 0, .null, .null, .null, .null, .null, .null, .null, .null, .null, .int 0, .int 0, .int 0, .int 0, .null, .int 0, .null, .null, .null, .null, .null, .null, .int 0, .int 0, .null, .null, .int 0, .null, .null, .null, .int 0, .int 0, .null, .int 0, .int 0, .null, .int 0, .int 0, .null, .null, .int 0, .int 0, .null, .int 0, .int 0, .int 0, .int 0]), (11, a_stk q_dup 12), (12, a_callI true (fX12_init kn) 1 15), (15, a_astore 2 16), (16, a_stk (q_int 1) 17), (17, a_newa 2 19), (19, a_astore 3 20), (20, a_stk (q_int 0) 21), (21, a_istore 4 23), (23, a_iload 4 25), (25, a_aload 0 26), (26, a_slen kn 27), (27, a_stk (q_int 6) 29), (29, a_stk q_isub 30), (30, a_icmp kn b_gt 4 1527 33), (33, a_aload 0 34), (34, a_iload 4 36), (36, a_sld kn 37), (37, a_stk (q_int 63) 39), (39, a_kop kn 1 q_iand 40), (40, a_table kn 0 43 [232, 305, 330, 343, 356, 424, 504, 572, 597, 646, 683, 708, 733, 758, 783, 808, 821, 846, 883, 908, 933, 970, 983, 996, 1021, 1046, 1059, 1084, 1097, 1110, 1123, 1160, 1185, 1222, 1247, 1272, 1309, 1358, 1383, 1408, 1421, 1446, 1471, 1496] 1521), (232, a_aload 1 233), (233, a_aload 0 234), (234, a_iload 4 236), (236, a_stk (q_int 1) 237), (237, a_stk q_iadd 238), (238, a_sld kn 239), (239, a_aload 0 240), (240, a_iload 4 242), (242, a_stk (q_int 2) 243), (243, a_stk q_iadd 244), (244, a_sld kn 245), (245, a_aload 0 246), (246, a_iload 4 248), (248, a_stk (q_int 3) 249), (249, a_stk q_iadd 250), (250, a_sld kn 251), (251, a_aload 0 252), (252, a_iload 4 254), (254, a_stk (q_int 4) 255), (255, a_stk q_iadd 256), (256, a_sld kn 257), (257, a_aload 0 258), (258, a_iload 4 260), (260, a_stk (q_int 5) 261), (261, a_stk q_iadd 262), (262, a_sld kn 263), (263, a_callV false (fX11_feed kn) 12 6 266), (266, a_aload 2 267), (267, a_aload 0 268), (268, a_iload 4 270), (270, a_stk (q_int 1) 271), (271, a_stk q_iadd 272), (272, a_sld kn 273), (273, a_aload 0 274), (274, a_iload 4 276)]
set_option maxRecDepth 100000 in
set_option maxHeartbeats 4000000 in
theorem kL_law_0 (kn : sKn) : tOk kn cL_law RL 7 wsL_law 8 (some .boolean) false (tL_law_0 kn) := all_c (okn_X11 kw1031 dL_law_0) (all_c (ok_stk (s_dup dL_law_3)) (all_c (okc_X11_init (by decide) kw1034 dL_law_4) (all_c (ok_astore_n dL_law_7 rfl (by decide)) (all_c (okn_X12 kw1035 dL_law_8) (all_c (ok_stk (s_dup dL_law_11)) (all_c (okc_X12_init (by decide) kw1038 dL_law_12) (all_c (ok_astore_n dL_law_15 rfl (by decide)) (all_c (ok_stk (s_iconst dL_law_16 (by decide))) (all_c (ok_newJ kw451 dL_law_17) (all_c (ok_astore_n dL_law_19 rfl (by decide)) (all_c (ok_stk (s_iconst dL_law_20 (by decide))) (all_c (ok_istore dL_law_21 (by decide)) (all_c (ok_iload dL_law_23) (all_c (ok_aload_n dL_law_25 rfl) (all_c (ok_slen dL_law_26) (all_c (ok_stk (s_bipush dL_law_27 (by decide))) (all_c (ok_stk (s_isub dL_law_29)) (all_c (ok_icmp_gt dL_law_30 (by decide)) (all_c (ok_aload_n dL_law_33 rfl) (all_c (ok_iload dL_law_34) (all_c (ok_sld dL_law_36) (all_c (ok_stk (s_bipush dL_law_37 (by decide))) (all_c (ok_kand dL_law_39) (all_c (ok_table dL_law_40 (by decide) (by decide) (by decide) (by decide)) (all_c (ok_aload_n dL_law_232 rfl) (all_c (ok_aload_n dL_law_233 rfl) (all_c (ok_iload dL_law_234) (all_c (ok_stk (s_iconst dL_law_236 (by decide))) (all_c (ok_stk (s_iadd dL_law_237)) (all_c (ok_sld dL_law_238) (all_c (ok_aload_n dL_law_239 rfl) (all_c (ok_iload dL_law_240) (all_c (ok_stk (s_iconst dL_law_242 (by decide))) (all_c (ok_stk (s_iadd dL_law_243)) (all_c (ok_sld dL_law_244) (all_c (ok_aload_n dL_law_245 rfl) (all_c (ok_iload dL_law_246) (all_c (ok_stk (s_iconst dL_law_248 (by decide))) (all_c (ok_stk (s_iadd dL_law_249)) (all_c (ok_sld dL_law_250) (all_c (ok_aload_n dL_law_251 rfl) (all_c (ok_iload dL_law_252) (all_c (ok_stk (s_iconst dL_law_254 (by decide))) (all_c (ok_stk (s_iadd dL_law_255)) (all_c (ok_sld dL_law_256) (all_c (ok_aload_n dL_law_257 rfl) (all_c (ok_iload dL_law_258) (all_c (ok_stk (s_iconst dL_law_260 (by decide))) (all_c (ok_stk (s_iadd dL_law_261)) (all_c (ok_sld dL_law_262) (all_c (okc_X11_feed (by decide) kw1042 dL_law_263) (all_c (ok_aload_n dL_law_266 rfl) (all_c (ok_aload_n dL_law_267 rfl) (all_c (ok_iload dL_law_268) (all_c (ok_stk (s_iconst dL_law_270 (by decide))) (all_c (ok_stk (s_iadd dL_law_271)) (all_c (ok_sld dL_law_272) (all_c (ok_aload_n dL_law_273 rfl) (all_c (ok_iload dL_law_274) all_n)))))))))))))))))))))))))))))))))))))))))))))))))))))))))))
def tL_law_1 (kn : sKn) : List (Nat × sA) := [(276, a_stk (q_int 2) 277), (277, a_stk q_iadd 278), (278, a_sld kn 279), (279, a_aload 0 280), (280, a_iload 4 282), (282, a_stk (q_int 3) 283), (283, a_stk q_iadd 284), (284, a_sld kn 285), (285, a_aload 0 286), (286, a_iload 4 288), (288, a_stk (q_int 4) 289), (289, a_stk q_iadd 290), (290, a_sld kn 291), (291, a_aload 0 292), (292, a_iload 4 294), (294, a_stk (q_int 5) 295), (295, a_stk q_iadd 296), (296, a_sld kn 297), (297, a_callV false (fX12_feed kn) 13 6 300), (300, a_icmp kn b_eq 0 1521 303), (303, a_stk (q_int 0) 304), (304, a_zret), (305, a_aload 1 306), (306, a_aload 0 307), (307, a_iload 4 309), (309, a_stk (q_int 1) 310), (310, a_stk q_iadd 311), (311, a_sld kn 312), (312, a_callV false (fX11_end kn) 12 2 315), (315, a_aload 2 316), (316, a_aload 0 317), (317, a_iload 4 319), (319, a_stk (q_int 1) 320), (320, a_stk q_iadd 321), (321, a_sld kn 322), (322, a_callV false (fX12_end kn) 13 2 325), (325, a_icmp kn b_eq 0 1521 328), (328, a_stk (q_int 0) 329), (329, a_zret), (330, a_aload 1 331), (331, a_callV false (fX11_bridge kn) 12 1 334), (334, a_aload 2 335), (335, a_callV false (fX12_bridge kn) 13 1 338), (338, a_icmp kn b_eq 0 1521 341), (341, a_stk (q_int 0) 342), (342, a_zret), (343, a_aload 1 344), (344, a_callV false (fX11_fault kn) 12 1 347), (347, a_aload 2 348), (348, a_callV false (fX12_fault kn) 13 1 351), (351, a_icmp kn b_eq 0 1521 354), (354, a_stk (q_int 0) 355), (355, a_zret), (356, a_aload 1 357), (357, a_aload 0 358), (358, a_iload 4 360), (360, a_stk (q_int 1) 361), (361, a_stk q_iadd 362), (362, a_sld kn 363), (363, a_aload 0 364)]
set_option maxRecDepth 100000 in
set_option maxHeartbeats 4000000 in
theorem kL_law_1 (kn : sKn) : tOk kn cL_law RL 7 wsL_law 8 (some .boolean) false (tL_law_1 kn) := all_c (ok_stk (s_iconst dL_law_276 (by decide))) (all_c (ok_stk (s_iadd dL_law_277)) (all_c (ok_sld dL_law_278) (all_c (ok_aload_n dL_law_279 rfl) (all_c (ok_iload dL_law_280) (all_c (ok_stk (s_iconst dL_law_282 (by decide))) (all_c (ok_stk (s_iadd dL_law_283)) (all_c (ok_sld dL_law_284) (all_c (ok_aload_n dL_law_285 rfl) (all_c (ok_iload dL_law_286) (all_c (ok_stk (s_iconst dL_law_288 (by decide))) (all_c (ok_stk (s_iadd dL_law_289)) (all_c (ok_sld dL_law_290) (all_c (ok_aload_n dL_law_291 rfl) (all_c (ok_iload dL_law_292) (all_c (ok_stk (s_iconst dL_law_294 (by decide))) (all_c (ok_stk (s_iadd dL_law_295)) (all_c (ok_sld dL_law_296) (all_c (okc_X12_feed (by decide) kw1046 dL_law_297) (all_c (ok_icmp_eq dL_law_300 (by decide)) (all_c (ok_stk (s_iconst dL_law_303 (by decide))) (all_c (ok_zret dL_law_304) (all_c (ok_aload_n dL_law_305 rfl) (all_c (ok_aload_n dL_law_306 rfl) (all_c (ok_iload dL_law_307) (all_c (ok_stk (s_iconst dL_law_309 (by decide))) (all_c (ok_stk (s_iadd dL_law_310)) (all_c (ok_sld dL_law_311) (all_c (okc_X11_end (by decide) kw1050 dL_law_312) (all_c (ok_aload_n dL_law_315 rfl) (all_c (ok_aload_n dL_law_316 rfl) (all_c (ok_iload dL_law_317) (all_c (ok_stk (s_iconst dL_law_319 (by decide))) (all_c (ok_stk (s_iadd dL_law_320)) (all_c (ok_sld dL_law_321) (all_c (okc_X12_end (by decide) kw1054 dL_law_322) (all_c (ok_icmp_eq dL_law_325 (by decide)) (all_c (ok_stk (s_iconst dL_law_328 (by decide))) (all_c (ok_zret dL_law_329) (all_c (ok_aload_n dL_law_330 rfl) (all_c (okc_X11_bridge (by decide) kw1058 dL_law_331) (all_c (ok_aload_n dL_law_334 rfl) (all_c (okc_X12_bridge (by decide) kw1062 dL_law_335) (all_c (ok_icmp_eq dL_law_338 (by decide)) (all_c (ok_stk (s_iconst dL_law_341 (by decide))) (all_c (ok_zret dL_law_342) (all_c (ok_aload_n dL_law_343 rfl) (all_c (okc_X11_fault (by decide) kw1066 dL_law_344) (all_c (ok_aload_n dL_law_347 rfl) (all_c (okc_X12_fault (by decide) kw1070 dL_law_348) (all_c (ok_icmp_eq dL_law_351 (by decide)) (all_c (ok_stk (s_iconst dL_law_354 (by decide))) (all_c (ok_zret dL_law_355) (all_c (ok_aload_n dL_law_356 rfl) (all_c (ok_aload_n dL_law_357 rfl) (all_c (ok_iload dL_law_358) (all_c (ok_stk (s_iconst dL_law_360 (by decide))) (all_c (ok_stk (s_iadd dL_law_361)) (all_c (ok_sld dL_law_362) (all_c (ok_aload_n dL_law_363 rfl) all_n)))))))))))))))))))))))))))))))))))))))))))))))))))))))))))
def tL_law_2 (kn : sKn) : List (Nat × sA) := [(364, a_iload 4 366), (366, a_stk (q_int 2) 367), (367, a_stk q_iadd 368), (368, a_sld kn 369), (369, a_aload 3 370), (370, a_callS false (fL_signer kn) 4 373), (373, a_istore 5 375), (375, a_aload 2 376), (376, a_aload 0 377), (377, a_iload 4 379), (379, a_stk (q_int 1) 380), (380, a_stk q_iadd 381), (381, a_sld kn 382), (382, a_aload 0 383), (383, a_iload 4 385), (385, a_stk (q_int 2) 386), (386, a_stk q_iadd 387), (387, a_sld kn 388), (388, a_callV false (fX12_signer kn) 13 3 391), (391, a_istore 6 393), (393, a_aload 2 394), (394, a_callV false f_none 13 1 397), (397, a_iload 5 399), (399, a_icmp kn b_eq 0 404 402), (402, a_stk (q_int 0) 403), (403, a_zret), (404, a_iload 5 406), (406, a_if kn b_ne 1 421 409), (409, a_aload 3 410), (410, a_stk (q_int 0) 411), (411, a_lald 412), (412, a_iload 6 414), (414, a_stk q_i2l 415), (415, a_stk q_lcmp 416), (416, a_if kn b_eq 0 421 419), (419, a_stk (q_int 0) 420), (420, a_zret), (421, a_goto 1521), (424, a_aload 1 425), (425, a_aload 0 426), (426, a_iload 4 428), (428, a_stk (q_int 1) 429), (429, a_stk q_iadd 430), (430, a_sld kn 431), (431, a_aload 0 432), (432, a_iload 4 434), (434, a_stk (q_int 2) 435), (435, a_stk q_iadd 436), (436, a_sld kn 437), (437, a_aload 0 438), (438, a_iload 4 440), (440, a_stk (q_int 3) 441), (441, a_stk q_iadd 442), (442, a_sld kn 443), (443, a_aload 3 444), (444, a_callS false (fL_plank kn) 5 447), (447, a_istore 5 449), (449, a_aload 2 450), (450, a_aload 0 451), (451, a_iload 4 453)]
set_option maxRecDepth 100000 in
set_option maxHeartbeats 4000000 in
theorem kL_law_2 (kn : sKn) : tOk kn cL_law RL 7 wsL_law 8 (some .boolean) false (tL_law_2 kn) := all_c (ok_iload dL_law_364) (all_c (ok_stk (s_iconst dL_law_366 (by decide))) (all_c (ok_stk (s_iadd dL_law_367)) (all_c (ok_sld dL_law_368) (all_c (ok_aload_n dL_law_369 rfl) (all_c (ok_callSW (mL_signer kn) (good_wsW ws_good (fun _ h => h) kw1073) (by decide) (by decide) kw1074 kw1071 kw1072 ⟨by decide +kernel, by decide +kernel, by decide +kernel⟩ dL_law_370) (all_c (ok_istore dL_law_373 (by decide)) (all_c (ok_aload_n dL_law_375 rfl) (all_c (ok_aload_n dL_law_376 rfl) (all_c (ok_iload dL_law_377) (all_c (ok_stk (s_iconst dL_law_379 (by decide))) (all_c (ok_stk (s_iadd dL_law_380)) (all_c (ok_sld dL_law_381) (all_c (ok_aload_n dL_law_382 rfl) (all_c (ok_iload dL_law_383) (all_c (ok_stk (s_iconst dL_law_385 (by decide))) (all_c (ok_stk (s_iadd dL_law_386)) (all_c (ok_sld dL_law_387) (all_c (okc_X12_signer (by decide) kw1078 dL_law_388) (all_c (ok_istore dL_law_391 (by decide)) (all_c (ok_aload_n dL_law_393 rfl) (all_c (okc0_X12_thrown (by decide) kw1082 dL_law_394) (all_c (ok_iload dL_law_397) (all_c (ok_icmp_eq dL_law_399 (by decide)) (all_c (ok_stk (s_iconst dL_law_402 (by decide))) (all_c (ok_zret dL_law_403) (all_c (ok_iload dL_law_404) (all_c (ok_if_ne dL_law_406 (by decide)) (all_c (ok_aload_n dL_law_409 rfl) (all_c (ok_stk (s_iconst dL_law_410 (by decide))) (all_c (ok_lald dL_law_411) (all_c (ok_iload dL_law_412) (all_c (ok_stk (s_i2l dL_law_414)) (all_c (ok_stk (s_lcmp dL_law_415)) (all_c (ok_if_eq dL_law_416 (by decide)) (all_c (ok_stk (s_iconst dL_law_419 (by decide))) (all_c (ok_zret dL_law_420) (all_c (ok_goto dL_law_421 (by decide)) (all_c (ok_aload_n dL_law_424 rfl) (all_c (ok_aload_n dL_law_425 rfl) (all_c (ok_iload dL_law_426) (all_c (ok_stk (s_iconst dL_law_428 (by decide))) (all_c (ok_stk (s_iadd dL_law_429)) (all_c (ok_sld dL_law_430) (all_c (ok_aload_n dL_law_431 rfl) (all_c (ok_iload dL_law_432) (all_c (ok_stk (s_iconst dL_law_434 (by decide))) (all_c (ok_stk (s_iadd dL_law_435)) (all_c (ok_sld dL_law_436) (all_c (ok_aload_n dL_law_437 rfl) (all_c (ok_iload dL_law_438) (all_c (ok_stk (s_iconst dL_law_440 (by decide))) (all_c (ok_stk (s_iadd dL_law_441)) (all_c (ok_sld dL_law_442) (all_c (ok_aload_n dL_law_443 rfl) (all_c (ok_callSW (mL_plank kn) (good_wsW ws_good (fun _ h => h) kw1084) (by decide) (by decide) kw1085 kw1083 kw1072 ⟨by decide +kernel, by decide +kernel, by decide +kernel⟩ dL_law_444) (all_c (ok_istore dL_law_447 (by decide)) (all_c (ok_aload_n dL_law_449 rfl) (all_c (ok_aload_n dL_law_450 rfl) (all_c (ok_iload dL_law_451) all_n)))))))))))))))))))))))))))))))))))))))))))))))))))))))))))
def tL_law_3 (kn : sKn) : List (Nat × sA) := [(453, a_stk (q_int 1) 454), (454, a_stk q_iadd 455), (455, a_sld kn 456), (456, a_aload 0 457), (457, a_iload 4 459), (459, a_stk (q_int 2) 460), (460, a_stk q_iadd 461), (461, a_sld kn 462), (462, a_aload 0 463), (463, a_iload 4 465), (465, a_stk (q_int 3) 466), (466, a_stk q_iadd 467), (467, a_sld kn 468), (468, a_callV false (fX12_plank kn) 13 4 471), (471, a_istore 6 473), (473, a_aload 2 474), (474, a_callV false f_none 13 1 477), (477, a_iload 5 479), (479, a_icmp kn b_eq 0 484 482), (482, a_stk (q_int 0) 483), (483, a_zret), (484, a_iload 5 486), (486, a_if kn b_ne 1 501 489), (489, a_aload 3 490), (490, a_stk (q_int 0) 491), (491, a_lald 492), (492, a_iload 6 494), (494, a_stk q_i2l 495), (495, a_stk q_lcmp 496), (496, a_if kn b_eq 0 501 499), (499, a_stk (q_int 0) 500), (500, a_zret), (501, a_goto 1521), (504, a_aload 1 505), (505, a_aload 0 506), (506, a_iload 4 508), (508, a_stk (q_int 1) 509), (509, a_stk q_iadd 510), (510, a_sld kn 511), (511, a_aload 0 512), (512, a_iload 4 514), (514, a_stk (q_int 2) 515), (515, a_stk q_iadd 516), (516, a_sld kn 517), (517, a_aload 3 518), (518, a_callS false (fL_load kn) 4 521), (521, a_istore 5 523), (523, a_aload 2 524), (524, a_aload 0 525), (525, a_iload 4 527), (527, a_stk (q_int 1) 528), (528, a_stk q_iadd 529), (529, a_sld kn 530), (530, a_aload 0 531), (531, a_iload 4 533), (533, a_stk (q_int 2) 534), (534, a_stk q_iadd 535), (535, a_sld kn 536), (536, a_callV false (fX12_load kn) 13 3 539), (539, a_istore 6 541)]
set_option maxRecDepth 100000 in
set_option maxHeartbeats 4000000 in
theorem kL_law_3 (kn : sKn) : tOk kn cL_law RL 7 wsL_law 8 (some .boolean) false (tL_law_3 kn) := all_c (ok_stk (s_iconst dL_law_453 (by decide))) (all_c (ok_stk (s_iadd dL_law_454)) (all_c (ok_sld dL_law_455) (all_c (ok_aload_n dL_law_456 rfl) (all_c (ok_iload dL_law_457) (all_c (ok_stk (s_iconst dL_law_459 (by decide))) (all_c (ok_stk (s_iadd dL_law_460)) (all_c (ok_sld dL_law_461) (all_c (ok_aload_n dL_law_462 rfl) (all_c (ok_iload dL_law_463) (all_c (ok_stk (s_iconst dL_law_465 (by decide))) (all_c (ok_stk (s_iadd dL_law_466)) (all_c (ok_sld dL_law_467) (all_c (okc_X12_plank (by decide) kw1089 dL_law_468) (all_c (ok_istore dL_law_471 (by decide)) (all_c (ok_aload_n dL_law_473 rfl) (all_c (okc0_X12_thrown (by decide) kw1082 dL_law_474) (all_c (ok_iload dL_law_477) (all_c (ok_icmp_eq dL_law_479 (by decide)) (all_c (ok_stk (s_iconst dL_law_482 (by decide))) (all_c (ok_zret dL_law_483) (all_c (ok_iload dL_law_484) (all_c (ok_if_ne dL_law_486 (by decide)) (all_c (ok_aload_n dL_law_489 rfl) (all_c (ok_stk (s_iconst dL_law_490 (by decide))) (all_c (ok_lald dL_law_491) (all_c (ok_iload dL_law_492) (all_c (ok_stk (s_i2l dL_law_494)) (all_c (ok_stk (s_lcmp dL_law_495)) (all_c (ok_if_eq dL_law_496 (by decide)) (all_c (ok_stk (s_iconst dL_law_499 (by decide))) (all_c (ok_zret dL_law_500) (all_c (ok_goto dL_law_501 (by decide)) (all_c (ok_aload_n dL_law_504 rfl) (all_c (ok_aload_n dL_law_505 rfl) (all_c (ok_iload dL_law_506) (all_c (ok_stk (s_iconst dL_law_508 (by decide))) (all_c (ok_stk (s_iadd dL_law_509)) (all_c (ok_sld dL_law_510) (all_c (ok_aload_n dL_law_511 rfl) (all_c (ok_iload dL_law_512) (all_c (ok_stk (s_iconst dL_law_514 (by decide))) (all_c (ok_stk (s_iadd dL_law_515)) (all_c (ok_sld dL_law_516) (all_c (ok_aload_n dL_law_517 rfl) (all_c (ok_callSW (mL_load kn) (good_wsW ws_good (fun _ h => h) kw1091) (by decide) (by decide) kw1092 kw1090 kw1072 ⟨by decide +kernel, by decide +kernel, by decide +kernel⟩ dL_law_518) (all_c (ok_istore dL_law_521 (by decide)) (all_c (ok_aload_n dL_law_523 rfl) (all_c (ok_aload_n dL_law_524 rfl) (all_c (ok_iload dL_law_525) (all_c (ok_stk (s_iconst dL_law_527 (by decide))) (all_c (ok_stk (s_iadd dL_law_528)) (all_c (ok_sld dL_law_529) (all_c (ok_aload_n dL_law_530 rfl) (all_c (ok_iload dL_law_531) (all_c (ok_stk (s_iconst dL_law_533 (by decide))) (all_c (ok_stk (s_iadd dL_law_534)) (all_c (ok_sld dL_law_535) (all_c (okc_X12_load (by decide) kw1096 dL_law_536) (all_c (ok_istore dL_law_539 (by decide)) all_n)))))))))))))))))))))))))))))))))))))))))))))))))))))))))))
def tL_law_4 (kn : sKn) : List (Nat × sA) := [(541, a_aload 2 542), (542, a_callV false f_none 13 1 545), (545, a_iload 5 547), (547, a_icmp kn b_eq 0 552 550), (550, a_stk (q_int 0) 551), (551, a_zret), (552, a_iload 5 554), (554, a_if kn b_ne 1 569 557), (557, a_aload 3 558), (558, a_stk (q_int 0) 559), (559, a_lald 560), (560, a_iload 6 562), (562, a_stk q_i2l 563), (563, a_stk q_lcmp 564), (564, a_if kn b_eq 0 569 567), (567, a_stk (q_int 0) 568), (568, a_zret), (569, a_goto 1521), (572, a_aload 1 573), (573, a_aload 0 574), (574, a_iload 4 576), (576, a_stk (q_int 1) 577), (577, a_stk q_iadd 578), (578, a_sld kn 579), (579, a_callV false (fX11_now kn) 12 2 582), (582, a_aload 2 583), (583, a_aload 0 584), (584, a_iload 4 586), (586, a_stk (q_int 1) 587), (587, a_stk q_iadd 588), (588, a_sld kn 589), (589, a_callV false (fX12_now kn) 13 2 592), (592, a_icmp kn b_eq 0 1521 595), (595, a_stk (q_int 0) 596), (596, a_zret), (597, a_aload 1 598), (598, a_aload 0 599), (599, a_iload 4 601), (601, a_stk (q_int 1) 602), (602, a_stk q_iadd 603), (603, a_sld kn 604), (604, a_aload 0 605), (605, a_iload 4 607), (607, a_stk (q_int 2) 608), (608, a_stk q_iadd 609), (609, a_sld kn 610), (610, a_aload 0 611), (611, a_iload 4 613), (613, a_stk (q_int 3) 614), (614, a_stk q_iadd 615), (615, a_sld kn 616), (616, a_callV false (fX11_sign kn) 12 4 619), (619, a_aload 2 620), (620, a_aload 0 621), (621, a_iload 4 623), (623, a_stk (q_int 1) 624), (624, a_stk q_iadd 625), (625, a_sld kn 626), (626, a_aload 0 627), (627, a_iload 4 629)]
set_option maxRecDepth 100000 in
set_option maxHeartbeats 4000000 in
theorem kL_law_4 (kn : sKn) : tOk kn cL_law RL 7 wsL_law 8 (some .boolean) false (tL_law_4 kn) := all_c (ok_aload_n dL_law_541 rfl) (all_c (okc0_X12_thrown (by decide) kw1082 dL_law_542) (all_c (ok_iload dL_law_545) (all_c (ok_icmp_eq dL_law_547 (by decide)) (all_c (ok_stk (s_iconst dL_law_550 (by decide))) (all_c (ok_zret dL_law_551) (all_c (ok_iload dL_law_552) (all_c (ok_if_ne dL_law_554 (by decide)) (all_c (ok_aload_n dL_law_557 rfl) (all_c (ok_stk (s_iconst dL_law_558 (by decide))) (all_c (ok_lald dL_law_559) (all_c (ok_iload dL_law_560) (all_c (ok_stk (s_i2l dL_law_562)) (all_c (ok_stk (s_lcmp dL_law_563)) (all_c (ok_if_eq dL_law_564 (by decide)) (all_c (ok_stk (s_iconst dL_law_567 (by decide))) (all_c (ok_zret dL_law_568) (all_c (ok_goto dL_law_569 (by decide)) (all_c (ok_aload_n dL_law_572 rfl) (all_c (ok_aload_n dL_law_573 rfl) (all_c (ok_iload dL_law_574) (all_c (ok_stk (s_iconst dL_law_576 (by decide))) (all_c (ok_stk (s_iadd dL_law_577)) (all_c (ok_sld dL_law_578) (all_c (okc_X11_now (by decide) kw1100 dL_law_579) (all_c (ok_aload_n dL_law_582 rfl) (all_c (ok_aload_n dL_law_583 rfl) (all_c (ok_iload dL_law_584) (all_c (ok_stk (s_iconst dL_law_586 (by decide))) (all_c (ok_stk (s_iadd dL_law_587)) (all_c (ok_sld dL_law_588) (all_c (okc_X12_now (by decide) kw1104 dL_law_589) (all_c (ok_icmp_eq dL_law_592 (by decide)) (all_c (ok_stk (s_iconst dL_law_595 (by decide))) (all_c (ok_zret dL_law_596) (all_c (ok_aload_n dL_law_597 rfl) (all_c (ok_aload_n dL_law_598 rfl) (all_c (ok_iload dL_law_599) (all_c (ok_stk (s_iconst dL_law_601 (by decide))) (all_c (ok_stk (s_iadd dL_law_602)) (all_c (ok_sld dL_law_603) (all_c (ok_aload_n dL_law_604 rfl) (all_c (ok_iload dL_law_605) (all_c (ok_stk (s_iconst dL_law_607 (by decide))) (all_c (ok_stk (s_iadd dL_law_608)) (all_c (ok_sld dL_law_609) (all_c (ok_aload_n dL_law_610 rfl) (all_c (ok_iload dL_law_611) (all_c (ok_stk (s_iconst dL_law_613 (by decide))) (all_c (ok_stk (s_iadd dL_law_614)) (all_c (ok_sld dL_law_615) (all_c (okc_X11_sign (by decide) kw1108 dL_law_616) (all_c (ok_aload_n dL_law_619 rfl) (all_c (ok_aload_n dL_law_620 rfl) (all_c (ok_iload dL_law_621) (all_c (ok_stk (s_iconst dL_law_623 (by decide))) (all_c (ok_stk (s_iadd dL_law_624)) (all_c (ok_sld dL_law_625) (all_c (ok_aload_n dL_law_626 rfl) (all_c (ok_iload dL_law_627) all_n)))))))))))))))))))))))))))))))))))))))))))))))))))))))))))
def tL_law_5 (kn : sKn) : List (Nat × sA) := [(629, a_stk (q_int 2) 630), (630, a_stk q_iadd 631), (631, a_sld kn 632), (632, a_aload 0 633), (633, a_iload 4 635), (635, a_stk (q_int 3) 636), (636, a_stk q_iadd 637), (637, a_sld kn 638), (638, a_callV false (fX12_sign kn) 13 4 641), (641, a_icmp kn b_eq 0 1521 644), (644, a_stk (q_int 0) 645), (645, a_zret), (646, a_aload 1 647), (647, a_aload 0 648), (648, a_iload 4 650), (650, a_stk (q_int 1) 651), (651, a_stk q_iadd 652), (652, a_sld kn 653), (653, a_aload 0 654), (654, a_iload 4 656), (656, a_stk (q_int 2) 657), (657, a_stk q_iadd 658), (658, a_sld kn 659), (659, a_callV false (fX11_burn kn) 12 3 662), (662, a_aload 2 663), (663, a_aload 0 664), (664, a_iload 4 666), (666, a_stk (q_int 1) 667), (667, a_stk q_iadd 668), (668, a_sld kn 669), (669, a_aload 0 670), (670, a_iload 4 672), (672, a_stk (q_int 2) 673), (673, a_stk q_iadd 674), (674, a_sld kn 675), (675, a_callV false (fX12_burn kn) 13 3 678), (678, a_icmp kn b_eq 0 1521 681), (681, a_stk (q_int 0) 682), (682, a_zret), (683, a_aload 1 684), (684, a_aload 0 685), (685, a_iload 4 687), (687, a_stk (q_int 1) 688), (688, a_stk q_iadd 689), (689, a_sld kn 690), (690, a_callV false (fX11_breaks kn) 12 2 693), (693, a_aload 2 694), (694, a_aload 0 695), (695, a_iload 4 697), (697, a_stk (q_int 1) 698), (698, a_stk q_iadd 699), (699, a_sld kn 700), (700, a_callV false (fX12_breaks kn) 13 2 703), (703, a_icmp kn b_eq 0 1521 706), (706, a_stk (q_int 0) 707), (707, a_zret), (708, a_aload 1 709), (709, a_aload 0 710), (710, a_iload 4 712), (712, a_stk (q_int 1) 713)]
set_option maxRecDepth 100000 in
set_option maxHeartbeats 4000000 in
theorem kL_law_5 (kn : sKn) : tOk kn cL_law RL 7 wsL_law 8 (some .boolean) false (tL_law_5 kn) := all_c (ok_stk (s_iconst dL_law_629 (by decide))) (all_c (ok_stk (s_iadd dL_law_630)) (all_c (ok_sld dL_law_631) (all_c (ok_aload_n dL_law_632 rfl) (all_c (ok_iload dL_law_633) (all_c (ok_stk (s_iconst dL_law_635 (by decide))) (all_c (ok_stk (s_iadd dL_law_636)) (all_c (ok_sld dL_law_637) (all_c (okc_X12_sign (by decide) kw1112 dL_law_638) (all_c (ok_icmp_eq dL_law_641 (by decide)) (all_c (ok_stk (s_iconst dL_law_644 (by decide))) (all_c (ok_zret dL_law_645) (all_c (ok_aload_n dL_law_646 rfl) (all_c (ok_aload_n dL_law_647 rfl) (all_c (ok_iload dL_law_648) (all_c (ok_stk (s_iconst dL_law_650 (by decide))) (all_c (ok_stk (s_iadd dL_law_651)) (all_c (ok_sld dL_law_652) (all_c (ok_aload_n dL_law_653 rfl) (all_c (ok_iload dL_law_654) (all_c (ok_stk (s_iconst dL_law_656 (by decide))) (all_c (ok_stk (s_iadd dL_law_657)) (all_c (ok_sld dL_law_658) (all_c (okc_X11_burn (by decide) kw1116 dL_law_659) (all_c (ok_aload_n dL_law_662 rfl) (all_c (ok_aload_n dL_law_663 rfl) (all_c (ok_iload dL_law_664) (all_c (ok_stk (s_iconst dL_law_666 (by decide))) (all_c (ok_stk (s_iadd dL_law_667)) (all_c (ok_sld dL_law_668) (all_c (ok_aload_n dL_law_669 rfl) (all_c (ok_iload dL_law_670) (all_c (ok_stk (s_iconst dL_law_672 (by decide))) (all_c (ok_stk (s_iadd dL_law_673)) (all_c (ok_sld dL_law_674) (all_c (okc_X12_burn (by decide) kw1120 dL_law_675) (all_c (ok_icmp_eq dL_law_678 (by decide)) (all_c (ok_stk (s_iconst dL_law_681 (by decide))) (all_c (ok_zret dL_law_682) (all_c (ok_aload_n dL_law_683 rfl) (all_c (ok_aload_n dL_law_684 rfl) (all_c (ok_iload dL_law_685) (all_c (ok_stk (s_iconst dL_law_687 (by decide))) (all_c (ok_stk (s_iadd dL_law_688)) (all_c (ok_sld dL_law_689) (all_c (okc_X11_breaks (by decide) kw1124 dL_law_690) (all_c (ok_aload_n dL_law_693 rfl) (all_c (ok_aload_n dL_law_694 rfl) (all_c (ok_iload dL_law_695) (all_c (ok_stk (s_iconst dL_law_697 (by decide))) (all_c (ok_stk (s_iadd dL_law_698)) (all_c (ok_sld dL_law_699) (all_c (okc_X12_breaks (by decide) kw1128 dL_law_700) (all_c (ok_icmp_eq dL_law_703 (by decide)) (all_c (ok_stk (s_iconst dL_law_706 (by decide))) (all_c (ok_zret dL_law_707) (all_c (ok_aload_n dL_law_708 rfl) (all_c (ok_aload_n dL_law_709 rfl) (all_c (ok_iload dL_law_710) (all_c (ok_stk (s_iconst dL_law_712 (by decide))) all_n)))))))))))))))))))))))))))))))))))))))))))))))))))))))))))
def tL_law_6 (kn : sKn) : List (Nat × sA) := [(713, a_stk q_iadd 714), (714, a_sld kn 715), (715, a_callV false (fX11_holds kn) 12 2 718), (718, a_aload 2 719), (719, a_aload 0 720), (720, a_iload 4 722), (722, a_stk (q_int 1) 723), (723, a_stk q_iadd 724), (724, a_sld kn 725), (725, a_callV false (fX12_holds kn) 13 2 728), (728, a_icmp kn b_eq 0 1521 731), (731, a_stk (q_int 0) 732), (732, a_zret), (733, a_aload 1 734), (734, a_aload 0 735), (735, a_iload 4 737), (737, a_stk (q_int 1) 738), (738, a_stk q_iadd 739), (739, a_sld kn 740), (740, a_callV false (fX11_die kn) 12 2 743), (743, a_aload 2 744), (744, a_aload 0 745), (745, a_iload 4 747), (747, a_stk (q_int 1) 748), (748, a_stk q_iadd 749), (749, a_sld kn 750), (750, a_callV false (fX12_die kn) 13 2 753), (753, a_icmp kn b_eq 0 1521 756), (756, a_stk (q_int 0) 757), (757, a_zret), (758, a_aload 1 759), (759, a_aload 0 760), (760, a_iload 4 762), (762, a_stk (q_int 1) 763), (763, a_stk q_iadd 764), (764, a_sld kn 765), (765, a_callV false (fX11_cross kn) 12 2 768), (768, a_aload 2 769), (769, a_aload 0 770), (770, a_iload 4 772), (772, a_stk (q_int 1) 773), (773, a_stk q_iadd 774), (774, a_sld kn 775), (775, a_callV false (fX12_cross kn) 13 2 778), (778, a_icmp kn b_eq 0 1521 781), (781, a_stk (q_int 0) 782), (782, a_zret), (783, a_aload 1 784), (784, a_aload 0 785), (785, a_iload 4 787), (787, a_stk (q_int 1) 788), (788, a_stk q_iadd 789), (789, a_sld kn 790), (790, a_callV false (fX11_days kn) 12 2 793), (793, a_aload 2 794), (794, a_aload 0 795), (795, a_iload 4 797), (797, a_stk (q_int 1) 798), (798, a_stk q_iadd 799), (799, a_sld kn 800)]
set_option maxRecDepth 100000 in
set_option maxHeartbeats 4000000 in
theorem kL_law_6 (kn : sKn) : tOk kn cL_law RL 7 wsL_law 8 (some .boolean) false (tL_law_6 kn) := all_c (ok_stk (s_iadd dL_law_713)) (all_c (ok_sld dL_law_714) (all_c (okc_X11_holds (by decide) kw1132 dL_law_715) (all_c (ok_aload_n dL_law_718 rfl) (all_c (ok_aload_n dL_law_719 rfl) (all_c (ok_iload dL_law_720) (all_c (ok_stk (s_iconst dL_law_722 (by decide))) (all_c (ok_stk (s_iadd dL_law_723)) (all_c (ok_sld dL_law_724) (all_c (okc_X12_holds (by decide) kw1136 dL_law_725) (all_c (ok_icmp_eq dL_law_728 (by decide)) (all_c (ok_stk (s_iconst dL_law_731 (by decide))) (all_c (ok_zret dL_law_732) (all_c (ok_aload_n dL_law_733 rfl) (all_c (ok_aload_n dL_law_734 rfl) (all_c (ok_iload dL_law_735) (all_c (ok_stk (s_iconst dL_law_737 (by decide))) (all_c (ok_stk (s_iadd dL_law_738)) (all_c (ok_sld dL_law_739) (all_c (okc_X11_die (by decide) kw1140 dL_law_740) (all_c (ok_aload_n dL_law_743 rfl) (all_c (ok_aload_n dL_law_744 rfl) (all_c (ok_iload dL_law_745) (all_c (ok_stk (s_iconst dL_law_747 (by decide))) (all_c (ok_stk (s_iadd dL_law_748)) (all_c (ok_sld dL_law_749) (all_c (okc_X12_die (by decide) kw1144 dL_law_750) (all_c (ok_icmp_eq dL_law_753 (by decide)) (all_c (ok_stk (s_iconst dL_law_756 (by decide))) (all_c (ok_zret dL_law_757) (all_c (ok_aload_n dL_law_758 rfl) (all_c (ok_aload_n dL_law_759 rfl) (all_c (ok_iload dL_law_760) (all_c (ok_stk (s_iconst dL_law_762 (by decide))) (all_c (ok_stk (s_iadd dL_law_763)) (all_c (ok_sld dL_law_764) (all_c (okc_X11_cross (by decide) kw1148 dL_law_765) (all_c (ok_aload_n dL_law_768 rfl) (all_c (ok_aload_n dL_law_769 rfl) (all_c (ok_iload dL_law_770) (all_c (ok_stk (s_iconst dL_law_772 (by decide))) (all_c (ok_stk (s_iadd dL_law_773)) (all_c (ok_sld dL_law_774) (all_c (okc_X12_cross (by decide) kw1152 dL_law_775) (all_c (ok_icmp_eq dL_law_778 (by decide)) (all_c (ok_stk (s_iconst dL_law_781 (by decide))) (all_c (ok_zret dL_law_782) (all_c (ok_aload_n dL_law_783 rfl) (all_c (ok_aload_n dL_law_784 rfl) (all_c (ok_iload dL_law_785) (all_c (ok_stk (s_iconst dL_law_787 (by decide))) (all_c (ok_stk (s_iadd dL_law_788)) (all_c (ok_sld dL_law_789) (all_c (okc_X11_days (by decide) kw1156 dL_law_790) (all_c (ok_aload_n dL_law_793 rfl) (all_c (ok_aload_n dL_law_794 rfl) (all_c (ok_iload dL_law_795) (all_c (ok_stk (s_iconst dL_law_797 (by decide))) (all_c (ok_stk (s_iadd dL_law_798)) (all_c (ok_sld dL_law_799) all_n)))))))))))))))))))))))))))))))))))))))))))))))))))))))))))
def tL_law_7 (kn : sKn) : List (Nat × sA) := [(800, a_callV false (fX12_days kn) 13 2 803), (803, a_icmp kn b_eq 0 1521 806), (806, a_stk (q_int 0) 807), (807, a_zret), (808, a_aload 1 809), (809, a_callV false (fX11_undo kn) 12 1 812), (812, a_aload 2 813), (813, a_callV false (fX12_undo kn) 13 1 816), (816, a_icmp kn b_eq 0 1521 819), (819, a_stk (q_int 0) 820), (820, a_zret), (821, a_aload 1 822), (822, a_aload 0 823), (823, a_iload 4 825), (825, a_stk (q_int 1) 826), (826, a_stk q_iadd 827), (827, a_sld kn 828), (828, a_callV false (fX11_spare kn) 12 2 831), (831, a_aload 2 832), (832, a_aload 0 833), (833, a_iload 4 835), (835, a_stk (q_int 1) 836), (836, a_stk q_iadd 837), (837, a_sld kn 838), (838, a_callV false (fX12_spare kn) 13 2 841), (841, a_icmp kn b_eq 0 1521 844), (844, a_stk (q_int 0) 845), (845, a_zret), (846, a_aload 1 847), (847, a_aload 0 848), (848, a_iload 4 850), (850, a_stk (q_int 1) 851), (851, a_stk q_iadd 852), (852, a_sld kn 853), (853, a_aload 0 854), (854, a_iload 4 856), (856, a_stk (q_int 2) 857), (857, a_stk q_iadd 858), (858, a_sld kn 859), (859, a_callV false (fX11_path kn) 12 3 862), (862, a_aload 2 863), (863, a_aload 0 864), (864, a_iload 4 866), (866, a_stk (q_int 1) 867), (867, a_stk q_iadd 868), (868, a_sld kn 869), (869, a_aload 0 870), (870, a_iload 4 872), (872, a_stk (q_int 2) 873), (873, a_stk q_iadd 874), (874, a_sld kn 875), (875, a_callV false (fX12_path kn) 13 3 878), (878, a_icmp kn b_eq 0 1521 881), (881, a_stk (q_int 0) 882), (882, a_zret), (883, a_aload 1 884), (884, a_aload 0 885), (885, a_iload 4 887), (887, a_stk (q_int 1) 888), (888, a_stk q_iadd 889)]
set_option maxRecDepth 100000 in
set_option maxHeartbeats 4000000 in
theorem kL_law_7 (kn : sKn) : tOk kn cL_law RL 7 wsL_law 8 (some .boolean) false (tL_law_7 kn) := all_c (okc_X12_days (by decide) kw1160 dL_law_800) (all_c (ok_icmp_eq dL_law_803 (by decide)) (all_c (ok_stk (s_iconst dL_law_806 (by decide))) (all_c (ok_zret dL_law_807) (all_c (ok_aload_n dL_law_808 rfl) (all_c (okc_X11_undo (by decide) kw1164 dL_law_809) (all_c (ok_aload_n dL_law_812 rfl) (all_c (okc_X12_undo (by decide) kw1168 dL_law_813) (all_c (ok_icmp_eq dL_law_816 (by decide)) (all_c (ok_stk (s_iconst dL_law_819 (by decide))) (all_c (ok_zret dL_law_820) (all_c (ok_aload_n dL_law_821 rfl) (all_c (ok_aload_n dL_law_822 rfl) (all_c (ok_iload dL_law_823) (all_c (ok_stk (s_iconst dL_law_825 (by decide))) (all_c (ok_stk (s_iadd dL_law_826)) (all_c (ok_sld dL_law_827) (all_c (okc_X11_spare (by decide) kw1172 dL_law_828) (all_c (ok_aload_n dL_law_831 rfl) (all_c (ok_aload_n dL_law_832 rfl) (all_c (ok_iload dL_law_833) (all_c (ok_stk (s_iconst dL_law_835 (by decide))) (all_c (ok_stk (s_iadd dL_law_836)) (all_c (ok_sld dL_law_837) (all_c (okc_X12_spare (by decide) kw1176 dL_law_838) (all_c (ok_icmp_eq dL_law_841 (by decide)) (all_c (ok_stk (s_iconst dL_law_844 (by decide))) (all_c (ok_zret dL_law_845) (all_c (ok_aload_n dL_law_846 rfl) (all_c (ok_aload_n dL_law_847 rfl) (all_c (ok_iload dL_law_848) (all_c (ok_stk (s_iconst dL_law_850 (by decide))) (all_c (ok_stk (s_iadd dL_law_851)) (all_c (ok_sld dL_law_852) (all_c (ok_aload_n dL_law_853 rfl) (all_c (ok_iload dL_law_854) (all_c (ok_stk (s_iconst dL_law_856 (by decide))) (all_c (ok_stk (s_iadd dL_law_857)) (all_c (ok_sld dL_law_858) (all_c (okc_X11_path (by decide) kw1180 dL_law_859) (all_c (ok_aload_n dL_law_862 rfl) (all_c (ok_aload_n dL_law_863 rfl) (all_c (ok_iload dL_law_864) (all_c (ok_stk (s_iconst dL_law_866 (by decide))) (all_c (ok_stk (s_iadd dL_law_867)) (all_c (ok_sld dL_law_868) (all_c (ok_aload_n dL_law_869 rfl) (all_c (ok_iload dL_law_870) (all_c (ok_stk (s_iconst dL_law_872 (by decide))) (all_c (ok_stk (s_iadd dL_law_873)) (all_c (ok_sld dL_law_874) (all_c (okc_X12_path (by decide) kw1184 dL_law_875) (all_c (ok_icmp_eq dL_law_878 (by decide)) (all_c (ok_stk (s_iconst dL_law_881 (by decide))) (all_c (ok_zret dL_law_882) (all_c (ok_aload_n dL_law_883 rfl) (all_c (ok_aload_n dL_law_884 rfl) (all_c (ok_iload dL_law_885) (all_c (ok_stk (s_iconst dL_law_887 (by decide))) (all_c (ok_stk (s_iadd dL_law_888)) all_n)))))))))))))))))))))))))))))))))))))))))))))))))))))))))))
def tL_law_8 (kn : sKn) : List (Nat × sA) := [(889, a_sld kn 890), (890, a_callV false (fX11_limit kn) 12 2 893), (893, a_aload 2 894), (894, a_aload 0 895), (895, a_iload 4 897), (897, a_stk (q_int 1) 898), (898, a_stk q_iadd 899), (899, a_sld kn 900), (900, a_callV false (fX12_limit kn) 13 2 903), (903, a_icmp kn b_eq 0 1521 906), (906, a_stk (q_int 0) 907), (907, a_zret), (908, a_aload 1 909), (909, a_aload 0 910), (910, a_iload 4 912), (912, a_stk (q_int 1) 913), (913, a_stk q_iadd 914), (914, a_sld kn 915), (915, a_callV false (fX11_asks kn) 12 2 918), (918, a_aload 2 919), (919, a_aload 0 920), (920, a_iload 4 922), (922, a_stk (q_int 1) 923), (923, a_stk q_iadd 924), (924, a_sld kn 925), (925, a_callV false (fX12_asks kn) 13 2 928), (928, a_icmp kn b_eq 0 1521 931), (931, a_stk (q_int 0) 932), (932, a_zret), (933, a_aload 1 934), (934, a_aload 0 935), (935, a_iload 4 937), (937, a_stk (q_int 1) 938), (938, a_stk q_iadd 939), (939, a_sld kn 940), (940, a_aload 0 941), (941, a_iload 4 943), (943, a_stk (q_int 2) 944), (944, a_stk q_iadd 945), (945, a_sld kn 946), (946, a_callV false (fX11_asked kn) 12 3 949), (949, a_aload 2 950), (950, a_aload 0 951), (951, a_iload 4 953), (953, a_stk (q_int 1) 954), (954, a_stk q_iadd 955), (955, a_sld kn 956), (956, a_aload 0 957), (957, a_iload 4 959), (959, a_stk (q_int 2) 960), (960, a_stk q_iadd 961), (961, a_sld kn 962), (962, a_callV false (fX12_asked kn) 13 3 965), (965, a_icmp kn b_eq 0 1521 968), (968, a_stk (q_int 0) 969), (969, a_zret), (970, a_aload 1 971), (971, a_callV false (fX11_keystone kn) 12 1 974), (974, a_aload 2 975), (975, a_callV false (fX12_keystone kn) 13 1 978)]
set_option maxRecDepth 100000 in
set_option maxHeartbeats 4000000 in
theorem kL_law_8 (kn : sKn) : tOk kn cL_law RL 7 wsL_law 8 (some .boolean) false (tL_law_8 kn) := all_c (ok_sld dL_law_889) (all_c (okc_X11_limit (by decide) kw1188 dL_law_890) (all_c (ok_aload_n dL_law_893 rfl) (all_c (ok_aload_n dL_law_894 rfl) (all_c (ok_iload dL_law_895) (all_c (ok_stk (s_iconst dL_law_897 (by decide))) (all_c (ok_stk (s_iadd dL_law_898)) (all_c (ok_sld dL_law_899) (all_c (okc_X12_limit (by decide) kw1192 dL_law_900) (all_c (ok_icmp_eq dL_law_903 (by decide)) (all_c (ok_stk (s_iconst dL_law_906 (by decide))) (all_c (ok_zret dL_law_907) (all_c (ok_aload_n dL_law_908 rfl) (all_c (ok_aload_n dL_law_909 rfl) (all_c (ok_iload dL_law_910) (all_c (ok_stk (s_iconst dL_law_912 (by decide))) (all_c (ok_stk (s_iadd dL_law_913)) (all_c (ok_sld dL_law_914) (all_c (okc_X11_asks (by decide) kw1196 dL_law_915) (all_c (ok_aload_n dL_law_918 rfl) (all_c (ok_aload_n dL_law_919 rfl) (all_c (ok_iload dL_law_920) (all_c (ok_stk (s_iconst dL_law_922 (by decide))) (all_c (ok_stk (s_iadd dL_law_923)) (all_c (ok_sld dL_law_924) (all_c (okc_X12_asks (by decide) kw1200 dL_law_925) (all_c (ok_icmp_eq dL_law_928 (by decide)) (all_c (ok_stk (s_iconst dL_law_931 (by decide))) (all_c (ok_zret dL_law_932) (all_c (ok_aload_n dL_law_933 rfl) (all_c (ok_aload_n dL_law_934 rfl) (all_c (ok_iload dL_law_935) (all_c (ok_stk (s_iconst dL_law_937 (by decide))) (all_c (ok_stk (s_iadd dL_law_938)) (all_c (ok_sld dL_law_939) (all_c (ok_aload_n dL_law_940 rfl) (all_c (ok_iload dL_law_941) (all_c (ok_stk (s_iconst dL_law_943 (by decide))) (all_c (ok_stk (s_iadd dL_law_944)) (all_c (ok_sld dL_law_945) (all_c (okc_X11_asked (by decide) kw1204 dL_law_946) (all_c (ok_aload_n dL_law_949 rfl) (all_c (ok_aload_n dL_law_950 rfl) (all_c (ok_iload dL_law_951) (all_c (ok_stk (s_iconst dL_law_953 (by decide))) (all_c (ok_stk (s_iadd dL_law_954)) (all_c (ok_sld dL_law_955) (all_c (ok_aload_n dL_law_956 rfl) (all_c (ok_iload dL_law_957) (all_c (ok_stk (s_iconst dL_law_959 (by decide))) (all_c (ok_stk (s_iadd dL_law_960)) (all_c (ok_sld dL_law_961) (all_c (okc_X12_asked (by decide) kw1208 dL_law_962) (all_c (ok_icmp_eq dL_law_965 (by decide)) (all_c (ok_stk (s_iconst dL_law_968 (by decide))) (all_c (ok_zret dL_law_969) (all_c (ok_aload_n dL_law_970 rfl) (all_c (okc_X11_keystone (by decide) kw1212 dL_law_971) (all_c (ok_aload_n dL_law_974 rfl) (all_c (okc_X12_keystone (by decide) kw1216 dL_law_975) all_n)))))))))))))))))))))))))))))))))))))))))))))))))))))))))))
def tL_law_9 (kn : sKn) : List (Nat × sA) := [(978, a_icmp kn b_eq 0 1521 981), (981, a_stk (q_int 0) 982), (982, a_zret), (983, a_aload 1 984), (984, a_callV false (fX11_able kn) 12 1 987), (987, a_aload 2 988), (988, a_callV false (fX12_able kn) 13 1 991), (991, a_icmp kn b_eq 0 1521 994), (994, a_stk (q_int 0) 995), (995, a_zret), (996, a_aload 1 997), (997, a_aload 0 998), (998, a_iload 4 1000), (1000, a_stk (q_int 1) 1001), (1001, a_stk q_iadd 1002), (1002, a_sld kn 1003), (1003, a_callV false (fX11_cut kn) 12 2 1006), (1006, a_aload 2 1007), (1007, a_aload 0 1008), (1008, a_iload 4 1010), (1010, a_stk (q_int 1) 1011), (1011, a_stk q_iadd 1012), (1012, a_sld kn 1013), (1013, a_callV false (fX12_cut kn) 13 2 1016), (1016, a_icmp kn b_eq 0 1521 1019), (1019, a_stk (q_int 0) 1020), (1020, a_zret), (1021, a_aload 1 1022), (1022, a_aload 0 1023), (1023, a_iload 4 1025), (1025, a_stk (q_int 1) 1026), (1026, a_stk q_iadd 1027), (1027, a_sld kn 1028), (1028, a_callV false (fX11_cutAt kn) 12 2 1031), (1031, a_aload 2 1032), (1032, a_aload 0 1033), (1033, a_iload 4 1035), (1035, a_stk (q_int 1) 1036), (1036, a_stk q_iadd 1037), (1037, a_sld kn 1038), (1038, a_callV false (fX12_cutAt kn) 13 2 1041), (1041, a_icmp kn b_eq 0 1521 1044), (1044, a_stk (q_int 0) 1045), (1045, a_zret), (1046, a_aload 1 1047), (1047, a_callV false (fX11_order kn) 12 1 1050), (1050, a_aload 2 1051), (1051, a_callV false (fX12_order kn) 13 1 1054), (1054, a_icmp kn b_eq 0 1521 1057), (1057, a_stk (q_int 0) 1058), (1058, a_zret), (1059, a_aload 1 1060), (1060, a_aload 0 1061), (1061, a_iload 4 1063), (1063, a_stk (q_int 1) 1064), (1064, a_stk q_iadd 1065), (1065, a_sld kn 1066), (1066, a_callV false (fX11_orderAt kn) 12 2 1069), (1069, a_aload 2 1070), (1070, a_aload 0 1071)]
set_option maxRecDepth 100000 in
set_option maxHeartbeats 4000000 in
theorem kL_law_9 (kn : sKn) : tOk kn cL_law RL 7 wsL_law 8 (some .boolean) false (tL_law_9 kn) := all_c (ok_icmp_eq dL_law_978 (by decide)) (all_c (ok_stk (s_iconst dL_law_981 (by decide))) (all_c (ok_zret dL_law_982) (all_c (ok_aload_n dL_law_983 rfl) (all_c (okc_X11_able (by decide) kw1220 dL_law_984) (all_c (ok_aload_n dL_law_987 rfl) (all_c (okc_X12_able (by decide) kw1224 dL_law_988) (all_c (ok_icmp_eq dL_law_991 (by decide)) (all_c (ok_stk (s_iconst dL_law_994 (by decide))) (all_c (ok_zret dL_law_995) (all_c (ok_aload_n dL_law_996 rfl) (all_c (ok_aload_n dL_law_997 rfl) (all_c (ok_iload dL_law_998) (all_c (ok_stk (s_iconst dL_law_1000 (by decide))) (all_c (ok_stk (s_iadd dL_law_1001)) (all_c (ok_sld dL_law_1002) (all_c (okc_X11_cut (by decide) kw1228 dL_law_1003) (all_c (ok_aload_n dL_law_1006 rfl) (all_c (ok_aload_n dL_law_1007 rfl) (all_c (ok_iload dL_law_1008) (all_c (ok_stk (s_iconst dL_law_1010 (by decide))) (all_c (ok_stk (s_iadd dL_law_1011)) (all_c (ok_sld dL_law_1012) (all_c (okc_X12_cut (by decide) kw1232 dL_law_1013) (all_c (ok_icmp_eq dL_law_1016 (by decide)) (all_c (ok_stk (s_iconst dL_law_1019 (by decide))) (all_c (ok_zret dL_law_1020) (all_c (ok_aload_n dL_law_1021 rfl) (all_c (ok_aload_n dL_law_1022 rfl) (all_c (ok_iload dL_law_1023) (all_c (ok_stk (s_iconst dL_law_1025 (by decide))) (all_c (ok_stk (s_iadd dL_law_1026)) (all_c (ok_sld dL_law_1027) (all_c (okc_X11_cutAt (by decide) kw1236 dL_law_1028) (all_c (ok_aload_n dL_law_1031 rfl) (all_c (ok_aload_n dL_law_1032 rfl) (all_c (ok_iload dL_law_1033) (all_c (ok_stk (s_iconst dL_law_1035 (by decide))) (all_c (ok_stk (s_iadd dL_law_1036)) (all_c (ok_sld dL_law_1037) (all_c (okc_X12_cutAt (by decide) kw1240 dL_law_1038) (all_c (ok_icmp_eq dL_law_1041 (by decide)) (all_c (ok_stk (s_iconst dL_law_1044 (by decide))) (all_c (ok_zret dL_law_1045) (all_c (ok_aload_n dL_law_1046 rfl) (all_c (okc_X11_order (by decide) kw1244 dL_law_1047) (all_c (ok_aload_n dL_law_1050 rfl) (all_c (okc_X12_order (by decide) kw1248 dL_law_1051) (all_c (ok_icmp_eq dL_law_1054 (by decide)) (all_c (ok_stk (s_iconst dL_law_1057 (by decide))) (all_c (ok_zret dL_law_1058) (all_c (ok_aload_n dL_law_1059 rfl) (all_c (ok_aload_n dL_law_1060 rfl) (all_c (ok_iload dL_law_1061) (all_c (ok_stk (s_iconst dL_law_1063 (by decide))) (all_c (ok_stk (s_iadd dL_law_1064)) (all_c (ok_sld dL_law_1065) (all_c (okc_X11_orderAt (by decide) kw1252 dL_law_1066) (all_c (ok_aload_n dL_law_1069 rfl) (all_c (ok_aload_n dL_law_1070 rfl) all_n)))))))))))))))))))))))))))))))))))))))))))))))))))))))))))
def tL_law_10 (kn : sKn) : List (Nat × sA) := [(1071, a_iload 4 1073), (1073, a_stk (q_int 1) 1074), (1074, a_stk q_iadd 1075), (1075, a_sld kn 1076), (1076, a_callV false (fX12_orderAt kn) 13 2 1079), (1079, a_icmp kn b_eq 0 1521 1082), (1082, a_stk (q_int 0) 1083), (1083, a_zret), (1084, a_aload 1 1085), (1085, a_callV false (fX11_forgers kn) 12 1 1088), (1088, a_aload 2 1089), (1089, a_callV false (fX12_forgers kn) 13 1 1092), (1092, a_icmp kn b_eq 0 1521 1095), (1095, a_stk (q_int 0) 1096), (1096, a_zret), (1097, a_aload 1 1098), (1098, a_callV false (fX11_surely kn) 12 1 1101), (1101, a_aload 2 1102), (1102, a_callV false (fX12_surely kn) 13 1 1105), (1105, a_icmp kn b_eq 0 1521 1108), (1108, a_stk (q_int 0) 1109), (1109, a_zret), (1110, a_aload 1 1111), (1111, a_callV false (fX11_tells kn) 12 1 1114), (1114, a_aload 2 1115), (1115, a_callV false (fX12_tells kn) 13 1 1118), (1118, a_icmp kn b_eq 0 1521 1121), (1121, a_stk (q_int 0) 1122), (1122, a_zret), (1123, a_aload 1 1124), (1124, a_aload 0 1125), (1125, a_iload 4 1127), (1127, a_stk (q_int 1) 1128), (1128, a_stk q_iadd 1129), (1129, a_sld kn 1130), (1130, a_aload 0 1131), (1131, a_iload 4 1133), (1133, a_stk (q_int 2) 1134), (1134, a_stk q_iadd 1135), (1135, a_sld kn 1136), (1136, a_callV false (fX11_law kn) 12 3 1139), (1139, a_aload 2 1140), (1140, a_aload 0 1141), (1141, a_iload 4 1143), (1143, a_stk (q_int 1) 1144), (1144, a_stk q_iadd 1145), (1145, a_sld kn 1146), (1146, a_aload 0 1147), (1147, a_iload 4 1149), (1149, a_stk (q_int 2) 1150), (1150, a_stk q_iadd 1151), (1151, a_sld kn 1152), (1152, a_callV false (fX12_law kn) 13 3 1155), (1155, a_icmp kn b_eq 0 1521 1158), (1158, a_stk (q_int 0) 1159), (1159, a_zret), (1160, a_aload 1 1161), (1161, a_aload 0 1162), (1162, a_iload 4 1164), (1164, a_stk (q_int 1) 1165)]
set_option maxRecDepth 100000 in
set_option maxHeartbeats 4000000 in
theorem kL_law_10 (kn : sKn) : tOk kn cL_law RL 7 wsL_law 8 (some .boolean) false (tL_law_10 kn) := all_c (ok_iload dL_law_1071) (all_c (ok_stk (s_iconst dL_law_1073 (by decide))) (all_c (ok_stk (s_iadd dL_law_1074)) (all_c (ok_sld dL_law_1075) (all_c (okc_X12_orderAt (by decide) kw1256 dL_law_1076) (all_c (ok_icmp_eq dL_law_1079 (by decide)) (all_c (ok_stk (s_iconst dL_law_1082 (by decide))) (all_c (ok_zret dL_law_1083) (all_c (ok_aload_n dL_law_1084 rfl) (all_c (okc_X11_forgers (by decide) kw1260 dL_law_1085) (all_c (ok_aload_n dL_law_1088 rfl) (all_c (okc_X12_forgers (by decide) kw1264 dL_law_1089) (all_c (ok_icmp_eq dL_law_1092 (by decide)) (all_c (ok_stk (s_iconst dL_law_1095 (by decide))) (all_c (ok_zret dL_law_1096) (all_c (ok_aload_n dL_law_1097 rfl) (all_c (okc_X11_surely (by decide) kw1268 dL_law_1098) (all_c (ok_aload_n dL_law_1101 rfl) (all_c (okc_X12_surely (by decide) kw1272 dL_law_1102) (all_c (ok_icmp_eq dL_law_1105 (by decide)) (all_c (ok_stk (s_iconst dL_law_1108 (by decide))) (all_c (ok_zret dL_law_1109) (all_c (ok_aload_n dL_law_1110 rfl) (all_c (okc_X11_tells (by decide) kw1276 dL_law_1111) (all_c (ok_aload_n dL_law_1114 rfl) (all_c (okc_X12_tells (by decide) kw1280 dL_law_1115) (all_c (ok_icmp_eq dL_law_1118 (by decide)) (all_c (ok_stk (s_iconst dL_law_1121 (by decide))) (all_c (ok_zret dL_law_1122) (all_c (ok_aload_n dL_law_1123 rfl) (all_c (ok_aload_n dL_law_1124 rfl) (all_c (ok_iload dL_law_1125) (all_c (ok_stk (s_iconst dL_law_1127 (by decide))) (all_c (ok_stk (s_iadd dL_law_1128)) (all_c (ok_sld dL_law_1129) (all_c (ok_aload_n dL_law_1130 rfl) (all_c (ok_iload dL_law_1131) (all_c (ok_stk (s_iconst dL_law_1133 (by decide))) (all_c (ok_stk (s_iadd dL_law_1134)) (all_c (ok_sld dL_law_1135) (all_c (okc_X11_law (by decide) kw1284 dL_law_1136) (all_c (ok_aload_n dL_law_1139 rfl) (all_c (ok_aload_n dL_law_1140 rfl) (all_c (ok_iload dL_law_1141) (all_c (ok_stk (s_iconst dL_law_1143 (by decide))) (all_c (ok_stk (s_iadd dL_law_1144)) (all_c (ok_sld dL_law_1145) (all_c (ok_aload_n dL_law_1146 rfl) (all_c (ok_iload dL_law_1147) (all_c (ok_stk (s_iconst dL_law_1149 (by decide))) (all_c (ok_stk (s_iadd dL_law_1150)) (all_c (ok_sld dL_law_1151) (all_c (okc_X12_law (by decide) kw1288 dL_law_1152) (all_c (ok_icmp_eq dL_law_1155 (by decide)) (all_c (ok_stk (s_iconst dL_law_1158 (by decide))) (all_c (ok_zret dL_law_1159) (all_c (ok_aload_n dL_law_1160 rfl) (all_c (ok_aload_n dL_law_1161 rfl) (all_c (ok_iload dL_law_1162) (all_c (ok_stk (s_iconst dL_law_1164 (by decide))) all_n)))))))))))))))))))))))))))))))))))))))))))))))))))))))))))
def tL_law_11 (kn : sKn) : List (Nat × sA) := [(1165, a_stk q_iadd 1166), (1166, a_sld kn 1167), (1167, a_callV false (fX11_lasts kn) 12 2 1170), (1170, a_aload 2 1171), (1171, a_aload 0 1172), (1172, a_iload 4 1174), (1174, a_stk (q_int 1) 1175), (1175, a_stk q_iadd 1176), (1176, a_sld kn 1177), (1177, a_callV false (fX12_lasts kn) 13 2 1180), (1180, a_icmp kn b_eq 0 1521 1183), (1183, a_stk (q_int 0) 1184), (1184, a_zret), (1185, a_aload 1 1186), (1186, a_aload 0 1187), (1187, a_iload 4 1189), (1189, a_stk (q_int 1) 1190), (1190, a_stk q_iadd 1191), (1191, a_sld kn 1192), (1192, a_aload 0 1193), (1193, a_iload 4 1195), (1195, a_stk (q_int 2) 1196), (1196, a_stk q_iadd 1197), (1197, a_sld kn 1198), (1198, a_callV false (fX11_toll kn) 12 3 1201), (1201, a_aload 2 1202), (1202, a_aload 0 1203), (1203, a_iload 4 1205), (1205, a_stk (q_int 1) 1206), (1206, a_stk q_iadd 1207), (1207, a_sld kn 1208), (1208, a_aload 0 1209), (1209, a_iload 4 1211), (1211, a_stk (q_int 2) 1212), (1212, a_stk q_iadd 1213), (1213, a_sld kn 1214), (1214, a_callV false (fX12_toll kn) 13 3 1217), (1217, a_icmp kn b_eq 0 1521 1220), (1220, a_stk (q_int 0) 1221), (1221, a_zret), (1222, a_aload 1 1223), (1223, a_aload 0 1224), (1224, a_iload 4 1226), (1226, a_stk (q_int 1) 1227), (1227, a_stk q_iadd 1228), (1228, a_sld kn 1229), (1229, a_callV false (fX11_plate kn) 12 2 1232), (1232, a_aload 2 1233), (1233, a_aload 0 1234), (1234, a_iload 4 1236), (1236, a_stk (q_int 1) 1237), (1237, a_stk q_iadd 1238), (1238, a_sld kn 1239), (1239, a_callV false (fX12_plate kn) 13 2 1242), (1242, a_icmp kn b_eq 0 1521 1245), (1245, a_stk (q_int 0) 1246), (1246, a_zret), (1247, a_aload 1 1248), (1248, a_aload 0 1249), (1249, a_iload 4 1251)]
set_option maxRecDepth 100000 in
set_option maxHeartbeats 4000000 in
theorem kL_law_11 (kn : sKn) : tOk kn cL_law RL 7 wsL_law 8 (some .boolean) false (tL_law_11 kn) := all_c (ok_stk (s_iadd dL_law_1165)) (all_c (ok_sld dL_law_1166) (all_c (okc_X11_lasts (by decide) kw1292 dL_law_1167) (all_c (ok_aload_n dL_law_1170 rfl) (all_c (ok_aload_n dL_law_1171 rfl) (all_c (ok_iload dL_law_1172) (all_c (ok_stk (s_iconst dL_law_1174 (by decide))) (all_c (ok_stk (s_iadd dL_law_1175)) (all_c (ok_sld dL_law_1176) (all_c (okc_X12_lasts (by decide) kw1296 dL_law_1177) (all_c (ok_icmp_eq dL_law_1180 (by decide)) (all_c (ok_stk (s_iconst dL_law_1183 (by decide))) (all_c (ok_zret dL_law_1184) (all_c (ok_aload_n dL_law_1185 rfl) (all_c (ok_aload_n dL_law_1186 rfl) (all_c (ok_iload dL_law_1187) (all_c (ok_stk (s_iconst dL_law_1189 (by decide))) (all_c (ok_stk (s_iadd dL_law_1190)) (all_c (ok_sld dL_law_1191) (all_c (ok_aload_n dL_law_1192 rfl) (all_c (ok_iload dL_law_1193) (all_c (ok_stk (s_iconst dL_law_1195 (by decide))) (all_c (ok_stk (s_iadd dL_law_1196)) (all_c (ok_sld dL_law_1197) (all_c (okc_X11_toll (by decide) kw1300 dL_law_1198) (all_c (ok_aload_n dL_law_1201 rfl) (all_c (ok_aload_n dL_law_1202 rfl) (all_c (ok_iload dL_law_1203) (all_c (ok_stk (s_iconst dL_law_1205 (by decide))) (all_c (ok_stk (s_iadd dL_law_1206)) (all_c (ok_sld dL_law_1207) (all_c (ok_aload_n dL_law_1208 rfl) (all_c (ok_iload dL_law_1209) (all_c (ok_stk (s_iconst dL_law_1211 (by decide))) (all_c (ok_stk (s_iadd dL_law_1212)) (all_c (ok_sld dL_law_1213) (all_c (okc_X12_toll (by decide) kw1304 dL_law_1214) (all_c (ok_icmp_eq dL_law_1217 (by decide)) (all_c (ok_stk (s_iconst dL_law_1220 (by decide))) (all_c (ok_zret dL_law_1221) (all_c (ok_aload_n dL_law_1222 rfl) (all_c (ok_aload_n dL_law_1223 rfl) (all_c (ok_iload dL_law_1224) (all_c (ok_stk (s_iconst dL_law_1226 (by decide))) (all_c (ok_stk (s_iadd dL_law_1227)) (all_c (ok_sld dL_law_1228) (all_c (okc_X11_plate (by decide) kw1308 dL_law_1229) (all_c (ok_aload_n dL_law_1232 rfl) (all_c (ok_aload_n dL_law_1233 rfl) (all_c (ok_iload dL_law_1234) (all_c (ok_stk (s_iconst dL_law_1236 (by decide))) (all_c (ok_stk (s_iadd dL_law_1237)) (all_c (ok_sld dL_law_1238) (all_c (okc_X12_plate (by decide) kw1312 dL_law_1239) (all_c (ok_icmp_eq dL_law_1242 (by decide)) (all_c (ok_stk (s_iconst dL_law_1245 (by decide))) (all_c (ok_zret dL_law_1246) (all_c (ok_aload_n dL_law_1247 rfl) (all_c (ok_aload_n dL_law_1248 rfl) (all_c (ok_iload dL_law_1249) all_n)))))))))))))))))))))))))))))))))))))))))))))))))))))))))))
def tL_law_12 (kn : sKn) : List (Nat × sA) := [(1251, a_stk (q_int 1) 1252), (1252, a_stk q_iadd 1253), (1253, a_sld kn 1254), (1254, a_callV false (fX11_byteAt kn) 12 2 1257), (1257, a_aload 2 1258), (1258, a_aload 0 1259), (1259, a_iload 4 1261), (1261, a_stk (q_int 1) 1262), (1262, a_stk q_iadd 1263), (1263, a_sld kn 1264), (1264, a_callV false (fX12_byteAt kn) 13 2 1267), (1267, a_icmp kn b_eq 0 1521 1270), (1270, a_stk (q_int 0) 1271), (1271, a_zret), (1272, a_aload 1 1273), (1273, a_aload 0 1274), (1274, a_iload 4 1276), (1276, a_stk (q_int 1) 1277), (1277, a_stk q_iadd 1278), (1278, a_sld kn 1279), (1279, a_aload 0 1280), (1280, a_iload 4 1282), (1282, a_stk (q_int 2) 1283), (1283, a_stk q_iadd 1284), (1284, a_sld kn 1285), (1285, a_callV false (fX11_drawn kn) 12 3 1288), (1288, a_aload 2 1289), (1289, a_aload 0 1290), (1290, a_iload 4 1292), (1292, a_stk (q_int 1) 1293), (1293, a_stk q_iadd 1294), (1294, a_sld kn 1295), (1295, a_aload 0 1296), (1296, a_iload 4 1298), (1298, a_stk (q_int 2) 1299), (1299, a_stk q_iadd 1300), (1300, a_sld kn 1301), (1301, a_callV false (fX12_drawn kn) 13 3 1304), (1304, a_icmp kn b_eq 0 1521 1307), (1307, a_stk (q_int 0) 1308), (1308, a_zret), (1309, a_aload 1 1310), (1310, a_aload 0 1311), (1311, a_iload 4 1313), (1313, a_stk (q_int 1) 1314), (1314, a_stk q_iadd 1315), (1315, a_sld kn 1316), (1316, a_aload 0 1317), (1317, a_iload 4 1319), (1319, a_stk (q_int 2) 1320), (1320, a_stk q_iadd 1321), (1321, a_sld kn 1322), (1322, a_aload 0 1323), (1323, a_iload 4 1325), (1325, a_stk (q_int 3) 1326), (1326, a_stk q_iadd 1327), (1327, a_sld kn 1328), (1328, a_callV false (fX11_odds kn) 12 4 1331), (1331, a_aload 2 1332), (1332, a_aload 0 1333)]
set_option maxRecDepth 100000 in
set_option maxHeartbeats 4000000 in
theorem kL_law_12 (kn : sKn) : tOk kn cL_law RL 7 wsL_law 8 (some .boolean) false (tL_law_12 kn) := all_c (ok_stk (s_iconst dL_law_1251 (by decide))) (all_c (ok_stk (s_iadd dL_law_1252)) (all_c (ok_sld dL_law_1253) (all_c (okc_X11_byteAt (by decide) kw1316 dL_law_1254) (all_c (ok_aload_n dL_law_1257 rfl) (all_c (ok_aload_n dL_law_1258 rfl) (all_c (ok_iload dL_law_1259) (all_c (ok_stk (s_iconst dL_law_1261 (by decide))) (all_c (ok_stk (s_iadd dL_law_1262)) (all_c (ok_sld dL_law_1263) (all_c (okc_X12_byteAt (by decide) kw1320 dL_law_1264) (all_c (ok_icmp_eq dL_law_1267 (by decide)) (all_c (ok_stk (s_iconst dL_law_1270 (by decide))) (all_c (ok_zret dL_law_1271) (all_c (ok_aload_n dL_law_1272 rfl) (all_c (ok_aload_n dL_law_1273 rfl) (all_c (ok_iload dL_law_1274) (all_c (ok_stk (s_iconst dL_law_1276 (by decide))) (all_c (ok_stk (s_iadd dL_law_1277)) (all_c (ok_sld dL_law_1278) (all_c (ok_aload_n dL_law_1279 rfl) (all_c (ok_iload dL_law_1280) (all_c (ok_stk (s_iconst dL_law_1282 (by decide))) (all_c (ok_stk (s_iadd dL_law_1283)) (all_c (ok_sld dL_law_1284) (all_c (okc_X11_drawn (by decide) kw1324 dL_law_1285) (all_c (ok_aload_n dL_law_1288 rfl) (all_c (ok_aload_n dL_law_1289 rfl) (all_c (ok_iload dL_law_1290) (all_c (ok_stk (s_iconst dL_law_1292 (by decide))) (all_c (ok_stk (s_iadd dL_law_1293)) (all_c (ok_sld dL_law_1294) (all_c (ok_aload_n dL_law_1295 rfl) (all_c (ok_iload dL_law_1296) (all_c (ok_stk (s_iconst dL_law_1298 (by decide))) (all_c (ok_stk (s_iadd dL_law_1299)) (all_c (ok_sld dL_law_1300) (all_c (okc_X12_drawn (by decide) kw1328 dL_law_1301) (all_c (ok_icmp_eq dL_law_1304 (by decide)) (all_c (ok_stk (s_iconst dL_law_1307 (by decide))) (all_c (ok_zret dL_law_1308) (all_c (ok_aload_n dL_law_1309 rfl) (all_c (ok_aload_n dL_law_1310 rfl) (all_c (ok_iload dL_law_1311) (all_c (ok_stk (s_iconst dL_law_1313 (by decide))) (all_c (ok_stk (s_iadd dL_law_1314)) (all_c (ok_sld dL_law_1315) (all_c (ok_aload_n dL_law_1316 rfl) (all_c (ok_iload dL_law_1317) (all_c (ok_stk (s_iconst dL_law_1319 (by decide))) (all_c (ok_stk (s_iadd dL_law_1320)) (all_c (ok_sld dL_law_1321) (all_c (ok_aload_n dL_law_1322 rfl) (all_c (ok_iload dL_law_1323) (all_c (ok_stk (s_iconst dL_law_1325 (by decide))) (all_c (ok_stk (s_iadd dL_law_1326)) (all_c (ok_sld dL_law_1327) (all_c (okc_X11_odds (by decide) kw1332 dL_law_1328) (all_c (ok_aload_n dL_law_1331 rfl) (all_c (ok_aload_n dL_law_1332 rfl) all_n)))))))))))))))))))))))))))))))))))))))))))))))))))))))))))
def tL_law_13 (kn : sKn) : List (Nat × sA) := [(1333, a_iload 4 1335), (1335, a_stk (q_int 1) 1336), (1336, a_stk q_iadd 1337), (1337, a_sld kn 1338), (1338, a_aload 0 1339), (1339, a_iload 4 1341), (1341, a_stk (q_int 2) 1342), (1342, a_stk q_iadd 1343), (1343, a_sld kn 1344), (1344, a_aload 0 1345), (1345, a_iload 4 1347), (1347, a_stk (q_int 3) 1348), (1348, a_stk q_iadd 1349), (1349, a_sld kn 1350), (1350, a_callV false (fX12_odds kn) 13 4 1353), (1353, a_icmp kn b_eq 0 1521 1356), (1356, a_stk (q_int 0) 1357), (1357, a_zret), (1358, a_aload 1 1359), (1359, a_aload 0 1360), (1360, a_iload 4 1362), (1362, a_stk (q_int 1) 1363), (1363, a_stk q_iadd 1364), (1364, a_sld kn 1365), (1365, a_callV false (fX11_book kn) 12 2 1368), (1368, a_aload 2 1369), (1369, a_aload 0 1370), (1370, a_iload 4 1372), (1372, a_stk (q_int 1) 1373), (1373, a_stk q_iadd 1374), (1374, a_sld kn 1375), (1375, a_callV false (fX12_book kn) 13 2 1378), (1378, a_icmp kn b_eq 0 1521 1381), (1381, a_stk (q_int 0) 1382), (1382, a_zret), (1383, a_aload 1 1384), (1384, a_aload 0 1385), (1385, a_iload 4 1387), (1387, a_stk (q_int 1) 1388), (1388, a_stk q_iadd 1389), (1389, a_sld kn 1390), (1390, a_callV false (fX11_told kn) 12 2 1393), (1393, a_aload 2 1394), (1394, a_aload 0 1395), (1395, a_iload 4 1397), (1397, a_stk (q_int 1) 1398), (1398, a_stk q_iadd 1399), (1399, a_sld kn 1400), (1400, a_callV false (fX12_told kn) 13 2 1403), (1403, a_icmp kn b_eq 0 1521 1406), (1406, a_stk (q_int 0) 1407), (1407, a_zret), (1408, a_aload 1 1409), (1409, a_callV false (fX11_sentence kn) 12 1 1412), (1412, a_aload 2 1413), (1413, a_callV false (fX12_sentence kn) 13 1 1416), (1416, a_icmp kn b_eq 0 1521 1419), (1419, a_stk (q_int 0) 1420), (1420, a_zret), (1421, a_aload 1 1422)]
set_option maxRecDepth 100000 in
set_option maxHeartbeats 4000000 in
theorem kL_law_13 (kn : sKn) : tOk kn cL_law RL 7 wsL_law 8 (some .boolean) false (tL_law_13 kn) := all_c (ok_iload dL_law_1333) (all_c (ok_stk (s_iconst dL_law_1335 (by decide))) (all_c (ok_stk (s_iadd dL_law_1336)) (all_c (ok_sld dL_law_1337) (all_c (ok_aload_n dL_law_1338 rfl) (all_c (ok_iload dL_law_1339) (all_c (ok_stk (s_iconst dL_law_1341 (by decide))) (all_c (ok_stk (s_iadd dL_law_1342)) (all_c (ok_sld dL_law_1343) (all_c (ok_aload_n dL_law_1344 rfl) (all_c (ok_iload dL_law_1345) (all_c (ok_stk (s_iconst dL_law_1347 (by decide))) (all_c (ok_stk (s_iadd dL_law_1348)) (all_c (ok_sld dL_law_1349) (all_c (okc_X12_odds (by decide) kw1336 dL_law_1350) (all_c (ok_icmp_eq dL_law_1353 (by decide)) (all_c (ok_stk (s_iconst dL_law_1356 (by decide))) (all_c (ok_zret dL_law_1357) (all_c (ok_aload_n dL_law_1358 rfl) (all_c (ok_aload_n dL_law_1359 rfl) (all_c (ok_iload dL_law_1360) (all_c (ok_stk (s_iconst dL_law_1362 (by decide))) (all_c (ok_stk (s_iadd dL_law_1363)) (all_c (ok_sld dL_law_1364) (all_c (okc_X11_book (by decide) kw1340 dL_law_1365) (all_c (ok_aload_n dL_law_1368 rfl) (all_c (ok_aload_n dL_law_1369 rfl) (all_c (ok_iload dL_law_1370) (all_c (ok_stk (s_iconst dL_law_1372 (by decide))) (all_c (ok_stk (s_iadd dL_law_1373)) (all_c (ok_sld dL_law_1374) (all_c (okc_X12_book (by decide) kw1344 dL_law_1375) (all_c (ok_icmp_eq dL_law_1378 (by decide)) (all_c (ok_stk (s_iconst dL_law_1381 (by decide))) (all_c (ok_zret dL_law_1382) (all_c (ok_aload_n dL_law_1383 rfl) (all_c (ok_aload_n dL_law_1384 rfl) (all_c (ok_iload dL_law_1385) (all_c (ok_stk (s_iconst dL_law_1387 (by decide))) (all_c (ok_stk (s_iadd dL_law_1388)) (all_c (ok_sld dL_law_1389) (all_c (okc_X11_told (by decide) kw1348 dL_law_1390) (all_c (ok_aload_n dL_law_1393 rfl) (all_c (ok_aload_n dL_law_1394 rfl) (all_c (ok_iload dL_law_1395) (all_c (ok_stk (s_iconst dL_law_1397 (by decide))) (all_c (ok_stk (s_iadd dL_law_1398)) (all_c (ok_sld dL_law_1399) (all_c (okc_X12_told (by decide) kw1352 dL_law_1400) (all_c (ok_icmp_eq dL_law_1403 (by decide)) (all_c (ok_stk (s_iconst dL_law_1406 (by decide))) (all_c (ok_zret dL_law_1407) (all_c (ok_aload_n dL_law_1408 rfl) (all_c (okc_X11_sentence (by decide) kw1356 dL_law_1409) (all_c (ok_aload_n dL_law_1412 rfl) (all_c (okc_X12_sentence (by decide) kw1360 dL_law_1413) (all_c (ok_icmp_eq dL_law_1416 (by decide)) (all_c (ok_stk (s_iconst dL_law_1419 (by decide))) (all_c (ok_zret dL_law_1420) (all_c (ok_aload_n dL_law_1421 rfl) all_n)))))))))))))))))))))))))))))))))))))))))))))))))))))))))))
def tL_law_14 (kn : sKn) : List (Nat × sA) := [(1422, a_aload 0 1423), (1423, a_iload 4 1425), (1425, a_stk (q_int 1) 1426), (1426, a_stk q_iadd 1427), (1427, a_sld kn 1428), (1428, a_callV false (fX11_said kn) 12 2 1431), (1431, a_aload 2 1432), (1432, a_aload 0 1433), (1433, a_iload 4 1435), (1435, a_stk (q_int 1) 1436), (1436, a_stk q_iadd 1437), (1437, a_sld kn 1438), (1438, a_callV false (fX12_said kn) 13 2 1441), (1441, a_icmp kn b_eq 0 1521 1444), (1444, a_stk (q_int 0) 1445), (1445, a_zret), (1446, a_aload 1 1447), (1447, a_aload 0 1448), (1448, a_iload 4 1450), (1450, a_stk (q_int 1) 1451), (1451, a_stk q_iadd 1452), (1452, a_sld kn 1453), (1453, a_callV false (fX11_image kn) 12 2 1456), (1456, a_aload 2 1457), (1457, a_aload 0 1458), (1458, a_iload 4 1460), (1460, a_stk (q_int 1) 1461), (1461, a_stk q_iadd 1462), (1462, a_sld kn 1463), (1463, a_callV false (fX12_image kn) 13 2 1466), (1466, a_icmp kn b_eq 0 1521 1469), (1469, a_stk (q_int 0) 1470), (1470, a_zret), (1471, a_aload 1 1472), (1472, a_aload 0 1473), (1473, a_iload 4 1475), (1475, a_stk (q_int 1) 1476), (1476, a_stk q_iadd 1477), (1477, a_sld kn 1478), (1478, a_callV false (fX11_restore kn) 12 2 1481), (1481, a_aload 2 1482), (1482, a_aload 0 1483), (1483, a_iload 4 1485), (1485, a_stk (q_int 1) 1486), (1486, a_stk q_iadd 1487), (1487, a_sld kn 1488), (1488, a_callV false (fX12_restore kn) 13 2 1491), (1491, a_icmp kn b_eq 0 1521 1494), (1494, a_stk (q_int 0) 1495), (1495, a_zret), (1496, a_aload 1 1497), (1497, a_aload 0 1498), (1498, a_iload 4 1500), (1500, a_stk (q_int 1) 1501), (1501, a_stk q_iadd 1502), (1502, a_sld kn 1503), (1503, a_callV false (fX11_count kn) 12 2 1506), (1506, a_aload 2 1507), (1507, a_aload 0 1508), (1508, a_iload 4 1510)]
set_option maxRecDepth 100000 in
set_option maxHeartbeats 4000000 in
theorem kL_law_14 (kn : sKn) : tOk kn cL_law RL 7 wsL_law 8 (some .boolean) false (tL_law_14 kn) := all_c (ok_aload_n dL_law_1422 rfl) (all_c (ok_iload dL_law_1423) (all_c (ok_stk (s_iconst dL_law_1425 (by decide))) (all_c (ok_stk (s_iadd dL_law_1426)) (all_c (ok_sld dL_law_1427) (all_c (okc_X11_said (by decide) kw1364 dL_law_1428) (all_c (ok_aload_n dL_law_1431 rfl) (all_c (ok_aload_n dL_law_1432 rfl) (all_c (ok_iload dL_law_1433) (all_c (ok_stk (s_iconst dL_law_1435 (by decide))) (all_c (ok_stk (s_iadd dL_law_1436)) (all_c (ok_sld dL_law_1437) (all_c (okc_X12_said (by decide) kw1368 dL_law_1438) (all_c (ok_icmp_eq dL_law_1441 (by decide)) (all_c (ok_stk (s_iconst dL_law_1444 (by decide))) (all_c (ok_zret dL_law_1445) (all_c (ok_aload_n dL_law_1446 rfl) (all_c (ok_aload_n dL_law_1447 rfl) (all_c (ok_iload dL_law_1448) (all_c (ok_stk (s_iconst dL_law_1450 (by decide))) (all_c (ok_stk (s_iadd dL_law_1451)) (all_c (ok_sld dL_law_1452) (all_c (okc_X11_image (by decide) kw1372 dL_law_1453) (all_c (ok_aload_n dL_law_1456 rfl) (all_c (ok_aload_n dL_law_1457 rfl) (all_c (ok_iload dL_law_1458) (all_c (ok_stk (s_iconst dL_law_1460 (by decide))) (all_c (ok_stk (s_iadd dL_law_1461)) (all_c (ok_sld dL_law_1462) (all_c (okc_X12_image (by decide) kw1376 dL_law_1463) (all_c (ok_icmp_eq dL_law_1466 (by decide)) (all_c (ok_stk (s_iconst dL_law_1469 (by decide))) (all_c (ok_zret dL_law_1470) (all_c (ok_aload_n dL_law_1471 rfl) (all_c (ok_aload_n dL_law_1472 rfl) (all_c (ok_iload dL_law_1473) (all_c (ok_stk (s_iconst dL_law_1475 (by decide))) (all_c (ok_stk (s_iadd dL_law_1476)) (all_c (ok_sld dL_law_1477) (all_c (okc_X11_restore (by decide) kw1380 dL_law_1478) (all_c (ok_aload_n dL_law_1481 rfl) (all_c (ok_aload_n dL_law_1482 rfl) (all_c (ok_iload dL_law_1483) (all_c (ok_stk (s_iconst dL_law_1485 (by decide))) (all_c (ok_stk (s_iadd dL_law_1486)) (all_c (ok_sld dL_law_1487) (all_c (okc_X12_restore (by decide) kw1384 dL_law_1488) (all_c (ok_icmp_eq dL_law_1491 (by decide)) (all_c (ok_stk (s_iconst dL_law_1494 (by decide))) (all_c (ok_zret dL_law_1495) (all_c (ok_aload_n dL_law_1496 rfl) (all_c (ok_aload_n dL_law_1497 rfl) (all_c (ok_iload dL_law_1498) (all_c (ok_stk (s_iconst dL_law_1500 (by decide))) (all_c (ok_stk (s_iadd dL_law_1501)) (all_c (ok_sld dL_law_1502) (all_c (okc_X11_count (by decide) kw1388 dL_law_1503) (all_c (ok_aload_n dL_law_1506 rfl) (all_c (ok_aload_n dL_law_1507 rfl) (all_c (ok_iload dL_law_1508) all_n)))))))))))))))))))))))))))))))))))))))))))))))))))))))))))
def tL_law_15 (kn : sKn) : List (Nat × sA) := [(1510, a_stk (q_int 1) 1511), (1511, a_stk q_iadd 1512), (1512, a_sld kn 1513), (1513, a_callV false (fX12_count kn) 13 2 1516), (1516, a_icmp kn b_eq 0 1521 1519), (1519, a_stk (q_int 0) 1520), (1520, a_zret), (1521, a_iinc 4 6 1524), (1524, a_goto 23), (1527, a_stk (q_int 1) 1528), (1528, a_zret)]
set_option maxRecDepth 100000 in
set_option maxHeartbeats 4000000 in
theorem kL_law_15 (kn : sKn) : tOk kn cL_law RL 7 wsL_law 8 (some .boolean) false (tL_law_15 kn) := all_c (ok_stk (s_iconst dL_law_1510 (by decide))) (all_c (ok_stk (s_iadd dL_law_1511)) (all_c (ok_sld dL_law_1512) (all_c (okc_X12_count (by decide) kw1392 dL_law_1513) (all_c (ok_icmp_eq dL_law_1516 (by decide)) (all_c (ok_stk (s_iconst dL_law_1519 (by decide))) (all_c (ok_zret dL_law_1520) (all_c (ok_iinc dL_law_1521 (by decide) (by decide)) (all_c (ok_goto dL_law_1524 (by decide)) (all_c (ok_stk (s_iconst dL_law_1527 (by decide))) (all_c (ok_zret dL_law_1528) all_n))))))))))
/-- a table behind a table -/
def la_app (a b : List (Nat × sA)) : List (Nat × sA) := List.rec (motive := fun _ => List (Nat × sA)) b (fun x _ ih => x :: ih) a
theorem tOk_app {kn : sKn} {cc : ByteArray} {own : String} {nL : Nat} {Ts : List Cond} {D : Nat} {ret : Option FieldType} {ini : Bool} {a b : List (Nat × sA)} (ha : tOk kn cc own nL Ts D ret ini a) (hb : tOk kn cc own nL Ts D ret ini b) : tOk kn cc own nL Ts D ret ini (la_app a b) := by
  induction a with
  | nil => exact hb
  | cons x a ih =>
    intro q hq
    have hq : q ∈ x :: la_app a b := hq
    rcases List.mem_cons.mp hq with h | h
    · rw [h]
      exact ha x List.mem_cons_self
    · exact ih (fun q hq => ha q (List.mem_cons_of_mem _ hq)) q h
def tL_law (kn : sKn) : List (Nat × sA) := la_app (tL_law_0 kn) (la_app (tL_law_1 kn) (la_app (tL_law_2 kn) (la_app (tL_law_3 kn) (la_app (tL_law_4 kn) (la_app (tL_law_5 kn) (la_app (tL_law_6 kn) (la_app (tL_law_7 kn) (la_app (tL_law_8 kn) (la_app (tL_law_9 kn) (la_app (tL_law_10 kn) (la_app (tL_law_11 kn) (la_app (tL_law_12 kn) (la_app (tL_law_13 kn) (la_app (tL_law_14 kn) (tL_law_15 kn)))))))))))))))
theorem kL_law (kn : sKn) : tOk kn cL_law RL 7 wsL_law 8 (some .boolean) false (tL_law kn) := tOk_app (kL_law_0 kn) (tOk_app (kL_law_1 kn) (tOk_app (kL_law_2 kn) (tOk_app (kL_law_3 kn) (tOk_app (kL_law_4 kn) (tOk_app (kL_law_5 kn) (tOk_app (kL_law_6 kn) (tOk_app (kL_law_7 kn) (tOk_app (kL_law_8 kn) (tOk_app (kL_law_9 kn) (tOk_app (kL_law_10 kn) (tOk_app (kL_law_11 kn) (tOk_app (kL_law_12 kn) (tOk_app (kL_law_13 kn) (tOk_app (kL_law_14 kn) (kL_law_15 kn)))))))))))))))
end
