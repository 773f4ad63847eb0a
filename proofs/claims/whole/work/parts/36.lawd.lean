/-! the law: its rows decoded -/
theorem dl_0 : decode code 0 = .ok (.new 8, 3) := by decide +kernel
theorem dl_3 : decode code 3 = .ok (.dup, 1) := by decide +kernel
theorem dl_4 : decode code 4 = .ok (.invokespecial 17, 3) := by decide +kernel
theorem dl_7 : decode code 7 = .ok (.astore_n 1, 1) := by decide +kernel
theorem dl_8 : decode code 8 = .ok (.new 18, 3) := by decide +kernel
theorem dl_11 : decode code 11 = .ok (.dup, 1) := by decide +kernel
theorem dl_12 : decode code 12 = .ok (.invokespecial 20, 3) := by decide +kernel
theorem dl_15 : decode code 15 = .ok (.astore_n 2, 1) := by decide +kernel
theorem dl_16 : decode code 16 = .ok (.iconst 1, 1) := by decide +kernel
theorem dl_17 : decode code 17 = .ok (.newarray .long, 2) := by decide +kernel
theorem dl_19 : decode code 19 = .ok (.astore_n 3, 1) := by decide +kernel
theorem dl_20 : decode code 20 = .ok (.iconst 0, 1) := by decide +kernel
theorem dl_21 : decode code 21 = .ok (.istore 4, 2) := by decide +kernel
theorem dl_23 : decode code 23 = .ok (.iload 4, 2) := by decide +kernel
theorem dl_25 : decode code 25 = .ok (.aload_n 0, 1) := by decide +kernel
theorem dl_26 : decode code 26 = .ok (.arraylength, 1) := by decide +kernel
theorem dl_27 : decode code 27 = .ok (.bipush 6, 2) := by decide +kernel
theorem dl_29 : decode code 29 = .ok (.isub, 1) := by decide +kernel
theorem dl_30 : decode code 30 = .ok (.if_icmp .gt 1337, 3) := by decide +kernel
theorem dl_33 : decode code 33 = .ok (.aload_n 0, 1) := by decide +kernel
theorem dl_34 : decode code 34 = .ok (.iload 4, 2) := by decide +kernel
theorem dl_36 : decode code 36 = .ok (.iaload, 1) := by decide +kernel
theorem dl_37 : decode code 37 = .ok (.bipush 63, 2) := by decide +kernel
theorem dl_39 : decode code 39 = .ok (.iand, 1) := by decide +kernel
theorem dl_40 : decode code 40 = .ok (.tableswitch 1321 0 38 #[172, 197, 234, 271, 296, 321, 346, 359, 384, 421, 446, 483, 520, 557, 570, 583, 596, 633, 658, 683, 720, 733, 746, 771, 796, 821, 858, 883, 908, 933, 946, 959, 984, 1033, 1082, 1131, 1198, 1271, 1296], 172) := by decide +kernel
theorem dl_212 : decode code 212 = .ok (.aload_n 1, 1) := by decide +kernel
theorem dl_213 : decode code 213 = .ok (.aload_n 0, 1) := by decide +kernel
theorem dl_214 : decode code 214 = .ok (.iload 4, 2) := by decide +kernel
theorem dl_216 : decode code 216 = .ok (.iconst 1, 1) := by decide +kernel
theorem dl_217 : decode code 217 = .ok (.iadd, 1) := by decide +kernel
theorem dl_218 : decode code 218 = .ok (.iaload, 1) := by decide +kernel
theorem dl_219 : decode code 219 = .ok (.invokevirtual 21, 3) := by decide +kernel
theorem dl_222 : decode code 222 = .ok (.aload_n 2, 1) := by decide +kernel
theorem dl_223 : decode code 223 = .ok (.aload_n 0, 1) := by decide +kernel
theorem dl_224 : decode code 224 = .ok (.iload 4, 2) := by decide +kernel
theorem dl_226 : decode code 226 = .ok (.iconst 1, 1) := by decide +kernel
theorem dl_227 : decode code 227 = .ok (.iadd, 1) := by decide +kernel
theorem dl_228 : decode code 228 = .ok (.iaload, 1) := by decide +kernel
theorem dl_229 : decode code 229 = .ok (.invokevirtual 25, 3) := by decide +kernel
theorem dl_232 : decode code 232 = .ok (.if_icmp .eq 1129, 3) := by decide +kernel
theorem dl_235 : decode code 235 = .ok (.iconst 0, 1) := by decide +kernel
theorem dl_236 : decode code 236 = .ok (.ireturn, 1) := by decide +kernel
theorem dl_237 : decode code 237 = .ok (.aload_n 1, 1) := by decide +kernel
theorem dl_238 : decode code 238 = .ok (.aload_n 0, 1) := by decide +kernel
theorem dl_239 : decode code 239 = .ok (.iload 4, 2) := by decide +kernel
theorem dl_241 : decode code 241 = .ok (.iconst 1, 1) := by decide +kernel
theorem dl_242 : decode code 242 = .ok (.iadd, 1) := by decide +kernel
theorem dl_243 : decode code 243 = .ok (.iaload, 1) := by decide +kernel
theorem dl_244 : decode code 244 = .ok (.aload_n 0, 1) := by decide +kernel
theorem dl_245 : decode code 245 = .ok (.iload 4, 2) := by decide +kernel
theorem dl_247 : decode code 247 = .ok (.iconst 2, 1) := by decide +kernel
theorem dl_248 : decode code 248 = .ok (.iadd, 1) := by decide +kernel
theorem dl_249 : decode code 249 = .ok (.iaload, 1) := by decide +kernel
theorem dl_250 : decode code 250 = .ok (.invokevirtual 26, 3) := by decide +kernel
theorem dl_253 : decode code 253 = .ok (.aload_n 2, 1) := by decide +kernel
theorem dl_254 : decode code 254 = .ok (.aload_n 0, 1) := by decide +kernel
theorem dl_255 : decode code 255 = .ok (.iload 4, 2) := by decide +kernel
theorem dl_257 : decode code 257 = .ok (.iconst 1, 1) := by decide +kernel
theorem dl_258 : decode code 258 = .ok (.iadd, 1) := by decide +kernel
theorem dl_259 : decode code 259 = .ok (.iaload, 1) := by decide +kernel
theorem dl_260 : decode code 260 = .ok (.aload_n 0, 1) := by decide +kernel
theorem dl_261 : decode code 261 = .ok (.iload 4, 2) := by decide +kernel
theorem dl_263 : decode code 263 = .ok (.iconst 2, 1) := by decide +kernel
theorem dl_264 : decode code 264 = .ok (.iadd, 1) := by decide +kernel
theorem dl_265 : decode code 265 = .ok (.iaload, 1) := by decide +kernel
theorem dl_266 : decode code 266 = .ok (.invokevirtual 30, 3) := by decide +kernel
theorem dl_269 : decode code 269 = .ok (.if_icmp .eq 1092, 3) := by decide +kernel
theorem dl_272 : decode code 272 = .ok (.iconst 0, 1) := by decide +kernel
theorem dl_273 : decode code 273 = .ok (.ireturn, 1) := by decide +kernel
theorem dl_274 : decode code 274 = .ok (.aload_n 1, 1) := by decide +kernel
theorem dl_275 : decode code 275 = .ok (.aload_n 0, 1) := by decide +kernel
theorem dl_276 : decode code 276 = .ok (.iload 4, 2) := by decide +kernel
theorem dl_278 : decode code 278 = .ok (.iconst 1, 1) := by decide +kernel
theorem dl_279 : decode code 279 = .ok (.iadd, 1) := by decide +kernel
theorem dl_280 : decode code 280 = .ok (.iaload, 1) := by decide +kernel
theorem dl_281 : decode code 281 = .ok (.aload_n 0, 1) := by decide +kernel
theorem dl_282 : decode code 282 = .ok (.iload 4, 2) := by decide +kernel
theorem dl_284 : decode code 284 = .ok (.iconst 2, 1) := by decide +kernel
theorem dl_285 : decode code 285 = .ok (.iadd, 1) := by decide +kernel
theorem dl_286 : decode code 286 = .ok (.iaload, 1) := by decide +kernel
theorem dl_287 : decode code 287 = .ok (.invokevirtual 31, 3) := by decide +kernel
theorem dl_290 : decode code 290 = .ok (.aload_n 2, 1) := by decide +kernel
theorem dl_291 : decode code 291 = .ok (.aload_n 0, 1) := by decide +kernel
theorem dl_292 : decode code 292 = .ok (.iload 4, 2) := by decide +kernel
theorem dl_294 : decode code 294 = .ok (.iconst 1, 1) := by decide +kernel
theorem dl_295 : decode code 295 = .ok (.iadd, 1) := by decide +kernel
theorem dl_296 : decode code 296 = .ok (.iaload, 1) := by decide +kernel
theorem dl_297 : decode code 297 = .ok (.aload_n 0, 1) := by decide +kernel
theorem dl_298 : decode code 298 = .ok (.iload 4, 2) := by decide +kernel
theorem dl_300 : decode code 300 = .ok (.iconst 2, 1) := by decide +kernel
theorem dl_301 : decode code 301 = .ok (.iadd, 1) := by decide +kernel
theorem dl_302 : decode code 302 = .ok (.iaload, 1) := by decide +kernel
theorem dl_303 : decode code 303 = .ok (.invokevirtual 34, 3) := by decide +kernel
theorem dl_306 : decode code 306 = .ok (.if_icmp .eq 1055, 3) := by decide +kernel
theorem dl_309 : decode code 309 = .ok (.iconst 0, 1) := by decide +kernel
theorem dl_310 : decode code 310 = .ok (.ireturn, 1) := by decide +kernel
theorem dl_311 : decode code 311 = .ok (.aload_n 1, 1) := by decide +kernel
theorem dl_312 : decode code 312 = .ok (.aload_n 0, 1) := by decide +kernel
theorem dl_313 : decode code 313 = .ok (.iload 4, 2) := by decide +kernel
theorem dl_315 : decode code 315 = .ok (.iconst 1, 1) := by decide +kernel
theorem dl_316 : decode code 316 = .ok (.iadd, 1) := by decide +kernel
theorem dl_317 : decode code 317 = .ok (.iaload, 1) := by decide +kernel
theorem dl_318 : decode code 318 = .ok (.invokevirtual 35, 3) := by decide +kernel
theorem dl_321 : decode code 321 = .ok (.aload_n 2, 1) := by decide +kernel
theorem dl_322 : decode code 322 = .ok (.aload_n 0, 1) := by decide +kernel
theorem dl_323 : decode code 323 = .ok (.iload 4, 2) := by decide +kernel
theorem dl_325 : decode code 325 = .ok (.iconst 1, 1) := by decide +kernel
theorem dl_326 : decode code 326 = .ok (.iadd, 1) := by decide +kernel
theorem dl_327 : decode code 327 = .ok (.iaload, 1) := by decide +kernel
theorem dl_328 : decode code 328 = .ok (.invokevirtual 38, 3) := by decide +kernel
theorem dl_331 : decode code 331 = .ok (.if_icmp .eq 1030, 3) := by decide +kernel
theorem dl_334 : decode code 334 = .ok (.iconst 0, 1) := by decide +kernel
theorem dl_335 : decode code 335 = .ok (.ireturn, 1) := by decide +kernel
theorem dl_336 : decode code 336 = .ok (.aload_n 1, 1) := by decide +kernel
theorem dl_337 : decode code 337 = .ok (.aload_n 0, 1) := by decide +kernel
theorem dl_338 : decode code 338 = .ok (.iload 4, 2) := by decide +kernel
theorem dl_340 : decode code 340 = .ok (.iconst 1, 1) := by decide +kernel
theorem dl_341 : decode code 341 = .ok (.iadd, 1) := by decide +kernel
theorem dl_342 : decode code 342 = .ok (.iaload, 1) := by decide +kernel
theorem dl_343 : decode code 343 = .ok (.invokevirtual 39, 3) := by decide +kernel
theorem dl_346 : decode code 346 = .ok (.aload_n 2, 1) := by decide +kernel
theorem dl_347 : decode code 347 = .ok (.aload_n 0, 1) := by decide +kernel
theorem dl_348 : decode code 348 = .ok (.iload 4, 2) := by decide +kernel
theorem dl_350 : decode code 350 = .ok (.iconst 1, 1) := by decide +kernel
theorem dl_351 : decode code 351 = .ok (.iadd, 1) := by decide +kernel
theorem dl_352 : decode code 352 = .ok (.iaload, 1) := by decide +kernel
theorem dl_353 : decode code 353 = .ok (.invokevirtual 42, 3) := by decide +kernel
theorem dl_356 : decode code 356 = .ok (.if_icmp .eq 1005, 3) := by decide +kernel
theorem dl_359 : decode code 359 = .ok (.iconst 0, 1) := by decide +kernel
theorem dl_360 : decode code 360 = .ok (.ireturn, 1) := by decide +kernel
theorem dl_361 : decode code 361 = .ok (.aload_n 1, 1) := by decide +kernel
theorem dl_362 : decode code 362 = .ok (.aload_n 0, 1) := by decide +kernel
theorem dl_363 : decode code 363 = .ok (.iload 4, 2) := by decide +kernel
theorem dl_365 : decode code 365 = .ok (.iconst 1, 1) := by decide +kernel
theorem dl_366 : decode code 366 = .ok (.iadd, 1) := by decide +kernel
theorem dl_367 : decode code 367 = .ok (.iaload, 1) := by decide +kernel
theorem dl_368 : decode code 368 = .ok (.invokevirtual 43, 3) := by decide +kernel
theorem dl_371 : decode code 371 = .ok (.aload_n 2, 1) := by decide +kernel
theorem dl_372 : decode code 372 = .ok (.aload_n 0, 1) := by decide +kernel
theorem dl_373 : decode code 373 = .ok (.iload 4, 2) := by decide +kernel
theorem dl_375 : decode code 375 = .ok (.iconst 1, 1) := by decide +kernel
theorem dl_376 : decode code 376 = .ok (.iadd, 1) := by decide +kernel
theorem dl_377 : decode code 377 = .ok (.iaload, 1) := by decide +kernel
theorem dl_378 : decode code 378 = .ok (.invokevirtual 46, 3) := by decide +kernel
theorem dl_381 : decode code 381 = .ok (.if_icmp .eq 980, 3) := by decide +kernel
theorem dl_384 : decode code 384 = .ok (.iconst 0, 1) := by decide +kernel
theorem dl_385 : decode code 385 = .ok (.ireturn, 1) := by decide +kernel
theorem dl_386 : decode code 386 = .ok (.aload_n 1, 1) := by decide +kernel
theorem dl_387 : decode code 387 = .ok (.invokevirtual 47, 3) := by decide +kernel
theorem dl_390 : decode code 390 = .ok (.aload_n 2, 1) := by decide +kernel
theorem dl_391 : decode code 391 = .ok (.invokevirtual 51, 3) := by decide +kernel
theorem dl_394 : decode code 394 = .ok (.if_icmp .eq 967, 3) := by decide +kernel
theorem dl_397 : decode code 397 = .ok (.iconst 0, 1) := by decide +kernel
theorem dl_398 : decode code 398 = .ok (.ireturn, 1) := by decide +kernel
theorem dl_399 : decode code 399 = .ok (.aload_n 1, 1) := by decide +kernel
theorem dl_400 : decode code 400 = .ok (.aload_n 0, 1) := by decide +kernel
theorem dl_401 : decode code 401 = .ok (.iload 4, 2) := by decide +kernel
theorem dl_403 : decode code 403 = .ok (.iconst 1, 1) := by decide +kernel
theorem dl_404 : decode code 404 = .ok (.iadd, 1) := by decide +kernel
theorem dl_405 : decode code 405 = .ok (.iaload, 1) := by decide +kernel
theorem dl_406 : decode code 406 = .ok (.invokevirtual 52, 3) := by decide +kernel
theorem dl_409 : decode code 409 = .ok (.aload_n 2, 1) := by decide +kernel
theorem dl_410 : decode code 410 = .ok (.aload_n 0, 1) := by decide +kernel
theorem dl_411 : decode code 411 = .ok (.iload 4, 2) := by decide +kernel
theorem dl_413 : decode code 413 = .ok (.iconst 1, 1) := by decide +kernel
theorem dl_414 : decode code 414 = .ok (.iadd, 1) := by decide +kernel
theorem dl_415 : decode code 415 = .ok (.iaload, 1) := by decide +kernel
theorem dl_416 : decode code 416 = .ok (.invokevirtual 55, 3) := by decide +kernel
theorem dl_419 : decode code 419 = .ok (.if_icmp .eq 942, 3) := by decide +kernel
theorem dl_422 : decode code 422 = .ok (.iconst 0, 1) := by decide +kernel
theorem dl_423 : decode code 423 = .ok (.ireturn, 1) := by decide +kernel
theorem dl_424 : decode code 424 = .ok (.aload_n 1, 1) := by decide +kernel
theorem dl_425 : decode code 425 = .ok (.aload_n 0, 1) := by decide +kernel
theorem dl_426 : decode code 426 = .ok (.iload 4, 2) := by decide +kernel
theorem dl_428 : decode code 428 = .ok (.iconst 1, 1) := by decide +kernel
theorem dl_429 : decode code 429 = .ok (.iadd, 1) := by decide +kernel
theorem dl_430 : decode code 430 = .ok (.iaload, 1) := by decide +kernel
theorem dl_431 : decode code 431 = .ok (.aload_n 0, 1) := by decide +kernel
theorem dl_432 : decode code 432 = .ok (.iload 4, 2) := by decide +kernel
theorem dl_434 : decode code 434 = .ok (.iconst 2, 1) := by decide +kernel
theorem dl_435 : decode code 435 = .ok (.iadd, 1) := by decide +kernel
theorem dl_436 : decode code 436 = .ok (.iaload, 1) := by decide +kernel
theorem dl_437 : decode code 437 = .ok (.invokevirtual 56, 3) := by decide +kernel
theorem dl_440 : decode code 440 = .ok (.aload_n 2, 1) := by decide +kernel
theorem dl_441 : decode code 441 = .ok (.aload_n 0, 1) := by decide +kernel
theorem dl_442 : decode code 442 = .ok (.iload 4, 2) := by decide +kernel
theorem dl_444 : decode code 444 = .ok (.iconst 1, 1) := by decide +kernel
theorem dl_445 : decode code 445 = .ok (.iadd, 1) := by decide +kernel
theorem dl_446 : decode code 446 = .ok (.iaload, 1) := by decide +kernel
theorem dl_447 : decode code 447 = .ok (.aload_n 0, 1) := by decide +kernel
theorem dl_448 : decode code 448 = .ok (.iload 4, 2) := by decide +kernel
theorem dl_450 : decode code 450 = .ok (.iconst 2, 1) := by decide +kernel
theorem dl_451 : decode code 451 = .ok (.iadd, 1) := by decide +kernel
theorem dl_452 : decode code 452 = .ok (.iaload, 1) := by decide +kernel
theorem dl_453 : decode code 453 = .ok (.invokevirtual 59, 3) := by decide +kernel
theorem dl_456 : decode code 456 = .ok (.if_icmp .eq 905, 3) := by decide +kernel
theorem dl_459 : decode code 459 = .ok (.iconst 0, 1) := by decide +kernel
theorem dl_460 : decode code 460 = .ok (.ireturn, 1) := by decide +kernel
theorem dl_461 : decode code 461 = .ok (.aload_n 1, 1) := by decide +kernel
theorem dl_462 : decode code 462 = .ok (.aload_n 0, 1) := by decide +kernel
theorem dl_463 : decode code 463 = .ok (.iload 4, 2) := by decide +kernel
theorem dl_465 : decode code 465 = .ok (.iconst 1, 1) := by decide +kernel
theorem dl_466 : decode code 466 = .ok (.iadd, 1) := by decide +kernel
theorem dl_467 : decode code 467 = .ok (.iaload, 1) := by decide +kernel
theorem dl_468 : decode code 468 = .ok (.invokevirtual 60, 3) := by decide +kernel
theorem dl_471 : decode code 471 = .ok (.aload_n 2, 1) := by decide +kernel
theorem dl_472 : decode code 472 = .ok (.aload_n 0, 1) := by decide +kernel
theorem dl_473 : decode code 473 = .ok (.iload 4, 2) := by decide +kernel
theorem dl_475 : decode code 475 = .ok (.iconst 1, 1) := by decide +kernel
theorem dl_476 : decode code 476 = .ok (.iadd, 1) := by decide +kernel
theorem dl_477 : decode code 477 = .ok (.iaload, 1) := by decide +kernel
theorem dl_478 : decode code 478 = .ok (.invokevirtual 63, 3) := by decide +kernel
theorem dl_481 : decode code 481 = .ok (.if_icmp .eq 880, 3) := by decide +kernel
theorem dl_484 : decode code 484 = .ok (.iconst 0, 1) := by decide +kernel
theorem dl_485 : decode code 485 = .ok (.ireturn, 1) := by decide +kernel
theorem dl_486 : decode code 486 = .ok (.aload_n 1, 1) := by decide +kernel
theorem dl_487 : decode code 487 = .ok (.aload_n 0, 1) := by decide +kernel
theorem dl_488 : decode code 488 = .ok (.iload 4, 2) := by decide +kernel
theorem dl_490 : decode code 490 = .ok (.iconst 1, 1) := by decide +kernel
theorem dl_491 : decode code 491 = .ok (.iadd, 1) := by decide +kernel
theorem dl_492 : decode code 492 = .ok (.iaload, 1) := by decide +kernel
theorem dl_493 : decode code 493 = .ok (.aload_n 0, 1) := by decide +kernel
theorem dl_494 : decode code 494 = .ok (.iload 4, 2) := by decide +kernel
theorem dl_496 : decode code 496 = .ok (.iconst 2, 1) := by decide +kernel
theorem dl_497 : decode code 497 = .ok (.iadd, 1) := by decide +kernel
theorem dl_498 : decode code 498 = .ok (.iaload, 1) := by decide +kernel
theorem dl_499 : decode code 499 = .ok (.invokevirtual 64, 3) := by decide +kernel
theorem dl_502 : decode code 502 = .ok (.aload_n 2, 1) := by decide +kernel
theorem dl_503 : decode code 503 = .ok (.aload_n 0, 1) := by decide +kernel
theorem dl_504 : decode code 504 = .ok (.iload 4, 2) := by decide +kernel
theorem dl_506 : decode code 506 = .ok (.iconst 1, 1) := by decide +kernel
theorem dl_507 : decode code 507 = .ok (.iadd, 1) := by decide +kernel
theorem dl_508 : decode code 508 = .ok (.iaload, 1) := by decide +kernel
theorem dl_509 : decode code 509 = .ok (.aload_n 0, 1) := by decide +kernel
theorem dl_510 : decode code 510 = .ok (.iload 4, 2) := by decide +kernel
theorem dl_512 : decode code 512 = .ok (.iconst 2, 1) := by decide +kernel
theorem dl_513 : decode code 513 = .ok (.iadd, 1) := by decide +kernel
theorem dl_514 : decode code 514 = .ok (.iaload, 1) := by decide +kernel
theorem dl_515 : decode code 515 = .ok (.invokevirtual 67, 3) := by decide +kernel
theorem dl_518 : decode code 518 = .ok (.if_icmp .eq 843, 3) := by decide +kernel
theorem dl_521 : decode code 521 = .ok (.iconst 0, 1) := by decide +kernel
theorem dl_522 : decode code 522 = .ok (.ireturn, 1) := by decide +kernel
theorem dl_523 : decode code 523 = .ok (.aload_n 1, 1) := by decide +kernel
theorem dl_524 : decode code 524 = .ok (.aload_n 0, 1) := by decide +kernel
theorem dl_525 : decode code 525 = .ok (.iload 4, 2) := by decide +kernel
theorem dl_527 : decode code 527 = .ok (.iconst 1, 1) := by decide +kernel
theorem dl_528 : decode code 528 = .ok (.iadd, 1) := by decide +kernel
theorem dl_529 : decode code 529 = .ok (.iaload, 1) := by decide +kernel
theorem dl_530 : decode code 530 = .ok (.aload_n 0, 1) := by decide +kernel
theorem dl_531 : decode code 531 = .ok (.iload 4, 2) := by decide +kernel
theorem dl_533 : decode code 533 = .ok (.iconst 2, 1) := by decide +kernel
theorem dl_534 : decode code 534 = .ok (.iadd, 1) := by decide +kernel
theorem dl_535 : decode code 535 = .ok (.iaload, 1) := by decide +kernel
theorem dl_536 : decode code 536 = .ok (.invokevirtual 68, 3) := by decide +kernel
theorem dl_539 : decode code 539 = .ok (.aload_n 2, 1) := by decide +kernel
theorem dl_540 : decode code 540 = .ok (.aload_n 0, 1) := by decide +kernel
theorem dl_541 : decode code 541 = .ok (.iload 4, 2) := by decide +kernel
theorem dl_543 : decode code 543 = .ok (.iconst 1, 1) := by decide +kernel
theorem dl_544 : decode code 544 = .ok (.iadd, 1) := by decide +kernel
theorem dl_545 : decode code 545 = .ok (.iaload, 1) := by decide +kernel
theorem dl_546 : decode code 546 = .ok (.aload_n 0, 1) := by decide +kernel
theorem dl_547 : decode code 547 = .ok (.iload 4, 2) := by decide +kernel
theorem dl_549 : decode code 549 = .ok (.iconst 2, 1) := by decide +kernel
theorem dl_550 : decode code 550 = .ok (.iadd, 1) := by decide +kernel
theorem dl_551 : decode code 551 = .ok (.iaload, 1) := by decide +kernel
theorem dl_552 : decode code 552 = .ok (.invokevirtual 71, 3) := by decide +kernel
theorem dl_555 : decode code 555 = .ok (.if_icmp .eq 806, 3) := by decide +kernel
theorem dl_558 : decode code 558 = .ok (.iconst 0, 1) := by decide +kernel
theorem dl_559 : decode code 559 = .ok (.ireturn, 1) := by decide +kernel
theorem dl_560 : decode code 560 = .ok (.aload_n 1, 1) := by decide +kernel
theorem dl_561 : decode code 561 = .ok (.aload_n 0, 1) := by decide +kernel
theorem dl_562 : decode code 562 = .ok (.iload 4, 2) := by decide +kernel
theorem dl_564 : decode code 564 = .ok (.iconst 1, 1) := by decide +kernel
theorem dl_565 : decode code 565 = .ok (.iadd, 1) := by decide +kernel
theorem dl_566 : decode code 566 = .ok (.iaload, 1) := by decide +kernel
theorem dl_567 : decode code 567 = .ok (.aload_n 0, 1) := by decide +kernel
theorem dl_568 : decode code 568 = .ok (.iload 4, 2) := by decide +kernel
theorem dl_570 : decode code 570 = .ok (.iconst 2, 1) := by decide +kernel
theorem dl_571 : decode code 571 = .ok (.iadd, 1) := by decide +kernel
theorem dl_572 : decode code 572 = .ok (.iaload, 1) := by decide +kernel
theorem dl_573 : decode code 573 = .ok (.invokevirtual 72, 3) := by decide +kernel
theorem dl_576 : decode code 576 = .ok (.aload_n 2, 1) := by decide +kernel
theorem dl_577 : decode code 577 = .ok (.aload_n 0, 1) := by decide +kernel
theorem dl_578 : decode code 578 = .ok (.iload 4, 2) := by decide +kernel
theorem dl_580 : decode code 580 = .ok (.iconst 1, 1) := by decide +kernel
theorem dl_581 : decode code 581 = .ok (.iadd, 1) := by decide +kernel
theorem dl_582 : decode code 582 = .ok (.iaload, 1) := by decide +kernel
theorem dl_583 : decode code 583 = .ok (.aload_n 0, 1) := by decide +kernel
theorem dl_584 : decode code 584 = .ok (.iload 4, 2) := by decide +kernel
theorem dl_586 : decode code 586 = .ok (.iconst 2, 1) := by decide +kernel
theorem dl_587 : decode code 587 = .ok (.iadd, 1) := by decide +kernel
theorem dl_588 : decode code 588 = .ok (.iaload, 1) := by decide +kernel
theorem dl_589 : decode code 589 = .ok (.invokevirtual 75, 3) := by decide +kernel
theorem dl_592 : decode code 592 = .ok (.if_icmp .eq 769, 3) := by decide +kernel
theorem dl_595 : decode code 595 = .ok (.iconst 0, 1) := by decide +kernel
theorem dl_596 : decode code 596 = .ok (.ireturn, 1) := by decide +kernel
theorem dl_597 : decode code 597 = .ok (.aload_n 1, 1) := by decide +kernel
theorem dl_598 : decode code 598 = .ok (.invokevirtual 76, 3) := by decide +kernel
theorem dl_601 : decode code 601 = .ok (.aload_n 2, 1) := by decide +kernel
theorem dl_602 : decode code 602 = .ok (.invokevirtual 79, 3) := by decide +kernel
theorem dl_605 : decode code 605 = .ok (.if_icmp .eq 756, 3) := by decide +kernel
theorem dl_608 : decode code 608 = .ok (.iconst 0, 1) := by decide +kernel
theorem dl_609 : decode code 609 = .ok (.ireturn, 1) := by decide +kernel
theorem dl_610 : decode code 610 = .ok (.aload_n 1, 1) := by decide +kernel
theorem dl_611 : decode code 611 = .ok (.invokevirtual 80, 3) := by decide +kernel
theorem dl_614 : decode code 614 = .ok (.aload_n 2, 1) := by decide +kernel
theorem dl_615 : decode code 615 = .ok (.invokevirtual 83, 3) := by decide +kernel
theorem dl_618 : decode code 618 = .ok (.if_icmp .eq 743, 3) := by decide +kernel
theorem dl_621 : decode code 621 = .ok (.iconst 0, 1) := by decide +kernel
theorem dl_622 : decode code 622 = .ok (.ireturn, 1) := by decide +kernel
theorem dl_623 : decode code 623 = .ok (.aload_n 1, 1) := by decide +kernel
theorem dl_624 : decode code 624 = .ok (.invokevirtual 84, 3) := by decide +kernel
theorem dl_627 : decode code 627 = .ok (.aload_n 2, 1) := by decide +kernel
theorem dl_628 : decode code 628 = .ok (.invokevirtual 87, 3) := by decide +kernel
theorem dl_631 : decode code 631 = .ok (.if_icmp .eq 730, 3) := by decide +kernel
theorem dl_634 : decode code 634 = .ok (.iconst 0, 1) := by decide +kernel
theorem dl_635 : decode code 635 = .ok (.ireturn, 1) := by decide +kernel
theorem dl_636 : decode code 636 = .ok (.aload_n 1, 1) := by decide +kernel
theorem dl_637 : decode code 637 = .ok (.aload_n 0, 1) := by decide +kernel
theorem dl_638 : decode code 638 = .ok (.iload 4, 2) := by decide +kernel
theorem dl_640 : decode code 640 = .ok (.iconst 1, 1) := by decide +kernel
theorem dl_641 : decode code 641 = .ok (.iadd, 1) := by decide +kernel
theorem dl_642 : decode code 642 = .ok (.iaload, 1) := by decide +kernel
theorem dl_643 : decode code 643 = .ok (.aload_n 0, 1) := by decide +kernel
theorem dl_644 : decode code 644 = .ok (.iload 4, 2) := by decide +kernel
theorem dl_646 : decode code 646 = .ok (.iconst 2, 1) := by decide +kernel
theorem dl_647 : decode code 647 = .ok (.iadd, 1) := by decide +kernel
theorem dl_648 : decode code 648 = .ok (.iaload, 1) := by decide +kernel
theorem dl_649 : decode code 649 = .ok (.invokevirtual 88, 3) := by decide +kernel
theorem dl_652 : decode code 652 = .ok (.aload_n 2, 1) := by decide +kernel
theorem dl_653 : decode code 653 = .ok (.aload_n 0, 1) := by decide +kernel
theorem dl_654 : decode code 654 = .ok (.iload 4, 2) := by decide +kernel
theorem dl_656 : decode code 656 = .ok (.iconst 1, 1) := by decide +kernel
theorem dl_657 : decode code 657 = .ok (.iadd, 1) := by decide +kernel
theorem dl_658 : decode code 658 = .ok (.iaload, 1) := by decide +kernel
theorem dl_659 : decode code 659 = .ok (.aload_n 0, 1) := by decide +kernel
theorem dl_660 : decode code 660 = .ok (.iload 4, 2) := by decide +kernel
theorem dl_662 : decode code 662 = .ok (.iconst 2, 1) := by decide +kernel
theorem dl_663 : decode code 663 = .ok (.iadd, 1) := by decide +kernel
theorem dl_664 : decode code 664 = .ok (.iaload, 1) := by decide +kernel
theorem dl_665 : decode code 665 = .ok (.invokevirtual 91, 3) := by decide +kernel
theorem dl_668 : decode code 668 = .ok (.if_icmp .eq 693, 3) := by decide +kernel
theorem dl_671 : decode code 671 = .ok (.iconst 0, 1) := by decide +kernel
theorem dl_672 : decode code 672 = .ok (.ireturn, 1) := by decide +kernel
theorem dl_673 : decode code 673 = .ok (.aload_n 1, 1) := by decide +kernel
theorem dl_674 : decode code 674 = .ok (.aload_n 0, 1) := by decide +kernel
theorem dl_675 : decode code 675 = .ok (.iload 4, 2) := by decide +kernel
theorem dl_677 : decode code 677 = .ok (.iconst 1, 1) := by decide +kernel
theorem dl_678 : decode code 678 = .ok (.iadd, 1) := by decide +kernel
theorem dl_679 : decode code 679 = .ok (.iaload, 1) := by decide +kernel
theorem dl_680 : decode code 680 = .ok (.invokevirtual 92, 3) := by decide +kernel
theorem dl_683 : decode code 683 = .ok (.aload_n 2, 1) := by decide +kernel
theorem dl_684 : decode code 684 = .ok (.aload_n 0, 1) := by decide +kernel
theorem dl_685 : decode code 685 = .ok (.iload 4, 2) := by decide +kernel
theorem dl_687 : decode code 687 = .ok (.iconst 1, 1) := by decide +kernel
theorem dl_688 : decode code 688 = .ok (.iadd, 1) := by decide +kernel
theorem dl_689 : decode code 689 = .ok (.iaload, 1) := by decide +kernel
theorem dl_690 : decode code 690 = .ok (.invokevirtual 95, 3) := by decide +kernel
theorem dl_693 : decode code 693 = .ok (.if_icmp .eq 668, 3) := by decide +kernel
theorem dl_696 : decode code 696 = .ok (.iconst 0, 1) := by decide +kernel
theorem dl_697 : decode code 697 = .ok (.ireturn, 1) := by decide +kernel
theorem dl_698 : decode code 698 = .ok (.aload_n 1, 1) := by decide +kernel
theorem dl_699 : decode code 699 = .ok (.aload_n 0, 1) := by decide +kernel
theorem dl_700 : decode code 700 = .ok (.iload 4, 2) := by decide +kernel
theorem dl_702 : decode code 702 = .ok (.iconst 1, 1) := by decide +kernel
theorem dl_703 : decode code 703 = .ok (.iadd, 1) := by decide +kernel
theorem dl_704 : decode code 704 = .ok (.iaload, 1) := by decide +kernel
theorem dl_705 : decode code 705 = .ok (.invokevirtual 96, 3) := by decide +kernel
theorem dl_708 : decode code 708 = .ok (.aload_n 2, 1) := by decide +kernel
theorem dl_709 : decode code 709 = .ok (.aload_n 0, 1) := by decide +kernel
theorem dl_710 : decode code 710 = .ok (.iload 4, 2) := by decide +kernel
theorem dl_712 : decode code 712 = .ok (.iconst 1, 1) := by decide +kernel
theorem dl_713 : decode code 713 = .ok (.iadd, 1) := by decide +kernel
theorem dl_714 : decode code 714 = .ok (.iaload, 1) := by decide +kernel
theorem dl_715 : decode code 715 = .ok (.invokevirtual 99, 3) := by decide +kernel
theorem dl_718 : decode code 718 = .ok (.if_icmp .eq 643, 3) := by decide +kernel
theorem dl_721 : decode code 721 = .ok (.iconst 0, 1) := by decide +kernel
theorem dl_722 : decode code 722 = .ok (.ireturn, 1) := by decide +kernel
theorem dl_723 : decode code 723 = .ok (.aload_n 1, 1) := by decide +kernel
theorem dl_724 : decode code 724 = .ok (.aload_n 0, 1) := by decide +kernel
theorem dl_725 : decode code 725 = .ok (.iload 4, 2) := by decide +kernel
theorem dl_727 : decode code 727 = .ok (.iconst 1, 1) := by decide +kernel
theorem dl_728 : decode code 728 = .ok (.iadd, 1) := by decide +kernel
theorem dl_729 : decode code 729 = .ok (.iaload, 1) := by decide +kernel
theorem dl_730 : decode code 730 = .ok (.aload_n 0, 1) := by decide +kernel
theorem dl_731 : decode code 731 = .ok (.iload 4, 2) := by decide +kernel
theorem dl_733 : decode code 733 = .ok (.iconst 2, 1) := by decide +kernel
theorem dl_734 : decode code 734 = .ok (.iadd, 1) := by decide +kernel
theorem dl_735 : decode code 735 = .ok (.iaload, 1) := by decide +kernel
theorem dl_736 : decode code 736 = .ok (.invokevirtual 100, 3) := by decide +kernel
theorem dl_739 : decode code 739 = .ok (.aload_n 2, 1) := by decide +kernel
theorem dl_740 : decode code 740 = .ok (.aload_n 0, 1) := by decide +kernel
theorem dl_741 : decode code 741 = .ok (.iload 4, 2) := by decide +kernel
theorem dl_743 : decode code 743 = .ok (.iconst 1, 1) := by decide +kernel
theorem dl_744 : decode code 744 = .ok (.iadd, 1) := by decide +kernel
theorem dl_745 : decode code 745 = .ok (.iaload, 1) := by decide +kernel
theorem dl_746 : decode code 746 = .ok (.aload_n 0, 1) := by decide +kernel
theorem dl_747 : decode code 747 = .ok (.iload 4, 2) := by decide +kernel
theorem dl_749 : decode code 749 = .ok (.iconst 2, 1) := by decide +kernel
theorem dl_750 : decode code 750 = .ok (.iadd, 1) := by decide +kernel
theorem dl_751 : decode code 751 = .ok (.iaload, 1) := by decide +kernel
theorem dl_752 : decode code 752 = .ok (.invokevirtual 103, 3) := by decide +kernel
theorem dl_755 : decode code 755 = .ok (.if_icmp .eq 606, 3) := by decide +kernel
theorem dl_758 : decode code 758 = .ok (.iconst 0, 1) := by decide +kernel
theorem dl_759 : decode code 759 = .ok (.ireturn, 1) := by decide +kernel
theorem dl_760 : decode code 760 = .ok (.aload_n 1, 1) := by decide +kernel
theorem dl_761 : decode code 761 = .ok (.invokevirtual 104, 3) := by decide +kernel
theorem dl_764 : decode code 764 = .ok (.aload_n 2, 1) := by decide +kernel
theorem dl_765 : decode code 765 = .ok (.invokevirtual 107, 3) := by decide +kernel
theorem dl_768 : decode code 768 = .ok (.if_icmp .eq 593, 3) := by decide +kernel
theorem dl_771 : decode code 771 = .ok (.iconst 0, 1) := by decide +kernel
theorem dl_772 : decode code 772 = .ok (.ireturn, 1) := by decide +kernel
theorem dl_773 : decode code 773 = .ok (.aload_n 1, 1) := by decide +kernel
theorem dl_774 : decode code 774 = .ok (.invokevirtual 108, 3) := by decide +kernel
theorem dl_777 : decode code 777 = .ok (.aload_n 2, 1) := by decide +kernel
theorem dl_778 : decode code 778 = .ok (.invokevirtual 111, 3) := by decide +kernel
theorem dl_781 : decode code 781 = .ok (.if_icmp .eq 580, 3) := by decide +kernel
theorem dl_784 : decode code 784 = .ok (.iconst 0, 1) := by decide +kernel
theorem dl_785 : decode code 785 = .ok (.ireturn, 1) := by decide +kernel
theorem dl_786 : decode code 786 = .ok (.aload_n 1, 1) := by decide +kernel
theorem dl_787 : decode code 787 = .ok (.aload_n 0, 1) := by decide +kernel
theorem dl_788 : decode code 788 = .ok (.iload 4, 2) := by decide +kernel
theorem dl_790 : decode code 790 = .ok (.iconst 1, 1) := by decide +kernel
theorem dl_791 : decode code 791 = .ok (.iadd, 1) := by decide +kernel
theorem dl_792 : decode code 792 = .ok (.iaload, 1) := by decide +kernel
theorem dl_793 : decode code 793 = .ok (.invokevirtual 112, 3) := by decide +kernel
theorem dl_796 : decode code 796 = .ok (.aload_n 2, 1) := by decide +kernel
theorem dl_797 : decode code 797 = .ok (.aload_n 0, 1) := by decide +kernel
theorem dl_798 : decode code 798 = .ok (.iload 4, 2) := by decide +kernel
theorem dl_800 : decode code 800 = .ok (.iconst 1, 1) := by decide +kernel
theorem dl_801 : decode code 801 = .ok (.iadd, 1) := by decide +kernel
theorem dl_802 : decode code 802 = .ok (.iaload, 1) := by decide +kernel
theorem dl_803 : decode code 803 = .ok (.invokevirtual 115, 3) := by decide +kernel
theorem dl_806 : decode code 806 = .ok (.if_icmp .eq 555, 3) := by decide +kernel
theorem dl_809 : decode code 809 = .ok (.iconst 0, 1) := by decide +kernel
theorem dl_810 : decode code 810 = .ok (.ireturn, 1) := by decide +kernel
theorem dl_811 : decode code 811 = .ok (.aload_n 1, 1) := by decide +kernel
theorem dl_812 : decode code 812 = .ok (.aload_n 0, 1) := by decide +kernel
theorem dl_813 : decode code 813 = .ok (.iload 4, 2) := by decide +kernel
theorem dl_815 : decode code 815 = .ok (.iconst 1, 1) := by decide +kernel
theorem dl_816 : decode code 816 = .ok (.iadd, 1) := by decide +kernel
theorem dl_817 : decode code 817 = .ok (.iaload, 1) := by decide +kernel
theorem dl_818 : decode code 818 = .ok (.invokevirtual 116, 3) := by decide +kernel
theorem dl_821 : decode code 821 = .ok (.aload_n 2, 1) := by decide +kernel
theorem dl_822 : decode code 822 = .ok (.aload_n 0, 1) := by decide +kernel
theorem dl_823 : decode code 823 = .ok (.iload 4, 2) := by decide +kernel
theorem dl_825 : decode code 825 = .ok (.iconst 1, 1) := by decide +kernel
theorem dl_826 : decode code 826 = .ok (.iadd, 1) := by decide +kernel
theorem dl_827 : decode code 827 = .ok (.iaload, 1) := by decide +kernel
theorem dl_828 : decode code 828 = .ok (.invokevirtual 119, 3) := by decide +kernel
theorem dl_831 : decode code 831 = .ok (.if_icmp .eq 530, 3) := by decide +kernel
theorem dl_834 : decode code 834 = .ok (.iconst 0, 1) := by decide +kernel
theorem dl_835 : decode code 835 = .ok (.ireturn, 1) := by decide +kernel
theorem dl_836 : decode code 836 = .ok (.aload_n 1, 1) := by decide +kernel
theorem dl_837 : decode code 837 = .ok (.aload_n 0, 1) := by decide +kernel
theorem dl_838 : decode code 838 = .ok (.iload 4, 2) := by decide +kernel
theorem dl_840 : decode code 840 = .ok (.iconst 1, 1) := by decide +kernel
theorem dl_841 : decode code 841 = .ok (.iadd, 1) := by decide +kernel
theorem dl_842 : decode code 842 = .ok (.iaload, 1) := by decide +kernel
theorem dl_843 : decode code 843 = .ok (.invokevirtual 120, 3) := by decide +kernel
theorem dl_846 : decode code 846 = .ok (.aload_n 2, 1) := by decide +kernel
theorem dl_847 : decode code 847 = .ok (.aload_n 0, 1) := by decide +kernel
theorem dl_848 : decode code 848 = .ok (.iload 4, 2) := by decide +kernel
theorem dl_850 : decode code 850 = .ok (.iconst 1, 1) := by decide +kernel
theorem dl_851 : decode code 851 = .ok (.iadd, 1) := by decide +kernel
theorem dl_852 : decode code 852 = .ok (.iaload, 1) := by decide +kernel
theorem dl_853 : decode code 853 = .ok (.invokevirtual 123, 3) := by decide +kernel
theorem dl_856 : decode code 856 = .ok (.if_icmp .eq 505, 3) := by decide +kernel
theorem dl_859 : decode code 859 = .ok (.iconst 0, 1) := by decide +kernel
theorem dl_860 : decode code 860 = .ok (.ireturn, 1) := by decide +kernel
theorem dl_861 : decode code 861 = .ok (.aload_n 1, 1) := by decide +kernel
theorem dl_862 : decode code 862 = .ok (.aload_n 0, 1) := by decide +kernel
theorem dl_863 : decode code 863 = .ok (.iload 4, 2) := by decide +kernel
theorem dl_865 : decode code 865 = .ok (.iconst 1, 1) := by decide +kernel
theorem dl_866 : decode code 866 = .ok (.iadd, 1) := by decide +kernel
theorem dl_867 : decode code 867 = .ok (.iaload, 1) := by decide +kernel
theorem dl_868 : decode code 868 = .ok (.aload_n 0, 1) := by decide +kernel
theorem dl_869 : decode code 869 = .ok (.iload 4, 2) := by decide +kernel
theorem dl_871 : decode code 871 = .ok (.iconst 2, 1) := by decide +kernel
theorem dl_872 : decode code 872 = .ok (.iadd, 1) := by decide +kernel
theorem dl_873 : decode code 873 = .ok (.iaload, 1) := by decide +kernel
theorem dl_874 : decode code 874 = .ok (.invokevirtual 124, 3) := by decide +kernel
theorem dl_877 : decode code 877 = .ok (.aload_n 2, 1) := by decide +kernel
theorem dl_878 : decode code 878 = .ok (.aload_n 0, 1) := by decide +kernel
theorem dl_879 : decode code 879 = .ok (.iload 4, 2) := by decide +kernel
theorem dl_881 : decode code 881 = .ok (.iconst 1, 1) := by decide +kernel
theorem dl_882 : decode code 882 = .ok (.iadd, 1) := by decide +kernel
theorem dl_883 : decode code 883 = .ok (.iaload, 1) := by decide +kernel
theorem dl_884 : decode code 884 = .ok (.aload_n 0, 1) := by decide +kernel
theorem dl_885 : decode code 885 = .ok (.iload 4, 2) := by decide +kernel
theorem dl_887 : decode code 887 = .ok (.iconst 2, 1) := by decide +kernel
theorem dl_888 : decode code 888 = .ok (.iadd, 1) := by decide +kernel
theorem dl_889 : decode code 889 = .ok (.iaload, 1) := by decide +kernel
theorem dl_890 : decode code 890 = .ok (.invokevirtual 127, 3) := by decide +kernel
theorem dl_893 : decode code 893 = .ok (.if_icmp .eq 468, 3) := by decide +kernel
theorem dl_896 : decode code 896 = .ok (.iconst 0, 1) := by decide +kernel
theorem dl_897 : decode code 897 = .ok (.ireturn, 1) := by decide +kernel
theorem dl_898 : decode code 898 = .ok (.aload_n 1, 1) := by decide +kernel
theorem dl_899 : decode code 899 = .ok (.aload_n 0, 1) := by decide +kernel
theorem dl_900 : decode code 900 = .ok (.iload 4, 2) := by decide +kernel
theorem dl_902 : decode code 902 = .ok (.iconst 1, 1) := by decide +kernel
theorem dl_903 : decode code 903 = .ok (.iadd, 1) := by decide +kernel
theorem dl_904 : decode code 904 = .ok (.iaload, 1) := by decide +kernel
theorem dl_905 : decode code 905 = .ok (.invokevirtual 128, 3) := by decide +kernel
theorem dl_908 : decode code 908 = .ok (.aload_n 2, 1) := by decide +kernel
theorem dl_909 : decode code 909 = .ok (.aload_n 0, 1) := by decide +kernel
theorem dl_910 : decode code 910 = .ok (.iload 4, 2) := by decide +kernel
theorem dl_912 : decode code 912 = .ok (.iconst 1, 1) := by decide +kernel
theorem dl_913 : decode code 913 = .ok (.iadd, 1) := by decide +kernel
theorem dl_914 : decode code 914 = .ok (.iaload, 1) := by decide +kernel
theorem dl_915 : decode code 915 = .ok (.invokevirtual 131, 3) := by decide +kernel
theorem dl_918 : decode code 918 = .ok (.if_icmp .eq 443, 3) := by decide +kernel
theorem dl_921 : decode code 921 = .ok (.iconst 0, 1) := by decide +kernel
theorem dl_922 : decode code 922 = .ok (.ireturn, 1) := by decide +kernel
theorem dl_923 : decode code 923 = .ok (.aload_n 1, 1) := by decide +kernel
theorem dl_924 : decode code 924 = .ok (.aload_n 0, 1) := by decide +kernel
theorem dl_925 : decode code 925 = .ok (.iload 4, 2) := by decide +kernel
theorem dl_927 : decode code 927 = .ok (.iconst 1, 1) := by decide +kernel
theorem dl_928 : decode code 928 = .ok (.iadd, 1) := by decide +kernel
theorem dl_929 : decode code 929 = .ok (.iaload, 1) := by decide +kernel
theorem dl_930 : decode code 930 = .ok (.invokevirtual 132, 3) := by decide +kernel
theorem dl_933 : decode code 933 = .ok (.aload_n 2, 1) := by decide +kernel
theorem dl_934 : decode code 934 = .ok (.aload_n 0, 1) := by decide +kernel
theorem dl_935 : decode code 935 = .ok (.iload 4, 2) := by decide +kernel
theorem dl_937 : decode code 937 = .ok (.iconst 1, 1) := by decide +kernel
theorem dl_938 : decode code 938 = .ok (.iadd, 1) := by decide +kernel
theorem dl_939 : decode code 939 = .ok (.iaload, 1) := by decide +kernel
theorem dl_940 : decode code 940 = .ok (.invokevirtual 135, 3) := by decide +kernel
theorem dl_943 : decode code 943 = .ok (.if_icmp .eq 418, 3) := by decide +kernel
theorem dl_946 : decode code 946 = .ok (.iconst 0, 1) := by decide +kernel
theorem dl_947 : decode code 947 = .ok (.ireturn, 1) := by decide +kernel
theorem dl_948 : decode code 948 = .ok (.aload_n 1, 1) := by decide +kernel
theorem dl_949 : decode code 949 = .ok (.aload_n 0, 1) := by decide +kernel
theorem dl_950 : decode code 950 = .ok (.iload 4, 2) := by decide +kernel
theorem dl_952 : decode code 952 = .ok (.iconst 1, 1) := by decide +kernel
theorem dl_953 : decode code 953 = .ok (.iadd, 1) := by decide +kernel
theorem dl_954 : decode code 954 = .ok (.iaload, 1) := by decide +kernel
theorem dl_955 : decode code 955 = .ok (.invokevirtual 136, 3) := by decide +kernel
theorem dl_958 : decode code 958 = .ok (.aload_n 2, 1) := by decide +kernel
theorem dl_959 : decode code 959 = .ok (.aload_n 0, 1) := by decide +kernel
theorem dl_960 : decode code 960 = .ok (.iload 4, 2) := by decide +kernel
theorem dl_962 : decode code 962 = .ok (.iconst 1, 1) := by decide +kernel
theorem dl_963 : decode code 963 = .ok (.iadd, 1) := by decide +kernel
theorem dl_964 : decode code 964 = .ok (.iaload, 1) := by decide +kernel
theorem dl_965 : decode code 965 = .ok (.invokevirtual 139, 3) := by decide +kernel
theorem dl_968 : decode code 968 = .ok (.if_icmp .eq 393, 3) := by decide +kernel
theorem dl_971 : decode code 971 = .ok (.iconst 0, 1) := by decide +kernel
theorem dl_972 : decode code 972 = .ok (.ireturn, 1) := by decide +kernel
theorem dl_973 : decode code 973 = .ok (.aload_n 1, 1) := by decide +kernel
theorem dl_974 : decode code 974 = .ok (.invokevirtual 140, 3) := by decide +kernel
theorem dl_977 : decode code 977 = .ok (.aload_n 2, 1) := by decide +kernel
theorem dl_978 : decode code 978 = .ok (.invokevirtual 143, 3) := by decide +kernel
theorem dl_981 : decode code 981 = .ok (.if_icmp .eq 380, 3) := by decide +kernel
theorem dl_984 : decode code 984 = .ok (.iconst 0, 1) := by decide +kernel
theorem dl_985 : decode code 985 = .ok (.ireturn, 1) := by decide +kernel
theorem dl_986 : decode code 986 = .ok (.aload_n 1, 1) := by decide +kernel
theorem dl_987 : decode code 987 = .ok (.invokevirtual 144, 3) := by decide +kernel
theorem dl_990 : decode code 990 = .ok (.aload_n 2, 1) := by decide +kernel
theorem dl_991 : decode code 991 = .ok (.invokevirtual 147, 3) := by decide +kernel
theorem dl_994 : decode code 994 = .ok (.if_icmp .eq 367, 3) := by decide +kernel
theorem dl_997 : decode code 997 = .ok (.iconst 0, 1) := by decide +kernel
theorem dl_998 : decode code 998 = .ok (.ireturn, 1) := by decide +kernel
theorem dl_999 : decode code 999 = .ok (.aload_n 1, 1) := by decide +kernel
theorem dl_1000 : decode code 1000 = .ok (.aload_n 0, 1) := by decide +kernel
theorem dl_1001 : decode code 1001 = .ok (.iload 4, 2) := by decide +kernel
theorem dl_1003 : decode code 1003 = .ok (.iconst 1, 1) := by decide +kernel
theorem dl_1004 : decode code 1004 = .ok (.iadd, 1) := by decide +kernel
theorem dl_1005 : decode code 1005 = .ok (.iaload, 1) := by decide +kernel
theorem dl_1006 : decode code 1006 = .ok (.invokevirtual 148, 3) := by decide +kernel
theorem dl_1009 : decode code 1009 = .ok (.aload_n 2, 1) := by decide +kernel
theorem dl_1010 : decode code 1010 = .ok (.aload_n 0, 1) := by decide +kernel
theorem dl_1011 : decode code 1011 = .ok (.iload 4, 2) := by decide +kernel
theorem dl_1013 : decode code 1013 = .ok (.iconst 1, 1) := by decide +kernel
theorem dl_1014 : decode code 1014 = .ok (.iadd, 1) := by decide +kernel
theorem dl_1015 : decode code 1015 = .ok (.iaload, 1) := by decide +kernel
theorem dl_1016 : decode code 1016 = .ok (.invokevirtual 151, 3) := by decide +kernel
theorem dl_1019 : decode code 1019 = .ok (.if_icmp .eq 342, 3) := by decide +kernel
theorem dl_1022 : decode code 1022 = .ok (.iconst 0, 1) := by decide +kernel
theorem dl_1023 : decode code 1023 = .ok (.ireturn, 1) := by decide +kernel
theorem dl_1024 : decode code 1024 = .ok (.aload_n 1, 1) := by decide +kernel
theorem dl_1025 : decode code 1025 = .ok (.aload_n 0, 1) := by decide +kernel
theorem dl_1026 : decode code 1026 = .ok (.iload 4, 2) := by decide +kernel
theorem dl_1028 : decode code 1028 = .ok (.iconst 1, 1) := by decide +kernel
theorem dl_1029 : decode code 1029 = .ok (.iadd, 1) := by decide +kernel
theorem dl_1030 : decode code 1030 = .ok (.iaload, 1) := by decide +kernel
theorem dl_1031 : decode code 1031 = .ok (.aload_n 0, 1) := by decide +kernel
theorem dl_1032 : decode code 1032 = .ok (.iload 4, 2) := by decide +kernel
theorem dl_1034 : decode code 1034 = .ok (.iconst 2, 1) := by decide +kernel
theorem dl_1035 : decode code 1035 = .ok (.iadd, 1) := by decide +kernel
theorem dl_1036 : decode code 1036 = .ok (.iaload, 1) := by decide +kernel
theorem dl_1037 : decode code 1037 = .ok (.aload_n 0, 1) := by decide +kernel
theorem dl_1038 : decode code 1038 = .ok (.iload 4, 2) := by decide +kernel
theorem dl_1040 : decode code 1040 = .ok (.iconst 3, 1) := by decide +kernel
theorem dl_1041 : decode code 1041 = .ok (.iadd, 1) := by decide +kernel
theorem dl_1042 : decode code 1042 = .ok (.iaload, 1) := by decide +kernel
theorem dl_1043 : decode code 1043 = .ok (.invokevirtual 152, 3) := by decide +kernel
theorem dl_1046 : decode code 1046 = .ok (.aload_n 2, 1) := by decide +kernel
theorem dl_1047 : decode code 1047 = .ok (.aload_n 0, 1) := by decide +kernel
theorem dl_1048 : decode code 1048 = .ok (.iload 4, 2) := by decide +kernel
theorem dl_1050 : decode code 1050 = .ok (.iconst 1, 1) := by decide +kernel
theorem dl_1051 : decode code 1051 = .ok (.iadd, 1) := by decide +kernel
theorem dl_1052 : decode code 1052 = .ok (.iaload, 1) := by decide +kernel
theorem dl_1053 : decode code 1053 = .ok (.aload_n 0, 1) := by decide +kernel
theorem dl_1054 : decode code 1054 = .ok (.iload 4, 2) := by decide +kernel
theorem dl_1056 : decode code 1056 = .ok (.iconst 2, 1) := by decide +kernel
theorem dl_1057 : decode code 1057 = .ok (.iadd, 1) := by decide +kernel
theorem dl_1058 : decode code 1058 = .ok (.iaload, 1) := by decide +kernel
theorem dl_1059 : decode code 1059 = .ok (.aload_n 0, 1) := by decide +kernel
theorem dl_1060 : decode code 1060 = .ok (.iload 4, 2) := by decide +kernel
theorem dl_1062 : decode code 1062 = .ok (.iconst 3, 1) := by decide +kernel
theorem dl_1063 : decode code 1063 = .ok (.iadd, 1) := by decide +kernel
theorem dl_1064 : decode code 1064 = .ok (.iaload, 1) := by decide +kernel
theorem dl_1065 : decode code 1065 = .ok (.invokevirtual 156, 3) := by decide +kernel
theorem dl_1068 : decode code 1068 = .ok (.if_icmp .eq 293, 3) := by decide +kernel
theorem dl_1071 : decode code 1071 = .ok (.iconst 0, 1) := by decide +kernel
theorem dl_1072 : decode code 1072 = .ok (.ireturn, 1) := by decide +kernel
theorem dl_1073 : decode code 1073 = .ok (.aload_n 1, 1) := by decide +kernel
theorem dl_1074 : decode code 1074 = .ok (.aload_n 0, 1) := by decide +kernel
theorem dl_1075 : decode code 1075 = .ok (.iload 4, 2) := by decide +kernel
theorem dl_1077 : decode code 1077 = .ok (.iconst 1, 1) := by decide +kernel
theorem dl_1078 : decode code 1078 = .ok (.iadd, 1) := by decide +kernel
theorem dl_1079 : decode code 1079 = .ok (.iaload, 1) := by decide +kernel
theorem dl_1080 : decode code 1080 = .ok (.aload_n 0, 1) := by decide +kernel
theorem dl_1081 : decode code 1081 = .ok (.iload 4, 2) := by decide +kernel
theorem dl_1083 : decode code 1083 = .ok (.iconst 2, 1) := by decide +kernel
theorem dl_1084 : decode code 1084 = .ok (.iadd, 1) := by decide +kernel
theorem dl_1085 : decode code 1085 = .ok (.iaload, 1) := by decide +kernel
theorem dl_1086 : decode code 1086 = .ok (.aload_n 0, 1) := by decide +kernel
theorem dl_1087 : decode code 1087 = .ok (.iload 4, 2) := by decide +kernel
theorem dl_1089 : decode code 1089 = .ok (.iconst 3, 1) := by decide +kernel
theorem dl_1090 : decode code 1090 = .ok (.iadd, 1) := by decide +kernel
theorem dl_1091 : decode code 1091 = .ok (.iaload, 1) := by decide +kernel
theorem dl_1092 : decode code 1092 = .ok (.invokevirtual 157, 3) := by decide +kernel
theorem dl_1095 : decode code 1095 = .ok (.aload_n 2, 1) := by decide +kernel
theorem dl_1096 : decode code 1096 = .ok (.aload_n 0, 1) := by decide +kernel
theorem dl_1097 : decode code 1097 = .ok (.iload 4, 2) := by decide +kernel
theorem dl_1099 : decode code 1099 = .ok (.iconst 1, 1) := by decide +kernel
theorem dl_1100 : decode code 1100 = .ok (.iadd, 1) := by decide +kernel
theorem dl_1101 : decode code 1101 = .ok (.iaload, 1) := by decide +kernel
theorem dl_1102 : decode code 1102 = .ok (.aload_n 0, 1) := by decide +kernel
theorem dl_1103 : decode code 1103 = .ok (.iload 4, 2) := by decide +kernel
theorem dl_1105 : decode code 1105 = .ok (.iconst 2, 1) := by decide +kernel
theorem dl_1106 : decode code 1106 = .ok (.iadd, 1) := by decide +kernel
theorem dl_1107 : decode code 1107 = .ok (.iaload, 1) := by decide +kernel
theorem dl_1108 : decode code 1108 = .ok (.aload_n 0, 1) := by decide +kernel
theorem dl_1109 : decode code 1109 = .ok (.iload 4, 2) := by decide +kernel
theorem dl_1111 : decode code 1111 = .ok (.iconst 3, 1) := by decide +kernel
theorem dl_1112 : decode code 1112 = .ok (.iadd, 1) := by decide +kernel
theorem dl_1113 : decode code 1113 = .ok (.iaload, 1) := by decide +kernel
theorem dl_1114 : decode code 1114 = .ok (.invokevirtual 160, 3) := by decide +kernel
theorem dl_1117 : decode code 1117 = .ok (.if_icmp .eq 244, 3) := by decide +kernel
theorem dl_1120 : decode code 1120 = .ok (.iconst 0, 1) := by decide +kernel
theorem dl_1121 : decode code 1121 = .ok (.ireturn, 1) := by decide +kernel
theorem dl_1122 : decode code 1122 = .ok (.aload_n 1, 1) := by decide +kernel
theorem dl_1123 : decode code 1123 = .ok (.aload_n 0, 1) := by decide +kernel
theorem dl_1124 : decode code 1124 = .ok (.iload 4, 2) := by decide +kernel
theorem dl_1126 : decode code 1126 = .ok (.iconst 1, 1) := by decide +kernel
theorem dl_1127 : decode code 1127 = .ok (.iadd, 1) := by decide +kernel
theorem dl_1128 : decode code 1128 = .ok (.iaload, 1) := by decide +kernel
theorem dl_1129 : decode code 1129 = .ok (.aload_n 0, 1) := by decide +kernel
theorem dl_1130 : decode code 1130 = .ok (.iload 4, 2) := by decide +kernel
theorem dl_1132 : decode code 1132 = .ok (.iconst 2, 1) := by decide +kernel
theorem dl_1133 : decode code 1133 = .ok (.iadd, 1) := by decide +kernel
theorem dl_1134 : decode code 1134 = .ok (.iaload, 1) := by decide +kernel
theorem dl_1135 : decode code 1135 = .ok (.aload_n 0, 1) := by decide +kernel
theorem dl_1136 : decode code 1136 = .ok (.iload 4, 2) := by decide +kernel
theorem dl_1138 : decode code 1138 = .ok (.iconst 3, 1) := by decide +kernel
theorem dl_1139 : decode code 1139 = .ok (.iadd, 1) := by decide +kernel
theorem dl_1140 : decode code 1140 = .ok (.iaload, 1) := by decide +kernel
theorem dl_1141 : decode code 1141 = .ok (.invokevirtual 161, 3) := by decide +kernel
theorem dl_1144 : decode code 1144 = .ok (.aload_n 2, 1) := by decide +kernel
theorem dl_1145 : decode code 1145 = .ok (.aload_n 0, 1) := by decide +kernel
theorem dl_1146 : decode code 1146 = .ok (.iload 4, 2) := by decide +kernel
theorem dl_1148 : decode code 1148 = .ok (.iconst 1, 1) := by decide +kernel
theorem dl_1149 : decode code 1149 = .ok (.iadd, 1) := by decide +kernel
theorem dl_1150 : decode code 1150 = .ok (.iaload, 1) := by decide +kernel
theorem dl_1151 : decode code 1151 = .ok (.aload_n 0, 1) := by decide +kernel
theorem dl_1152 : decode code 1152 = .ok (.iload 4, 2) := by decide +kernel
theorem dl_1154 : decode code 1154 = .ok (.iconst 2, 1) := by decide +kernel
theorem dl_1155 : decode code 1155 = .ok (.iadd, 1) := by decide +kernel
theorem dl_1156 : decode code 1156 = .ok (.iaload, 1) := by decide +kernel
theorem dl_1157 : decode code 1157 = .ok (.aload_n 0, 1) := by decide +kernel
theorem dl_1158 : decode code 1158 = .ok (.iload 4, 2) := by decide +kernel
theorem dl_1160 : decode code 1160 = .ok (.iconst 3, 1) := by decide +kernel
theorem dl_1161 : decode code 1161 = .ok (.iadd, 1) := by decide +kernel
theorem dl_1162 : decode code 1162 = .ok (.iaload, 1) := by decide +kernel
theorem dl_1163 : decode code 1163 = .ok (.invokevirtual 164, 3) := by decide +kernel
theorem dl_1166 : decode code 1166 = .ok (.if_icmp .eq 195, 3) := by decide +kernel
theorem dl_1169 : decode code 1169 = .ok (.iconst 0, 1) := by decide +kernel
theorem dl_1170 : decode code 1170 = .ok (.ireturn, 1) := by decide +kernel
theorem dl_1171 : decode code 1171 = .ok (.aload_n 1, 1) := by decide +kernel
theorem dl_1172 : decode code 1172 = .ok (.aload_n 0, 1) := by decide +kernel
theorem dl_1173 : decode code 1173 = .ok (.iload 4, 2) := by decide +kernel
theorem dl_1175 : decode code 1175 = .ok (.iconst 1, 1) := by decide +kernel
theorem dl_1176 : decode code 1176 = .ok (.iadd, 1) := by decide +kernel
theorem dl_1177 : decode code 1177 = .ok (.iaload, 1) := by decide +kernel
theorem dl_1178 : decode code 1178 = .ok (.aload_n 0, 1) := by decide +kernel
theorem dl_1179 : decode code 1179 = .ok (.iload 4, 2) := by decide +kernel
theorem dl_1181 : decode code 1181 = .ok (.iconst 2, 1) := by decide +kernel
theorem dl_1182 : decode code 1182 = .ok (.iadd, 1) := by decide +kernel
theorem dl_1183 : decode code 1183 = .ok (.iaload, 1) := by decide +kernel
theorem dl_1184 : decode code 1184 = .ok (.aload_n 3, 1) := by decide +kernel
theorem dl_1185 : decode code 1185 = .ok (.invokestatic 165, 3) := by decide +kernel
theorem dl_1188 : decode code 1188 = .ok (.istore 5, 2) := by decide +kernel
theorem dl_1190 : decode code 1190 = .ok (.aload_n 2, 1) := by decide +kernel
theorem dl_1191 : decode code 1191 = .ok (.aload_n 0, 1) := by decide +kernel
theorem dl_1192 : decode code 1192 = .ok (.iload 4, 2) := by decide +kernel
theorem dl_1194 : decode code 1194 = .ok (.iconst 1, 1) := by decide +kernel
theorem dl_1195 : decode code 1195 = .ok (.iadd, 1) := by decide +kernel
theorem dl_1196 : decode code 1196 = .ok (.iaload, 1) := by decide +kernel
theorem dl_1197 : decode code 1197 = .ok (.aload_n 0, 1) := by decide +kernel
theorem dl_1198 : decode code 1198 = .ok (.iload 4, 2) := by decide +kernel
theorem dl_1200 : decode code 1200 = .ok (.iconst 2, 1) := by decide +kernel
theorem dl_1201 : decode code 1201 = .ok (.iadd, 1) := by decide +kernel
theorem dl_1202 : decode code 1202 = .ok (.iaload, 1) := by decide +kernel
theorem dl_1203 : decode code 1203 = .ok (.invokevirtual 170, 3) := by decide +kernel
theorem dl_1206 : decode code 1206 = .ok (.lstore 6, 2) := by decide +kernel
theorem dl_1208 : decode code 1208 = .ok (.aload_n 2, 1) := by decide +kernel
theorem dl_1209 : decode code 1209 = .ok (.invokevirtual 171, 3) := by decide +kernel
theorem dl_1212 : decode code 1212 = .ok (.iload 5, 2) := by decide +kernel
theorem dl_1214 : decode code 1214 = .ok (.if_icmp .eq 5, 3) := by decide +kernel
theorem dl_1217 : decode code 1217 = .ok (.iconst 0, 1) := by decide +kernel
theorem dl_1218 : decode code 1218 = .ok (.ireturn, 1) := by decide +kernel
theorem dl_1219 : decode code 1219 = .ok (.iload 5, 2) := by decide +kernel
theorem dl_1221 : decode code 1221 = .ok (.ifCond .ne 14, 3) := by decide +kernel
theorem dl_1224 : decode code 1224 = .ok (.aload_n 3, 1) := by decide +kernel
theorem dl_1225 : decode code 1225 = .ok (.iconst 0, 1) := by decide +kernel
theorem dl_1226 : decode code 1226 = .ok (.laload, 1) := by decide +kernel
theorem dl_1227 : decode code 1227 = .ok (.lload 6, 2) := by decide +kernel
theorem dl_1229 : decode code 1229 = .ok (.lcmp, 1) := by decide +kernel
theorem dl_1230 : decode code 1230 = .ok (.ifCond .eq 5, 3) := by decide +kernel
theorem dl_1233 : decode code 1233 = .ok (.iconst 0, 1) := by decide +kernel
theorem dl_1234 : decode code 1234 = .ok (.ireturn, 1) := by decide +kernel
theorem dl_1235 : decode code 1235 = .ok (.goto 126, 3) := by decide +kernel
theorem dl_1238 : decode code 1238 = .ok (.aload_n 1, 1) := by decide +kernel
theorem dl_1239 : decode code 1239 = .ok (.aload_n 0, 1) := by decide +kernel
theorem dl_1240 : decode code 1240 = .ok (.iload 4, 2) := by decide +kernel
theorem dl_1242 : decode code 1242 = .ok (.iconst 1, 1) := by decide +kernel
theorem dl_1243 : decode code 1243 = .ok (.iadd, 1) := by decide +kernel
theorem dl_1244 : decode code 1244 = .ok (.iaload, 1) := by decide +kernel
theorem dl_1245 : decode code 1245 = .ok (.aload_n 0, 1) := by decide +kernel
theorem dl_1246 : decode code 1246 = .ok (.iload 4, 2) := by decide +kernel
theorem dl_1248 : decode code 1248 = .ok (.iconst 2, 1) := by decide +kernel
theorem dl_1249 : decode code 1249 = .ok (.iadd, 1) := by decide +kernel
theorem dl_1250 : decode code 1250 = .ok (.iaload, 1) := by decide +kernel
theorem dl_1251 : decode code 1251 = .ok (.aload_n 0, 1) := by decide +kernel
theorem dl_1252 : decode code 1252 = .ok (.iload 4, 2) := by decide +kernel
theorem dl_1254 : decode code 1254 = .ok (.iconst 3, 1) := by decide +kernel
theorem dl_1255 : decode code 1255 = .ok (.iadd, 1) := by decide +kernel
theorem dl_1256 : decode code 1256 = .ok (.iaload, 1) := by decide +kernel
theorem dl_1257 : decode code 1257 = .ok (.aload_n 0, 1) := by decide +kernel
theorem dl_1258 : decode code 1258 = .ok (.iload 4, 2) := by decide +kernel
theorem dl_1260 : decode code 1260 = .ok (.iconst 4, 1) := by decide +kernel
theorem dl_1261 : decode code 1261 = .ok (.iadd, 1) := by decide +kernel
theorem dl_1262 : decode code 1262 = .ok (.iaload, 1) := by decide +kernel
theorem dl_1263 : decode code 1263 = .ok (.aload_n 0, 1) := by decide +kernel
theorem dl_1264 : decode code 1264 = .ok (.iload 4, 2) := by decide +kernel
theorem dl_1266 : decode code 1266 = .ok (.iconst 5, 1) := by decide +kernel
theorem dl_1267 : decode code 1267 = .ok (.iadd, 1) := by decide +kernel
theorem dl_1268 : decode code 1268 = .ok (.iaload, 1) := by decide +kernel
theorem dl_1269 : decode code 1269 = .ok (.invokevirtual 174, 3) := by decide +kernel
theorem dl_1272 : decode code 1272 = .ok (.aload_n 2, 1) := by decide +kernel
theorem dl_1273 : decode code 1273 = .ok (.aload_n 0, 1) := by decide +kernel
theorem dl_1274 : decode code 1274 = .ok (.iload 4, 2) := by decide +kernel
theorem dl_1276 : decode code 1276 = .ok (.iconst 1, 1) := by decide +kernel
theorem dl_1277 : decode code 1277 = .ok (.iadd, 1) := by decide +kernel
theorem dl_1278 : decode code 1278 = .ok (.iaload, 1) := by decide +kernel
theorem dl_1279 : decode code 1279 = .ok (.aload_n 0, 1) := by decide +kernel
theorem dl_1280 : decode code 1280 = .ok (.iload 4, 2) := by decide +kernel
theorem dl_1282 : decode code 1282 = .ok (.iconst 2, 1) := by decide +kernel
theorem dl_1283 : decode code 1283 = .ok (.iadd, 1) := by decide +kernel
theorem dl_1284 : decode code 1284 = .ok (.iaload, 1) := by decide +kernel
theorem dl_1285 : decode code 1285 = .ok (.aload_n 0, 1) := by decide +kernel
theorem dl_1286 : decode code 1286 = .ok (.iload 4, 2) := by decide +kernel
theorem dl_1288 : decode code 1288 = .ok (.iconst 3, 1) := by decide +kernel
theorem dl_1289 : decode code 1289 = .ok (.iadd, 1) := by decide +kernel
theorem dl_1290 : decode code 1290 = .ok (.iaload, 1) := by decide +kernel
theorem dl_1291 : decode code 1291 = .ok (.aload_n 0, 1) := by decide +kernel
theorem dl_1292 : decode code 1292 = .ok (.iload 4, 2) := by decide +kernel
theorem dl_1294 : decode code 1294 = .ok (.iconst 4, 1) := by decide +kernel
theorem dl_1295 : decode code 1295 = .ok (.iadd, 1) := by decide +kernel
theorem dl_1296 : decode code 1296 = .ok (.iaload, 1) := by decide +kernel
theorem dl_1297 : decode code 1297 = .ok (.aload_n 0, 1) := by decide +kernel
theorem dl_1298 : decode code 1298 = .ok (.iload 4, 2) := by decide +kernel
theorem dl_1300 : decode code 1300 = .ok (.iconst 5, 1) := by decide +kernel
theorem dl_1301 : decode code 1301 = .ok (.iadd, 1) := by decide +kernel
theorem dl_1302 : decode code 1302 = .ok (.iaload, 1) := by decide +kernel
theorem dl_1303 : decode code 1303 = .ok (.invokevirtual 178, 3) := by decide +kernel
theorem dl_1306 : decode code 1306 = .ok (.if_icmp .eq 55, 3) := by decide +kernel
theorem dl_1309 : decode code 1309 = .ok (.iconst 0, 1) := by decide +kernel
theorem dl_1310 : decode code 1310 = .ok (.ireturn, 1) := by decide +kernel
theorem dl_1311 : decode code 1311 = .ok (.aload_n 1, 1) := by decide +kernel
theorem dl_1312 : decode code 1312 = .ok (.aload_n 0, 1) := by decide +kernel
theorem dl_1313 : decode code 1313 = .ok (.iload 4, 2) := by decide +kernel
theorem dl_1315 : decode code 1315 = .ok (.iconst 1, 1) := by decide +kernel
theorem dl_1316 : decode code 1316 = .ok (.iadd, 1) := by decide +kernel
theorem dl_1317 : decode code 1317 = .ok (.iaload, 1) := by decide +kernel
theorem dl_1318 : decode code 1318 = .ok (.invokevirtual 179, 3) := by decide +kernel
theorem dl_1321 : decode code 1321 = .ok (.aload_n 2, 1) := by decide +kernel
theorem dl_1322 : decode code 1322 = .ok (.aload_n 0, 1) := by decide +kernel
theorem dl_1323 : decode code 1323 = .ok (.iload 4, 2) := by decide +kernel
theorem dl_1325 : decode code 1325 = .ok (.iconst 1, 1) := by decide +kernel
theorem dl_1326 : decode code 1326 = .ok (.iadd, 1) := by decide +kernel
theorem dl_1327 : decode code 1327 = .ok (.iaload, 1) := by decide +kernel
theorem dl_1328 : decode code 1328 = .ok (.invokevirtual 182, 3) := by decide +kernel
theorem dl_1331 : decode code 1331 = .ok (.if_icmp .eq 30, 3) := by decide +kernel
theorem dl_1334 : decode code 1334 = .ok (.iconst 0, 1) := by decide +kernel
theorem dl_1335 : decode code 1335 = .ok (.ireturn, 1) := by decide +kernel
theorem dl_1336 : decode code 1336 = .ok (.aload_n 1, 1) := by decide +kernel
theorem dl_1337 : decode code 1337 = .ok (.aload_n 0, 1) := by decide +kernel
theorem dl_1338 : decode code 1338 = .ok (.iload 4, 2) := by decide +kernel
theorem dl_1340 : decode code 1340 = .ok (.iconst 1, 1) := by decide +kernel
theorem dl_1341 : decode code 1341 = .ok (.iadd, 1) := by decide +kernel
theorem dl_1342 : decode code 1342 = .ok (.iaload, 1) := by decide +kernel
theorem dl_1343 : decode code 1343 = .ok (.invokevirtual 183, 3) := by decide +kernel
theorem dl_1346 : decode code 1346 = .ok (.aload_n 2, 1) := by decide +kernel
theorem dl_1347 : decode code 1347 = .ok (.aload_n 0, 1) := by decide +kernel
theorem dl_1348 : decode code 1348 = .ok (.iload 4, 2) := by decide +kernel
theorem dl_1350 : decode code 1350 = .ok (.iconst 1, 1) := by decide +kernel
theorem dl_1351 : decode code 1351 = .ok (.iadd, 1) := by decide +kernel
theorem dl_1352 : decode code 1352 = .ok (.iaload, 1) := by decide +kernel
theorem dl_1353 : decode code 1353 = .ok (.invokevirtual 186, 3) := by decide +kernel
theorem dl_1356 : decode code 1356 = .ok (.if_icmp .eq 5, 3) := by decide +kernel
theorem dl_1359 : decode code 1359 = .ok (.iconst 0, 1) := by decide +kernel
theorem dl_1360 : decode code 1360 = .ok (.ireturn, 1) := by decide +kernel
theorem dl_1361 : decode code 1361 = .ok (.iinc 4 6, 3) := by decide +kernel
theorem dl_1364 : decode code 1364 = .ok (.goto (-1341), 3) := by decide +kernel
theorem dl_1367 : decode code 1367 = .ok (.iconst 1, 1) := by decide +kernel
theorem dl_1368 : decode code 1368 = .ok (.ireturn, 1) := by decide +kernel
