theorem dL_act_249 : decode cL_act 249 = .ok (.bipush 6, 2) := by decide +kernel
theorem dL_act_251 : decode cL_act 251 = .ok (.iconst (-1), 1) := by decide +kernel
theorem dL_act_252 : decode cL_act 252 = .ok (.iastore, 1) := by decide +kernel
theorem dL_act_253 : decode cL_act 253 = .ok (.dup, 1) := by decide +kernel
theorem dL_act_254 : decode cL_act 254 = .ok (.bipush 7, 2) := by decide +kernel
theorem dL_act_256 : decode cL_act 256 = .ok (.iconst (-1), 1) := by decide +kernel
theorem dL_act_257 : decode cL_act 257 = .ok (.iastore, 1) := by decide +kernel
theorem dL_act_258 : decode cL_act 258 = .ok (.dup, 1) := by decide +kernel
theorem dL_act_259 : decode cL_act 259 = .ok (.bipush 8, 2) := by decide +kernel
theorem dL_act_261 : decode cL_act 261 = .ok (.iconst 0, 1) := by decide +kernel
theorem dL_act_262 : decode cL_act 262 = .ok (.iastore, 1) := by decide +kernel
theorem dL_act_263 : decode cL_act 263 = .ok (.dup, 1) := by decide +kernel
theorem dL_act_264 : decode cL_act 264 = .ok (.bipush 9, 2) := by decide +kernel
theorem dL_act_266 : decode cL_act 266 = .ok (.iconst 0, 1) := by decide +kernel
theorem dL_act_267 : decode cL_act 267 = .ok (.iastore, 1) := by decide +kernel
theorem dL_act_268 : decode cL_act 268 = .ok (.aastore, 1) := by decide +kernel
theorem dL_act_269 : decode cL_act 269 = .ok (.aload_n 0, 1) := by decide +kernel
theorem dL_act_270 : decode cL_act 270 = .ok (.aload_n 1, 1) := by decide +kernel
theorem dL_act_271 : decode cL_act 271 = .ok (.getfield 36, 3) := by decide +kernel
theorem dL_act_274 : decode cL_act 274 = .ok (.aload_n 1, 1) := by decide +kernel
theorem dL_act_275 : decode cL_act 275 = .ok (.getfield 30, 3) := by decide +kernel
theorem dL_act_278 : decode cL_act 278 = .ok (.aaload, 1) := by decide +kernel
theorem dL_act_279 : decode cL_act 279 = .ok (.iconst 0, 1) := by decide +kernel
theorem dL_act_280 : decode cL_act 280 = .ok (.iaload, 1) := by decide +kernel
theorem dL_act_281 : decode cL_act 281 = .ok (.aload_n 1, 1) := by decide +kernel
theorem dL_act_282 : decode cL_act 282 = .ok (.getfield 36, 3) := by decide +kernel
theorem dL_act_285 : decode cL_act 285 = .ok (.aload_n 1, 1) := by decide +kernel
theorem dL_act_286 : decode cL_act 286 = .ok (.getfield 30, 3) := by decide +kernel
theorem dL_act_289 : decode cL_act 289 = .ok (.aaload, 1) := by decide +kernel
theorem dL_act_290 : decode cL_act 290 = .ok (.iconst 1, 1) := by decide +kernel
theorem dL_act_291 : decode cL_act 291 = .ok (.iaload, 1) := by decide +kernel
theorem dL_act_292 : decode cL_act 292 = .ok (.aload_n 1, 1) := by decide +kernel
theorem dL_act_293 : decode cL_act 293 = .ok (.getfield 36, 3) := by decide +kernel
theorem dL_act_296 : decode cL_act 296 = .ok (.aload_n 1, 1) := by decide +kernel
theorem dL_act_297 : decode cL_act 297 = .ok (.getfield 30, 3) := by decide +kernel
theorem dL_act_300 : decode cL_act 300 = .ok (.aaload, 1) := by decide +kernel
theorem dL_act_301 : decode cL_act 301 = .ok (.iconst 2, 1) := by decide +kernel
theorem dL_act_302 : decode cL_act 302 = .ok (.iaload, 1) := by decide +kernel
theorem dL_act_303 : decode cL_act 303 = .ok (.iload 5, 2) := by decide +kernel
theorem dL_act_305 : decode cL_act 305 = .ok (.invokevirtual 39, 3) := by decide +kernel
theorem dL_act_308 : decode cL_act 308 = .ok (.aload_n 1, 1) := by decide +kernel
theorem dL_act_309 : decode cL_act 309 = .ok (.getfield 30, 3) := by decide +kernel
theorem dL_act_312 : decode cL_act 312 = .ok (.if_icmp .eq 5, 3) := by decide +kernel
theorem dL_act_315 : decode cL_act 315 = .ok (.iconst 0, 1) := by decide +kernel
theorem dL_act_316 : decode cL_act 316 = .ok (.ireturn, 1) := by decide +kernel
theorem dL_act_317 : decode cL_act 317 = .ok (.aload_n 1, 1) := by decide +kernel
theorem dL_act_318 : decode cL_act 318 = .ok (.dup, 1) := by decide +kernel
theorem dL_act_319 : decode cL_act 319 = .ok (.getfield 30, 3) := by decide +kernel
theorem dL_act_322 : decode cL_act 322 = .ok (.iconst 1, 1) := by decide +kernel
theorem dL_act_323 : decode cL_act 323 = .ok (.iadd, 1) := by decide +kernel
theorem dL_act_324 : decode cL_act 324 = .ok (.putfield 30, 3) := by decide +kernel
theorem dL_act_327 : decode cL_act 327 = .ok (.aload_n 1, 1) := by decide +kernel
theorem dL_act_328 : decode cL_act 328 = .ok (.invokevirtual 43, 3) := by decide +kernel
theorem dL_act_331 : decode cL_act 331 = .ok (.iconst 1, 1) := by decide +kernel
theorem dL_act_332 : decode cL_act 332 = .ok (.ireturn, 1) := by decide +kernel
theorem dL_act_333 : decode cL_act 333 = .ok (.iload_n 3, 1) := by decide +kernel
theorem dL_act_334 : decode cL_act 334 = .ok (.iconst 5, 1) := by decide +kernel
theorem dL_act_335 : decode cL_act 335 = .ok (.if_icmp .ne 92, 3) := by decide +kernel
theorem dL_act_338 : decode cL_act 338 = .ok (.iload_n 2, 1) := by decide +kernel
theorem dL_act_339 : decode cL_act 339 = .ok (.iconst 4, 1) := by decide +kernel
theorem dL_act_340 : decode cL_act 340 = .ok (.ishr, 1) := by decide +kernel
theorem dL_act_341 : decode cL_act 341 = .ok (.iconst 4, 1) := by decide +kernel
theorem dL_act_342 : decode cL_act 342 = .ok (.invokestatic 9, 3) := by decide +kernel
theorem dL_act_345 : decode cL_act 345 = .ok (.istore 5, 2) := by decide +kernel
theorem dL_act_347 : decode cL_act 347 = .ok (.iload 5, 2) := by decide +kernel
theorem dL_act_349 : decode cL_act 349 = .ok (.iconst 1, 1) := by decide +kernel
theorem dL_act_350 : decode cL_act 350 = .ok (.iadd, 1) := by decide +kernel
theorem dL_act_351 : decode cL_act 351 = .ok (.iload_n 2, 1) := by decide +kernel
theorem dL_act_352 : decode cL_act 352 = .ok (.bipush 6, 2) := by decide +kernel
theorem dL_act_354 : decode cL_act 354 = .ok (.ishr, 1) := by decide +kernel
theorem dL_act_355 : decode cL_act 355 = .ok (.iconst 3, 1) := by decide +kernel
theorem dL_act_356 : decode cL_act 356 = .ok (.invokestatic 9, 3) := by decide +kernel
theorem dL_act_359 : decode cL_act 359 = .ok (.iadd, 1) := by decide +kernel
theorem dL_act_360 : decode cL_act 360 = .ok (.iconst 4, 1) := by decide +kernel
theorem dL_act_361 : decode cL_act 361 = .ok (.irem, 1) := by decide +kernel
theorem dL_act_362 : decode cL_act 362 = .ok (.istore 6, 2) := by decide +kernel
theorem dL_act_364 : decode cL_act 364 = .ok (.iconst 1, 1) := by decide +kernel
theorem dL_act_365 : decode cL_act 365 = .ok (.iload_n 2, 1) := by decide +kernel
theorem dL_act_366 : decode cL_act 366 = .ok (.iconst 3, 1) := by decide +kernel
theorem dL_act_367 : decode cL_act 367 = .ok (.ishr, 1) := by decide +kernel
theorem dL_act_368 : decode cL_act 368 = .ok (.bipush 30, 2) := by decide +kernel
theorem dL_act_370 : decode cL_act 370 = .ok (.invokestatic 9, 3) := by decide +kernel
theorem dL_act_373 : decode cL_act 373 = .ok (.iadd, 1) := by decide +kernel
theorem dL_act_374 : decode cL_act 374 = .ok (.istore 7, 2) := by decide +kernel
theorem dL_act_376 : decode cL_act 376 = .ok (.aload_n 0, 1) := by decide +kernel
theorem dL_act_377 : decode cL_act 377 = .ok (.iload 5, 2) := by decide +kernel
theorem dL_act_379 : decode cL_act 379 = .ok (.iload 6, 2) := by decide +kernel
theorem dL_act_381 : decode cL_act 381 = .ok (.iload 7, 2) := by decide +kernel
theorem dL_act_383 : decode cL_act 383 = .ok (.invokevirtual 46, 3) := by decide +kernel
theorem dL_act_386 : decode cL_act 386 = .ok (.aload_n 1, 1) := by decide +kernel
theorem dL_act_387 : decode cL_act 387 = .ok (.getfield 50, 3) := by decide +kernel
theorem dL_act_390 : decode cL_act 390 = .ok (.iload 5, 2) := by decide +kernel
theorem dL_act_392 : decode cL_act 392 = .ok (.aaload, 1) := by decide +kernel
theorem dL_act_393 : decode cL_act 393 = .ok (.iload 6, 2) := by decide +kernel
theorem dL_act_395 : decode cL_act 395 = .ok (.iaload, 1) := by decide +kernel
theorem dL_act_396 : decode cL_act 396 = .ok (.if_icmp .eq 5, 3) := by decide +kernel
theorem dL_act_399 : decode cL_act 399 = .ok (.iconst 0, 1) := by decide +kernel
theorem dL_act_400 : decode cL_act 400 = .ok (.ireturn, 1) := by decide +kernel
theorem dL_act_401 : decode cL_act 401 = .ok (.aload_n 1, 1) := by decide +kernel
theorem dL_act_402 : decode cL_act 402 = .ok (.getfield 50, 3) := by decide +kernel
theorem dL_act_405 : decode cL_act 405 = .ok (.iload 5, 2) := by decide +kernel
theorem dL_act_407 : decode cL_act 407 = .ok (.aaload, 1) := by decide +kernel
theorem dL_act_408 : decode cL_act 408 = .ok (.iload 6, 2) := by decide +kernel
theorem dL_act_410 : decode cL_act 410 = .ok (.iload 7, 2) := by decide +kernel
theorem dL_act_412 : decode cL_act 412 = .ok (.iastore, 1) := by decide +kernel
theorem dL_act_413 : decode cL_act 413 = .ok (.aload_n 1, 1) := by decide +kernel
theorem dL_act_414 : decode cL_act 414 = .ok (.getfield 50, 3) := by decide +kernel
theorem dL_act_417 : decode cL_act 417 = .ok (.iload 6, 2) := by decide +kernel
theorem dL_act_419 : decode cL_act 419 = .ok (.aaload, 1) := by decide +kernel
theorem dL_act_420 : decode cL_act 420 = .ok (.iload 5, 2) := by decide +kernel
theorem dL_act_422 : decode cL_act 422 = .ok (.iload 7, 2) := by decide +kernel
theorem dL_act_424 : decode cL_act 424 = .ok (.iastore, 1) := by decide +kernel
theorem dL_act_425 : decode cL_act 425 = .ok (.iconst 1, 1) := by decide +kernel
theorem dL_act_426 : decode cL_act 426 = .ok (.ireturn, 1) := by decide +kernel
theorem dL_act_427 : decode cL_act 427 = .ok (.bipush (-3), 2) := by decide +kernel
theorem dL_act_429 : decode cL_act 429 = .ok (.istore 5, 2) := by decide +kernel
theorem dL_act_431 : decode cL_act 431 = .ok (.aload_n 1, 1) := by decide +kernel
theorem dL_act_432 : decode cL_act 432 = .ok (.getfield 21, 3) := by decide +kernel
theorem dL_act_435 : decode cL_act 435 = .ok (.iload 4, 2) := by decide +kernel
theorem dL_act_437 : decode cL_act 437 = .ok (.aaload, 1) := by decide +kernel
theorem dL_act_438 : decode cL_act 438 = .ok (.iconst 2, 1) := by decide +kernel
theorem dL_act_439 : decode cL_act 439 = .ok (.iaload, 1) := by decide +kernel
theorem dL_act_440 : decode cL_act 440 = .ok (.iconst 1, 1) := by decide +kernel
theorem dL_act_441 : decode cL_act 441 = .ok (.if_icmp .ne 19, 3) := by decide +kernel
theorem dL_act_444 : decode cL_act 444 = .ok (.aload_n 1, 1) := by decide +kernel
theorem dL_act_445 : decode cL_act 445 = .ok (.getfield 21, 3) := by decide +kernel
theorem dL_act_448 : decode cL_act 448 = .ok (.iload 4, 2) := by decide +kernel
theorem dL_act_450 : decode cL_act 450 = .ok (.aaload, 1) := by decide +kernel
theorem dL_act_451 : decode cL_act 451 = .ok (.iconst 3, 1) := by decide +kernel
theorem dL_act_452 : decode cL_act 452 = .ok (.iaload, 1) := by decide +kernel
theorem dL_act_453 : decode cL_act 453 = .ok (.ifCond .lt 7, 3) := by decide +kernel
theorem dL_act_456 : decode cL_act 456 = .ok (.iconst 1, 1) := by decide +kernel
theorem dL_act_457 : decode cL_act 457 = .ok (.goto 4, 3) := by decide +kernel
theorem dL_act_460 : decode cL_act 460 = .ok (.iconst 0, 1) := by decide +kernel
theorem dL_act_461 : decode cL_act 461 = .ok (.istore 6, 2) := by decide +kernel
theorem dL_act_463 : decode cL_act 463 = .ok (.bipush (-3), 2) := by decide +kernel
theorem dL_act_465 : decode cL_act 465 = .ok (.istore 7, 2) := by decide +kernel
theorem dL_act_467 : decode cL_act 467 = .ok (.iload_n 3, 1) := by decide +kernel
theorem dL_act_468 : decode cL_act 468 = .ok (.bipush 8, 2) := by decide +kernel
theorem dL_act_470 : decode cL_act 470 = .ok (.if_icmp .ge 54, 3) := by decide +kernel
theorem dL_act_473 : decode cL_act 473 = .ok (.aload_n 1, 1) := by decide +kernel
theorem dL_act_474 : decode cL_act 474 = .ok (.getfield 21, 3) := by decide +kernel
theorem dL_act_477 : decode cL_act 477 = .ok (.iload 4, 2) := by decide +kernel
theorem dL_act_479 : decode cL_act 479 = .ok (.aaload, 1) := by decide +kernel
theorem dL_act_480 : decode cL_act 480 = .ok (.iconst 2, 1) := by decide +kernel
theorem dL_act_481 : decode cL_act 481 = .ok (.iaload, 1) := by decide +kernel
theorem dL_act_482 : decode cL_act 482 = .ok (.ifCond .eq 14, 3) := by decide +kernel
theorem dL_act_485 : decode cL_act 485 = .ok (.iload_n 2, 1) := by decide +kernel
theorem dL_act_486 : decode cL_act 486 = .ok (.bipush 9, 2) := by decide +kernel
theorem dL_act_488 : decode cL_act 488 = .ok (.ishr, 1) := by decide +kernel
theorem dL_act_489 : decode cL_act 489 = .ok (.iconst 3, 1) := by decide +kernel
theorem dL_act_490 : decode cL_act 490 = .ok (.invokestatic 9, 3) := by decide +kernel
theorem dL_act_493 : decode cL_act 493 = .ok (.ifCond .le 16, 3) := by decide +kernel
theorem dL_act_496 : decode cL_act 496 = .ok (.aload_n 0, 1) := by decide +kernel
theorem dL_act_497 : decode cL_act 497 = .ok (.iload 4, 2) := by decide +kernel
theorem dL_act_499 : decode cL_act 499 = .ok (.invokevirtual 53, 3) := by decide +kernel
theorem dL_act_502 : decode cL_act 502 = .ok (.sipush 1000, 3) := by decide +kernel
theorem dL_act_505 : decode cL_act 505 = .ok (.iadd, 1) := by decide +kernel
theorem dL_act_506 : decode cL_act 506 = .ok (.goto 13, 3) := by decide +kernel
theorem dL_act_509 : decode cL_act 509 = .ok (.aload_n 0, 1) := by decide +kernel
theorem dL_act_510 : decode cL_act 510 = .ok (.iload 4, 2) := by decide +kernel
theorem dL_act_512 : decode cL_act 512 = .ok (.invokevirtual 57, 3) := by decide +kernel
theorem dL_act_515 : decode cL_act 515 = .ok (.sipush 2000, 3) := by decide +kernel
theorem dL_act_518 : decode cL_act 518 = .ok (.iadd, 1) := by decide +kernel
theorem dL_act_519 : decode cL_act 519 = .ok (.istore 5, 2) := by decide +kernel
theorem dL_act_521 : decode cL_act 521 = .ok (.goto 106, 3) := by decide +kernel
theorem dL_act_524 : decode cL_act 524 = .ok (.iload_n 3, 1) := by decide +kernel
theorem dL_act_525 : decode cL_act 525 = .ok (.bipush 11, 2) := by decide +kernel
theorem dL_act_527 : decode cL_act 527 = .ok (.if_icmp .ge 18, 3) := by decide +kernel
theorem dL_act_530 : decode cL_act 530 = .ok (.aload_n 0, 1) := by decide +kernel
theorem dL_act_531 : decode cL_act 531 = .ok (.iload 4, 2) := by decide +kernel
theorem dL_act_533 : decode cL_act 533 = .ok (.invokevirtual 60, 3) := by decide +kernel
theorem dL_act_536 : decode cL_act 536 = .ok (.sipush 3000, 3) := by decide +kernel
theorem dL_act_539 : decode cL_act 539 = .ok (.iadd, 1) := by decide +kernel
theorem dL_act_540 : decode cL_act 540 = .ok (.istore 5, 2) := by decide +kernel
theorem dL_act_542 : decode cL_act 542 = .ok (.goto 85, 3) := by decide +kernel
theorem dL_act_545 : decode cL_act 545 = .ok (.iload_n 3, 1) := by decide +kernel
theorem dL_act_546 : decode cL_act 546 = .ok (.bipush 11, 2) := by decide +kernel
theorem dL_act_548 : decode cL_act 548 = .ok (.if_icmp .ne 18, 3) := by decide +kernel
theorem dL_act_551 : decode cL_act 551 = .ok (.aload_n 0, 1) := by decide +kernel
theorem dL_act_552 : decode cL_act 552 = .ok (.iload 4, 2) := by decide +kernel
theorem dL_act_554 : decode cL_act 554 = .ok (.invokevirtual 63, 3) := by decide +kernel
theorem dL_act_557 : decode cL_act 557 = .ok (.sipush 4000, 3) := by decide +kernel
theorem dL_act_560 : decode cL_act 560 = .ok (.iadd, 1) := by decide +kernel
theorem dL_act_561 : decode cL_act 561 = .ok (.istore 5, 2) := by decide +kernel
theorem dL_act_563 : decode cL_act 563 = .ok (.goto 64, 3) := by decide +kernel
theorem dL_act_566 : decode cL_act 566 = .ok (.iload_n 3, 1) := by decide +kernel
theorem dL_act_567 : decode cL_act 567 = .ok (.bipush 12, 2) := by decide +kernel
theorem dL_act_569 : decode cL_act 569 = .ok (.if_icmp .ne 38, 3) := by decide +kernel
theorem dL_act_572 : decode cL_act 572 = .ok (.aload_n 1, 1) := by decide +kernel
theorem dL_act_573 : decode cL_act 573 = .ok (.getfield 30, 3) := by decide +kernel
theorem dL_act_576 : decode cL_act 576 = .ok (.ifCond .ne 8, 3) := by decide +kernel
theorem dL_act_579 : decode cL_act 579 = .ok (.bipush (-3), 2) := by decide +kernel
theorem dL_act_581 : decode cL_act 581 = .ok (.goto 21, 3) := by decide +kernel
theorem dL_act_584 : decode cL_act 584 = .ok (.aload_n 0, 1) := by decide +kernel
theorem dL_act_585 : decode cL_act 585 = .ok (.iload_n 2, 1) := by decide +kernel
theorem dL_act_586 : decode cL_act 586 = .ok (.iconst 3, 1) := by decide +kernel
theorem dL_act_587 : decode cL_act 587 = .ok (.ishr, 1) := by decide +kernel
theorem dL_act_588 : decode cL_act 588 = .ok (.aload_n 1, 1) := by decide +kernel
theorem dL_act_589 : decode cL_act 589 = .ok (.getfield 30, 3) := by decide +kernel
theorem dL_act_592 : decode cL_act 592 = .ok (.invokestatic 9, 3) := by decide +kernel
theorem dL_act_595 : decode cL_act 595 = .ok (.invokevirtual 66, 3) := by decide +kernel
theorem dL_act_598 : decode cL_act 598 = .ok (.sipush 5000, 3) := by decide +kernel
theorem dL_act_601 : decode cL_act 601 = .ok (.iadd, 1) := by decide +kernel
theorem dL_act_602 : decode cL_act 602 = .ok (.istore 5, 2) := by decide +kernel
theorem dL_act_604 : decode cL_act 604 = .ok (.goto 23, 3) := by decide +kernel
theorem dL_act_607 : decode cL_act 607 = .ok (.aload_n 0, 1) := by decide +kernel
theorem dL_act_608 : decode cL_act 608 = .ok (.iconst 1, 1) := by decide +kernel
theorem dL_act_609 : decode cL_act 609 = .ok (.iload_n 2, 1) := by decide +kernel
theorem dL_act_610 : decode cL_act 610 = .ok (.iconst 3, 1) := by decide +kernel
theorem dL_act_611 : decode cL_act 611 = .ok (.ishr, 1) := by decide +kernel
theorem dL_act_612 : decode cL_act 612 = .ok (.bipush 12, 2) := by decide +kernel
theorem dL_act_614 : decode cL_act 614 = .ok (.invokestatic 9, 3) := by decide +kernel
theorem dL_act_617 : decode cL_act 617 = .ok (.iadd, 1) := by decide +kernel
theorem dL_act_618 : decode cL_act 618 = .ok (.invokevirtual 69, 3) := by decide +kernel
theorem dL_act_621 : decode cL_act 621 = .ok (.sipush 6000, 3) := by decide +kernel
theorem dL_act_624 : decode cL_act 624 = .ok (.iadd, 1) := by decide +kernel
theorem dL_act_625 : decode cL_act 625 = .ok (.istore 5, 2) := by decide +kernel
theorem dL_act_627 : decode cL_act 627 = .ok (.goto 9, 3) := by decide +kernel
theorem dL_act_630 : decode cL_act 630 = .ok (.astore 8, 2) := by decide +kernel
theorem dL_act_632 : decode cL_act 632 = .ok (.bipush (-3), 2) := by decide +kernel
theorem dL_act_634 : decode cL_act 634 = .ok (.istore 5, 2) := by decide +kernel
theorem dL_act_636 : decode cL_act 636 = .ok (.iload_n 3, 1) := by decide +kernel
theorem dL_act_637 : decode cL_act 637 = .ok (.bipush 8, 2) := by decide +kernel
theorem dL_act_639 : decode cL_act 639 = .ok (.if_icmp .ge 156, 3) := by decide +kernel
theorem dL_act_642 : decode cL_act 642 = .ok (.aload_n 1, 1) := by decide +kernel
theorem dL_act_643 : decode cL_act 643 = .ok (.getfield 21, 3) := by decide +kernel
theorem dL_act_646 : decode cL_act 646 = .ok (.iload 4, 2) := by decide +kernel
theorem dL_act_648 : decode cL_act 648 = .ok (.aaload, 1) := by decide +kernel
theorem dL_act_649 : decode cL_act 649 = .ok (.iconst 2, 1) := by decide +kernel
theorem dL_act_650 : decode cL_act 650 = .ok (.iaload, 1) := by decide +kernel
theorem dL_act_651 : decode cL_act 651 = .ok (.ifCond .eq 14, 3) := by decide +kernel
theorem dL_act_654 : decode cL_act 654 = .ok (.iload_n 2, 1) := by decide +kernel
theorem dL_act_655 : decode cL_act 655 = .ok (.bipush 9, 2) := by decide +kernel
theorem dL_act_657 : decode cL_act 657 = .ok (.ishr, 1) := by decide +kernel
theorem dL_act_658 : decode cL_act 658 = .ok (.iconst 3, 1) := by decide +kernel
theorem dL_act_659 : decode cL_act 659 = .ok (.invokestatic 9, 3) := by decide +kernel
theorem dL_act_662 : decode cL_act 662 = .ok (.ifCond .le 7, 3) := by decide +kernel
theorem dL_act_665 : decode cL_act 665 = .ok (.iconst 1, 1) := by decide +kernel
theorem dL_act_666 : decode cL_act 666 = .ok (.goto 4, 3) := by decide +kernel
theorem dL_act_669 : decode cL_act 669 = .ok (.iconst 0, 1) := by decide +kernel
theorem dL_act_670 : decode cL_act 670 = .ok (.istore 8, 2) := by decide +kernel
theorem dL_act_672 : decode cL_act 672 = .ok (.iload 8, 2) := by decide +kernel
theorem dL_act_674 : decode cL_act 674 = .ok (.ifCond .eq 49, 3) := by decide +kernel
theorem dL_act_677 : decode cL_act 677 = .ok (.aload_n 1, 1) := by decide +kernel
theorem dL_act_678 : decode cL_act 678 = .ok (.getfield 21, 3) := by decide +kernel
theorem dL_act_681 : decode cL_act 681 = .ok (.iload 4, 2) := by decide +kernel
theorem dL_act_683 : decode cL_act 683 = .ok (.aaload, 1) := by decide +kernel
theorem dL_act_684 : decode cL_act 684 = .ok (.iconst 2, 1) := by decide +kernel
theorem dL_act_685 : decode cL_act 685 = .ok (.iaload, 1) := by decide +kernel
theorem dL_act_686 : decode cL_act 686 = .ok (.ifCond .ne 37, 3) := by decide +kernel
theorem dL_act_689 : decode cL_act 689 = .ok (.aload_n 1, 1) := by decide +kernel
theorem dL_act_690 : decode cL_act 690 = .ok (.getfield 21, 3) := by decide +kernel
theorem dL_act_693 : decode cL_act 693 = .ok (.iload 4, 2) := by decide +kernel
theorem dL_act_695 : decode cL_act 695 = .ok (.aaload, 1) := by decide +kernel
theorem dL_act_696 : decode cL_act 696 = .ok (.iconst 2, 1) := by decide +kernel
theorem dL_act_697 : decode cL_act 697 = .ok (.iconst 1, 1) := by decide +kernel
theorem dL_act_698 : decode cL_act 698 = .ok (.iastore, 1) := by decide +kernel
theorem dL_act_699 : decode cL_act 699 = .ok (.sipush 1000, 3) := by decide +kernel
theorem dL_act_702 : decode cL_act 702 = .ok (.aload_n 1, 1) := by decide +kernel
theorem dL_act_703 : decode cL_act 703 = .ok (.aload_n 1, 1) := by decide +kernel
theorem dL_act_704 : decode cL_act 704 = .ok (.getfield 21, 3) := by decide +kernel
theorem dL_act_707 : decode cL_act 707 = .ok (.iload 4, 2) := by decide +kernel
theorem dL_act_709 : decode cL_act 709 = .ok (.aaload, 1) := by decide +kernel
theorem dL_act_710 : decode cL_act 710 = .ok (.iconst 1, 1) := by decide +kernel
theorem dL_act_711 : decode cL_act 711 = .ok (.iaload, 1) := by decide +kernel
theorem dL_act_712 : decode cL_act 712 = .ok (.iload 4, 2) := by decide +kernel
theorem dL_act_714 : decode cL_act 714 = .ok (.invokevirtual 74, 3) := by decide +kernel
theorem dL_act_717 : decode cL_act 717 = .ok (.iadd, 1) := by decide +kernel
theorem dL_act_718 : decode cL_act 718 = .ok (.istore 7, 2) := by decide +kernel
theorem dL_act_720 : decode cL_act 720 = .ok (.goto 72, 3) := by decide +kernel
theorem dL_act_723 : decode cL_act 723 = .ok (.iload 8, 2) := by decide +kernel
theorem dL_act_725 : decode cL_act 725 = .ok (.ifCond .ne 67, 3) := by decide +kernel
theorem dL_act_728 : decode cL_act 728 = .ok (.aload_n 1, 1) := by decide +kernel
theorem dL_act_729 : decode cL_act 729 = .ok (.getfield 21, 3) := by decide +kernel
theorem dL_act_732 : decode cL_act 732 = .ok (.iload 4, 2) := by decide +kernel
theorem dL_act_734 : decode cL_act 734 = .ok (.aaload, 1) := by decide +kernel
theorem dL_act_735 : decode cL_act 735 = .ok (.iconst 2, 1) := by decide +kernel
theorem dL_act_736 : decode cL_act 736 = .ok (.iaload, 1) := by decide +kernel
theorem dL_act_737 : decode cL_act 737 = .ok (.iconst 1, 1) := by decide +kernel
theorem dL_act_738 : decode cL_act 738 = .ok (.if_icmp .ne 54, 3) := by decide +kernel
theorem dL_act_741 : decode cL_act 741 = .ok (.iload 6, 2) := by decide +kernel
theorem dL_act_743 : decode cL_act 743 = .ok (.ifCond .eq 9, 3) := by decide +kernel
theorem dL_act_746 : decode cL_act 746 = .ok (.aload_n 1, 1) := by decide +kernel
theorem dL_act_747 : decode cL_act 747 = .ok (.iload 4, 2) := by decide +kernel
theorem dL_act_749 : decode cL_act 749 = .ok (.invokevirtual 77, 3) := by decide +kernel
theorem dL_act_752 : decode cL_act 752 = .ok (.aload_n 1, 1) := by decide +kernel
theorem dL_act_753 : decode cL_act 753 = .ok (.aload_n 1, 1) := by decide +kernel
theorem dL_act_754 : decode cL_act 754 = .ok (.getfield 21, 3) := by decide +kernel
theorem dL_act_757 : decode cL_act 757 = .ok (.iload 4, 2) := by decide +kernel
theorem dL_act_759 : decode cL_act 759 = .ok (.aaload, 1) := by decide +kernel
theorem dL_act_760 : decode cL_act 760 = .ok (.iconst 1, 1) := by decide +kernel
theorem dL_act_761 : decode cL_act 761 = .ok (.iaload, 1) := by decide +kernel
theorem dL_act_762 : decode cL_act 762 = .ok (.iload 4, 2) := by decide +kernel
theorem dL_act_764 : decode cL_act 764 = .ok (.invokevirtual 80, 3) := by decide +kernel
theorem dL_act_767 : decode cL_act 767 = .ok (.aload_n 1, 1) := by decide +kernel
theorem dL_act_768 : decode cL_act 768 = .ok (.getfield 21, 3) := by decide +kernel
theorem dL_act_771 : decode cL_act 771 = .ok (.iload 4, 2) := by decide +kernel
theorem dL_act_773 : decode cL_act 773 = .ok (.aaload, 1) := by decide +kernel
theorem dL_act_774 : decode cL_act 774 = .ok (.iconst 2, 1) := by decide +kernel
theorem dL_act_775 : decode cL_act 775 = .ok (.iconst 0, 1) := by decide +kernel
theorem dL_act_776 : decode cL_act 776 = .ok (.iastore, 1) := by decide +kernel
theorem dL_act_777 : decode cL_act 777 = .ok (.sipush 2000, 3) := by decide +kernel
theorem dL_act_780 : decode cL_act 780 = .ok (.aload_n 1, 1) := by decide +kernel
theorem dL_act_781 : decode cL_act 781 = .ok (.getfield 21, 3) := by decide +kernel
theorem dL_act_784 : decode cL_act 784 = .ok (.iload 4, 2) := by decide +kernel
theorem dL_act_786 : decode cL_act 786 = .ok (.aaload, 1) := by decide +kernel
theorem dL_act_787 : decode cL_act 787 = .ok (.iconst 1, 1) := by decide +kernel
theorem dL_act_788 : decode cL_act 788 = .ok (.iaload, 1) := by decide +kernel
theorem dL_act_789 : decode cL_act 789 = .ok (.iadd, 1) := by decide +kernel
theorem dL_act_790 : decode cL_act 790 = .ok (.istore 7, 2) := by decide +kernel
theorem dL_act_792 : decode cL_act 792 = .ok (.goto 176, 3) := by decide +kernel
theorem dL_act_795 : decode cL_act 795 = .ok (.iload_n 3, 1) := by decide +kernel
theorem dL_act_796 : decode cL_act 796 = .ok (.bipush 11, 2) := by decide +kernel
theorem dL_act_798 : decode cL_act 798 = .ok (.if_icmp .ge 28, 3) := by decide +kernel
theorem dL_act_801 : decode cL_act 801 = .ok (.iload 6, 2) := by decide +kernel
theorem dL_act_803 : decode cL_act 803 = .ok (.ifCond .eq 16, 3) := by decide +kernel
theorem dL_act_806 : decode cL_act 806 = .ok (.sipush 3000, 3) := by decide +kernel
theorem dL_act_809 : decode cL_act 809 = .ok (.aload_n 1, 1) := by decide +kernel
theorem dL_act_810 : decode cL_act 810 = .ok (.iload 4, 2) := by decide +kernel
theorem dL_act_812 : decode cL_act 812 = .ok (.invokevirtual 84, 3) := by decide +kernel
theorem dL_act_815 : decode cL_act 815 = .ok (.iadd, 1) := by decide +kernel
theorem dL_act_816 : decode cL_act 816 = .ok (.goto 5, 3) := by decide +kernel
theorem dL_act_819 : decode cL_act 819 = .ok (.bipush (-3), 2) := by decide +kernel
theorem dL_act_821 : decode cL_act 821 = .ok (.istore 7, 2) := by decide +kernel
theorem dL_act_823 : decode cL_act 823 = .ok (.goto 145, 3) := by decide +kernel
theorem dL_act_826 : decode cL_act 826 = .ok (.iload_n 3, 1) := by decide +kernel
theorem dL_act_827 : decode cL_act 827 = .ok (.bipush 11, 2) := by decide +kernel
theorem dL_act_829 : decode cL_act 829 = .ok (.if_icmp .ne 38, 3) := by decide +kernel
theorem dL_act_832 : decode cL_act 832 = .ok (.iload 6, 2) := by decide +kernel
theorem dL_act_834 : decode cL_act 834 = .ok (.ifCond .eq 33, 3) := by decide +kernel
theorem dL_act_837 : decode cL_act 837 = .ok (.sipush 4000, 3) := by decide +kernel
theorem dL_act_840 : decode cL_act 840 = .ok (.aload_n 1, 1) := by decide +kernel
theorem dL_act_841 : decode cL_act 841 = .ok (.getfield 21, 3) := by decide +kernel
theorem dL_act_844 : decode cL_act 844 = .ok (.iload 4, 2) := by decide +kernel
theorem dL_act_846 : decode cL_act 846 = .ok (.aaload, 1) := by decide +kernel
theorem dL_act_847 : decode cL_act 847 = .ok (.iconst 3, 1) := by decide +kernel
theorem dL_act_848 : decode cL_act 848 = .ok (.iaload, 1) := by decide +kernel
theorem dL_act_849 : decode cL_act 849 = .ok (.iadd, 1) := by decide +kernel
theorem dL_act_850 : decode cL_act 850 = .ok (.istore 7, 2) := by decide +kernel
theorem dL_act_852 : decode cL_act 852 = .ok (.aload_n 1, 1) := by decide +kernel
theorem dL_act_853 : decode cL_act 853 = .ok (.iload 4, 2) := by decide +kernel
theorem dL_act_855 : decode cL_act 855 = .ok (.invokevirtual 77, 3) := by decide +kernel
theorem dL_act_858 : decode cL_act 858 = .ok (.aload_n 1, 1) := by decide +kernel
theorem dL_act_859 : decode cL_act 859 = .ok (.iload 4, 2) := by decide +kernel
theorem dL_act_861 : decode cL_act 861 = .ok (.invokevirtual 85, 3) := by decide +kernel
theorem dL_act_864 : decode cL_act 864 = .ok (.goto 104, 3) := by decide +kernel
theorem dL_act_867 : decode cL_act 867 = .ok (.iload_n 3, 1) := by decide +kernel
theorem dL_act_868 : decode cL_act 868 = .ok (.bipush 12, 2) := by decide +kernel
theorem dL_act_870 : decode cL_act 870 = .ok (.if_icmp .ne 50, 3) := by decide +kernel
theorem dL_act_873 : decode cL_act 873 = .ok (.aload_n 1, 1) := by decide +kernel
theorem dL_act_874 : decode cL_act 874 = .ok (.getfield 30, 3) := by decide +kernel
theorem dL_act_877 : decode cL_act 877 = .ok (.ifCond .le 43, 3) := by decide +kernel
theorem dL_act_880 : decode cL_act 880 = .ok (.iload_n 2, 1) := by decide +kernel
theorem dL_act_881 : decode cL_act 881 = .ok (.iconst 3, 1) := by decide +kernel
theorem dL_act_882 : decode cL_act 882 = .ok (.ishr, 1) := by decide +kernel
theorem dL_act_883 : decode cL_act 883 = .ok (.aload_n 1, 1) := by decide +kernel
theorem dL_act_884 : decode cL_act 884 = .ok (.getfield 30, 3) := by decide +kernel
theorem dL_act_887 : decode cL_act 887 = .ok (.invokestatic 9, 3) := by decide +kernel
theorem dL_act_890 : decode cL_act 890 = .ok (.istore 8, 2) := by decide +kernel
theorem dL_act_892 : decode cL_act 892 = .ok (.aload_n 1, 1) := by decide +kernel
theorem dL_act_893 : decode cL_act 893 = .ok (.getfield 36, 3) := by decide +kernel
theorem dL_act_896 : decode cL_act 896 = .ok (.iload 8, 2) := by decide +kernel
theorem dL_act_898 : decode cL_act 898 = .ok (.aaload, 1) := by decide +kernel
theorem dL_act_899 : decode cL_act 899 = .ok (.iconst 4, 1) := by decide +kernel
theorem dL_act_900 : decode cL_act 900 = .ok (.iaload, 1) := by decide +kernel
theorem dL_act_901 : decode cL_act 901 = .ok (.iconst 3, 1) := by decide +kernel
theorem dL_act_902 : decode cL_act 902 = .ok (.if_icmp .ge 15, 3) := by decide +kernel
theorem dL_act_905 : decode cL_act 905 = .ok (.sipush 5000, 3) := by decide +kernel
theorem dL_act_908 : decode cL_act 908 = .ok (.aload_n 1, 1) := by decide +kernel
theorem dL_act_909 : decode cL_act 909 = .ok (.iload 8, 2) := by decide +kernel
theorem dL_act_911 : decode cL_act 911 = .ok (.invokevirtual 88, 3) := by decide +kernel
theorem dL_act_914 : decode cL_act 914 = .ok (.iadd, 1) := by decide +kernel
theorem dL_act_915 : decode cL_act 915 = .ok (.istore 7, 2) := by decide +kernel
theorem dL_act_917 : decode cL_act 917 = .ok (.goto 51, 3) := by decide +kernel
theorem dL_act_920 : decode cL_act 920 = .ok (.iload_n 3, 1) := by decide +kernel
theorem dL_act_921 : decode cL_act 921 = .ok (.bipush 12, 2) := by decide +kernel
theorem dL_act_923 : decode cL_act 923 = .ok (.if_icmp .le 45, 3) := by decide +kernel
theorem dL_act_926 : decode cL_act 926 = .ok (.sipush 6000, 3) := by decide +kernel
theorem dL_act_929 : decode cL_act 929 = .ok (.istore 7, 2) := by decide +kernel
theorem dL_act_931 : decode cL_act 931 = .ok (.iconst 1, 1) := by decide +kernel
theorem dL_act_932 : decode cL_act 932 = .ok (.iload_n 2, 1) := by decide +kernel
theorem dL_act_933 : decode cL_act 933 = .ok (.iconst 3, 1) := by decide +kernel
theorem dL_act_934 : decode cL_act 934 = .ok (.ishr, 1) := by decide +kernel
theorem dL_act_935 : decode cL_act 935 = .ok (.bipush 12, 2) := by decide +kernel
theorem dL_act_937 : decode cL_act 937 = .ok (.invokestatic 9, 3) := by decide +kernel
theorem dL_act_940 : decode cL_act 940 = .ok (.iadd, 1) := by decide +kernel
theorem dL_act_941 : decode cL_act 941 = .ok (.istore 8, 2) := by decide +kernel
theorem dL_act_943 : decode cL_act 943 = .ok (.iconst 0, 1) := by decide +kernel
theorem dL_act_944 : decode cL_act 944 = .ok (.istore 9, 2) := by decide +kernel
theorem dL_act_946 : decode cL_act 946 = .ok (.iload 9, 2) := by decide +kernel
theorem dL_act_948 : decode cL_act 948 = .ok (.iload 8, 2) := by decide +kernel
theorem dL_act_950 : decode cL_act 950 = .ok (.if_icmp .ge 18, 3) := by decide +kernel
theorem dL_act_953 : decode cL_act 953 = .ok (.iload 7, 2) := by decide +kernel
theorem dL_act_955 : decode cL_act 955 = .ok (.aload_n 1, 1) := by decide +kernel
theorem dL_act_956 : decode cL_act 956 = .ok (.invokevirtual 89, 3) := by decide +kernel
theorem dL_act_959 : decode cL_act 959 = .ok (.iadd, 1) := by decide +kernel
theorem dL_act_960 : decode cL_act 960 = .ok (.istore 7, 2) := by decide +kernel
theorem dL_act_962 : decode cL_act 962 = .ok (.iinc 9 1, 3) := by decide +kernel
theorem dL_act_965 : decode cL_act 965 = .ok (.goto (-19), 3) := by decide +kernel
theorem dL_act_968 : decode cL_act 968 = .ok (.aload_n 1, 1) := by decide +kernel
theorem dL_act_969 : decode cL_act 969 = .ok (.invokevirtual 43, 3) := by decide +kernel
theorem dL_act_972 : decode cL_act 972 = .ok (.iload 5, 2) := by decide +kernel
theorem dL_act_974 : decode cL_act 974 = .ok (.iload 7, 2) := by decide +kernel
theorem dL_act_976 : decode cL_act 976 = .ok (.if_icmp .ne 7, 3) := by decide +kernel
theorem dL_act_979 : decode cL_act 979 = .ok (.iconst 1, 1) := by decide +kernel
theorem dL_act_980 : decode cL_act 980 = .ok (.goto 4, 3) := by decide +kernel
theorem dL_act_983 : decode cL_act 983 = .ok (.iconst 0, 1) := by decide +kernel
theorem dL_act_984 : decode cL_act 984 = .ok (.ireturn, 1) := by decide +kernel
set_option maxRecDepth 20000 in
theorem ggL_law_X2_init : GoodIn wsL_law wsX2_init := goodIn_r _ [18, 19, 20, 21, 6, 22, 23, 24, 25, 26, 27, 28, 29, 30, 31, 32, 33, 34, 35, 36, 37, 38, 39, 40, 41, 42, 43, 44, 433, 434, 435, 436, 437, 438, 439, 451, 452, 453] (by decide +kernel) (by decide +kernel)
set_option maxRecDepth 20000 in
theorem gL_law_X2_init : GoodIn wsL_law (wsX2_init) := ggL_law_X2_init
set_option maxRecDepth 20000 in
theorem ggL_law_X3_init : GoodIn wsL_law wsX3_init := goodIn_r _ [47, 48, 20, 21, 49, 6, 50, 51, 52, 53, 54, 55, 56, 57, 58, 59, 60, 440, 441, 442, 443, 444, 445, 446, 447, 448, 449, 450] (by decide +kernel) (by decide +kernel)
set_option maxRecDepth 20000 in
theorem gL_law_X3_init : GoodIn wsL_law (wsX3_init) := ggL_law_X3_init
set_option maxRecDepth 20000 in
theorem ggL_law_L_cell : GoodIn wsL_law wsL_cell := goodIn_r _ [64, 65] (by decide +kernel) (by decide +kernel)
set_option maxRecDepth 20000 in
theorem gL_law_L_cell : GoodIn wsL_law (va_wsS RL 95 yL_cell wsL_cell) := goodIn_app (goodIn_of _ (by decide +kernel)) ggL_law_L_cell
theorem goodIn_cc {big a : List Cond} {c : Cond} (hm : c ∈ big) (hg : goodWord c = true) (ha : GoodIn big a) : GoodIn big (c :: a) := fun w h => (List.mem_cons.mp h).elim (fun e => by rw [e]; exact ⟨hm, good_of_word hg⟩) (ha w)
set_option maxRecDepth 20000 in
theorem ga_wsL_act_r1 : GoodIn wsL_law wsL_act_r1 := goodIn_r _ [69, 8, 11, 6, 7, 70, 9, 71, 72, 73, 63, 74, 75, 76, 77, 78, 2, 79, 80, 81, 82, 83, 26, 84] (by decide +kernel) (by decide +kernel)
set_option maxRecDepth 20000 in
theorem ga_wsL_act_r2 : GoodIn wsL_law wsL_act_r2 := goodIn_r _ [85, 86, 87, 88, 89, 90, 91, 92, 25, 93, 94, 95, 96, 97, 98, 20, 21, 99, 100, 101, 102, 103, 104, 105] (by decide +kernel) (by decide +kernel)
set_option maxRecDepth 20000 in
theorem ga_wsL_act_r3 : GoodIn wsL_law wsL_act_r3 := goodIn_r _ [106, 107, 108, 34, 109, 110, 111, 112, 113, 114, 115, 116, 117, 118, 119, 120, 33, 121, 13, 14, 15, 122, 123, 124] (by decide +kernel) (by decide +kernel)
set_option maxRecDepth 20000 in
theorem ga_wsL_act_r4 : GoodIn wsL_law wsL_act_r4 := goodIn_r _ [125, 126, 127, 128, 129, 130, 131, 132, 133, 134, 135, 136, 137, 138, 139, 140, 141, 142, 143, 144, 145, 146, 147, 148] (by decide +kernel) (by decide +kernel)
set_option maxRecDepth 20000 in
theorem ga_wsL_act_r5 : GoodIn wsL_law wsL_act_r5 := goodIn_r _ [149, 150, 151, 152, 153, 154, 155, 156, 27, 157, 158, 159, 160, 161, 162, 163, 164, 165, 166, 167, 168, 169, 170, 171] (by decide +kernel) (by decide +kernel)
set_option maxRecDepth 20000 in
theorem ga_wsL_act_r6 : GoodIn wsL_law wsL_act_r6 := goodIn_r _ [172, 173, 174, 175, 176, 177, 178, 179, 180, 181, 182, 183, 184, 185, 186, 187, 188, 189, 190, 191, 192, 193, 194, 195] (by decide +kernel) (by decide +kernel)
set_option maxRecDepth 20000 in
theorem ga_wsL_act_r7 : GoodIn wsL_law wsL_act_r7 := goodIn_r _ [196, 197, 198, 199, 200, 201, 202, 203, 204, 205, 206, 207, 208, 209, 210, 211, 212, 213, 214, 215, 216, 217, 218, 219] (by decide +kernel) (by decide +kernel)
set_option maxRecDepth 20000 in
theorem ga_wsL_act_r8 : GoodIn wsL_law wsL_act_r8 := goodIn_r _ [220, 221, 222, 223, 224, 225, 226, 227, 228, 229, 230, 231, 232, 233, 234, 235, 236, 237, 238, 239, 240, 241, 242, 243] (by decide +kernel) (by decide +kernel)
set_option maxRecDepth 20000 in
theorem ga_wsL_act_r9 : GoodIn wsL_law wsL_act_r9 := goodIn_r _ [22, 244, 245, 246, 5, 247, 248, 53, 249, 52, 250, 251, 252, 253, 50, 254, 255, 256, 257, 54, 57, 258, 259, 260] (by decide +kernel) (by decide +kernel)
set_option maxRecDepth 20000 in
theorem ga_wsL_act_r10 : GoodIn wsL_law wsL_act_r10 := goodIn_r _ [261, 262, 263, 264, 265, 266, 267, 268, 269, 270, 271, 272, 273, 274, 275, 276, 277, 278, 279, 280, 281, 282, 283, 284] (by decide +kernel) (by decide +kernel)
set_option maxRecDepth 20000 in
theorem ga_wsL_act_r11 : GoodIn wsL_law wsL_act_r11 := goodIn_r _ [285, 286, 287, 288, 289, 290, 291, 292, 293, 294, 295, 296, 297, 298, 299, 300, 301, 302, 303, 304, 305, 306, 307, 308] (by decide +kernel) (by decide +kernel)
set_option maxRecDepth 20000 in
theorem ga_wsL_act_r12 : GoodIn wsL_law wsL_act_r12 := goodIn_r _ [309, 310, 311, 312, 313, 314, 315, 316, 317, 318, 319, 320, 321, 322, 323, 324, 325, 326, 327, 328, 329, 330, 331, 332] (by decide +kernel) (by decide +kernel)
set_option maxRecDepth 20000 in
theorem ga_wsL_act_r13 : GoodIn wsL_law wsL_act_r13 := goodIn_r _ [333, 334, 335, 336, 337, 338, 339, 340, 341, 342, 343, 344, 345, 28, 346, 29, 347, 348, 349, 350, 351, 352, 353, 354] (by decide +kernel) (by decide +kernel)
set_option maxRecDepth 20000 in
theorem ga_wsL_act_r14 : GoodIn wsL_law wsL_act_r14 := goodIn_r _ [355, 356, 357, 358, 359, 360, 361, 362, 363, 364, 365, 366, 367, 368, 369, 370, 371, 372, 373, 374, 375, 376, 377, 378] (by decide +kernel) (by decide +kernel)
set_option maxRecDepth 20000 in
theorem ga_wsL_act_r15 : GoodIn wsL_law wsL_act_r15 := goodIn_r _ [379, 380, 381, 382, 383, 384, 385, 386, 387, 388, 389, 390, 391, 392, 393, 394, 395, 58, 59, 60, 396, 397, 398] (by decide +kernel) (by decide +kernel)
set_option maxRecDepth 20000 in
theorem ga_wsX30 : GoodIn wsL_law wsX30 := goodIn_r _ [440, 441, 442, 443, 444, 445, 446, 447, 448, 449, 450] (by decide +kernel) (by decide +kernel)
set_option maxRecDepth 20000 in
theorem ga_wsX20 : GoodIn wsL_law wsX20 := goodIn_r _ [433, 434, 435, 436, 437, 438, 439] (by decide +kernel) (by decide +kernel)
set_option maxRecDepth 20000 in
theorem ga_wsX00 : GoodIn wsL_law wsX00 := goodIn_r _ [454, 455, 456, 457, 458, 459, 460, 461, 462] (by decide +kernel) (by decide +kernel)
set_option maxRecDepth 20000 in
theorem ga_wsJx4a65c0 : GoodIn wsL_law wsJx4a65c0 := goodIn_r _ [451, 452, 453] (by decide +kernel) (by decide +kernel)
set_option maxRecDepth 20000 in
theorem ga_wsX10 : GoodIn wsL_law wsX10 := goodIn_r _ [463, 464, 465, 466, 467, 468, 469, 470, 471, 472, 473, 474, 475, 476, 477] (by decide +kernel) (by decide +kernel)
set_option maxRecDepth 20000 in
theorem ggL_law_L_act : GoodIn wsL_law wsL_act := goodIn_ca (goodIn_ca (goodIn_ca (goodIn_cc (List.mem_of_getElem? (i := 68) rfl) rfl (goodIn_app (goodIn_app (goodIn_app (goodIn_app (goodIn_app (goodIn_app ga_wsL_act_r1 (goodIn_app ga_wsL_act_r2 (goodIn_app ga_wsL_act_r3 (goodIn_app ga_wsL_act_r4 (goodIn_app ga_wsL_act_r5 (goodIn_app ga_wsL_act_r6 (goodIn_app ga_wsL_act_r7 (goodIn_app ga_wsL_act_r8 (goodIn_app ga_wsL_act_r9 (goodIn_app ga_wsL_act_r10 (goodIn_app ga_wsL_act_r11 (goodIn_app ga_wsL_act_r12 (goodIn_app ga_wsL_act_r13 (goodIn_app ga_wsL_act_r14 ga_wsL_act_r15)))))))))))))) ga_wsX30) ga_wsX20) ga_wsX00) ga_wsJx4a65c0) ga_wsX10)) (goodIn_sub (fun _ h => List.mem_append_left _ (List.mem_append_left _ (List.mem_append_right _ h))) (by decide +kernel))) (goodIn_sub (fun _ h => List.mem_append_left _ (List.mem_append_right _ h)) (by decide +kernel))) (goodIn_sub (fun _ h => List.mem_append_right _ h) (by decide +kernel))
set_option maxRecDepth 20000 in
theorem gL_law_L_act : GoodIn wsL_law (va_wsS RL 99 yL_act wsL_act) := goodIn_app (goodIn_of _ (by decide +kernel)) ggL_law_L_act
set_option maxRecDepth 20000 in
theorem ggL_law_X2_told : GoodIn wsL_law wsX2_told := goodIn_ca (goodIn_r _ [402, 163, 164, 312, 313, 314, 2, 315, 27, 188, 90, 91, 92, 25, 93, 94, 194, 195, 196, 197, 198, 199, 200, 201, 202, 203, 204, 205, 206, 207, 208, 209, 34, 403, 404, 405, 190, 191, 235, 341, 357, 227, 406, 407, 408, 409, 410, 411, 412, 433, 434, 435, 436, 437, 438, 439, 451, 452, 453, 463, 464, 465, 466, 467, 468, 469, 470, 471, 472, 473, 474, 475, 476, 477, 454, 455, 456, 457, 458, 459, 460, 461, 462] (by decide +kernel) (by decide +kernel)) (goodIn_sub (fun _ h => List.mem_append_right _ h) (by decide +kernel))
set_option maxRecDepth 20000 in
theorem gL_law_X2_told : GoodIn wsL_law (wsV RL 103 RX2 yX2_told wsX2_told) := goodIn_app (goodIn_of _ (by decide +kernel)) ggL_law_X2_told
set_option maxRecDepth 20000 in
theorem ggL_law_X2_cab : GoodIn wsL_law wsX2_cab := goodIn_ca (goodIn_r _ [416, 163, 164, 270, 271, 272, 2, 273, 26, 218, 90, 91, 92, 25, 93, 94, 194, 195, 196, 197, 198, 199, 200, 201, 202, 203, 204, 205, 206, 207, 208, 209, 34, 417, 418, 419, 420, 231, 219, 225, 193, 307, 279, 280, 281, 282, 221, 283, 284, 285, 433, 434, 435, 436, 437, 438, 439, 451, 452, 453, 454, 455, 456, 457, 458, 459, 460, 461, 462, 463, 464, 465, 466, 467, 468, 469, 470, 471, 472, 473, 474, 475, 476, 477] (by decide +kernel) (by decide +kernel)) (goodIn_sub (fun _ h => List.mem_append_right _ h) (by decide +kernel))
set_option maxRecDepth 20000 in
theorem gL_law_X2_cab : GoodIn wsL_law (wsV RL 110 RX2 yX2_cab wsX2_cab) := goodIn_app (goodIn_of _ (by decide +kernel)) ggL_law_X2_cab
set_option maxRecDepth 20000 in
theorem ggL_law_X2_now : GoodIn wsL_law wsX2_now := goodIn_r _ [424, 156, 433, 434, 435, 436, 437, 438, 439] (by decide +kernel) (by decide +kernel)
set_option maxRecDepth 20000 in
theorem gL_law_X2_now : GoodIn wsL_law (wsV RL 113 RX2 yX2_now wsX2_now) := goodIn_app (goodIn_of _ (by decide +kernel)) ggL_law_X2_now
set_option maxRecDepth 20000 in
theorem ggL_law_X2_refuse : GoodIn wsL_law wsX2_refuse := goodIn_ca (goodIn_ca (goodIn_r _ [306, 82, 83, 307, 270, 271, 272, 2, 273, 163, 164, 26, 218, 90, 91, 92, 25, 93, 94, 194, 195, 196, 197, 198, 199, 200, 201, 202, 203, 204, 205, 206, 207, 208, 209, 34, 294, 295, 296, 231, 193, 290, 291, 292, 293, 227, 190, 191, 232, 233, 234, 235, 274, 275, 276, 277, 278, 221, 180, 181, 182, 183, 184, 185, 186, 187, 27, 188, 189, 156, 192, 210, 211, 212, 213, 214, 215, 216, 217, 219, 220, 222, 223, 224, 225, 226, 228, 229, 230, 236, 237, 238, 239, 240, 241, 242, 243, 22, 463, 464, 465, 466, 467, 468, 469, 470, 471, 472, 473, 474, 475, 476, 477, 433, 434, 435, 436, 437, 438, 439, 451, 452, 453, 454, 455, 456, 457, 458, 459, 460, 461, 462] (by decide +kernel) (by decide +kernel)) (goodIn_sub (fun _ h => List.mem_append_left _ (List.mem_append_right _ h)) (by decide +kernel))) (goodIn_sub (fun _ h => List.mem_append_right _ h) (by decide +kernel))
set_option maxRecDepth 20000 in
theorem gL_law_X2_refuse : GoodIn wsL_law (wsV RL 63 RX2 yX2_refuse wsX2_refuse) := goodIn_app (goodIn_of _ (by decide +kernel)) ggL_law_X2_refuse
set_option maxRecDepth 20000 in
theorem ggL_law_X2_count : GoodIn wsL_law wsX2_count := goodIn_ca (goodIn_r _ [428, 163, 164, 26, 27, 90, 91, 92, 25, 93, 94, 429, 430, 431, 2, 432, 188, 190, 194, 195, 196, 197, 198, 199, 200, 201, 202, 203, 204, 205, 206, 207, 208, 209, 34, 433, 434, 435, 436, 437, 438, 439, 451, 452, 453, 463, 464, 465, 466, 467, 468, 469, 470, 471, 472, 473, 474, 475, 476, 477] (by decide +kernel) (by decide +kernel)) (goodIn_sub (fun _ h => List.mem_append_right _ h) (by decide +kernel))
set_option maxRecDepth 20000 in
theorem gL_law_X2_count : GoodIn wsL_law (wsV RL 120 RX2 yX2_count wsX2_count) := goodIn_app (goodIn_of _ (by decide +kernel)) ggL_law_X2_count
theorem dL_law_0 : decode cL_law 0 = .ok (.new 26, 3) := by decide +kernel
theorem dL_law_3 : decode cL_law 3 = .ok (.dup, 1) := by decide +kernel
theorem dL_law_4 : decode cL_law 4 = .ok (.invokespecial 93, 3) := by decide +kernel
theorem dL_law_7 : decode cL_law 7 = .ok (.astore_n 1, 1) := by decide +kernel
theorem dL_law_8 : decode cL_law 8 = .ok (.new 16, 3) := by decide +kernel
theorem dL_law_11 : decode cL_law 11 = .ok (.dup, 1) := by decide +kernel
theorem dL_law_12 : decode cL_law 12 = .ok (.invokespecial 94, 3) := by decide +kernel
theorem dL_law_15 : decode cL_law 15 = .ok (.astore_n 2, 1) := by decide +kernel
theorem dL_law_16 : decode cL_law 16 = .ok (.bipush 60, 2) := by decide +kernel
theorem dL_law_18 : decode cL_law 18 = .ok (.newarray .int, 2) := by decide +kernel
theorem dL_law_20 : decode cL_law 20 = .ok (.astore_n 3, 1) := by decide +kernel
theorem dL_law_21 : decode cL_law 21 = .ok (.bipush 60, 2) := by decide +kernel
theorem dL_law_23 : decode cL_law 23 = .ok (.newarray .int, 2) := by decide +kernel
theorem dL_law_25 : decode cL_law 25 = .ok (.astore 4, 2) := by decide +kernel
theorem dL_law_27 : decode cL_law 27 = .ok (.iconst 0, 1) := by decide +kernel
theorem dL_law_28 : decode cL_law 28 = .ok (.istore 5, 2) := by decide +kernel
theorem dL_law_30 : decode cL_law 30 = .ok (.iload 5, 2) := by decide +kernel
theorem dL_law_32 : decode cL_law 32 = .ok (.bipush 50, 2) := by decide +kernel
theorem dL_law_34 : decode cL_law 34 = .ok (.if_icmp .ge 393, 3) := by decide +kernel
theorem dL_law_37 : decode cL_law 37 = .ok (.aload_n 0, 1) := by decide +kernel
theorem dL_law_38 : decode cL_law 38 = .ok (.iload 5, 2) := by decide +kernel
theorem dL_law_40 : decode cL_law 40 = .ok (.bipush 16, 2) := by decide +kernel
theorem dL_law_42 : decode cL_law 42 = .ok (.irem, 1) := by decide +kernel
theorem dL_law_43 : decode cL_law 43 = .ok (.invokestatic 95, 3) := by decide +kernel
theorem dL_law_46 : decode cL_law 46 = .ok (.iload 5, 2) := by decide +kernel
theorem dL_law_48 : decode cL_law 48 = .ok (.bipush 16, 2) := by decide +kernel
theorem dL_law_50 : decode cL_law 50 = .ok (.idiv, 1) := by decide +kernel
theorem dL_law_51 : decode cL_law 51 = .ok (.iconst 5, 1) := by decide +kernel
theorem dL_law_52 : decode cL_law 52 = .ok (.imul, 1) := by decide +kernel
theorem dL_law_53 : decode cL_law 53 = .ok (.ishr, 1) := by decide +kernel
theorem dL_law_54 : decode cL_law 54 = .ok (.istore 6, 2) := by decide +kernel
theorem dL_law_56 : decode cL_law 56 = .ok (.aload_n 1, 1) := by decide +kernel
theorem dL_law_57 : decode cL_law 57 = .ok (.aload_n 2, 1) := by decide +kernel
theorem dL_law_58 : decode cL_law 58 = .ok (.iload 6, 2) := by decide +kernel
theorem dL_law_60 : decode cL_law 60 = .ok (.invokestatic 99, 3) := by decide +kernel
theorem dL_law_63 : decode cL_law 63 = .ok (.ifCond .ne 5, 3) := by decide +kernel
theorem dL_law_66 : decode cL_law 66 = .ok (.iconst 0, 1) := by decide +kernel
theorem dL_law_67 : decode cL_law 67 = .ok (.ireturn, 1) := by decide +kernel
theorem dL_law_68 : decode cL_law 68 = .ok (.iconst 0, 1) := by decide +kernel
theorem dL_law_69 : decode cL_law 69 = .ok (.istore 7, 2) := by decide +kernel
theorem dL_law_71 : decode cL_law 71 = .ok (.iload 7, 2) := by decide +kernel
theorem dL_law_73 : decode cL_law 73 = .ok (.aload_n 2, 1) := by decide +kernel
theorem dL_law_74 : decode cL_law 74 = .ok (.getfield 30, 3) := by decide +kernel
theorem dL_law_77 : decode cL_law 77 = .ok (.if_icmp .ge 344, 3) := by decide +kernel
theorem dL_law_80 : decode cL_law 80 = .ok (.aload_n 1, 1) := by decide +kernel
theorem dL_law_81 : decode cL_law 81 = .ok (.iload 7, 2) := by decide +kernel
theorem dL_law_83 : decode cL_law 83 = .ok (.iconst 0, 1) := by decide +kernel
theorem dL_law_84 : decode cL_law 84 = .ok (.invokevirtual 103, 3) := by decide +kernel
theorem dL_law_87 : decode cL_law 87 = .ok (.istore 8, 2) := by decide +kernel
theorem dL_law_89 : decode cL_law 89 = .ok (.aload_n 1, 1) := by decide +kernel
theorem dL_law_90 : decode cL_law 90 = .ok (.iload 7, 2) := by decide +kernel
theorem dL_law_92 : decode cL_law 92 = .ok (.iconst 4, 1) := by decide +kernel
theorem dL_law_93 : decode cL_law 93 = .ok (.invokevirtual 103, 3) := by decide +kernel
theorem dL_law_96 : decode cL_law 96 = .ok (.aload_n 3, 1) := by decide +kernel
theorem dL_law_97 : decode cL_law 97 = .ok (.iload 7, 2) := by decide +kernel
theorem dL_law_99 : decode cL_law 99 = .ok (.iaload, 1) := by decide +kernel
theorem dL_law_100 : decode cL_law 100 = .ok (.if_icmp .lt 17, 3) := by decide +kernel
theorem dL_law_103 : decode cL_law 103 = .ok (.aload_n 1, 1) := by decide +kernel
theorem dL_law_104 : decode cL_law 104 = .ok (.iload 7, 2) := by decide +kernel
theorem dL_law_106 : decode cL_law 106 = .ok (.iconst 4, 1) := by decide +kernel
theorem dL_law_107 : decode cL_law 107 = .ok (.invokevirtual 103, 3) := by decide +kernel
theorem dL_law_110 : decode cL_law 110 = .ok (.aload_n 2, 1) := by decide +kernel
theorem dL_law_111 : decode cL_law 111 = .ok (.getfield 15, 3) := by decide +kernel
theorem dL_law_114 : decode cL_law 114 = .ok (.if_icmp .le 5, 3) := by decide +kernel
theorem dL_law_117 : decode cL_law 117 = .ok (.iconst 0, 1) := by decide +kernel
theorem dL_law_118 : decode cL_law 118 = .ok (.ireturn, 1) := by decide +kernel
theorem dL_law_119 : decode cL_law 119 = .ok (.aload_n 3, 1) := by decide +kernel
theorem dL_law_120 : decode cL_law 120 = .ok (.iload 7, 2) := by decide +kernel
theorem dL_law_122 : decode cL_law 122 = .ok (.aload_n 1, 1) := by decide +kernel
theorem dL_law_123 : decode cL_law 123 = .ok (.iload 7, 2) := by decide +kernel
theorem dL_law_125 : decode cL_law 125 = .ok (.iconst 4, 1) := by decide +kernel
theorem dL_law_126 : decode cL_law 126 = .ok (.invokevirtual 103, 3) := by decide +kernel
theorem dL_law_129 : decode cL_law 129 = .ok (.iastore, 1) := by decide +kernel
theorem dL_law_130 : decode cL_law 130 = .ok (.aload_n 2, 1) := by decide +kernel
theorem dL_law_131 : decode cL_law 131 = .ok (.getfield 36, 3) := by decide +kernel
theorem dL_law_134 : decode cL_law 134 = .ok (.iload 7, 2) := by decide +kernel
theorem dL_law_136 : decode cL_law 136 = .ok (.aaload, 1) := by decide +kernel
theorem dL_law_137 : decode cL_law 137 = .ok (.iconst 3, 1) := by decide +kernel
theorem dL_law_138 : decode cL_law 138 = .ok (.iaload, 1) := by decide +kernel
theorem dL_law_139 : decode cL_law 139 = .ok (.istore 9, 2) := by decide +kernel
theorem dL_law_141 : decode cL_law 141 = .ok (.iload 8, 2) := by decide +kernel
theorem dL_law_143 : decode cL_law 143 = .ok (.iconst 1, 1) := by decide +kernel
theorem dL_law_144 : decode cL_law 144 = .ok (.if_icmp .ne 76, 3) := by decide +kernel
theorem dL_law_147 : decode cL_law 147 = .ok (.aload_n 1, 1) := by decide +kernel
theorem dL_law_148 : decode cL_law 148 = .ok (.iload 7, 2) := by decide +kernel
theorem dL_law_150 : decode cL_law 150 = .ok (.iconst 1, 1) := by decide +kernel
theorem dL_law_151 : decode cL_law 151 = .ok (.invokevirtual 103, 3) := by decide +kernel
theorem dL_law_154 : decode cL_law 154 = .ok (.istore 10, 2) := by decide +kernel
theorem dL_law_156 : decode cL_law 156 = .ok (.aload_n 2, 1) := by decide +kernel
theorem dL_law_157 : decode cL_law 157 = .ok (.getfield 106, 3) := by decide +kernel
theorem dL_law_160 : decode cL_law 160 = .ok (.iload 7, 2) := by decide +kernel
theorem dL_law_162 : decode cL_law 162 = .ok (.aaload, 1) := by decide +kernel
theorem dL_law_163 : decode cL_law 163 = .ok (.iload 10, 2) := by decide +kernel
theorem dL_law_165 : decode cL_law 165 = .ok (.baload, 1) := by decide +kernel
theorem dL_law_166 : decode cL_law 166 = .ok (.ifCond .ne 52, 3) := by decide +kernel
theorem dL_law_169 : decode cL_law 169 = .ok (.aload_n 1, 1) := by decide +kernel
theorem dL_law_170 : decode cL_law 170 = .ok (.iload 10, 2) := by decide +kernel
theorem dL_law_172 : decode cL_law 172 = .ok (.iconst 2, 1) := by decide +kernel
theorem dL_law_173 : decode cL_law 173 = .ok (.invokevirtual 110, 3) := by decide +kernel
theorem dL_law_176 : decode cL_law 176 = .ok (.aload_n 2, 1) := by decide +kernel
theorem dL_law_177 : decode cL_law 177 = .ok (.getfield 36, 3) := by decide +kernel
theorem dL_law_180 : decode cL_law 180 = .ok (.iload 7, 2) := by decide +kernel
theorem dL_law_182 : decode cL_law 182 = .ok (.aaload, 1) := by decide +kernel
theorem dL_law_183 : decode cL_law 183 = .ok (.iconst 2, 1) := by decide +kernel
theorem dL_law_184 : decode cL_law 184 = .ok (.iaload, 1) := by decide +kernel
theorem dL_law_185 : decode cL_law 185 = .ok (.if_icmp .lt 33, 3) := by decide +kernel
theorem dL_law_188 : decode cL_law 188 = .ok (.aload_n 1, 1) := by decide +kernel
theorem dL_law_189 : decode cL_law 189 = .ok (.invokevirtual 113, 3) := by decide +kernel
theorem dL_law_192 : decode cL_law 192 = .ok (.iload 9, 2) := by decide +kernel
theorem dL_law_194 : decode cL_law 194 = .ok (.bipush 15, 2) := by decide +kernel
theorem dL_law_196 : decode cL_law 196 = .ok (.isub, 1) := by decide +kernel
theorem dL_law_197 : decode cL_law 197 = .ok (.if_icmp .lt 21, 3) := by decide +kernel
theorem dL_law_200 : decode cL_law 200 = .ok (.aload_n 1, 1) := by decide +kernel
theorem dL_law_201 : decode cL_law 201 = .ok (.invokevirtual 113, 3) := by decide +kernel
theorem dL_law_204 : decode cL_law 204 = .ok (.aload_n 2, 1) := by decide +kernel
theorem dL_law_205 : decode cL_law 205 = .ok (.getfield 21, 3) := by decide +kernel
theorem dL_law_208 : decode cL_law 208 = .ok (.iload 10, 2) := by decide +kernel
theorem dL_law_210 : decode cL_law 210 = .ok (.aaload, 1) := by decide +kernel
theorem dL_law_211 : decode cL_law 211 = .ok (.iconst 4, 1) := by decide +kernel
theorem dL_law_212 : decode cL_law 212 = .ok (.iaload, 1) := by decide +kernel
theorem dL_law_213 : decode cL_law 213 = .ok (.isub, 1) := by decide +kernel
theorem dL_law_214 : decode cL_law 214 = .ok (.iconst 1, 1) := by decide +kernel
theorem dL_law_215 : decode cL_law 215 = .ok (.if_icmp .le 5, 3) := by decide +kernel
theorem dL_law_218 : decode cL_law 218 = .ok (.iconst 0, 1) := by decide +kernel
theorem dL_law_219 : decode cL_law 219 = .ok (.ireturn, 1) := by decide +kernel
theorem dL_law_220 : decode cL_law 220 = .ok (.iload 8, 2) := by decide +kernel
theorem dL_law_222 : decode cL_law 222 = .ok (.ifCond .ne 88, 3) := by decide +kernel
theorem dL_law_225 : decode cL_law 225 = .ok (.aload_n 1, 1) := by decide +kernel
theorem dL_law_226 : decode cL_law 226 = .ok (.invokevirtual 113, 3) := by decide +kernel
theorem dL_law_229 : decode cL_law 229 = .ok (.iload 9, 2) := by decide +kernel
theorem dL_law_231 : decode cL_law 231 = .ok (.bipush 15, 2) := by decide +kernel
theorem dL_law_233 : decode cL_law 233 = .ok (.isub, 1) := by decide +kernel
theorem dL_law_234 : decode cL_law 234 = .ok (.if_icmp .lt 76, 3) := by decide +kernel
theorem dL_law_237 : decode cL_law 237 = .ok (.iconst 0, 1) := by decide +kernel
theorem dL_law_238 : decode cL_law 238 = .ok (.istore 10, 2) := by decide +kernel
theorem dL_law_240 : decode cL_law 240 = .ok (.iload 10, 2) := by decide +kernel
theorem dL_law_242 : decode cL_law 242 = .ok (.aload_n 2, 1) := by decide +kernel
theorem dL_law_243 : decode cL_law 243 = .ok (.getfield 15, 3) := by decide +kernel
theorem dL_law_246 : decode cL_law 246 = .ok (.if_icmp .ge 64, 3) := by decide +kernel
theorem dL_law_249 : decode cL_law 249 = .ok (.aload_n 1, 1) := by decide +kernel
theorem dL_law_250 : decode cL_law 250 = .ok (.iload 10, 2) := by decide +kernel
theorem dL_law_252 : decode cL_law 252 = .ok (.iconst 0, 1) := by decide +kernel
theorem dL_law_253 : decode cL_law 253 = .ok (.invokevirtual 110, 3) := by decide +kernel
theorem dL_law_256 : decode cL_law 256 = .ok (.iconst 1, 1) := by decide +kernel
theorem dL_law_257 : decode cL_law 257 = .ok (.if_icmp .ne 47, 3) := by decide +kernel
theorem dL_law_260 : decode cL_law 260 = .ok (.aload_n 1, 1) := by decide +kernel
theorem dL_law_261 : decode cL_law 261 = .ok (.iload 10, 2) := by decide +kernel
theorem dL_law_263 : decode cL_law 263 = .ok (.iconst 3, 1) := by decide +kernel
theorem dL_law_264 : decode cL_law 264 = .ok (.invokevirtual 110, 3) := by decide +kernel
theorem dL_law_267 : decode cL_law 267 = .ok (.ifCond .ge 37, 3) := by decide +kernel
theorem dL_law_270 : decode cL_law 270 = .ok (.aload_n 1, 1) := by decide +kernel
theorem dL_law_271 : decode cL_law 271 = .ok (.iload 10, 2) := by decide +kernel
theorem dL_law_273 : decode cL_law 273 = .ok (.iconst 2, 1) := by decide +kernel
theorem dL_law_274 : decode cL_law 274 = .ok (.invokevirtual 110, 3) := by decide +kernel
theorem dL_law_277 : decode cL_law 277 = .ok (.aload_n 2, 1) := by decide +kernel
theorem dL_law_278 : decode cL_law 278 = .ok (.getfield 36, 3) := by decide +kernel
theorem dL_law_281 : decode cL_law 281 = .ok (.iload 7, 2) := by decide +kernel
theorem dL_law_283 : decode cL_law 283 = .ok (.aaload, 1) := by decide +kernel
theorem dL_law_284 : decode cL_law 284 = .ok (.iconst 2, 1) := by decide +kernel
theorem dL_law_285 : decode cL_law 285 = .ok (.iaload, 1) := by decide +kernel
theorem dL_law_286 : decode cL_law 286 = .ok (.if_icmp .lt 18, 3) := by decide +kernel
theorem dL_law_289 : decode cL_law 289 = .ok (.aload_n 2, 1) := by decide +kernel
theorem dL_law_290 : decode cL_law 290 = .ok (.getfield 106, 3) := by decide +kernel
theorem dL_law_293 : decode cL_law 293 = .ok (.iload 7, 2) := by decide +kernel
theorem dL_law_295 : decode cL_law 295 = .ok (.aaload, 1) := by decide +kernel
theorem dL_law_296 : decode cL_law 296 = .ok (.iload 10, 2) := by decide +kernel
theorem dL_law_298 : decode cL_law 298 = .ok (.baload, 1) := by decide +kernel
theorem dL_law_299 : decode cL_law 299 = .ok (.ifCond .ne 5, 3) := by decide +kernel
theorem dL_law_302 : decode cL_law 302 = .ok (.iconst 0, 1) := by decide +kernel
theorem dL_law_303 : decode cL_law 303 = .ok (.ireturn, 1) := by decide +kernel
theorem dL_law_304 : decode cL_law 304 = .ok (.iinc 10 1, 3) := by decide +kernel
theorem dL_law_307 : decode cL_law 307 = .ok (.goto (-67), 3) := by decide +kernel
theorem dL_law_310 : decode cL_law 310 = .ok (.aload_n 1, 1) := by decide +kernel
theorem dL_law_311 : decode cL_law 311 = .ok (.iload 7, 2) := by decide +kernel
theorem dL_law_313 : decode cL_law 313 = .ok (.iconst 2, 1) := by decide +kernel
theorem dL_law_314 : decode cL_law 314 = .ok (.invokevirtual 103, 3) := by decide +kernel
theorem dL_law_317 : decode cL_law 317 = .ok (.ifCond .lt 31, 3) := by decide +kernel
theorem dL_law_320 : decode cL_law 320 = .ok (.aload_n 1, 1) := by decide +kernel
theorem dL_law_321 : decode cL_law 321 = .ok (.iload 7, 2) := by decide +kernel
theorem dL_law_323 : decode cL_law 323 = .ok (.iconst 2, 1) := by decide +kernel
theorem dL_law_324 : decode cL_law 324 = .ok (.invokevirtual 103, 3) := by decide +kernel
theorem dL_law_327 : decode cL_law 327 = .ok (.iload 9, 2) := by decide +kernel
theorem dL_law_329 : decode cL_law 329 = .ok (.if_icmp .lt 17, 3) := by decide +kernel
theorem dL_law_332 : decode cL_law 332 = .ok (.aload_n 1, 1) := by decide +kernel
theorem dL_law_333 : decode cL_law 333 = .ok (.iload 7, 2) := by decide +kernel
theorem dL_law_335 : decode cL_law 335 = .ok (.iconst 2, 1) := by decide +kernel
theorem dL_law_336 : decode cL_law 336 = .ok (.invokevirtual 103, 3) := by decide +kernel
theorem dL_law_339 : decode cL_law 339 = .ok (.aload_n 1, 1) := by decide +kernel
theorem dL_law_340 : decode cL_law 340 = .ok (.invokevirtual 113, 3) := by decide +kernel
theorem dL_law_343 : decode cL_law 343 = .ok (.if_icmp .le 5, 3) := by decide +kernel
theorem dL_law_346 : decode cL_law 346 = .ok (.iconst 0, 1) := by decide +kernel
theorem dL_law_347 : decode cL_law 347 = .ok (.ireturn, 1) := by decide +kernel
theorem dL_law_348 : decode cL_law 348 = .ok (.iload 8, 2) := by decide +kernel
theorem dL_law_350 : decode cL_law 350 = .ok (.iconst 4, 1) := by decide +kernel
theorem dL_law_351 : decode cL_law 351 = .ok (.if_icmp .ne 22, 3) := by decide +kernel
theorem dL_law_354 : decode cL_law 354 = .ok (.aload_n 1, 1) := by decide +kernel
theorem dL_law_355 : decode cL_law 355 = .ok (.iload 7, 2) := by decide +kernel
theorem dL_law_357 : decode cL_law 357 = .ok (.iconst 3, 1) := by decide +kernel
theorem dL_law_358 : decode cL_law 358 = .ok (.invokevirtual 103, 3) := by decide +kernel
theorem dL_law_361 : decode cL_law 361 = .ok (.aload_n 1, 1) := by decide +kernel
theorem dL_law_362 : decode cL_law 362 = .ok (.iload 7, 2) := by decide +kernel
theorem dL_law_364 : decode cL_law 364 = .ok (.iconst 2, 1) := by decide +kernel
theorem dL_law_365 : decode cL_law 365 = .ok (.invokevirtual 103, 3) := by decide +kernel
theorem dL_law_368 : decode cL_law 368 = .ok (.if_icmp .gt 5, 3) := by decide +kernel
theorem dL_law_371 : decode cL_law 371 = .ok (.iconst 0, 1) := by decide +kernel
theorem dL_law_372 : decode cL_law 372 = .ok (.ireturn, 1) := by decide +kernel
theorem dL_law_373 : decode cL_law 373 = .ok (.aload 4, 2) := by decide +kernel
theorem dL_law_375 : decode cL_law 375 = .ok (.iload 7, 2) := by decide +kernel
theorem dL_law_377 : decode cL_law 377 = .ok (.aload 4, 2) := by decide +kernel
theorem dL_law_379 : decode cL_law 379 = .ok (.iload 7, 2) := by decide +kernel
theorem dL_law_381 : decode cL_law 381 = .ok (.iaload, 1) := by decide +kernel
theorem dL_law_382 : decode cL_law 382 = .ok (.iload 8, 2) := by decide +kernel
theorem dL_law_384 : decode cL_law 384 = .ok (.invokestatic 115, 3) := by decide +kernel
theorem dL_law_387 : decode cL_law 387 = .ok (.iastore, 1) := by decide +kernel
theorem dL_law_388 : decode cL_law 388 = .ok (.aload 4, 2) := by decide +kernel
theorem dL_law_390 : decode cL_law 390 = .ok (.iload 7, 2) := by decide +kernel
theorem dL_law_392 : decode cL_law 392 = .ok (.iaload, 1) := by decide +kernel
theorem dL_law_393 : decode cL_law 393 = .ok (.iload 8, 2) := by decide +kernel
theorem dL_law_395 : decode cL_law 395 = .ok (.if_icmp .le 20, 3) := by decide +kernel
theorem dL_law_398 : decode cL_law 398 = .ok (.aload 4, 2) := by decide +kernel
theorem dL_law_400 : decode cL_law 400 = .ok (.iload 7, 2) := by decide +kernel
theorem dL_law_402 : decode cL_law 402 = .ok (.iaload, 1) := by decide +kernel
theorem dL_law_403 : decode cL_law 403 = .ok (.iconst 2, 1) := by decide +kernel
theorem dL_law_404 : decode cL_law 404 = .ok (.if_icmp .le 11, 3) := by decide +kernel
theorem dL_law_407 : decode cL_law 407 = .ok (.iload 8, 2) := by decide +kernel
theorem dL_law_409 : decode cL_law 409 = .ok (.iconst 3, 1) := by decide +kernel
theorem dL_law_410 : decode cL_law 410 = .ok (.if_icmp .ge 5, 3) := by decide +kernel
theorem dL_law_413 : decode cL_law 413 = .ok (.iconst 0, 1) := by decide +kernel
theorem dL_law_414 : decode cL_law 414 = .ok (.ireturn, 1) := by decide +kernel
theorem dL_law_415 : decode cL_law 415 = .ok (.iinc 7 1, 3) := by decide +kernel
theorem dL_law_418 : decode cL_law 418 = .ok (.goto (-347), 3) := by decide +kernel
theorem dL_law_421 : decode cL_law 421 = .ok (.iinc 5 1, 3) := by decide +kernel
theorem dL_law_424 : decode cL_law 424 = .ok (.goto (-394), 3) := by decide +kernel
theorem dL_law_427 : decode cL_law 427 = .ok (.iconst 0, 1) := by decide +kernel
theorem dL_law_428 : decode cL_law 428 = .ok (.istore 5, 2) := by decide +kernel
theorem dL_law_430 : decode cL_law 430 = .ok (.iload 5, 2) := by decide +kernel
theorem dL_law_432 : decode cL_law 432 = .ok (.aload_n 2, 1) := by decide +kernel
theorem dL_law_433 : decode cL_law 433 = .ok (.getfield 15, 3) := by decide +kernel
theorem dL_law_436 : decode cL_law 436 = .ok (.if_icmp .ge 62, 3) := by decide +kernel
theorem dL_law_439 : decode cL_law 439 = .ok (.iconst 0, 1) := by decide +kernel
theorem dL_law_440 : decode cL_law 440 = .ok (.istore 6, 2) := by decide +kernel
theorem dL_law_442 : decode cL_law 442 = .ok (.aload_n 1, 1) := by decide +kernel
theorem dL_law_443 : decode cL_law 443 = .ok (.iload 5, 2) := by decide +kernel
theorem dL_law_445 : decode cL_law 445 = .ok (.iconst 0, 1) := by decide +kernel
theorem dL_law_446 : decode cL_law 446 = .ok (.invokevirtual 110, 3) := by decide +kernel
theorem dL_law_449 : decode cL_law 449 = .ok (.iconst 1, 1) := by decide +kernel
theorem dL_law_450 : decode cL_law 450 = .ok (.if_icmp .ne 33, 3) := by decide +kernel
theorem dL_law_453 : decode cL_law 453 = .ok (.aload_n 1, 1) := by decide +kernel
theorem dL_law_454 : decode cL_law 454 = .ok (.iload 5, 2) := by decide +kernel
theorem dL_law_456 : decode cL_law 456 = .ok (.iconst 3, 1) := by decide +kernel
theorem dL_law_457 : decode cL_law 457 = .ok (.invokevirtual 110, 3) := by decide +kernel
theorem dL_law_460 : decode cL_law 460 = .ok (.ifCond .lt 23, 3) := by decide +kernel
theorem dL_law_463 : decode cL_law 463 = .ok (.iload 6, 2) := by decide +kernel
theorem dL_law_465 : decode cL_law 465 = .ok (.bipush 60, 2) := by decide +kernel
theorem dL_law_467 : decode cL_law 467 = .ok (.if_icmp .ge 16, 3) := by decide +kernel
theorem dL_law_470 : decode cL_law 470 = .ok (.aload_n 1, 1) := by decide +kernel
theorem dL_law_471 : decode cL_law 471 = .ok (.iload 5, 2) := by decide +kernel
theorem dL_law_473 : decode cL_law 473 = .ok (.invokevirtual 63, 3) := by decide +kernel
theorem dL_law_476 : decode cL_law 476 = .ok (.pop, 1) := by decide +kernel
theorem dL_law_477 : decode cL_law 477 = .ok (.iinc 6 1, 3) := by decide +kernel
theorem dL_law_480 : decode cL_law 480 = .ok (.goto (-38), 3) := by decide +kernel
theorem dL_law_483 : decode cL_law 483 = .ok (.iload 6, 2) := by decide +kernel
theorem dL_law_485 : decode cL_law 485 = .ok (.bipush 60, 2) := by decide +kernel
theorem dL_law_487 : decode cL_law 487 = .ok (.if_icmp .ne 5, 3) := by decide +kernel
theorem dL_law_490 : decode cL_law 490 = .ok (.iconst 0, 1) := by decide +kernel
theorem dL_law_491 : decode cL_law 491 = .ok (.ireturn, 1) := by decide +kernel
theorem dL_law_492 : decode cL_law 492 = .ok (.iinc 5 1, 3) := by decide +kernel
theorem dL_law_495 : decode cL_law 495 = .ok (.goto (-65), 3) := by decide +kernel
theorem dL_law_498 : decode cL_law 498 = .ok (.aload_n 1, 1) := by decide +kernel
theorem dL_law_499 : decode cL_law 499 = .ok (.iconst 1, 1) := by decide +kernel
theorem dL_law_500 : decode cL_law 500 = .ok (.invokevirtual 120, 3) := by decide +kernel
theorem dL_law_503 : decode cL_law 503 = .ok (.aload_n 2, 1) := by decide +kernel
theorem dL_law_504 : decode cL_law 504 = .ok (.getfield 30, 3) := by decide +kernel
theorem dL_law_507 : decode cL_law 507 = .ok (.if_icmp .ne 7, 3) := by decide +kernel
theorem dL_law_510 : decode cL_law 510 = .ok (.iconst 1, 1) := by decide +kernel
theorem dL_law_511 : decode cL_law 511 = .ok (.goto 4, 3) := by decide +kernel
theorem dL_law_514 : decode cL_law 514 = .ok (.iconst 0, 1) := by decide +kernel
theorem dL_law_515 : decode cL_law 515 = .ok (.ireturn, 1) := by decide +kernel
abbrev vwCl : List vw_C := [(RJx4a65c, TJx4a65c, 3), (RX0, TX0, 9), (RX1, TX1, 15), (RX2, TX2, 7), (RX3, TX3, 11)]
