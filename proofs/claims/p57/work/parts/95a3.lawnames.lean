/-! ===== the law's names, decode 3 ===== -/
theorem dL_subscribers_358 : decode cL_subscribers 358 = .ok (.iconst 0, 1) := by decide +kernel
theorem dL_subscribers_359 : decode cL_subscribers 359 = .ok (.ireturn, 1) := by decide +kernel
theorem dL_subscribers_360 : decode cL_subscribers 360 = .ok (.iinc 7 1, 3) := by decide +kernel
theorem dL_subscribers_363 : decode cL_subscribers 363 = .ok (.goto (-342), 3) := by decide +kernel
theorem dL_subscribers_366 : decode cL_subscribers 366 = .ok (.iload_n 1, 1) := by decide +kernel
theorem dL_subscribers_367 : decode cL_subscribers 367 = .ok (.ifCond .eq 17, 3) := by decide +kernel
theorem dL_subscribers_370 : decode cL_subscribers 370 = .ok (.aload_n 0, 1) := by decide +kernel
theorem dL_subscribers_371 : decode cL_subscribers 371 = .ok (.invokevirtual 295, 3) := by decide +kernel
theorem dL_subscribers_374 : decode cL_subscribers 374 = .ok (.iload 4, 2) := by decide +kernel
theorem dL_subscribers_376 : decode cL_subscribers 376 = .ok (.i2d, 1) := by decide +kernel
theorem dL_subscribers_377 : decode cL_subscribers 377 = .ok (.iload_n 1, 1) := by decide +kernel
theorem dL_subscribers_378 : decode cL_subscribers 378 = .ok (.i2d, 1) := by decide +kernel
theorem dL_subscribers_379 : decode cL_subscribers 379 = .ok (.ddiv, 1) := by decide +kernel
theorem dL_subscribers_380 : decode cL_subscribers 380 = .ok (.dcmp .l, 1) := by decide +kernel
theorem dL_subscribers_381 : decode cL_subscribers 381 = .ok (.ifCond .ne 7, 3) := by decide +kernel
theorem dL_subscribers_384 : decode cL_subscribers 384 = .ok (.iconst 1, 1) := by decide +kernel
theorem dL_subscribers_385 : decode cL_subscribers 385 = .ok (.goto 4, 3) := by decide +kernel
theorem dL_subscribers_388 : decode cL_subscribers 388 = .ok (.iconst 0, 1) := by decide +kernel
theorem dL_subscribers_389 : decode cL_subscribers 389 = .ok (.istore 7, 2) := by decide +kernel
theorem dL_subscribers_391 : decode cL_subscribers 391 = .ok (.iload 5, 2) := by decide +kernel
theorem dL_subscribers_393 : decode cL_subscribers 393 = .ok (.iload 6, 2) := by decide +kernel
theorem dL_subscribers_395 : decode cL_subscribers 395 = .ok (.iadd, 1) := by decide +kernel
theorem dL_subscribers_396 : decode cL_subscribers 396 = .ok (.ifCond .eq 21, 3) := by decide +kernel
theorem dL_subscribers_399 : decode cL_subscribers 399 = .ok (.aload_n 0, 1) := by decide +kernel
theorem dL_subscribers_400 : decode cL_subscribers 400 = .ok (.invokevirtual 299, 3) := by decide +kernel
theorem dL_subscribers_403 : decode cL_subscribers 403 = .ok (.iload 5, 2) := by decide +kernel
theorem dL_subscribers_405 : decode cL_subscribers 405 = .ok (.i2f, 1) := by decide +kernel
theorem dL_subscribers_406 : decode cL_subscribers 406 = .ok (.iload 5, 2) := by decide +kernel
theorem dL_subscribers_408 : decode cL_subscribers 408 = .ok (.iload 6, 2) := by decide +kernel
theorem dL_subscribers_410 : decode cL_subscribers 410 = .ok (.iadd, 1) := by decide +kernel
theorem dL_subscribers_411 : decode cL_subscribers 411 = .ok (.i2f, 1) := by decide +kernel
theorem dL_subscribers_412 : decode cL_subscribers 412 = .ok (.fdiv, 1) := by decide +kernel
theorem dL_subscribers_413 : decode cL_subscribers 413 = .ok (.fcmp .l, 1) := by decide +kernel
theorem dL_subscribers_414 : decode cL_subscribers 414 = .ok (.ifCond .ne 7, 3) := by decide +kernel
theorem dL_subscribers_417 : decode cL_subscribers 417 = .ok (.iconst 1, 1) := by decide +kernel
theorem dL_subscribers_418 : decode cL_subscribers 418 = .ok (.goto 4, 3) := by decide +kernel
theorem dL_subscribers_421 : decode cL_subscribers 421 = .ok (.iconst 0, 1) := by decide +kernel
theorem dL_subscribers_422 : decode cL_subscribers 422 = .ok (.istore 8, 2) := by decide +kernel
theorem dL_subscribers_424 : decode cL_subscribers 424 = .ok (.iload 7, 2) := by decide +kernel
theorem dL_subscribers_426 : decode cL_subscribers 426 = .ok (.ifCond .eq 60, 3) := by decide +kernel
theorem dL_subscribers_429 : decode cL_subscribers 429 = .ok (.iload 8, 2) := by decide +kernel
theorem dL_subscribers_431 : decode cL_subscribers 431 = .ok (.ifCond .eq 55, 3) := by decide +kernel
theorem dL_subscribers_434 : decode cL_subscribers 434 = .ok (.iload_n 2, 1) := by decide +kernel
theorem dL_subscribers_435 : decode cL_subscribers 435 = .ok (.bipush 60, 2) := by decide +kernel
theorem dL_subscribers_437 : decode cL_subscribers 437 = .ok (.iload_n 3, 1) := by decide +kernel
theorem dL_subscribers_438 : decode cL_subscribers 438 = .ok (.imul, 1) := by decide +kernel
theorem dL_subscribers_439 : decode cL_subscribers 439 = .ok (.iload_n 3, 1) := by decide +kernel
theorem dL_subscribers_440 : decode cL_subscribers 440 = .ok (.imul, 1) := by decide +kernel
theorem dL_subscribers_441 : decode cL_subscribers 441 = .ok (.if_icmp .ne 45, 3) := by decide +kernel
theorem dL_subscribers_444 : decode cL_subscribers 444 = .ok (.aload_n 0, 1) := by decide +kernel
theorem dL_subscribers_445 : decode cL_subscribers 445 = .ok (.iload_n 3, 1) := by decide +kernel
theorem dL_subscribers_446 : decode cL_subscribers 446 = .ok (.invokestatic 303, 3) := by decide +kernel
theorem dL_subscribers_449 : decode cL_subscribers 449 = .ok (.iload_n 2, 1) := by decide +kernel
theorem dL_subscribers_450 : decode cL_subscribers 450 = .ok (.if_icmp .ne 36, 3) := by decide +kernel
theorem dL_subscribers_453 : decode cL_subscribers 453 = .ok (.aload_n 0, 1) := by decide +kernel
theorem dL_subscribers_454 : decode cL_subscribers 454 = .ok (.invokevirtual 305, 3) := by decide +kernel
theorem dL_subscribers_457 : decode cL_subscribers 457 = .ok (.iload_n 3, 1) := by decide +kernel
theorem dL_subscribers_458 : decode cL_subscribers 458 = .ok (.if_icmp .gt 28, 3) := by decide +kernel
theorem dL_subscribers_461 : decode cL_subscribers 461 = .ok (.aload_n 0, 1) := by decide +kernel
theorem dL_subscribers_462 : decode cL_subscribers 462 = .ok (.bipush 21, 2) := by decide +kernel
theorem dL_subscribers_464 : decode cL_subscribers 464 = .ok (.invokestatic 303, 3) := by decide +kernel
theorem dL_subscribers_467 : decode cL_subscribers 467 = .ok (.bipush (-12), 2) := by decide +kernel
theorem dL_subscribers_469 : decode cL_subscribers 469 = .ok (.if_icmp .ne 17, 3) := by decide +kernel
theorem dL_subscribers_472 : decode cL_subscribers 472 = .ok (.aload_n 0, 1) := by decide +kernel
theorem dL_subscribers_473 : decode cL_subscribers 473 = .ok (.iconst (-1), 1) := by decide +kernel
theorem dL_subscribers_474 : decode cL_subscribers 474 = .ok (.invokestatic 303, 3) := by decide +kernel
theorem dL_subscribers_477 : decode cL_subscribers 477 = .ok (.bipush (-12), 2) := by decide +kernel
theorem dL_subscribers_479 : decode cL_subscribers 479 = .ok (.if_icmp .ne 7, 3) := by decide +kernel
theorem dL_subscribers_482 : decode cL_subscribers 482 = .ok (.iconst 1, 1) := by decide +kernel
theorem dL_subscribers_483 : decode cL_subscribers 483 = .ok (.goto 4, 3) := by decide +kernel
theorem dL_subscribers_486 : decode cL_subscribers 486 = .ok (.iconst 0, 1) := by decide +kernel
theorem dL_subscribers_487 : decode cL_subscribers 487 = .ok (.istore 9, 2) := by decide +kernel
theorem dL_subscribers_489 : decode cL_subscribers 489 = .ok (.iload 9, 2) := by decide +kernel
theorem dL_subscribers_491 : decode cL_subscribers 491 = .ok (.ifCond .eq 107, 3) := by decide +kernel
theorem dL_subscribers_494 : decode cL_subscribers 494 = .ok (.aload_n 0, 1) := by decide +kernel
theorem dL_subscribers_495 : decode cL_subscribers 495 = .ok (.iload_n 1, 1) := by decide +kernel
theorem dL_subscribers_496 : decode cL_subscribers 496 = .ok (.invokestatic 292, 3) := by decide +kernel
theorem dL_subscribers_499 : decode cL_subscribers 499 = .ok (.bipush (-13), 2) := by decide +kernel
theorem dL_subscribers_501 : decode cL_subscribers 501 = .ok (.if_icmp .ne 97, 3) := by decide +kernel
theorem dL_subscribers_504 : decode cL_subscribers 504 = .ok (.aload_n 0, 1) := by decide +kernel
theorem dL_subscribers_505 : decode cL_subscribers 505 = .ok (.iload_n 1, 1) := by decide +kernel
theorem dL_subscribers_506 : decode cL_subscribers 506 = .ok (.invokestatic 268, 3) := by decide +kernel
theorem dL_subscribers_509 : decode cL_subscribers 509 = .ok (.bipush (-11), 2) := by decide +kernel
theorem dL_subscribers_511 : decode cL_subscribers 511 = .ok (.if_icmp .ne 87, 3) := by decide +kernel
theorem dL_subscribers_514 : decode cL_subscribers 514 = .ok (.aload_n 0, 1) := by decide +kernel
theorem dL_subscribers_515 : decode cL_subscribers 515 = .ok (.iload_n 1, 1) := by decide +kernel
theorem dL_subscribers_516 : decode cL_subscribers 516 = .ok (.invokestatic 270, 3) := by decide +kernel
theorem dL_subscribers_519 : decode cL_subscribers 519 = .ok (.bipush (-11), 2) := by decide +kernel
theorem dL_subscribers_521 : decode cL_subscribers 521 = .ok (.if_icmp .ne 77, 3) := by decide +kernel
theorem dL_subscribers_524 : decode cL_subscribers 524 = .ok (.aload_n 0, 1) := by decide +kernel
theorem dL_subscribers_525 : decode cL_subscribers 525 = .ok (.iload_n 1, 1) := by decide +kernel
theorem dL_subscribers_526 : decode cL_subscribers 526 = .ok (.invokestatic 279, 3) := by decide +kernel
theorem dL_subscribers_529 : decode cL_subscribers 529 = .ok (.bipush (-11), 2) := by decide +kernel
theorem dL_subscribers_531 : decode cL_subscribers 531 = .ok (.if_icmp .ne 67, 3) := by decide +kernel
theorem dL_subscribers_534 : decode cL_subscribers 534 = .ok (.aload_n 0, 1) := by decide +kernel
theorem dL_subscribers_535 : decode cL_subscribers 535 = .ok (.iload_n 1, 1) := by decide +kernel
theorem dL_subscribers_536 : decode cL_subscribers 536 = .ok (.invokestatic 272, 3) := by decide +kernel
theorem dL_subscribers_539 : decode cL_subscribers 539 = .ok (.bipush (-11), 2) := by decide +kernel
theorem dL_subscribers_541 : decode cL_subscribers 541 = .ok (.if_icmp .ne 57, 3) := by decide +kernel
theorem dL_subscribers_544 : decode cL_subscribers 544 = .ok (.aload_n 0, 1) := by decide +kernel
theorem dL_subscribers_545 : decode cL_subscribers 545 = .ok (.iload_n 1, 1) := by decide +kernel
theorem dL_subscribers_546 : decode cL_subscribers 546 = .ok (.invokestatic 286, 3) := by decide +kernel
theorem dL_subscribers_549 : decode cL_subscribers 549 = .ok (.bipush (-11), 2) := by decide +kernel
theorem dL_subscribers_551 : decode cL_subscribers 551 = .ok (.if_icmp .ne 47, 3) := by decide +kernel
theorem dL_subscribers_554 : decode cL_subscribers 554 = .ok (.aload_n 0, 1) := by decide +kernel
theorem dL_subscribers_555 : decode cL_subscribers 555 = .ok (.iconst (-1), 1) := by decide +kernel
theorem dL_subscribers_556 : decode cL_subscribers 556 = .ok (.invokestatic 289, 3) := by decide +kernel
theorem dL_subscribers_559 : decode cL_subscribers 559 = .ok (.bipush (-11), 2) := by decide +kernel
theorem dL_subscribers_561 : decode cL_subscribers 561 = .ok (.if_icmp .ne 37, 3) := by decide +kernel
theorem dL_subscribers_564 : decode cL_subscribers 564 = .ok (.aload_n 0, 1) := by decide +kernel
theorem dL_subscribers_565 : decode cL_subscribers 565 = .ok (.iload_n 1, 1) := by decide +kernel
theorem dL_subscribers_566 : decode cL_subscribers 566 = .ok (.invokestatic 274, 3) := by decide +kernel
theorem dL_subscribers_569 : decode cL_subscribers 569 = .ok (.bipush (-11), 2) := by decide +kernel
theorem dL_subscribers_571 : decode cL_subscribers 571 = .ok (.if_icmp .ne 27, 3) := by decide +kernel
theorem dL_subscribers_574 : decode cL_subscribers 574 = .ok (.aload_n 0, 1) := by decide +kernel
theorem dL_subscribers_575 : decode cL_subscribers 575 = .ok (.iload_n 1, 1) := by decide +kernel
theorem dL_subscribers_576 : decode cL_subscribers 576 = .ok (.invokestatic 276, 3) := by decide +kernel
theorem dL_subscribers_579 : decode cL_subscribers 579 = .ok (.bipush (-11), 2) := by decide +kernel
theorem dL_subscribers_581 : decode cL_subscribers 581 = .ok (.if_icmp .ne 17, 3) := by decide +kernel
theorem dL_subscribers_584 : decode cL_subscribers 584 = .ok (.aload_n 0, 1) := by decide +kernel
theorem dL_subscribers_585 : decode cL_subscribers 585 = .ok (.iload_n 1, 1) := by decide +kernel
theorem dL_subscribers_586 : decode cL_subscribers 586 = .ok (.invokestatic 281, 3) := by decide +kernel
theorem dL_subscribers_589 : decode cL_subscribers 589 = .ok (.bipush (-11), 2) := by decide +kernel
theorem dL_subscribers_591 : decode cL_subscribers 591 = .ok (.if_icmp .ne 7, 3) := by decide +kernel
theorem dL_subscribers_594 : decode cL_subscribers 594 = .ok (.iconst 1, 1) := by decide +kernel
theorem dL_subscribers_595 : decode cL_subscribers 595 = .ok (.goto 4, 3) := by decide +kernel
theorem dL_subscribers_598 : decode cL_subscribers 598 = .ok (.iconst 0, 1) := by decide +kernel
theorem dL_subscribers_599 : decode cL_subscribers 599 = .ok (.ireturn, 1) := by decide +kernel
theorem dL_spells_0 : decode cL_spells 0 = .ok (.iload_n 1, 1) := by decide +kernel
theorem dL_spells_1 : decode cL_spells 1 = .ok (.aload_n 2, 1) := by decide +kernel
theorem dL_spells_2 : decode cL_spells 2 = .ok (.invokevirtual 143, 3) := by decide +kernel
theorem dL_spells_5 : decode cL_spells 5 = .ok (.if_icmp .ne 7, 3) := by decide +kernel
theorem dL_spells_8 : decode cL_spells 8 = .ok (.iconst 1, 1) := by decide +kernel
theorem dL_spells_9 : decode cL_spells 9 = .ok (.goto 4, 3) := by decide +kernel
theorem dL_spells_12 : decode cL_spells 12 = .ok (.iconst 0, 1) := by decide +kernel
theorem dL_spells_13 : decode cL_spells 13 = .ok (.istore_n 3, 1) := by decide +kernel
theorem dL_spells_14 : decode cL_spells 14 = .ok (.iconst 0, 1) := by decide +kernel
theorem dL_spells_15 : decode cL_spells 15 = .ok (.istore 4, 2) := by decide +kernel
theorem dL_spells_17 : decode cL_spells 17 = .ok (.iload 4, 2) := by decide +kernel
theorem dL_spells_19 : decode cL_spells 19 = .ok (.aload_n 2, 1) := by decide +kernel
theorem dL_spells_20 : decode cL_spells 20 = .ok (.invokevirtual 143, 3) := by decide +kernel
theorem dL_spells_23 : decode cL_spells 23 = .ok (.if_icmp .ge 34, 3) := by decide +kernel
theorem dL_spells_26 : decode cL_spells 26 = .ok (.iload_n 3, 1) := by decide +kernel
theorem dL_spells_27 : decode cL_spells 27 = .ok (.ifCond .eq 30, 3) := by decide +kernel
theorem dL_spells_30 : decode cL_spells 30 = .ok (.aload_n 0, 1) := by decide +kernel
theorem dL_spells_31 : decode cL_spells 31 = .ok (.iload 4, 2) := by decide +kernel
theorem dL_spells_33 : decode cL_spells 33 = .ok (.invokestatic 308, 3) := by decide +kernel
theorem dL_spells_36 : decode cL_spells 36 = .ok (.aload_n 2, 1) := by decide +kernel
theorem dL_spells_37 : decode cL_spells 37 = .ok (.iload 4, 2) := by decide +kernel
theorem dL_spells_39 : decode cL_spells 39 = .ok (.invokevirtual 148, 3) := by decide +kernel
theorem dL_spells_42 : decode cL_spells 42 = .ok (.if_icmp .ne 7, 3) := by decide +kernel
theorem dL_spells_45 : decode cL_spells 45 = .ok (.iconst 1, 1) := by decide +kernel
theorem dL_spells_46 : decode cL_spells 46 = .ok (.goto 4, 3) := by decide +kernel
theorem dL_spells_49 : decode cL_spells 49 = .ok (.iconst 0, 1) := by decide +kernel
theorem dL_spells_50 : decode cL_spells 50 = .ok (.istore_n 3, 1) := by decide +kernel
theorem dL_spells_51 : decode cL_spells 51 = .ok (.iinc 4 1, 3) := by decide +kernel
theorem dL_spells_54 : decode cL_spells 54 = .ok (.goto (-37), 3) := by decide +kernel
theorem dL_spells_57 : decode cL_spells 57 = .ok (.iload_n 3, 1) := by decide +kernel
theorem dL_spells_58 : decode cL_spells 58 = .ok (.ifCond .eq 17, 3) := by decide +kernel
theorem dL_spells_61 : decode cL_spells 61 = .ok (.aload_n 0, 1) := by decide +kernel
theorem dL_spells_62 : decode cL_spells 62 = .ok (.iload_n 1, 1) := by decide +kernel
theorem dL_spells_63 : decode cL_spells 63 = .ok (.invokestatic 308, 3) := by decide +kernel
theorem dL_spells_66 : decode cL_spells 66 = .ok (.bipush (-11), 2) := by decide +kernel
theorem dL_spells_68 : decode cL_spells 68 = .ok (.if_icmp .ne 7, 3) := by decide +kernel
theorem dL_spells_71 : decode cL_spells 71 = .ok (.iconst 1, 1) := by decide +kernel
theorem dL_spells_72 : decode cL_spells 72 = .ok (.goto 4, 3) := by decide +kernel
theorem dL_spells_75 : decode cL_spells 75 = .ok (.iconst 0, 1) := by decide +kernel
theorem dL_spells_76 : decode cL_spells 76 = .ok (.ireturn, 1) := by decide +kernel
theorem dL_lines_0 : decode cL_lines 0 = .ok (.iconst 0, 1) := by decide +kernel
theorem dL_lines_1 : decode cL_lines 1 = .ok (.istore_n 1, 1) := by decide +kernel
theorem dL_lines_2 : decode cL_lines 2 = .ok (.iload_n 1, 1) := by decide +kernel
theorem dL_lines_3 : decode cL_lines 3 = .ok (.aload_n 0, 1) := by decide +kernel
theorem dL_lines_4 : decode cL_lines 4 = .ok (.invokevirtual 173, 3) := by decide +kernel
theorem dL_lines_7 : decode cL_lines 7 = .ok (.if_icmp .ge 110, 3) := by decide +kernel
theorem dL_lines_10 : decode cL_lines 10 = .ok (.aload_n 0, 1) := by decide +kernel
theorem dL_lines_11 : decode cL_lines 11 = .ok (.iload_n 1, 1) := by decide +kernel
theorem dL_lines_12 : decode cL_lines 12 = .ok (.invokestatic 272, 3) := by decide +kernel
theorem dL_lines_15 : decode cL_lines 15 = .ok (.istore_n 2, 1) := by decide +kernel
theorem dL_lines_16 : decode cL_lines 16 = .ok (.new 310, 3) := by decide +kernel
theorem dL_lines_19 : decode cL_lines 19 = .ok (.dup, 1) := by decide +kernel
theorem dL_lines_20 : decode cL_lines 20 = .ok (.invokespecial 312, 3) := by decide +kernel
theorem dL_lines_23 : decode cL_lines 23 = .ok (.aload_n 0, 1) := by decide +kernel
theorem dL_lines_24 : decode cL_lines 24 = .ok (.iload_n 1, 1) := by decide +kernel
theorem dL_lines_25 : decode cL_lines 25 = .ok (.invokevirtual 80, 3) := by decide +kernel
theorem dL_lines_28 : decode cL_lines 28 = .ok (.invokevirtual 313, 3) := by decide +kernel
theorem dL_lines_31 : decode cL_lines 31 = .ok (.ldc_w 317, 3) := by decide +kernel
theorem dL_lines_34 : decode cL_lines 34 = .ok (.invokevirtual 319, 3) := by decide +kernel
theorem dL_lines_37 : decode cL_lines 37 = .ok (.aload_n 0, 1) := by decide +kernel
theorem dL_lines_38 : decode cL_lines 38 = .ok (.iload_n 1, 1) := by decide +kernel
theorem dL_lines_39 : decode cL_lines 39 = .ok (.invokevirtual 83, 3) := by decide +kernel
theorem dL_lines_42 : decode cL_lines 42 = .ok (.invokevirtual 313, 3) := by decide +kernel
theorem dL_lines_45 : decode cL_lines 45 = .ok (.ldc_w 322, 3) := by decide +kernel
theorem dL_lines_48 : decode cL_lines 48 = .ok (.invokevirtual 319, 3) := by decide +kernel
theorem dL_lines_51 : decode cL_lines 51 = .ok (.aload_n 0, 1) := by decide +kernel
theorem dL_lines_52 : decode cL_lines 52 = .ok (.iload_n 1, 1) := by decide +kernel
theorem dL_lines_53 : decode cL_lines 53 = .ok (.invokevirtual 86, 3) := by decide +kernel
theorem dL_lines_56 : decode cL_lines 56 = .ok (.invokevirtual 313, 3) := by decide +kernel
theorem dL_lines_59 : decode cL_lines 59 = .ok (.iload_n 2, 1) := by decide +kernel
theorem dL_lines_60 : decode cL_lines 60 = .ok (.ifCond .ge 9, 3) := by decide +kernel
theorem dL_lines_63 : decode cL_lines 63 = .ok (.ldc_w 324, 3) := by decide +kernel
theorem dL_lines_66 : decode cL_lines 66 = .ok (.goto 23, 3) := by decide +kernel
theorem dL_lines_69 : decode cL_lines 69 = .ok (.new 310, 3) := by decide +kernel
theorem dL_lines_72 : decode cL_lines 72 = .ok (.dup, 1) := by decide +kernel
theorem dL_lines_73 : decode cL_lines 73 = .ok (.invokespecial 312, 3) := by decide +kernel
theorem dL_lines_76 : decode cL_lines 76 = .ok (.ldc_w 326, 3) := by decide +kernel
theorem dL_lines_79 : decode cL_lines 79 = .ok (.invokevirtual 319, 3) := by decide +kernel
theorem dL_lines_82 : decode cL_lines 82 = .ok (.iload_n 2, 1) := by decide +kernel
theorem dL_lines_83 : decode cL_lines 83 = .ok (.invokevirtual 313, 3) := by decide +kernel
theorem dL_lines_86 : decode cL_lines 86 = .ok (.invokevirtual 328, 3) := by decide +kernel
theorem dL_lines_89 : decode cL_lines 89 = .ok (.invokevirtual 319, 3) := by decide +kernel
theorem dL_lines_92 : decode cL_lines 92 = .ok (.invokevirtual 328, 3) := by decide +kernel
theorem dL_lines_95 : decode cL_lines 95 = .ok (.astore_n 3, 1) := by decide +kernel
theorem dL_lines_96 : decode cL_lines 96 = .ok (.aload_n 0, 1) := by decide +kernel
theorem dL_lines_97 : decode cL_lines 97 = .ok (.aload_n 0, 1) := by decide +kernel
theorem dL_lines_98 : decode cL_lines 98 = .ok (.iload_n 1, 1) := by decide +kernel
theorem dL_lines_99 : decode cL_lines 99 = .ok (.invokestatic 332, 3) := by decide +kernel
theorem dL_lines_102 : decode cL_lines 102 = .ok (.aload_n 3, 1) := by decide +kernel
theorem dL_lines_103 : decode cL_lines 103 = .ok (.invokestatic 334, 3) := by decide +kernel
theorem dL_lines_106 : decode cL_lines 106 = .ok (.ifCond .ne 5, 3) := by decide +kernel
theorem dL_lines_109 : decode cL_lines 109 = .ok (.iconst 0, 1) := by decide +kernel
theorem dL_lines_110 : decode cL_lines 110 = .ok (.ireturn, 1) := by decide +kernel
theorem dL_lines_111 : decode cL_lines 111 = .ok (.iinc 1 1, 3) := by decide +kernel
theorem dL_lines_114 : decode cL_lines 114 = .ok (.goto (-112), 3) := by decide +kernel
theorem dL_lines_117 : decode cL_lines 117 = .ok (.iconst 0, 1) := by decide +kernel
theorem dL_lines_118 : decode cL_lines 118 = .ok (.istore_n 1, 1) := by decide +kernel
theorem dL_lines_119 : decode cL_lines 119 = .ok (.iload_n 1, 1) := by decide +kernel
theorem dL_lines_120 : decode cL_lines 120 = .ok (.aload_n 0, 1) := by decide +kernel
theorem dL_lines_121 : decode cL_lines 121 = .ok (.invokevirtual 230, 3) := by decide +kernel
theorem dL_lines_124 : decode cL_lines 124 = .ok (.if_icmp .ge 114, 3) := by decide +kernel
theorem dL_lines_127 : decode cL_lines 127 = .ok (.aload_n 0, 1) := by decide +kernel
theorem dL_lines_128 : decode cL_lines 128 = .ok (.iload_n 1, 1) := by decide +kernel
theorem dL_lines_129 : decode cL_lines 129 = .ok (.invokevirtual 46, 3) := by decide +kernel
theorem dL_lines_132 : decode cL_lines 132 = .ok (.istore_n 2, 1) := by decide +kernel
theorem dL_lines_133 : decode cL_lines 133 = .ok (.aload_n 0, 1) := by decide +kernel
theorem dL_lines_134 : decode cL_lines 134 = .ok (.iload_n 1, 1) := by decide +kernel
theorem dL_lines_135 : decode cL_lines 135 = .ok (.invokevirtual 50, 3) := by decide +kernel
theorem dL_lines_138 : decode cL_lines 138 = .ok (.istore_n 3, 1) := by decide +kernel
theorem dL_lines_139 : decode cL_lines 139 = .ok (.new 310, 3) := by decide +kernel
theorem dL_lines_142 : decode cL_lines 142 = .ok (.dup, 1) := by decide +kernel
theorem dL_lines_143 : decode cL_lines 143 = .ok (.invokespecial 312, 3) := by decide +kernel
theorem dL_lines_146 : decode cL_lines 146 = .ok (.iload_n 2, 1) := by decide +kernel
theorem dL_lines_147 : decode cL_lines 147 = .ok (.invokevirtual 313, 3) := by decide +kernel
theorem dL_lines_150 : decode cL_lines 150 = .ok (.ldc_w 324, 3) := by decide +kernel
theorem dL_lines_153 : decode cL_lines 153 = .ok (.invokevirtual 319, 3) := by decide +kernel
theorem dL_lines_156 : decode cL_lines 156 = .ok (.iload_n 3, 1) := by decide +kernel
theorem dL_lines_157 : decode cL_lines 157 = .ok (.invokevirtual 313, 3) := by decide +kernel
theorem dL_lines_160 : decode cL_lines 160 = .ok (.ldc_w 322, 3) := by decide +kernel
theorem dL_lines_163 : decode cL_lines 163 = .ok (.invokevirtual 319, 3) := by decide +kernel
theorem dL_lines_166 : decode cL_lines 166 = .ok (.aload_n 0, 1) := by decide +kernel
theorem dL_lines_167 : decode cL_lines 167 = .ok (.iload_n 2, 1) := by decide +kernel
theorem dL_lines_168 : decode cL_lines 168 = .ok (.iload_n 3, 1) := by decide +kernel
theorem dL_lines_169 : decode cL_lines 169 = .ok (.invokevirtual 34, 3) := by decide +kernel
theorem dL_lines_172 : decode cL_lines 172 = .ok (.invokevirtual 313, 3) := by decide +kernel
theorem dL_lines_175 : decode cL_lines 175 = .ok (.ldc_w 338, 3) := by decide +kernel
theorem dL_lines_178 : decode cL_lines 178 = .ok (.invokevirtual 319, 3) := by decide +kernel
theorem dL_lines_181 : decode cL_lines 181 = .ok (.aload_n 0, 1) := by decide +kernel
theorem dL_lines_182 : decode cL_lines 182 = .ok (.iload_n 2, 1) := by decide +kernel
theorem dL_lines_183 : decode cL_lines 183 = .ok (.iload_n 3, 1) := by decide +kernel
theorem dL_lines_184 : decode cL_lines 184 = .ok (.invokevirtual 37, 3) := by decide +kernel
theorem dL_lines_187 : decode cL_lines 187 = .ok (.invokevirtual 313, 3) := by decide +kernel
theorem dL_lines_190 : decode cL_lines 190 = .ok (.aload_n 0, 1) := by decide +kernel
theorem dL_lines_191 : decode cL_lines 191 = .ok (.iload_n 2, 1) := by decide +kernel
theorem dL_lines_192 : decode cL_lines 192 = .ok (.iload_n 3, 1) := by decide +kernel
theorem dL_lines_193 : decode cL_lines 193 = .ok (.invokevirtual 43, 3) := by decide +kernel
theorem dL_lines_196 : decode cL_lines 196 = .ok (.ifCond .eq 9, 3) := by decide +kernel
theorem dL_lines_199 : decode cL_lines 199 = .ok (.ldc_w 340, 3) := by decide +kernel
theorem dL_lines_202 : decode cL_lines 202 = .ok (.goto 6, 3) := by decide +kernel
theorem dL_lines_205 : decode cL_lines 205 = .ok (.ldc_w 342, 3) := by decide +kernel
theorem dL_lines_208 : decode cL_lines 208 = .ok (.invokevirtual 319, 3) := by decide +kernel
theorem dL_lines_211 : decode cL_lines 211 = .ok (.invokevirtual 328, 3) := by decide +kernel
theorem dL_lines_214 : decode cL_lines 214 = .ok (.astore 4, 2) := by decide +kernel
theorem dL_lines_216 : decode cL_lines 216 = .ok (.aload_n 0, 1) := by decide +kernel
theorem dL_lines_217 : decode cL_lines 217 = .ok (.aload_n 0, 1) := by decide +kernel
theorem dL_lines_218 : decode cL_lines 218 = .ok (.iload_n 1, 1) := by decide +kernel
theorem dL_lines_219 : decode cL_lines 219 = .ok (.invokestatic 344, 3) := by decide +kernel
theorem dL_lines_222 : decode cL_lines 222 = .ok (.aload 4, 2) := by decide +kernel
theorem dL_lines_224 : decode cL_lines 224 = .ok (.invokestatic 334, 3) := by decide +kernel
theorem dL_lines_227 : decode cL_lines 227 = .ok (.ifCond .ne 5, 3) := by decide +kernel
theorem dL_lines_230 : decode cL_lines 230 = .ok (.iconst 0, 1) := by decide +kernel
theorem dL_lines_231 : decode cL_lines 231 = .ok (.ireturn, 1) := by decide +kernel
theorem dL_lines_232 : decode cL_lines 232 = .ok (.iinc 1 1, 3) := by decide +kernel
theorem dL_lines_235 : decode cL_lines 235 = .ok (.goto (-116), 3) := by decide +kernel
theorem dL_lines_238 : decode cL_lines 238 = .ok (.aload_n 0, 1) := by decide +kernel
theorem dL_lines_239 : decode cL_lines 239 = .ok (.aload_n 0, 1) := by decide +kernel
theorem dL_lines_240 : decode cL_lines 240 = .ok (.invokevirtual 173, 3) := by decide +kernel
theorem dL_lines_243 : decode cL_lines 243 = .ok (.invokestatic 332, 3) := by decide +kernel
theorem dL_lines_246 : decode cL_lines 246 = .ok (.bipush (-11), 2) := by decide +kernel
theorem dL_lines_248 : decode cL_lines 248 = .ok (.if_icmp .ne 30, 3) := by decide +kernel
theorem dL_lines_251 : decode cL_lines 251 = .ok (.aload_n 0, 1) := by decide +kernel
theorem dL_lines_252 : decode cL_lines 252 = .ok (.aload_n 0, 1) := by decide +kernel
theorem dL_lines_253 : decode cL_lines 253 = .ok (.invokevirtual 230, 3) := by decide +kernel
theorem dL_lines_256 : decode cL_lines 256 = .ok (.invokestatic 344, 3) := by decide +kernel
theorem dL_lines_259 : decode cL_lines 259 = .ok (.bipush (-11), 2) := by decide +kernel
theorem dL_lines_261 : decode cL_lines 261 = .ok (.if_icmp .ne 17, 3) := by decide +kernel
theorem dL_lines_264 : decode cL_lines 264 = .ok (.aload_n 0, 1) := by decide +kernel
theorem dL_lines_265 : decode cL_lines 265 = .ok (.iconst (-1), 1) := by decide +kernel
theorem dL_lines_266 : decode cL_lines 266 = .ok (.invokestatic 344, 3) := by decide +kernel
theorem dL_lines_269 : decode cL_lines 269 = .ok (.bipush (-11), 2) := by decide +kernel
theorem dL_lines_271 : decode cL_lines 271 = .ok (.if_icmp .ne 7, 3) := by decide +kernel
theorem dL_lines_274 : decode cL_lines 274 = .ok (.iconst 1, 1) := by decide +kernel
theorem dL_lines_275 : decode cL_lines 275 = .ok (.goto 4, 3) := by decide +kernel
theorem dL_lines_278 : decode cL_lines 278 = .ok (.iconst 0, 1) := by decide +kernel
theorem dL_lines_279 : decode cL_lines 279 = .ok (.ireturn, 1) := by decide +kernel
theorem dL_sum_0 : decode cL_sum 0 = .ok (.ldc2_w 346, 3) := by decide +kernel
theorem dL_sum_3 : decode cL_sum 3 = .ok (.aload_n 0, 1) := by decide +kernel
theorem dL_sum_4 : decode cL_sum 4 = .ok (.invokevirtual 227, 3) := by decide +kernel
theorem dL_sum_7 : decode cL_sum 7 = .ok (.i2l, 1) := by decide +kernel
theorem dL_sum_8 : decode cL_sum 8 = .ok (.ladd, 1) := by decide +kernel
theorem dL_sum_9 : decode cL_sum 9 = .ok (.lstore_n 1, 1) := by decide +kernel
theorem dL_sum_10 : decode cL_sum 10 = .ok (.ldc2_w 348, 3) := by decide +kernel
theorem dL_sum_13 : decode cL_sum 13 = .ok (.lload_n 1, 1) := by decide +kernel
theorem dL_sum_14 : decode cL_sum 14 = .ok (.lmul, 1) := by decide +kernel
theorem dL_sum_15 : decode cL_sum 15 = .ok (.bipush 100, 2) := by decide +kernel
theorem dL_sum_17 : decode cL_sum 17 = .ok (.aload_n 0, 1) := by decide +kernel
theorem dL_sum_18 : decode cL_sum 18 = .ok (.invokevirtual 218, 3) := by decide +kernel
theorem dL_sum_21 : decode cL_sum 21 = .ok (.imul, 1) := by decide +kernel
theorem dL_sum_22 : decode cL_sum 22 = .ok (.i2l, 1) := by decide +kernel
theorem dL_sum_23 : decode cL_sum 23 = .ok (.ladd, 1) := by decide +kernel
theorem dL_sum_24 : decode cL_sum 24 = .ok (.aload_n 0, 1) := by decide +kernel
theorem dL_sum_25 : decode cL_sum 25 = .ok (.invokevirtual 350, 3) := by decide +kernel
theorem dL_sum_28 : decode cL_sum 28 = .ok (.i2l, 1) := by decide +kernel
theorem dL_sum_29 : decode cL_sum 29 = .ok (.ladd, 1) := by decide +kernel
theorem dL_sum_30 : decode cL_sum 30 = .ok (.lstore_n 1, 1) := by decide +kernel
theorem dL_sum_31 : decode cL_sum 31 = .ok (.ldc2_w 348, 3) := by decide +kernel
theorem dL_sum_34 : decode cL_sum 34 = .ok (.lload_n 1, 1) := by decide +kernel
theorem dL_sum_35 : decode cL_sum 35 = .ok (.lmul, 1) := by decide +kernel
theorem dL_sum_36 : decode cL_sum 36 = .ok (.aload_n 0, 1) := by decide +kernel
theorem dL_sum_37 : decode cL_sum 37 = .ok (.invokevirtual 353, 3) := by decide +kernel
theorem dL_sum_40 : decode cL_sum 40 = .ok (.ladd, 1) := by decide +kernel
theorem dL_sum_41 : decode cL_sum 41 = .ok (.lstore_n 1, 1) := by decide +kernel
theorem dL_sum_42 : decode cL_sum 42 = .ok (.ldc2_w 348, 3) := by decide +kernel
theorem dL_sum_45 : decode cL_sum 45 = .ok (.lload_n 1, 1) := by decide +kernel
theorem dL_sum_46 : decode cL_sum 46 = .ok (.lmul, 1) := by decide +kernel
theorem dL_sum_47 : decode cL_sum 47 = .ok (.aload_n 0, 1) := by decide +kernel
theorem dL_sum_48 : decode cL_sum 48 = .ok (.invokevirtual 357, 3) := by decide +kernel
theorem dL_sum_51 : decode cL_sum 51 = .ok (.ladd, 1) := by decide +kernel
theorem dL_sum_52 : decode cL_sum 52 = .ok (.lstore_n 1, 1) := by decide +kernel
theorem dL_sum_53 : decode cL_sum 53 = .ok (.iconst 0, 1) := by decide +kernel
theorem dL_sum_54 : decode cL_sum 54 = .ok (.istore_n 3, 1) := by decide +kernel
theorem dL_sum_55 : decode cL_sum 55 = .ok (.iload_n 3, 1) := by decide +kernel
theorem dL_sum_56 : decode cL_sum 56 = .ok (.aload_n 0, 1) := by decide +kernel
theorem dL_sum_57 : decode cL_sum 57 = .ok (.invokevirtual 230, 3) := by decide +kernel
theorem dL_sum_60 : decode cL_sum 60 = .ok (.if_icmp .ge 83, 3) := by decide +kernel
theorem dL_sum_63 : decode cL_sum 63 = .ok (.aload_n 0, 1) := by decide +kernel
theorem dL_sum_64 : decode cL_sum 64 = .ok (.iload_n 3, 1) := by decide +kernel
theorem dL_sum_65 : decode cL_sum 65 = .ok (.invokevirtual 46, 3) := by decide +kernel
theorem dL_sum_68 : decode cL_sum 68 = .ok (.istore 4, 2) := by decide +kernel
theorem dL_sum_70 : decode cL_sum 70 = .ok (.aload_n 0, 1) := by decide +kernel
theorem dL_sum_71 : decode cL_sum 71 = .ok (.iload_n 3, 1) := by decide +kernel
theorem dL_sum_72 : decode cL_sum 72 = .ok (.invokevirtual 50, 3) := by decide +kernel
theorem dL_sum_75 : decode cL_sum 75 = .ok (.istore 5, 2) := by decide +kernel
theorem dL_sum_77 : decode cL_sum 77 = .ok (.ldc2_w 360, 3) := by decide +kernel
theorem dL_sum_80 : decode cL_sum 80 = .ok (.lload_n 1, 1) := by decide +kernel
theorem dL_sum_81 : decode cL_sum 81 = .ok (.lmul, 1) := by decide +kernel
theorem dL_sum_82 : decode cL_sum 82 = .ok (.bipush 10, 2) := by decide +kernel
theorem dL_sum_84 : decode cL_sum 84 = .ok (.iload 4, 2) := by decide +kernel
theorem dL_sum_86 : decode cL_sum 86 = .ok (.imul, 1) := by decide +kernel
theorem dL_sum_87 : decode cL_sum 87 = .ok (.i2l, 1) := by decide +kernel
theorem dL_sum_88 : decode cL_sum 88 = .ok (.ladd, 1) := by decide +kernel
theorem dL_sum_89 : decode cL_sum 89 = .ok (.iload 5, 2) := by decide +kernel
theorem dL_sum_91 : decode cL_sum 91 = .ok (.i2l, 1) := by decide +kernel
theorem dL_sum_92 : decode cL_sum 92 = .ok (.ladd, 1) := by decide +kernel
theorem dL_sum_93 : decode cL_sum 93 = .ok (.lstore_n 1, 1) := by decide +kernel
theorem dL_sum_94 : decode cL_sum 94 = .ok (.ldc2_w 362, 3) := by decide +kernel
theorem dL_sum_97 : decode cL_sum 97 = .ok (.lload_n 1, 1) := by decide +kernel
theorem dL_sum_98 : decode cL_sum 98 = .ok (.lmul, 1) := by decide +kernel
theorem dL_sum_99 : decode cL_sum 99 = .ok (.sipush 10000, 3) := by decide +kernel
theorem dL_sum_102 : decode cL_sum 102 = .ok (.aload_n 0, 1) := by decide +kernel
theorem dL_sum_103 : decode cL_sum 103 = .ok (.iload 4, 2) := by decide +kernel
theorem dL_sum_105 : decode cL_sum 105 = .ok (.iload 5, 2) := by decide +kernel
theorem dL_sum_107 : decode cL_sum 107 = .ok (.invokevirtual 34, 3) := by decide +kernel
theorem dL_sum_110 : decode cL_sum 110 = .ok (.imul, 1) := by decide +kernel
theorem dL_sum_111 : decode cL_sum 111 = .ok (.i2l, 1) := by decide +kernel
theorem dL_sum_112 : decode cL_sum 112 = .ok (.ladd, 1) := by decide +kernel
theorem dL_sum_113 : decode cL_sum 113 = .ok (.bipush 100, 2) := by decide +kernel
theorem dL_sum_115 : decode cL_sum 115 = .ok (.aload_n 0, 1) := by decide +kernel
theorem dL_sum_116 : decode cL_sum 116 = .ok (.iload 4, 2) := by decide +kernel
theorem dL_sum_118 : decode cL_sum 118 = .ok (.iload 5, 2) := by decide +kernel
theorem dL_sum_120 : decode cL_sum 120 = .ok (.invokevirtual 37, 3) := by decide +kernel
theorem dL_sum_123 : decode cL_sum 123 = .ok (.imul, 1) := by decide +kernel
theorem dL_sum_124 : decode cL_sum 124 = .ok (.i2l, 1) := by decide +kernel
theorem dL_sum_125 : decode cL_sum 125 = .ok (.ladd, 1) := by decide +kernel
theorem dL_sum_126 : decode cL_sum 126 = .ok (.aload_n 0, 1) := by decide +kernel
theorem dL_sum_127 : decode cL_sum 127 = .ok (.iload 4, 2) := by decide +kernel
theorem dL_sum_129 : decode cL_sum 129 = .ok (.iload 5, 2) := by decide +kernel
theorem dL_sum_131 : decode cL_sum 131 = .ok (.invokevirtual 40, 3) := by decide +kernel
theorem dL_sum_134 : decode cL_sum 134 = .ok (.i2l, 1) := by decide +kernel
theorem dL_sum_135 : decode cL_sum 135 = .ok (.ladd, 1) := by decide +kernel
theorem dL_sum_136 : decode cL_sum 136 = .ok (.lstore_n 1, 1) := by decide +kernel
theorem dL_sum_137 : decode cL_sum 137 = .ok (.iinc 3 1, 3) := by decide +kernel
theorem dL_sum_140 : decode cL_sum 140 = .ok (.goto (-85), 3) := by decide +kernel
theorem dL_sum_143 : decode cL_sum 143 = .ok (.iconst 0, 1) := by decide +kernel
theorem dL_sum_144 : decode cL_sum 144 = .ok (.istore_n 3, 1) := by decide +kernel
theorem dL_sum_145 : decode cL_sum 145 = .ok (.iload_n 3, 1) := by decide +kernel
theorem dL_sum_146 : decode cL_sum 146 = .ok (.aload_n 0, 1) := by decide +kernel
theorem dL_sum_147 : decode cL_sum 147 = .ok (.invokevirtual 173, 3) := by decide +kernel
theorem dL_sum_150 : decode cL_sum 150 = .ok (.if_icmp .ge 68, 3) := by decide +kernel
theorem dL_sum_153 : decode cL_sum 153 = .ok (.ldc2_w 364, 3) := by decide +kernel
theorem dL_sum_156 : decode cL_sum 156 = .ok (.lload_n 1, 1) := by decide +kernel
theorem dL_sum_157 : decode cL_sum 157 = .ok (.lmul, 1) := by decide +kernel
theorem dL_sum_158 : decode cL_sum 158 = .ok (.bipush 10, 2) := by decide +kernel
theorem dL_sum_160 : decode cL_sum 160 = .ok (.aload_n 0, 1) := by decide +kernel
theorem dL_sum_161 : decode cL_sum 161 = .ok (.iload_n 3, 1) := by decide +kernel
theorem dL_sum_162 : decode cL_sum 162 = .ok (.invokevirtual 80, 3) := by decide +kernel
theorem dL_sum_165 : decode cL_sum 165 = .ok (.imul, 1) := by decide +kernel
theorem dL_sum_166 : decode cL_sum 166 = .ok (.i2l, 1) := by decide +kernel
theorem dL_sum_167 : decode cL_sum 167 = .ok (.ladd, 1) := by decide +kernel
theorem dL_sum_168 : decode cL_sum 168 = .ok (.aload_n 0, 1) := by decide +kernel
theorem dL_sum_169 : decode cL_sum 169 = .ok (.iload_n 3, 1) := by decide +kernel
theorem dL_sum_170 : decode cL_sum 170 = .ok (.invokevirtual 83, 3) := by decide +kernel
theorem dL_sum_173 : decode cL_sum 173 = .ok (.i2l, 1) := by decide +kernel
theorem dL_sum_174 : decode cL_sum 174 = .ok (.ladd, 1) := by decide +kernel
theorem dL_sum_175 : decode cL_sum 175 = .ok (.lstore_n 1, 1) := by decide +kernel
theorem dL_sum_176 : decode cL_sum 176 = .ok (.ldc2_w 366, 3) := by decide +kernel
theorem dL_sum_179 : decode cL_sum 179 = .ok (.lload_n 1, 1) := by decide +kernel
theorem dL_sum_180 : decode cL_sum 180 = .ok (.lmul, 1) := by decide +kernel
theorem dL_sum_181 : decode cL_sum 181 = .ok (.aload_n 0, 1) := by decide +kernel
theorem dL_sum_182 : decode cL_sum 182 = .ok (.iload_n 3, 1) := by decide +kernel
theorem dL_sum_183 : decode cL_sum 183 = .ok (.invokevirtual 86, 3) := by decide +kernel
theorem dL_sum_186 : decode cL_sum 186 = .ok (.i2l, 1) := by decide +kernel
theorem dL_sum_187 : decode cL_sum 187 = .ok (.ladd, 1) := by decide +kernel
theorem dL_sum_188 : decode cL_sum 188 = .ok (.lstore_n 1, 1) := by decide +kernel
theorem dL_sum_189 : decode cL_sum 189 = .ok (.ldc2_w 368, 3) := by decide +kernel
theorem dL_sum_192 : decode cL_sum 192 = .ok (.lload_n 1, 1) := by decide +kernel
theorem dL_sum_193 : decode cL_sum 193 = .ok (.lmul, 1) := by decide +kernel
theorem dL_sum_194 : decode cL_sum 194 = .ok (.bipush 100, 2) := by decide +kernel
theorem dL_sum_196 : decode cL_sum 196 = .ok (.aload_n 0, 1) := by decide +kernel
theorem dL_sum_197 : decode cL_sum 197 = .ok (.iload_n 3, 1) := by decide +kernel
theorem dL_sum_198 : decode cL_sum 198 = .ok (.invokevirtual 92, 3) := by decide +kernel
theorem dL_sum_201 : decode cL_sum 201 = .ok (.imul, 1) := by decide +kernel
theorem dL_sum_202 : decode cL_sum 202 = .ok (.i2l, 1) := by decide +kernel
theorem dL_sum_203 : decode cL_sum 203 = .ok (.ladd, 1) := by decide +kernel
theorem dL_sum_204 : decode cL_sum 204 = .ok (.aload_n 0, 1) := by decide +kernel
theorem dL_sum_205 : decode cL_sum 205 = .ok (.iload_n 3, 1) := by decide +kernel
theorem dL_sum_206 : decode cL_sum 206 = .ok (.invokevirtual 95, 3) := by decide +kernel
theorem dL_sum_209 : decode cL_sum 209 = .ok (.i2l, 1) := by decide +kernel
theorem dL_sum_210 : decode cL_sum 210 = .ok (.ladd, 1) := by decide +kernel
theorem dL_sum_211 : decode cL_sum 211 = .ok (.lstore_n 1, 1) := by decide +kernel
theorem dL_sum_212 : decode cL_sum 212 = .ok (.iinc 3 1, 3) := by decide +kernel
theorem dL_sum_215 : decode cL_sum 215 = .ok (.goto (-70), 3) := by decide +kernel
theorem dL_sum_218 : decode cL_sum 218 = .ok (.lload_n 1, 1) := by decide +kernel
theorem dL_sum_219 : decode cL_sum 219 = .ok (.ldc2_w 370, 3) := by decide +kernel
theorem dL_sum_222 : decode cL_sum 222 = .ok (.aload_n 0, 1) := by decide +kernel
theorem dL_sum_223 : decode cL_sum 223 = .ok (.invokevirtual 211, 3) := by decide +kernel
theorem dL_sum_226 : decode cL_sum 226 = .ok (.i2l, 1) := by decide +kernel
theorem dL_sum_227 : decode cL_sum 227 = .ok (.lmul, 1) := by decide +kernel
theorem dL_sum_228 : decode cL_sum 228 = .ok (.ladd, 1) := by decide +kernel
theorem dL_sum_229 : decode cL_sum 229 = .ok (.lreturn, 1) := by decide +kernel
theorem dL_undone_0 : decode cL_undone 0 = .ok (.bipush 9, 2) := by decide +kernel
theorem dL_undone_2 : decode cL_undone 2 = .ok (.newarray .long, 2) := by decide +kernel
theorem dL_undone_4 : decode cL_undone 4 = .ok (.astore_n 2, 1) := by decide +kernel
theorem dL_undone_5 : decode cL_undone 5 = .ok (.iconst 0, 1) := by decide +kernel
theorem dL_undone_6 : decode cL_undone 6 = .ok (.istore_n 3, 1) := by decide +kernel
theorem dL_undone_7 : decode cL_undone 7 = .ok (.iconst 0, 1) := by decide +kernel
theorem dL_undone_8 : decode cL_undone 8 = .ok (.istore 4, 2) := by decide +kernel
theorem dL_undone_10 : decode cL_undone 10 = .ok (.iload 4, 2) := by decide +kernel
theorem dL_undone_12 : decode cL_undone 12 = .ok (.bipush 7, 2) := by decide +kernel
theorem dL_undone_14 : decode cL_undone 14 = .ok (.if_icmp .ge 327, 3) := by decide +kernel
theorem dL_undone_17 : decode cL_undone 17 = .ok (.aload_n 0, 1) := by decide +kernel
theorem dL_undone_18 : decode cL_undone 18 = .ok (.bipush 24, 2) := by decide +kernel
theorem dL_undone_20 : decode cL_undone 20 = .ok (.iload 4, 2) := by decide +kernel
theorem dL_undone_22 : decode cL_undone 22 = .ok (.iadd, 1) := by decide +kernel
theorem dL_undone_23 : decode cL_undone 23 = .ok (.invokestatic 161, 3) := by decide +kernel
theorem dL_undone_26 : decode cL_undone 26 = .ok (.iconst 1, 1) := by decide +kernel
theorem dL_undone_27 : decode cL_undone 27 = .ok (.iushr, 1) := by decide +kernel
theorem dL_undone_28 : decode cL_undone 28 = .ok (.istore 5, 2) := by decide +kernel
theorem dL_undone_30 : decode cL_undone 30 = .ok (.iload 5, 2) := by decide +kernel
theorem dL_undone_32 : decode cL_undone 32 = .ok (.iconst 4, 1) := by decide +kernel
theorem dL_undone_33 : decode cL_undone 33 = .ok (.iushr, 1) := by decide +kernel
theorem dL_undone_34 : decode cL_undone 34 = .ok (.istore 6, 2) := by decide +kernel
theorem dL_undone_36 : decode cL_undone 36 = .ok (.aload_n 2, 1) := by decide +kernel
theorem dL_undone_37 : decode cL_undone 37 = .ok (.iload_n 3, 1) := by decide +kernel
theorem dL_undone_38 : decode cL_undone 38 = .ok (.aload_n 1, 1) := by decide +kernel
theorem dL_undone_39 : decode cL_undone 39 = .ok (.invokestatic 372, 3) := by decide +kernel
theorem dL_undone_42 : decode cL_undone 42 = .ok (.lastore, 1) := by decide +kernel
theorem dL_undone_43 : decode cL_undone 43 = .ok (.iload 5, 2) := by decide +kernel
theorem dL_undone_45 : decode cL_undone 45 = .ok (.bipush 10, 2) := by decide +kernel
theorem dL_undone_47 : decode cL_undone 47 = .ok (.irem, 1) := by decide +kernel
theorem dL_undone_48 : decode cL_undone 48 = .ok (.tableswitch 250 0 7 #[48, 57, 94, 115, 145, 159, 181, 195], 48) := by decide +kernel
theorem dL_undone_96 : decode cL_undone 96 = .ok (.aload_n 1, 1) := by decide +kernel
theorem dL_undone_97 : decode cL_undone 97 = .ok (.invokestatic 165, 3) := by decide +kernel
theorem dL_undone_100 : decode cL_undone 100 = .ok (.istore 7, 2) := by decide +kernel
theorem dL_undone_102 : decode cL_undone 102 = .ok (.goto 202, 3) := by decide +kernel
theorem dL_undone_105 : decode cL_undone 105 = .ok (.aload_n 1, 1) := by decide +kernel
theorem dL_undone_106 : decode cL_undone 106 = .ok (.iload 6, 2) := by decide +kernel
theorem dL_undone_108 : decode cL_undone 108 = .ok (.bipush 9, 2) := by decide +kernel
theorem dL_undone_110 : decode cL_undone 110 = .ok (.irem, 1) := by decide +kernel
theorem dL_undone_111 : decode cL_undone 111 = .ok (.iload 6, 2) := by decide +kernel
theorem dL_undone_113 : decode cL_undone 113 = .ok (.iconst 4, 1) := by decide +kernel
theorem dL_undone_114 : decode cL_undone 114 = .ok (.iushr, 1) := by decide +kernel
theorem dL_undone_115 : decode cL_undone 115 = .ok (.bipush 9, 2) := by decide +kernel
theorem dL_undone_117 : decode cL_undone 117 = .ok (.irem, 1) := by decide +kernel
theorem dL_undone_118 : decode cL_undone 118 = .ok (.iload 6, 2) := by decide +kernel
theorem dL_undone_120 : decode cL_undone 120 = .ok (.bipush 8, 2) := by decide +kernel
theorem dL_undone_122 : decode cL_undone 122 = .ok (.iushr, 1) := by decide +kernel
theorem dL_undone_123 : decode cL_undone 123 = .ok (.bipush 101, 2) := by decide +kernel
theorem dL_undone_125 : decode cL_undone 125 = .ok (.irem, 1) := by decide +kernel
theorem dL_undone_126 : decode cL_undone 126 = .ok (.iload 6, 2) := by decide +kernel
theorem dL_undone_128 : decode cL_undone 128 = .ok (.bipush 15, 2) := by decide +kernel
theorem dL_undone_130 : decode cL_undone 130 = .ok (.iushr, 1) := by decide +kernel
theorem dL_undone_131 : decode cL_undone 131 = .ok (.bipush 22, 2) := by decide +kernel
theorem dL_undone_133 : decode cL_undone 133 = .ok (.irem, 1) := by decide +kernel
theorem dL_undone_134 : decode cL_undone 134 = .ok (.invokestatic 167, 3) := by decide +kernel
theorem dL_undone_137 : decode cL_undone 137 = .ok (.istore 7, 2) := by decide +kernel
theorem dL_undone_139 : decode cL_undone 139 = .ok (.goto 165, 3) := by decide +kernel
theorem dL_undone_142 : decode cL_undone 142 = .ok (.aload_n 1, 1) := by decide +kernel
theorem dL_undone_143 : decode cL_undone 143 = .ok (.iload 6, 2) := by decide +kernel
theorem dL_undone_145 : decode cL_undone 145 = .ok (.bipush 9, 2) := by decide +kernel
theorem dL_undone_147 : decode cL_undone 147 = .ok (.irem, 1) := by decide +kernel
theorem dL_undone_148 : decode cL_undone 148 = .ok (.iload 6, 2) := by decide +kernel
theorem dL_undone_150 : decode cL_undone 150 = .ok (.iconst 4, 1) := by decide +kernel
theorem dL_undone_151 : decode cL_undone 151 = .ok (.iushr, 1) := by decide +kernel
theorem dL_undone_152 : decode cL_undone 152 = .ok (.bipush 9, 2) := by decide +kernel
theorem dL_undone_154 : decode cL_undone 154 = .ok (.irem, 1) := by decide +kernel
theorem dL_undone_155 : decode cL_undone 155 = .ok (.invokestatic 188, 3) := by decide +kernel
theorem dL_undone_158 : decode cL_undone 158 = .ok (.istore 7, 2) := by decide +kernel
theorem dL_undone_160 : decode cL_undone 160 = .ok (.goto 144, 3) := by decide +kernel
theorem dL_undone_163 : decode cL_undone 163 = .ok (.aload_n 1, 1) := by decide +kernel
theorem dL_undone_164 : decode cL_undone 164 = .ok (.iload 6, 2) := by decide +kernel
theorem dL_undone_166 : decode cL_undone 166 = .ok (.bipush 9, 2) := by decide +kernel
theorem dL_undone_168 : decode cL_undone 168 = .ok (.irem, 1) := by decide +kernel
theorem dL_undone_169 : decode cL_undone 169 = .ok (.iload 6, 2) := by decide +kernel
theorem dL_undone_171 : decode cL_undone 171 = .ok (.iconst 4, 1) := by decide +kernel
theorem dL_undone_172 : decode cL_undone 172 = .ok (.iushr, 1) := by decide +kernel
theorem dL_undone_173 : decode cL_undone 173 = .ok (.bipush 9, 2) := by decide +kernel
theorem dL_undone_175 : decode cL_undone 175 = .ok (.irem, 1) := by decide +kernel
theorem dL_undone_176 : decode cL_undone 176 = .ok (.iload 6, 2) := by decide +kernel
theorem dL_undone_178 : decode cL_undone 178 = .ok (.bipush 8, 2) := by decide +kernel
theorem dL_undone_180 : decode cL_undone 180 = .ok (.iushr, 1) := by decide +kernel
theorem dL_undone_181 : decode cL_undone 181 = .ok (.sipush 10001, 3) := by decide +kernel
theorem dL_undone_184 : decode cL_undone 184 = .ok (.irem, 1) := by decide +kernel
theorem dL_undone_185 : decode cL_undone 185 = .ok (.invokestatic 170, 3) := by decide +kernel
theorem dL_undone_188 : decode cL_undone 188 = .ok (.istore 7, 2) := by decide +kernel
theorem dL_undone_190 : decode cL_undone 190 = .ok (.goto 114, 3) := by decide +kernel
theorem dL_undone_193 : decode cL_undone 193 = .ok (.aload_n 1, 1) := by decide +kernel
theorem dL_undone_194 : decode cL_undone 194 = .ok (.iload 6, 2) := by decide +kernel
theorem dL_undone_196 : decode cL_undone 196 = .ok (.bipush 7, 2) := by decide +kernel
theorem dL_undone_198 : decode cL_undone 198 = .ok (.irem, 1) := by decide +kernel
theorem dL_undone_199 : decode cL_undone 199 = .ok (.invokestatic 185, 3) := by decide +kernel
theorem dL_undone_202 : decode cL_undone 202 = .ok (.istore 7, 2) := by decide +kernel
theorem dL_undone_204 : decode cL_undone 204 = .ok (.goto 100, 3) := by decide +kernel
theorem dL_undone_207 : decode cL_undone 207 = .ok (.aload_n 1, 1) := by decide +kernel
theorem dL_undone_208 : decode cL_undone 208 = .ok (.iload 6, 2) := by decide +kernel
theorem dL_undone_210 : decode cL_undone 210 = .ok (.bipush 7, 2) := by decide +kernel
theorem dL_undone_212 : decode cL_undone 212 = .ok (.irem, 1) := by decide +kernel
theorem dL_undone_213 : decode cL_undone 213 = .ok (.iload 6, 2) := by decide +kernel
theorem dL_undone_215 : decode cL_undone 215 = .ok (.iconst 4, 1) := by decide +kernel
theorem dL_undone_216 : decode cL_undone 216 = .ok (.iushr, 1) := by decide +kernel
theorem dL_undone_217 : decode cL_undone 217 = .ok (.sipush 10001, 3) := by decide +kernel
theorem dL_undone_220 : decode cL_undone 220 = .ok (.irem, 1) := by decide +kernel
theorem dL_undone_221 : decode cL_undone 221 = .ok (.invokestatic 182, 3) := by decide +kernel
theorem dL_undone_224 : decode cL_undone 224 = .ok (.istore 7, 2) := by decide +kernel
theorem dL_undone_226 : decode cL_undone 226 = .ok (.goto 78, 3) := by decide +kernel
theorem dL_undone_229 : decode cL_undone 229 = .ok (.aload_n 1, 1) := by decide +kernel
theorem dL_undone_230 : decode cL_undone 230 = .ok (.iload 6, 2) := by decide +kernel
theorem dL_undone_232 : decode cL_undone 232 = .ok (.bipush 11, 2) := by decide +kernel
theorem dL_undone_234 : decode cL_undone 234 = .ok (.irem, 1) := by decide +kernel
theorem dL_undone_235 : decode cL_undone 235 = .ok (.invokestatic 179, 3) := by decide +kernel
theorem dL_undone_238 : decode cL_undone 238 = .ok (.istore 7, 2) := by decide +kernel
theorem dL_undone_240 : decode cL_undone 240 = .ok (.goto 64, 3) := by decide +kernel
theorem dL_undone_243 : decode cL_undone 243 = .ok (.aload_n 1, 1) := by decide +kernel
theorem dL_undone_244 : decode cL_undone 244 = .ok (.new 310, 3) := by decide +kernel
theorem dL_undone_247 : decode cL_undone 247 = .ok (.dup, 1) := by decide +kernel
theorem dL_undone_248 : decode cL_undone 248 = .ok (.invokespecial 312, 3) := by decide +kernel
theorem dL_undone_251 : decode cL_undone 251 = .ok (.ldc_w 376, 3) := by decide +kernel
theorem dL_undone_254 : decode cL_undone 254 = .ok (.invokevirtual 319, 3) := by decide +kernel
theorem dL_undone_257 : decode cL_undone 257 = .ok (.iload 6, 2) := by decide +kernel
theorem dL_undone_259 : decode cL_undone 259 = .ok (.bipush 10, 2) := by decide +kernel
theorem dL_undone_261 : decode cL_undone 261 = .ok (.irem, 1) := by decide +kernel
theorem dL_undone_262 : decode cL_undone 262 = .ok (.invokevirtual 313, 3) := by decide +kernel
theorem dL_undone_265 : decode cL_undone 265 = .ok (.ldc_w 378, 3) := by decide +kernel
theorem dL_undone_268 : decode cL_undone 268 = .ok (.invokevirtual 319, 3) := by decide +kernel
theorem dL_undone_271 : decode cL_undone 271 = .ok (.iload 6, 2) := by decide +kernel
theorem dL_undone_273 : decode cL_undone 273 = .ok (.iconst 4, 1) := by decide +kernel
theorem dL_undone_274 : decode cL_undone 274 = .ok (.iushr, 1) := by decide +kernel
theorem dL_undone_275 : decode cL_undone 275 = .ok (.bipush 6, 2) := by decide +kernel
theorem dL_undone_277 : decode cL_undone 277 = .ok (.irem, 1) := by decide +kernel
theorem dL_undone_278 : decode cL_undone 278 = .ok (.invokevirtual 313, 3) := by decide +kernel
theorem dL_undone_281 : decode cL_undone 281 = .ok (.ldc_w 380, 3) := by decide +kernel
theorem dL_undone_284 : decode cL_undone 284 = .ok (.invokevirtual 319, 3) := by decide +kernel
theorem dL_undone_287 : decode cL_undone 287 = .ok (.invokevirtual 328, 3) := by decide +kernel
theorem dL_undone_290 : decode cL_undone 290 = .ok (.invokestatic 382, 3) := by decide +kernel
theorem dL_undone_293 : decode cL_undone 293 = .ok (.istore 7, 2) := by decide +kernel
theorem dL_undone_295 : decode cL_undone 295 = .ok (.goto 9, 3) := by decide +kernel
theorem dL_undone_298 : decode cL_undone 298 = .ok (.aload_n 1, 1) := by decide +kernel
theorem dL_undone_299 : decode cL_undone 299 = .ok (.invokevirtual 176, 3) := by decide +kernel
theorem dL_undone_302 : decode cL_undone 302 = .ok (.istore 7, 2) := by decide +kernel
theorem dL_undone_304 : decode cL_undone 304 = .ok (.iload 7, 2) := by decide +kernel
theorem dL_undone_306 : decode cL_undone 306 = .ok (.ifCond .ge 16, 3) := by decide +kernel
theorem dL_undone_309 : decode cL_undone 309 = .ok (.aload_n 1, 1) := by decide +kernel
theorem dL_undone_310 : decode cL_undone 310 = .ok (.invokestatic 372, 3) := by decide +kernel
theorem dL_undone_313 : decode cL_undone 313 = .ok (.aload_n 2, 1) := by decide +kernel
theorem dL_undone_314 : decode cL_undone 314 = .ok (.iload_n 3, 1) := by decide +kernel
theorem dL_undone_315 : decode cL_undone 315 = .ok (.laload, 1) := by decide +kernel
theorem dL_undone_316 : decode cL_undone 316 = .ok (.lcmp, 1) := by decide +kernel
theorem dL_undone_317 : decode cL_undone 317 = .ok (.ifCond .eq 5, 3) := by decide +kernel
theorem dL_undone_320 : decode cL_undone 320 = .ok (.iconst 0, 1) := by decide +kernel
theorem dL_undone_321 : decode cL_undone 321 = .ok (.ireturn, 1) := by decide +kernel
theorem dL_undone_322 : decode cL_undone 322 = .ok (.iload_n 3, 1) := by decide +kernel
theorem dL_undone_323 : decode cL_undone 323 = .ok (.iload 7, 2) := by decide +kernel
theorem dL_undone_325 : decode cL_undone 325 = .ok (.ifCond .ge 7, 3) := by decide +kernel
theorem dL_undone_328 : decode cL_undone 328 = .ok (.iconst 0, 1) := by decide +kernel
theorem dL_undone_329 : decode cL_undone 329 = .ok (.goto 4, 3) := by decide +kernel
theorem dL_undone_332 : decode cL_undone 332 = .ok (.iconst 1, 1) := by decide +kernel
theorem dL_undone_333 : decode cL_undone 333 = .ok (.iadd, 1) := by decide +kernel
theorem dL_undone_334 : decode cL_undone 334 = .ok (.istore_n 3, 1) := by decide +kernel
theorem dL_undone_335 : decode cL_undone 335 = .ok (.iinc 4 1, 3) := by decide +kernel
theorem dL_undone_338 : decode cL_undone 338 = .ok (.goto (-328), 3) := by decide +kernel
theorem dL_undone_341 : decode cL_undone 341 = .ok (.iload_n 3, 1) := by decide +kernel
theorem dL_undone_342 : decode cL_undone 342 = .ok (.iconst 1, 1) := by decide +kernel
theorem dL_undone_343 : decode cL_undone 343 = .ok (.isub, 1) := by decide +kernel
theorem dL_undone_344 : decode cL_undone 344 = .ok (.istore 4, 2) := by decide +kernel
theorem dL_undone_346 : decode cL_undone 346 = .ok (.iload 4, 2) := by decide +kernel
theorem dL_undone_348 : decode cL_undone 348 = .ok (.ifCond .lt 30, 3) := by decide +kernel
theorem dL_undone_351 : decode cL_undone 351 = .ok (.aload_n 1, 1) := by decide +kernel
theorem dL_undone_352 : decode cL_undone 352 = .ok (.invokestatic 385, 3) := by decide +kernel
theorem dL_undone_355 : decode cL_undone 355 = .ok (.ifCond .lt 15, 3) := by decide +kernel
theorem dL_undone_358 : decode cL_undone 358 = .ok (.aload_n 1, 1) := by decide +kernel
theorem dL_undone_359 : decode cL_undone 359 = .ok (.invokestatic 372, 3) := by decide +kernel
theorem dL_undone_362 : decode cL_undone 362 = .ok (.aload_n 2, 1) := by decide +kernel
theorem dL_undone_363 : decode cL_undone 363 = .ok (.iload 4, 2) := by decide +kernel
theorem dL_undone_365 : decode cL_undone 365 = .ok (.laload, 1) := by decide +kernel
theorem dL_undone_366 : decode cL_undone 366 = .ok (.lcmp, 1) := by decide +kernel
theorem dL_undone_367 : decode cL_undone 367 = .ok (.ifCond .eq 5, 3) := by decide +kernel
theorem dL_undone_370 : decode cL_undone 370 = .ok (.iconst 0, 1) := by decide +kernel
theorem dL_undone_371 : decode cL_undone 371 = .ok (.ireturn, 1) := by decide +kernel
theorem dL_undone_372 : decode cL_undone 372 = .ok (.iinc 4 (-1), 3) := by decide +kernel
theorem dL_undone_375 : decode cL_undone 375 = .ok (.goto (-29), 3) := by decide +kernel
theorem dL_undone_378 : decode cL_undone 378 = .ok (.iconst 1, 1) := by decide +kernel
theorem dL_undone_379 : decode cL_undone 379 = .ok (.ireturn, 1) := by decide +kernel
