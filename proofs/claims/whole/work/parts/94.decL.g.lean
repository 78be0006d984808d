/-! DECODE ROWS -/
theorem d_L_law_465 : decode b_L_law 465 = .ok (.invokevirtual 82, 3) := by decide +kernel
theorem d_L_law_468 : decode b_L_law 468 = .ok (.iload 5, 2) := by decide +kernel
theorem d_L_law_470 : decode b_L_law 470 = .ok (.if_icmp .eq 5, 3) := by decide +kernel
theorem d_L_law_473 : decode b_L_law 473 = .ok (.iconst 0, 1) := by decide +kernel
theorem d_L_law_474 : decode b_L_law 474 = .ok (.ireturn, 1) := by decide +kernel
theorem d_L_law_475 : decode b_L_law 475 = .ok (.iload 5, 2) := by decide +kernel
theorem d_L_law_477 : decode b_L_law 477 = .ok (.ifCond .ne 15, 3) := by decide +kernel
theorem d_L_law_480 : decode b_L_law 480 = .ok (.aload_n 3, 1) := by decide +kernel
theorem d_L_law_481 : decode b_L_law 481 = .ok (.iconst 0, 1) := by decide +kernel
theorem d_L_law_482 : decode b_L_law 482 = .ok (.laload, 1) := by decide +kernel
theorem d_L_law_483 : decode b_L_law 483 = .ok (.iload 6, 2) := by decide +kernel
theorem d_L_law_485 : decode b_L_law 485 = .ok (.i2l, 1) := by decide +kernel
theorem d_L_law_486 : decode b_L_law 486 = .ok (.lcmp, 1) := by decide +kernel
theorem d_L_law_487 : decode b_L_law 487 = .ok (.ifCond .eq 5, 3) := by decide +kernel
theorem d_L_law_490 : decode b_L_law 490 = .ok (.iconst 0, 1) := by decide +kernel
theorem d_L_law_491 : decode b_L_law 491 = .ok (.ireturn, 1) := by decide +kernel
theorem d_L_law_492 : decode b_L_law 492 = .ok (.goto 676, 3) := by decide +kernel
theorem d_L_law_495 : decode b_L_law 495 = .ok (.aload_n 1, 1) := by decide +kernel
theorem d_L_law_496 : decode b_L_law 496 = .ok (.aload_n 0, 1) := by decide +kernel
theorem d_L_law_497 : decode b_L_law 497 = .ok (.iload 4, 2) := by decide +kernel
theorem d_L_law_499 : decode b_L_law 499 = .ok (.iconst 1, 1) := by decide +kernel
theorem d_L_law_500 : decode b_L_law 500 = .ok (.iadd, 1) := by decide +kernel
theorem d_L_law_501 : decode b_L_law 501 = .ok (.iaload, 1) := by decide +kernel
theorem d_L_law_502 : decode b_L_law 502 = .ok (.aload_n 0, 1) := by decide +kernel
theorem d_L_law_503 : decode b_L_law 503 = .ok (.iload 4, 2) := by decide +kernel
theorem d_L_law_505 : decode b_L_law 505 = .ok (.iconst 2, 1) := by decide +kernel
theorem d_L_law_506 : decode b_L_law 506 = .ok (.iadd, 1) := by decide +kernel
theorem d_L_law_507 : decode b_L_law 507 = .ok (.iaload, 1) := by decide +kernel
theorem d_L_law_508 : decode b_L_law 508 = .ok (.aload_n 0, 1) := by decide +kernel
theorem d_L_law_509 : decode b_L_law 509 = .ok (.iload 4, 2) := by decide +kernel
theorem d_L_law_511 : decode b_L_law 511 = .ok (.iconst 3, 1) := by decide +kernel
theorem d_L_law_512 : decode b_L_law 512 = .ok (.iadd, 1) := by decide +kernel
theorem d_L_law_513 : decode b_L_law 513 = .ok (.iaload, 1) := by decide +kernel
theorem d_L_law_514 : decode b_L_law 514 = .ok (.ifCond .eq 7, 3) := by decide +kernel
theorem d_L_law_517 : decode b_L_law 517 = .ok (.iconst 1, 1) := by decide +kernel
theorem d_L_law_518 : decode b_L_law 518 = .ok (.goto 4, 3) := by decide +kernel
theorem d_L_law_521 : decode b_L_law 521 = .ok (.iconst 0, 1) := by decide +kernel
theorem d_L_law_522 : decode b_L_law 522 = .ok (.aload_n 3, 1) := by decide +kernel
theorem d_L_law_523 : decode b_L_law 523 = .ok (.invokestatic 99, 3) := by decide +kernel
theorem d_L_law_526 : decode b_L_law 526 = .ok (.istore 5, 2) := by decide +kernel
theorem d_L_law_528 : decode b_L_law 528 = .ok (.aload_n 2, 1) := by decide +kernel
theorem d_L_law_529 : decode b_L_law 529 = .ok (.aload_n 0, 1) := by decide +kernel
theorem d_L_law_530 : decode b_L_law 530 = .ok (.iload 4, 2) := by decide +kernel
theorem d_L_law_532 : decode b_L_law 532 = .ok (.iconst 1, 1) := by decide +kernel
theorem d_L_law_533 : decode b_L_law 533 = .ok (.iadd, 1) := by decide +kernel
theorem d_L_law_534 : decode b_L_law 534 = .ok (.iaload, 1) := by decide +kernel
theorem d_L_law_535 : decode b_L_law 535 = .ok (.aload_n 0, 1) := by decide +kernel
theorem d_L_law_536 : decode b_L_law 536 = .ok (.iload 4, 2) := by decide +kernel
theorem d_L_law_538 : decode b_L_law 538 = .ok (.iconst 2, 1) := by decide +kernel
theorem d_L_law_539 : decode b_L_law 539 = .ok (.iadd, 1) := by decide +kernel
