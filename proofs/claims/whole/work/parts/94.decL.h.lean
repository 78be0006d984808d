/-! DECODE ROWS -/
theorem d_L_law_540 : decode b_L_law 540 = .ok (.iaload, 1) := by decide +kernel
theorem d_L_law_541 : decode b_L_law 541 = .ok (.aload_n 0, 1) := by decide +kernel
theorem d_L_law_542 : decode b_L_law 542 = .ok (.iload 4, 2) := by decide +kernel
theorem d_L_law_544 : decode b_L_law 544 = .ok (.iconst 3, 1) := by decide +kernel
theorem d_L_law_545 : decode b_L_law 545 = .ok (.iadd, 1) := by decide +kernel
theorem d_L_law_546 : decode b_L_law 546 = .ok (.iaload, 1) := by decide +kernel
theorem d_L_law_547 : decode b_L_law 547 = .ok (.ifCond .eq 7, 3) := by decide +kernel
theorem d_L_law_550 : decode b_L_law 550 = .ok (.iconst 1, 1) := by decide +kernel
theorem d_L_law_551 : decode b_L_law 551 = .ok (.goto 4, 3) := by decide +kernel
theorem d_L_law_554 : decode b_L_law 554 = .ok (.iconst 0, 1) := by decide +kernel
theorem d_L_law_555 : decode b_L_law 555 = .ok (.invokevirtual 101, 3) := by decide +kernel
theorem d_L_law_558 : decode b_L_law 558 = .ok (.istore 6, 2) := by decide +kernel
theorem d_L_law_560 : decode b_L_law 560 = .ok (.aload_n 2, 1) := by decide +kernel
theorem d_L_law_561 : decode b_L_law 561 = .ok (.invokevirtual 82, 3) := by decide +kernel
theorem d_L_law_564 : decode b_L_law 564 = .ok (.iload 5, 2) := by decide +kernel
theorem d_L_law_566 : decode b_L_law 566 = .ok (.if_icmp .eq 5, 3) := by decide +kernel
theorem d_L_law_569 : decode b_L_law 569 = .ok (.iconst 0, 1) := by decide +kernel
theorem d_L_law_570 : decode b_L_law 570 = .ok (.ireturn, 1) := by decide +kernel
theorem d_L_law_571 : decode b_L_law 571 = .ok (.iload 5, 2) := by decide +kernel
theorem d_L_law_573 : decode b_L_law 573 = .ok (.ifCond .ne 22, 3) := by decide +kernel
theorem d_L_law_576 : decode b_L_law 576 = .ok (.aload_n 3, 1) := by decide +kernel
theorem d_L_law_577 : decode b_L_law 577 = .ok (.iconst 0, 1) := by decide +kernel
theorem d_L_law_578 : decode b_L_law 578 = .ok (.laload, 1) := by decide +kernel
theorem d_L_law_579 : decode b_L_law 579 = .ok (.iload 6, 2) := by decide +kernel
theorem d_L_law_581 : decode b_L_law 581 = .ok (.ifCond .eq 7, 3) := by decide +kernel
theorem d_L_law_584 : decode b_L_law 584 = .ok (.lconst 1, 1) := by decide +kernel
theorem d_L_law_585 : decode b_L_law 585 = .ok (.goto 4, 3) := by decide +kernel
theorem d_L_law_588 : decode b_L_law 588 = .ok (.lconst 0, 1) := by decide +kernel
theorem d_L_law_589 : decode b_L_law 589 = .ok (.lcmp, 1) := by decide +kernel
theorem d_L_law_590 : decode b_L_law 590 = .ok (.ifCond .eq 5, 3) := by decide +kernel
theorem d_L_law_593 : decode b_L_law 593 = .ok (.iconst 0, 1) := by decide +kernel
theorem d_L_law_594 : decode b_L_law 594 = .ok (.ireturn, 1) := by decide +kernel
theorem d_L_law_595 : decode b_L_law 595 = .ok (.goto 573, 3) := by decide +kernel
theorem d_L_law_598 : decode b_L_law 598 = .ok (.aload_n 1, 1) := by decide +kernel
theorem d_L_law_599 : decode b_L_law 599 = .ok (.aload_n 0, 1) := by decide +kernel
theorem d_L_law_600 : decode b_L_law 600 = .ok (.iload 4, 2) := by decide +kernel
theorem d_L_law_602 : decode b_L_law 602 = .ok (.iconst 1, 1) := by decide +kernel
theorem d_L_law_603 : decode b_L_law 603 = .ok (.iadd, 1) := by decide +kernel
theorem d_L_law_604 : decode b_L_law 604 = .ok (.iaload, 1) := by decide +kernel
theorem d_L_law_605 : decode b_L_law 605 = .ok (.aload_n 0, 1) := by decide +kernel
theorem d_L_law_606 : decode b_L_law 606 = .ok (.iload 4, 2) := by decide +kernel
theorem d_L_law_608 : decode b_L_law 608 = .ok (.iconst 2, 1) := by decide +kernel
theorem d_L_law_609 : decode b_L_law 609 = .ok (.iadd, 1) := by decide +kernel
theorem d_L_law_610 : decode b_L_law 610 = .ok (.iaload, 1) := by decide +kernel
theorem d_L_law_611 : decode b_L_law 611 = .ok (.aload_n 3, 1) := by decide +kernel
theorem d_L_law_612 : decode b_L_law 612 = .ok (.invokestatic 102, 3) := by decide +kernel
theorem d_L_law_615 : decode b_L_law 615 = .ok (.istore 5, 2) := by decide +kernel
theorem d_L_law_617 : decode b_L_law 617 = .ok (.aload_n 2, 1) := by decide +kernel
theorem d_L_law_618 : decode b_L_law 618 = .ok (.aload_n 0, 1) := by decide +kernel
theorem d_L_law_619 : decode b_L_law 619 = .ok (.iload 4, 2) := by decide +kernel
