/-! DECODE ROWS -/
theorem d_L_law_621 : decode b_L_law 621 = .ok (.iconst 1, 1) := by decide +kernel
theorem d_L_law_622 : decode b_L_law 622 = .ok (.iadd, 1) := by decide +kernel
theorem d_L_law_623 : decode b_L_law 623 = .ok (.iaload, 1) := by decide +kernel
theorem d_L_law_624 : decode b_L_law 624 = .ok (.aload_n 0, 1) := by decide +kernel
theorem d_L_law_625 : decode b_L_law 625 = .ok (.iload 4, 2) := by decide +kernel
theorem d_L_law_627 : decode b_L_law 627 = .ok (.iconst 2, 1) := by decide +kernel
theorem d_L_law_628 : decode b_L_law 628 = .ok (.iadd, 1) := by decide +kernel
theorem d_L_law_629 : decode b_L_law 629 = .ok (.iaload, 1) := by decide +kernel
theorem d_L_law_630 : decode b_L_law 630 = .ok (.invokevirtual 105, 3) := by decide +kernel
theorem d_L_law_633 : decode b_L_law 633 = .ok (.istore 6, 2) := by decide +kernel
theorem d_L_law_635 : decode b_L_law 635 = .ok (.aload_n 2, 1) := by decide +kernel
theorem d_L_law_636 : decode b_L_law 636 = .ok (.invokevirtual 82, 3) := by decide +kernel
theorem d_L_law_639 : decode b_L_law 639 = .ok (.iload 5, 2) := by decide +kernel
theorem d_L_law_641 : decode b_L_law 641 = .ok (.if_icmp .eq 5, 3) := by decide +kernel
theorem d_L_law_644 : decode b_L_law 644 = .ok (.iconst 0, 1) := by decide +kernel
theorem d_L_law_645 : decode b_L_law 645 = .ok (.ireturn, 1) := by decide +kernel
theorem d_L_law_646 : decode b_L_law 646 = .ok (.iload 5, 2) := by decide +kernel
theorem d_L_law_648 : decode b_L_law 648 = .ok (.ifCond .ne 15, 3) := by decide +kernel
theorem d_L_law_651 : decode b_L_law 651 = .ok (.aload_n 3, 1) := by decide +kernel
theorem d_L_law_652 : decode b_L_law 652 = .ok (.iconst 0, 1) := by decide +kernel
theorem d_L_law_653 : decode b_L_law 653 = .ok (.laload, 1) := by decide +kernel
theorem d_L_law_654 : decode b_L_law 654 = .ok (.iload 6, 2) := by decide +kernel
theorem d_L_law_656 : decode b_L_law 656 = .ok (.i2l, 1) := by decide +kernel
theorem d_L_law_657 : decode b_L_law 657 = .ok (.lcmp, 1) := by decide +kernel
theorem d_L_law_658 : decode b_L_law 658 = .ok (.ifCond .eq 5, 3) := by decide +kernel
theorem d_L_law_661 : decode b_L_law 661 = .ok (.iconst 0, 1) := by decide +kernel
theorem d_L_law_662 : decode b_L_law 662 = .ok (.ireturn, 1) := by decide +kernel
theorem d_L_law_663 : decode b_L_law 663 = .ok (.goto 505, 3) := by decide +kernel
theorem d_L_law_666 : decode b_L_law 666 = .ok (.aload_n 1, 1) := by decide +kernel
theorem d_L_law_667 : decode b_L_law 667 = .ok (.aload_n 0, 1) := by decide +kernel
theorem d_L_law_668 : decode b_L_law 668 = .ok (.iload 4, 2) := by decide +kernel
theorem d_L_law_670 : decode b_L_law 670 = .ok (.iconst 1, 1) := by decide +kernel
theorem d_L_law_671 : decode b_L_law 671 = .ok (.iadd, 1) := by decide +kernel
theorem d_L_law_672 : decode b_L_law 672 = .ok (.iaload, 1) := by decide +kernel
theorem d_L_law_673 : decode b_L_law 673 = .ok (.aload_n 0, 1) := by decide +kernel
theorem d_L_law_674 : decode b_L_law 674 = .ok (.iload 4, 2) := by decide +kernel
theorem d_L_law_676 : decode b_L_law 676 = .ok (.iconst 2, 1) := by decide +kernel
theorem d_L_law_677 : decode b_L_law 677 = .ok (.iadd, 1) := by decide +kernel
theorem d_L_law_678 : decode b_L_law 678 = .ok (.iaload, 1) := by decide +kernel
theorem d_L_law_679 : decode b_L_law 679 = .ok (.aload_n 0, 1) := by decide +kernel
theorem d_L_law_680 : decode b_L_law 680 = .ok (.iload 4, 2) := by decide +kernel
theorem d_L_law_682 : decode b_L_law 682 = .ok (.iconst 3, 1) := by decide +kernel
theorem d_L_law_683 : decode b_L_law 683 = .ok (.iadd, 1) := by decide +kernel
theorem d_L_law_684 : decode b_L_law 684 = .ok (.iaload, 1) := by decide +kernel
theorem d_L_law_685 : decode b_L_law 685 = .ok (.aload_n 0, 1) := by decide +kernel
theorem d_L_law_686 : decode b_L_law 686 = .ok (.iload 4, 2) := by decide +kernel
theorem d_L_law_688 : decode b_L_law 688 = .ok (.iconst 4, 1) := by decide +kernel
theorem d_L_law_689 : decode b_L_law 689 = .ok (.iadd, 1) := by decide +kernel
theorem d_L_law_690 : decode b_L_law 690 = .ok (.iaload, 1) := by decide +kernel
theorem d_L_law_691 : decode b_L_law 691 = .ok (.aload_n 0, 1) := by decide +kernel
