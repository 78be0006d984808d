/-! DECODE ROWS -/
theorem d_L_law_692 : decode b_L_law 692 = .ok (.iload 4, 2) := by decide +kernel
theorem d_L_law_694 : decode b_L_law 694 = .ok (.iconst 5, 1) := by decide +kernel
theorem d_L_law_695 : decode b_L_law 695 = .ok (.iadd, 1) := by decide +kernel
theorem d_L_law_696 : decode b_L_law 696 = .ok (.iaload, 1) := by decide +kernel
theorem d_L_law_697 : decode b_L_law 697 = .ok (.aload_n 3, 1) := by decide +kernel
theorem d_L_law_698 : decode b_L_law 698 = .ok (.invokestatic 106, 3) := by decide +kernel
theorem d_L_law_701 : decode b_L_law 701 = .ok (.istore 5, 2) := by decide +kernel
theorem d_L_law_703 : decode b_L_law 703 = .ok (.aload_n 2, 1) := by decide +kernel
theorem d_L_law_704 : decode b_L_law 704 = .ok (.aload_n 0, 1) := by decide +kernel
theorem d_L_law_705 : decode b_L_law 705 = .ok (.iload 4, 2) := by decide +kernel
theorem d_L_law_707 : decode b_L_law 707 = .ok (.iconst 1, 1) := by decide +kernel
theorem d_L_law_708 : decode b_L_law 708 = .ok (.iadd, 1) := by decide +kernel
theorem d_L_law_709 : decode b_L_law 709 = .ok (.iaload, 1) := by decide +kernel
theorem d_L_law_710 : decode b_L_law 710 = .ok (.aload_n 0, 1) := by decide +kernel
theorem d_L_law_711 : decode b_L_law 711 = .ok (.iload 4, 2) := by decide +kernel
theorem d_L_law_713 : decode b_L_law 713 = .ok (.iconst 2, 1) := by decide +kernel
theorem d_L_law_714 : decode b_L_law 714 = .ok (.iadd, 1) := by decide +kernel
theorem d_L_law_715 : decode b_L_law 715 = .ok (.iaload, 1) := by decide +kernel
theorem d_L_law_716 : decode b_L_law 716 = .ok (.aload_n 0, 1) := by decide +kernel
theorem d_L_law_717 : decode b_L_law 717 = .ok (.iload 4, 2) := by decide +kernel
theorem d_L_law_719 : decode b_L_law 719 = .ok (.iconst 3, 1) := by decide +kernel
theorem d_L_law_720 : decode b_L_law 720 = .ok (.iadd, 1) := by decide +kernel
theorem d_L_law_721 : decode b_L_law 721 = .ok (.iaload, 1) := by decide +kernel
theorem d_L_law_722 : decode b_L_law 722 = .ok (.aload_n 0, 1) := by decide +kernel
theorem d_L_law_723 : decode b_L_law 723 = .ok (.iload 4, 2) := by decide +kernel
theorem d_L_law_725 : decode b_L_law 725 = .ok (.iconst 4, 1) := by decide +kernel
theorem d_L_law_726 : decode b_L_law 726 = .ok (.iadd, 1) := by decide +kernel
theorem d_L_law_727 : decode b_L_law 727 = .ok (.iaload, 1) := by decide +kernel
theorem d_L_law_728 : decode b_L_law 728 = .ok (.aload_n 0, 1) := by decide +kernel
theorem d_L_law_729 : decode b_L_law 729 = .ok (.iload 4, 2) := by decide +kernel
theorem d_L_law_731 : decode b_L_law 731 = .ok (.iconst 5, 1) := by decide +kernel
theorem d_L_law_732 : decode b_L_law 732 = .ok (.iadd, 1) := by decide +kernel
theorem d_L_law_733 : decode b_L_law 733 = .ok (.iaload, 1) := by decide +kernel
theorem d_L_law_734 : decode b_L_law 734 = .ok (.invokevirtual 109, 3) := by decide +kernel
theorem d_L_law_737 : decode b_L_law 737 = .ok (.istore 6, 2) := by decide +kernel
theorem d_L_law_739 : decode b_L_law 739 = .ok (.aload_n 2, 1) := by decide +kernel
theorem d_L_law_740 : decode b_L_law 740 = .ok (.invokevirtual 82, 3) := by decide +kernel
theorem d_L_law_743 : decode b_L_law 743 = .ok (.iload 5, 2) := by decide +kernel
theorem d_L_law_745 : decode b_L_law 745 = .ok (.if_icmp .eq 5, 3) := by decide +kernel
theorem d_L_law_748 : decode b_L_law 748 = .ok (.iconst 0, 1) := by decide +kernel
theorem d_L_law_749 : decode b_L_law 749 = .ok (.ireturn, 1) := by decide +kernel
theorem d_L_law_750 : decode b_L_law 750 = .ok (.iload 5, 2) := by decide +kernel
theorem d_L_law_752 : decode b_L_law 752 = .ok (.ifCond .ne 15, 3) := by decide +kernel
theorem d_L_law_755 : decode b_L_law 755 = .ok (.aload_n 3, 1) := by decide +kernel
theorem d_L_law_756 : decode b_L_law 756 = .ok (.iconst 0, 1) := by decide +kernel
theorem d_L_law_757 : decode b_L_law 757 = .ok (.laload, 1) := by decide +kernel
theorem d_L_law_758 : decode b_L_law 758 = .ok (.iload 6, 2) := by decide +kernel
theorem d_L_law_760 : decode b_L_law 760 = .ok (.i2l, 1) := by decide +kernel
theorem d_L_law_761 : decode b_L_law 761 = .ok (.lcmp, 1) := by decide +kernel
theorem d_L_law_762 : decode b_L_law 762 = .ok (.ifCond .eq 5, 3) := by decide +kernel
