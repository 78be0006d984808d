/-! DECODE ROWS -/
theorem d_L_law_765 : decode b_L_law 765 = .ok (.iconst 0, 1) := by decide +kernel
theorem d_L_law_766 : decode b_L_law 766 = .ok (.ireturn, 1) := by decide +kernel
theorem d_L_law_767 : decode b_L_law 767 = .ok (.goto 401, 3) := by decide +kernel
theorem d_L_law_770 : decode b_L_law 770 = .ok (.aload_n 1, 1) := by decide +kernel
theorem d_L_law_771 : decode b_L_law 771 = .ok (.aload_n 0, 1) := by decide +kernel
theorem d_L_law_772 : decode b_L_law 772 = .ok (.iload 4, 2) := by decide +kernel
theorem d_L_law_774 : decode b_L_law 774 = .ok (.iconst 1, 1) := by decide +kernel
theorem d_L_law_775 : decode b_L_law 775 = .ok (.iadd, 1) := by decide +kernel
theorem d_L_law_776 : decode b_L_law 776 = .ok (.iaload, 1) := by decide +kernel
theorem d_L_law_777 : decode b_L_law 777 = .ok (.aload_n 0, 1) := by decide +kernel
theorem d_L_law_778 : decode b_L_law 778 = .ok (.iload 4, 2) := by decide +kernel
theorem d_L_law_780 : decode b_L_law 780 = .ok (.iconst 2, 1) := by decide +kernel
theorem d_L_law_781 : decode b_L_law 781 = .ok (.iadd, 1) := by decide +kernel
theorem d_L_law_782 : decode b_L_law 782 = .ok (.iaload, 1) := by decide +kernel
theorem d_L_law_783 : decode b_L_law 783 = .ok (.invokestatic 110, 3) := by decide +kernel
theorem d_L_law_786 : decode b_L_law 786 = .ok (.istore 5, 2) := by decide +kernel
theorem d_L_law_788 : decode b_L_law 788 = .ok (.aload_n 2, 1) := by decide +kernel
theorem d_L_law_789 : decode b_L_law 789 = .ok (.aload_n 0, 1) := by decide +kernel
theorem d_L_law_790 : decode b_L_law 790 = .ok (.iload 4, 2) := by decide +kernel
theorem d_L_law_792 : decode b_L_law 792 = .ok (.iconst 1, 1) := by decide +kernel
theorem d_L_law_793 : decode b_L_law 793 = .ok (.iadd, 1) := by decide +kernel
theorem d_L_law_794 : decode b_L_law 794 = .ok (.iaload, 1) := by decide +kernel
theorem d_L_law_795 : decode b_L_law 795 = .ok (.aload_n 0, 1) := by decide +kernel
theorem d_L_law_796 : decode b_L_law 796 = .ok (.iload 4, 2) := by decide +kernel
theorem d_L_law_798 : decode b_L_law 798 = .ok (.iconst 2, 1) := by decide +kernel
theorem d_L_law_799 : decode b_L_law 799 = .ok (.iadd, 1) := by decide +kernel
theorem d_L_law_800 : decode b_L_law 800 = .ok (.iaload, 1) := by decide +kernel
theorem d_L_law_801 : decode b_L_law 801 = .ok (.invokevirtual 113, 3) := by decide +kernel
theorem d_L_law_804 : decode b_L_law 804 = .ok (.aload_n 2, 1) := by decide +kernel
theorem d_L_law_805 : decode b_L_law 805 = .ok (.invokevirtual 82, 3) := by decide +kernel
theorem d_L_law_808 : decode b_L_law 808 = .ok (.iload 5, 2) := by decide +kernel
theorem d_L_law_810 : decode b_L_law 810 = .ok (.if_icmp .eq 5, 3) := by decide +kernel
theorem d_L_law_813 : decode b_L_law 813 = .ok (.iconst 0, 1) := by decide +kernel
theorem d_L_law_814 : decode b_L_law 814 = .ok (.ireturn, 1) := by decide +kernel
theorem d_L_law_815 : decode b_L_law 815 = .ok (.goto 353, 3) := by decide +kernel
theorem d_L_law_818 : decode b_L_law 818 = .ok (.aload_n 1, 1) := by decide +kernel
theorem d_L_law_819 : decode b_L_law 819 = .ok (.aload_n 0, 1) := by decide +kernel
theorem d_L_law_820 : decode b_L_law 820 = .ok (.iload 4, 2) := by decide +kernel
theorem d_L_law_822 : decode b_L_law 822 = .ok (.iconst 1, 1) := by decide +kernel
theorem d_L_law_823 : decode b_L_law 823 = .ok (.iadd, 1) := by decide +kernel
theorem d_L_law_824 : decode b_L_law 824 = .ok (.iaload, 1) := by decide +kernel
theorem d_L_law_825 : decode b_L_law 825 = .ok (.aload_n 3, 1) := by decide +kernel
theorem d_L_law_826 : decode b_L_law 826 = .ok (.invokestatic 114, 3) := by decide +kernel
theorem d_L_law_829 : decode b_L_law 829 = .ok (.istore 5, 2) := by decide +kernel
theorem d_L_law_831 : decode b_L_law 831 = .ok (.aload_n 2, 1) := by decide +kernel
theorem d_L_law_832 : decode b_L_law 832 = .ok (.aload_n 0, 1) := by decide +kernel
theorem d_L_law_833 : decode b_L_law 833 = .ok (.iload 4, 2) := by decide +kernel
theorem d_L_law_835 : decode b_L_law 835 = .ok (.iconst 1, 1) := by decide +kernel
theorem d_L_law_836 : decode b_L_law 836 = .ok (.iadd, 1) := by decide +kernel
theorem d_L_law_837 : decode b_L_law 837 = .ok (.iaload, 1) := by decide +kernel
