/-! DECODE ROWS -/
theorem d_L_law_838 : decode b_L_law 838 = .ok (.invokevirtual 116, 3) := by decide +kernel
theorem d_L_law_841 : decode b_L_law 841 = .ok (.istore 6, 2) := by decide +kernel
theorem d_L_law_843 : decode b_L_law 843 = .ok (.aload_n 2, 1) := by decide +kernel
theorem d_L_law_844 : decode b_L_law 844 = .ok (.invokevirtual 82, 3) := by decide +kernel
theorem d_L_law_847 : decode b_L_law 847 = .ok (.iload 5, 2) := by decide +kernel
theorem d_L_law_849 : decode b_L_law 849 = .ok (.if_icmp .eq 5, 3) := by decide +kernel
theorem d_L_law_852 : decode b_L_law 852 = .ok (.iconst 0, 1) := by decide +kernel
theorem d_L_law_853 : decode b_L_law 853 = .ok (.ireturn, 1) := by decide +kernel
theorem d_L_law_854 : decode b_L_law 854 = .ok (.iload 5, 2) := by decide +kernel
theorem d_L_law_856 : decode b_L_law 856 = .ok (.ifCond .ne 15, 3) := by decide +kernel
theorem d_L_law_859 : decode b_L_law 859 = .ok (.aload_n 3, 1) := by decide +kernel
theorem d_L_law_860 : decode b_L_law 860 = .ok (.iconst 0, 1) := by decide +kernel
theorem d_L_law_861 : decode b_L_law 861 = .ok (.laload, 1) := by decide +kernel
theorem d_L_law_862 : decode b_L_law 862 = .ok (.iload 6, 2) := by decide +kernel
theorem d_L_law_864 : decode b_L_law 864 = .ok (.i2l, 1) := by decide +kernel
theorem d_L_law_865 : decode b_L_law 865 = .ok (.lcmp, 1) := by decide +kernel
theorem d_L_law_866 : decode b_L_law 866 = .ok (.ifCond .eq 5, 3) := by decide +kernel
theorem d_L_law_869 : decode b_L_law 869 = .ok (.iconst 0, 1) := by decide +kernel
theorem d_L_law_870 : decode b_L_law 870 = .ok (.ireturn, 1) := by decide +kernel
theorem d_L_law_871 : decode b_L_law 871 = .ok (.goto 297, 3) := by decide +kernel
theorem d_L_law_874 : decode b_L_law 874 = .ok (.aload_n 1, 1) := by decide +kernel
theorem d_L_law_875 : decode b_L_law 875 = .ok (.invokevirtual 117, 3) := by decide +kernel
theorem d_L_law_878 : decode b_L_law 878 = .ok (.aload_n 2, 1) := by decide +kernel
theorem d_L_law_879 : decode b_L_law 879 = .ok (.invokevirtual 120, 3) := by decide +kernel
theorem d_L_law_882 : decode b_L_law 882 = .ok (.if_icmp .eq 286, 3) := by decide +kernel
theorem d_L_law_885 : decode b_L_law 885 = .ok (.iconst 0, 1) := by decide +kernel
theorem d_L_law_886 : decode b_L_law 886 = .ok (.ireturn, 1) := by decide +kernel
theorem d_L_law_887 : decode b_L_law 887 = .ok (.aload_n 1, 1) := by decide +kernel
theorem d_L_law_888 : decode b_L_law 888 = .ok (.invokevirtual 121, 3) := by decide +kernel
theorem d_L_law_891 : decode b_L_law 891 = .ok (.aload_n 2, 1) := by decide +kernel
theorem d_L_law_892 : decode b_L_law 892 = .ok (.invokevirtual 124, 3) := by decide +kernel
theorem d_L_law_895 : decode b_L_law 895 = .ok (.lcmp, 1) := by decide +kernel
theorem d_L_law_896 : decode b_L_law 896 = .ok (.ifCond .eq 272, 3) := by decide +kernel
theorem d_L_law_899 : decode b_L_law 899 = .ok (.iconst 0, 1) := by decide +kernel
theorem d_L_law_900 : decode b_L_law 900 = .ok (.ireturn, 1) := by decide +kernel
theorem d_L_law_901 : decode b_L_law 901 = .ok (.aload_n 1, 1) := by decide +kernel
theorem d_L_law_902 : decode b_L_law 902 = .ok (.aload_n 0, 1) := by decide +kernel
theorem d_L_law_903 : decode b_L_law 903 = .ok (.iload 4, 2) := by decide +kernel
theorem d_L_law_905 : decode b_L_law 905 = .ok (.iconst 1, 1) := by decide +kernel
theorem d_L_law_906 : decode b_L_law 906 = .ok (.iadd, 1) := by decide +kernel
theorem d_L_law_907 : decode b_L_law 907 = .ok (.iaload, 1) := by decide +kernel
theorem d_L_law_908 : decode b_L_law 908 = .ok (.aload_n 0, 1) := by decide +kernel
theorem d_L_law_909 : decode b_L_law 909 = .ok (.iload 4, 2) := by decide +kernel
theorem d_L_law_911 : decode b_L_law 911 = .ok (.iconst 2, 1) := by decide +kernel
theorem d_L_law_912 : decode b_L_law 912 = .ok (.iadd, 1) := by decide +kernel
theorem d_L_law_913 : decode b_L_law 913 = .ok (.iaload, 1) := by decide +kernel
theorem d_L_law_914 : decode b_L_law 914 = .ok (.aload_n 3, 1) := by decide +kernel
theorem d_L_law_915 : decode b_L_law 915 = .ok (.invokestatic 125, 3) := by decide +kernel
theorem d_L_law_918 : decode b_L_law 918 = .ok (.istore 5, 2) := by decide +kernel
theorem d_L_law_920 : decode b_L_law 920 = .ok (.aload_n 2, 1) := by decide +kernel
