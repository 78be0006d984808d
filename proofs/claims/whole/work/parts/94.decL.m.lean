/-! DECODE ROWS -/
theorem d_L_law_921 : decode b_L_law 921 = .ok (.aload_n 0, 1) := by decide +kernel
theorem d_L_law_922 : decode b_L_law 922 = .ok (.iload 4, 2) := by decide +kernel
theorem d_L_law_924 : decode b_L_law 924 = .ok (.iconst 1, 1) := by decide +kernel
theorem d_L_law_925 : decode b_L_law 925 = .ok (.iadd, 1) := by decide +kernel
theorem d_L_law_926 : decode b_L_law 926 = .ok (.iaload, 1) := by decide +kernel
theorem d_L_law_927 : decode b_L_law 927 = .ok (.aload_n 0, 1) := by decide +kernel
theorem d_L_law_928 : decode b_L_law 928 = .ok (.iload 4, 2) := by decide +kernel
theorem d_L_law_930 : decode b_L_law 930 = .ok (.iconst 2, 1) := by decide +kernel
theorem d_L_law_931 : decode b_L_law 931 = .ok (.iadd, 1) := by decide +kernel
theorem d_L_law_932 : decode b_L_law 932 = .ok (.iaload, 1) := by decide +kernel
theorem d_L_law_933 : decode b_L_law 933 = .ok (.invokevirtual 127, 3) := by decide +kernel
theorem d_L_law_936 : decode b_L_law 936 = .ok (.istore 6, 2) := by decide +kernel
theorem d_L_law_938 : decode b_L_law 938 = .ok (.aload_n 2, 1) := by decide +kernel
theorem d_L_law_939 : decode b_L_law 939 = .ok (.invokevirtual 82, 3) := by decide +kernel
theorem d_L_law_942 : decode b_L_law 942 = .ok (.iload 5, 2) := by decide +kernel
theorem d_L_law_944 : decode b_L_law 944 = .ok (.if_icmp .eq 5, 3) := by decide +kernel
theorem d_L_law_947 : decode b_L_law 947 = .ok (.iconst 0, 1) := by decide +kernel
theorem d_L_law_948 : decode b_L_law 948 = .ok (.ireturn, 1) := by decide +kernel
theorem d_L_law_949 : decode b_L_law 949 = .ok (.iload 5, 2) := by decide +kernel
theorem d_L_law_951 : decode b_L_law 951 = .ok (.ifCond .ne 15, 3) := by decide +kernel
theorem d_L_law_954 : decode b_L_law 954 = .ok (.aload_n 3, 1) := by decide +kernel
theorem d_L_law_955 : decode b_L_law 955 = .ok (.iconst 0, 1) := by decide +kernel
theorem d_L_law_956 : decode b_L_law 956 = .ok (.laload, 1) := by decide +kernel
theorem d_L_law_957 : decode b_L_law 957 = .ok (.iload 6, 2) := by decide +kernel
theorem d_L_law_959 : decode b_L_law 959 = .ok (.i2l, 1) := by decide +kernel
theorem d_L_law_960 : decode b_L_law 960 = .ok (.lcmp, 1) := by decide +kernel
theorem d_L_law_961 : decode b_L_law 961 = .ok (.ifCond .eq 5, 3) := by decide +kernel
theorem d_L_law_964 : decode b_L_law 964 = .ok (.iconst 0, 1) := by decide +kernel
theorem d_L_law_965 : decode b_L_law 965 = .ok (.ireturn, 1) := by decide +kernel
theorem d_L_law_966 : decode b_L_law 966 = .ok (.goto 202, 3) := by decide +kernel
theorem d_L_law_969 : decode b_L_law 969 = .ok (.aload_n 1, 1) := by decide +kernel
theorem d_L_law_970 : decode b_L_law 970 = .ok (.aload_n 0, 1) := by decide +kernel
theorem d_L_law_971 : decode b_L_law 971 = .ok (.iload 4, 2) := by decide +kernel
theorem d_L_law_973 : decode b_L_law 973 = .ok (.iconst 1, 1) := by decide +kernel
theorem d_L_law_974 : decode b_L_law 974 = .ok (.iadd, 1) := by decide +kernel
theorem d_L_law_975 : decode b_L_law 975 = .ok (.iaload, 1) := by decide +kernel
theorem d_L_law_976 : decode b_L_law 976 = .ok (.aload_n 3, 1) := by decide +kernel
theorem d_L_law_977 : decode b_L_law 977 = .ok (.invokestatic 128, 3) := by decide +kernel
theorem d_L_law_980 : decode b_L_law 980 = .ok (.istore 5, 2) := by decide +kernel
theorem d_L_law_982 : decode b_L_law 982 = .ok (.aload_n 2, 1) := by decide +kernel
theorem d_L_law_983 : decode b_L_law 983 = .ok (.aload_n 0, 1) := by decide +kernel
theorem d_L_law_984 : decode b_L_law 984 = .ok (.iload 4, 2) := by decide +kernel
theorem d_L_law_986 : decode b_L_law 986 = .ok (.iconst 1, 1) := by decide +kernel
theorem d_L_law_987 : decode b_L_law 987 = .ok (.iadd, 1) := by decide +kernel
theorem d_L_law_988 : decode b_L_law 988 = .ok (.iaload, 1) := by decide +kernel
theorem d_L_law_989 : decode b_L_law 989 = .ok (.invokevirtual 130, 3) := by decide +kernel
theorem d_L_law_992 : decode b_L_law 992 = .ok (.istore 6, 2) := by decide +kernel
theorem d_L_law_994 : decode b_L_law 994 = .ok (.aload_n 2, 1) := by decide +kernel
theorem d_L_law_995 : decode b_L_law 995 = .ok (.invokevirtual 82, 3) := by decide +kernel
theorem d_L_law_998 : decode b_L_law 998 = .ok (.iload 5, 2) := by decide +kernel
