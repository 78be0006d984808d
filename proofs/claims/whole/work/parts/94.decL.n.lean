/-! DECODE ROWS -/
theorem d_L_law_1000 : decode b_L_law 1000 = .ok (.if_icmp .eq 5, 3) := by decide +kernel
theorem d_L_law_1003 : decode b_L_law 1003 = .ok (.iconst 0, 1) := by decide +kernel
theorem d_L_law_1004 : decode b_L_law 1004 = .ok (.ireturn, 1) := by decide +kernel
theorem d_L_law_1005 : decode b_L_law 1005 = .ok (.iload 5, 2) := by decide +kernel
theorem d_L_law_1007 : decode b_L_law 1007 = .ok (.ifCond .ne 15, 3) := by decide +kernel
theorem d_L_law_1010 : decode b_L_law 1010 = .ok (.aload_n 3, 1) := by decide +kernel
theorem d_L_law_1011 : decode b_L_law 1011 = .ok (.iconst 0, 1) := by decide +kernel
theorem d_L_law_1012 : decode b_L_law 1012 = .ok (.laload, 1) := by decide +kernel
theorem d_L_law_1013 : decode b_L_law 1013 = .ok (.iload 6, 2) := by decide +kernel
theorem d_L_law_1015 : decode b_L_law 1015 = .ok (.i2l, 1) := by decide +kernel
theorem d_L_law_1016 : decode b_L_law 1016 = .ok (.lcmp, 1) := by decide +kernel
theorem d_L_law_1017 : decode b_L_law 1017 = .ok (.ifCond .eq 5, 3) := by decide +kernel
theorem d_L_law_1020 : decode b_L_law 1020 = .ok (.iconst 0, 1) := by decide +kernel
theorem d_L_law_1021 : decode b_L_law 1021 = .ok (.ireturn, 1) := by decide +kernel
theorem d_L_law_1022 : decode b_L_law 1022 = .ok (.goto 146, 3) := by decide +kernel
theorem d_L_law_1025 : decode b_L_law 1025 = .ok (.aload_n 1, 1) := by decide +kernel
theorem d_L_law_1026 : decode b_L_law 1026 = .ok (.aload_n 3, 1) := by decide +kernel
theorem d_L_law_1027 : decode b_L_law 1027 = .ok (.invokestatic 131, 3) := by decide +kernel
theorem d_L_law_1030 : decode b_L_law 1030 = .ok (.istore 5, 2) := by decide +kernel
theorem d_L_law_1032 : decode b_L_law 1032 = .ok (.aload_n 2, 1) := by decide +kernel
theorem d_L_law_1033 : decode b_L_law 1033 = .ok (.invokevirtual 134, 3) := by decide +kernel
theorem d_L_law_1036 : decode b_L_law 1036 = .ok (.istore 6, 2) := by decide +kernel
theorem d_L_law_1038 : decode b_L_law 1038 = .ok (.aload_n 2, 1) := by decide +kernel
theorem d_L_law_1039 : decode b_L_law 1039 = .ok (.invokevirtual 82, 3) := by decide +kernel
theorem d_L_law_1042 : decode b_L_law 1042 = .ok (.iload 5, 2) := by decide +kernel
theorem d_L_law_1044 : decode b_L_law 1044 = .ok (.if_icmp .eq 5, 3) := by decide +kernel
theorem d_L_law_1047 : decode b_L_law 1047 = .ok (.iconst 0, 1) := by decide +kernel
theorem d_L_law_1048 : decode b_L_law 1048 = .ok (.ireturn, 1) := by decide +kernel
theorem d_L_law_1049 : decode b_L_law 1049 = .ok (.iload 5, 2) := by decide +kernel
theorem d_L_law_1051 : decode b_L_law 1051 = .ok (.ifCond .ne 15, 3) := by decide +kernel
theorem d_L_law_1054 : decode b_L_law 1054 = .ok (.aload_n 3, 1) := by decide +kernel
theorem d_L_law_1055 : decode b_L_law 1055 = .ok (.iconst 0, 1) := by decide +kernel
theorem d_L_law_1056 : decode b_L_law 1056 = .ok (.laload, 1) := by decide +kernel
theorem d_L_law_1057 : decode b_L_law 1057 = .ok (.iload 6, 2) := by decide +kernel
theorem d_L_law_1059 : decode b_L_law 1059 = .ok (.i2l, 1) := by decide +kernel
theorem d_L_law_1060 : decode b_L_law 1060 = .ok (.lcmp, 1) := by decide +kernel
theorem d_L_law_1061 : decode b_L_law 1061 = .ok (.ifCond .eq 5, 3) := by decide +kernel
theorem d_L_law_1064 : decode b_L_law 1064 = .ok (.iconst 0, 1) := by decide +kernel
theorem d_L_law_1065 : decode b_L_law 1065 = .ok (.ireturn, 1) := by decide +kernel
theorem d_L_law_1066 : decode b_L_law 1066 = .ok (.goto 102, 3) := by decide +kernel
theorem d_L_law_1069 : decode b_L_law 1069 = .ok (.aload_n 1, 1) := by decide +kernel
theorem d_L_law_1070 : decode b_L_law 1070 = .ok (.aload_n 3, 1) := by decide +kernel
theorem d_L_law_1071 : decode b_L_law 1071 = .ok (.invokestatic 135, 3) := by decide +kernel
theorem d_L_law_1074 : decode b_L_law 1074 = .ok (.istore 5, 2) := by decide +kernel
theorem d_L_law_1076 : decode b_L_law 1076 = .ok (.aload_n 2, 1) := by decide +kernel
theorem d_L_law_1077 : decode b_L_law 1077 = .ok (.invokevirtual 137, 3) := by decide +kernel
theorem d_L_law_1080 : decode b_L_law 1080 = .ok (.lstore 6, 2) := by decide +kernel
theorem d_L_law_1082 : decode b_L_law 1082 = .ok (.aload_n 2, 1) := by decide +kernel
theorem d_L_law_1083 : decode b_L_law 1083 = .ok (.invokevirtual 82, 3) := by decide +kernel
theorem d_L_law_1086 : decode b_L_law 1086 = .ok (.iload 5, 2) := by decide +kernel
