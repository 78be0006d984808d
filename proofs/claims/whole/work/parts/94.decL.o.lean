/-! DECODE ROWS -/
theorem d_L_law_1088 : decode b_L_law 1088 = .ok (.if_icmp .eq 5, 3) := by decide +kernel
theorem d_L_law_1091 : decode b_L_law 1091 = .ok (.iconst 0, 1) := by decide +kernel
theorem d_L_law_1092 : decode b_L_law 1092 = .ok (.ireturn, 1) := by decide +kernel
theorem d_L_law_1093 : decode b_L_law 1093 = .ok (.iload 5, 2) := by decide +kernel
theorem d_L_law_1095 : decode b_L_law 1095 = .ok (.ifCond .ne 14, 3) := by decide +kernel
theorem d_L_law_1098 : decode b_L_law 1098 = .ok (.aload_n 3, 1) := by decide +kernel
theorem d_L_law_1099 : decode b_L_law 1099 = .ok (.iconst 0, 1) := by decide +kernel
theorem d_L_law_1100 : decode b_L_law 1100 = .ok (.laload, 1) := by decide +kernel
theorem d_L_law_1101 : decode b_L_law 1101 = .ok (.lload 6, 2) := by decide +kernel
theorem d_L_law_1103 : decode b_L_law 1103 = .ok (.lcmp, 1) := by decide +kernel
theorem d_L_law_1104 : decode b_L_law 1104 = .ok (.ifCond .eq 5, 3) := by decide +kernel
theorem d_L_law_1107 : decode b_L_law 1107 = .ok (.iconst 0, 1) := by decide +kernel
theorem d_L_law_1108 : decode b_L_law 1108 = .ok (.ireturn, 1) := by decide +kernel
theorem d_L_law_1109 : decode b_L_law 1109 = .ok (.goto 59, 3) := by decide +kernel
theorem d_L_law_1112 : decode b_L_law 1112 = .ok (.aload_n 1, 1) := by decide +kernel
theorem d_L_law_1113 : decode b_L_law 1113 = .ok (.aload_n 0, 1) := by decide +kernel
theorem d_L_law_1114 : decode b_L_law 1114 = .ok (.iload 4, 2) := by decide +kernel
theorem d_L_law_1116 : decode b_L_law 1116 = .ok (.iconst 1, 1) := by decide +kernel
theorem d_L_law_1117 : decode b_L_law 1117 = .ok (.iadd, 1) := by decide +kernel
theorem d_L_law_1118 : decode b_L_law 1118 = .ok (.iaload, 1) := by decide +kernel
theorem d_L_law_1119 : decode b_L_law 1119 = .ok (.aload_n 3, 1) := by decide +kernel
theorem d_L_law_1120 : decode b_L_law 1120 = .ok (.invokestatic 138, 3) := by decide +kernel
theorem d_L_law_1123 : decode b_L_law 1123 = .ok (.istore 5, 2) := by decide +kernel
theorem d_L_law_1125 : decode b_L_law 1125 = .ok (.aload_n 2, 1) := by decide +kernel
theorem d_L_law_1126 : decode b_L_law 1126 = .ok (.aload_n 0, 1) := by decide +kernel
theorem d_L_law_1127 : decode b_L_law 1127 = .ok (.iload 4, 2) := by decide +kernel
theorem d_L_law_1129 : decode b_L_law 1129 = .ok (.iconst 1, 1) := by decide +kernel
theorem d_L_law_1130 : decode b_L_law 1130 = .ok (.iadd, 1) := by decide +kernel
theorem d_L_law_1131 : decode b_L_law 1131 = .ok (.iaload, 1) := by decide +kernel
theorem d_L_law_1132 : decode b_L_law 1132 = .ok (.invokevirtual 140, 3) := by decide +kernel
theorem d_L_law_1135 : decode b_L_law 1135 = .ok (.istore 6, 2) := by decide +kernel
theorem d_L_law_1137 : decode b_L_law 1137 = .ok (.aload_n 2, 1) := by decide +kernel
theorem d_L_law_1138 : decode b_L_law 1138 = .ok (.invokevirtual 82, 3) := by decide +kernel
theorem d_L_law_1141 : decode b_L_law 1141 = .ok (.iload 5, 2) := by decide +kernel
theorem d_L_law_1143 : decode b_L_law 1143 = .ok (.if_icmp .eq 5, 3) := by decide +kernel
theorem d_L_law_1146 : decode b_L_law 1146 = .ok (.iconst 0, 1) := by decide +kernel
theorem d_L_law_1147 : decode b_L_law 1147 = .ok (.ireturn, 1) := by decide +kernel
theorem d_L_law_1148 : decode b_L_law 1148 = .ok (.iload 5, 2) := by decide +kernel
theorem d_L_law_1150 : decode b_L_law 1150 = .ok (.ifCond .ne 15, 3) := by decide +kernel
theorem d_L_law_1153 : decode b_L_law 1153 = .ok (.aload_n 3, 1) := by decide +kernel
theorem d_L_law_1154 : decode b_L_law 1154 = .ok (.iconst 0, 1) := by decide +kernel
theorem d_L_law_1155 : decode b_L_law 1155 = .ok (.laload, 1) := by decide +kernel
theorem d_L_law_1156 : decode b_L_law 1156 = .ok (.iload 6, 2) := by decide +kernel
theorem d_L_law_1158 : decode b_L_law 1158 = .ok (.i2l, 1) := by decide +kernel
theorem d_L_law_1159 : decode b_L_law 1159 = .ok (.lcmp, 1) := by decide +kernel
theorem d_L_law_1160 : decode b_L_law 1160 = .ok (.ifCond .eq 5, 3) := by decide +kernel
theorem d_L_law_1163 : decode b_L_law 1163 = .ok (.iconst 0, 1) := by decide +kernel
theorem d_L_law_1164 : decode b_L_law 1164 = .ok (.ireturn, 1) := by decide +kernel
theorem d_L_law_1165 : decode b_L_law 1165 = .ok (.goto 3, 3) := by decide +kernel
theorem d_L_law_1168 : decode b_L_law 1168 = .ok (.iinc 4 6, 3) := by decide +kernel
