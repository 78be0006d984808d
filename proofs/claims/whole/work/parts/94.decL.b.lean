/-! DECODE ROWS -/
theorem d_L_law_0 : decode b_L_law 0 = .ok (.new 8, 3) := by decide +kernel
theorem d_L_law_3 : decode b_L_law 3 = .ok (.dup, 1) := by decide +kernel
theorem d_L_law_4 : decode b_L_law 4 = .ok (.aload_n 0, 1) := by decide +kernel
theorem d_L_law_5 : decode b_L_law 5 = .ok (.iconst 0, 1) := by decide +kernel
theorem d_L_law_6 : decode b_L_law 6 = .ok (.invokestatic 66, 3) := by decide +kernel
theorem d_L_law_9 : decode b_L_law 9 = .ok (.invokespecial 72, 3) := by decide +kernel
theorem d_L_law_12 : decode b_L_law 12 = .ok (.astore_n 1, 1) := by decide +kernel
theorem d_L_law_13 : decode b_L_law 13 = .ok (.new 75, 3) := by decide +kernel
theorem d_L_law_16 : decode b_L_law 16 = .ok (.dup, 1) := by decide +kernel
theorem d_L_law_17 : decode b_L_law 17 = .ok (.aload_n 0, 1) := by decide +kernel
theorem d_L_law_18 : decode b_L_law 18 = .ok (.iconst 0, 1) := by decide +kernel
theorem d_L_law_19 : decode b_L_law 19 = .ok (.invokestatic 66, 3) := by decide +kernel
theorem d_L_law_22 : decode b_L_law 22 = .ok (.invokespecial 77, 3) := by decide +kernel
theorem d_L_law_25 : decode b_L_law 25 = .ok (.astore_n 2, 1) := by decide +kernel
theorem d_L_law_26 : decode b_L_law 26 = .ok (.iconst 1, 1) := by decide +kernel
theorem d_L_law_27 : decode b_L_law 27 = .ok (.newarray .long, 2) := by decide +kernel
theorem d_L_law_29 : decode b_L_law 29 = .ok (.astore_n 3, 1) := by decide +kernel
theorem d_L_law_30 : decode b_L_law 30 = .ok (.iconst 1, 1) := by decide +kernel
theorem d_L_law_31 : decode b_L_law 31 = .ok (.istore 4, 2) := by decide +kernel
theorem d_L_law_33 : decode b_L_law 33 = .ok (.iload 4, 2) := by decide +kernel
theorem d_L_law_35 : decode b_L_law 35 = .ok (.aload_n 0, 1) := by decide +kernel
theorem d_L_law_36 : decode b_L_law 36 = .ok (.arraylength, 1) := by decide +kernel
theorem d_L_law_37 : decode b_L_law 37 = .ok (.bipush 6, 2) := by decide +kernel
theorem d_L_law_39 : decode b_L_law 39 = .ok (.isub, 1) := by decide +kernel
theorem d_L_law_40 : decode b_L_law 40 = .ok (.if_icmp .gt 1134, 3) := by decide +kernel
theorem d_L_law_43 : decode b_L_law 43 = .ok (.aload_n 0, 1) := by decide +kernel
theorem d_L_law_44 : decode b_L_law 44 = .ok (.iload 4, 2) := by decide +kernel
theorem d_L_law_46 : decode b_L_law 46 = .ok (.iaload, 1) := by decide +kernel
theorem d_L_law_47 : decode b_L_law 47 = .ok (.bipush 31, 2) := by decide +kernel
theorem d_L_law_49 : decode b_L_law 49 = .ok (.iand, 1) := by decide +kernel
theorem d_L_law_50 : decode b_L_law 50 = .ok (.tableswitch 1118 0 16 #[82, 138, 241, 297, 389, 445, 548, 616, 720, 768, 824, 837, 851, 919, 975, 1019, 1062], 82) := by decide +kernel
theorem d_L_law_132 : decode b_L_law 132 = .ok (.aload_n 1, 1) := by decide +kernel
theorem d_L_law_133 : decode b_L_law 133 = .ok (.aload_n 0, 1) := by decide +kernel
theorem d_L_law_134 : decode b_L_law 134 = .ok (.iload 4, 2) := by decide +kernel
theorem d_L_law_136 : decode b_L_law 136 = .ok (.iconst 1, 1) := by decide +kernel
theorem d_L_law_137 : decode b_L_law 137 = .ok (.iadd, 1) := by decide +kernel
theorem d_L_law_138 : decode b_L_law 138 = .ok (.iaload, 1) := by decide +kernel
theorem d_L_law_139 : decode b_L_law 139 = .ok (.aload_n 3, 1) := by decide +kernel
theorem d_L_law_140 : decode b_L_law 140 = .ok (.invokestatic 78, 3) := by decide +kernel
theorem d_L_law_143 : decode b_L_law 143 = .ok (.istore 5, 2) := by decide +kernel
theorem d_L_law_145 : decode b_L_law 145 = .ok (.aload_n 2, 1) := by decide +kernel
theorem d_L_law_146 : decode b_L_law 146 = .ok (.aload_n 0, 1) := by decide +kernel
theorem d_L_law_147 : decode b_L_law 147 = .ok (.iload 4, 2) := by decide +kernel
theorem d_L_law_149 : decode b_L_law 149 = .ok (.iconst 1, 1) := by decide +kernel
theorem d_L_law_150 : decode b_L_law 150 = .ok (.iadd, 1) := by decide +kernel
theorem d_L_law_151 : decode b_L_law 151 = .ok (.iaload, 1) := by decide +kernel
theorem d_L_law_152 : decode b_L_law 152 = .ok (.invokevirtual 81, 3) := by decide +kernel
theorem d_L_law_155 : decode b_L_law 155 = .ok (.istore 6, 2) := by decide +kernel
theorem d_L_law_157 : decode b_L_law 157 = .ok (.aload_n 2, 1) := by decide +kernel
theorem d_L_law_158 : decode b_L_law 158 = .ok (.invokevirtual 82, 3) := by decide +kernel
