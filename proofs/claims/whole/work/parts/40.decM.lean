/-! DECODE ROWS -/
theorem d_M_init_0 : decode b_M_init 0 = .ok (.aload_n 0, 1) := by decide +kernel
theorem d_M_init_1 : decode b_M_init 1 = .ok (.invokespecial 1, 3) := by decide +kernel
theorem d_M_init_4 : decode b_M_init 4 = .ok (.aload_n 0, 1) := by decide +kernel
theorem d_M_init_5 : decode b_M_init 5 = .ok (.iconst 4, 1) := by decide +kernel
theorem d_M_init_6 : decode b_M_init 6 = .ok (.newarray .int, 2) := by decide +kernel
theorem d_M_init_8 : decode b_M_init 8 = .ok (.putfield 7, 3) := by decide +kernel
theorem d_M_init_11 : decode b_M_init 11 = .ok (.aload_n 0, 1) := by decide +kernel
theorem d_M_init_12 : decode b_M_init 12 = .ok (.bipush 32, 2) := by decide +kernel
theorem d_M_init_14 : decode b_M_init 14 = .ok (.newarray .boolean, 2) := by decide +kernel
theorem d_M_init_16 : decode b_M_init 16 = .ok (.putfield 13, 3) := by decide +kernel
theorem d_M_init_19 : decode b_M_init 19 = .ok (.aload_n 0, 1) := by decide +kernel
theorem d_M_init_20 : decode b_M_init 20 = .ok (.bipush 6, 2) := by decide +kernel
theorem d_M_init_22 : decode b_M_init 22 = .ok (.newarray .int, 2) := by decide +kernel
theorem d_M_init_24 : decode b_M_init 24 = .ok (.putfield 17, 3) := by decide +kernel
theorem d_M_init_27 : decode b_M_init 27 = .ok (.aload_n 0, 1) := by decide +kernel
theorem d_M_init_28 : decode b_M_init 28 = .ok (.bipush 48, 2) := by decide +kernel
theorem d_M_init_30 : decode b_M_init 30 = .ok (.newarray .int, 2) := by decide +kernel
theorem d_M_init_32 : decode b_M_init 32 = .ok (.putfield 20, 3) := by decide +kernel
theorem d_M_init_35 : decode b_M_init 35 = .ok (.aload_n 0, 1) := by decide +kernel
theorem d_M_init_36 : decode b_M_init 36 = .ok (.bipush 48, 2) := by decide +kernel
theorem d_M_init_38 : decode b_M_init 38 = .ok (.newarray .int, 2) := by decide +kernel
theorem d_M_init_40 : decode b_M_init 40 = .ok (.putfield 23, 3) := by decide +kernel
theorem d_M_init_43 : decode b_M_init 43 = .ok (.aload_n 0, 1) := by decide +kernel
theorem d_M_init_44 : decode b_M_init 44 = .ok (.iconst 3, 1) := by decide +kernel
theorem d_M_init_45 : decode b_M_init 45 = .ok (.newarray .int, 2) := by decide +kernel
theorem d_M_init_47 : decode b_M_init 47 = .ok (.putfield 26, 3) := by decide +kernel
theorem d_M_init_50 : decode b_M_init 50 = .ok (.aload_n 0, 1) := by decide +kernel
theorem d_M_init_51 : decode b_M_init 51 = .ok (.bipush 24, 2) := by decide +kernel
theorem d_M_init_53 : decode b_M_init 53 = .ok (.newarray .boolean, 2) := by decide +kernel
theorem d_M_init_55 : decode b_M_init 55 = .ok (.putfield 29, 3) := by decide +kernel
theorem d_M_init_58 : decode b_M_init 58 = .ok (.aload_n 0, 1) := by decide +kernel
theorem d_M_init_59 : decode b_M_init 59 = .ok (.bipush 8, 2) := by decide +kernel
theorem d_M_init_61 : decode b_M_init 61 = .ok (.newarray .int, 2) := by decide +kernel
theorem d_M_init_63 : decode b_M_init 63 = .ok (.putfield 32, 3) := by decide +kernel
theorem d_M_init_66 : decode b_M_init 66 = .ok (.aload_n 0, 1) := by decide +kernel
theorem d_M_init_67 : decode b_M_init 67 = .ok (.bipush 6, 2) := by decide +kernel
theorem d_M_init_69 : decode b_M_init 69 = .ok (.newarray .int, 2) := by decide +kernel
theorem d_M_init_71 : decode b_M_init 71 = .ok (.putfield 35, 3) := by decide +kernel
theorem d_M_init_74 : decode b_M_init 74 = .ok (.aload_n 0, 1) := by decide +kernel
theorem d_M_init_75 : decode b_M_init 75 = .ok (.bipush 6, 2) := by decide +kernel
theorem d_M_init_77 : decode b_M_init 77 = .ok (.newarray .int, 2) := by decide +kernel
theorem d_M_init_79 : decode b_M_init 79 = .ok (.putfield 38, 3) := by decide +kernel
theorem d_M_init_82 : decode b_M_init 82 = .ok (.aload_n 0, 1) := by decide +kernel
theorem d_M_init_83 : decode b_M_init 83 = .ok (.bipush 6, 2) := by decide +kernel
theorem d_M_init_85 : decode b_M_init 85 = .ok (.newarray .int, 2) := by decide +kernel
theorem d_M_init_87 : decode b_M_init 87 = .ok (.putfield 41, 3) := by decide +kernel
theorem d_M_init_90 : decode b_M_init 90 = .ok (.aload_n 0, 1) := by decide +kernel
theorem d_M_init_91 : decode b_M_init 91 = .ok (.bipush 6, 2) := by decide +kernel
theorem d_M_init_93 : decode b_M_init 93 = .ok (.newarray .int, 2) := by decide +kernel
theorem d_M_init_95 : decode b_M_init 95 = .ok (.putfield 44, 3) := by decide +kernel
theorem d_M_init_98 : decode b_M_init 98 = .ok (.aload_n 0, 1) := by decide +kernel
theorem d_M_init_99 : decode b_M_init 99 = .ok (.bipush 6, 2) := by decide +kernel
theorem d_M_init_101 : decode b_M_init 101 = .ok (.newarray .int, 2) := by decide +kernel
theorem d_M_init_103 : decode b_M_init 103 = .ok (.putfield 47, 3) := by decide +kernel
theorem d_M_init_106 : decode b_M_init 106 = .ok (.aload_n 0, 1) := by decide +kernel
theorem d_M_init_107 : decode b_M_init 107 = .ok (.bipush 6, 2) := by decide +kernel
theorem d_M_init_109 : decode b_M_init 109 = .ok (.newarray .int, 2) := by decide +kernel
theorem d_M_init_111 : decode b_M_init 111 = .ok (.putfield 50, 3) := by decide +kernel
theorem d_M_init_114 : decode b_M_init 114 = .ok (.aload_n 0, 1) := by decide +kernel
theorem d_M_init_115 : decode b_M_init 115 = .ok (.bipush 6, 2) := by decide +kernel
theorem d_M_init_117 : decode b_M_init 117 = .ok (.newarray .int, 2) := by decide +kernel
theorem d_M_init_119 : decode b_M_init 119 = .ok (.putfield 53, 3) := by decide +kernel
theorem d_M_init_122 : decode b_M_init 122 = .ok (.aload_n 0, 1) := by decide +kernel
theorem d_M_init_123 : decode b_M_init 123 = .ok (.bipush 6, 2) := by decide +kernel
theorem d_M_init_125 : decode b_M_init 125 = .ok (.newarray .int, 2) := by decide +kernel
theorem d_M_init_127 : decode b_M_init 127 = .ok (.putfield 56, 3) := by decide +kernel
theorem d_M_init_130 : decode b_M_init 130 = .ok (.aload_n 0, 1) := by decide +kernel
theorem d_M_init_131 : decode b_M_init 131 = .ok (.bipush 6, 2) := by decide +kernel
theorem d_M_init_133 : decode b_M_init 133 = .ok (.newarray .long, 2) := by decide +kernel
theorem d_M_init_135 : decode b_M_init 135 = .ok (.putfield 59, 3) := by decide +kernel
theorem d_M_init_138 : decode b_M_init 138 = .ok (.aload_n 0, 1) := by decide +kernel
theorem d_M_init_139 : decode b_M_init 139 = .ok (.bipush 6, 2) := by decide +kernel
theorem d_M_init_141 : decode b_M_init 141 = .ok (.newarray .long, 2) := by decide +kernel
theorem d_M_init_143 : decode b_M_init 143 = .ok (.putfield 63, 3) := by decide +kernel
theorem d_M_init_146 : decode b_M_init 146 = .ok (.aload_n 0, 1) := by decide +kernel
theorem d_M_init_147 : decode b_M_init 147 = .ok (.bipush 6, 2) := by decide +kernel
theorem d_M_init_149 : decode b_M_init 149 = .ok (.newarray .boolean, 2) := by decide +kernel
theorem d_M_init_151 : decode b_M_init 151 = .ok (.putfield 66, 3) := by decide +kernel
theorem d_M_init_154 : decode b_M_init 154 = .ok (.aload_n 0, 1) := by decide +kernel
theorem d_M_init_155 : decode b_M_init 155 = .ok (.bipush 6, 2) := by decide +kernel
theorem d_M_init_157 : decode b_M_init 157 = .ok (.newarray .long, 2) := by decide +kernel
theorem d_M_init_159 : decode b_M_init 159 = .ok (.putfield 69, 3) := by decide +kernel
theorem d_M_init_162 : decode b_M_init 162 = .ok (.aload_n 0, 1) := by decide +kernel
theorem d_M_init_163 : decode b_M_init 163 = .ok (.bipush 7, 2) := by decide +kernel
theorem d_M_init_165 : decode b_M_init 165 = .ok (.newarray .long, 2) := by decide +kernel
theorem d_M_init_167 : decode b_M_init 167 = .ok (.putfield 72, 3) := by decide +kernel
theorem d_M_init_170 : decode b_M_init 170 = .ok (.aload_n 0, 1) := by decide +kernel
theorem d_M_init_171 : decode b_M_init 171 = .ok (.iload_n 1, 1) := by decide +kernel
theorem d_M_init_172 : decode b_M_init 172 = .ok (.iconst 1, 1) := by decide +kernel
theorem d_M_init_173 : decode b_M_init 173 = .ok (.if_icmp .ge 7, 3) := by decide +kernel
theorem d_M_init_176 : decode b_M_init 176 = .ok (.iconst 1, 1) := by decide +kernel
theorem d_M_init_177 : decode b_M_init 177 = .ok (.goto 15, 3) := by decide +kernel
theorem d_M_init_180 : decode b_M_init 180 = .ok (.iload_n 1, 1) := by decide +kernel
theorem d_M_init_181 : decode b_M_init 181 = .ok (.bipush 8, 2) := by decide +kernel
theorem d_M_init_183 : decode b_M_init 183 = .ok (.if_icmp .le 8, 3) := by decide +kernel
theorem d_M_init_186 : decode b_M_init 186 = .ok (.bipush 8, 2) := by decide +kernel
theorem d_M_init_188 : decode b_M_init 188 = .ok (.goto 4, 3) := by decide +kernel
theorem d_M_init_191 : decode b_M_init 191 = .ok (.iload_n 1, 1) := by decide +kernel
theorem d_M_init_192 : decode b_M_init 192 = .ok (.putfield 75, 3) := by decide +kernel
theorem d_M_init_195 : decode b_M_init 195 = .ok (.return_, 1) := by decide +kernel
theorem d_M_thrown_0 : decode b_M_thrown 0 = .ok (.aload_n 0, 1) := by decide +kernel
theorem d_M_thrown_1 : decode b_M_thrown 1 = .ok (.getfield 79, 3) := by decide +kernel
theorem d_M_thrown_4 : decode b_M_thrown 4 = .ok (.ireturn, 1) := by decide +kernel
theorem d_M_in_0 : decode b_M_in 0 = .ok (.lload_n 0, 1) := by decide +kernel
theorem d_M_in_1 : decode b_M_in 1 = .ok (.lload_n 2, 1) := by decide +kernel
theorem d_M_in_2 : decode b_M_in 2 = .ok (.lcmp, 1) := by decide +kernel
theorem d_M_in_3 : decode b_M_in 3 = .ok (.ifCond .lt 14, 3) := by decide +kernel
theorem d_M_in_6 : decode b_M_in 6 = .ok (.lload_n 0, 1) := by decide +kernel
theorem d_M_in_7 : decode b_M_in 7 = .ok (.lload 4, 2) := by decide +kernel
theorem d_M_in_9 : decode b_M_in 9 = .ok (.lcmp, 1) := by decide +kernel
theorem d_M_in_10 : decode b_M_in 10 = .ok (.ifCond .gt 7, 3) := by decide +kernel
theorem d_M_in_13 : decode b_M_in 13 = .ok (.iconst 1, 1) := by decide +kernel
theorem d_M_in_14 : decode b_M_in 14 = .ok (.goto 4, 3) := by decide +kernel
theorem d_M_in_17 : decode b_M_in 17 = .ok (.iconst 0, 1) := by decide +kernel
theorem d_M_in_18 : decode b_M_in 18 = .ok (.ireturn, 1) := by decide +kernel
theorem d_M_refuses_0 : decode b_M_refuses 0 = .ok (.aload_n 0, 1) := by decide +kernel
theorem d_M_refuses_1 : decode b_M_refuses 1 = .ok (.iload_n 1, 1) := by decide +kernel
theorem d_M_refuses_2 : decode b_M_refuses 2 = .ok (.ifCond .ne 7, 3) := by decide +kernel
theorem d_M_refuses_5 : decode b_M_refuses 5 = .ok (.iconst 1, 1) := by decide +kernel
theorem d_M_refuses_6 : decode b_M_refuses 6 = .ok (.goto 12, 3) := by decide +kernel
theorem d_M_refuses_9 : decode b_M_refuses 9 = .ok (.iload_n 2, 1) := by decide +kernel
theorem d_M_refuses_10 : decode b_M_refuses 10 = .ok (.ifCond .ne 7, 3) := by decide +kernel
theorem d_M_refuses_13 : decode b_M_refuses 13 = .ok (.iconst 2, 1) := by decide +kernel
theorem d_M_refuses_14 : decode b_M_refuses 14 = .ok (.goto 4, 3) := by decide +kernel
theorem d_M_refuses_17 : decode b_M_refuses 17 = .ok (.iconst 0, 1) := by decide +kernel
theorem d_M_refuses_18 : decode b_M_refuses 18 = .ok (.putfield 79, 3) := by decide +kernel
theorem d_M_refuses_21 : decode b_M_refuses 21 = .ok (.aload_n 0, 1) := by decide +kernel
theorem d_M_refuses_22 : decode b_M_refuses 22 = .ok (.getfield 79, 3) := by decide +kernel
theorem d_M_refuses_25 : decode b_M_refuses 25 = .ok (.ifCond .le 7, 3) := by decide +kernel
theorem d_M_refuses_28 : decode b_M_refuses 28 = .ok (.iconst 1, 1) := by decide +kernel
theorem d_M_refuses_29 : decode b_M_refuses 29 = .ok (.goto 4, 3) := by decide +kernel
theorem d_M_refuses_32 : decode b_M_refuses 32 = .ok (.iconst 0, 1) := by decide +kernel
theorem d_M_refuses_33 : decode b_M_refuses 33 = .ok (.ireturn, 1) := by decide +kernel
theorem d_M_kilos_0 : decode b_M_kilos 0 = .ok (.aload_n 0, 1) := by decide +kernel
theorem d_M_kilos_1 : decode b_M_kilos 1 = .ok (.getfield 20, 3) := by decide +kernel
theorem d_M_kilos_4 : decode b_M_kilos 4 = .ok (.bipush 8, 2) := by decide +kernel
theorem d_M_kilos_6 : decode b_M_kilos 6 = .ok (.iload_n 1, 1) := by decide +kernel
theorem d_M_kilos_7 : decode b_M_kilos 7 = .ok (.imul, 1) := by decide +kernel
theorem d_M_kilos_8 : decode b_M_kilos 8 = .ok (.iload_n 2, 1) := by decide +kernel
theorem d_M_kilos_9 : decode b_M_kilos 9 = .ok (.iadd, 1) := by decide +kernel
theorem d_M_kilos_10 : decode b_M_kilos 10 = .ok (.iaload, 1) := by decide +kernel
theorem d_M_kilos_11 : decode b_M_kilos 11 = .ok (.i2l, 1) := by decide +kernel
theorem d_M_kilos_12 : decode b_M_kilos 12 = .ok (.aload_n 0, 1) := by decide +kernel
theorem d_M_kilos_13 : decode b_M_kilos 13 = .ok (.getfield 23, 3) := by decide +kernel
theorem d_M_kilos_16 : decode b_M_kilos 16 = .ok (.bipush 8, 2) := by decide +kernel
theorem d_M_kilos_18 : decode b_M_kilos 18 = .ok (.iload_n 1, 1) := by decide +kernel
theorem d_M_kilos_19 : decode b_M_kilos 19 = .ok (.imul, 1) := by decide +kernel
theorem d_M_kilos_20 : decode b_M_kilos 20 = .ok (.iload_n 2, 1) := by decide +kernel
theorem d_M_kilos_21 : decode b_M_kilos 21 = .ok (.iadd, 1) := by decide +kernel
theorem d_M_kilos_22 : decode b_M_kilos 22 = .ok (.iaload, 1) := by decide +kernel
theorem d_M_kilos_23 : decode b_M_kilos 23 = .ok (.i2l, 1) := by decide +kernel
theorem d_M_kilos_24 : decode b_M_kilos 24 = .ok (.lmul, 1) := by decide +kernel
theorem d_M_kilos_25 : decode b_M_kilos 25 = .ok (.ldc2_w 82, 3) := by decide +kernel
theorem d_M_kilos_28 : decode b_M_kilos 28 = .ok (.ldiv, 1) := by decide +kernel
theorem d_M_kilos_29 : decode b_M_kilos 29 = .ok (.lreturn, 1) := by decide +kernel
theorem d_M_place_0 : decode b_M_place 0 = .ok (.aload_n 0, 1) := by decide +kernel
theorem d_M_place_1 : decode b_M_place 1 = .ok (.iload_n 1, 1) := by decide +kernel
theorem d_M_place_2 : decode b_M_place 2 = .ok (.i2l, 1) := by decide +kernel
theorem d_M_place_3 : decode b_M_place 3 = .ok (.lconst 0, 1) := by decide +kernel
theorem d_M_place_4 : decode b_M_place 4 = .ok (.ldc2_w 84, 3) := by decide +kernel
theorem d_M_place_7 : decode b_M_place 7 = .ok (.invokestatic 86, 3) := by decide +kernel
theorem d_M_place_10 : decode b_M_place 10 = .ok (.aload_n 0, 1) := by decide +kernel
theorem d_M_place_11 : decode b_M_place 11 = .ok (.getfield 90, 3) := by decide +kernel
theorem d_M_place_14 : decode b_M_place 14 = .ok (.iconst 4, 1) := by decide +kernel
theorem d_M_place_15 : decode b_M_place 15 = .ok (.if_icmp .ge 7, 3) := by decide +kernel
theorem d_M_place_18 : decode b_M_place 18 = .ok (.iconst 1, 1) := by decide +kernel
theorem d_M_place_19 : decode b_M_place 19 = .ok (.goto 4, 3) := by decide +kernel
theorem d_M_place_22 : decode b_M_place 22 = .ok (.iconst 0, 1) := by decide +kernel
theorem d_M_place_23 : decode b_M_place 23 = .ok (.invokevirtual 93, 3) := by decide +kernel
theorem d_M_place_26 : decode b_M_place 26 = .ok (.ifCond .eq 5, 3) := by decide +kernel
theorem d_M_place_29 : decode b_M_place 29 = .ok (.iconst 0, 1) := by decide +kernel
theorem d_M_place_30 : decode b_M_place 30 = .ok (.ireturn, 1) := by decide +kernel
theorem d_M_place_31 : decode b_M_place 31 = .ok (.aload_n 0, 1) := by decide +kernel
theorem d_M_place_32 : decode b_M_place 32 = .ok (.iconst 0, 1) := by decide +kernel
theorem d_M_place_33 : decode b_M_place 33 = .ok (.putfield 97, 3) := by decide +kernel
theorem d_M_place_36 : decode b_M_place 36 = .ok (.aload_n 0, 1) := by decide +kernel
theorem d_M_place_37 : decode b_M_place 37 = .ok (.getfield 7, 3) := by decide +kernel
theorem d_M_place_40 : decode b_M_place 40 = .ok (.aload_n 0, 1) := by decide +kernel
theorem d_M_place_41 : decode b_M_place 41 = .ok (.getfield 90, 3) := by decide +kernel
theorem d_M_place_44 : decode b_M_place 44 = .ok (.iload_n 1, 1) := by decide +kernel
theorem d_M_place_45 : decode b_M_place 45 = .ok (.iastore, 1) := by decide +kernel
theorem d_M_place_46 : decode b_M_place 46 = .ok (.aload_n 0, 1) := by decide +kernel
theorem d_M_place_47 : decode b_M_place 47 = .ok (.dup, 1) := by decide +kernel
theorem d_M_place_48 : decode b_M_place 48 = .ok (.getfield 90, 3) := by decide +kernel
theorem d_M_place_51 : decode b_M_place 51 = .ok (.iconst 1, 1) := by decide +kernel
theorem d_M_place_52 : decode b_M_place 52 = .ok (.iadd, 1) := by decide +kernel
theorem d_M_place_53 : decode b_M_place 53 = .ok (.putfield 90, 3) := by decide +kernel
theorem d_M_place_56 : decode b_M_place 56 = .ok (.aload_n 0, 1) := by decide +kernel
theorem d_M_place_57 : decode b_M_place 57 = .ok (.getfield 90, 3) := by decide +kernel
theorem d_M_place_60 : decode b_M_place 60 = .ok (.iconst 1, 1) := by decide +kernel
theorem d_M_place_61 : decode b_M_place 61 = .ok (.isub, 1) := by decide +kernel
theorem d_M_place_62 : decode b_M_place 62 = .ok (.ireturn, 1) := by decide +kernel
theorem d_M_closed_0 : decode b_M_closed 0 = .ok (.aload_n 0, 1) := by decide +kernel
theorem d_M_closed_1 : decode b_M_closed 1 = .ok (.iload_n 1, 1) := by decide +kernel
theorem d_M_closed_2 : decode b_M_closed 2 = .ok (.i2l, 1) := by decide +kernel
theorem d_M_closed_3 : decode b_M_closed 3 = .ok (.lconst 0, 1) := by decide +kernel
theorem d_M_closed_4 : decode b_M_closed 4 = .ok (.aload_n 0, 1) := by decide +kernel
theorem d_M_closed_5 : decode b_M_closed 5 = .ok (.getfield 90, 3) := by decide +kernel
theorem d_M_closed_8 : decode b_M_closed 8 = .ok (.iconst 1, 1) := by decide +kernel
theorem d_M_closed_9 : decode b_M_closed 9 = .ok (.isub, 1) := by decide +kernel
theorem d_M_closed_10 : decode b_M_closed 10 = .ok (.i2l, 1) := by decide +kernel
theorem d_M_closed_11 : decode b_M_closed 11 = .ok (.invokestatic 86, 3) := by decide +kernel
theorem d_M_closed_14 : decode b_M_closed 14 = .ok (.ifCond .eq 23, 3) := by decide +kernel
theorem d_M_closed_17 : decode b_M_closed 17 = .ok (.iload_n 2, 1) := by decide +kernel
theorem d_M_closed_18 : decode b_M_closed 18 = .ok (.i2l, 1) := by decide +kernel
theorem d_M_closed_19 : decode b_M_closed 19 = .ok (.lconst 0, 1) := by decide +kernel
theorem d_M_closed_20 : decode b_M_closed 20 = .ok (.aload_n 0, 1) := by decide +kernel
theorem d_M_closed_21 : decode b_M_closed 21 = .ok (.getfield 75, 3) := by decide +kernel
theorem d_M_closed_24 : decode b_M_closed 24 = .ok (.iconst 1, 1) := by decide +kernel
theorem d_M_closed_25 : decode b_M_closed 25 = .ok (.isub, 1) := by decide +kernel
theorem d_M_closed_26 : decode b_M_closed 26 = .ok (.i2l, 1) := by decide +kernel
theorem d_M_closed_27 : decode b_M_closed 27 = .ok (.invokestatic 86, 3) := by decide +kernel
theorem d_M_closed_30 : decode b_M_closed 30 = .ok (.ifCond .eq 7, 3) := by decide +kernel
theorem d_M_closed_33 : decode b_M_closed 33 = .ok (.iconst 1, 1) := by decide +kernel
theorem d_M_closed_34 : decode b_M_closed 34 = .ok (.goto 4, 3) := by decide +kernel
theorem d_M_closed_37 : decode b_M_closed 37 = .ok (.iconst 0, 1) := by decide +kernel
theorem d_M_closed_38 : decode b_M_closed 38 = .ok (.iconst 1, 1) := by decide +kernel
theorem d_M_closed_39 : decode b_M_closed 39 = .ok (.invokevirtual 93, 3) := by decide +kernel
theorem d_M_closed_42 : decode b_M_closed 42 = .ok (.ifCond .eq 5, 3) := by decide +kernel
theorem d_M_closed_45 : decode b_M_closed 45 = .ok (.iconst 0, 1) := by decide +kernel
theorem d_M_closed_46 : decode b_M_closed 46 = .ok (.ireturn, 1) := by decide +kernel
theorem d_M_closed_47 : decode b_M_closed 47 = .ok (.aload_n 0, 1) := by decide +kernel
theorem d_M_closed_48 : decode b_M_closed 48 = .ok (.iconst 0, 1) := by decide +kernel
theorem d_M_closed_49 : decode b_M_closed 49 = .ok (.putfield 97, 3) := by decide +kernel
theorem d_M_closed_52 : decode b_M_closed 52 = .ok (.aload_n 0, 1) := by decide +kernel
theorem d_M_closed_53 : decode b_M_closed 53 = .ok (.getfield 13, 3) := by decide +kernel
theorem d_M_closed_56 : decode b_M_closed 56 = .ok (.bipush 8, 2) := by decide +kernel
theorem d_M_closed_58 : decode b_M_closed 58 = .ok (.iload_n 1, 1) := by decide +kernel
theorem d_M_closed_59 : decode b_M_closed 59 = .ok (.imul, 1) := by decide +kernel
theorem d_M_closed_60 : decode b_M_closed 60 = .ok (.iload_n 2, 1) := by decide +kernel
theorem d_M_closed_61 : decode b_M_closed 61 = .ok (.iadd, 1) := by decide +kernel
theorem d_M_closed_62 : decode b_M_closed 62 = .ok (.baload, 1) := by decide +kernel
theorem d_M_closed_63 : decode b_M_closed 63 = .ok (.istore 4, 2) := by decide +kernel
theorem d_M_closed_65 : decode b_M_closed 65 = .ok (.aload_n 0, 1) := by decide +kernel
theorem d_M_closed_66 : decode b_M_closed 66 = .ok (.getfield 13, 3) := by decide +kernel
theorem d_M_closed_69 : decode b_M_closed 69 = .ok (.bipush 8, 2) := by decide +kernel
theorem d_M_closed_71 : decode b_M_closed 71 = .ok (.iload_n 1, 1) := by decide +kernel
theorem d_M_closed_72 : decode b_M_closed 72 = .ok (.imul, 1) := by decide +kernel
theorem d_M_closed_73 : decode b_M_closed 73 = .ok (.iload_n 2, 1) := by decide +kernel
theorem d_M_closed_74 : decode b_M_closed 74 = .ok (.iadd, 1) := by decide +kernel
theorem d_M_closed_75 : decode b_M_closed 75 = .ok (.iload_n 3, 1) := by decide +kernel
theorem d_M_closed_76 : decode b_M_closed 76 = .ok (.bastore, 1) := by decide +kernel
theorem d_M_closed_77 : decode b_M_closed 77 = .ok (.iload 4, 2) := by decide +kernel
theorem d_M_closed_79 : decode b_M_closed 79 = .ok (.ireturn, 1) := by decide +kernel
theorem d_M_cage_0 : decode b_M_cage 0 = .ok (.aload_n 0, 1) := by decide +kernel
theorem d_M_cage_1 : decode b_M_cage 1 = .ok (.iload_n 1, 1) := by decide +kernel
theorem d_M_cage_2 : decode b_M_cage 2 = .ok (.i2l, 1) := by decide +kernel
theorem d_M_cage_3 : decode b_M_cage 3 = .ok (.lconst 0, 1) := by decide +kernel
theorem d_M_cage_4 : decode b_M_cage 4 = .ok (.aload_n 0, 1) := by decide +kernel
theorem d_M_cage_5 : decode b_M_cage 5 = .ok (.getfield 90, 3) := by decide +kernel
theorem d_M_cage_8 : decode b_M_cage 8 = .ok (.iconst 1, 1) := by decide +kernel
theorem d_M_cage_9 : decode b_M_cage 9 = .ok (.isub, 1) := by decide +kernel
theorem d_M_cage_10 : decode b_M_cage 10 = .ok (.i2l, 1) := by decide +kernel
theorem d_M_cage_11 : decode b_M_cage 11 = .ok (.invokestatic 86, 3) := by decide +kernel
theorem d_M_cage_14 : decode b_M_cage 14 = .ok (.aload_n 0, 1) := by decide +kernel
theorem d_M_cage_15 : decode b_M_cage 15 = .ok (.getfield 101, 3) := by decide +kernel
theorem d_M_cage_18 : decode b_M_cage 18 = .ok (.bipush 6, 2) := by decide +kernel
theorem d_M_cage_20 : decode b_M_cage 20 = .ok (.if_icmp .ge 7, 3) := by decide +kernel
theorem d_M_cage_23 : decode b_M_cage 23 = .ok (.iconst 1, 1) := by decide +kernel
theorem d_M_cage_24 : decode b_M_cage 24 = .ok (.goto 4, 3) := by decide +kernel
theorem d_M_cage_27 : decode b_M_cage 27 = .ok (.iconst 0, 1) := by decide +kernel
theorem d_M_cage_28 : decode b_M_cage 28 = .ok (.invokevirtual 93, 3) := by decide +kernel
theorem d_M_cage_31 : decode b_M_cage 31 = .ok (.ifCond .eq 5, 3) := by decide +kernel
theorem d_M_cage_34 : decode b_M_cage 34 = .ok (.iconst 0, 1) := by decide +kernel
theorem d_M_cage_35 : decode b_M_cage 35 = .ok (.ireturn, 1) := by decide +kernel
theorem d_M_cage_36 : decode b_M_cage 36 = .ok (.aload_n 0, 1) := by decide +kernel
theorem d_M_cage_37 : decode b_M_cage 37 = .ok (.iconst 0, 1) := by decide +kernel
theorem d_M_cage_38 : decode b_M_cage 38 = .ok (.putfield 97, 3) := by decide +kernel
theorem d_M_cage_41 : decode b_M_cage 41 = .ok (.aload_n 0, 1) := by decide +kernel
theorem d_M_cage_42 : decode b_M_cage 42 = .ok (.getfield 17, 3) := by decide +kernel
theorem d_M_cage_45 : decode b_M_cage 45 = .ok (.aload_n 0, 1) := by decide +kernel
theorem d_M_cage_46 : decode b_M_cage 46 = .ok (.getfield 101, 3) := by decide +kernel
theorem d_M_cage_49 : decode b_M_cage 49 = .ok (.iload_n 1, 1) := by decide +kernel
theorem d_M_cage_50 : decode b_M_cage 50 = .ok (.iastore, 1) := by decide +kernel
theorem d_M_cage_51 : decode b_M_cage 51 = .ok (.aload_n 0, 1) := by decide +kernel
theorem d_M_cage_52 : decode b_M_cage 52 = .ok (.dup, 1) := by decide +kernel
theorem d_M_cage_53 : decode b_M_cage 53 = .ok (.getfield 101, 3) := by decide +kernel
theorem d_M_cage_56 : decode b_M_cage 56 = .ok (.iconst 1, 1) := by decide +kernel
theorem d_M_cage_57 : decode b_M_cage 57 = .ok (.iadd, 1) := by decide +kernel
theorem d_M_cage_58 : decode b_M_cage 58 = .ok (.putfield 101, 3) := by decide +kernel
theorem d_M_cage_61 : decode b_M_cage 61 = .ok (.aload_n 0, 1) := by decide +kernel
theorem d_M_cage_62 : decode b_M_cage 62 = .ok (.getfield 101, 3) := by decide +kernel
theorem d_M_cage_65 : decode b_M_cage 65 = .ok (.iconst 1, 1) := by decide +kernel
theorem d_M_cage_66 : decode b_M_cage 66 = .ok (.isub, 1) := by decide +kernel
theorem d_M_cage_67 : decode b_M_cage 67 = .ok (.ireturn, 1) := by decide +kernel
theorem d_M_size_0 : decode b_M_size 0 = .ok (.aload_n 0, 1) := by decide +kernel
theorem d_M_size_1 : decode b_M_size 1 = .ok (.iload_n 1, 1) := by decide +kernel
theorem d_M_size_2 : decode b_M_size 2 = .ok (.i2l, 1) := by decide +kernel
theorem d_M_size_3 : decode b_M_size 3 = .ok (.lconst 0, 1) := by decide +kernel
theorem d_M_size_4 : decode b_M_size 4 = .ok (.aload_n 0, 1) := by decide +kernel
theorem d_M_size_5 : decode b_M_size 5 = .ok (.getfield 101, 3) := by decide +kernel
theorem d_M_size_8 : decode b_M_size 8 = .ok (.iconst 1, 1) := by decide +kernel
theorem d_M_size_9 : decode b_M_size 9 = .ok (.isub, 1) := by decide +kernel
theorem d_M_size_10 : decode b_M_size 10 = .ok (.i2l, 1) := by decide +kernel
theorem d_M_size_11 : decode b_M_size 11 = .ok (.invokestatic 86, 3) := by decide +kernel
theorem d_M_size_14 : decode b_M_size 14 = .ok (.ifCond .eq 48, 3) := by decide +kernel
theorem d_M_size_17 : decode b_M_size 17 = .ok (.iload_n 2, 1) := by decide +kernel
theorem d_M_size_18 : decode b_M_size 18 = .ok (.i2l, 1) := by decide +kernel
theorem d_M_size_19 : decode b_M_size 19 = .ok (.lconst 0, 1) := by decide +kernel
theorem d_M_size_20 : decode b_M_size 20 = .ok (.aload_n 0, 1) := by decide +kernel
theorem d_M_size_21 : decode b_M_size 21 = .ok (.getfield 75, 3) := by decide +kernel
theorem d_M_size_24 : decode b_M_size 24 = .ok (.iconst 1, 1) := by decide +kernel
theorem d_M_size_25 : decode b_M_size 25 = .ok (.isub, 1) := by decide +kernel
theorem d_M_size_26 : decode b_M_size 26 = .ok (.i2l, 1) := by decide +kernel
theorem d_M_size_27 : decode b_M_size 27 = .ok (.invokestatic 86, 3) := by decide +kernel
theorem d_M_size_30 : decode b_M_size 30 = .ok (.ifCond .eq 32, 3) := by decide +kernel
theorem d_M_size_33 : decode b_M_size 33 = .ok (.iload_n 3, 1) := by decide +kernel
theorem d_M_size_34 : decode b_M_size 34 = .ok (.i2l, 1) := by decide +kernel
theorem d_M_size_35 : decode b_M_size 35 = .ok (.lconst 0, 1) := by decide +kernel
theorem d_M_size_36 : decode b_M_size 36 = .ok (.ldc2_w 104, 3) := by decide +kernel
theorem d_M_size_39 : decode b_M_size 39 = .ok (.invokestatic 86, 3) := by decide +kernel
theorem d_M_size_42 : decode b_M_size 42 = .ok (.ifCond .eq 20, 3) := by decide +kernel
theorem d_M_size_45 : decode b_M_size 45 = .ok (.iload 4, 2) := by decide +kernel
theorem d_M_size_47 : decode b_M_size 47 = .ok (.i2l, 1) := by decide +kernel
theorem d_M_size_48 : decode b_M_size 48 = .ok (.lconst 0, 1) := by decide +kernel
theorem d_M_size_49 : decode b_M_size 49 = .ok (.ldc2_w 106, 3) := by decide +kernel
theorem d_M_size_52 : decode b_M_size 52 = .ok (.invokestatic 86, 3) := by decide +kernel
theorem d_M_size_55 : decode b_M_size 55 = .ok (.ifCond .eq 7, 3) := by decide +kernel
theorem d_M_size_58 : decode b_M_size 58 = .ok (.iconst 1, 1) := by decide +kernel
theorem d_M_size_59 : decode b_M_size 59 = .ok (.goto 4, 3) := by decide +kernel
theorem d_M_size_62 : decode b_M_size 62 = .ok (.iconst 0, 1) := by decide +kernel
theorem d_M_size_63 : decode b_M_size 63 = .ok (.iconst 1, 1) := by decide +kernel
theorem d_M_size_64 : decode b_M_size 64 = .ok (.invokevirtual 93, 3) := by decide +kernel
theorem d_M_size_67 : decode b_M_size 67 = .ok (.ifCond .eq 5, 3) := by decide +kernel
theorem d_M_size_70 : decode b_M_size 70 = .ok (.iconst 0, 1) := by decide +kernel
theorem d_M_size_71 : decode b_M_size 71 = .ok (.ireturn, 1) := by decide +kernel
theorem d_M_size_72 : decode b_M_size 72 = .ok (.aload_n 0, 1) := by decide +kernel
theorem d_M_size_73 : decode b_M_size 73 = .ok (.iconst 0, 1) := by decide +kernel
theorem d_M_size_74 : decode b_M_size 74 = .ok (.putfield 97, 3) := by decide +kernel
theorem d_M_size_77 : decode b_M_size 77 = .ok (.aload_n 0, 1) := by decide +kernel
theorem d_M_size_78 : decode b_M_size 78 = .ok (.getfield 20, 3) := by decide +kernel
theorem d_M_size_81 : decode b_M_size 81 = .ok (.bipush 8, 2) := by decide +kernel
theorem d_M_size_83 : decode b_M_size 83 = .ok (.iload_n 1, 1) := by decide +kernel
theorem d_M_size_84 : decode b_M_size 84 = .ok (.imul, 1) := by decide +kernel
theorem d_M_size_85 : decode b_M_size 85 = .ok (.iload_n 2, 1) := by decide +kernel
theorem d_M_size_86 : decode b_M_size 86 = .ok (.iadd, 1) := by decide +kernel
theorem d_M_size_87 : decode b_M_size 87 = .ok (.iload_n 3, 1) := by decide +kernel
theorem d_M_size_88 : decode b_M_size 88 = .ok (.iastore, 1) := by decide +kernel
theorem d_M_size_89 : decode b_M_size 89 = .ok (.aload_n 0, 1) := by decide +kernel
theorem d_M_size_90 : decode b_M_size 90 = .ok (.getfield 23, 3) := by decide +kernel
theorem d_M_size_93 : decode b_M_size 93 = .ok (.bipush 8, 2) := by decide +kernel
theorem d_M_size_95 : decode b_M_size 95 = .ok (.iload_n 1, 1) := by decide +kernel
theorem d_M_size_96 : decode b_M_size 96 = .ok (.imul, 1) := by decide +kernel
theorem d_M_size_97 : decode b_M_size 97 = .ok (.iload_n 2, 1) := by decide +kernel
theorem d_M_size_98 : decode b_M_size 98 = .ok (.iadd, 1) := by decide +kernel
theorem d_M_size_99 : decode b_M_size 99 = .ok (.iload 4, 2) := by decide +kernel
theorem d_M_size_101 : decode b_M_size 101 = .ok (.iastore, 1) := by decide +kernel
theorem d_M_size_102 : decode b_M_size 102 = .ok (.aload_n 0, 1) := by decide +kernel
theorem d_M_size_103 : decode b_M_size 103 = .ok (.iload_n 1, 1) := by decide +kernel
theorem d_M_size_104 : decode b_M_size 104 = .ok (.iload_n 2, 1) := by decide +kernel
theorem d_M_size_105 : decode b_M_size 105 = .ok (.invokevirtual 108, 3) := by decide +kernel
theorem d_M_size_108 : decode b_M_size 108 = .ok (.l2i, 1) := by decide +kernel
theorem d_M_size_109 : decode b_M_size 109 = .ok (.ireturn, 1) := by decide +kernel
theorem d_M_boat_0 : decode b_M_boat 0 = .ok (.aload_n 0, 1) := by decide +kernel
theorem d_M_boat_1 : decode b_M_boat 1 = .ok (.iload_n 1, 1) := by decide +kernel
theorem d_M_boat_2 : decode b_M_boat 2 = .ok (.i2l, 1) := by decide +kernel
theorem d_M_boat_3 : decode b_M_boat 3 = .ok (.lconst 0, 1) := by decide +kernel
theorem d_M_boat_4 : decode b_M_boat 4 = .ok (.ldc2_w 84, 3) := by decide +kernel
theorem d_M_boat_7 : decode b_M_boat 7 = .ok (.invokestatic 86, 3) := by decide +kernel
theorem d_M_boat_10 : decode b_M_boat 10 = .ok (.aload_n 0, 1) := by decide +kernel
theorem d_M_boat_11 : decode b_M_boat 11 = .ok (.getfield 112, 3) := by decide +kernel
theorem d_M_boat_14 : decode b_M_boat 14 = .ok (.iconst 3, 1) := by decide +kernel
theorem d_M_boat_15 : decode b_M_boat 15 = .ok (.if_icmp .ge 7, 3) := by decide +kernel
theorem d_M_boat_18 : decode b_M_boat 18 = .ok (.iconst 1, 1) := by decide +kernel
theorem d_M_boat_19 : decode b_M_boat 19 = .ok (.goto 4, 3) := by decide +kernel
theorem d_M_boat_22 : decode b_M_boat 22 = .ok (.iconst 0, 1) := by decide +kernel
theorem d_M_boat_23 : decode b_M_boat 23 = .ok (.invokevirtual 93, 3) := by decide +kernel
theorem d_M_boat_26 : decode b_M_boat 26 = .ok (.ifCond .eq 5, 3) := by decide +kernel
theorem d_M_boat_29 : decode b_M_boat 29 = .ok (.iconst 0, 1) := by decide +kernel
theorem d_M_boat_30 : decode b_M_boat 30 = .ok (.ireturn, 1) := by decide +kernel
theorem d_M_boat_31 : decode b_M_boat 31 = .ok (.aload_n 0, 1) := by decide +kernel
theorem d_M_boat_32 : decode b_M_boat 32 = .ok (.iconst 0, 1) := by decide +kernel
theorem d_M_boat_33 : decode b_M_boat 33 = .ok (.putfield 97, 3) := by decide +kernel
theorem d_M_boat_36 : decode b_M_boat 36 = .ok (.aload_n 0, 1) := by decide +kernel
theorem d_M_boat_37 : decode b_M_boat 37 = .ok (.getfield 26, 3) := by decide +kernel
theorem d_M_boat_40 : decode b_M_boat 40 = .ok (.aload_n 0, 1) := by decide +kernel
theorem d_M_boat_41 : decode b_M_boat 41 = .ok (.getfield 112, 3) := by decide +kernel
theorem d_M_boat_44 : decode b_M_boat 44 = .ok (.iload_n 1, 1) := by decide +kernel
theorem d_M_boat_45 : decode b_M_boat 45 = .ok (.iastore, 1) := by decide +kernel
theorem d_M_boat_46 : decode b_M_boat 46 = .ok (.aload_n 0, 1) := by decide +kernel
theorem d_M_boat_47 : decode b_M_boat 47 = .ok (.dup, 1) := by decide +kernel
theorem d_M_boat_48 : decode b_M_boat 48 = .ok (.getfield 112, 3) := by decide +kernel
theorem d_M_boat_51 : decode b_M_boat 51 = .ok (.iconst 1, 1) := by decide +kernel
theorem d_M_boat_52 : decode b_M_boat 52 = .ok (.iadd, 1) := by decide +kernel
theorem d_M_boat_53 : decode b_M_boat 53 = .ok (.putfield 112, 3) := by decide +kernel
theorem d_M_boat_56 : decode b_M_boat 56 = .ok (.aload_n 0, 1) := by decide +kernel
theorem d_M_boat_57 : decode b_M_boat 57 = .ok (.getfield 112, 3) := by decide +kernel
theorem d_M_boat_60 : decode b_M_boat 60 = .ok (.iconst 1, 1) := by decide +kernel
theorem d_M_boat_61 : decode b_M_boat 61 = .ok (.isub, 1) := by decide +kernel
theorem d_M_boat_62 : decode b_M_boat 62 = .ok (.ireturn, 1) := by decide +kernel
theorem d_M_weather_0 : decode b_M_weather 0 = .ok (.aload_n 0, 1) := by decide +kernel
theorem d_M_weather_1 : decode b_M_weather 1 = .ok (.iload_n 1, 1) := by decide +kernel
theorem d_M_weather_2 : decode b_M_weather 2 = .ok (.i2l, 1) := by decide +kernel
theorem d_M_weather_3 : decode b_M_weather 3 = .ok (.lconst 0, 1) := by decide +kernel
theorem d_M_weather_4 : decode b_M_weather 4 = .ok (.aload_n 0, 1) := by decide +kernel
theorem d_M_weather_5 : decode b_M_weather 5 = .ok (.getfield 112, 3) := by decide +kernel
theorem d_M_weather_8 : decode b_M_weather 8 = .ok (.iconst 1, 1) := by decide +kernel
theorem d_M_weather_9 : decode b_M_weather 9 = .ok (.isub, 1) := by decide +kernel
theorem d_M_weather_10 : decode b_M_weather 10 = .ok (.i2l, 1) := by decide +kernel
theorem d_M_weather_11 : decode b_M_weather 11 = .ok (.invokestatic 86, 3) := by decide +kernel
theorem d_M_weather_14 : decode b_M_weather 14 = .ok (.ifCond .eq 23, 3) := by decide +kernel
theorem d_M_weather_17 : decode b_M_weather 17 = .ok (.iload_n 2, 1) := by decide +kernel
theorem d_M_weather_18 : decode b_M_weather 18 = .ok (.i2l, 1) := by decide +kernel
theorem d_M_weather_19 : decode b_M_weather 19 = .ok (.lconst 0, 1) := by decide +kernel
theorem d_M_weather_20 : decode b_M_weather 20 = .ok (.aload_n 0, 1) := by decide +kernel
theorem d_M_weather_21 : decode b_M_weather 21 = .ok (.getfield 75, 3) := by decide +kernel
theorem d_M_weather_24 : decode b_M_weather 24 = .ok (.iconst 1, 1) := by decide +kernel
theorem d_M_weather_25 : decode b_M_weather 25 = .ok (.isub, 1) := by decide +kernel
theorem d_M_weather_26 : decode b_M_weather 26 = .ok (.i2l, 1) := by decide +kernel
theorem d_M_weather_27 : decode b_M_weather 27 = .ok (.invokestatic 86, 3) := by decide +kernel
theorem d_M_weather_30 : decode b_M_weather 30 = .ok (.ifCond .eq 7, 3) := by decide +kernel
theorem d_M_weather_33 : decode b_M_weather 33 = .ok (.iconst 1, 1) := by decide +kernel
theorem d_M_weather_34 : decode b_M_weather 34 = .ok (.goto 4, 3) := by decide +kernel
theorem d_M_weather_37 : decode b_M_weather 37 = .ok (.iconst 0, 1) := by decide +kernel
theorem d_M_weather_38 : decode b_M_weather 38 = .ok (.iconst 1, 1) := by decide +kernel
theorem d_M_weather_39 : decode b_M_weather 39 = .ok (.invokevirtual 93, 3) := by decide +kernel
theorem d_M_weather_42 : decode b_M_weather 42 = .ok (.ifCond .eq 5, 3) := by decide +kernel
theorem d_M_weather_45 : decode b_M_weather 45 = .ok (.iconst 0, 1) := by decide +kernel
theorem d_M_weather_46 : decode b_M_weather 46 = .ok (.ireturn, 1) := by decide +kernel
theorem d_M_weather_47 : decode b_M_weather 47 = .ok (.aload_n 0, 1) := by decide +kernel
theorem d_M_weather_48 : decode b_M_weather 48 = .ok (.iconst 0, 1) := by decide +kernel
theorem d_M_weather_49 : decode b_M_weather 49 = .ok (.putfield 97, 3) := by decide +kernel
theorem d_M_weather_52 : decode b_M_weather 52 = .ok (.aload_n 0, 1) := by decide +kernel
theorem d_M_weather_53 : decode b_M_weather 53 = .ok (.getfield 29, 3) := by decide +kernel
theorem d_M_weather_56 : decode b_M_weather 56 = .ok (.bipush 8, 2) := by decide +kernel
theorem d_M_weather_58 : decode b_M_weather 58 = .ok (.iload_n 1, 1) := by decide +kernel
theorem d_M_weather_59 : decode b_M_weather 59 = .ok (.imul, 1) := by decide +kernel
theorem d_M_weather_60 : decode b_M_weather 60 = .ok (.iload_n 2, 1) := by decide +kernel
theorem d_M_weather_61 : decode b_M_weather 61 = .ok (.iadd, 1) := by decide +kernel
theorem d_M_weather_62 : decode b_M_weather 62 = .ok (.baload, 1) := by decide +kernel
theorem d_M_weather_63 : decode b_M_weather 63 = .ok (.istore 4, 2) := by decide +kernel
theorem d_M_weather_65 : decode b_M_weather 65 = .ok (.aload_n 0, 1) := by decide +kernel
theorem d_M_weather_66 : decode b_M_weather 66 = .ok (.getfield 29, 3) := by decide +kernel
theorem d_M_weather_69 : decode b_M_weather 69 = .ok (.bipush 8, 2) := by decide +kernel
theorem d_M_weather_71 : decode b_M_weather 71 = .ok (.iload_n 1, 1) := by decide +kernel
theorem d_M_weather_72 : decode b_M_weather 72 = .ok (.imul, 1) := by decide +kernel
theorem d_M_weather_73 : decode b_M_weather 73 = .ok (.iload_n 2, 1) := by decide +kernel
theorem d_M_weather_74 : decode b_M_weather 74 = .ok (.iadd, 1) := by decide +kernel
theorem d_M_weather_75 : decode b_M_weather 75 = .ok (.iload_n 3, 1) := by decide +kernel
theorem d_M_weather_76 : decode b_M_weather 76 = .ok (.bastore, 1) := by decide +kernel
theorem d_M_weather_77 : decode b_M_weather 77 = .ok (.iload 4, 2) := by decide +kernel
theorem d_M_weather_79 : decode b_M_weather 79 = .ok (.ireturn, 1) := by decide +kernel
theorem d_M_plant_0 : decode b_M_plant 0 = .ok (.aload_n 0, 1) := by decide +kernel
theorem d_M_plant_1 : decode b_M_plant 1 = .ok (.iload_n 1, 1) := by decide +kernel
theorem d_M_plant_2 : decode b_M_plant 2 = .ok (.i2l, 1) := by decide +kernel
theorem d_M_plant_3 : decode b_M_plant 3 = .ok (.lconst 0, 1) := by decide +kernel
theorem d_M_plant_4 : decode b_M_plant 4 = .ok (.aload_n 0, 1) := by decide +kernel
theorem d_M_plant_5 : decode b_M_plant 5 = .ok (.getfield 75, 3) := by decide +kernel
theorem d_M_plant_8 : decode b_M_plant 8 = .ok (.iconst 1, 1) := by decide +kernel
theorem d_M_plant_9 : decode b_M_plant 9 = .ok (.isub, 1) := by decide +kernel
theorem d_M_plant_10 : decode b_M_plant 10 = .ok (.i2l, 1) := by decide +kernel
theorem d_M_plant_11 : decode b_M_plant 11 = .ok (.invokestatic 86, 3) := by decide +kernel
theorem d_M_plant_14 : decode b_M_plant 14 = .ok (.ifCond .eq 19, 3) := by decide +kernel
theorem d_M_plant_17 : decode b_M_plant 17 = .ok (.iload_n 2, 1) := by decide +kernel
theorem d_M_plant_18 : decode b_M_plant 18 = .ok (.i2l, 1) := by decide +kernel
theorem d_M_plant_19 : decode b_M_plant 19 = .ok (.lconst 0, 1) := by decide +kernel
theorem d_M_plant_20 : decode b_M_plant 20 = .ok (.ldc2_w 84, 3) := by decide +kernel
theorem d_M_plant_23 : decode b_M_plant 23 = .ok (.invokestatic 86, 3) := by decide +kernel
theorem d_M_plant_26 : decode b_M_plant 26 = .ok (.ifCond .eq 7, 3) := by decide +kernel
theorem d_M_plant_29 : decode b_M_plant 29 = .ok (.iconst 1, 1) := by decide +kernel
theorem d_M_plant_30 : decode b_M_plant 30 = .ok (.goto 4, 3) := by decide +kernel
theorem d_M_plant_33 : decode b_M_plant 33 = .ok (.iconst 0, 1) := by decide +kernel
theorem d_M_plant_34 : decode b_M_plant 34 = .ok (.iconst 1, 1) := by decide +kernel
theorem d_M_plant_35 : decode b_M_plant 35 = .ok (.invokevirtual 93, 3) := by decide +kernel
theorem d_M_plant_38 : decode b_M_plant 38 = .ok (.ifCond .eq 5, 3) := by decide +kernel
theorem d_M_plant_41 : decode b_M_plant 41 = .ok (.iconst 0, 1) := by decide +kernel
theorem d_M_plant_42 : decode b_M_plant 42 = .ok (.ireturn, 1) := by decide +kernel
theorem d_M_plant_43 : decode b_M_plant 43 = .ok (.aload_n 0, 1) := by decide +kernel
theorem d_M_plant_44 : decode b_M_plant 44 = .ok (.iconst 0, 1) := by decide +kernel
theorem d_M_plant_45 : decode b_M_plant 45 = .ok (.putfield 97, 3) := by decide +kernel
theorem d_M_plant_48 : decode b_M_plant 48 = .ok (.aload_n 0, 1) := by decide +kernel
theorem d_M_plant_49 : decode b_M_plant 49 = .ok (.getfield 32, 3) := by decide +kernel
theorem d_M_plant_52 : decode b_M_plant 52 = .ok (.iload_n 1, 1) := by decide +kernel
theorem d_M_plant_53 : decode b_M_plant 53 = .ok (.iaload, 1) := by decide +kernel
theorem d_M_plant_54 : decode b_M_plant 54 = .ok (.istore_n 3, 1) := by decide +kernel
theorem d_M_plant_55 : decode b_M_plant 55 = .ok (.aload_n 0, 1) := by decide +kernel
theorem d_M_plant_56 : decode b_M_plant 56 = .ok (.getfield 32, 3) := by decide +kernel
theorem d_M_plant_59 : decode b_M_plant 59 = .ok (.iload_n 1, 1) := by decide +kernel
theorem d_M_plant_60 : decode b_M_plant 60 = .ok (.iload_n 2, 1) := by decide +kernel
theorem d_M_plant_61 : decode b_M_plant 61 = .ok (.iastore, 1) := by decide +kernel
theorem d_M_plant_62 : decode b_M_plant 62 = .ok (.iload_n 3, 1) := by decide +kernel
theorem d_M_plant_63 : decode b_M_plant 63 = .ok (.ireturn, 1) := by decide +kernel
theorem d_M_order_0 : decode b_M_order 0 = .ok (.iload_n 1, 1) := by decide +kernel
theorem d_M_order_1 : decode b_M_order 1 = .ok (.i2l, 1) := by decide +kernel
theorem d_M_order_2 : decode b_M_order 2 = .ok (.lconst 0, 1) := by decide +kernel
theorem d_M_order_3 : decode b_M_order 3 = .ok (.aload_n 0, 1) := by decide +kernel
theorem d_M_order_4 : decode b_M_order 4 = .ok (.getfield 75, 3) := by decide +kernel
theorem d_M_order_7 : decode b_M_order 7 = .ok (.iconst 1, 1) := by decide +kernel
theorem d_M_order_8 : decode b_M_order 8 = .ok (.isub, 1) := by decide +kernel
theorem d_M_order_9 : decode b_M_order 9 = .ok (.i2l, 1) := by decide +kernel
theorem d_M_order_10 : decode b_M_order 10 = .ok (.invokestatic 86, 3) := by decide +kernel
theorem d_M_order_13 : decode b_M_order 13 = .ok (.ifCond .eq 62, 3) := by decide +kernel
theorem d_M_order_16 : decode b_M_order 16 = .ok (.iload_n 2, 1) := by decide +kernel
theorem d_M_order_17 : decode b_M_order 17 = .ok (.i2l, 1) := by decide +kernel
theorem d_M_order_18 : decode b_M_order 18 = .ok (.lconst 0, 1) := by decide +kernel
theorem d_M_order_19 : decode b_M_order 19 = .ok (.ldc2_w 104, 3) := by decide +kernel
theorem d_M_order_22 : decode b_M_order 22 = .ok (.invokestatic 86, 3) := by decide +kernel
theorem d_M_order_25 : decode b_M_order 25 = .ok (.ifCond .eq 50, 3) := by decide +kernel
theorem d_M_order_28 : decode b_M_order 28 = .ok (.iload_n 3, 1) := by decide +kernel
theorem d_M_order_29 : decode b_M_order 29 = .ok (.i2l, 1) := by decide +kernel
theorem d_M_order_30 : decode b_M_order 30 = .ok (.lconst 0, 1) := by decide +kernel
theorem d_M_order_31 : decode b_M_order 31 = .ok (.ldc2_w 104, 3) := by decide +kernel
theorem d_M_order_34 : decode b_M_order 34 = .ok (.invokestatic 86, 3) := by decide +kernel
theorem d_M_order_37 : decode b_M_order 37 = .ok (.ifCond .eq 38, 3) := by decide +kernel
theorem d_M_order_40 : decode b_M_order 40 = .ok (.iload_n 2, 1) := by decide +kernel
theorem d_M_order_41 : decode b_M_order 41 = .ok (.iload_n 3, 1) := by decide +kernel
theorem d_M_order_42 : decode b_M_order 42 = .ok (.if_icmp .gt 33, 3) := by decide +kernel
theorem d_M_order_45 : decode b_M_order 45 = .ok (.iload 4, 2) := by decide +kernel
theorem d_M_order_47 : decode b_M_order 47 = .ok (.i2l, 1) := by decide +kernel
theorem d_M_order_48 : decode b_M_order 48 = .ok (.lconst 0, 1) := by decide +kernel
theorem d_M_order_49 : decode b_M_order 49 = .ok (.ldc2_w 84, 3) := by decide +kernel
theorem d_M_order_52 : decode b_M_order 52 = .ok (.invokestatic 86, 3) := by decide +kernel
theorem d_M_order_55 : decode b_M_order 55 = .ok (.ifCond .eq 20, 3) := by decide +kernel
theorem d_M_order_58 : decode b_M_order 58 = .ok (.iload 5, 2) := by decide +kernel
theorem d_M_order_60 : decode b_M_order 60 = .ok (.i2l, 1) := by decide +kernel
theorem d_M_order_61 : decode b_M_order 61 = .ok (.lconst 0, 1) := by decide +kernel
theorem d_M_order_62 : decode b_M_order 62 = .ok (.ldc2_w 115, 3) := by decide +kernel
theorem d_M_order_65 : decode b_M_order 65 = .ok (.invokestatic 86, 3) := by decide +kernel
theorem d_M_order_68 : decode b_M_order 68 = .ok (.ifCond .eq 7, 3) := by decide +kernel
theorem d_M_order_71 : decode b_M_order 71 = .ok (.iconst 1, 1) := by decide +kernel
theorem d_M_order_72 : decode b_M_order 72 = .ok (.goto 4, 3) := by decide +kernel
theorem d_M_order_75 : decode b_M_order 75 = .ok (.iconst 0, 1) := by decide +kernel
theorem d_M_order_76 : decode b_M_order 76 = .ok (.istore 6, 2) := by decide +kernel
theorem d_M_order_78 : decode b_M_order 78 = .ok (.aload_n 0, 1) := by decide +kernel
theorem d_M_order_79 : decode b_M_order 79 = .ok (.iload 6, 2) := by decide +kernel
theorem d_M_order_81 : decode b_M_order 81 = .ok (.aload_n 0, 1) := by decide +kernel
theorem d_M_order_82 : decode b_M_order 82 = .ok (.getfield 117, 3) := by decide +kernel
theorem d_M_order_85 : decode b_M_order 85 = .ok (.bipush 6, 2) := by decide +kernel
theorem d_M_order_87 : decode b_M_order 87 = .ok (.if_icmp .ge 7, 3) := by decide +kernel
theorem d_M_order_90 : decode b_M_order 90 = .ok (.iconst 1, 1) := by decide +kernel
theorem d_M_order_91 : decode b_M_order 91 = .ok (.goto 4, 3) := by decide +kernel
theorem d_M_order_94 : decode b_M_order 94 = .ok (.iconst 0, 1) := by decide +kernel
theorem d_M_order_95 : decode b_M_order 95 = .ok (.invokevirtual 93, 3) := by decide +kernel
theorem d_M_order_98 : decode b_M_order 98 = .ok (.ifCond .eq 5, 3) := by decide +kernel
theorem d_M_order_101 : decode b_M_order 101 = .ok (.iconst 0, 1) := by decide +kernel
theorem d_M_order_102 : decode b_M_order 102 = .ok (.ireturn, 1) := by decide +kernel
theorem d_M_order_103 : decode b_M_order 103 = .ok (.aload_n 0, 1) := by decide +kernel
theorem d_M_order_104 : decode b_M_order 104 = .ok (.iconst 0, 1) := by decide +kernel
theorem d_M_order_105 : decode b_M_order 105 = .ok (.putfield 97, 3) := by decide +kernel
theorem d_M_order_108 : decode b_M_order 108 = .ok (.aload_n 0, 1) := by decide +kernel
theorem d_M_order_109 : decode b_M_order 109 = .ok (.getfield 35, 3) := by decide +kernel
theorem d_M_order_112 : decode b_M_order 112 = .ok (.aload_n 0, 1) := by decide +kernel
theorem d_M_order_113 : decode b_M_order 113 = .ok (.getfield 117, 3) := by decide +kernel
theorem d_M_order_116 : decode b_M_order 116 = .ok (.iload_n 1, 1) := by decide +kernel
theorem d_M_order_117 : decode b_M_order 117 = .ok (.iastore, 1) := by decide +kernel
theorem d_M_order_118 : decode b_M_order 118 = .ok (.aload_n 0, 1) := by decide +kernel
theorem d_M_order_119 : decode b_M_order 119 = .ok (.getfield 38, 3) := by decide +kernel
theorem d_M_order_122 : decode b_M_order 122 = .ok (.aload_n 0, 1) := by decide +kernel
theorem d_M_order_123 : decode b_M_order 123 = .ok (.getfield 117, 3) := by decide +kernel
theorem d_M_order_126 : decode b_M_order 126 = .ok (.iload_n 2, 1) := by decide +kernel
theorem d_M_order_127 : decode b_M_order 127 = .ok (.iastore, 1) := by decide +kernel
theorem d_M_order_128 : decode b_M_order 128 = .ok (.aload_n 0, 1) := by decide +kernel
theorem d_M_order_129 : decode b_M_order 129 = .ok (.getfield 41, 3) := by decide +kernel
theorem d_M_order_132 : decode b_M_order 132 = .ok (.aload_n 0, 1) := by decide +kernel
theorem d_M_order_133 : decode b_M_order 133 = .ok (.getfield 117, 3) := by decide +kernel
theorem d_M_order_136 : decode b_M_order 136 = .ok (.iload_n 3, 1) := by decide +kernel
theorem d_M_order_137 : decode b_M_order 137 = .ok (.iastore, 1) := by decide +kernel
theorem d_M_order_138 : decode b_M_order 138 = .ok (.aload_n 0, 1) := by decide +kernel
theorem d_M_order_139 : decode b_M_order 139 = .ok (.getfield 44, 3) := by decide +kernel
theorem d_M_order_142 : decode b_M_order 142 = .ok (.aload_n 0, 1) := by decide +kernel
theorem d_M_order_143 : decode b_M_order 143 = .ok (.getfield 117, 3) := by decide +kernel
theorem d_M_order_146 : decode b_M_order 146 = .ok (.iload 4, 2) := by decide +kernel
theorem d_M_order_148 : decode b_M_order 148 = .ok (.iastore, 1) := by decide +kernel
theorem d_M_order_149 : decode b_M_order 149 = .ok (.aload_n 0, 1) := by decide +kernel
theorem d_M_order_150 : decode b_M_order 150 = .ok (.getfield 47, 3) := by decide +kernel
theorem d_M_order_153 : decode b_M_order 153 = .ok (.aload_n 0, 1) := by decide +kernel
theorem d_M_order_154 : decode b_M_order 154 = .ok (.getfield 117, 3) := by decide +kernel
theorem d_M_order_157 : decode b_M_order 157 = .ok (.iload 5, 2) := by decide +kernel
theorem d_M_order_159 : decode b_M_order 159 = .ok (.iastore, 1) := by decide +kernel
theorem d_M_order_160 : decode b_M_order 160 = .ok (.aload_n 0, 1) := by decide +kernel
theorem d_M_order_161 : decode b_M_order 161 = .ok (.dup, 1) := by decide +kernel
theorem d_M_order_162 : decode b_M_order 162 = .ok (.getfield 117, 3) := by decide +kernel
theorem d_M_order_165 : decode b_M_order 165 = .ok (.iconst 1, 1) := by decide +kernel
theorem d_M_order_166 : decode b_M_order 166 = .ok (.iadd, 1) := by decide +kernel
theorem d_M_order_167 : decode b_M_order 167 = .ok (.putfield 117, 3) := by decide +kernel
theorem d_M_order_170 : decode b_M_order 170 = .ok (.aload_n 0, 1) := by decide +kernel
theorem d_M_order_171 : decode b_M_order 171 = .ok (.getfield 117, 3) := by decide +kernel
theorem d_M_order_174 : decode b_M_order 174 = .ok (.iconst 1, 1) := by decide +kernel
theorem d_M_order_175 : decode b_M_order 175 = .ok (.isub, 1) := by decide +kernel
theorem d_M_order_176 : decode b_M_order 176 = .ok (.ireturn, 1) := by decide +kernel
theorem d_M_prices_0 : decode b_M_prices 0 = .ok (.aload_n 0, 1) := by decide +kernel
theorem d_M_prices_1 : decode b_M_prices 1 = .ok (.iload_n 1, 1) := by decide +kernel
theorem d_M_prices_2 : decode b_M_prices 2 = .ok (.i2l, 1) := by decide +kernel
theorem d_M_prices_3 : decode b_M_prices 3 = .ok (.lconst 0, 1) := by decide +kernel
theorem d_M_prices_4 : decode b_M_prices 4 = .ok (.ldc2_w 115, 3) := by decide +kernel
theorem d_M_prices_7 : decode b_M_prices 7 = .ok (.invokestatic 86, 3) := by decide +kernel
theorem d_M_prices_10 : decode b_M_prices 10 = .ok (.ifCond .eq 19, 3) := by decide +kernel
theorem d_M_prices_13 : decode b_M_prices 13 = .ok (.iload_n 2, 1) := by decide +kernel
theorem d_M_prices_14 : decode b_M_prices 14 = .ok (.i2l, 1) := by decide +kernel
theorem d_M_prices_15 : decode b_M_prices 15 = .ok (.lconst 0, 1) := by decide +kernel
theorem d_M_prices_16 : decode b_M_prices 16 = .ok (.ldc2_w 115, 3) := by decide +kernel
theorem d_M_prices_19 : decode b_M_prices 19 = .ok (.invokestatic 86, 3) := by decide +kernel
theorem d_M_prices_22 : decode b_M_prices 22 = .ok (.ifCond .eq 7, 3) := by decide +kernel
theorem d_M_prices_25 : decode b_M_prices 25 = .ok (.iconst 1, 1) := by decide +kernel
theorem d_M_prices_26 : decode b_M_prices 26 = .ok (.goto 4, 3) := by decide +kernel
theorem d_M_prices_29 : decode b_M_prices 29 = .ok (.iconst 0, 1) := by decide +kernel
theorem d_M_prices_30 : decode b_M_prices 30 = .ok (.iconst 1, 1) := by decide +kernel
theorem d_M_prices_31 : decode b_M_prices 31 = .ok (.invokevirtual 93, 3) := by decide +kernel
theorem d_M_prices_34 : decode b_M_prices 34 = .ok (.ifCond .eq 4, 3) := by decide +kernel
theorem d_M_prices_37 : decode b_M_prices 37 = .ok (.return_, 1) := by decide +kernel
theorem d_M_prices_38 : decode b_M_prices 38 = .ok (.aload_n 0, 1) := by decide +kernel
theorem d_M_prices_39 : decode b_M_prices 39 = .ok (.iconst 0, 1) := by decide +kernel
theorem d_M_prices_40 : decode b_M_prices 40 = .ok (.putfield 97, 3) := by decide +kernel
theorem d_M_prices_43 : decode b_M_prices 43 = .ok (.aload_n 0, 1) := by decide +kernel
theorem d_M_prices_44 : decode b_M_prices 44 = .ok (.iload_n 1, 1) := by decide +kernel
theorem d_M_prices_45 : decode b_M_prices 45 = .ok (.putfield 120, 3) := by decide +kernel
theorem d_M_prices_48 : decode b_M_prices 48 = .ok (.aload_n 0, 1) := by decide +kernel
theorem d_M_prices_49 : decode b_M_prices 49 = .ok (.iload_n 2, 1) := by decide +kernel
theorem d_M_prices_50 : decode b_M_prices 50 = .ok (.putfield 123, 3) := by decide +kernel
theorem d_M_prices_53 : decode b_M_prices 53 = .ok (.return_, 1) := by decide +kernel
theorem d_M_takes_0 : decode b_M_takes 0 = .ok (.iload_n 1, 1) := by decide +kernel
theorem d_M_takes_1 : decode b_M_takes 1 = .ok (.iload_n 3, 1) := by decide +kernel
theorem d_M_takes_2 : decode b_M_takes 2 = .ok (.if_icmp .ge 17, 3) := by decide +kernel
theorem d_M_takes_5 : decode b_M_takes 5 = .ok (.aload_n 0, 1) := by decide +kernel
theorem d_M_takes_6 : decode b_M_takes 6 = .ok (.getfield 53, 3) := by decide +kernel
theorem d_M_takes_9 : decode b_M_takes 9 = .ok (.iload_n 1, 1) := by decide +kernel
theorem d_M_takes_10 : decode b_M_takes 10 = .ok (.iaload, 1) := by decide +kernel
theorem d_M_takes_11 : decode b_M_takes 11 = .ok (.iload_n 2, 1) := by decide +kernel
theorem d_M_takes_12 : decode b_M_takes 12 = .ok (.if_icmp .ne 7, 3) := by decide +kernel
theorem d_M_takes_15 : decode b_M_takes 15 = .ok (.iconst 1, 1) := by decide +kernel
theorem d_M_takes_16 : decode b_M_takes 16 = .ok (.goto 4, 3) := by decide +kernel
theorem d_M_takes_19 : decode b_M_takes 19 = .ok (.iconst 0, 1) := by decide +kernel
theorem d_M_takes_20 : decode b_M_takes 20 = .ok (.ireturn, 1) := by decide +kernel
theorem d_M_keepsPlant_0 : decode b_M_keepsPlant 0 = .ok (.lconst 0, 1) := by decide +kernel
theorem d_M_keepsPlant_1 : decode b_M_keepsPlant 1 = .ok (.lstore_n 3, 1) := by decide +kernel
theorem d_M_keepsPlant_2 : decode b_M_keepsPlant 2 = .ok (.iconst 0, 1) := by decide +kernel
theorem d_M_keepsPlant_3 : decode b_M_keepsPlant 3 = .ok (.istore 5, 2) := by decide +kernel
theorem d_M_keepsPlant_5 : decode b_M_keepsPlant 5 = .ok (.iload 5, 2) := by decide +kernel
theorem d_M_keepsPlant_7 : decode b_M_keepsPlant 7 = .ok (.iload_n 2, 1) := by decide +kernel
theorem d_M_keepsPlant_8 : decode b_M_keepsPlant 8 = .ok (.if_icmp .ge 34, 3) := by decide +kernel
theorem d_M_keepsPlant_11 : decode b_M_keepsPlant 11 = .ok (.lload_n 3, 1) := by decide +kernel
theorem d_M_keepsPlant_12 : decode b_M_keepsPlant 12 = .ok (.aload_n 0, 1) := by decide +kernel
theorem d_M_keepsPlant_13 : decode b_M_keepsPlant 13 = .ok (.iload 5, 2) := by decide +kernel
theorem d_M_keepsPlant_15 : decode b_M_keepsPlant 15 = .ok (.iload_n 1, 1) := by decide +kernel
theorem d_M_keepsPlant_16 : decode b_M_keepsPlant 16 = .ok (.iload_n 2, 1) := by decide +kernel
theorem d_M_keepsPlant_17 : decode b_M_keepsPlant 17 = .ok (.invokevirtual 126, 3) := by decide +kernel
theorem d_M_keepsPlant_20 : decode b_M_keepsPlant 20 = .ok (.ifCond .eq 13, 3) := by decide +kernel
theorem d_M_keepsPlant_23 : decode b_M_keepsPlant 23 = .ok (.aload_n 0, 1) := by decide +kernel
theorem d_M_keepsPlant_24 : decode b_M_keepsPlant 24 = .ok (.iload 5, 2) := by decide +kernel
theorem d_M_keepsPlant_26 : decode b_M_keepsPlant 26 = .ok (.iload_n 1, 1) := by decide +kernel
theorem d_M_keepsPlant_27 : decode b_M_keepsPlant 27 = .ok (.invokevirtual 108, 3) := by decide +kernel
theorem d_M_keepsPlant_30 : decode b_M_keepsPlant 30 = .ok (.goto 4, 3) := by decide +kernel
theorem d_M_keepsPlant_33 : decode b_M_keepsPlant 33 = .ok (.lconst 0, 1) := by decide +kernel
theorem d_M_keepsPlant_34 : decode b_M_keepsPlant 34 = .ok (.ladd, 1) := by decide +kernel
theorem d_M_keepsPlant_35 : decode b_M_keepsPlant 35 = .ok (.lstore_n 3, 1) := by decide +kernel
theorem d_M_keepsPlant_36 : decode b_M_keepsPlant 36 = .ok (.iinc 5 1, 3) := by decide +kernel
theorem d_M_keepsPlant_39 : decode b_M_keepsPlant 39 = .ok (.goto (-34), 3) := by decide +kernel
theorem d_M_keepsPlant_42 : decode b_M_keepsPlant 42 = .ok (.lload_n 3, 1) := by decide +kernel
theorem d_M_keepsPlant_43 : decode b_M_keepsPlant 43 = .ok (.aload_n 0, 1) := by decide +kernel
theorem d_M_keepsPlant_44 : decode b_M_keepsPlant 44 = .ok (.getfield 32, 3) := by decide +kernel
theorem d_M_keepsPlant_47 : decode b_M_keepsPlant 47 = .ok (.iload_n 1, 1) := by decide +kernel
theorem d_M_keepsPlant_48 : decode b_M_keepsPlant 48 = .ok (.iaload, 1) := by decide +kernel
theorem d_M_keepsPlant_49 : decode b_M_keepsPlant 49 = .ok (.i2l, 1) := by decide +kernel
theorem d_M_keepsPlant_50 : decode b_M_keepsPlant 50 = .ok (.lcmp, 1) := by decide +kernel
theorem d_M_keepsPlant_51 : decode b_M_keepsPlant 51 = .ok (.ifCond .gt 7, 3) := by decide +kernel
theorem d_M_keepsPlant_54 : decode b_M_keepsPlant 54 = .ok (.iconst 1, 1) := by decide +kernel
theorem d_M_keepsPlant_55 : decode b_M_keepsPlant 55 = .ok (.goto 4, 3) := by decide +kernel
theorem d_M_keepsPlant_58 : decode b_M_keepsPlant 58 = .ok (.iconst 0, 1) := by decide +kernel
theorem d_M_keepsPlant_59 : decode b_M_keepsPlant 59 = .ok (.ireturn, 1) := by decide +kernel
theorem d_M_keepsBoats_0 : decode b_M_keepsBoats 0 = .ok (.iconst 0, 1) := by decide +kernel
theorem d_M_keepsBoats_1 : decode b_M_keepsBoats 1 = .ok (.istore_n 3, 1) := by decide +kernel
theorem d_M_keepsBoats_2 : decode b_M_keepsBoats 2 = .ok (.iconst 0, 1) := by decide +kernel
theorem d_M_keepsBoats_3 : decode b_M_keepsBoats 3 = .ok (.istore 4, 2) := by decide +kernel
theorem d_M_keepsBoats_5 : decode b_M_keepsBoats 5 = .ok (.iload 4, 2) := by decide +kernel
theorem d_M_keepsBoats_7 : decode b_M_keepsBoats 7 = .ok (.iload_n 2, 1) := by decide +kernel
theorem d_M_keepsBoats_8 : decode b_M_keepsBoats 8 = .ok (.if_icmp .ge 48, 3) := by decide +kernel
theorem d_M_keepsBoats_11 : decode b_M_keepsBoats 11 = .ok (.aload_n 0, 1) := by decide +kernel
theorem d_M_keepsBoats_12 : decode b_M_keepsBoats 12 = .ok (.iload 4, 2) := by decide +kernel
theorem d_M_keepsBoats_14 : decode b_M_keepsBoats 14 = .ok (.iload_n 1, 1) := by decide +kernel
theorem d_M_keepsBoats_15 : decode b_M_keepsBoats 15 = .ok (.iload_n 2, 1) := by decide +kernel
theorem d_M_keepsBoats_16 : decode b_M_keepsBoats 16 = .ok (.invokevirtual 126, 3) := by decide +kernel
theorem d_M_keepsBoats_19 : decode b_M_keepsBoats 19 = .ok (.ifCond .eq 31, 3) := by decide +kernel
theorem d_M_keepsBoats_22 : decode b_M_keepsBoats 22 = .ok (.aload_n 0, 1) := by decide +kernel
theorem d_M_keepsBoats_23 : decode b_M_keepsBoats 23 = .ok (.iload 4, 2) := by decide +kernel
theorem d_M_keepsBoats_25 : decode b_M_keepsBoats 25 = .ok (.iload_n 1, 1) := by decide +kernel
theorem d_M_keepsBoats_26 : decode b_M_keepsBoats 26 = .ok (.invokevirtual 108, 3) := by decide +kernel
theorem d_M_keepsBoats_29 : decode b_M_keepsBoats 29 = .ok (.lconst 0, 1) := by decide +kernel
theorem d_M_keepsBoats_30 : decode b_M_keepsBoats 30 = .ok (.lcmp, 1) := by decide +kernel
theorem d_M_keepsBoats_31 : decode b_M_keepsBoats 31 = .ok (.ifCond .le 19, 3) := by decide +kernel
theorem d_M_keepsBoats_34 : decode b_M_keepsBoats 34 = .ok (.aload_n 0, 1) := by decide +kernel
theorem d_M_keepsBoats_35 : decode b_M_keepsBoats 35 = .ok (.getfield 69, 3) := by decide +kernel
theorem d_M_keepsBoats_38 : decode b_M_keepsBoats 38 = .ok (.iload_n 3, 1) := by decide +kernel
theorem d_M_keepsBoats_39 : decode b_M_keepsBoats 39 = .ok (.aload_n 0, 1) := by decide +kernel
theorem d_M_keepsBoats_40 : decode b_M_keepsBoats 40 = .ok (.iload 4, 2) := by decide +kernel
theorem d_M_keepsBoats_42 : decode b_M_keepsBoats 42 = .ok (.iload_n 1, 1) := by decide +kernel
theorem d_M_keepsBoats_43 : decode b_M_keepsBoats 43 = .ok (.invokevirtual 108, 3) := by decide +kernel
theorem d_M_keepsBoats_46 : decode b_M_keepsBoats 46 = .ok (.lastore, 1) := by decide +kernel
theorem d_M_keepsBoats_47 : decode b_M_keepsBoats 47 = .ok (.iinc 3 1, 3) := by decide +kernel
theorem d_M_keepsBoats_50 : decode b_M_keepsBoats 50 = .ok (.iinc 4 1, 3) := by decide +kernel
theorem d_M_keepsBoats_53 : decode b_M_keepsBoats 53 = .ok (.goto (-48), 3) := by decide +kernel
theorem d_M_keepsBoats_56 : decode b_M_keepsBoats 56 = .ok (.iload_n 3, 1) := by decide +kernel
theorem d_M_keepsBoats_57 : decode b_M_keepsBoats 57 = .ok (.iconst 1, 1) := by decide +kernel
theorem d_M_keepsBoats_58 : decode b_M_keepsBoats 58 = .ok (.iadd, 1) := by decide +kernel
theorem d_M_keepsBoats_59 : decode b_M_keepsBoats 59 = .ok (.iload_n 3, 1) := by decide +kernel
theorem d_M_keepsBoats_60 : decode b_M_keepsBoats 60 = .ok (.iconst 1, 1) := by decide +kernel
theorem d_M_keepsBoats_61 : decode b_M_keepsBoats 61 = .ok (.iadd, 1) := by decide +kernel
theorem d_M_keepsBoats_62 : decode b_M_keepsBoats 62 = .ok (.imul, 1) := by decide +kernel
theorem d_M_keepsBoats_63 : decode b_M_keepsBoats 63 = .ok (.iload_n 3, 1) := by decide +kernel
theorem d_M_keepsBoats_64 : decode b_M_keepsBoats 64 = .ok (.iconst 1, 1) := by decide +kernel
theorem d_M_keepsBoats_65 : decode b_M_keepsBoats 65 = .ok (.iadd, 1) := by decide +kernel
theorem d_M_keepsBoats_66 : decode b_M_keepsBoats 66 = .ok (.imul, 1) := by decide +kernel
theorem d_M_keepsBoats_67 : decode b_M_keepsBoats 67 = .ok (.istore 4, 2) := by decide +kernel
theorem d_M_keepsBoats_69 : decode b_M_keepsBoats 69 = .ok (.iload_n 3, 1) := by decide +kernel
theorem d_M_keepsBoats_70 : decode b_M_keepsBoats 70 = .ok (.ifCond .ne 7, 3) := by decide +kernel
theorem d_M_keepsBoats_73 : decode b_M_keepsBoats 73 = .ok (.iconst 1, 1) := by decide +kernel
theorem d_M_keepsBoats_74 : decode b_M_keepsBoats 74 = .ok (.goto 4, 3) := by decide +kernel
theorem d_M_keepsBoats_77 : decode b_M_keepsBoats 77 = .ok (.iconst 0, 1) := by decide +kernel
theorem d_M_keepsBoats_78 : decode b_M_keepsBoats 78 = .ok (.istore 5, 2) := by decide +kernel
theorem d_M_keepsBoats_80 : decode b_M_keepsBoats 80 = .ok (.iconst 0, 1) := by decide +kernel
theorem d_M_keepsBoats_81 : decode b_M_keepsBoats 81 = .ok (.istore 6, 2) := by decide +kernel
theorem d_M_keepsBoats_83 : decode b_M_keepsBoats 83 = .ok (.iload 6, 2) := by decide +kernel
theorem d_M_keepsBoats_85 : decode b_M_keepsBoats 85 = .ok (.iload 4, 2) := by decide +kernel
theorem d_M_keepsBoats_87 : decode b_M_keepsBoats 87 = .ok (.if_icmp .ge 156, 3) := by decide +kernel
theorem d_M_keepsBoats_90 : decode b_M_keepsBoats 90 = .ok (.iload 5, 2) := by decide +kernel
theorem d_M_keepsBoats_92 : decode b_M_keepsBoats 92 = .ok (.ifCond .ne 151, 3) := by decide +kernel
theorem d_M_keepsBoats_95 : decode b_M_keepsBoats 95 = .ok (.iconst 0, 1) := by decide +kernel
theorem d_M_keepsBoats_96 : decode b_M_keepsBoats 96 = .ok (.istore 7, 2) := by decide +kernel
theorem d_M_keepsBoats_98 : decode b_M_keepsBoats 98 = .ok (.iload 7, 2) := by decide +kernel
theorem d_M_keepsBoats_100 : decode b_M_keepsBoats 100 = .ok (.iload_n 3, 1) := by decide +kernel
theorem d_M_keepsBoats_101 : decode b_M_keepsBoats 101 = .ok (.if_icmp .gt 17, 3) := by decide +kernel
theorem d_M_keepsBoats_104 : decode b_M_keepsBoats 104 = .ok (.aload_n 0, 1) := by decide +kernel
theorem d_M_keepsBoats_105 : decode b_M_keepsBoats 105 = .ok (.getfield 72, 3) := by decide +kernel
theorem d_M_keepsBoats_108 : decode b_M_keepsBoats 108 = .ok (.iload 7, 2) := by decide +kernel
theorem d_M_keepsBoats_110 : decode b_M_keepsBoats 110 = .ok (.lconst 0, 1) := by decide +kernel
theorem d_M_keepsBoats_111 : decode b_M_keepsBoats 111 = .ok (.lastore, 1) := by decide +kernel
theorem d_M_keepsBoats_112 : decode b_M_keepsBoats 112 = .ok (.iinc 7 1, 3) := by decide +kernel
theorem d_M_keepsBoats_115 : decode b_M_keepsBoats 115 = .ok (.goto (-17), 3) := by decide +kernel
theorem d_M_keepsBoats_118 : decode b_M_keepsBoats 118 = .ok (.iload 6, 2) := by decide +kernel
theorem d_M_keepsBoats_120 : decode b_M_keepsBoats 120 = .ok (.istore 7, 2) := by decide +kernel
theorem d_M_keepsBoats_122 : decode b_M_keepsBoats 122 = .ok (.iconst 0, 1) := by decide +kernel
theorem d_M_keepsBoats_123 : decode b_M_keepsBoats 123 = .ok (.istore 8, 2) := by decide +kernel
theorem d_M_keepsBoats_125 : decode b_M_keepsBoats 125 = .ok (.iload 8, 2) := by decide +kernel
theorem d_M_keepsBoats_127 : decode b_M_keepsBoats 127 = .ok (.aload_n 0, 1) := by decide +kernel
theorem d_M_keepsBoats_128 : decode b_M_keepsBoats 128 = .ok (.getfield 112, 3) := by decide +kernel
theorem d_M_keepsBoats_131 : decode b_M_keepsBoats 131 = .ok (.if_icmp .ge 58, 3) := by decide +kernel
theorem d_M_keepsBoats_134 : decode b_M_keepsBoats 134 = .ok (.aload_n 0, 1) := by decide +kernel
theorem d_M_keepsBoats_135 : decode b_M_keepsBoats 135 = .ok (.getfield 72, 3) := by decide +kernel
theorem d_M_keepsBoats_138 : decode b_M_keepsBoats 138 = .ok (.iload 7, 2) := by decide +kernel
theorem d_M_keepsBoats_140 : decode b_M_keepsBoats 140 = .ok (.iload_n 3, 1) := by decide +kernel
theorem d_M_keepsBoats_141 : decode b_M_keepsBoats 141 = .ok (.iconst 1, 1) := by decide +kernel
theorem d_M_keepsBoats_142 : decode b_M_keepsBoats 142 = .ok (.iadd, 1) := by decide +kernel
theorem d_M_keepsBoats_143 : decode b_M_keepsBoats 143 = .ok (.irem, 1) := by decide +kernel
theorem d_M_keepsBoats_144 : decode b_M_keepsBoats 144 = .ok (.dup2, 1) := by decide +kernel
theorem d_M_keepsBoats_145 : decode b_M_keepsBoats 145 = .ok (.laload, 1) := by decide +kernel
theorem d_M_keepsBoats_146 : decode b_M_keepsBoats 146 = .ok (.aload_n 0, 1) := by decide +kernel
theorem d_M_keepsBoats_147 : decode b_M_keepsBoats 147 = .ok (.getfield 29, 3) := by decide +kernel
theorem d_M_keepsBoats_150 : decode b_M_keepsBoats 150 = .ok (.bipush 8, 2) := by decide +kernel
theorem d_M_keepsBoats_152 : decode b_M_keepsBoats 152 = .ok (.iload 8, 2) := by decide +kernel
theorem d_M_keepsBoats_154 : decode b_M_keepsBoats 154 = .ok (.imul, 1) := by decide +kernel
theorem d_M_keepsBoats_155 : decode b_M_keepsBoats 155 = .ok (.iload_n 1, 1) := by decide +kernel
theorem d_M_keepsBoats_156 : decode b_M_keepsBoats 156 = .ok (.iadd, 1) := by decide +kernel
theorem d_M_keepsBoats_157 : decode b_M_keepsBoats 157 = .ok (.baload, 1) := by decide +kernel
theorem d_M_keepsBoats_158 : decode b_M_keepsBoats 158 = .ok (.ifCond .eq 7, 3) := by decide +kernel
theorem d_M_keepsBoats_161 : decode b_M_keepsBoats 161 = .ok (.lconst 0, 1) := by decide +kernel
theorem d_M_keepsBoats_162 : decode b_M_keepsBoats 162 = .ok (.goto 11, 3) := by decide +kernel
theorem d_M_keepsBoats_165 : decode b_M_keepsBoats 165 = .ok (.aload_n 0, 1) := by decide +kernel
theorem d_M_keepsBoats_166 : decode b_M_keepsBoats 166 = .ok (.getfield 26, 3) := by decide +kernel
theorem d_M_keepsBoats_169 : decode b_M_keepsBoats 169 = .ok (.iload 8, 2) := by decide +kernel
theorem d_M_keepsBoats_171 : decode b_M_keepsBoats 171 = .ok (.iaload, 1) := by decide +kernel
theorem d_M_keepsBoats_172 : decode b_M_keepsBoats 172 = .ok (.i2l, 1) := by decide +kernel
theorem d_M_keepsBoats_173 : decode b_M_keepsBoats 173 = .ok (.ladd, 1) := by decide +kernel
theorem d_M_keepsBoats_174 : decode b_M_keepsBoats 174 = .ok (.lastore, 1) := by decide +kernel
theorem d_M_keepsBoats_175 : decode b_M_keepsBoats 175 = .ok (.iload 7, 2) := by decide +kernel
theorem d_M_keepsBoats_177 : decode b_M_keepsBoats 177 = .ok (.iload_n 3, 1) := by decide +kernel
theorem d_M_keepsBoats_178 : decode b_M_keepsBoats 178 = .ok (.iconst 1, 1) := by decide +kernel
theorem d_M_keepsBoats_179 : decode b_M_keepsBoats 179 = .ok (.iadd, 1) := by decide +kernel
theorem d_M_keepsBoats_180 : decode b_M_keepsBoats 180 = .ok (.idiv, 1) := by decide +kernel
theorem d_M_keepsBoats_181 : decode b_M_keepsBoats 181 = .ok (.istore 7, 2) := by decide +kernel
theorem d_M_keepsBoats_183 : decode b_M_keepsBoats 183 = .ok (.iinc 8 1, 3) := by decide +kernel
theorem d_M_keepsBoats_186 : decode b_M_keepsBoats 186 = .ok (.goto (-61), 3) := by decide +kernel
theorem d_M_keepsBoats_189 : decode b_M_keepsBoats 189 = .ok (.iconst 1, 1) := by decide +kernel
theorem d_M_keepsBoats_190 : decode b_M_keepsBoats 190 = .ok (.istore 5, 2) := by decide +kernel
theorem d_M_keepsBoats_192 : decode b_M_keepsBoats 192 = .ok (.iconst 0, 1) := by decide +kernel
theorem d_M_keepsBoats_193 : decode b_M_keepsBoats 193 = .ok (.istore 8, 2) := by decide +kernel
theorem d_M_keepsBoats_195 : decode b_M_keepsBoats 195 = .ok (.iload 8, 2) := by decide +kernel
theorem d_M_keepsBoats_197 : decode b_M_keepsBoats 197 = .ok (.iload_n 3, 1) := by decide +kernel
theorem d_M_keepsBoats_198 : decode b_M_keepsBoats 198 = .ok (.if_icmp .ge 39, 3) := by decide +kernel
theorem d_M_keepsBoats_201 : decode b_M_keepsBoats 201 = .ok (.iload 5, 2) := by decide +kernel
theorem d_M_keepsBoats_203 : decode b_M_keepsBoats 203 = .ok (.ifCond .eq 25, 3) := by decide +kernel
theorem d_M_keepsBoats_206 : decode b_M_keepsBoats 206 = .ok (.aload_n 0, 1) := by decide +kernel
theorem d_M_keepsBoats_207 : decode b_M_keepsBoats 207 = .ok (.getfield 72, 3) := by decide +kernel
theorem d_M_keepsBoats_210 : decode b_M_keepsBoats 210 = .ok (.iload 8, 2) := by decide +kernel
theorem d_M_keepsBoats_212 : decode b_M_keepsBoats 212 = .ok (.laload, 1) := by decide +kernel
theorem d_M_keepsBoats_213 : decode b_M_keepsBoats 213 = .ok (.aload_n 0, 1) := by decide +kernel
theorem d_M_keepsBoats_214 : decode b_M_keepsBoats 214 = .ok (.getfield 69, 3) := by decide +kernel
theorem d_M_keepsBoats_217 : decode b_M_keepsBoats 217 = .ok (.iload 8, 2) := by decide +kernel
theorem d_M_keepsBoats_219 : decode b_M_keepsBoats 219 = .ok (.laload, 1) := by decide +kernel
theorem d_M_keepsBoats_220 : decode b_M_keepsBoats 220 = .ok (.lcmp, 1) := by decide +kernel
theorem d_M_keepsBoats_221 : decode b_M_keepsBoats 221 = .ok (.ifCond .lt 7, 3) := by decide +kernel
theorem d_M_keepsBoats_224 : decode b_M_keepsBoats 224 = .ok (.iconst 1, 1) := by decide +kernel
theorem d_M_keepsBoats_225 : decode b_M_keepsBoats 225 = .ok (.goto 4, 3) := by decide +kernel
theorem d_M_keepsBoats_228 : decode b_M_keepsBoats 228 = .ok (.iconst 0, 1) := by decide +kernel
theorem d_M_keepsBoats_229 : decode b_M_keepsBoats 229 = .ok (.istore 5, 2) := by decide +kernel
theorem d_M_keepsBoats_231 : decode b_M_keepsBoats 231 = .ok (.iinc 8 1, 3) := by decide +kernel
theorem d_M_keepsBoats_234 : decode b_M_keepsBoats 234 = .ok (.goto (-39), 3) := by decide +kernel
theorem d_M_keepsBoats_237 : decode b_M_keepsBoats 237 = .ok (.iinc 6 1, 3) := by decide +kernel
theorem d_M_keepsBoats_240 : decode b_M_keepsBoats 240 = .ok (.goto (-157), 3) := by decide +kernel
theorem d_M_keepsBoats_243 : decode b_M_keepsBoats 243 = .ok (.iload 5, 2) := by decide +kernel
theorem d_M_keepsBoats_245 : decode b_M_keepsBoats 245 = .ok (.ireturn, 1) := by decide +kernel
theorem d_M_keepsOpen_0 : decode b_M_keepsOpen 0 = .ok (.iconst 1, 1) := by decide +kernel
theorem d_M_keepsOpen_1 : decode b_M_keepsOpen 1 = .ok (.istore_n 3, 1) := by decide +kernel
theorem d_M_keepsOpen_2 : decode b_M_keepsOpen 2 = .ok (.iconst 0, 1) := by decide +kernel
theorem d_M_keepsOpen_3 : decode b_M_keepsOpen 3 = .ok (.istore 4, 2) := by decide +kernel
theorem d_M_keepsOpen_5 : decode b_M_keepsOpen 5 = .ok (.iload 4, 2) := by decide +kernel
theorem d_M_keepsOpen_7 : decode b_M_keepsOpen 7 = .ok (.iload_n 2, 1) := by decide +kernel
theorem d_M_keepsOpen_8 : decode b_M_keepsOpen 8 = .ok (.if_icmp .ge 50, 3) := by decide +kernel
theorem d_M_keepsOpen_11 : decode b_M_keepsOpen 11 = .ok (.iload_n 3, 1) := by decide +kernel
theorem d_M_keepsOpen_12 : decode b_M_keepsOpen 12 = .ok (.ifCond .eq 38, 3) := by decide +kernel
theorem d_M_keepsOpen_15 : decode b_M_keepsOpen 15 = .ok (.aload_n 0, 1) := by decide +kernel
theorem d_M_keepsOpen_16 : decode b_M_keepsOpen 16 = .ok (.iload 4, 2) := by decide +kernel
theorem d_M_keepsOpen_18 : decode b_M_keepsOpen 18 = .ok (.iload_n 1, 1) := by decide +kernel
theorem d_M_keepsOpen_19 : decode b_M_keepsOpen 19 = .ok (.iload_n 2, 1) := by decide +kernel
theorem d_M_keepsOpen_20 : decode b_M_keepsOpen 20 = .ok (.invokevirtual 126, 3) := by decide +kernel
theorem d_M_keepsOpen_23 : decode b_M_keepsOpen 23 = .ok (.ifCond .eq 23, 3) := by decide +kernel
theorem d_M_keepsOpen_26 : decode b_M_keepsOpen 26 = .ok (.aload_n 0, 1) := by decide +kernel
theorem d_M_keepsOpen_27 : decode b_M_keepsOpen 27 = .ok (.getfield 13, 3) := by decide +kernel
theorem d_M_keepsOpen_30 : decode b_M_keepsOpen 30 = .ok (.bipush 8, 2) := by decide +kernel
theorem d_M_keepsOpen_32 : decode b_M_keepsOpen 32 = .ok (.aload_n 0, 1) := by decide +kernel
theorem d_M_keepsOpen_33 : decode b_M_keepsOpen 33 = .ok (.getfield 17, 3) := by decide +kernel
theorem d_M_keepsOpen_36 : decode b_M_keepsOpen 36 = .ok (.iload 4, 2) := by decide +kernel
theorem d_M_keepsOpen_38 : decode b_M_keepsOpen 38 = .ok (.iaload, 1) := by decide +kernel
theorem d_M_keepsOpen_39 : decode b_M_keepsOpen 39 = .ok (.imul, 1) := by decide +kernel
theorem d_M_keepsOpen_40 : decode b_M_keepsOpen 40 = .ok (.iload_n 1, 1) := by decide +kernel
theorem d_M_keepsOpen_41 : decode b_M_keepsOpen 41 = .ok (.iadd, 1) := by decide +kernel
theorem d_M_keepsOpen_42 : decode b_M_keepsOpen 42 = .ok (.baload, 1) := by decide +kernel
theorem d_M_keepsOpen_43 : decode b_M_keepsOpen 43 = .ok (.ifCond .ne 7, 3) := by decide +kernel
theorem d_M_keepsOpen_46 : decode b_M_keepsOpen 46 = .ok (.iconst 1, 1) := by decide +kernel
theorem d_M_keepsOpen_47 : decode b_M_keepsOpen 47 = .ok (.goto 4, 3) := by decide +kernel
theorem d_M_keepsOpen_50 : decode b_M_keepsOpen 50 = .ok (.iconst 0, 1) := by decide +kernel
theorem d_M_keepsOpen_51 : decode b_M_keepsOpen 51 = .ok (.istore_n 3, 1) := by decide +kernel
theorem d_M_keepsOpen_52 : decode b_M_keepsOpen 52 = .ok (.iinc 4 1, 3) := by decide +kernel
theorem d_M_keepsOpen_55 : decode b_M_keepsOpen 55 = .ok (.goto (-50), 3) := by decide +kernel
theorem d_M_keepsOpen_58 : decode b_M_keepsOpen 58 = .ok (.iload_n 3, 1) := by decide +kernel
theorem d_M_keepsOpen_59 : decode b_M_keepsOpen 59 = .ok (.ireturn, 1) := by decide +kernel
theorem d_M_keepsHeld_0 : decode b_M_keepsHeld 0 = .ok (.iconst 1, 1) := by decide +kernel
theorem d_M_keepsHeld_1 : decode b_M_keepsHeld 1 = .ok (.istore_n 2, 1) := by decide +kernel
theorem d_M_keepsHeld_2 : decode b_M_keepsHeld 2 = .ok (.iconst 0, 1) := by decide +kernel
theorem d_M_keepsHeld_3 : decode b_M_keepsHeld 3 = .ok (.istore_n 3, 1) := by decide +kernel
theorem d_M_keepsHeld_4 : decode b_M_keepsHeld 4 = .ok (.iload_n 3, 1) := by decide +kernel
theorem d_M_keepsHeld_5 : decode b_M_keepsHeld 5 = .ok (.aload_n 0, 1) := by decide +kernel
theorem d_M_keepsHeld_6 : decode b_M_keepsHeld 6 = .ok (.getfield 90, 3) := by decide +kernel
theorem d_M_keepsHeld_9 : decode b_M_keepsHeld 9 = .ok (.if_icmp .ge 91, 3) := by decide +kernel
theorem d_M_keepsHeld_12 : decode b_M_keepsHeld 12 = .ok (.lconst 0, 1) := by decide +kernel
theorem d_M_keepsHeld_13 : decode b_M_keepsHeld 13 = .ok (.lstore 4, 2) := by decide +kernel
theorem d_M_keepsHeld_15 : decode b_M_keepsHeld 15 = .ok (.iconst 0, 1) := by decide +kernel
theorem d_M_keepsHeld_16 : decode b_M_keepsHeld 16 = .ok (.istore 6, 2) := by decide +kernel
theorem d_M_keepsHeld_18 : decode b_M_keepsHeld 18 = .ok (.iload 6, 2) := by decide +kernel
theorem d_M_keepsHeld_20 : decode b_M_keepsHeld 20 = .ok (.aload_n 0, 1) := by decide +kernel
theorem d_M_keepsHeld_21 : decode b_M_keepsHeld 21 = .ok (.getfield 101, 3) := by decide +kernel
theorem d_M_keepsHeld_24 : decode b_M_keepsHeld 24 = .ok (.if_icmp .ge 47, 3) := by decide +kernel
theorem d_M_keepsHeld_27 : decode b_M_keepsHeld 27 = .ok (.lload 4, 2) := by decide +kernel
theorem d_M_keepsHeld_29 : decode b_M_keepsHeld 29 = .ok (.aload_n 0, 1) := by decide +kernel
theorem d_M_keepsHeld_30 : decode b_M_keepsHeld 30 = .ok (.getfield 17, 3) := by decide +kernel
theorem d_M_keepsHeld_33 : decode b_M_keepsHeld 33 = .ok (.iload 6, 2) := by decide +kernel
theorem d_M_keepsHeld_35 : decode b_M_keepsHeld 35 = .ok (.iaload, 1) := by decide +kernel
theorem d_M_keepsHeld_36 : decode b_M_keepsHeld 36 = .ok (.iload_n 3, 1) := by decide +kernel
theorem d_M_keepsHeld_37 : decode b_M_keepsHeld 37 = .ok (.if_icmp .ne 24, 3) := by decide +kernel
theorem d_M_keepsHeld_40 : decode b_M_keepsHeld 40 = .ok (.aload_n 0, 1) := by decide +kernel
theorem d_M_keepsHeld_41 : decode b_M_keepsHeld 41 = .ok (.getfield 53, 3) := by decide +kernel
theorem d_M_keepsHeld_44 : decode b_M_keepsHeld 44 = .ok (.iload 6, 2) := by decide +kernel
theorem d_M_keepsHeld_46 : decode b_M_keepsHeld 46 = .ok (.iaload, 1) := by decide +kernel
theorem d_M_keepsHeld_47 : decode b_M_keepsHeld 47 = .ok (.iload_n 1, 1) := by decide +kernel
theorem d_M_keepsHeld_48 : decode b_M_keepsHeld 48 = .ok (.if_icmp .lt 13, 3) := by decide +kernel
theorem d_M_keepsHeld_51 : decode b_M_keepsHeld 51 = .ok (.aload_n 0, 1) := by decide +kernel
theorem d_M_keepsHeld_52 : decode b_M_keepsHeld 52 = .ok (.iload 6, 2) := by decide +kernel
theorem d_M_keepsHeld_54 : decode b_M_keepsHeld 54 = .ok (.iload_n 1, 1) := by decide +kernel
theorem d_M_keepsHeld_55 : decode b_M_keepsHeld 55 = .ok (.invokevirtual 108, 3) := by decide +kernel
theorem d_M_keepsHeld_58 : decode b_M_keepsHeld 58 = .ok (.goto 4, 3) := by decide +kernel
theorem d_M_keepsHeld_61 : decode b_M_keepsHeld 61 = .ok (.lconst 0, 1) := by decide +kernel
theorem d_M_keepsHeld_62 : decode b_M_keepsHeld 62 = .ok (.ladd, 1) := by decide +kernel
theorem d_M_keepsHeld_63 : decode b_M_keepsHeld 63 = .ok (.lstore 4, 2) := by decide +kernel
theorem d_M_keepsHeld_65 : decode b_M_keepsHeld 65 = .ok (.iinc 6 1, 3) := by decide +kernel
theorem d_M_keepsHeld_68 : decode b_M_keepsHeld 68 = .ok (.goto (-50), 3) := by decide +kernel
theorem d_M_keepsHeld_71 : decode b_M_keepsHeld 71 = .ok (.iload_n 2, 1) := by decide +kernel
theorem d_M_keepsHeld_72 : decode b_M_keepsHeld 72 = .ok (.ifCond .eq 20, 3) := by decide +kernel
theorem d_M_keepsHeld_75 : decode b_M_keepsHeld 75 = .ok (.lload 4, 2) := by decide +kernel
theorem d_M_keepsHeld_77 : decode b_M_keepsHeld 77 = .ok (.aload_n 0, 1) := by decide +kernel
theorem d_M_keepsHeld_78 : decode b_M_keepsHeld 78 = .ok (.getfield 7, 3) := by decide +kernel
theorem d_M_keepsHeld_81 : decode b_M_keepsHeld 81 = .ok (.iload_n 3, 1) := by decide +kernel
theorem d_M_keepsHeld_82 : decode b_M_keepsHeld 82 = .ok (.iaload, 1) := by decide +kernel
theorem d_M_keepsHeld_83 : decode b_M_keepsHeld 83 = .ok (.i2l, 1) := by decide +kernel
theorem d_M_keepsHeld_84 : decode b_M_keepsHeld 84 = .ok (.lcmp, 1) := by decide +kernel
theorem d_M_keepsHeld_85 : decode b_M_keepsHeld 85 = .ok (.ifCond .gt 7, 3) := by decide +kernel
theorem d_M_keepsHeld_88 : decode b_M_keepsHeld 88 = .ok (.iconst 1, 1) := by decide +kernel
theorem d_M_keepsHeld_89 : decode b_M_keepsHeld 89 = .ok (.goto 4, 3) := by decide +kernel
theorem d_M_keepsHeld_92 : decode b_M_keepsHeld 92 = .ok (.iconst 0, 1) := by decide +kernel
theorem d_M_keepsHeld_93 : decode b_M_keepsHeld 93 = .ok (.istore_n 2, 1) := by decide +kernel
theorem d_M_keepsHeld_94 : decode b_M_keepsHeld 94 = .ok (.iinc 3 1, 3) := by decide +kernel
theorem d_M_keepsHeld_97 : decode b_M_keepsHeld 97 = .ok (.goto (-93), 3) := by decide +kernel
theorem d_M_keepsHeld_100 : decode b_M_keepsHeld 100 = .ok (.iload_n 2, 1) := by decide +kernel
theorem d_M_keepsHeld_101 : decode b_M_keepsHeld 101 = .ok (.ireturn, 1) := by decide +kernel
theorem d_M_broken_0 : decode b_M_broken 0 = .ok (.aload_n 0, 1) := by decide +kernel
theorem d_M_broken_1 : decode b_M_broken 1 = .ok (.iload_n 1, 1) := by decide +kernel
theorem d_M_broken_2 : decode b_M_broken 2 = .ok (.iload_n 2, 1) := by decide +kernel
theorem d_M_broken_3 : decode b_M_broken 3 = .ok (.invokevirtual 130, 3) := by decide +kernel
theorem d_M_broken_6 : decode b_M_broken 6 = .ok (.ifCond .ne 7, 3) := by decide +kernel
theorem d_M_broken_9 : decode b_M_broken 9 = .ok (.iconst 1, 1) := by decide +kernel
theorem d_M_broken_10 : decode b_M_broken 10 = .ok (.goto 46, 3) := by decide +kernel
theorem d_M_broken_13 : decode b_M_broken 13 = .ok (.aload_n 0, 1) := by decide +kernel
theorem d_M_broken_14 : decode b_M_broken 14 = .ok (.iload_n 1, 1) := by decide +kernel
theorem d_M_broken_15 : decode b_M_broken 15 = .ok (.iload_n 2, 1) := by decide +kernel
theorem d_M_broken_16 : decode b_M_broken 16 = .ok (.invokevirtual 134, 3) := by decide +kernel
theorem d_M_broken_19 : decode b_M_broken 19 = .ok (.ifCond .ne 7, 3) := by decide +kernel
theorem d_M_broken_22 : decode b_M_broken 22 = .ok (.iconst 2, 1) := by decide +kernel
theorem d_M_broken_23 : decode b_M_broken 23 = .ok (.goto 33, 3) := by decide +kernel
theorem d_M_broken_26 : decode b_M_broken 26 = .ok (.aload_n 0, 1) := by decide +kernel
theorem d_M_broken_27 : decode b_M_broken 27 = .ok (.iload_n 1, 1) := by decide +kernel
theorem d_M_broken_28 : decode b_M_broken 28 = .ok (.iload_n 2, 1) := by decide +kernel
theorem d_M_broken_29 : decode b_M_broken 29 = .ok (.invokevirtual 137, 3) := by decide +kernel
theorem d_M_broken_32 : decode b_M_broken 32 = .ok (.ifCond .ne 7, 3) := by decide +kernel
theorem d_M_broken_35 : decode b_M_broken 35 = .ok (.iconst 3, 1) := by decide +kernel
theorem d_M_broken_36 : decode b_M_broken 36 = .ok (.goto 20, 3) := by decide +kernel
theorem d_M_broken_39 : decode b_M_broken 39 = .ok (.iload_n 3, 1) := by decide +kernel
theorem d_M_broken_40 : decode b_M_broken 40 = .ok (.ifCond .eq 15, 3) := by decide +kernel
theorem d_M_broken_43 : decode b_M_broken 43 = .ok (.aload_n 0, 1) := by decide +kernel
theorem d_M_broken_44 : decode b_M_broken 44 = .ok (.iload_n 1, 1) := by decide +kernel
theorem d_M_broken_45 : decode b_M_broken 45 = .ok (.invokevirtual 140, 3) := by decide +kernel
theorem d_M_broken_48 : decode b_M_broken 48 = .ok (.ifCond .ne 7, 3) := by decide +kernel
theorem d_M_broken_51 : decode b_M_broken 51 = .ok (.iconst 4, 1) := by decide +kernel
theorem d_M_broken_52 : decode b_M_broken 52 = .ok (.goto 4, 3) := by decide +kernel
theorem d_M_broken_55 : decode b_M_broken 55 = .ok (.iconst 0, 1) := by decide +kernel
theorem d_M_broken_56 : decode b_M_broken 56 = .ok (.ireturn, 1) := by decide +kernel
theorem d_M_keepsAll_0 : decode b_M_keepsAll 0 = .ok (.iconst 1, 1) := by decide +kernel
theorem d_M_keepsAll_1 : decode b_M_keepsAll 1 = .ok (.istore_n 3, 1) := by decide +kernel
theorem d_M_keepsAll_2 : decode b_M_keepsAll 2 = .ok (.iconst 0, 1) := by decide +kernel
theorem d_M_keepsAll_3 : decode b_M_keepsAll 3 = .ok (.istore 4, 2) := by decide +kernel
theorem d_M_keepsAll_5 : decode b_M_keepsAll 5 = .ok (.iload 4, 2) := by decide +kernel
theorem d_M_keepsAll_7 : decode b_M_keepsAll 7 = .ok (.aload_n 0, 1) := by decide +kernel
theorem d_M_keepsAll_8 : decode b_M_keepsAll 8 = .ok (.getfield 75, 3) := by decide +kernel
theorem d_M_keepsAll_11 : decode b_M_keepsAll 11 = .ok (.if_icmp .ge 30, 3) := by decide +kernel
theorem d_M_keepsAll_14 : decode b_M_keepsAll 14 = .ok (.iload_n 3, 1) := by decide +kernel
theorem d_M_keepsAll_15 : decode b_M_keepsAll 15 = .ok (.ifCond .eq 18, 3) := by decide +kernel
theorem d_M_keepsAll_18 : decode b_M_keepsAll 18 = .ok (.aload_n 0, 1) := by decide +kernel
theorem d_M_keepsAll_19 : decode b_M_keepsAll 19 = .ok (.iload 4, 2) := by decide +kernel
theorem d_M_keepsAll_21 : decode b_M_keepsAll 21 = .ok (.iload_n 1, 1) := by decide +kernel
theorem d_M_keepsAll_22 : decode b_M_keepsAll 22 = .ok (.iload_n 2, 1) := by decide +kernel
theorem d_M_keepsAll_23 : decode b_M_keepsAll 23 = .ok (.invokevirtual 144, 3) := by decide +kernel
theorem d_M_keepsAll_26 : decode b_M_keepsAll 26 = .ok (.ifCond .ne 7, 3) := by decide +kernel
theorem d_M_keepsAll_29 : decode b_M_keepsAll 29 = .ok (.iconst 1, 1) := by decide +kernel
theorem d_M_keepsAll_30 : decode b_M_keepsAll 30 = .ok (.goto 4, 3) := by decide +kernel
theorem d_M_keepsAll_33 : decode b_M_keepsAll 33 = .ok (.iconst 0, 1) := by decide +kernel
theorem d_M_keepsAll_34 : decode b_M_keepsAll 34 = .ok (.istore_n 3, 1) := by decide +kernel
theorem d_M_keepsAll_35 : decode b_M_keepsAll 35 = .ok (.iinc 4 1, 3) := by decide +kernel
theorem d_M_keepsAll_38 : decode b_M_keepsAll 38 = .ok (.goto (-33), 3) := by decide +kernel
theorem d_M_keepsAll_41 : decode b_M_keepsAll 41 = .ok (.iload_n 3, 1) := by decide +kernel
theorem d_M_keepsAll_42 : decode b_M_keepsAll 42 = .ok (.ireturn, 1) := by decide +kernel
theorem d_M_nextOrder_0 : decode b_M_nextOrder 0 = .ok (.iconst (-1), 1) := by decide +kernel
theorem d_M_nextOrder_1 : decode b_M_nextOrder 1 = .ok (.istore_n 2, 1) := by decide +kernel
theorem d_M_nextOrder_2 : decode b_M_nextOrder 2 = .ok (.iconst 0, 1) := by decide +kernel
theorem d_M_nextOrder_3 : decode b_M_nextOrder 3 = .ok (.istore_n 3, 1) := by decide +kernel
theorem d_M_nextOrder_4 : decode b_M_nextOrder 4 = .ok (.iload_n 3, 1) := by decide +kernel
theorem d_M_nextOrder_5 : decode b_M_nextOrder 5 = .ok (.aload_n 0, 1) := by decide +kernel
theorem d_M_nextOrder_6 : decode b_M_nextOrder 6 = .ok (.getfield 117, 3) := by decide +kernel
theorem d_M_nextOrder_9 : decode b_M_nextOrder 9 = .ok (.if_icmp .ge 66, 3) := by decide +kernel
theorem d_M_nextOrder_12 : decode b_M_nextOrder 12 = .ok (.iload_n 2, 1) := by decide +kernel
theorem d_M_nextOrder_13 : decode b_M_nextOrder 13 = .ok (.iconst (-1), 1) := by decide +kernel
theorem d_M_nextOrder_14 : decode b_M_nextOrder 14 = .ok (.if_icmp .eq 18, 3) := by decide +kernel
theorem d_M_nextOrder_17 : decode b_M_nextOrder 17 = .ok (.aload_n 0, 1) := by decide +kernel
theorem d_M_nextOrder_18 : decode b_M_nextOrder 18 = .ok (.getfield 47, 3) := by decide +kernel
theorem d_M_nextOrder_21 : decode b_M_nextOrder 21 = .ok (.iload_n 3, 1) := by decide +kernel
theorem d_M_nextOrder_22 : decode b_M_nextOrder 22 = .ok (.iaload, 1) := by decide +kernel
theorem d_M_nextOrder_23 : decode b_M_nextOrder 23 = .ok (.aload_n 0, 1) := by decide +kernel
theorem d_M_nextOrder_24 : decode b_M_nextOrder 24 = .ok (.getfield 47, 3) := by decide +kernel
theorem d_M_nextOrder_27 : decode b_M_nextOrder 27 = .ok (.iload_n 2, 1) := by decide +kernel
theorem d_M_nextOrder_28 : decode b_M_nextOrder 28 = .ok (.iaload, 1) := by decide +kernel
theorem d_M_nextOrder_29 : decode b_M_nextOrder 29 = .ok (.if_icmp .le 7, 3) := by decide +kernel
theorem d_M_nextOrder_32 : decode b_M_nextOrder 32 = .ok (.iconst 1, 1) := by decide +kernel
theorem d_M_nextOrder_33 : decode b_M_nextOrder 33 = .ok (.goto 4, 3) := by decide +kernel
theorem d_M_nextOrder_36 : decode b_M_nextOrder 36 = .ok (.iconst 0, 1) := by decide +kernel
theorem d_M_nextOrder_37 : decode b_M_nextOrder 37 = .ok (.istore 4, 2) := by decide +kernel
theorem d_M_nextOrder_39 : decode b_M_nextOrder 39 = .ok (.aload_n 0, 1) := by decide +kernel
theorem d_M_nextOrder_40 : decode b_M_nextOrder 40 = .ok (.getfield 35, 3) := by decide +kernel
theorem d_M_nextOrder_43 : decode b_M_nextOrder 43 = .ok (.iload_n 3, 1) := by decide +kernel
theorem d_M_nextOrder_44 : decode b_M_nextOrder 44 = .ok (.iaload, 1) := by decide +kernel
theorem d_M_nextOrder_45 : decode b_M_nextOrder 45 = .ok (.iload_n 1, 1) := by decide +kernel
theorem d_M_nextOrder_46 : decode b_M_nextOrder 46 = .ok (.if_icmp .ne 21, 3) := by decide +kernel
theorem d_M_nextOrder_49 : decode b_M_nextOrder 49 = .ok (.aload_n 0, 1) := by decide +kernel
theorem d_M_nextOrder_50 : decode b_M_nextOrder 50 = .ok (.getfield 66, 3) := by decide +kernel
theorem d_M_nextOrder_53 : decode b_M_nextOrder 53 = .ok (.iload_n 3, 1) := by decide +kernel
theorem d_M_nextOrder_54 : decode b_M_nextOrder 54 = .ok (.baload, 1) := by decide +kernel
theorem d_M_nextOrder_55 : decode b_M_nextOrder 55 = .ok (.ifCond .ne 12, 3) := by decide +kernel
theorem d_M_nextOrder_58 : decode b_M_nextOrder 58 = .ok (.iload 4, 2) := by decide +kernel
theorem d_M_nextOrder_60 : decode b_M_nextOrder 60 = .ok (.ifCond .eq 7, 3) := by decide +kernel
theorem d_M_nextOrder_63 : decode b_M_nextOrder 63 = .ok (.iload_n 3, 1) := by decide +kernel
theorem d_M_nextOrder_64 : decode b_M_nextOrder 64 = .ok (.goto 4, 3) := by decide +kernel
theorem d_M_nextOrder_67 : decode b_M_nextOrder 67 = .ok (.iload_n 2, 1) := by decide +kernel
theorem d_M_nextOrder_68 : decode b_M_nextOrder 68 = .ok (.istore_n 2, 1) := by decide +kernel
theorem d_M_nextOrder_69 : decode b_M_nextOrder 69 = .ok (.iinc 3 1, 3) := by decide +kernel
theorem d_M_nextOrder_72 : decode b_M_nextOrder 72 = .ok (.goto (-68), 3) := by decide +kernel
theorem d_M_nextOrder_75 : decode b_M_nextOrder 75 = .ok (.iload_n 2, 1) := by decide +kernel
theorem d_M_nextOrder_76 : decode b_M_nextOrder 76 = .ok (.ireturn, 1) := by decide +kernel
theorem d_M_serve_0 : decode b_M_serve 0 = .ok (.aload_n 0, 1) := by decide +kernel
theorem d_M_serve_1 : decode b_M_serve 1 = .ok (.getfield 66, 3) := by decide +kernel
theorem d_M_serve_4 : decode b_M_serve 4 = .ok (.iload_n 1, 1) := by decide +kernel
theorem d_M_serve_5 : decode b_M_serve 5 = .ok (.iconst 1, 1) := by decide +kernel
theorem d_M_serve_6 : decode b_M_serve 6 = .ok (.bastore, 1) := by decide +kernel
theorem d_M_serve_7 : decode b_M_serve 7 = .ok (.aload_n 0, 1) := by decide +kernel
theorem d_M_serve_8 : decode b_M_serve 8 = .ok (.getfield 63, 3) := by decide +kernel
theorem d_M_serve_11 : decode b_M_serve 11 = .ok (.iload_n 1, 1) := by decide +kernel
theorem d_M_serve_12 : decode b_M_serve 12 = .ok (.lconst 0, 1) := by decide +kernel
theorem d_M_serve_13 : decode b_M_serve 13 = .ok (.lastore, 1) := by decide +kernel
theorem d_M_serve_14 : decode b_M_serve 14 = .ok (.iconst 0, 1) := by decide +kernel
theorem d_M_serve_15 : decode b_M_serve 15 = .ok (.istore_n 3, 1) := by decide +kernel
theorem d_M_serve_16 : decode b_M_serve 16 = .ok (.iload_n 3, 1) := by decide +kernel
theorem d_M_serve_17 : decode b_M_serve 17 = .ok (.aload_n 0, 1) := by decide +kernel
theorem d_M_serve_18 : decode b_M_serve 18 = .ok (.getfield 101, 3) := by decide +kernel
theorem d_M_serve_21 : decode b_M_serve 21 = .ok (.if_icmp .ge 114, 3) := by decide +kernel
theorem d_M_serve_24 : decode b_M_serve 24 = .ok (.aload_n 0, 1) := by decide +kernel
theorem d_M_serve_25 : decode b_M_serve 25 = .ok (.getfield 53, 3) := by decide +kernel
theorem d_M_serve_28 : decode b_M_serve 28 = .ok (.iload_n 3, 1) := by decide +kernel
theorem d_M_serve_29 : decode b_M_serve 29 = .ok (.iaload, 1) := by decide +kernel
theorem d_M_serve_30 : decode b_M_serve 30 = .ok (.iload_n 2, 1) := by decide +kernel
theorem d_M_serve_31 : decode b_M_serve 31 = .ok (.if_icmp .ne 98, 3) := by decide +kernel
theorem d_M_serve_34 : decode b_M_serve 34 = .ok (.aload_n 0, 1) := by decide +kernel
theorem d_M_serve_35 : decode b_M_serve 35 = .ok (.getfield 20, 3) := by decide +kernel
theorem d_M_serve_38 : decode b_M_serve 38 = .ok (.bipush 8, 2) := by decide +kernel
theorem d_M_serve_40 : decode b_M_serve 40 = .ok (.iload_n 3, 1) := by decide +kernel
theorem d_M_serve_41 : decode b_M_serve 41 = .ok (.imul, 1) := by decide +kernel
theorem d_M_serve_42 : decode b_M_serve 42 = .ok (.iload_n 2, 1) := by decide +kernel
theorem d_M_serve_43 : decode b_M_serve 43 = .ok (.iadd, 1) := by decide +kernel
theorem d_M_serve_44 : decode b_M_serve 44 = .ok (.iaload, 1) := by decide +kernel
theorem d_M_serve_45 : decode b_M_serve 45 = .ok (.i2l, 1) := by decide +kernel
theorem d_M_serve_46 : decode b_M_serve 46 = .ok (.aload_n 0, 1) := by decide +kernel
theorem d_M_serve_47 : decode b_M_serve 47 = .ok (.getfield 38, 3) := by decide +kernel
theorem d_M_serve_50 : decode b_M_serve 50 = .ok (.iload_n 1, 1) := by decide +kernel
theorem d_M_serve_51 : decode b_M_serve 51 = .ok (.iaload, 1) := by decide +kernel
theorem d_M_serve_52 : decode b_M_serve 52 = .ok (.i2l, 1) := by decide +kernel
theorem d_M_serve_53 : decode b_M_serve 53 = .ok (.aload_n 0, 1) := by decide +kernel
theorem d_M_serve_54 : decode b_M_serve 54 = .ok (.getfield 41, 3) := by decide +kernel
theorem d_M_serve_57 : decode b_M_serve 57 = .ok (.iload_n 1, 1) := by decide +kernel
theorem d_M_serve_58 : decode b_M_serve 58 = .ok (.iaload, 1) := by decide +kernel
theorem d_M_serve_59 : decode b_M_serve 59 = .ok (.i2l, 1) := by decide +kernel
theorem d_M_serve_60 : decode b_M_serve 60 = .ok (.invokestatic 86, 3) := by decide +kernel
theorem d_M_serve_63 : decode b_M_serve 63 = .ok (.ifCond .eq 66, 3) := by decide +kernel
theorem d_M_serve_66 : decode b_M_serve 66 = .ok (.aload_n 0, 1) := by decide +kernel
theorem d_M_serve_67 : decode b_M_serve 67 = .ok (.getfield 44, 3) := by decide +kernel
theorem d_M_serve_70 : decode b_M_serve 70 = .ok (.iload_n 1, 1) := by decide +kernel
theorem d_M_serve_71 : decode b_M_serve 71 = .ok (.iaload, 1) := by decide +kernel
theorem d_M_serve_72 : decode b_M_serve 72 = .ok (.i2l, 1) := by decide +kernel
theorem d_M_serve_73 : decode b_M_serve 73 = .ok (.aload_n 0, 1) := by decide +kernel
theorem d_M_serve_74 : decode b_M_serve 74 = .ok (.getfield 63, 3) := by decide +kernel
theorem d_M_serve_77 : decode b_M_serve 77 = .ok (.iload_n 1, 1) := by decide +kernel
theorem d_M_serve_78 : decode b_M_serve 78 = .ok (.laload, 1) := by decide +kernel
theorem d_M_serve_79 : decode b_M_serve 79 = .ok (.lsub, 1) := by decide +kernel
theorem d_M_serve_80 : decode b_M_serve 80 = .ok (.lstore 4, 2) := by decide +kernel
theorem d_M_serve_82 : decode b_M_serve 82 = .ok (.aload_n 0, 1) := by decide +kernel
theorem d_M_serve_83 : decode b_M_serve 83 = .ok (.getfield 59, 3) := by decide +kernel
theorem d_M_serve_86 : decode b_M_serve 86 = .ok (.iload_n 3, 1) := by decide +kernel
theorem d_M_serve_87 : decode b_M_serve 87 = .ok (.laload, 1) := by decide +kernel
theorem d_M_serve_88 : decode b_M_serve 88 = .ok (.lload 4, 2) := by decide +kernel
theorem d_M_serve_90 : decode b_M_serve 90 = .ok (.lcmp, 1) := by decide +kernel
theorem d_M_serve_91 : decode b_M_serve 91 = .ok (.ifCond .ge 12, 3) := by decide +kernel
theorem d_M_serve_94 : decode b_M_serve 94 = .ok (.aload_n 0, 1) := by decide +kernel
theorem d_M_serve_95 : decode b_M_serve 95 = .ok (.getfield 59, 3) := by decide +kernel
theorem d_M_serve_98 : decode b_M_serve 98 = .ok (.iload_n 3, 1) := by decide +kernel
theorem d_M_serve_99 : decode b_M_serve 99 = .ok (.laload, 1) := by decide +kernel
theorem d_M_serve_100 : decode b_M_serve 100 = .ok (.goto 5, 3) := by decide +kernel
theorem d_M_serve_103 : decode b_M_serve 103 = .ok (.lload 4, 2) := by decide +kernel
theorem d_M_serve_105 : decode b_M_serve 105 = .ok (.lstore 6, 2) := by decide +kernel
theorem d_M_serve_107 : decode b_M_serve 107 = .ok (.aload_n 0, 1) := by decide +kernel
theorem d_M_serve_108 : decode b_M_serve 108 = .ok (.getfield 63, 3) := by decide +kernel
theorem d_M_serve_111 : decode b_M_serve 111 = .ok (.iload_n 1, 1) := by decide +kernel
theorem d_M_serve_112 : decode b_M_serve 112 = .ok (.dup2, 1) := by decide +kernel
theorem d_M_serve_113 : decode b_M_serve 113 = .ok (.laload, 1) := by decide +kernel
theorem d_M_serve_114 : decode b_M_serve 114 = .ok (.lload 6, 2) := by decide +kernel
theorem d_M_serve_116 : decode b_M_serve 116 = .ok (.ladd, 1) := by decide +kernel
theorem d_M_serve_117 : decode b_M_serve 117 = .ok (.lastore, 1) := by decide +kernel
theorem d_M_serve_118 : decode b_M_serve 118 = .ok (.aload_n 0, 1) := by decide +kernel
theorem d_M_serve_119 : decode b_M_serve 119 = .ok (.getfield 59, 3) := by decide +kernel
theorem d_M_serve_122 : decode b_M_serve 122 = .ok (.iload_n 3, 1) := by decide +kernel
theorem d_M_serve_123 : decode b_M_serve 123 = .ok (.dup2, 1) := by decide +kernel
theorem d_M_serve_124 : decode b_M_serve 124 = .ok (.laload, 1) := by decide +kernel
theorem d_M_serve_125 : decode b_M_serve 125 = .ok (.lload 6, 2) := by decide +kernel
theorem d_M_serve_127 : decode b_M_serve 127 = .ok (.lsub, 1) := by decide +kernel
theorem d_M_serve_128 : decode b_M_serve 128 = .ok (.lastore, 1) := by decide +kernel
theorem d_M_serve_129 : decode b_M_serve 129 = .ok (.iinc 3 1, 3) := by decide +kernel
theorem d_M_serve_132 : decode b_M_serve 132 = .ok (.goto (-116), 3) := by decide +kernel
theorem d_M_serve_135 : decode b_M_serve 135 = .ok (.aload_n 0, 1) := by decide +kernel
theorem d_M_serve_136 : decode b_M_serve 136 = .ok (.getfield 63, 3) := by decide +kernel
theorem d_M_serve_139 : decode b_M_serve 139 = .ok (.iload_n 1, 1) := by decide +kernel
theorem d_M_serve_140 : decode b_M_serve 140 = .ok (.laload, 1) := by decide +kernel
theorem d_M_serve_141 : decode b_M_serve 141 = .ok (.aload_n 0, 1) := by decide +kernel
theorem d_M_serve_142 : decode b_M_serve 142 = .ok (.getfield 47, 3) := by decide +kernel
theorem d_M_serve_145 : decode b_M_serve 145 = .ok (.iload_n 1, 1) := by decide +kernel
theorem d_M_serve_146 : decode b_M_serve 146 = .ok (.iaload, 1) := by decide +kernel
theorem d_M_serve_147 : decode b_M_serve 147 = .ok (.i2l, 1) := by decide +kernel
theorem d_M_serve_148 : decode b_M_serve 148 = .ok (.lmul, 1) := by decide +kernel
theorem d_M_serve_149 : decode b_M_serve 149 = .ok (.lreturn, 1) := by decide +kernel
theorem d_M_value_0 : decode b_M_value 0 = .ok (.lconst 0, 1) := by decide +kernel
theorem d_M_value_1 : decode b_M_value 1 = .ok (.lstore_n 1, 1) := by decide +kernel
theorem d_M_value_2 : decode b_M_value 2 = .ok (.iconst 0, 1) := by decide +kernel
theorem d_M_value_3 : decode b_M_value 3 = .ok (.istore_n 3, 1) := by decide +kernel
theorem d_M_value_4 : decode b_M_value 4 = .ok (.iload_n 3, 1) := by decide +kernel
theorem d_M_value_5 : decode b_M_value 5 = .ok (.aload_n 0, 1) := by decide +kernel
theorem d_M_value_6 : decode b_M_value 6 = .ok (.getfield 117, 3) := by decide +kernel
theorem d_M_value_9 : decode b_M_value 9 = .ok (.if_icmp .ge 23, 3) := by decide +kernel
theorem d_M_value_12 : decode b_M_value 12 = .ok (.aload_n 0, 1) := by decide +kernel
theorem d_M_value_13 : decode b_M_value 13 = .ok (.getfield 66, 3) := by decide +kernel
theorem d_M_value_16 : decode b_M_value 16 = .ok (.iload_n 3, 1) := by decide +kernel
theorem d_M_value_17 : decode b_M_value 17 = .ok (.iconst 0, 1) := by decide +kernel
theorem d_M_value_18 : decode b_M_value 18 = .ok (.bastore, 1) := by decide +kernel
theorem d_M_value_19 : decode b_M_value 19 = .ok (.aload_n 0, 1) := by decide +kernel
theorem d_M_value_20 : decode b_M_value 20 = .ok (.getfield 63, 3) := by decide +kernel
theorem d_M_value_23 : decode b_M_value 23 = .ok (.iload_n 3, 1) := by decide +kernel
theorem d_M_value_24 : decode b_M_value 24 = .ok (.lconst 0, 1) := by decide +kernel
theorem d_M_value_25 : decode b_M_value 25 = .ok (.lastore, 1) := by decide +kernel
theorem d_M_value_26 : decode b_M_value 26 = .ok (.iinc 3 1, 3) := by decide +kernel
theorem d_M_value_29 : decode b_M_value 29 = .ok (.goto (-25), 3) := by decide +kernel
theorem d_M_value_32 : decode b_M_value 32 = .ok (.iconst 0, 1) := by decide +kernel
theorem d_M_value_33 : decode b_M_value 33 = .ok (.istore_n 3, 1) := by decide +kernel
theorem d_M_value_34 : decode b_M_value 34 = .ok (.iload_n 3, 1) := by decide +kernel
theorem d_M_value_35 : decode b_M_value 35 = .ok (.aload_n 0, 1) := by decide +kernel
theorem d_M_value_36 : decode b_M_value 36 = .ok (.getfield 75, 3) := by decide +kernel
theorem d_M_value_39 : decode b_M_value 39 = .ok (.if_icmp .ge 138, 3) := by decide +kernel
theorem d_M_value_42 : decode b_M_value 42 = .ok (.iconst 0, 1) := by decide +kernel
theorem d_M_value_43 : decode b_M_value 43 = .ok (.istore 4, 2) := by decide +kernel
theorem d_M_value_45 : decode b_M_value 45 = .ok (.iload 4, 2) := by decide +kernel
theorem d_M_value_47 : decode b_M_value 47 = .ok (.aload_n 0, 1) := by decide +kernel
theorem d_M_value_48 : decode b_M_value 48 = .ok (.getfield 101, 3) := by decide +kernel
theorem d_M_value_51 : decode b_M_value 51 = .ok (.if_icmp .ge 38, 3) := by decide +kernel
theorem d_M_value_54 : decode b_M_value 54 = .ok (.aload_n 0, 1) := by decide +kernel
theorem d_M_value_55 : decode b_M_value 55 = .ok (.getfield 59, 3) := by decide +kernel
theorem d_M_value_58 : decode b_M_value 58 = .ok (.iload 4, 2) := by decide +kernel
theorem d_M_value_60 : decode b_M_value 60 = .ok (.aload_n 0, 1) := by decide +kernel
theorem d_M_value_61 : decode b_M_value 61 = .ok (.getfield 53, 3) := by decide +kernel
theorem d_M_value_64 : decode b_M_value 64 = .ok (.iload 4, 2) := by decide +kernel
theorem d_M_value_66 : decode b_M_value 66 = .ok (.iaload, 1) := by decide +kernel
theorem d_M_value_67 : decode b_M_value 67 = .ok (.iload_n 3, 1) := by decide +kernel
theorem d_M_value_68 : decode b_M_value 68 = .ok (.if_icmp .ne 13, 3) := by decide +kernel
theorem d_M_value_71 : decode b_M_value 71 = .ok (.aload_n 0, 1) := by decide +kernel
theorem d_M_value_72 : decode b_M_value 72 = .ok (.iload 4, 2) := by decide +kernel
theorem d_M_value_74 : decode b_M_value 74 = .ok (.iload_n 3, 1) := by decide +kernel
theorem d_M_value_75 : decode b_M_value 75 = .ok (.invokevirtual 108, 3) := by decide +kernel
theorem d_M_value_78 : decode b_M_value 78 = .ok (.goto 4, 3) := by decide +kernel
theorem d_M_value_81 : decode b_M_value 81 = .ok (.lconst 0, 1) := by decide +kernel
theorem d_M_value_82 : decode b_M_value 82 = .ok (.lastore, 1) := by decide +kernel
theorem d_M_value_83 : decode b_M_value 83 = .ok (.iinc 4 1, 3) := by decide +kernel
theorem d_M_value_86 : decode b_M_value 86 = .ok (.goto (-41), 3) := by decide +kernel
theorem d_M_value_89 : decode b_M_value 89 = .ok (.aload_n 0, 1) := by decide +kernel
theorem d_M_value_90 : decode b_M_value 90 = .ok (.iload_n 3, 1) := by decide +kernel
theorem d_M_value_91 : decode b_M_value 91 = .ok (.invokevirtual 148, 3) := by decide +kernel
theorem d_M_value_94 : decode b_M_value 94 = .ok (.istore 4, 2) := by decide +kernel
theorem d_M_value_96 : decode b_M_value 96 = .ok (.iload 4, 2) := by decide +kernel
theorem d_M_value_98 : decode b_M_value 98 = .ok (.iconst (-1), 1) := by decide +kernel
theorem d_M_value_99 : decode b_M_value 99 = .ok (.if_icmp .eq 23, 3) := by decide +kernel
theorem d_M_value_102 : decode b_M_value 102 = .ok (.lload_n 1, 1) := by decide +kernel
theorem d_M_value_103 : decode b_M_value 103 = .ok (.aload_n 0, 1) := by decide +kernel
theorem d_M_value_104 : decode b_M_value 104 = .ok (.iload 4, 2) := by decide +kernel
theorem d_M_value_106 : decode b_M_value 106 = .ok (.iload_n 3, 1) := by decide +kernel
theorem d_M_value_107 : decode b_M_value 107 = .ok (.invokevirtual 152, 3) := by decide +kernel
theorem d_M_value_110 : decode b_M_value 110 = .ok (.ladd, 1) := by decide +kernel
theorem d_M_value_111 : decode b_M_value 111 = .ok (.lstore_n 1, 1) := by decide +kernel
theorem d_M_value_112 : decode b_M_value 112 = .ok (.aload_n 0, 1) := by decide +kernel
theorem d_M_value_113 : decode b_M_value 113 = .ok (.iload_n 3, 1) := by decide +kernel
theorem d_M_value_114 : decode b_M_value 114 = .ok (.invokevirtual 148, 3) := by decide +kernel
theorem d_M_value_117 : decode b_M_value 117 = .ok (.istore 4, 2) := by decide +kernel
theorem d_M_value_119 : decode b_M_value 119 = .ok (.goto (-23), 3) := by decide +kernel
theorem d_M_value_122 : decode b_M_value 122 = .ok (.iconst 0, 1) := by decide +kernel
theorem d_M_value_123 : decode b_M_value 123 = .ok (.istore 5, 2) := by decide +kernel
theorem d_M_value_125 : decode b_M_value 125 = .ok (.iload 5, 2) := by decide +kernel
theorem d_M_value_127 : decode b_M_value 127 = .ok (.aload_n 0, 1) := by decide +kernel
theorem d_M_value_128 : decode b_M_value 128 = .ok (.getfield 101, 3) := by decide +kernel
theorem d_M_value_131 : decode b_M_value 131 = .ok (.if_icmp .ge 40, 3) := by decide +kernel
theorem d_M_value_134 : decode b_M_value 134 = .ok (.lload_n 1, 1) := by decide +kernel
theorem d_M_value_135 : decode b_M_value 135 = .ok (.aload_n 0, 1) := by decide +kernel
theorem d_M_value_136 : decode b_M_value 136 = .ok (.getfield 53, 3) := by decide +kernel
theorem d_M_value_139 : decode b_M_value 139 = .ok (.iload 5, 2) := by decide +kernel
theorem d_M_value_141 : decode b_M_value 141 = .ok (.iaload, 1) := by decide +kernel
theorem d_M_value_142 : decode b_M_value 142 = .ok (.iload_n 3, 1) := by decide +kernel
theorem d_M_value_143 : decode b_M_value 143 = .ok (.if_icmp .ne 19, 3) := by decide +kernel
theorem d_M_value_146 : decode b_M_value 146 = .ok (.aload_n 0, 1) := by decide +kernel
theorem d_M_value_147 : decode b_M_value 147 = .ok (.getfield 59, 3) := by decide +kernel
theorem d_M_value_150 : decode b_M_value 150 = .ok (.iload 5, 2) := by decide +kernel
theorem d_M_value_152 : decode b_M_value 152 = .ok (.laload, 1) := by decide +kernel
theorem d_M_value_153 : decode b_M_value 153 = .ok (.aload_n 0, 1) := by decide +kernel
theorem d_M_value_154 : decode b_M_value 154 = .ok (.getfield 120, 3) := by decide +kernel
theorem d_M_value_157 : decode b_M_value 157 = .ok (.i2l, 1) := by decide +kernel
theorem d_M_value_158 : decode b_M_value 158 = .ok (.lmul, 1) := by decide +kernel
theorem d_M_value_159 : decode b_M_value 159 = .ok (.goto 4, 3) := by decide +kernel
theorem d_M_value_162 : decode b_M_value 162 = .ok (.lconst 0, 1) := by decide +kernel
theorem d_M_value_163 : decode b_M_value 163 = .ok (.ladd, 1) := by decide +kernel
theorem d_M_value_164 : decode b_M_value 164 = .ok (.lstore_n 1, 1) := by decide +kernel
theorem d_M_value_165 : decode b_M_value 165 = .ok (.iinc 5 1, 3) := by decide +kernel
theorem d_M_value_168 : decode b_M_value 168 = .ok (.goto (-43), 3) := by decide +kernel
theorem d_M_value_171 : decode b_M_value 171 = .ok (.iinc 3 1, 3) := by decide +kernel
theorem d_M_value_174 : decode b_M_value 174 = .ok (.goto (-140), 3) := by decide +kernel
theorem d_M_value_177 : decode b_M_value 177 = .ok (.iconst 0, 1) := by decide +kernel
theorem d_M_value_178 : decode b_M_value 178 = .ok (.istore_n 3, 1) := by decide +kernel
theorem d_M_value_179 : decode b_M_value 179 = .ok (.iload_n 3, 1) := by decide +kernel
theorem d_M_value_180 : decode b_M_value 180 = .ok (.aload_n 0, 1) := by decide +kernel
theorem d_M_value_181 : decode b_M_value 181 = .ok (.getfield 101, 3) := by decide +kernel
theorem d_M_value_184 : decode b_M_value 184 = .ok (.if_icmp .ge 46, 3) := by decide +kernel
theorem d_M_value_187 : decode b_M_value 187 = .ok (.lload_n 1, 1) := by decide +kernel
theorem d_M_value_188 : decode b_M_value 188 = .ok (.aload_n 0, 1) := by decide +kernel
theorem d_M_value_189 : decode b_M_value 189 = .ok (.getfield 53, 3) := by decide +kernel
theorem d_M_value_192 : decode b_M_value 192 = .ok (.iload_n 3, 1) := by decide +kernel
theorem d_M_value_193 : decode b_M_value 193 = .ok (.iaload, 1) := by decide +kernel
theorem d_M_value_194 : decode b_M_value 194 = .ok (.aload_n 0, 1) := by decide +kernel
theorem d_M_value_195 : decode b_M_value 195 = .ok (.getfield 75, 3) := by decide +kernel
theorem d_M_value_198 : decode b_M_value 198 = .ok (.if_icmp .ne 23, 3) := by decide +kernel
theorem d_M_value_201 : decode b_M_value 201 = .ok (.aload_n 0, 1) := by decide +kernel
theorem d_M_value_202 : decode b_M_value 202 = .ok (.iload_n 3, 1) := by decide +kernel
theorem d_M_value_203 : decode b_M_value 203 = .ok (.aload_n 0, 1) := by decide +kernel
theorem d_M_value_204 : decode b_M_value 204 = .ok (.getfield 75, 3) := by decide +kernel
theorem d_M_value_207 : decode b_M_value 207 = .ok (.iconst 1, 1) := by decide +kernel
theorem d_M_value_208 : decode b_M_value 208 = .ok (.isub, 1) := by decide +kernel
theorem d_M_value_209 : decode b_M_value 209 = .ok (.invokevirtual 108, 3) := by decide +kernel
theorem d_M_value_212 : decode b_M_value 212 = .ok (.aload_n 0, 1) := by decide +kernel
theorem d_M_value_213 : decode b_M_value 213 = .ok (.getfield 123, 3) := by decide +kernel
theorem d_M_value_216 : decode b_M_value 216 = .ok (.i2l, 1) := by decide +kernel
theorem d_M_value_217 : decode b_M_value 217 = .ok (.lmul, 1) := by decide +kernel
theorem d_M_value_218 : decode b_M_value 218 = .ok (.goto 4, 3) := by decide +kernel
theorem d_M_value_221 : decode b_M_value 221 = .ok (.lconst 0, 1) := by decide +kernel
theorem d_M_value_222 : decode b_M_value 222 = .ok (.ladd, 1) := by decide +kernel
theorem d_M_value_223 : decode b_M_value 223 = .ok (.lstore_n 1, 1) := by decide +kernel
theorem d_M_value_224 : decode b_M_value 224 = .ok (.iinc 3 1, 3) := by decide +kernel
theorem d_M_value_227 : decode b_M_value 227 = .ok (.goto (-48), 3) := by decide +kernel
theorem d_M_value_230 : decode b_M_value 230 = .ok (.lload_n 1, 1) := by decide +kernel
theorem d_M_value_231 : decode b_M_value 231 = .ok (.lreturn, 1) := by decide +kernel
theorem d_M_top_0 : decode b_M_top 0 = .ok (.iload_n 2, 1) := by decide +kernel
theorem d_M_top_1 : decode b_M_top 1 = .ok (.aload_n 0, 1) := by decide +kernel
theorem d_M_top_2 : decode b_M_top 2 = .ok (.getfield 75, 3) := by decide +kernel
theorem d_M_top_5 : decode b_M_top 5 = .ok (.if_icmp .ne 21, 3) := by decide +kernel
theorem d_M_top_8 : decode b_M_top 8 = .ok (.aload_n 0, 1) := by decide +kernel
theorem d_M_top_9 : decode b_M_top 9 = .ok (.iload_n 1, 1) := by decide +kernel
theorem d_M_top_10 : decode b_M_top 10 = .ok (.aload_n 0, 1) := by decide +kernel
theorem d_M_top_11 : decode b_M_top 11 = .ok (.getfield 75, 3) := by decide +kernel
theorem d_M_top_14 : decode b_M_top 14 = .ok (.iconst 1, 1) := by decide +kernel
theorem d_M_top_15 : decode b_M_top 15 = .ok (.isub, 1) := by decide +kernel
theorem d_M_top_16 : decode b_M_top 16 = .ok (.invokevirtual 108, 3) := by decide +kernel
theorem d_M_top_19 : decode b_M_top 19 = .ok (.aload_n 0, 1) := by decide +kernel
theorem d_M_top_20 : decode b_M_top 20 = .ok (.getfield 123, 3) := by decide +kernel
theorem d_M_top_23 : decode b_M_top 23 = .ok (.i2l, 1) := by decide +kernel
theorem d_M_top_24 : decode b_M_top 24 = .ok (.lmul, 1) := by decide +kernel
theorem d_M_top_25 : decode b_M_top 25 = .ok (.lreturn, 1) := by decide +kernel
theorem d_M_top_26 : decode b_M_top 26 = .ok (.aload_n 0, 1) := by decide +kernel
theorem d_M_top_27 : decode b_M_top 27 = .ok (.getfield 120, 3) := by decide +kernel
theorem d_M_top_30 : decode b_M_top 30 = .ok (.i2l, 1) := by decide +kernel
theorem d_M_top_31 : decode b_M_top 31 = .ok (.lstore_n 3, 1) := by decide +kernel
theorem d_M_top_32 : decode b_M_top 32 = .ok (.iconst 0, 1) := by decide +kernel
theorem d_M_top_33 : decode b_M_top 33 = .ok (.istore 5, 2) := by decide +kernel
theorem d_M_top_35 : decode b_M_top 35 = .ok (.iload 5, 2) := by decide +kernel
theorem d_M_top_37 : decode b_M_top 37 = .ok (.aload_n 0, 1) := by decide +kernel
theorem d_M_top_38 : decode b_M_top 38 = .ok (.getfield 117, 3) := by decide +kernel
theorem d_M_top_41 : decode b_M_top 41 = .ok (.if_icmp .ge 92, 3) := by decide +kernel
theorem d_M_top_44 : decode b_M_top 44 = .ok (.aload_n 0, 1) := by decide +kernel
theorem d_M_top_45 : decode b_M_top 45 = .ok (.getfield 35, 3) := by decide +kernel
theorem d_M_top_48 : decode b_M_top 48 = .ok (.iload 5, 2) := by decide +kernel
theorem d_M_top_50 : decode b_M_top 50 = .ok (.iaload, 1) := by decide +kernel
theorem d_M_top_51 : decode b_M_top 51 = .ok (.iload_n 2, 1) := by decide +kernel
theorem d_M_top_52 : decode b_M_top 52 = .ok (.if_icmp .ne 41, 3) := by decide +kernel
theorem d_M_top_55 : decode b_M_top 55 = .ok (.aload_n 0, 1) := by decide +kernel
theorem d_M_top_56 : decode b_M_top 56 = .ok (.getfield 20, 3) := by decide +kernel
theorem d_M_top_59 : decode b_M_top 59 = .ok (.bipush 8, 2) := by decide +kernel
theorem d_M_top_61 : decode b_M_top 61 = .ok (.iload_n 1, 1) := by decide +kernel
theorem d_M_top_62 : decode b_M_top 62 = .ok (.imul, 1) := by decide +kernel
theorem d_M_top_63 : decode b_M_top 63 = .ok (.iload_n 2, 1) := by decide +kernel
theorem d_M_top_64 : decode b_M_top 64 = .ok (.iadd, 1) := by decide +kernel
theorem d_M_top_65 : decode b_M_top 65 = .ok (.iaload, 1) := by decide +kernel
theorem d_M_top_66 : decode b_M_top 66 = .ok (.i2l, 1) := by decide +kernel
theorem d_M_top_67 : decode b_M_top 67 = .ok (.aload_n 0, 1) := by decide +kernel
theorem d_M_top_68 : decode b_M_top 68 = .ok (.getfield 38, 3) := by decide +kernel
theorem d_M_top_71 : decode b_M_top 71 = .ok (.iload 5, 2) := by decide +kernel
theorem d_M_top_73 : decode b_M_top 73 = .ok (.iaload, 1) := by decide +kernel
theorem d_M_top_74 : decode b_M_top 74 = .ok (.i2l, 1) := by decide +kernel
theorem d_M_top_75 : decode b_M_top 75 = .ok (.aload_n 0, 1) := by decide +kernel
theorem d_M_top_76 : decode b_M_top 76 = .ok (.getfield 41, 3) := by decide +kernel
theorem d_M_top_79 : decode b_M_top 79 = .ok (.iload 5, 2) := by decide +kernel
theorem d_M_top_81 : decode b_M_top 81 = .ok (.iaload, 1) := by decide +kernel
theorem d_M_top_82 : decode b_M_top 82 = .ok (.i2l, 1) := by decide +kernel
theorem d_M_top_83 : decode b_M_top 83 = .ok (.invokestatic 86, 3) := by decide +kernel
theorem d_M_top_86 : decode b_M_top 86 = .ok (.ifCond .eq 7, 3) := by decide +kernel
theorem d_M_top_89 : decode b_M_top 89 = .ok (.iconst 1, 1) := by decide +kernel
theorem d_M_top_90 : decode b_M_top 90 = .ok (.goto 4, 3) := by decide +kernel
theorem d_M_top_93 : decode b_M_top 93 = .ok (.iconst 0, 1) := by decide +kernel
theorem d_M_top_94 : decode b_M_top 94 = .ok (.istore 6, 2) := by decide +kernel
theorem d_M_top_96 : decode b_M_top 96 = .ok (.iload 6, 2) := by decide +kernel
theorem d_M_top_98 : decode b_M_top 98 = .ok (.ifCond .eq 27, 3) := by decide +kernel
theorem d_M_top_101 : decode b_M_top 101 = .ok (.aload_n 0, 1) := by decide +kernel
theorem d_M_top_102 : decode b_M_top 102 = .ok (.getfield 47, 3) := by decide +kernel
theorem d_M_top_105 : decode b_M_top 105 = .ok (.iload 5, 2) := by decide +kernel
theorem d_M_top_107 : decode b_M_top 107 = .ok (.iaload, 1) := by decide +kernel
theorem d_M_top_108 : decode b_M_top 108 = .ok (.i2l, 1) := by decide +kernel
theorem d_M_top_109 : decode b_M_top 109 = .ok (.lload_n 3, 1) := by decide +kernel
theorem d_M_top_110 : decode b_M_top 110 = .ok (.lcmp, 1) := by decide +kernel
theorem d_M_top_111 : decode b_M_top 111 = .ok (.ifCond .le 14, 3) := by decide +kernel
theorem d_M_top_114 : decode b_M_top 114 = .ok (.aload_n 0, 1) := by decide +kernel
theorem d_M_top_115 : decode b_M_top 115 = .ok (.getfield 47, 3) := by decide +kernel
theorem d_M_top_118 : decode b_M_top 118 = .ok (.iload 5, 2) := by decide +kernel
theorem d_M_top_120 : decode b_M_top 120 = .ok (.iaload, 1) := by decide +kernel
theorem d_M_top_121 : decode b_M_top 121 = .ok (.i2l, 1) := by decide +kernel
theorem d_M_top_122 : decode b_M_top 122 = .ok (.goto 4, 3) := by decide +kernel
theorem d_M_top_125 : decode b_M_top 125 = .ok (.lload_n 3, 1) := by decide +kernel
theorem d_M_top_126 : decode b_M_top 126 = .ok (.lstore_n 3, 1) := by decide +kernel
theorem d_M_top_127 : decode b_M_top 127 = .ok (.iinc 5 1, 3) := by decide +kernel
theorem d_M_top_130 : decode b_M_top 130 = .ok (.goto (-95), 3) := by decide +kernel
theorem d_M_top_133 : decode b_M_top 133 = .ok (.aload_n 0, 1) := by decide +kernel
theorem d_M_top_134 : decode b_M_top 134 = .ok (.iload_n 1, 1) := by decide +kernel
theorem d_M_top_135 : decode b_M_top 135 = .ok (.iload_n 2, 1) := by decide +kernel
theorem d_M_top_136 : decode b_M_top 136 = .ok (.invokevirtual 108, 3) := by decide +kernel
theorem d_M_top_139 : decode b_M_top 139 = .ok (.lload_n 3, 1) := by decide +kernel
theorem d_M_top_140 : decode b_M_top 140 = .ok (.lmul, 1) := by decide +kernel
theorem d_M_top_141 : decode b_M_top 141 = .ok (.lreturn, 1) := by decide +kernel
theorem d_M_greatestTop_0 : decode b_M_greatestTop 0 = .ok (.lconst 0, 1) := by decide +kernel
theorem d_M_greatestTop_1 : decode b_M_greatestTop 1 = .ok (.lstore_n 2, 1) := by decide +kernel
theorem d_M_greatestTop_2 : decode b_M_greatestTop 2 = .ok (.iconst 0, 1) := by decide +kernel
theorem d_M_greatestTop_3 : decode b_M_greatestTop 3 = .ok (.istore 4, 2) := by decide +kernel
theorem d_M_greatestTop_5 : decode b_M_greatestTop 5 = .ok (.iload 4, 2) := by decide +kernel
theorem d_M_greatestTop_7 : decode b_M_greatestTop 7 = .ok (.aload_n 0, 1) := by decide +kernel
theorem d_M_greatestTop_8 : decode b_M_greatestTop 8 = .ok (.getfield 75, 3) := by decide +kernel
theorem d_M_greatestTop_11 : decode b_M_greatestTop 11 = .ok (.if_icmp .gt 33, 3) := by decide +kernel
theorem d_M_greatestTop_14 : decode b_M_greatestTop 14 = .ok (.aload_n 0, 1) := by decide +kernel
theorem d_M_greatestTop_15 : decode b_M_greatestTop 15 = .ok (.iload_n 1, 1) := by decide +kernel
theorem d_M_greatestTop_16 : decode b_M_greatestTop 16 = .ok (.iload 4, 2) := by decide +kernel
theorem d_M_greatestTop_18 : decode b_M_greatestTop 18 = .ok (.invokevirtual 155, 3) := by decide +kernel
theorem d_M_greatestTop_21 : decode b_M_greatestTop 21 = .ok (.lload_n 2, 1) := by decide +kernel
theorem d_M_greatestTop_22 : decode b_M_greatestTop 22 = .ok (.lcmp, 1) := by decide +kernel
theorem d_M_greatestTop_23 : decode b_M_greatestTop 23 = .ok (.ifCond .le 13, 3) := by decide +kernel
theorem d_M_greatestTop_26 : decode b_M_greatestTop 26 = .ok (.aload_n 0, 1) := by decide +kernel
theorem d_M_greatestTop_27 : decode b_M_greatestTop 27 = .ok (.iload_n 1, 1) := by decide +kernel
theorem d_M_greatestTop_28 : decode b_M_greatestTop 28 = .ok (.iload 4, 2) := by decide +kernel
theorem d_M_greatestTop_30 : decode b_M_greatestTop 30 = .ok (.invokevirtual 155, 3) := by decide +kernel
theorem d_M_greatestTop_33 : decode b_M_greatestTop 33 = .ok (.goto 4, 3) := by decide +kernel
theorem d_M_greatestTop_36 : decode b_M_greatestTop 36 = .ok (.lload_n 2, 1) := by decide +kernel
theorem d_M_greatestTop_37 : decode b_M_greatestTop 37 = .ok (.lstore_n 2, 1) := by decide +kernel
theorem d_M_greatestTop_38 : decode b_M_greatestTop 38 = .ok (.iinc 4 1, 3) := by decide +kernel
theorem d_M_greatestTop_41 : decode b_M_greatestTop 41 = .ok (.goto (-36), 3) := by decide +kernel
theorem d_M_greatestTop_44 : decode b_M_greatestTop 44 = .ok (.lload_n 2, 1) := by decide +kernel
theorem d_M_greatestTop_45 : decode b_M_greatestTop 45 = .ok (.lreturn, 1) := by decide +kernel
theorem d_M_hopeOf_0 : decode b_M_hopeOf 0 = .ok (.lconst 0, 1) := by decide +kernel
theorem d_M_hopeOf_1 : decode b_M_hopeOf 1 = .ok (.lstore_n 2, 1) := by decide +kernel
theorem d_M_hopeOf_2 : decode b_M_hopeOf 2 = .ok (.iconst 0, 1) := by decide +kernel
theorem d_M_hopeOf_3 : decode b_M_hopeOf 3 = .ok (.istore 4, 2) := by decide +kernel
theorem d_M_hopeOf_5 : decode b_M_hopeOf 5 = .ok (.iload 4, 2) := by decide +kernel
theorem d_M_hopeOf_7 : decode b_M_hopeOf 7 = .ok (.aload_n 0, 1) := by decide +kernel
theorem d_M_hopeOf_8 : decode b_M_hopeOf 8 = .ok (.getfield 101, 3) := by decide +kernel
theorem d_M_hopeOf_11 : decode b_M_hopeOf 11 = .ok (.if_icmp .ge 40, 3) := by decide +kernel
theorem d_M_hopeOf_14 : decode b_M_hopeOf 14 = .ok (.lload_n 2, 1) := by decide +kernel
theorem d_M_hopeOf_15 : decode b_M_hopeOf 15 = .ok (.iload 4, 2) := by decide +kernel
theorem d_M_hopeOf_17 : decode b_M_hopeOf 17 = .ok (.iload_n 1, 1) := by decide +kernel
theorem d_M_hopeOf_18 : decode b_M_hopeOf 18 = .ok (.if_icmp .ge 19, 3) := by decide +kernel
theorem d_M_hopeOf_21 : decode b_M_hopeOf 21 = .ok (.aload_n 0, 1) := by decide +kernel
theorem d_M_hopeOf_22 : decode b_M_hopeOf 22 = .ok (.iload 4, 2) := by decide +kernel
theorem d_M_hopeOf_24 : decode b_M_hopeOf 24 = .ok (.aload_n 0, 1) := by decide +kernel
theorem d_M_hopeOf_25 : decode b_M_hopeOf 25 = .ok (.getfield 53, 3) := by decide +kernel
theorem d_M_hopeOf_28 : decode b_M_hopeOf 28 = .ok (.iload 4, 2) := by decide +kernel
theorem d_M_hopeOf_30 : decode b_M_hopeOf 30 = .ok (.iaload, 1) := by decide +kernel
theorem d_M_hopeOf_31 : decode b_M_hopeOf 31 = .ok (.invokevirtual 155, 3) := by decide +kernel
theorem d_M_hopeOf_34 : decode b_M_hopeOf 34 = .ok (.goto 9, 3) := by decide +kernel
theorem d_M_hopeOf_37 : decode b_M_hopeOf 37 = .ok (.aload_n 0, 1) := by decide +kernel
theorem d_M_hopeOf_38 : decode b_M_hopeOf 38 = .ok (.iload 4, 2) := by decide +kernel
theorem d_M_hopeOf_40 : decode b_M_hopeOf 40 = .ok (.invokevirtual 158, 3) := by decide +kernel
theorem d_M_hopeOf_43 : decode b_M_hopeOf 43 = .ok (.ladd, 1) := by decide +kernel
theorem d_M_hopeOf_44 : decode b_M_hopeOf 44 = .ok (.lstore_n 2, 1) := by decide +kernel
theorem d_M_hopeOf_45 : decode b_M_hopeOf 45 = .ok (.iinc 4 1, 3) := by decide +kernel
theorem d_M_hopeOf_48 : decode b_M_hopeOf 48 = .ok (.goto (-43), 3) := by decide +kernel
theorem d_M_hopeOf_51 : decode b_M_hopeOf 51 = .ok (.lload_n 2, 1) := by decide +kernel
theorem d_M_hopeOf_52 : decode b_M_hopeOf 52 = .ok (.lreturn, 1) := by decide +kernel
theorem d_M_meet_0 : decode b_M_meet 0 = .ok (.aload_n 0, 1) := by decide +kernel
theorem d_M_meet_1 : decode b_M_meet 1 = .ok (.aload_n 0, 1) := by decide +kernel
theorem d_M_meet_2 : decode b_M_meet 2 = .ok (.getfield 101, 3) := by decide +kernel
theorem d_M_meet_5 : decode b_M_meet 5 = .ok (.iconst 1, 1) := by decide +kernel
theorem d_M_meet_6 : decode b_M_meet 6 = .ok (.invokevirtual 162, 3) := by decide +kernel
theorem d_M_meet_9 : decode b_M_meet 9 = .ok (.ifCond .ne 4, 3) := by decide +kernel
theorem d_M_meet_12 : decode b_M_meet 12 = .ok (.return_, 1) := by decide +kernel
theorem d_M_meet_13 : decode b_M_meet 13 = .ok (.aload_n 0, 1) := by decide +kernel
theorem d_M_meet_14 : decode b_M_meet 14 = .ok (.invokevirtual 166, 3) := by decide +kernel
theorem d_M_meet_17 : decode b_M_meet 17 = .ok (.lstore_n 1, 1) := by decide +kernel
theorem d_M_meet_18 : decode b_M_meet 18 = .ok (.aload_n 0, 1) := by decide +kernel
theorem d_M_meet_19 : decode b_M_meet 19 = .ok (.getfield 170, 3) := by decide +kernel
theorem d_M_meet_22 : decode b_M_meet 22 = .ok (.ifCond .eq 12, 3) := by decide +kernel
theorem d_M_meet_25 : decode b_M_meet 25 = .ok (.lload_n 1, 1) := by decide +kernel
theorem d_M_meet_26 : decode b_M_meet 26 = .ok (.aload_n 0, 1) := by decide +kernel
theorem d_M_meet_27 : decode b_M_meet 27 = .ok (.getfield 173, 3) := by decide +kernel
theorem d_M_meet_30 : decode b_M_meet 30 = .ok (.lcmp, 1) := by decide +kernel
theorem d_M_meet_31 : decode b_M_meet 31 = .ok (.ifCond .le 41, 3) := by decide +kernel
theorem d_M_meet_34 : decode b_M_meet 34 = .ok (.aload_n 0, 1) := by decide +kernel
theorem d_M_meet_35 : decode b_M_meet 35 = .ok (.iconst 1, 1) := by decide +kernel
theorem d_M_meet_36 : decode b_M_meet 36 = .ok (.putfield 170, 3) := by decide +kernel
theorem d_M_meet_39 : decode b_M_meet 39 = .ok (.aload_n 0, 1) := by decide +kernel
theorem d_M_meet_40 : decode b_M_meet 40 = .ok (.lload_n 1, 1) := by decide +kernel
theorem d_M_meet_41 : decode b_M_meet 41 = .ok (.putfield 173, 3) := by decide +kernel
theorem d_M_meet_44 : decode b_M_meet 44 = .ok (.iconst 0, 1) := by decide +kernel
theorem d_M_meet_45 : decode b_M_meet 45 = .ok (.istore_n 3, 1) := by decide +kernel
theorem d_M_meet_46 : decode b_M_meet 46 = .ok (.iload_n 3, 1) := by decide +kernel
theorem d_M_meet_47 : decode b_M_meet 47 = .ok (.aload_n 0, 1) := by decide +kernel
theorem d_M_meet_48 : decode b_M_meet 48 = .ok (.getfield 101, 3) := by decide +kernel
theorem d_M_meet_51 : decode b_M_meet 51 = .ok (.if_icmp .ge 21, 3) := by decide +kernel
theorem d_M_meet_54 : decode b_M_meet 54 = .ok (.aload_n 0, 1) := by decide +kernel
theorem d_M_meet_55 : decode b_M_meet 55 = .ok (.getfield 56, 3) := by decide +kernel
theorem d_M_meet_58 : decode b_M_meet 58 = .ok (.iload_n 3, 1) := by decide +kernel
theorem d_M_meet_59 : decode b_M_meet 59 = .ok (.aload_n 0, 1) := by decide +kernel
theorem d_M_meet_60 : decode b_M_meet 60 = .ok (.getfield 53, 3) := by decide +kernel
theorem d_M_meet_63 : decode b_M_meet 63 = .ok (.iload_n 3, 1) := by decide +kernel
theorem d_M_meet_64 : decode b_M_meet 64 = .ok (.iaload, 1) := by decide +kernel
theorem d_M_meet_65 : decode b_M_meet 65 = .ok (.iastore, 1) := by decide +kernel
theorem d_M_meet_66 : decode b_M_meet 66 = .ok (.iinc 3 1, 3) := by decide +kernel
theorem d_M_meet_69 : decode b_M_meet 69 = .ok (.goto (-23), 3) := by decide +kernel
theorem d_M_meet_72 : decode b_M_meet 72 = .ok (.return_, 1) := by decide +kernel
theorem d_M_search_0 : decode b_M_search 0 = .ok (.iconst 0, 1) := by decide +kernel
theorem d_M_search_1 : decode b_M_search 1 = .ok (.istore_n 2, 1) := by decide +kernel
theorem d_M_search_2 : decode b_M_search 2 = .ok (.aload_n 0, 1) := by decide +kernel
theorem d_M_search_3 : decode b_M_search 3 = .ok (.getfield 53, 3) := by decide +kernel
theorem d_M_search_6 : decode b_M_search 6 = .ok (.iconst 0, 1) := by decide +kernel
theorem d_M_search_7 : decode b_M_search 7 = .ok (.iconst (-1), 1) := by decide +kernel
theorem d_M_search_8 : decode b_M_search 8 = .ok (.iastore, 1) := by decide +kernel
theorem d_M_search_9 : decode b_M_search 9 = .ok (.iload_n 2, 1) := by decide +kernel
theorem d_M_search_10 : decode b_M_search 10 = .ok (.ifCond .lt 115, 3) := by decide +kernel
theorem d_M_search_13 : decode b_M_search 13 = .ok (.aload_n 0, 1) := by decide +kernel
theorem d_M_search_14 : decode b_M_search 14 = .ok (.getfield 53, 3) := by decide +kernel
theorem d_M_search_17 : decode b_M_search 17 = .ok (.iload_n 2, 1) := by decide +kernel
theorem d_M_search_18 : decode b_M_search 18 = .ok (.dup2, 1) := by decide +kernel
theorem d_M_search_19 : decode b_M_search 19 = .ok (.iaload, 1) := by decide +kernel
theorem d_M_search_20 : decode b_M_search 20 = .ok (.iconst 1, 1) := by decide +kernel
theorem d_M_search_21 : decode b_M_search 21 = .ok (.iadd, 1) := by decide +kernel
theorem d_M_search_22 : decode b_M_search 22 = .ok (.iastore, 1) := by decide +kernel
theorem d_M_search_23 : decode b_M_search 23 = .ok (.aload_n 0, 1) := by decide +kernel
theorem d_M_search_24 : decode b_M_search 24 = .ok (.getfield 53, 3) := by decide +kernel
theorem d_M_search_27 : decode b_M_search 27 = .ok (.iload_n 2, 1) := by decide +kernel
theorem d_M_search_28 : decode b_M_search 28 = .ok (.iaload, 1) := by decide +kernel
theorem d_M_search_29 : decode b_M_search 29 = .ok (.aload_n 0, 1) := by decide +kernel
theorem d_M_search_30 : decode b_M_search 30 = .ok (.getfield 75, 3) := by decide +kernel
theorem d_M_search_33 : decode b_M_search 33 = .ok (.if_icmp .le 9, 3) := by decide +kernel
theorem d_M_search_36 : decode b_M_search 36 = .ok (.iinc 2 (-1), 3) := by decide +kernel
theorem d_M_search_39 : decode b_M_search 39 = .ok (.goto (-30), 3) := by decide +kernel
theorem d_M_search_42 : decode b_M_search 42 = .ok (.aload_n 0, 1) := by decide +kernel
theorem d_M_search_43 : decode b_M_search 43 = .ok (.iload_n 2, 1) := by decide +kernel
theorem d_M_search_44 : decode b_M_search 44 = .ok (.iconst 1, 1) := by decide +kernel
theorem d_M_search_45 : decode b_M_search 45 = .ok (.iadd, 1) := by decide +kernel
theorem d_M_search_46 : decode b_M_search 46 = .ok (.iconst 0, 1) := by decide +kernel
theorem d_M_search_47 : decode b_M_search 47 = .ok (.invokevirtual 162, 3) := by decide +kernel
theorem d_M_search_50 : decode b_M_search 50 = .ok (.ifCond .eq (-41), 3) := by decide +kernel
theorem d_M_search_53 : decode b_M_search 53 = .ok (.aload_n 0, 1) := by decide +kernel
theorem d_M_search_54 : decode b_M_search 54 = .ok (.getfield 177, 3) := by decide +kernel
theorem d_M_search_57 : decode b_M_search 57 = .ok (.iload_n 1, 1) := by decide +kernel
theorem d_M_search_58 : decode b_M_search 58 = .ok (.if_icmp .ne 5, 3) := by decide +kernel
theorem d_M_search_61 : decode b_M_search 61 = .ok (.iconst 1, 1) := by decide +kernel
theorem d_M_search_62 : decode b_M_search 62 = .ok (.ireturn, 1) := by decide +kernel
theorem d_M_search_63 : decode b_M_search 63 = .ok (.aload_n 0, 1) := by decide +kernel
theorem d_M_search_64 : decode b_M_search 64 = .ok (.dup, 1) := by decide +kernel
theorem d_M_search_65 : decode b_M_search 65 = .ok (.getfield 177, 3) := by decide +kernel
theorem d_M_search_68 : decode b_M_search 68 = .ok (.iconst 1, 1) := by decide +kernel
theorem d_M_search_69 : decode b_M_search 69 = .ok (.iadd, 1) := by decide +kernel
theorem d_M_search_70 : decode b_M_search 70 = .ok (.putfield 177, 3) := by decide +kernel
theorem d_M_search_73 : decode b_M_search 73 = .ok (.iload_n 2, 1) := by decide +kernel
theorem d_M_search_74 : decode b_M_search 74 = .ok (.aload_n 0, 1) := by decide +kernel
theorem d_M_search_75 : decode b_M_search 75 = .ok (.getfield 101, 3) := by decide +kernel
theorem d_M_search_78 : decode b_M_search 78 = .ok (.iconst 1, 1) := by decide +kernel
theorem d_M_search_79 : decode b_M_search 79 = .ok (.isub, 1) := by decide +kernel
theorem d_M_search_80 : decode b_M_search 80 = .ok (.if_icmp .ne 10, 3) := by decide +kernel
theorem d_M_search_83 : decode b_M_search 83 = .ok (.aload_n 0, 1) := by decide +kernel
theorem d_M_search_84 : decode b_M_search 84 = .ok (.invokevirtual 180, 3) := by decide +kernel
theorem d_M_search_87 : decode b_M_search 87 = .ok (.goto (-78), 3) := by decide +kernel
theorem d_M_search_90 : decode b_M_search 90 = .ok (.aload_n 0, 1) := by decide +kernel
theorem d_M_search_91 : decode b_M_search 91 = .ok (.getfield 170, 3) := by decide +kernel
theorem d_M_search_94 : decode b_M_search 94 = .ok (.ifCond .eq 18, 3) := by decide +kernel
theorem d_M_search_97 : decode b_M_search 97 = .ok (.aload_n 0, 1) := by decide +kernel
theorem d_M_search_98 : decode b_M_search 98 = .ok (.iload_n 2, 1) := by decide +kernel
theorem d_M_search_99 : decode b_M_search 99 = .ok (.iconst 1, 1) := by decide +kernel
theorem d_M_search_100 : decode b_M_search 100 = .ok (.iadd, 1) := by decide +kernel
theorem d_M_search_101 : decode b_M_search 101 = .ok (.invokevirtual 183, 3) := by decide +kernel
theorem d_M_search_104 : decode b_M_search 104 = .ok (.aload_n 0, 1) := by decide +kernel
theorem d_M_search_105 : decode b_M_search 105 = .ok (.getfield 173, 3) := by decide +kernel
theorem d_M_search_108 : decode b_M_search 108 = .ok (.lcmp, 1) := by decide +kernel
theorem d_M_search_109 : decode b_M_search 109 = .ok (.ifCond .le (-100), 3) := by decide +kernel
theorem d_M_search_112 : decode b_M_search 112 = .ok (.iinc 2 1, 3) := by decide +kernel
theorem d_M_search_115 : decode b_M_search 115 = .ok (.aload_n 0, 1) := by decide +kernel
theorem d_M_search_116 : decode b_M_search 116 = .ok (.getfield 53, 3) := by decide +kernel
theorem d_M_search_119 : decode b_M_search 119 = .ok (.iload_n 2, 1) := by decide +kernel
theorem d_M_search_120 : decode b_M_search 120 = .ok (.iconst (-1), 1) := by decide +kernel
theorem d_M_search_121 : decode b_M_search 121 = .ok (.iastore, 1) := by decide +kernel
theorem d_M_search_122 : decode b_M_search 122 = .ok (.goto (-113), 3) := by decide +kernel
theorem d_M_search_125 : decode b_M_search 125 = .ok (.iconst 0, 1) := by decide +kernel
theorem d_M_search_126 : decode b_M_search 126 = .ok (.ireturn, 1) := by decide +kernel
theorem d_M_run_0 : decode b_M_run 0 = .ok (.aload_n 0, 1) := by decide +kernel
theorem d_M_run_1 : decode b_M_run 1 = .ok (.iload_n 1, 1) := by decide +kernel
theorem d_M_run_2 : decode b_M_run 2 = .ok (.i2l, 1) := by decide +kernel
theorem d_M_run_3 : decode b_M_run 3 = .ok (.lconst 1, 1) := by decide +kernel
theorem d_M_run_4 : decode b_M_run 4 = .ok (.ldc2_w 186, 3) := by decide +kernel
theorem d_M_run_7 : decode b_M_run 7 = .ok (.invokestatic 86, 3) := by decide +kernel
theorem d_M_run_10 : decode b_M_run 10 = .ok (.iconst 1, 1) := by decide +kernel
theorem d_M_run_11 : decode b_M_run 11 = .ok (.invokevirtual 93, 3) := by decide +kernel
theorem d_M_run_14 : decode b_M_run 14 = .ok (.ifCond .eq 5, 3) := by decide +kernel
theorem d_M_run_17 : decode b_M_run 17 = .ok (.iconst 0, 1) := by decide +kernel
theorem d_M_run_18 : decode b_M_run 18 = .ok (.ireturn, 1) := by decide +kernel
theorem d_M_run_19 : decode b_M_run 19 = .ok (.aload_n 0, 1) := by decide +kernel
theorem d_M_run_20 : decode b_M_run 20 = .ok (.iconst 0, 1) := by decide +kernel
theorem d_M_run_21 : decode b_M_run 21 = .ok (.putfield 177, 3) := by decide +kernel
theorem d_M_run_24 : decode b_M_run 24 = .ok (.aload_n 0, 1) := by decide +kernel
theorem d_M_run_25 : decode b_M_run 25 = .ok (.iconst 0, 1) := by decide +kernel
theorem d_M_run_26 : decode b_M_run 26 = .ok (.putfield 170, 3) := by decide +kernel
theorem d_M_run_29 : decode b_M_run 29 = .ok (.iconst 0, 1) := by decide +kernel
theorem d_M_run_30 : decode b_M_run 30 = .ok (.istore_n 2, 1) := by decide +kernel
theorem d_M_run_31 : decode b_M_run 31 = .ok (.aload_n 0, 1) := by decide +kernel
theorem d_M_run_32 : decode b_M_run 32 = .ok (.getfield 101, 3) := by decide +kernel
theorem d_M_run_35 : decode b_M_run 35 = .ok (.ifCond .ne 10, 3) := by decide +kernel
theorem d_M_run_38 : decode b_M_run 38 = .ok (.aload_n 0, 1) := by decide +kernel
theorem d_M_run_39 : decode b_M_run 39 = .ok (.invokevirtual 180, 3) := by decide +kernel
theorem d_M_run_42 : decode b_M_run 42 = .ok (.goto 9, 3) := by decide +kernel
theorem d_M_run_45 : decode b_M_run 45 = .ok (.aload_n 0, 1) := by decide +kernel
theorem d_M_run_46 : decode b_M_run 46 = .ok (.iload_n 1, 1) := by decide +kernel
theorem d_M_run_47 : decode b_M_run 47 = .ok (.invokevirtual 188, 3) := by decide +kernel
theorem d_M_run_50 : decode b_M_run 50 = .ok (.istore_n 2, 1) := by decide +kernel
theorem d_M_run_51 : decode b_M_run 51 = .ok (.aload_n 0, 1) := by decide +kernel
theorem d_M_run_52 : decode b_M_run 52 = .ok (.aload_n 0, 1) := by decide +kernel
theorem d_M_run_53 : decode b_M_run 53 = .ok (.getfield 170, 3) := by decide +kernel
theorem d_M_run_56 : decode b_M_run 56 = .ok (.putfield 97, 3) := by decide +kernel
theorem d_M_run_59 : decode b_M_run 59 = .ok (.iconst 0, 1) := by decide +kernel
theorem d_M_run_60 : decode b_M_run 60 = .ok (.istore_n 3, 1) := by decide +kernel
theorem d_M_run_61 : decode b_M_run 61 = .ok (.iload_n 3, 1) := by decide +kernel
theorem d_M_run_62 : decode b_M_run 62 = .ok (.aload_n 0, 1) := by decide +kernel
theorem d_M_run_63 : decode b_M_run 63 = .ok (.getfield 101, 3) := by decide +kernel
theorem d_M_run_66 : decode b_M_run 66 = .ok (.if_icmp .ge 28, 3) := by decide +kernel
theorem d_M_run_69 : decode b_M_run 69 = .ok (.aload_n 0, 1) := by decide +kernel
theorem d_M_run_70 : decode b_M_run 70 = .ok (.getfield 170, 3) := by decide +kernel
theorem d_M_run_73 : decode b_M_run 73 = .ok (.ifCond .eq 21, 3) := by decide +kernel
theorem d_M_run_76 : decode b_M_run 76 = .ok (.aload_n 0, 1) := by decide +kernel
theorem d_M_run_77 : decode b_M_run 77 = .ok (.getfield 50, 3) := by decide +kernel
theorem d_M_run_80 : decode b_M_run 80 = .ok (.iload_n 3, 1) := by decide +kernel
theorem d_M_run_81 : decode b_M_run 81 = .ok (.aload_n 0, 1) := by decide +kernel
theorem d_M_run_82 : decode b_M_run 82 = .ok (.getfield 56, 3) := by decide +kernel
theorem d_M_run_85 : decode b_M_run 85 = .ok (.iload_n 3, 1) := by decide +kernel
theorem d_M_run_86 : decode b_M_run 86 = .ok (.iaload, 1) := by decide +kernel
theorem d_M_run_87 : decode b_M_run 87 = .ok (.iastore, 1) := by decide +kernel
theorem d_M_run_88 : decode b_M_run 88 = .ok (.iinc 3 1, 3) := by decide +kernel
theorem d_M_run_91 : decode b_M_run 91 = .ok (.goto (-30), 3) := by decide +kernel
theorem d_M_run_94 : decode b_M_run 94 = .ok (.aload_n 0, 1) := by decide +kernel
theorem d_M_run_95 : decode b_M_run 95 = .ok (.getfield 170, 3) := by decide +kernel
theorem d_M_run_98 : decode b_M_run 98 = .ok (.ifCond .eq 15, 3) := by decide +kernel
theorem d_M_run_101 : decode b_M_run 101 = .ok (.iload_n 2, 1) := by decide +kernel
theorem d_M_run_102 : decode b_M_run 102 = .ok (.ifCond .eq 7, 3) := by decide +kernel
theorem d_M_run_105 : decode b_M_run 105 = .ok (.iconst 1, 1) := by decide +kernel
theorem d_M_run_106 : decode b_M_run 106 = .ok (.goto 16, 3) := by decide +kernel
theorem d_M_run_109 : decode b_M_run 109 = .ok (.iconst 0, 1) := by decide +kernel
theorem d_M_run_110 : decode b_M_run 110 = .ok (.goto 12, 3) := by decide +kernel
theorem d_M_run_113 : decode b_M_run 113 = .ok (.iload_n 2, 1) := by decide +kernel
theorem d_M_run_114 : decode b_M_run 114 = .ok (.ifCond .eq 7, 3) := by decide +kernel
theorem d_M_run_117 : decode b_M_run 117 = .ok (.iconst 3, 1) := by decide +kernel
theorem d_M_run_118 : decode b_M_run 118 = .ok (.goto 4, 3) := by decide +kernel
theorem d_M_run_121 : decode b_M_run 121 = .ok (.iconst 2, 1) := by decide +kernel
theorem d_M_run_122 : decode b_M_run 122 = .ok (.ireturn, 1) := by decide +kernel
theorem d_M_nodes_0 : decode b_M_nodes 0 = .ok (.aload_n 0, 1) := by decide +kernel
theorem d_M_nodes_1 : decode b_M_nodes 1 = .ok (.iconst 0, 1) := by decide +kernel
theorem d_M_nodes_2 : decode b_M_nodes 2 = .ok (.putfield 79, 3) := by decide +kernel
theorem d_M_nodes_5 : decode b_M_nodes 5 = .ok (.aload_n 0, 1) := by decide +kernel
theorem d_M_nodes_6 : decode b_M_nodes 6 = .ok (.getfield 177, 3) := by decide +kernel
theorem d_M_nodes_9 : decode b_M_nodes 9 = .ok (.ireturn, 1) := by decide +kernel
theorem d_M_hope_0 : decode b_M_hope 0 = .ok (.aload_n 0, 1) := by decide +kernel
theorem d_M_hope_1 : decode b_M_hope 1 = .ok (.iconst 0, 1) := by decide +kernel
theorem d_M_hope_2 : decode b_M_hope 2 = .ok (.putfield 79, 3) := by decide +kernel
theorem d_M_hope_5 : decode b_M_hope 5 = .ok (.aload_n 0, 1) := by decide +kernel
theorem d_M_hope_6 : decode b_M_hope 6 = .ok (.iconst 0, 1) := by decide +kernel
theorem d_M_hope_7 : decode b_M_hope 7 = .ok (.invokevirtual 183, 3) := by decide +kernel
theorem d_M_hope_10 : decode b_M_hope 10 = .ok (.lreturn, 1) := by decide +kernel
theorem d_M_move_0 : decode b_M_move 0 = .ok (.aload_n 0, 1) := by decide +kernel
theorem d_M_move_1 : decode b_M_move 1 = .ok (.iload_n 1, 1) := by decide +kernel
theorem d_M_move_2 : decode b_M_move 2 = .ok (.i2l, 1) := by decide +kernel
theorem d_M_move_3 : decode b_M_move 3 = .ok (.lconst 0, 1) := by decide +kernel
theorem d_M_move_4 : decode b_M_move 4 = .ok (.aload_n 0, 1) := by decide +kernel
theorem d_M_move_5 : decode b_M_move 5 = .ok (.getfield 101, 3) := by decide +kernel
theorem d_M_move_8 : decode b_M_move 8 = .ok (.iconst 1, 1) := by decide +kernel
theorem d_M_move_9 : decode b_M_move 9 = .ok (.isub, 1) := by decide +kernel
theorem d_M_move_10 : decode b_M_move 10 = .ok (.i2l, 1) := by decide +kernel
theorem d_M_move_11 : decode b_M_move 11 = .ok (.invokestatic 86, 3) := by decide +kernel
theorem d_M_move_14 : decode b_M_move 14 = .ok (.ifCond .eq 25, 3) := by decide +kernel
theorem d_M_move_17 : decode b_M_move 17 = .ok (.iload_n 2, 1) := by decide +kernel
theorem d_M_move_18 : decode b_M_move 18 = .ok (.i2l, 1) := by decide +kernel
theorem d_M_move_19 : decode b_M_move 19 = .ok (.ldc2_w 191, 3) := by decide +kernel
theorem d_M_move_22 : decode b_M_move 22 = .ok (.aload_n 0, 1) := by decide +kernel
theorem d_M_move_23 : decode b_M_move 23 = .ok (.getfield 75, 3) := by decide +kernel
theorem d_M_move_26 : decode b_M_move 26 = .ok (.iconst 1, 1) := by decide +kernel
theorem d_M_move_27 : decode b_M_move 27 = .ok (.isub, 1) := by decide +kernel
theorem d_M_move_28 : decode b_M_move 28 = .ok (.i2l, 1) := by decide +kernel
theorem d_M_move_29 : decode b_M_move 29 = .ok (.invokestatic 86, 3) := by decide +kernel
theorem d_M_move_32 : decode b_M_move 32 = .ok (.ifCond .eq 7, 3) := by decide +kernel
theorem d_M_move_35 : decode b_M_move 35 = .ok (.iconst 1, 1) := by decide +kernel
theorem d_M_move_36 : decode b_M_move 36 = .ok (.goto 4, 3) := by decide +kernel
theorem d_M_move_39 : decode b_M_move 39 = .ok (.iconst 0, 1) := by decide +kernel
theorem d_M_move_40 : decode b_M_move 40 = .ok (.iconst 1, 1) := by decide +kernel
theorem d_M_move_41 : decode b_M_move 41 = .ok (.invokevirtual 93, 3) := by decide +kernel
theorem d_M_move_44 : decode b_M_move 44 = .ok (.ifCond .eq 5, 3) := by decide +kernel
theorem d_M_move_47 : decode b_M_move 47 = .ok (.iconst 0, 1) := by decide +kernel
theorem d_M_move_48 : decode b_M_move 48 = .ok (.ireturn, 1) := by decide +kernel
theorem d_M_move_49 : decode b_M_move 49 = .ok (.iconst 0, 1) := by decide +kernel
theorem d_M_move_50 : decode b_M_move 50 = .ok (.istore_n 3, 1) := by decide +kernel
theorem d_M_move_51 : decode b_M_move 51 = .ok (.iload_n 3, 1) := by decide +kernel
theorem d_M_move_52 : decode b_M_move 52 = .ok (.aload_n 0, 1) := by decide +kernel
theorem d_M_move_53 : decode b_M_move 53 = .ok (.getfield 101, 3) := by decide +kernel
theorem d_M_move_56 : decode b_M_move 56 = .ok (.if_icmp .ge 26, 3) := by decide +kernel
theorem d_M_move_59 : decode b_M_move 59 = .ok (.aload_n 0, 1) := by decide +kernel
theorem d_M_move_60 : decode b_M_move 60 = .ok (.getfield 97, 3) := by decide +kernel
theorem d_M_move_63 : decode b_M_move 63 = .ok (.ifCond .ne 19, 3) := by decide +kernel
theorem d_M_move_66 : decode b_M_move 66 = .ok (.aload_n 0, 1) := by decide +kernel
theorem d_M_move_67 : decode b_M_move 67 = .ok (.getfield 50, 3) := by decide +kernel
theorem d_M_move_70 : decode b_M_move 70 = .ok (.iload_n 3, 1) := by decide +kernel
theorem d_M_move_71 : decode b_M_move 71 = .ok (.aload_n 0, 1) := by decide +kernel
theorem d_M_move_72 : decode b_M_move 72 = .ok (.getfield 75, 3) := by decide +kernel
theorem d_M_move_75 : decode b_M_move 75 = .ok (.iastore, 1) := by decide +kernel
theorem d_M_move_76 : decode b_M_move 76 = .ok (.iinc 3 1, 3) := by decide +kernel
theorem d_M_move_79 : decode b_M_move 79 = .ok (.goto (-28), 3) := by decide +kernel
theorem d_M_move_82 : decode b_M_move 82 = .ok (.aload_n 0, 1) := by decide +kernel
theorem d_M_move_83 : decode b_M_move 83 = .ok (.iconst 1, 1) := by decide +kernel
theorem d_M_move_84 : decode b_M_move 84 = .ok (.putfield 97, 3) := by decide +kernel
theorem d_M_move_87 : decode b_M_move 87 = .ok (.aload_n 0, 1) := by decide +kernel
theorem d_M_move_88 : decode b_M_move 88 = .ok (.getfield 50, 3) := by decide +kernel
theorem d_M_move_91 : decode b_M_move 91 = .ok (.iload_n 1, 1) := by decide +kernel
theorem d_M_move_92 : decode b_M_move 92 = .ok (.iaload, 1) := by decide +kernel
theorem d_M_move_93 : decode b_M_move 93 = .ok (.istore_n 3, 1) := by decide +kernel
theorem d_M_move_94 : decode b_M_move 94 = .ok (.aload_n 0, 1) := by decide +kernel
theorem d_M_move_95 : decode b_M_move 95 = .ok (.getfield 50, 3) := by decide +kernel
theorem d_M_move_98 : decode b_M_move 98 = .ok (.iload_n 1, 1) := by decide +kernel
theorem d_M_move_99 : decode b_M_move 99 = .ok (.iload_n 2, 1) := by decide +kernel
theorem d_M_move_100 : decode b_M_move 100 = .ok (.iconst (-1), 1) := by decide +kernel
theorem d_M_move_101 : decode b_M_move 101 = .ok (.if_icmp .ne 10, 3) := by decide +kernel
theorem d_M_move_104 : decode b_M_move 104 = .ok (.aload_n 0, 1) := by decide +kernel
theorem d_M_move_105 : decode b_M_move 105 = .ok (.getfield 75, 3) := by decide +kernel
theorem d_M_move_108 : decode b_M_move 108 = .ok (.goto 4, 3) := by decide +kernel
theorem d_M_move_111 : decode b_M_move 111 = .ok (.iload_n 2, 1) := by decide +kernel
theorem d_M_move_112 : decode b_M_move 112 = .ok (.iastore, 1) := by decide +kernel
theorem d_M_move_113 : decode b_M_move 113 = .ok (.iload_n 3, 1) := by decide +kernel
theorem d_M_move_114 : decode b_M_move 114 = .ok (.aload_n 0, 1) := by decide +kernel
theorem d_M_move_115 : decode b_M_move 115 = .ok (.getfield 75, 3) := by decide +kernel
theorem d_M_move_118 : decode b_M_move 118 = .ok (.if_icmp .ne 7, 3) := by decide +kernel
theorem d_M_move_121 : decode b_M_move 121 = .ok (.iconst (-1), 1) := by decide +kernel
theorem d_M_move_122 : decode b_M_move 122 = .ok (.goto 4, 3) := by decide +kernel
theorem d_M_move_125 : decode b_M_move 125 = .ok (.iload_n 3, 1) := by decide +kernel
theorem d_M_move_126 : decode b_M_move 126 = .ok (.ireturn, 1) := by decide +kernel
theorem d_M_taken_0 : decode b_M_taken 0 = .ok (.aload_n 0, 1) := by decide +kernel
theorem d_M_taken_1 : decode b_M_taken 1 = .ok (.iload_n 1, 1) := by decide +kernel
theorem d_M_taken_2 : decode b_M_taken 2 = .ok (.i2l, 1) := by decide +kernel
theorem d_M_taken_3 : decode b_M_taken 3 = .ok (.lconst 0, 1) := by decide +kernel
theorem d_M_taken_4 : decode b_M_taken 4 = .ok (.aload_n 0, 1) := by decide +kernel
theorem d_M_taken_5 : decode b_M_taken 5 = .ok (.getfield 101, 3) := by decide +kernel
theorem d_M_taken_8 : decode b_M_taken 8 = .ok (.iconst 1, 1) := by decide +kernel
theorem d_M_taken_9 : decode b_M_taken 9 = .ok (.isub, 1) := by decide +kernel
theorem d_M_taken_10 : decode b_M_taken 10 = .ok (.i2l, 1) := by decide +kernel
theorem d_M_taken_11 : decode b_M_taken 11 = .ok (.invokestatic 86, 3) := by decide +kernel
theorem d_M_taken_14 : decode b_M_taken 14 = .ok (.iconst 1, 1) := by decide +kernel
theorem d_M_taken_15 : decode b_M_taken 15 = .ok (.invokevirtual 93, 3) := by decide +kernel
theorem d_M_taken_18 : decode b_M_taken 18 = .ok (.ifCond .eq 5, 3) := by decide +kernel
theorem d_M_taken_21 : decode b_M_taken 21 = .ok (.iconst 0, 1) := by decide +kernel
theorem d_M_taken_22 : decode b_M_taken 22 = .ok (.ireturn, 1) := by decide +kernel
theorem d_M_taken_23 : decode b_M_taken 23 = .ok (.aload_n 0, 1) := by decide +kernel
theorem d_M_taken_24 : decode b_M_taken 24 = .ok (.getfield 97, 3) := by decide +kernel
theorem d_M_taken_27 : decode b_M_taken 27 = .ok (.ifCond .eq 16, 3) := by decide +kernel
theorem d_M_taken_30 : decode b_M_taken 30 = .ok (.aload_n 0, 1) := by decide +kernel
theorem d_M_taken_31 : decode b_M_taken 31 = .ok (.getfield 50, 3) := by decide +kernel
theorem d_M_taken_34 : decode b_M_taken 34 = .ok (.iload_n 1, 1) := by decide +kernel
theorem d_M_taken_35 : decode b_M_taken 35 = .ok (.iaload, 1) := by decide +kernel
theorem d_M_taken_36 : decode b_M_taken 36 = .ok (.aload_n 0, 1) := by decide +kernel
theorem d_M_taken_37 : decode b_M_taken 37 = .ok (.getfield 75, 3) := by decide +kernel
theorem d_M_taken_40 : decode b_M_taken 40 = .ok (.if_icmp .ne 7, 3) := by decide +kernel
theorem d_M_taken_43 : decode b_M_taken 43 = .ok (.iconst (-1), 1) := by decide +kernel
theorem d_M_taken_44 : decode b_M_taken 44 = .ok (.goto 9, 3) := by decide +kernel
theorem d_M_taken_47 : decode b_M_taken 47 = .ok (.aload_n 0, 1) := by decide +kernel
theorem d_M_taken_48 : decode b_M_taken 48 = .ok (.getfield 50, 3) := by decide +kernel
theorem d_M_taken_51 : decode b_M_taken 51 = .ok (.iload_n 1, 1) := by decide +kernel
theorem d_M_taken_52 : decode b_M_taken 52 = .ok (.iaload, 1) := by decide +kernel
theorem d_M_taken_53 : decode b_M_taken 53 = .ok (.ireturn, 1) := by decide +kernel
theorem d_M_tryPlan_0 : decode b_M_tryPlan 0 = .ok (.iconst 0, 1) := by decide +kernel
theorem d_M_tryPlan_1 : decode b_M_tryPlan 1 = .ok (.istore_n 1, 1) := by decide +kernel
theorem d_M_tryPlan_2 : decode b_M_tryPlan 2 = .ok (.iload_n 1, 1) := by decide +kernel
theorem d_M_tryPlan_3 : decode b_M_tryPlan 3 = .ok (.aload_n 0, 1) := by decide +kernel
theorem d_M_tryPlan_4 : decode b_M_tryPlan 4 = .ok (.getfield 101, 3) := by decide +kernel
theorem d_M_tryPlan_7 : decode b_M_tryPlan 7 = .ok (.if_icmp .ge 21, 3) := by decide +kernel
theorem d_M_tryPlan_10 : decode b_M_tryPlan 10 = .ok (.aload_n 0, 1) := by decide +kernel
theorem d_M_tryPlan_11 : decode b_M_tryPlan 11 = .ok (.getfield 53, 3) := by decide +kernel
theorem d_M_tryPlan_14 : decode b_M_tryPlan 14 = .ok (.iload_n 1, 1) := by decide +kernel
theorem d_M_tryPlan_15 : decode b_M_tryPlan 15 = .ok (.aload_n 0, 1) := by decide +kernel
theorem d_M_tryPlan_16 : decode b_M_tryPlan 16 = .ok (.getfield 50, 3) := by decide +kernel
theorem d_M_tryPlan_19 : decode b_M_tryPlan 19 = .ok (.iload_n 1, 1) := by decide +kernel
theorem d_M_tryPlan_20 : decode b_M_tryPlan 20 = .ok (.iaload, 1) := by decide +kernel
theorem d_M_tryPlan_21 : decode b_M_tryPlan 21 = .ok (.iastore, 1) := by decide +kernel
theorem d_M_tryPlan_22 : decode b_M_tryPlan 22 = .ok (.iinc 1 1, 3) := by decide +kernel
theorem d_M_tryPlan_25 : decode b_M_tryPlan 25 = .ok (.goto (-23), 3) := by decide +kernel
theorem d_M_tryPlan_28 : decode b_M_tryPlan 28 = .ok (.return_, 1) := by decide +kernel
theorem d_M_check_0 : decode b_M_check 0 = .ok (.aload_n 0, 1) := by decide +kernel
theorem d_M_check_1 : decode b_M_check 1 = .ok (.iconst 1, 1) := by decide +kernel
theorem d_M_check_2 : decode b_M_check 2 = .ok (.aload_n 0, 1) := by decide +kernel
theorem d_M_check_3 : decode b_M_check 3 = .ok (.getfield 97, 3) := by decide +kernel
theorem d_M_check_6 : decode b_M_check 6 = .ok (.invokevirtual 93, 3) := by decide +kernel
theorem d_M_check_9 : decode b_M_check 9 = .ok (.ifCond .eq 10, 3) := by decide +kernel
theorem d_M_check_12 : decode b_M_check 12 = .ok (.aload_n 0, 1) := by decide +kernel
theorem d_M_check_13 : decode b_M_check 13 = .ok (.iconst 1, 1) := by decide +kernel
theorem d_M_check_14 : decode b_M_check 14 = .ok (.putfield 79, 3) := by decide +kernel
theorem d_M_check_17 : decode b_M_check 17 = .ok (.iconst 0, 1) := by decide +kernel
theorem d_M_check_18 : decode b_M_check 18 = .ok (.ireturn, 1) := by decide +kernel
theorem d_M_check_19 : decode b_M_check 19 = .ok (.aload_n 0, 1) := by decide +kernel
theorem d_M_check_20 : decode b_M_check 20 = .ok (.invokevirtual 193, 3) := by decide +kernel
theorem d_M_check_23 : decode b_M_check 23 = .ok (.iconst 0, 1) := by decide +kernel
theorem d_M_check_24 : decode b_M_check 24 = .ok (.istore_n 1, 1) := by decide +kernel
theorem d_M_check_25 : decode b_M_check 25 = .ok (.iload_n 1, 1) := by decide +kernel
theorem d_M_check_26 : decode b_M_check 26 = .ok (.aload_n 0, 1) := by decide +kernel
theorem d_M_check_27 : decode b_M_check 27 = .ok (.getfield 75, 3) := by decide +kernel
theorem d_M_check_30 : decode b_M_check 30 = .ok (.if_icmp .ge 31, 3) := by decide +kernel
theorem d_M_check_33 : decode b_M_check 33 = .ok (.aload_n 0, 1) := by decide +kernel
theorem d_M_check_34 : decode b_M_check 34 = .ok (.iload_n 1, 1) := by decide +kernel
theorem d_M_check_35 : decode b_M_check 35 = .ok (.aload_n 0, 1) := by decide +kernel
theorem d_M_check_36 : decode b_M_check 36 = .ok (.getfield 101, 3) := by decide +kernel
theorem d_M_check_39 : decode b_M_check 39 = .ok (.iconst 1, 1) := by decide +kernel
theorem d_M_check_40 : decode b_M_check 40 = .ok (.invokevirtual 144, 3) := by decide +kernel
theorem d_M_check_43 : decode b_M_check 43 = .ok (.istore_n 2, 1) := by decide +kernel
theorem d_M_check_44 : decode b_M_check 44 = .ok (.iload_n 2, 1) := by decide +kernel
theorem d_M_check_45 : decode b_M_check 45 = .ok (.ifCond .le 10, 3) := by decide +kernel
theorem d_M_check_48 : decode b_M_check 48 = .ok (.bipush 10, 2) := by decide +kernel
theorem d_M_check_50 : decode b_M_check 50 = .ok (.iload_n 1, 1) := by decide +kernel
theorem d_M_check_51 : decode b_M_check 51 = .ok (.imul, 1) := by decide +kernel
theorem d_M_check_52 : decode b_M_check 52 = .ok (.iload_n 2, 1) := by decide +kernel
theorem d_M_check_53 : decode b_M_check 53 = .ok (.iadd, 1) := by decide +kernel
theorem d_M_check_54 : decode b_M_check 54 = .ok (.ireturn, 1) := by decide +kernel
theorem d_M_check_55 : decode b_M_check 55 = .ok (.iinc 1 1, 3) := by decide +kernel
theorem d_M_check_58 : decode b_M_check 58 = .ok (.goto (-33), 3) := by decide +kernel
theorem d_M_check_61 : decode b_M_check 61 = .ok (.iconst 0, 1) := by decide +kernel
theorem d_M_check_62 : decode b_M_check 62 = .ok (.ireturn, 1) := by decide +kernel
theorem d_M_worth_0 : decode b_M_worth 0 = .ok (.aload_n 0, 1) := by decide +kernel
theorem d_M_worth_1 : decode b_M_worth 1 = .ok (.iconst 1, 1) := by decide +kernel
theorem d_M_worth_2 : decode b_M_worth 2 = .ok (.aload_n 0, 1) := by decide +kernel
theorem d_M_worth_3 : decode b_M_worth 3 = .ok (.getfield 97, 3) := by decide +kernel
theorem d_M_worth_6 : decode b_M_worth 6 = .ok (.invokevirtual 93, 3) := by decide +kernel
theorem d_M_worth_9 : decode b_M_worth 9 = .ok (.ifCond .eq 10, 3) := by decide +kernel
theorem d_M_worth_12 : decode b_M_worth 12 = .ok (.aload_n 0, 1) := by decide +kernel
theorem d_M_worth_13 : decode b_M_worth 13 = .ok (.iconst 1, 1) := by decide +kernel
theorem d_M_worth_14 : decode b_M_worth 14 = .ok (.putfield 79, 3) := by decide +kernel
theorem d_M_worth_17 : decode b_M_worth 17 = .ok (.lconst 0, 1) := by decide +kernel
theorem d_M_worth_18 : decode b_M_worth 18 = .ok (.lreturn, 1) := by decide +kernel
theorem d_M_worth_19 : decode b_M_worth 19 = .ok (.aload_n 0, 1) := by decide +kernel
theorem d_M_worth_20 : decode b_M_worth 20 = .ok (.invokevirtual 193, 3) := by decide +kernel
theorem d_M_worth_23 : decode b_M_worth 23 = .ok (.aload_n 0, 1) := by decide +kernel
theorem d_M_worth_24 : decode b_M_worth 24 = .ok (.invokevirtual 166, 3) := by decide +kernel
theorem d_M_worth_27 : decode b_M_worth 27 = .ok (.lreturn, 1) := by decide +kernel
theorem d_M_sold_0 : decode b_M_sold 0 = .ok (.aload_n 0, 1) := by decide +kernel
theorem d_M_sold_1 : decode b_M_sold 1 = .ok (.iload_n 1, 1) := by decide +kernel
theorem d_M_sold_2 : decode b_M_sold 2 = .ok (.i2l, 1) := by decide +kernel
theorem d_M_sold_3 : decode b_M_sold 3 = .ok (.lconst 0, 1) := by decide +kernel
theorem d_M_sold_4 : decode b_M_sold 4 = .ok (.aload_n 0, 1) := by decide +kernel
theorem d_M_sold_5 : decode b_M_sold 5 = .ok (.getfield 117, 3) := by decide +kernel
theorem d_M_sold_8 : decode b_M_sold 8 = .ok (.iconst 1, 1) := by decide +kernel
theorem d_M_sold_9 : decode b_M_sold 9 = .ok (.isub, 1) := by decide +kernel
theorem d_M_sold_10 : decode b_M_sold 10 = .ok (.i2l, 1) := by decide +kernel
theorem d_M_sold_11 : decode b_M_sold 11 = .ok (.invokestatic 86, 3) := by decide +kernel
theorem d_M_sold_14 : decode b_M_sold 14 = .ok (.aload_n 0, 1) := by decide +kernel
theorem d_M_sold_15 : decode b_M_sold 15 = .ok (.getfield 97, 3) := by decide +kernel
theorem d_M_sold_18 : decode b_M_sold 18 = .ok (.invokevirtual 93, 3) := by decide +kernel
theorem d_M_sold_21 : decode b_M_sold 21 = .ok (.ifCond .eq 5, 3) := by decide +kernel
theorem d_M_sold_24 : decode b_M_sold 24 = .ok (.iconst 0, 1) := by decide +kernel
theorem d_M_sold_25 : decode b_M_sold 25 = .ok (.ireturn, 1) := by decide +kernel
theorem d_M_sold_26 : decode b_M_sold 26 = .ok (.aload_n 0, 1) := by decide +kernel
theorem d_M_sold_27 : decode b_M_sold 27 = .ok (.invokevirtual 193, 3) := by decide +kernel
theorem d_M_sold_30 : decode b_M_sold 30 = .ok (.aload_n 0, 1) := by decide +kernel
theorem d_M_sold_31 : decode b_M_sold 31 = .ok (.invokevirtual 166, 3) := by decide +kernel
theorem d_M_sold_34 : decode b_M_sold 34 = .ok (.lstore_n 2, 1) := by decide +kernel
theorem d_M_sold_35 : decode b_M_sold 35 = .ok (.aload_n 0, 1) := by decide +kernel
theorem d_M_sold_36 : decode b_M_sold 36 = .ok (.getfield 63, 3) := by decide +kernel
theorem d_M_sold_39 : decode b_M_sold 39 = .ok (.iload_n 1, 1) := by decide +kernel
theorem d_M_sold_40 : decode b_M_sold 40 = .ok (.laload, 1) := by decide +kernel
theorem d_M_sold_41 : decode b_M_sold 41 = .ok (.l2i, 1) := by decide +kernel
theorem d_M_sold_42 : decode b_M_sold 42 = .ok (.ireturn, 1) := by decide +kernel
