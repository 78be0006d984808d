/-! DECODE ROWS -/
theorem d_L_law_1171 : decode b_L_law 1171 = .ok (.goto (-1138), 3) := by decide +kernel
theorem d_L_law_1174 : decode b_L_law 1174 = .ok (.iconst 1, 1) := by decide +kernel
theorem d_L_law_1175 : decode b_L_law 1175 = .ok (.ireturn, 1) := by decide +kernel
