/-! DECODE ROWS -/
theorem d_L_law_161 : decode b_L_law 161 = .ok (.iload 5, 2) := by decide +kernel
theorem d_L_law_163 : decode b_L_law 163 = .ok (.if_icmp .eq 5, 3) := by decide +kernel
theorem d_L_law_166 : decode b_L_law 166 = .ok (.iconst 0, 1) := by decide +kernel
theorem d_L_law_167 : decode b_L_law 167 = .ok (.ireturn, 1) := by decide +kernel
theorem d_L_law_168 : decode b_L_law 168 = .ok (.iload 5, 2) := by decide +kernel
theorem d_L_law_170 : decode b_L_law 170 = .ok (.ifCond .ne 15, 3) := by decide +kernel
theorem d_L_law_173 : decode b_L_law 173 = .ok (.aload_n 3, 1) := by decide +kernel
theorem d_L_law_174 : decode b_L_law 174 = .ok (.iconst 0, 1) := by decide +kernel
theorem d_L_law_175 : decode b_L_law 175 = .ok (.laload, 1) := by decide +kernel
theorem d_L_law_176 : decode b_L_law 176 = .ok (.iload 6, 2) := by decide +kernel
theorem d_L_law_178 : decode b_L_law 178 = .ok (.i2l, 1) := by decide +kernel
theorem d_L_law_179 : decode b_L_law 179 = .ok (.lcmp, 1) := by decide +kernel
theorem d_L_law_180 : decode b_L_law 180 = .ok (.ifCond .eq 5, 3) := by decide +kernel
theorem d_L_law_183 : decode b_L_law 183 = .ok (.iconst 0, 1) := by decide +kernel
theorem d_L_law_184 : decode b_L_law 184 = .ok (.ireturn, 1) := by decide +kernel
theorem d_L_law_185 : decode b_L_law 185 = .ok (.goto 983, 3) := by decide +kernel
theorem d_L_law_188 : decode b_L_law 188 = .ok (.aload_n 1, 1) := by decide +kernel
theorem d_L_law_189 : decode b_L_law 189 = .ok (.aload_n 0, 1) := by decide +kernel
theorem d_L_law_190 : decode b_L_law 190 = .ok (.iload 4, 2) := by decide +kernel
theorem d_L_law_192 : decode b_L_law 192 = .ok (.iconst 1, 1) := by decide +kernel
theorem d_L_law_193 : decode b_L_law 193 = .ok (.iadd, 1) := by decide +kernel
theorem d_L_law_194 : decode b_L_law 194 = .ok (.iaload, 1) := by decide +kernel
theorem d_L_law_195 : decode b_L_law 195 = .ok (.aload_n 0, 1) := by decide +kernel
theorem d_L_law_196 : decode b_L_law 196 = .ok (.iload 4, 2) := by decide +kernel
theorem d_L_law_198 : decode b_L_law 198 = .ok (.iconst 2, 1) := by decide +kernel
theorem d_L_law_199 : decode b_L_law 199 = .ok (.iadd, 1) := by decide +kernel
theorem d_L_law_200 : decode b_L_law 200 = .ok (.iaload, 1) := by decide +kernel
theorem d_L_law_201 : decode b_L_law 201 = .ok (.aload_n 0, 1) := by decide +kernel
theorem d_L_law_202 : decode b_L_law 202 = .ok (.iload 4, 2) := by decide +kernel
theorem d_L_law_204 : decode b_L_law 204 = .ok (.iconst 3, 1) := by decide +kernel
theorem d_L_law_205 : decode b_L_law 205 = .ok (.iadd, 1) := by decide +kernel
theorem d_L_law_206 : decode b_L_law 206 = .ok (.iaload, 1) := by decide +kernel
theorem d_L_law_207 : decode b_L_law 207 = .ok (.ifCond .eq 7, 3) := by decide +kernel
theorem d_L_law_210 : decode b_L_law 210 = .ok (.iconst 1, 1) := by decide +kernel
theorem d_L_law_211 : decode b_L_law 211 = .ok (.goto 4, 3) := by decide +kernel
theorem d_L_law_214 : decode b_L_law 214 = .ok (.iconst 0, 1) := by decide +kernel
theorem d_L_law_215 : decode b_L_law 215 = .ok (.aload_n 3, 1) := by decide +kernel
theorem d_L_law_216 : decode b_L_law 216 = .ok (.invokestatic 85, 3) := by decide +kernel
theorem d_L_law_219 : decode b_L_law 219 = .ok (.istore 5, 2) := by decide +kernel
theorem d_L_law_221 : decode b_L_law 221 = .ok (.aload_n 2, 1) := by decide +kernel
theorem d_L_law_222 : decode b_L_law 222 = .ok (.aload_n 0, 1) := by decide +kernel
theorem d_L_law_223 : decode b_L_law 223 = .ok (.iload 4, 2) := by decide +kernel
theorem d_L_law_225 : decode b_L_law 225 = .ok (.iconst 1, 1) := by decide +kernel
theorem d_L_law_226 : decode b_L_law 226 = .ok (.iadd, 1) := by decide +kernel
theorem d_L_law_227 : decode b_L_law 227 = .ok (.iaload, 1) := by decide +kernel
theorem d_L_law_228 : decode b_L_law 228 = .ok (.aload_n 0, 1) := by decide +kernel
theorem d_L_law_229 : decode b_L_law 229 = .ok (.iload 4, 2) := by decide +kernel
theorem d_L_law_231 : decode b_L_law 231 = .ok (.iconst 2, 1) := by decide +kernel
theorem d_L_law_232 : decode b_L_law 232 = .ok (.iadd, 1) := by decide +kernel
theorem d_L_law_233 : decode b_L_law 233 = .ok (.iaload, 1) := by decide +kernel
