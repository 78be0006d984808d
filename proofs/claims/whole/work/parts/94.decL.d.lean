/-! DECODE ROWS -/
theorem d_L_law_234 : decode b_L_law 234 = .ok (.aload_n 0, 1) := by decide +kernel
theorem d_L_law_235 : decode b_L_law 235 = .ok (.iload 4, 2) := by decide +kernel
theorem d_L_law_237 : decode b_L_law 237 = .ok (.iconst 3, 1) := by decide +kernel
theorem d_L_law_238 : decode b_L_law 238 = .ok (.iadd, 1) := by decide +kernel
theorem d_L_law_239 : decode b_L_law 239 = .ok (.iaload, 1) := by decide +kernel
theorem d_L_law_240 : decode b_L_law 240 = .ok (.ifCond .eq 7, 3) := by decide +kernel
theorem d_L_law_243 : decode b_L_law 243 = .ok (.iconst 1, 1) := by decide +kernel
theorem d_L_law_244 : decode b_L_law 244 = .ok (.goto 4, 3) := by decide +kernel
theorem d_L_law_247 : decode b_L_law 247 = .ok (.iconst 0, 1) := by decide +kernel
theorem d_L_law_248 : decode b_L_law 248 = .ok (.invokevirtual 88, 3) := by decide +kernel
theorem d_L_law_251 : decode b_L_law 251 = .ok (.istore 6, 2) := by decide +kernel
theorem d_L_law_253 : decode b_L_law 253 = .ok (.aload_n 2, 1) := by decide +kernel
theorem d_L_law_254 : decode b_L_law 254 = .ok (.invokevirtual 82, 3) := by decide +kernel
theorem d_L_law_257 : decode b_L_law 257 = .ok (.iload 5, 2) := by decide +kernel
theorem d_L_law_259 : decode b_L_law 259 = .ok (.if_icmp .eq 5, 3) := by decide +kernel
theorem d_L_law_262 : decode b_L_law 262 = .ok (.iconst 0, 1) := by decide +kernel
theorem d_L_law_263 : decode b_L_law 263 = .ok (.ireturn, 1) := by decide +kernel
theorem d_L_law_264 : decode b_L_law 264 = .ok (.iload 5, 2) := by decide +kernel
theorem d_L_law_266 : decode b_L_law 266 = .ok (.ifCond .ne 22, 3) := by decide +kernel
theorem d_L_law_269 : decode b_L_law 269 = .ok (.aload_n 3, 1) := by decide +kernel
theorem d_L_law_270 : decode b_L_law 270 = .ok (.iconst 0, 1) := by decide +kernel
theorem d_L_law_271 : decode b_L_law 271 = .ok (.laload, 1) := by decide +kernel
theorem d_L_law_272 : decode b_L_law 272 = .ok (.iload 6, 2) := by decide +kernel
theorem d_L_law_274 : decode b_L_law 274 = .ok (.ifCond .eq 7, 3) := by decide +kernel
theorem d_L_law_277 : decode b_L_law 277 = .ok (.lconst 1, 1) := by decide +kernel
theorem d_L_law_278 : decode b_L_law 278 = .ok (.goto 4, 3) := by decide +kernel
theorem d_L_law_281 : decode b_L_law 281 = .ok (.lconst 0, 1) := by decide +kernel
theorem d_L_law_282 : decode b_L_law 282 = .ok (.lcmp, 1) := by decide +kernel
theorem d_L_law_283 : decode b_L_law 283 = .ok (.ifCond .eq 5, 3) := by decide +kernel
theorem d_L_law_286 : decode b_L_law 286 = .ok (.iconst 0, 1) := by decide +kernel
theorem d_L_law_287 : decode b_L_law 287 = .ok (.ireturn, 1) := by decide +kernel
theorem d_L_law_288 : decode b_L_law 288 = .ok (.goto 880, 3) := by decide +kernel
theorem d_L_law_291 : decode b_L_law 291 = .ok (.aload_n 1, 1) := by decide +kernel
theorem d_L_law_292 : decode b_L_law 292 = .ok (.aload_n 0, 1) := by decide +kernel
theorem d_L_law_293 : decode b_L_law 293 = .ok (.iload 4, 2) := by decide +kernel
theorem d_L_law_295 : decode b_L_law 295 = .ok (.iconst 1, 1) := by decide +kernel
theorem d_L_law_296 : decode b_L_law 296 = .ok (.iadd, 1) := by decide +kernel
theorem d_L_law_297 : decode b_L_law 297 = .ok (.iaload, 1) := by decide +kernel
theorem d_L_law_298 : decode b_L_law 298 = .ok (.aload_n 3, 1) := by decide +kernel
theorem d_L_law_299 : decode b_L_law 299 = .ok (.invokestatic 89, 3) := by decide +kernel
theorem d_L_law_302 : decode b_L_law 302 = .ok (.istore 5, 2) := by decide +kernel
theorem d_L_law_304 : decode b_L_law 304 = .ok (.aload_n 2, 1) := by decide +kernel
theorem d_L_law_305 : decode b_L_law 305 = .ok (.aload_n 0, 1) := by decide +kernel
theorem d_L_law_306 : decode b_L_law 306 = .ok (.iload 4, 2) := by decide +kernel
theorem d_L_law_308 : decode b_L_law 308 = .ok (.iconst 1, 1) := by decide +kernel
theorem d_L_law_309 : decode b_L_law 309 = .ok (.iadd, 1) := by decide +kernel
theorem d_L_law_310 : decode b_L_law 310 = .ok (.iaload, 1) := by decide +kernel
theorem d_L_law_311 : decode b_L_law 311 = .ok (.invokevirtual 91, 3) := by decide +kernel
theorem d_L_law_314 : decode b_L_law 314 = .ok (.istore 6, 2) := by decide +kernel
theorem d_L_law_316 : decode b_L_law 316 = .ok (.aload_n 2, 1) := by decide +kernel
