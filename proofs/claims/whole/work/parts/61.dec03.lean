/-! the law's instructions -/
theorem d_Law_law_243 : decode code 243 = .ok (.iadd, 1) := by decide +kernel
theorem d_Law_law_244 : decode code 244 = .ok (.iaload, 1) := by decide +kernel
theorem d_Law_law_245 : decode code 245 = .ok (.aload_n 3, 1) := by decide +kernel
theorem d_Law_law_246 : decode code 246 = .ok (.invokestatic 88, 3) := by decide +kernel
theorem d_Law_law_249 : decode code 249 = .ok (.istore 5, 2) := by decide +kernel
theorem d_Law_law_251 : decode code 251 = .ok (.aload_n 2, 1) := by decide +kernel
theorem d_Law_law_252 : decode code 252 = .ok (.aload_n 0, 1) := by decide +kernel
theorem d_Law_law_253 : decode code 253 = .ok (.iload 4, 2) := by decide +kernel
theorem d_Law_law_255 : decode code 255 = .ok (.iconst 1, 1) := by decide +kernel
theorem d_Law_law_256 : decode code 256 = .ok (.iadd, 1) := by decide +kernel
theorem d_Law_law_257 : decode code 257 = .ok (.iaload, 1) := by decide +kernel
theorem d_Law_law_258 : decode code 258 = .ok (.invokevirtual 90, 3) := by decide +kernel
theorem d_Law_law_261 : decode code 261 = .ok (.istore 6, 2) := by decide +kernel
theorem d_Law_law_263 : decode code 263 = .ok (.aload_n 2, 1) := by decide +kernel
theorem d_Law_law_264 : decode code 264 = .ok (.invokevirtual 73, 3) := by decide +kernel
theorem d_Law_law_267 : decode code 267 = .ok (.iload 5, 2) := by decide +kernel
theorem d_Law_law_269 : decode code 269 = .ok (.if_icmp .eq 5, 3) := by decide +kernel
theorem d_Law_law_272 : decode code 272 = .ok (.iconst 0, 1) := by decide +kernel
theorem d_Law_law_273 : decode code 273 = .ok (.ireturn, 1) := by decide +kernel
theorem d_Law_law_274 : decode code 274 = .ok (.iload 5, 2) := by decide +kernel
theorem d_Law_law_276 : decode code 276 = .ok (.ifCond .ne 15, 3) := by decide +kernel
theorem d_Law_law_279 : decode code 279 = .ok (.aload_n 3, 1) := by decide +kernel
theorem d_Law_law_280 : decode code 280 = .ok (.iconst 0, 1) := by decide +kernel
theorem d_Law_law_281 : decode code 281 = .ok (.laload, 1) := by decide +kernel
theorem d_Law_law_282 : decode code 282 = .ok (.iload 6, 2) := by decide +kernel
