/-! the law's instructions -/
theorem d_Law_law_319 : decode code 319 = .ok (.iaload, 1) := by decide +kernel
theorem d_Law_law_320 : decode code 320 = .ok (.aload_n 0, 1) := by decide +kernel
theorem d_Law_law_321 : decode code 321 = .ok (.iload 4, 2) := by decide +kernel
theorem d_Law_law_323 : decode code 323 = .ok (.iconst 2, 1) := by decide +kernel
theorem d_Law_law_324 : decode code 324 = .ok (.iadd, 1) := by decide +kernel
theorem d_Law_law_325 : decode code 325 = .ok (.iaload, 1) := by decide +kernel
theorem d_Law_law_326 : decode code 326 = .ok (.invokevirtual 94, 3) := by decide +kernel
theorem d_Law_law_329 : decode code 329 = .ok (.istore 6, 2) := by decide +kernel
theorem d_Law_law_331 : decode code 331 = .ok (.aload_n 2, 1) := by decide +kernel
theorem d_Law_law_332 : decode code 332 = .ok (.invokevirtual 73, 3) := by decide +kernel
theorem d_Law_law_335 : decode code 335 = .ok (.iload 5, 2) := by decide +kernel
theorem d_Law_law_337 : decode code 337 = .ok (.if_icmp .eq 5, 3) := by decide +kernel
theorem d_Law_law_340 : decode code 340 = .ok (.iconst 0, 1) := by decide +kernel
theorem d_Law_law_341 : decode code 341 = .ok (.ireturn, 1) := by decide +kernel
theorem d_Law_law_342 : decode code 342 = .ok (.iload 5, 2) := by decide +kernel
theorem d_Law_law_344 : decode code 344 = .ok (.ifCond .ne 15, 3) := by decide +kernel
theorem d_Law_law_347 : decode code 347 = .ok (.aload_n 3, 1) := by decide +kernel
theorem d_Law_law_348 : decode code 348 = .ok (.iconst 0, 1) := by decide +kernel
theorem d_Law_law_349 : decode code 349 = .ok (.laload, 1) := by decide +kernel
theorem d_Law_law_350 : decode code 350 = .ok (.iload 6, 2) := by decide +kernel
theorem d_Law_law_352 : decode code 352 = .ok (.i2l, 1) := by decide +kernel
theorem d_Law_law_353 : decode code 353 = .ok (.lcmp, 1) := by decide +kernel
theorem d_Law_law_354 : decode code 354 = .ok (.ifCond .eq 5, 3) := by decide +kernel
theorem d_Law_law_357 : decode code 357 = .ok (.iconst 0, 1) := by decide +kernel
theorem d_Law_law_358 : decode code 358 = .ok (.ireturn, 1) := by decide +kernel
