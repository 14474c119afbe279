/-! the law's instructions -/
theorem d_Law_law_359 : decode code 359 = .ok (.goto 517, 3) := by decide +kernel
theorem d_Law_law_362 : decode code 362 = .ok (.aload_n 1, 1) := by decide +kernel
theorem d_Law_law_363 : decode code 363 = .ok (.invokevirtual 95, 3) := by decide +kernel
theorem d_Law_law_366 : decode code 366 = .ok (.aload_n 2, 1) := by decide +kernel
theorem d_Law_law_367 : decode code 367 = .ok (.invokevirtual 99, 3) := by decide +kernel
theorem d_Law_law_370 : decode code 370 = .ok (.if_icmp .eq 506, 3) := by decide +kernel
theorem d_Law_law_373 : decode code 373 = .ok (.iconst 0, 1) := by decide +kernel
theorem d_Law_law_374 : decode code 374 = .ok (.ireturn, 1) := by decide +kernel
theorem d_Law_law_375 : decode code 375 = .ok (.aload_n 1, 1) := by decide +kernel
theorem d_Law_law_376 : decode code 376 = .ok (.aload_n 0, 1) := by decide +kernel
theorem d_Law_law_377 : decode code 377 = .ok (.iload 4, 2) := by decide +kernel
theorem d_Law_law_379 : decode code 379 = .ok (.iconst 1, 1) := by decide +kernel
theorem d_Law_law_380 : decode code 380 = .ok (.iadd, 1) := by decide +kernel
theorem d_Law_law_381 : decode code 381 = .ok (.iaload, 1) := by decide +kernel
theorem d_Law_law_382 : decode code 382 = .ok (.invokestatic 100, 3) := by decide +kernel
theorem d_Law_law_385 : decode code 385 = .ok (.istore 5, 2) := by decide +kernel
theorem d_Law_law_387 : decode code 387 = .ok (.aload_n 2, 1) := by decide +kernel
theorem d_Law_law_388 : decode code 388 = .ok (.aload_n 0, 1) := by decide +kernel
theorem d_Law_law_389 : decode code 389 = .ok (.iload 4, 2) := by decide +kernel
theorem d_Law_law_391 : decode code 391 = .ok (.iconst 1, 1) := by decide +kernel
theorem d_Law_law_392 : decode code 392 = .ok (.iadd, 1) := by decide +kernel
theorem d_Law_law_393 : decode code 393 = .ok (.iaload, 1) := by decide +kernel
theorem d_Law_law_394 : decode code 394 = .ok (.invokevirtual 102, 3) := by decide +kernel
theorem d_Law_law_397 : decode code 397 = .ok (.aload_n 2, 1) := by decide +kernel
theorem d_Law_law_398 : decode code 398 = .ok (.invokevirtual 73, 3) := by decide +kernel
