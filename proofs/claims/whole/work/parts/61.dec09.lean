/-! the law's instructions -/
theorem d_Law_law_482 : decode code 482 = .ok (.aload_n 3, 1) := by decide +kernel
theorem d_Law_law_483 : decode code 483 = .ok (.invokestatic 106, 3) := by decide +kernel
theorem d_Law_law_486 : decode code 486 = .ok (.istore 5, 2) := by decide +kernel
theorem d_Law_law_488 : decode code 488 = .ok (.aload_n 2, 1) := by decide +kernel
theorem d_Law_law_489 : decode code 489 = .ok (.aload_n 0, 1) := by decide +kernel
theorem d_Law_law_490 : decode code 490 = .ok (.iload 4, 2) := by decide +kernel
theorem d_Law_law_492 : decode code 492 = .ok (.iconst 1, 1) := by decide +kernel
theorem d_Law_law_493 : decode code 493 = .ok (.iadd, 1) := by decide +kernel
theorem d_Law_law_494 : decode code 494 = .ok (.iaload, 1) := by decide +kernel
theorem d_Law_law_495 : decode code 495 = .ok (.ifCond .eq 7, 3) := by decide +kernel
theorem d_Law_law_498 : decode code 498 = .ok (.iconst 1, 1) := by decide +kernel
theorem d_Law_law_499 : decode code 499 = .ok (.goto 4, 3) := by decide +kernel
theorem d_Law_law_502 : decode code 502 = .ok (.iconst 0, 1) := by decide +kernel
theorem d_Law_law_503 : decode code 503 = .ok (.invokevirtual 109, 3) := by decide +kernel
theorem d_Law_law_506 : decode code 506 = .ok (.istore 6, 2) := by decide +kernel
theorem d_Law_law_508 : decode code 508 = .ok (.aload_n 2, 1) := by decide +kernel
theorem d_Law_law_509 : decode code 509 = .ok (.invokevirtual 73, 3) := by decide +kernel
theorem d_Law_law_512 : decode code 512 = .ok (.iload 5, 2) := by decide +kernel
theorem d_Law_law_514 : decode code 514 = .ok (.if_icmp .eq 5, 3) := by decide +kernel
theorem d_Law_law_517 : decode code 517 = .ok (.iconst 0, 1) := by decide +kernel
theorem d_Law_law_518 : decode code 518 = .ok (.ireturn, 1) := by decide +kernel
theorem d_Law_law_519 : decode code 519 = .ok (.iload 5, 2) := by decide +kernel
theorem d_Law_law_521 : decode code 521 = .ok (.ifCond .ne 15, 3) := by decide +kernel
theorem d_Law_law_524 : decode code 524 = .ok (.aload_n 3, 1) := by decide +kernel
theorem d_Law_law_525 : decode code 525 = .ok (.iconst 0, 1) := by decide +kernel
