/-! the law's instructions -/
theorem d_Law_law_442 : decode code 442 = .ok (.if_icmp .eq 5, 3) := by decide +kernel
theorem d_Law_law_445 : decode code 445 = .ok (.iconst 0, 1) := by decide +kernel
theorem d_Law_law_446 : decode code 446 = .ok (.ireturn, 1) := by decide +kernel
theorem d_Law_law_447 : decode code 447 = .ok (.iload 5, 2) := by decide +kernel
theorem d_Law_law_449 : decode code 449 = .ok (.ifCond .ne 15, 3) := by decide +kernel
theorem d_Law_law_452 : decode code 452 = .ok (.aload_n 3, 1) := by decide +kernel
theorem d_Law_law_453 : decode code 453 = .ok (.iconst 0, 1) := by decide +kernel
theorem d_Law_law_454 : decode code 454 = .ok (.laload, 1) := by decide +kernel
theorem d_Law_law_455 : decode code 455 = .ok (.iload 6, 2) := by decide +kernel
theorem d_Law_law_457 : decode code 457 = .ok (.i2l, 1) := by decide +kernel
theorem d_Law_law_458 : decode code 458 = .ok (.lcmp, 1) := by decide +kernel
theorem d_Law_law_459 : decode code 459 = .ok (.ifCond .eq 5, 3) := by decide +kernel
theorem d_Law_law_462 : decode code 462 = .ok (.iconst 0, 1) := by decide +kernel
theorem d_Law_law_463 : decode code 463 = .ok (.ireturn, 1) := by decide +kernel
theorem d_Law_law_464 : decode code 464 = .ok (.goto 412, 3) := by decide +kernel
theorem d_Law_law_467 : decode code 467 = .ok (.aload_n 1, 1) := by decide +kernel
theorem d_Law_law_468 : decode code 468 = .ok (.aload_n 0, 1) := by decide +kernel
theorem d_Law_law_469 : decode code 469 = .ok (.iload 4, 2) := by decide +kernel
theorem d_Law_law_471 : decode code 471 = .ok (.iconst 1, 1) := by decide +kernel
theorem d_Law_law_472 : decode code 472 = .ok (.iadd, 1) := by decide +kernel
theorem d_Law_law_473 : decode code 473 = .ok (.iaload, 1) := by decide +kernel
theorem d_Law_law_474 : decode code 474 = .ok (.ifCond .eq 7, 3) := by decide +kernel
theorem d_Law_law_477 : decode code 477 = .ok (.iconst 1, 1) := by decide +kernel
theorem d_Law_law_478 : decode code 478 = .ok (.goto 4, 3) := by decide +kernel
theorem d_Law_law_481 : decode code 481 = .ok (.iconst 0, 1) := by decide +kernel
