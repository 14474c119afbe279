/-! the law's instructions -/
theorem d_Law_law_526 : decode code 526 = .ok (.laload, 1) := by decide +kernel
theorem d_Law_law_527 : decode code 527 = .ok (.iload 6, 2) := by decide +kernel
theorem d_Law_law_529 : decode code 529 = .ok (.i2l, 1) := by decide +kernel
theorem d_Law_law_530 : decode code 530 = .ok (.lcmp, 1) := by decide +kernel
theorem d_Law_law_531 : decode code 531 = .ok (.ifCond .eq 5, 3) := by decide +kernel
theorem d_Law_law_534 : decode code 534 = .ok (.iconst 0, 1) := by decide +kernel
theorem d_Law_law_535 : decode code 535 = .ok (.ireturn, 1) := by decide +kernel
theorem d_Law_law_536 : decode code 536 = .ok (.goto 340, 3) := by decide +kernel
theorem d_Law_law_539 : decode code 539 = .ok (.aload_n 1, 1) := by decide +kernel
theorem d_Law_law_540 : decode code 540 = .ok (.aload_n 0, 1) := by decide +kernel
theorem d_Law_law_541 : decode code 541 = .ok (.iload 4, 2) := by decide +kernel
theorem d_Law_law_543 : decode code 543 = .ok (.iconst 1, 1) := by decide +kernel
theorem d_Law_law_544 : decode code 544 = .ok (.iadd, 1) := by decide +kernel
theorem d_Law_law_545 : decode code 545 = .ok (.iaload, 1) := by decide +kernel
theorem d_Law_law_546 : decode code 546 = .ok (.aload_n 3, 1) := by decide +kernel
theorem d_Law_law_547 : decode code 547 = .ok (.invokestatic 110, 3) := by decide +kernel
theorem d_Law_law_550 : decode code 550 = .ok (.istore 5, 2) := by decide +kernel
theorem d_Law_law_552 : decode code 552 = .ok (.aload_n 2, 1) := by decide +kernel
theorem d_Law_law_553 : decode code 553 = .ok (.aload_n 0, 1) := by decide +kernel
theorem d_Law_law_554 : decode code 554 = .ok (.iload 4, 2) := by decide +kernel
theorem d_Law_law_556 : decode code 556 = .ok (.iconst 1, 1) := by decide +kernel
theorem d_Law_law_557 : decode code 557 = .ok (.iadd, 1) := by decide +kernel
theorem d_Law_law_558 : decode code 558 = .ok (.iaload, 1) := by decide +kernel
theorem d_Law_law_559 : decode code 559 = .ok (.invokevirtual 112, 3) := by decide +kernel
theorem d_Law_law_562 : decode code 562 = .ok (.istore 6, 2) := by decide +kernel
