/-! the law's instructions -/
theorem d_Law_law_564 : decode code 564 = .ok (.aload_n 2, 1) := by decide +kernel
theorem d_Law_law_565 : decode code 565 = .ok (.invokevirtual 73, 3) := by decide +kernel
theorem d_Law_law_568 : decode code 568 = .ok (.iload 5, 2) := by decide +kernel
theorem d_Law_law_570 : decode code 570 = .ok (.if_icmp .eq 5, 3) := by decide +kernel
theorem d_Law_law_573 : decode code 573 = .ok (.iconst 0, 1) := by decide +kernel
theorem d_Law_law_574 : decode code 574 = .ok (.ireturn, 1) := by decide +kernel
theorem d_Law_law_575 : decode code 575 = .ok (.iload 5, 2) := by decide +kernel
theorem d_Law_law_577 : decode code 577 = .ok (.ifCond .ne 15, 3) := by decide +kernel
theorem d_Law_law_580 : decode code 580 = .ok (.aload_n 3, 1) := by decide +kernel
theorem d_Law_law_581 : decode code 581 = .ok (.iconst 0, 1) := by decide +kernel
theorem d_Law_law_582 : decode code 582 = .ok (.laload, 1) := by decide +kernel
theorem d_Law_law_583 : decode code 583 = .ok (.iload 6, 2) := by decide +kernel
theorem d_Law_law_585 : decode code 585 = .ok (.i2l, 1) := by decide +kernel
theorem d_Law_law_586 : decode code 586 = .ok (.lcmp, 1) := by decide +kernel
theorem d_Law_law_587 : decode code 587 = .ok (.ifCond .eq 5, 3) := by decide +kernel
theorem d_Law_law_590 : decode code 590 = .ok (.iconst 0, 1) := by decide +kernel
theorem d_Law_law_591 : decode code 591 = .ok (.ireturn, 1) := by decide +kernel
theorem d_Law_law_592 : decode code 592 = .ok (.goto 284, 3) := by decide +kernel
theorem d_Law_law_595 : decode code 595 = .ok (.aload_n 1, 1) := by decide +kernel
theorem d_Law_law_596 : decode code 596 = .ok (.aload_n 0, 1) := by decide +kernel
theorem d_Law_law_597 : decode code 597 = .ok (.iload 4, 2) := by decide +kernel
theorem d_Law_law_599 : decode code 599 = .ok (.iconst 1, 1) := by decide +kernel
theorem d_Law_law_600 : decode code 600 = .ok (.iadd, 1) := by decide +kernel
theorem d_Law_law_601 : decode code 601 = .ok (.iaload, 1) := by decide +kernel
theorem d_Law_law_602 : decode code 602 = .ok (.aload_n 3, 1) := by decide +kernel
