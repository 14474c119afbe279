/-! the law's instructions -/
theorem d_Law_law_603 : decode code 603 = .ok (.invokestatic 113, 3) := by decide +kernel
theorem d_Law_law_606 : decode code 606 = .ok (.istore 5, 2) := by decide +kernel
theorem d_Law_law_608 : decode code 608 = .ok (.aload_n 2, 1) := by decide +kernel
theorem d_Law_law_609 : decode code 609 = .ok (.aload_n 0, 1) := by decide +kernel
theorem d_Law_law_610 : decode code 610 = .ok (.iload 4, 2) := by decide +kernel
theorem d_Law_law_612 : decode code 612 = .ok (.iconst 1, 1) := by decide +kernel
theorem d_Law_law_613 : decode code 613 = .ok (.iadd, 1) := by decide +kernel
theorem d_Law_law_614 : decode code 614 = .ok (.iaload, 1) := by decide +kernel
theorem d_Law_law_615 : decode code 615 = .ok (.invokevirtual 115, 3) := by decide +kernel
theorem d_Law_law_618 : decode code 618 = .ok (.istore 6, 2) := by decide +kernel
theorem d_Law_law_620 : decode code 620 = .ok (.aload_n 2, 1) := by decide +kernel
theorem d_Law_law_621 : decode code 621 = .ok (.invokevirtual 73, 3) := by decide +kernel
theorem d_Law_law_624 : decode code 624 = .ok (.iload 5, 2) := by decide +kernel
theorem d_Law_law_626 : decode code 626 = .ok (.if_icmp .eq 5, 3) := by decide +kernel
theorem d_Law_law_629 : decode code 629 = .ok (.iconst 0, 1) := by decide +kernel
theorem d_Law_law_630 : decode code 630 = .ok (.ireturn, 1) := by decide +kernel
theorem d_Law_law_631 : decode code 631 = .ok (.iload 5, 2) := by decide +kernel
theorem d_Law_law_633 : decode code 633 = .ok (.ifCond .ne 15, 3) := by decide +kernel
theorem d_Law_law_636 : decode code 636 = .ok (.aload_n 3, 1) := by decide +kernel
theorem d_Law_law_637 : decode code 637 = .ok (.iconst 0, 1) := by decide +kernel
theorem d_Law_law_638 : decode code 638 = .ok (.laload, 1) := by decide +kernel
theorem d_Law_law_639 : decode code 639 = .ok (.iload 6, 2) := by decide +kernel
theorem d_Law_law_641 : decode code 641 = .ok (.i2l, 1) := by decide +kernel
theorem d_Law_law_642 : decode code 642 = .ok (.lcmp, 1) := by decide +kernel
theorem d_Law_law_643 : decode code 643 = .ok (.ifCond .eq 5, 3) := by decide +kernel
