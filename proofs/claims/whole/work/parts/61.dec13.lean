/-! the law's instructions -/
theorem d_Law_law_646 : decode code 646 = .ok (.iconst 0, 1) := by decide +kernel
theorem d_Law_law_647 : decode code 647 = .ok (.ireturn, 1) := by decide +kernel
theorem d_Law_law_648 : decode code 648 = .ok (.goto 228, 3) := by decide +kernel
theorem d_Law_law_651 : decode code 651 = .ok (.aload_n 1, 1) := by decide +kernel
theorem d_Law_law_652 : decode code 652 = .ok (.aload_n 3, 1) := by decide +kernel
theorem d_Law_law_653 : decode code 653 = .ok (.invokestatic 116, 3) := by decide +kernel
theorem d_Law_law_656 : decode code 656 = .ok (.istore 5, 2) := by decide +kernel
theorem d_Law_law_658 : decode code 658 = .ok (.aload_n 2, 1) := by decide +kernel
theorem d_Law_law_659 : decode code 659 = .ok (.invokevirtual 119, 3) := by decide +kernel
theorem d_Law_law_662 : decode code 662 = .ok (.istore 6, 2) := by decide +kernel
theorem d_Law_law_664 : decode code 664 = .ok (.aload_n 2, 1) := by decide +kernel
theorem d_Law_law_665 : decode code 665 = .ok (.invokevirtual 73, 3) := by decide +kernel
theorem d_Law_law_668 : decode code 668 = .ok (.iload 5, 2) := by decide +kernel
theorem d_Law_law_670 : decode code 670 = .ok (.if_icmp .eq 5, 3) := by decide +kernel
theorem d_Law_law_673 : decode code 673 = .ok (.iconst 0, 1) := by decide +kernel
theorem d_Law_law_674 : decode code 674 = .ok (.ireturn, 1) := by decide +kernel
theorem d_Law_law_675 : decode code 675 = .ok (.iload 5, 2) := by decide +kernel
theorem d_Law_law_677 : decode code 677 = .ok (.ifCond .ne 15, 3) := by decide +kernel
theorem d_Law_law_680 : decode code 680 = .ok (.aload_n 3, 1) := by decide +kernel
theorem d_Law_law_681 : decode code 681 = .ok (.iconst 0, 1) := by decide +kernel
theorem d_Law_law_682 : decode code 682 = .ok (.laload, 1) := by decide +kernel
theorem d_Law_law_683 : decode code 683 = .ok (.iload 6, 2) := by decide +kernel
theorem d_Law_law_685 : decode code 685 = .ok (.i2l, 1) := by decide +kernel
theorem d_Law_law_686 : decode code 686 = .ok (.lcmp, 1) := by decide +kernel
theorem d_Law_law_687 : decode code 687 = .ok (.ifCond .eq 5, 3) := by decide +kernel
