/-! the law's instructions -/
theorem d_Law_law_737 : decode code 737 = .ok (.aload_n 3, 1) := by decide +kernel
theorem d_Law_law_738 : decode code 738 = .ok (.iconst 0, 1) := by decide +kernel
theorem d_Law_law_739 : decode code 739 = .ok (.laload, 1) := by decide +kernel
theorem d_Law_law_740 : decode code 740 = .ok (.iload 6, 2) := by decide +kernel
theorem d_Law_law_742 : decode code 742 = .ok (.i2l, 1) := by decide +kernel
theorem d_Law_law_743 : decode code 743 = .ok (.lcmp, 1) := by decide +kernel
theorem d_Law_law_744 : decode code 744 = .ok (.ifCond .eq 5, 3) := by decide +kernel
theorem d_Law_law_747 : decode code 747 = .ok (.iconst 0, 1) := by decide +kernel
theorem d_Law_law_748 : decode code 748 = .ok (.ireturn, 1) := by decide +kernel
theorem d_Law_law_749 : decode code 749 = .ok (.goto 127, 3) := by decide +kernel
theorem d_Law_law_752 : decode code 752 = .ok (.aload_n 1, 1) := by decide +kernel
theorem d_Law_law_753 : decode code 753 = .ok (.aload_n 0, 1) := by decide +kernel
theorem d_Law_law_754 : decode code 754 = .ok (.iload 4, 2) := by decide +kernel
theorem d_Law_law_756 : decode code 756 = .ok (.iconst 1, 1) := by decide +kernel
theorem d_Law_law_757 : decode code 757 = .ok (.iadd, 1) := by decide +kernel
theorem d_Law_law_758 : decode code 758 = .ok (.iaload, 1) := by decide +kernel
theorem d_Law_law_759 : decode code 759 = .ok (.aload_n 3, 1) := by decide +kernel
theorem d_Law_law_760 : decode code 760 = .ok (.invokestatic 127, 3) := by decide +kernel
theorem d_Law_law_763 : decode code 763 = .ok (.istore 5, 2) := by decide +kernel
theorem d_Law_law_765 : decode code 765 = .ok (.aload_n 2, 1) := by decide +kernel
theorem d_Law_law_766 : decode code 766 = .ok (.aload_n 0, 1) := by decide +kernel
theorem d_Law_law_767 : decode code 767 = .ok (.iload 4, 2) := by decide +kernel
theorem d_Law_law_769 : decode code 769 = .ok (.iconst 1, 1) := by decide +kernel
theorem d_Law_law_770 : decode code 770 = .ok (.iadd, 1) := by decide +kernel
theorem d_Law_law_771 : decode code 771 = .ok (.iaload, 1) := by decide +kernel
