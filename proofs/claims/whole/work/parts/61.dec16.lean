/-! the law's instructions -/
theorem d_Law_law_772 : decode code 772 = .ok (.invokevirtual 129, 3) := by decide +kernel
theorem d_Law_law_775 : decode code 775 = .ok (.istore 6, 2) := by decide +kernel
theorem d_Law_law_777 : decode code 777 = .ok (.aload_n 2, 1) := by decide +kernel
theorem d_Law_law_778 : decode code 778 = .ok (.invokevirtual 73, 3) := by decide +kernel
theorem d_Law_law_781 : decode code 781 = .ok (.iload 5, 2) := by decide +kernel
theorem d_Law_law_783 : decode code 783 = .ok (.if_icmp .eq 5, 3) := by decide +kernel
theorem d_Law_law_786 : decode code 786 = .ok (.iconst 0, 1) := by decide +kernel
theorem d_Law_law_787 : decode code 787 = .ok (.ireturn, 1) := by decide +kernel
theorem d_Law_law_788 : decode code 788 = .ok (.iload 5, 2) := by decide +kernel
theorem d_Law_law_790 : decode code 790 = .ok (.ifCond .ne 15, 3) := by decide +kernel
theorem d_Law_law_793 : decode code 793 = .ok (.aload_n 3, 1) := by decide +kernel
theorem d_Law_law_794 : decode code 794 = .ok (.iconst 0, 1) := by decide +kernel
theorem d_Law_law_795 : decode code 795 = .ok (.laload, 1) := by decide +kernel
theorem d_Law_law_796 : decode code 796 = .ok (.iload 6, 2) := by decide +kernel
theorem d_Law_law_798 : decode code 798 = .ok (.i2l, 1) := by decide +kernel
theorem d_Law_law_799 : decode code 799 = .ok (.lcmp, 1) := by decide +kernel
theorem d_Law_law_800 : decode code 800 = .ok (.ifCond .eq 5, 3) := by decide +kernel
theorem d_Law_law_803 : decode code 803 = .ok (.iconst 0, 1) := by decide +kernel
theorem d_Law_law_804 : decode code 804 = .ok (.ireturn, 1) := by decide +kernel
theorem d_Law_law_805 : decode code 805 = .ok (.goto 71, 3) := by decide +kernel
theorem d_Law_law_808 : decode code 808 = .ok (.aload_n 1, 1) := by decide +kernel
theorem d_Law_law_809 : decode code 809 = .ok (.aload_n 0, 1) := by decide +kernel
theorem d_Law_law_810 : decode code 810 = .ok (.iload 4, 2) := by decide +kernel
theorem d_Law_law_812 : decode code 812 = .ok (.iconst 1, 1) := by decide +kernel
theorem d_Law_law_813 : decode code 813 = .ok (.iadd, 1) := by decide +kernel
