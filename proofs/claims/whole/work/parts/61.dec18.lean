/-! the law's instructions -/
theorem d_Law_law_851 : decode code 851 = .ok (.if_icmp .eq 5, 3) := by decide +kernel
theorem d_Law_law_854 : decode code 854 = .ok (.iconst 0, 1) := by decide +kernel
theorem d_Law_law_855 : decode code 855 = .ok (.ireturn, 1) := by decide +kernel
theorem d_Law_law_856 : decode code 856 = .ok (.iload 5, 2) := by decide +kernel
theorem d_Law_law_858 : decode code 858 = .ok (.ifCond .ne 15, 3) := by decide +kernel
theorem d_Law_law_861 : decode code 861 = .ok (.aload_n 3, 1) := by decide +kernel
theorem d_Law_law_862 : decode code 862 = .ok (.iconst 0, 1) := by decide +kernel
theorem d_Law_law_863 : decode code 863 = .ok (.laload, 1) := by decide +kernel
theorem d_Law_law_864 : decode code 864 = .ok (.iload 6, 2) := by decide +kernel
theorem d_Law_law_866 : decode code 866 = .ok (.i2l, 1) := by decide +kernel
theorem d_Law_law_867 : decode code 867 = .ok (.lcmp, 1) := by decide +kernel
theorem d_Law_law_868 : decode code 868 = .ok (.ifCond .eq 5, 3) := by decide +kernel
theorem d_Law_law_871 : decode code 871 = .ok (.iconst 0, 1) := by decide +kernel
theorem d_Law_law_872 : decode code 872 = .ok (.ireturn, 1) := by decide +kernel
theorem d_Law_law_873 : decode code 873 = .ok (.goto 3, 3) := by decide +kernel
