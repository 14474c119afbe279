/-! the law's instructions -/
theorem d_Law_law_690 : decode code 690 = .ok (.iconst 0, 1) := by decide +kernel
theorem d_Law_law_691 : decode code 691 = .ok (.ireturn, 1) := by decide +kernel
theorem d_Law_law_692 : decode code 692 = .ok (.goto 184, 3) := by decide +kernel
theorem d_Law_law_695 : decode code 695 = .ok (.aload_n 1, 1) := by decide +kernel
theorem d_Law_law_696 : decode code 696 = .ok (.invokevirtual 120, 3) := by decide +kernel
theorem d_Law_law_699 : decode code 699 = .ok (.aload_n 2, 1) := by decide +kernel
theorem d_Law_law_700 : decode code 700 = .ok (.invokevirtual 123, 3) := by decide +kernel
theorem d_Law_law_703 : decode code 703 = .ok (.if_icmp .eq 173, 3) := by decide +kernel
theorem d_Law_law_706 : decode code 706 = .ok (.iconst 0, 1) := by decide +kernel
theorem d_Law_law_707 : decode code 707 = .ok (.ireturn, 1) := by decide +kernel
theorem d_Law_law_708 : decode code 708 = .ok (.aload_n 1, 1) := by decide +kernel
theorem d_Law_law_709 : decode code 709 = .ok (.aload_n 3, 1) := by decide +kernel
theorem d_Law_law_710 : decode code 710 = .ok (.invokestatic 124, 3) := by decide +kernel
theorem d_Law_law_713 : decode code 713 = .ok (.istore 5, 2) := by decide +kernel
theorem d_Law_law_715 : decode code 715 = .ok (.aload_n 2, 1) := by decide +kernel
theorem d_Law_law_716 : decode code 716 = .ok (.invokevirtual 126, 3) := by decide +kernel
theorem d_Law_law_719 : decode code 719 = .ok (.istore 6, 2) := by decide +kernel
theorem d_Law_law_721 : decode code 721 = .ok (.aload_n 2, 1) := by decide +kernel
theorem d_Law_law_722 : decode code 722 = .ok (.invokevirtual 73, 3) := by decide +kernel
theorem d_Law_law_725 : decode code 725 = .ok (.iload 5, 2) := by decide +kernel
theorem d_Law_law_727 : decode code 727 = .ok (.if_icmp .eq 5, 3) := by decide +kernel
theorem d_Law_law_730 : decode code 730 = .ok (.iconst 0, 1) := by decide +kernel
theorem d_Law_law_731 : decode code 731 = .ok (.ireturn, 1) := by decide +kernel
theorem d_Law_law_732 : decode code 732 = .ok (.iload 5, 2) := by decide +kernel
theorem d_Law_law_734 : decode code 734 = .ok (.ifCond .ne 15, 3) := by decide +kernel
