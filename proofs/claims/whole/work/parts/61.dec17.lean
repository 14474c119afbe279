/-! the law's instructions -/
theorem d_Law_law_814 : decode code 814 = .ok (.iaload, 1) := by decide +kernel
theorem d_Law_law_815 : decode code 815 = .ok (.aload_n 0, 1) := by decide +kernel
theorem d_Law_law_816 : decode code 816 = .ok (.iload 4, 2) := by decide +kernel
theorem d_Law_law_818 : decode code 818 = .ok (.iconst 2, 1) := by decide +kernel
theorem d_Law_law_819 : decode code 819 = .ok (.iadd, 1) := by decide +kernel
theorem d_Law_law_820 : decode code 820 = .ok (.iaload, 1) := by decide +kernel
theorem d_Law_law_821 : decode code 821 = .ok (.aload_n 3, 1) := by decide +kernel
theorem d_Law_law_822 : decode code 822 = .ok (.invokestatic 130, 3) := by decide +kernel
theorem d_Law_law_825 : decode code 825 = .ok (.istore 5, 2) := by decide +kernel
theorem d_Law_law_827 : decode code 827 = .ok (.aload_n 2, 1) := by decide +kernel
theorem d_Law_law_828 : decode code 828 = .ok (.aload_n 0, 1) := by decide +kernel
theorem d_Law_law_829 : decode code 829 = .ok (.iload 4, 2) := by decide +kernel
theorem d_Law_law_831 : decode code 831 = .ok (.iconst 1, 1) := by decide +kernel
theorem d_Law_law_832 : decode code 832 = .ok (.iadd, 1) := by decide +kernel
theorem d_Law_law_833 : decode code 833 = .ok (.iaload, 1) := by decide +kernel
theorem d_Law_law_834 : decode code 834 = .ok (.aload_n 0, 1) := by decide +kernel
theorem d_Law_law_835 : decode code 835 = .ok (.iload 4, 2) := by decide +kernel
theorem d_Law_law_837 : decode code 837 = .ok (.iconst 2, 1) := by decide +kernel
theorem d_Law_law_838 : decode code 838 = .ok (.iadd, 1) := by decide +kernel
theorem d_Law_law_839 : decode code 839 = .ok (.iaload, 1) := by decide +kernel
theorem d_Law_law_840 : decode code 840 = .ok (.invokevirtual 132, 3) := by decide +kernel
theorem d_Law_law_843 : decode code 843 = .ok (.istore 6, 2) := by decide +kernel
theorem d_Law_law_845 : decode code 845 = .ok (.aload_n 2, 1) := by decide +kernel
theorem d_Law_law_846 : decode code 846 = .ok (.invokevirtual 73, 3) := by decide +kernel
theorem d_Law_law_849 : decode code 849 = .ok (.iload 5, 2) := by decide +kernel
