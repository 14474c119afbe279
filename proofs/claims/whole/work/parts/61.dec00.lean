/-! the law's instructions -/
theorem d_Law_law_120 : decode code 120 = .ok (.aload_n 1, 1) := by decide +kernel
theorem d_Law_law_121 : decode code 121 = .ok (.aload_n 0, 1) := by decide +kernel
theorem d_Law_law_122 : decode code 122 = .ok (.iload 4, 2) := by decide +kernel
theorem d_Law_law_124 : decode code 124 = .ok (.iconst 1, 1) := by decide +kernel
theorem d_Law_law_125 : decode code 125 = .ok (.iadd, 1) := by decide +kernel
theorem d_Law_law_126 : decode code 126 = .ok (.iaload, 1) := by decide +kernel
theorem d_Law_law_127 : decode code 127 = .ok (.aload_n 3, 1) := by decide +kernel
theorem d_Law_law_128 : decode code 128 = .ok (.invokestatic 67, 3) := by decide +kernel
theorem d_Law_law_131 : decode code 131 = .ok (.istore 5, 2) := by decide +kernel
theorem d_Law_law_133 : decode code 133 = .ok (.aload_n 2, 1) := by decide +kernel
theorem d_Law_law_134 : decode code 134 = .ok (.aload_n 0, 1) := by decide +kernel
theorem d_Law_law_135 : decode code 135 = .ok (.iload 4, 2) := by decide +kernel
theorem d_Law_law_137 : decode code 137 = .ok (.iconst 1, 1) := by decide +kernel
theorem d_Law_law_138 : decode code 138 = .ok (.iadd, 1) := by decide +kernel
theorem d_Law_law_139 : decode code 139 = .ok (.iaload, 1) := by decide +kernel
theorem d_Law_law_140 : decode code 140 = .ok (.invokevirtual 72, 3) := by decide +kernel
theorem d_Law_law_143 : decode code 143 = .ok (.istore 6, 2) := by decide +kernel
theorem d_Law_law_145 : decode code 145 = .ok (.aload_n 2, 1) := by decide +kernel
theorem d_Law_law_146 : decode code 146 = .ok (.invokevirtual 73, 3) := by decide +kernel
theorem d_Law_law_149 : decode code 149 = .ok (.iload 5, 2) := by decide +kernel
theorem d_Law_law_151 : decode code 151 = .ok (.if_icmp .eq 5, 3) := by decide +kernel
theorem d_Law_law_154 : decode code 154 = .ok (.iconst 0, 1) := by decide +kernel
theorem d_Law_law_155 : decode code 155 = .ok (.ireturn, 1) := by decide +kernel
theorem d_Law_law_156 : decode code 156 = .ok (.iload 5, 2) := by decide +kernel
theorem d_Law_law_158 : decode code 158 = .ok (.ifCond .ne 15, 3) := by decide +kernel
