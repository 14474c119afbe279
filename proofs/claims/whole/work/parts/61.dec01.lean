/-! the law's instructions -/
theorem d_Law_law_161 : decode code 161 = .ok (.aload_n 3, 1) := by decide +kernel
theorem d_Law_law_162 : decode code 162 = .ok (.iconst 0, 1) := by decide +kernel
theorem d_Law_law_163 : decode code 163 = .ok (.laload, 1) := by decide +kernel
theorem d_Law_law_164 : decode code 164 = .ok (.iload 6, 2) := by decide +kernel
theorem d_Law_law_166 : decode code 166 = .ok (.i2l, 1) := by decide +kernel
theorem d_Law_law_167 : decode code 167 = .ok (.lcmp, 1) := by decide +kernel
theorem d_Law_law_168 : decode code 168 = .ok (.ifCond .eq 5, 3) := by decide +kernel
theorem d_Law_law_171 : decode code 171 = .ok (.iconst 0, 1) := by decide +kernel
theorem d_Law_law_172 : decode code 172 = .ok (.ireturn, 1) := by decide +kernel
theorem d_Law_law_173 : decode code 173 = .ok (.goto 703, 3) := by decide +kernel
theorem d_Law_law_176 : decode code 176 = .ok (.aload_n 1, 1) := by decide +kernel
theorem d_Law_law_177 : decode code 177 = .ok (.aload_n 0, 1) := by decide +kernel
theorem d_Law_law_178 : decode code 178 = .ok (.iload 4, 2) := by decide +kernel
theorem d_Law_law_180 : decode code 180 = .ok (.iconst 1, 1) := by decide +kernel
theorem d_Law_law_181 : decode code 181 = .ok (.iadd, 1) := by decide +kernel
theorem d_Law_law_182 : decode code 182 = .ok (.iaload, 1) := by decide +kernel
theorem d_Law_law_183 : decode code 183 = .ok (.invokestatic 76, 3) := by decide +kernel
theorem d_Law_law_186 : decode code 186 = .ok (.istore 5, 2) := by decide +kernel
theorem d_Law_law_188 : decode code 188 = .ok (.aload_n 2, 1) := by decide +kernel
theorem d_Law_law_189 : decode code 189 = .ok (.aload_n 0, 1) := by decide +kernel
theorem d_Law_law_190 : decode code 190 = .ok (.iload 4, 2) := by decide +kernel
theorem d_Law_law_192 : decode code 192 = .ok (.iconst 1, 1) := by decide +kernel
theorem d_Law_law_193 : decode code 193 = .ok (.iadd, 1) := by decide +kernel
theorem d_Law_law_194 : decode code 194 = .ok (.iaload, 1) := by decide +kernel
theorem d_Law_law_195 : decode code 195 = .ok (.invokevirtual 79, 3) := by decide +kernel
