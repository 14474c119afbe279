/-! the law's instructions -/
theorem d_Law_law_198 : decode code 198 = .ok (.aload_n 2, 1) := by decide +kernel
theorem d_Law_law_199 : decode code 199 = .ok (.invokevirtual 73, 3) := by decide +kernel
theorem d_Law_law_202 : decode code 202 = .ok (.iload 5, 2) := by decide +kernel
theorem d_Law_law_204 : decode code 204 = .ok (.if_icmp .eq 5, 3) := by decide +kernel
theorem d_Law_law_207 : decode code 207 = .ok (.iconst 0, 1) := by decide +kernel
theorem d_Law_law_208 : decode code 208 = .ok (.ireturn, 1) := by decide +kernel
theorem d_Law_law_209 : decode code 209 = .ok (.goto 667, 3) := by decide +kernel
theorem d_Law_law_212 : decode code 212 = .ok (.aload_n 1, 1) := by decide +kernel
theorem d_Law_law_213 : decode code 213 = .ok (.invokevirtual 80, 3) := by decide +kernel
theorem d_Law_law_216 : decode code 216 = .ok (.aload_n 2, 1) := by decide +kernel
theorem d_Law_law_217 : decode code 217 = .ok (.invokevirtual 83, 3) := by decide +kernel
theorem d_Law_law_220 : decode code 220 = .ok (.if_icmp .eq 656, 3) := by decide +kernel
theorem d_Law_law_223 : decode code 223 = .ok (.iconst 0, 1) := by decide +kernel
theorem d_Law_law_224 : decode code 224 = .ok (.ireturn, 1) := by decide +kernel
theorem d_Law_law_225 : decode code 225 = .ok (.aload_n 1, 1) := by decide +kernel
theorem d_Law_law_226 : decode code 226 = .ok (.invokevirtual 84, 3) := by decide +kernel
theorem d_Law_law_229 : decode code 229 = .ok (.aload_n 2, 1) := by decide +kernel
theorem d_Law_law_230 : decode code 230 = .ok (.invokevirtual 87, 3) := by decide +kernel
theorem d_Law_law_233 : decode code 233 = .ok (.if_icmp .eq 643, 3) := by decide +kernel
theorem d_Law_law_236 : decode code 236 = .ok (.iconst 0, 1) := by decide +kernel
theorem d_Law_law_237 : decode code 237 = .ok (.ireturn, 1) := by decide +kernel
theorem d_Law_law_238 : decode code 238 = .ok (.aload_n 1, 1) := by decide +kernel
theorem d_Law_law_239 : decode code 239 = .ok (.aload_n 0, 1) := by decide +kernel
theorem d_Law_law_240 : decode code 240 = .ok (.iload 4, 2) := by decide +kernel
theorem d_Law_law_242 : decode code 242 = .ok (.iconst 1, 1) := by decide +kernel
