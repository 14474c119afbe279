/-! the law's instructions -/
theorem d_Law_law_401 : decode code 401 = .ok (.iload 5, 2) := by decide +kernel
theorem d_Law_law_403 : decode code 403 = .ok (.if_icmp .eq 5, 3) := by decide +kernel
theorem d_Law_law_406 : decode code 406 = .ok (.iconst 0, 1) := by decide +kernel
theorem d_Law_law_407 : decode code 407 = .ok (.ireturn, 1) := by decide +kernel
theorem d_Law_law_408 : decode code 408 = .ok (.goto 468, 3) := by decide +kernel
theorem d_Law_law_411 : decode code 411 = .ok (.aload_n 1, 1) := by decide +kernel
theorem d_Law_law_412 : decode code 412 = .ok (.aload_n 0, 1) := by decide +kernel
theorem d_Law_law_413 : decode code 413 = .ok (.iload 4, 2) := by decide +kernel
theorem d_Law_law_415 : decode code 415 = .ok (.iconst 1, 1) := by decide +kernel
theorem d_Law_law_416 : decode code 416 = .ok (.iadd, 1) := by decide +kernel
theorem d_Law_law_417 : decode code 417 = .ok (.iaload, 1) := by decide +kernel
theorem d_Law_law_418 : decode code 418 = .ok (.aload_n 3, 1) := by decide +kernel
theorem d_Law_law_419 : decode code 419 = .ok (.invokestatic 103, 3) := by decide +kernel
theorem d_Law_law_422 : decode code 422 = .ok (.istore 5, 2) := by decide +kernel
theorem d_Law_law_424 : decode code 424 = .ok (.aload_n 2, 1) := by decide +kernel
theorem d_Law_law_425 : decode code 425 = .ok (.aload_n 0, 1) := by decide +kernel
theorem d_Law_law_426 : decode code 426 = .ok (.iload 4, 2) := by decide +kernel
theorem d_Law_law_428 : decode code 428 = .ok (.iconst 1, 1) := by decide +kernel
theorem d_Law_law_429 : decode code 429 = .ok (.iadd, 1) := by decide +kernel
theorem d_Law_law_430 : decode code 430 = .ok (.iaload, 1) := by decide +kernel
theorem d_Law_law_431 : decode code 431 = .ok (.invokevirtual 105, 3) := by decide +kernel
theorem d_Law_law_434 : decode code 434 = .ok (.istore 6, 2) := by decide +kernel
theorem d_Law_law_436 : decode code 436 = .ok (.aload_n 2, 1) := by decide +kernel
theorem d_Law_law_437 : decode code 437 = .ok (.invokevirtual 73, 3) := by decide +kernel
theorem d_Law_law_440 : decode code 440 = .ok (.iload 5, 2) := by decide +kernel
