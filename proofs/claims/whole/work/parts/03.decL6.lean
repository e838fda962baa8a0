theorem mD_La_law_1000 : decode mB_La_law 1000 = .ok (.lcmp, 1) := by decide +kernel
theorem mD_La_law_1001 : decode mB_La_law 1001 = .ok (.ifCond .eq 5, 3) := by decide +kernel
theorem mD_La_law_1004 : decode mB_La_law 1004 = .ok (.iconst 0, 1) := by decide +kernel
theorem mD_La_law_1005 : decode mB_La_law 1005 = .ok (.ireturn, 1) := by decide +kernel
theorem mD_La_law_1006 : decode mB_La_law 1006 = .ok (.goto 3, 3) := by decide +kernel
theorem mD_La_law_1009 : decode mB_La_law 1009 = .ok (.iinc 4 4, 3) := by decide +kernel
theorem mD_La_law_1012 : decode mB_La_law 1012 = .ok (.goto (-989), 3) := by decide +kernel
theorem mD_La_law_1015 : decode mB_La_law 1015 = .ok (.iconst 1, 1) := by decide +kernel
theorem mD_La_law_1016 : decode mB_La_law 1016 = .ok (.ireturn, 1) := by decide +kernel
