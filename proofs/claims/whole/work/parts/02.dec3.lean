theorem dL_law_703 : decode cL_law 703 = .ok (.iinc 4 4, 3) := by decide +kernel
theorem dL_law_706 : decode cL_law 706 = .ok (.goto (-683), 3) := by decide +kernel
theorem dL_law_709 : decode cL_law 709 = .ok (.iconst 1, 1) := by decide +kernel
theorem dL_law_710 : decode cL_law 710 = .ok (.ireturn, 1) := by decide +kernel
