theorem dL_law_2580 : decode cL_law 2580 = .ok (.iinc 4 8, 3) := by decide +kernel
theorem dL_law_2583 : decode cL_law 2583 = .ok (.goto (-2560), 3) := by decide +kernel
theorem dL_law_2586 : decode cL_law 2586 = .ok (.iconst 1, 1) := by decide +kernel
theorem dL_law_2587 : decode cL_law 2587 = .ok (.ireturn, 1) := by decide +kernel
