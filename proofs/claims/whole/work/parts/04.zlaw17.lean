theorem dL_law_2809 : decode cL_law 2809 = .ok (.iconst 0, 1) := by decide +kernel
theorem dL_law_2810 : decode cL_law 2810 = .ok (.ireturn, 1) := by decide +kernel
theorem dL_law_2811 : decode cL_law 2811 = .ok (.iinc 4 6, 3) := by decide +kernel
theorem dL_law_2814 : decode cL_law 2814 = .ok (.goto (-2791), 3) := by decide +kernel
theorem dL_law_2817 : decode cL_law 2817 = .ok (.iconst 1, 1) := by decide +kernel
theorem dL_law_2818 : decode cL_law 2818 = .ok (.ireturn, 1) := by decide +kernel
