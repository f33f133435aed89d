/-! the law's instructions, 19 -/
theorem dL_law_2974 : decode cL_law 2974 = .ok (.iload 6, 2) := by decide +kernel
theorem dL_law_2976 : decode cL_law 2976 = .ok (.ifCond .ne 15, 3) := by decide +kernel
theorem dL_law_2979 : decode cL_law 2979 = .ok (.aload_n 3, 1) := by decide +kernel
theorem dL_law_2980 : decode cL_law 2980 = .ok (.iconst 0, 1) := by decide +kernel
theorem dL_law_2981 : decode cL_law 2981 = .ok (.laload, 1) := by decide +kernel
theorem dL_law_2982 : decode cL_law 2982 = .ok (.iload 7, 2) := by decide +kernel
theorem dL_law_2984 : decode cL_law 2984 = .ok (.i2l, 1) := by decide +kernel
theorem dL_law_2985 : decode cL_law 2985 = .ok (.lcmp, 1) := by decide +kernel
theorem dL_law_2986 : decode cL_law 2986 = .ok (.ifCond .eq 5, 3) := by decide +kernel
theorem dL_law_2989 : decode cL_law 2989 = .ok (.iconst 0, 1) := by decide +kernel
theorem dL_law_2990 : decode cL_law 2990 = .ok (.ireturn, 1) := by decide +kernel
theorem dL_law_2991 : decode cL_law 2991 = .ok (.goto 3, 3) := by decide +kernel
theorem dL_law_2994 : decode cL_law 2994 = .ok (.iinc 5 5, 3) := by decide +kernel
theorem dL_law_2997 : decode cL_law 2997 = .ok (.goto (-2969), 3) := by decide +kernel
theorem dL_law_3000 : decode cL_law 3000 = .ok (.iconst 1, 1) := by decide +kernel
theorem dL_law_3001 : decode cL_law 3001 = .ok (.ireturn, 1) := by decide +kernel
