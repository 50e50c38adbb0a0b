theorem dL_law_2615 : decode cL_law 2615 = .ok (.if_icmp .eq 5, 3) := by decide +kernel
theorem dL_law_2618 : decode cL_law 2618 = .ok (.iconst 0, 1) := by decide +kernel
theorem dL_law_2619 : decode cL_law 2619 = .ok (.ireturn, 1) := by decide +kernel
theorem dL_law_2620 : decode cL_law 2620 = .ok (.iinc 4 8, 3) := by decide +kernel
theorem dL_law_2623 : decode cL_law 2623 = .ok (.goto (-2600), 3) := by decide +kernel
theorem dL_law_2626 : decode cL_law 2626 = .ok (.iconst 1, 1) := by decide +kernel
theorem dL_law_2627 : decode cL_law 2627 = .ok (.ireturn, 1) := by decide +kernel
