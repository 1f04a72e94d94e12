theorem xJ9_max_7cf53_0 : xdec cJ9_max_7cf53 0 = some (.iload_n 0, 1, 0, 0) := by decide +kernel
theorem xJ9_max_7cf53_1 : xdec cJ9_max_7cf53 1 = some (.iload_n 1, 2, 1, 0) := by decide +kernel
theorem xJ9_max_7cf53_2 : xdec cJ9_max_7cf53 2 = some (.if_icmp .lt 7, 5, 9, 0) := by decide +kernel
theorem xJ9_max_7cf53_5 : xdec cJ9_max_7cf53 5 = some (.iload_n 0, 6, 0, 0) := by decide +kernel
theorem xJ9_max_7cf53_6 : xdec cJ9_max_7cf53 6 = some (.goto 4, 9, 10, 0) := by decide +kernel
theorem xJ9_max_7cf53_9 : xdec cJ9_max_7cf53 9 = some (.iload_n 1, 10, 1, 0) := by decide +kernel
theorem xJ9_max_7cf53_10 : xdec cJ9_max_7cf53 10 = some (.ireturn, 11, 0, 0) := by decide +kernel
theorem xJ9_min_7cf53_0 : xdec cJ9_min_7cf53 0 = some (.iload_n 0, 1, 0, 0) := by decide +kernel
theorem xJ9_min_7cf53_1 : xdec cJ9_min_7cf53 1 = some (.iload_n 1, 2, 1, 0) := by decide +kernel
theorem xJ9_min_7cf53_2 : xdec cJ9_min_7cf53 2 = some (.if_icmp .gt 7, 5, 9, 0) := by decide +kernel
theorem xJ9_min_7cf53_5 : xdec cJ9_min_7cf53 5 = some (.iload_n 0, 6, 0, 0) := by decide +kernel
theorem xJ9_min_7cf53_6 : xdec cJ9_min_7cf53 6 = some (.goto 4, 9, 10, 0) := by decide +kernel
theorem xJ9_min_7cf53_9 : xdec cJ9_min_7cf53 9 = some (.iload_n 1, 10, 1, 0) := by decide +kernel
theorem xJ9_min_7cf53_10 : xdec cJ9_min_7cf53 10 = some (.ireturn, 11, 0, 0) := by decide +kernel
