/-! THE RUN, 3: the second root's measure -/
theorem wr_M : wm_ck = true := by decide +kernel
