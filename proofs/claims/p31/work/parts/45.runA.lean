/-! THE RUN, 5: the first trees() of the reference -/
theorem wr_tA : ck_tailM wt_A = true := by decide +kernel
