/-! THE RUN, 6: each further trees() of the reference -/
theorem wr_tP : ck_tailM wt_P = true := by decide +kernel
