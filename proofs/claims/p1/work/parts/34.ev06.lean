/-! THE RUN, long roads, 5 -/
theorem qt_24 : qg_ok (qt_run 3 [(100, 2147483672, 2147483672)]) = true := by decide +kernel
theorem qt_25 : qg_ok (qt_run 3 [(100, 2147483673, 2147483673)]) = true := by decide +kernel
theorem qt_26 : qg_ok (qt_run 3 [(100, 2147483674, 2147483674)]) = true := by decide +kernel
theorem qt_27 : qg_ok (qt_run 3 [(100, 2147483675, 2147483675)]) = true := by decide +kernel
