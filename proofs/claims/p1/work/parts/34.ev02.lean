/-! THE RUN, long roads, 1 -/
theorem qt_13_1 : qg_ok (qt_run 3 [(1, 2147483648, 2147483648), (100, 2147483661, 2147483661)]) = true := by decide +kernel
theorem qt_13_2 : qg_ok (qt_run 3 [(1, 2147483649, 2147483649), (100, 2147483661, 2147483661)]) = true := by decide +kernel
theorem qt_13_3 : qg_ok (qt_run 3 [(1, 2147483650, 2147483650), (100, 2147483661, 2147483661)]) = true := by decide +kernel
theorem qt_13_4 : qg_ok (qt_run 3 [(1, 2147483651, 2147483651), (100, 2147483661, 2147483661)]) = true := by decide +kernel
theorem qt_14_1 : qg_ok (qt_run 3 [(1, 2147483648, 2147483648), (100, 2147483662, 2147483662)]) = true := by decide +kernel
theorem qt_14_2 : qg_ok (qt_run 3 [(1, 2147483649, 2147483649), (100, 2147483662, 2147483662)]) = true := by decide +kernel
theorem qt_14_3 : qg_ok (qt_run 3 [(1, 2147483650, 2147483650), (100, 2147483662, 2147483662)]) = true := by decide +kernel
theorem qt_14_4 : qg_ok (qt_run 3 [(1, 2147483651, 2147483651), (100, 2147483662, 2147483662)]) = true := by decide +kernel
