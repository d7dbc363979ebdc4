/-! THE RUN, long roads, 3 -/
theorem qt_17_1 : qg_ok (qt_run 3 [(1, 2147483648, 2147483648), (100, 2147483665, 2147483665)]) = true := by decide +kernel
theorem qt_17_2 : qg_ok (qt_run 3 [(1, 2147483649, 2147483649), (100, 2147483665, 2147483665)]) = true := by decide +kernel
theorem qt_17_3 : qg_ok (qt_run 3 [(1, 2147483650, 2147483650), (100, 2147483665, 2147483665)]) = true := by decide +kernel
theorem qt_17_4 : qg_ok (qt_run 3 [(1, 2147483651, 2147483651), (100, 2147483665, 2147483665)]) = true := by decide +kernel
theorem qt_18_1 : qg_ok (qt_run 3 [(1, 2147483648, 2147483648), (100, 2147483666, 2147483666)]) = true := by decide +kernel
theorem qt_18_2 : qg_ok (qt_run 3 [(1, 2147483649, 2147483649), (100, 2147483666, 2147483666)]) = true := by decide +kernel
theorem qt_18_3 : qg_ok (qt_run 3 [(1, 2147483650, 2147483650), (100, 2147483666, 2147483666)]) = true := by decide +kernel
theorem qt_18_4 : qg_ok (qt_run 3 [(1, 2147483651, 2147483651), (100, 2147483666, 2147483666)]) = true := by decide +kernel
