/-! THE RUN, long roads, 4 -/
theorem qt_19 : qg_ok (qt_run 3 [(100, 2147483667, 2147483667)]) = true := by decide +kernel
theorem qt_21 : qg_ok (qt_run 3 [(100, 2147483669, 2147483669)]) = true := by decide +kernel
theorem qt_22 : qg_ok (qt_run 3 [(100, 2147483670, 2147483670)]) = true := by decide +kernel
theorem qt_23_1 : qg_ok (qt_run 3 [(1, 2147483648, 2147483648), (100, 2147483671, 2147483671)]) = true := by decide +kernel
theorem qt_23_2 : qg_ok (qt_run 3 [(1, 2147483649, 2147483649), (100, 2147483671, 2147483671)]) = true := by decide +kernel
theorem qt_23_3 : qg_ok (qt_run 3 [(1, 2147483650, 2147483650), (100, 2147483671, 2147483671)]) = true := by decide +kernel
theorem qt_23_4 : qg_ok (qt_run 3 [(1, 2147483651, 2147483651), (100, 2147483671, 2147483671)]) = true := by decide +kernel
theorem qt_23_5 : qg_ok (qt_run 3 [(1, 2147483652, 2147483652), (100, 2147483671, 2147483671)]) = true := by decide +kernel
