/-! THE RUN, long roads, 2 -/
theorem qt_15_1 : qg_ok (qt_run 3 [(1, 2147483648, 2147483648), (100, 2147483663, 2147483663)]) = true := by decide +kernel
theorem qt_15_2 : qg_ok (qt_run 3 [(1, 2147483649, 2147483649), (100, 2147483663, 2147483663)]) = true := by decide +kernel
theorem qt_15_3 : qg_ok (qt_run 3 [(1, 2147483650, 2147483650), (100, 2147483663, 2147483663)]) = true := by decide +kernel
theorem qt_15_4 : qg_ok (qt_run 3 [(1, 2147483651, 2147483651), (100, 2147483663, 2147483663)]) = true := by decide +kernel
theorem qt_16_1 : qg_ok (qt_run 3 [(1, 2147483648, 2147483648), (100, 2147483664, 2147483664)]) = true := by decide +kernel
theorem qt_16_2 : qg_ok (qt_run 3 [(1, 2147483649, 2147483649), (100, 2147483664, 2147483664)]) = true := by decide +kernel
theorem qt_16_3 : qg_ok (qt_run 3 [(1, 2147483650, 2147483650), (100, 2147483664, 2147483664)]) = true := by decide +kernel
theorem qt_16_4 : qg_ok (qt_run 3 [(1, 2147483651, 2147483651), (100, 2147483664, 2147483664)]) = true := by decide +kernel
