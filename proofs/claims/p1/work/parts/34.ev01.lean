/-! THE RUN, short roads -/
theorem qt_l0 : qg_ok (qt_run 0 []) = true := by decide +kernel
theorem qt_l1 : qg_ok (qt_run 1 []) = true := by decide +kernel
theorem qt_l2 : qg_ok (qt_run 2 []) = true := by decide +kernel
theorem qt_0 : qg_ok (qt_run 3 [(100, 2147483648, 2147483648)]) = true := by decide +kernel
theorem qt_1 : qg_ok (qt_run 3 [(100, 2147483649, 2147483649)]) = true := by decide +kernel
theorem qt_2 : qg_ok (qt_run 3 [(100, 2147483650, 2147483650)]) = true := by decide +kernel
theorem qt_3 : qg_ok (qt_run 3 [(100, 2147483651, 2147483651)]) = true := by decide +kernel
theorem qt_4 : qg_ok (qt_run 3 [(100, 2147483652, 2147483652)]) = true := by decide +kernel
theorem qt_5 : qg_ok (qt_run 3 [(100, 2147483653, 2147483653)]) = true := by decide +kernel
theorem qt_6 : qg_ok (qt_run 3 [(100, 2147483654, 2147483654)]) = true := by decide +kernel
theorem qt_7 : qg_ok (qt_run 3 [(100, 2147483655, 2147483655)]) = true := by decide +kernel
theorem qt_8 : qg_ok (qt_run 3 [(100, 2147483656, 2147483656)]) = true := by decide +kernel
theorem qt_9 : qg_ok (qt_run 3 [(100, 2147483657, 2147483657)]) = true := by decide +kernel
theorem qt_10 : qg_ok (qt_run 3 [(100, 2147483658, 2147483658)]) = true := by decide +kernel
theorem qt_11 : qg_ok (qt_run 3 [(100, 2147483659, 2147483659)]) = true := by decide +kernel
theorem qt_12 : qg_ok (qt_run 3 [(100, 2147483660, 2147483660)]) = true := by decide +kernel
theorem qt_13_0 : qg_ok (qt_run 3 [(1, 0, 2147483647), (100, 2147483661, 2147483661)]) = true := by decide +kernel
theorem qt_13_5 : qg_ok (qt_run 3 [(1, 2147483652, 2147483652), (100, 2147483661, 2147483661)]) = true := by decide +kernel
theorem qt_13_6 : qg_ok (qt_run 3 [(1, 2147483653, 4294967295), (100, 2147483661, 2147483661)]) = true := by decide +kernel
theorem qt_14_0 : qg_ok (qt_run 3 [(1, 0, 2147483647), (100, 2147483662, 2147483662)]) = true := by decide +kernel
theorem qt_14_5 : qg_ok (qt_run 3 [(1, 2147483652, 2147483652), (100, 2147483662, 2147483662)]) = true := by decide +kernel
theorem qt_14_6 : qg_ok (qt_run 3 [(1, 2147483653, 4294967295), (100, 2147483662, 2147483662)]) = true := by decide +kernel
theorem qt_15_0 : qg_ok (qt_run 3 [(1, 0, 2147483647), (100, 2147483663, 2147483663)]) = true := by decide +kernel
theorem qt_15_5 : qg_ok (qt_run 3 [(1, 2147483652, 2147483652), (100, 2147483663, 2147483663)]) = true := by decide +kernel
theorem qt_15_6 : qg_ok (qt_run 3 [(1, 2147483653, 4294967295), (100, 2147483663, 2147483663)]) = true := by decide +kernel
theorem qt_16_0 : qg_ok (qt_run 3 [(1, 0, 2147483647), (100, 2147483664, 2147483664)]) = true := by decide +kernel
theorem qt_16_5 : qg_ok (qt_run 3 [(1, 2147483652, 2147483652), (100, 2147483664, 2147483664)]) = true := by decide +kernel
theorem qt_16_6 : qg_ok (qt_run 3 [(1, 2147483653, 4294967295), (100, 2147483664, 2147483664)]) = true := by decide +kernel
theorem qt_17_0 : qg_ok (qt_run 3 [(1, 0, 2147483647), (100, 2147483665, 2147483665)]) = true := by decide +kernel
theorem qt_17_5 : qg_ok (qt_run 3 [(1, 2147483652, 2147483652), (100, 2147483665, 2147483665)]) = true := by decide +kernel
theorem qt_17_6 : qg_ok (qt_run 3 [(1, 2147483653, 4294967295), (100, 2147483665, 2147483665)]) = true := by decide +kernel
theorem qt_18_0 : qg_ok (qt_run 3 [(1, 0, 2147483647), (100, 2147483666, 2147483666)]) = true := by decide +kernel
theorem qt_18_5 : qg_ok (qt_run 3 [(1, 2147483652, 2147483652), (100, 2147483666, 2147483666)]) = true := by decide +kernel
theorem qt_18_6 : qg_ok (qt_run 3 [(1, 2147483653, 4294967295), (100, 2147483666, 2147483666)]) = true := by decide +kernel
theorem qt_20 : qg_ok (qt_run 3 [(100, 2147483668, 2147483668)]) = true := by decide +kernel
theorem qt_23_0 : qg_ok (qt_run 3 [(1, 0, 2147483647), (100, 2147483671, 2147483671)]) = true := by decide +kernel
theorem qt_23_6 : qg_ok (qt_run 3 [(1, 2147483653, 4294967295), (100, 2147483671, 2147483671)]) = true := by decide +kernel
theorem qt_28 : qg_ok (qt_run 3 [(100, 2147483676, 2147483676)]) = true := by decide +kernel
theorem qt_29 : qg_ok (qt_run 3 [(100, 2147483677, 2147483677)]) = true := by decide +kernel
theorem qt_30 : qg_ok (qt_run 3 [(100, 2147483678, 2147483678)]) = true := by decide +kernel
theorem qt_31 : qg_ok (qt_run 3 [(100, 2147483679, 2147483679)]) = true := by decide +kernel
