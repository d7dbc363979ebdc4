/-! DECODED, 1: made by wip/engine/gen21.py -/
theorem eX9_init_0 : decode cX9_init 0 = .ok (.aload_n 0, 1) := by decide +kernel
theorem eX9_init_1 : decode cX9_init 1 = .ok (.invokespecial 1, 3) := by decide +kernel
theorem eX9_init_4 : decode cX9_init 4 = .ok (.aload_n 0, 1) := by decide +kernel
theorem eX9_init_5 : decode cX9_init 5 = .ok (.new 7, 3) := by decide +kernel
theorem eX9_init_8 : decode cX9_init 8 = .ok (.dup, 1) := by decide +kernel
theorem eX9_init_9 : decode cX9_init 9 = .ok (.bipush 60, 2) := by decide +kernel
theorem eX9_init_11 : decode cX9_init 11 = .ok (.invokespecial 11, 3) := by decide +kernel
theorem eX9_init_14 : decode cX9_init 14 = .ok (.putfield 14, 3) := by decide +kernel
theorem eX9_init_17 : decode cX9_init 17 = .ok (.aload_n 0, 1) := by decide +kernel
theorem eX9_init_18 : decode cX9_init 18 = .ok (.new 18, 3) := by decide +kernel
theorem eX9_init_21 : decode cX9_init 21 = .ok (.dup, 1) := by decide +kernel
theorem eX9_init_22 : decode cX9_init 22 = .ok (.invokespecial 20, 3) := by decide +kernel
theorem eX9_init_25 : decode cX9_init 25 = .ok (.putfield 21, 3) := by decide +kernel
theorem eX9_init_28 : decode cX9_init 28 = .ok (.aload_n 0, 1) := by decide +kernel
theorem eX9_init_29 : decode cX9_init 29 = .ok (.new 18, 3) := by decide +kernel
theorem eX9_init_32 : decode cX9_init 32 = .ok (.dup, 1) := by decide +kernel
theorem eX9_init_33 : decode cX9_init 33 = .ok (.invokespecial 20, 3) := by decide +kernel
theorem eX9_init_36 : decode cX9_init 36 = .ok (.putfield 25, 3) := by decide +kernel
theorem eX9_init_39 : decode cX9_init 39 = .ok (.aload_n 0, 1) := by decide +kernel
theorem eX9_init_40 : decode cX9_init 40 = .ok (.iconst 0, 1) := by decide +kernel
theorem eX9_init_41 : decode cX9_init 41 = .ok (.putfield 28, 3) := by decide +kernel
theorem eX9_init_44 : decode cX9_init 44 = .ok (.aload_n 0, 1) := by decide +kernel
theorem eX9_init_45 : decode cX9_init 45 = .ok (.new 32, 3) := by decide +kernel
theorem eX9_init_48 : decode cX9_init 48 = .ok (.dup, 1) := by decide +kernel
theorem eX9_init_49 : decode cX9_init 49 = .ok (.invokespecial 34, 3) := by decide +kernel
theorem eX9_init_52 : decode cX9_init 52 = .ok (.putfield 35, 3) := by decide +kernel
theorem eX9_init_55 : decode cX9_init 55 = .ok (.aload_n 0, 1) := by decide +kernel
theorem eX9_init_56 : decode cX9_init 56 = .ok (.iconst (-1), 1) := by decide +kernel
theorem eX9_init_57 : decode cX9_init 57 = .ok (.putfield 39, 3) := by decide +kernel
theorem eX9_init_60 : decode cX9_init 60 = .ok (.aload_n 0, 1) := by decide +kernel
theorem eX9_init_61 : decode cX9_init 61 = .ok (.new 43, 3) := by decide +kernel
theorem eX9_init_64 : decode cX9_init 64 = .ok (.dup, 1) := by decide +kernel
theorem eX9_init_65 : decode cX9_init 65 = .ok (.aload_n 0, 1) := by decide +kernel
theorem eX9_init_66 : decode cX9_init 66 = .ok (.getfield 21, 3) := by decide +kernel
theorem eX9_init_69 : decode cX9_init 69 = .ok (.invokespecial 45, 3) := by decide +kernel
theorem eX9_init_72 : decode cX9_init 72 = .ok (.putfield 48, 3) := by decide +kernel
theorem eX9_init_75 : decode cX9_init 75 = .ok (.aload_n 0, 1) := by decide +kernel
theorem eX9_init_76 : decode cX9_init 76 = .ok (.new 52, 3) := by decide +kernel
theorem eX9_init_79 : decode cX9_init 79 = .ok (.dup, 1) := by decide +kernel
theorem eX9_init_80 : decode cX9_init 80 = .ok (.aload_n 0, 1) := by decide +kernel
theorem eX9_init_81 : decode cX9_init 81 = .ok (.getfield 21, 3) := by decide +kernel
theorem eX9_init_84 : decode cX9_init 84 = .ok (.invokespecial 54, 3) := by decide +kernel
theorem eX9_init_87 : decode cX9_init 87 = .ok (.putfield 55, 3) := by decide +kernel
theorem eX9_init_90 : decode cX9_init 90 = .ok (.aload_n 0, 1) := by decide +kernel
theorem eX9_init_91 : decode cX9_init 91 = .ok (.new 59, 3) := by decide +kernel
theorem eX9_init_94 : decode cX9_init 94 = .ok (.dup, 1) := by decide +kernel
theorem eX9_init_95 : decode cX9_init 95 = .ok (.aload_n 0, 1) := by decide +kernel
theorem eX9_init_96 : decode cX9_init 96 = .ok (.getfield 21, 3) := by decide +kernel
theorem eX9_init_99 : decode cX9_init 99 = .ok (.invokespecial 61, 3) := by decide +kernel
theorem eX9_init_102 : decode cX9_init 102 = .ok (.putfield 62, 3) := by decide +kernel
theorem eX9_init_105 : decode cX9_init 105 = .ok (.aload_n 0, 1) := by decide +kernel
theorem eX9_init_106 : decode cX9_init 106 = .ok (.new 66, 3) := by decide +kernel
theorem eX9_init_109 : decode cX9_init 109 = .ok (.dup, 1) := by decide +kernel
theorem eX9_init_110 : decode cX9_init 110 = .ok (.aload_n 0, 1) := by decide +kernel
theorem eX9_init_111 : decode cX9_init 111 = .ok (.getfield 21, 3) := by decide +kernel
theorem eX9_init_114 : decode cX9_init 114 = .ok (.aload_n 0, 1) := by decide +kernel
theorem eX9_init_115 : decode cX9_init 115 = .ok (.getfield 62, 3) := by decide +kernel
theorem eX9_init_118 : decode cX9_init 118 = .ok (.invokespecial 68, 3) := by decide +kernel
theorem eX9_init_121 : decode cX9_init 121 = .ok (.putfield 71, 3) := by decide +kernel
theorem eX9_init_124 : decode cX9_init 124 = .ok (.aload_n 0, 1) := by decide +kernel
theorem eX9_init_125 : decode cX9_init 125 = .ok (.new 75, 3) := by decide +kernel
theorem eX9_init_128 : decode cX9_init 128 = .ok (.dup, 1) := by decide +kernel
theorem eX9_init_129 : decode cX9_init 129 = .ok (.aload_n 0, 1) := by decide +kernel
theorem eX9_init_130 : decode cX9_init 130 = .ok (.getfield 21, 3) := by decide +kernel
theorem eX9_init_133 : decode cX9_init 133 = .ok (.aload_n 0, 1) := by decide +kernel
theorem eX9_init_134 : decode cX9_init 134 = .ok (.getfield 48, 3) := by decide +kernel
theorem eX9_init_137 : decode cX9_init 137 = .ok (.aload_n 0, 1) := by decide +kernel
theorem eX9_init_138 : decode cX9_init 138 = .ok (.getfield 55, 3) := by decide +kernel
theorem eX9_init_141 : decode cX9_init 141 = .ok (.aload_n 0, 1) := by decide +kernel
theorem eX9_init_142 : decode cX9_init 142 = .ok (.getfield 71, 3) := by decide +kernel
theorem eX9_init_145 : decode cX9_init 145 = .ok (.invokespecial 77, 3) := by decide +kernel
theorem eX9_init_148 : decode cX9_init 148 = .ok (.putfield 80, 3) := by decide +kernel
theorem eX9_init_151 : decode cX9_init 151 = .ok (.aload_n 0, 1) := by decide +kernel
theorem eX9_init_152 : decode cX9_init 152 = .ok (.new 84, 3) := by decide +kernel
theorem eX9_init_155 : decode cX9_init 155 = .ok (.dup, 1) := by decide +kernel
theorem eX9_init_156 : decode cX9_init 156 = .ok (.aload_n 0, 1) := by decide +kernel
theorem eX9_init_157 : decode cX9_init 157 = .ok (.getfield 21, 3) := by decide +kernel
theorem eX9_init_160 : decode cX9_init 160 = .ok (.aload_n 0, 1) := by decide +kernel
theorem eX9_init_161 : decode cX9_init 161 = .ok (.getfield 48, 3) := by decide +kernel
theorem eX9_init_164 : decode cX9_init 164 = .ok (.aload_n 0, 1) := by decide +kernel
theorem eX9_init_165 : decode cX9_init 165 = .ok (.getfield 55, 3) := by decide +kernel
theorem eX9_init_168 : decode cX9_init 168 = .ok (.aload_n 0, 1) := by decide +kernel
theorem eX9_init_169 : decode cX9_init 169 = .ok (.getfield 71, 3) := by decide +kernel
theorem eX9_init_172 : decode cX9_init 172 = .ok (.invokespecial 86, 3) := by decide +kernel
theorem eX9_init_175 : decode cX9_init 175 = .ok (.putfield 87, 3) := by decide +kernel
theorem eX9_init_178 : decode cX9_init 178 = .ok (.aload_n 0, 1) := by decide +kernel
theorem eX9_init_179 : decode cX9_init 179 = .ok (.iconst (-1), 1) := by decide +kernel
theorem eX9_init_180 : decode cX9_init 180 = .ok (.putfield 91, 3) := by decide +kernel
theorem eX9_init_183 : decode cX9_init 183 = .ok (.return_, 1) := by decide +kernel
theorem eX9_append_0 : decode cX9_append 0 = .ok (.iconst 0, 1) := by decide +kernel
theorem eX9_append_1 : decode cX9_append 1 = .ok (.istore_n 2, 1) := by decide +kernel
theorem eX9_append_2 : decode cX9_append 2 = .ok (.bipush 24, 2) := by decide +kernel
theorem eX9_append_4 : decode cX9_append 4 = .ok (.istore_n 3, 1) := by decide +kernel
theorem eX9_append_5 : decode cX9_append 5 = .ok (.iload_n 3, 1) := by decide +kernel
theorem eX9_append_6 : decode cX9_append 6 = .ok (.ifCond .lt 50, 3) := by decide +kernel
theorem eX9_append_9 : decode cX9_append 9 = .ok (.iload_n 1, 1) := by decide +kernel
theorem eX9_append_10 : decode cX9_append 10 = .ok (.iload_n 3, 1) := by decide +kernel
theorem eX9_append_11 : decode cX9_append 11 = .ok (.iushr, 1) := by decide +kernel
theorem eX9_append_12 : decode cX9_append 12 = .ok (.sipush 255, 3) := by decide +kernel
theorem eX9_append_15 : decode cX9_append 15 = .ok (.iand, 1) := by decide +kernel
theorem eX9_append_16 : decode cX9_append 16 = .ok (.istore 4, 2) := by decide +kernel
theorem eX9_append_18 : decode cX9_append 18 = .ok (.iload 4, 2) := by decide +kernel
theorem eX9_append_20 : decode cX9_append 20 = .ok (.ifCond .eq 30, 3) := by decide +kernel
theorem eX9_append_23 : decode cX9_append 23 = .ok (.iload 4, 2) := by decide +kernel
theorem eX9_append_25 : decode cX9_append 25 = .ok (.bipush 33, 2) := by decide +kernel
theorem eX9_append_27 : decode cX9_append 27 = .ok (.if_icmp .lt 10, 3) := by decide +kernel
theorem eX9_append_30 : decode cX9_append 30 = .ok (.iload 4, 2) := by decide +kernel
theorem eX9_append_32 : decode cX9_append 32 = .ok (.bipush 126, 2) := by decide +kernel
theorem eX9_append_34 : decode cX9_append 34 = .ok (.if_icmp .le 13, 3) := by decide +kernel
theorem eX9_append_37 : decode cX9_append 37 = .ok (.new 94, 3) := by decide +kernel
theorem eX9_append_40 : decode cX9_append 40 = .ok (.dup, 1) := by decide +kernel
theorem eX9_append_41 : decode cX9_append 41 = .ok (.ldc 96, 2) := by decide +kernel
theorem eX9_append_43 : decode cX9_append 43 = .ok (.invokespecial 98, 3) := by decide +kernel
theorem eX9_append_46 : decode cX9_append 46 = .ok (.athrow, 1) := by decide +kernel
theorem eX9_append_47 : decode cX9_append 47 = .ok (.iinc 2 1, 3) := by decide +kernel
theorem eX9_append_50 : decode cX9_append 50 = .ok (.iinc 3 (-8), 3) := by decide +kernel
theorem eX9_append_53 : decode cX9_append 53 = .ok (.goto (-48), 3) := by decide +kernel
theorem eX9_append_56 : decode cX9_append 56 = .ok (.aload_n 0, 1) := by decide +kernel
theorem eX9_append_57 : decode cX9_append 57 = .ok (.getfield 14, 3) := by decide +kernel
theorem eX9_append_60 : decode cX9_append 60 = .ok (.getfield 101, 3) := by decide +kernel
theorem eX9_append_63 : decode cX9_append 63 = .ok (.iload_n 2, 1) := by decide +kernel
theorem eX9_append_64 : decode cX9_append 64 = .ok (.iadd, 1) := by decide +kernel
theorem eX9_append_65 : decode cX9_append 65 = .ok (.bipush 60, 2) := by decide +kernel
theorem eX9_append_67 : decode cX9_append 67 = .ok (.if_icmp .le 13, 3) := by decide +kernel
theorem eX9_append_80 : decode cX9_append 80 = .ok (.bipush 24, 2) := by decide +kernel
theorem eX9_append_82 : decode cX9_append 82 = .ok (.istore_n 3, 1) := by decide +kernel
theorem eX9_append_83 : decode cX9_append 83 = .ok (.iload_n 3, 1) := by decide +kernel
theorem eX9_append_84 : decode cX9_append 84 = .ok (.ifCond .lt 32, 3) := by decide +kernel
theorem eX9_append_87 : decode cX9_append 87 = .ok (.iload_n 1, 1) := by decide +kernel
theorem eX9_append_88 : decode cX9_append 88 = .ok (.iload_n 3, 1) := by decide +kernel
theorem eX9_append_89 : decode cX9_append 89 = .ok (.iushr, 1) := by decide +kernel
theorem eX9_append_90 : decode cX9_append 90 = .ok (.sipush 255, 3) := by decide +kernel
theorem eX9_append_93 : decode cX9_append 93 = .ok (.iand, 1) := by decide +kernel
theorem eX9_append_94 : decode cX9_append 94 = .ok (.istore 4, 2) := by decide +kernel
theorem eX9_append_96 : decode cX9_append 96 = .ok (.iload 4, 2) := by decide +kernel
theorem eX9_append_98 : decode cX9_append 98 = .ok (.ifCond .eq 12, 3) := by decide +kernel
theorem eX9_append_101 : decode cX9_append 101 = .ok (.aload_n 0, 1) := by decide +kernel
theorem eX9_append_102 : decode cX9_append 102 = .ok (.getfield 14, 3) := by decide +kernel
theorem eX9_append_105 : decode cX9_append 105 = .ok (.iload 4, 2) := by decide +kernel
theorem eX9_append_107 : decode cX9_append 107 = .ok (.invokevirtual 109, 3) := by decide +kernel
theorem eX9_append_110 : decode cX9_append 110 = .ok (.iinc 3 (-8), 3) := by decide +kernel
theorem eX9_append_113 : decode cX9_append 113 = .ok (.goto (-30), 3) := by decide +kernel
theorem eX9_append_116 : decode cX9_append 116 = .ok (.aload_n 0, 1) := by decide +kernel
theorem eX9_append_117 : decode cX9_append 117 = .ok (.getfield 14, 3) := by decide +kernel
theorem eX9_append_120 : decode cX9_append 120 = .ok (.getfield 101, 3) := by decide +kernel
theorem eX9_append_123 : decode cX9_append 123 = .ok (.ireturn, 1) := by decide +kernel
theorem eX9_clear_0 : decode cX9_clear 0 = .ok (.aload_n 0, 1) := by decide +kernel
theorem eX9_clear_1 : decode cX9_clear 1 = .ok (.getfield 14, 3) := by decide +kernel
theorem eX9_clear_4 : decode cX9_clear 4 = .ok (.getfield 101, 3) := by decide +kernel
theorem eX9_clear_7 : decode cX9_clear 7 = .ok (.istore_n 1, 1) := by decide +kernel
theorem eX9_clear_8 : decode cX9_clear 8 = .ok (.aload_n 0, 1) := by decide +kernel
theorem eX9_clear_9 : decode cX9_clear 9 = .ok (.getfield 14, 3) := by decide +kernel
theorem eX9_clear_12 : decode cX9_clear 12 = .ok (.invokevirtual 112, 3) := by decide +kernel
theorem eX9_clear_15 : decode cX9_clear 15 = .ok (.iload_n 1, 1) := by decide +kernel
theorem eX9_clear_16 : decode cX9_clear 16 = .ok (.ireturn, 1) := by decide +kernel
theorem eX9_add_0 : decode cX9_add 0 = .ok (.aload_n 0, 1) := by decide +kernel
theorem eX9_add_1 : decode cX9_add 1 = .ok (.getfield 14, 3) := by decide +kernel
theorem eX9_add_4 : decode cX9_add 4 = .ok (.invokevirtual 115, 3) := by decide +kernel
theorem eX9_add_7 : decode cX9_add 7 = .ok (.ifCond .ne 13, 3) := by decide +kernel
theorem eX9_add_10 : decode cX9_add 10 = .ok (.new 94, 3) := by decide +kernel
theorem eX9_add_13 : decode cX9_add 13 = .ok (.dup, 1) := by decide +kernel
theorem eX9_add_14 : decode cX9_add 14 = .ok (.ldc 119, 2) := by decide +kernel
theorem eX9_add_16 : decode cX9_add 16 = .ok (.invokespecial 98, 3) := by decide +kernel
theorem eX9_add_19 : decode cX9_add 19 = .ok (.athrow, 1) := by decide +kernel
theorem eX9_remove_0 : decode cX9_remove 0 = .ok (.aload_n 0, 1) := by decide +kernel
theorem eX9_remove_1 : decode cX9_remove 1 = .ok (.iload_n 1, 1) := by decide +kernel
theorem eX9_remove_2 : decode cX9_remove 2 = .ok (.invokevirtual 133, 3) := by decide +kernel
theorem eX9_setBranch_0 : decode cX9_setBranch 0 = .ok (.aload_n 0, 1) := by decide +kernel
theorem eX9_setBranch_1 : decode cX9_setBranch 1 = .ok (.iload_n 1, 1) := by decide +kernel
theorem eX9_setBranch_2 : decode cX9_setBranch 2 = .ok (.invokevirtual 133, 3) := by decide +kernel
theorem eX9_setWeight_0 : decode cX9_setWeight 0 = .ok (.aload_n 0, 1) := by decide +kernel
theorem eX9_setWeight_1 : decode cX9_setWeight 1 = .ok (.iload_n 1, 1) := by decide +kernel
theorem eX9_setWeight_2 : decode cX9_setWeight 2 = .ok (.invokevirtual 133, 3) := by decide +kernel
theorem eX9_setLoad_0 : decode cX9_setLoad 0 = .ok (.iload_n 1, 1) := by decide +kernel
theorem eX9_setLoad_1 : decode cX9_setLoad 1 = .ok (.bipush 50, 2) := by decide +kernel
theorem eX9_setLoad_3 : decode cX9_setLoad 3 = .ok (.if_icmp .lt 9, 3) := by decide +kernel
theorem eX9_setLoad_6 : decode cX9_setLoad 6 = .ok (.iload_n 1, 1) := by decide +kernel
theorem eX9_setLoad_7 : decode cX9_setLoad 7 = .ok (.bipush 100, 2) := by decide +kernel
theorem eX9_setLoad_9 : decode cX9_setLoad 9 = .ok (.if_icmp .le 13, 3) := by decide +kernel
theorem eX9_setLoad_12 : decode cX9_setLoad 12 = .ok (.new 94, 3) := by decide +kernel
theorem eX9_setLoad_15 : decode cX9_setLoad 15 = .ok (.dup, 1) := by decide +kernel
theorem eX9_setLoad_16 : decode cX9_setLoad 16 = .ok (.ldc 156, 2) := by decide +kernel
theorem eX9_setLoad_18 : decode cX9_setLoad 18 = .ok (.invokespecial 98, 3) := by decide +kernel
theorem eX9_setLoad_21 : decode cX9_setLoad 21 = .ok (.athrow, 1) := by decide +kernel
theorem eX9_setLoad_22 : decode cX9_setLoad 22 = .ok (.aload_n 0, 1) := by decide +kernel
theorem eX9_setLoad_23 : decode cX9_setLoad 23 = .ok (.getfield 21, 3) := by decide +kernel
theorem eX9_setLoad_26 : decode cX9_setLoad 26 = .ok (.getfield 158, 3) := by decide +kernel
theorem eX9_setLoad_29 : decode cX9_setLoad 29 = .ok (.istore_n 2, 1) := by decide +kernel
theorem eX9_setLoad_30 : decode cX9_setLoad 30 = .ok (.aload_n 0, 1) := by decide +kernel
theorem eX9_setLoad_31 : decode cX9_setLoad 31 = .ok (.getfield 21, 3) := by decide +kernel
theorem eX9_setLoad_34 : decode cX9_setLoad 34 = .ok (.iload_n 1, 1) := by decide +kernel
theorem eX9_setLoad_35 : decode cX9_setLoad 35 = .ok (.invokevirtual 161, 3) := by decide +kernel
theorem eX9_setLoad_38 : decode cX9_setLoad 38 = .ok (.iload_n 2, 1) := by decide +kernel
theorem eX9_setLoad_39 : decode cX9_setLoad 39 = .ok (.ireturn, 1) := by decide +kernel
theorem eX9_execute_0 : decode cX9_execute 0 = .ok (.aload_n 0, 1) := by decide +kernel
theorem eX9_execute_1 : decode cX9_execute 1 = .ok (.getfield 35, 3) := by decide +kernel
theorem eX9_execute_4 : decode cX9_execute 4 = .ok (.aload_n 0, 1) := by decide +kernel
theorem eX9_execute_5 : decode cX9_execute 5 = .ok (.getfield 14, 3) := by decide +kernel
theorem eX9_execute_8 : decode cX9_execute 8 = .ok (.invokevirtual 164, 3) := by decide +kernel
theorem eX9_execute_11 : decode cX9_execute 11 = .ok (.istore_n 1, 1) := by decide +kernel
theorem eX9_execute_12 : decode cX9_execute 12 = .ok (.iload_n 1, 1) := by decide +kernel
theorem eX9_execute_13 : decode cX9_execute 13 = .ok (.ifCond .eq 25, 3) := by decide +kernel
theorem eX9_execute_38 : decode cX9_execute 38 = .ok (.iconst 0, 1) := by decide +kernel
theorem eX9_execute_39 : decode cX9_execute 39 = .ok (.istore_n 2, 1) := by decide +kernel
theorem eX9_execute_40 : decode cX9_execute 40 = .ok (.aload_n 0, 1) := by decide +kernel
theorem eX9_execute_41 : decode cX9_execute 41 = .ok (.aload_n 0, 1) := by decide +kernel
theorem eX9_execute_42 : decode cX9_execute 42 = .ok (.getfield 35, 3) := by decide +kernel
theorem eX9_execute_45 : decode cX9_execute 45 = .ok (.getfield 172, 3) := by decide +kernel
theorem eX9_execute_48 : decode cX9_execute 48 = .ok (.putfield 39, 3) := by decide +kernel
theorem eX9_execute_51 : decode cX9_execute 51 = .ok (.aload_n 0, 1) := by decide +kernel
theorem eX9_execute_52 : decode cX9_execute 52 = .ok (.getfield 14, 3) := by decide +kernel
theorem eX9_execute_55 : decode cX9_execute 55 = .ok (.invokevirtual 112, 3) := by decide +kernel
theorem eX9_execute_58 : decode cX9_execute 58 = .ok (.iload_n 1, 1) := by decide +kernel
theorem eX9_execute_59 : decode cX9_execute 59 = .ok (.ifCond .ne 13, 3) := by decide +kernel
theorem eX9_execute_62 : decode cX9_execute 62 = .ok (.new 94, 3) := by decide +kernel
theorem eX9_execute_65 : decode cX9_execute 65 = .ok (.dup, 1) := by decide +kernel
theorem eX9_execute_66 : decode cX9_execute 66 = .ok (.ldc 175, 2) := by decide +kernel
theorem eX9_execute_68 : decode cX9_execute 68 = .ok (.invokespecial 98, 3) := by decide +kernel
theorem eX9_execute_71 : decode cX9_execute 71 = .ok (.athrow, 1) := by decide +kernel
theorem eX9_errorPosition_0 : decode cX9_errorPosition 0 = .ok (.aload_n 0, 1) := by decide +kernel
theorem eX9_errorPosition_1 : decode cX9_errorPosition 1 = .ok (.getfield 39, 3) := by decide +kernel
theorem eX9_errorPosition_4 : decode cX9_errorPosition 4 = .ok (.ireturn, 1) := by decide +kernel
theorem eX9_property_0 : decode cX9_property 0 = .ok (.aload_n 0, 1) := by decide +kernel
theorem eX9_property_1 : decode cX9_property 1 = .ok (.iload_n 1, 1) := by decide +kernel
theorem eX9_property_2 : decode cX9_property 2 = .ok (.invokevirtual 133, 3) := by decide +kernel
theorem eX9_character_0 : decode cX9_character 0 = .ok (.aload_n 0, 1) := by decide +kernel
theorem eX9_character_1 : decode cX9_character 1 = .ok (.iload_n 1, 1) := by decide +kernel
theorem eX9_character_2 : decode cX9_character 2 = .ok (.invokevirtual 133, 3) := by decide +kernel
theorem eX9_difference_0 : decode cX9_difference 0 = .ok (.aload_n 0, 1) := by decide +kernel
theorem eX9_difference_1 : decode cX9_difference 1 = .ok (.iload_n 1, 1) := by decide +kernel
theorem eX9_difference_2 : decode cX9_difference 2 = .ok (.invokevirtual 133, 3) := by decide +kernel
theorem eX9_size_0 : decode cX9_size 0 = .ok (.iload_n 1, 1) := by decide +kernel
theorem eX9_size_1 : decode cX9_size 1 = .ok (.tableswitch 51 0 2 #[27, 35, 43], 27) := by decide +kernel
theorem eX9_size_28 : decode cX9_size 28 = .ok (.aload_n 0, 1) := by decide +kernel
theorem eX9_size_29 : decode cX9_size 29 = .ok (.getfield 21, 3) := by decide +kernel
theorem eX9_size_32 : decode cX9_size 32 = .ok (.getfield 130, 3) := by decide +kernel
theorem eX9_size_35 : decode cX9_size 35 = .ok (.ireturn, 1) := by decide +kernel
theorem eX9_size_36 : decode cX9_size 36 = .ok (.aload_n 0, 1) := by decide +kernel
theorem eX9_size_37 : decode cX9_size 37 = .ok (.getfield 21, 3) := by decide +kernel
theorem eX9_size_40 : decode cX9_size 40 = .ok (.getfield 158, 3) := by decide +kernel
theorem eX9_size_43 : decode cX9_size 43 = .ok (.ireturn, 1) := by decide +kernel
theorem eX9_size_44 : decode cX9_size 44 = .ok (.aload_n 0, 1) := by decide +kernel
theorem eX9_size_45 : decode cX9_size 45 = .ok (.getfield 14, 3) := by decide +kernel
theorem eX9_size_48 : decode cX9_size 48 = .ok (.getfield 101, 3) := by decide +kernel
theorem eX9_size_51 : decode cX9_size 51 = .ok (.ireturn, 1) := by decide +kernel
theorem eX9_size_52 : decode cX9_size 52 = .ok (.new 94, 3) := by decide +kernel
theorem eX9_size_55 : decode cX9_size 55 = .ok (.dup, 1) := by decide +kernel
theorem eX9_size_56 : decode cX9_size 56 = .ok (.ldc 206, 2) := by decide +kernel
theorem eX9_size_58 : decode cX9_size 58 = .ok (.invokespecial 98, 3) := by decide +kernel
theorem eX9_size_61 : decode cX9_size 61 = .ok (.athrow, 1) := by decide +kernel
theorem eX9_find_0 : decode cX9_find 0 = .ok (.aload_n 0, 1) := by decide +kernel
theorem eX9_find_1 : decode cX9_find 1 = .ok (.invokevirtual 208, 3) := by decide +kernel
theorem eX9_find_4 : decode cX9_find 4 = .ok (.aload_n 0, 1) := by decide +kernel
theorem eX9_find_5 : decode cX9_find 5 = .ok (.iload_n 1, 1) := by decide +kernel
theorem eX9_find_6 : decode cX9_find 6 = .ok (.invokevirtual 211, 3) := by decide +kernel
theorem eX9_find_9 : decode cX9_find 9 = .ok (.aload_n 0, 1) := by decide +kernel
theorem eX9_find_10 : decode cX9_find 10 = .ok (.getfield 80, 3) := by decide +kernel
theorem eX9_find_13 : decode cX9_find 13 = .ok (.aload_n 0, 1) := by decide +kernel
theorem eX9_find_14 : decode cX9_find 14 = .ok (.getfield 14, 3) := by decide +kernel
theorem eX9_find_17 : decode cX9_find 17 = .ok (.iload_n 1, 1) := by decide +kernel
theorem eX9_find_18 : decode cX9_find 18 = .ok (.invokevirtual 214, 3) := by decide +kernel
theorem eX9_find_21 : decode cX9_find 21 = .ok (.aload_n 0, 1) := by decide +kernel
theorem eX9_find_22 : decode cX9_find 22 = .ok (.getfield 80, 3) := by decide +kernel
theorem eX9_find_25 : decode cX9_find 25 = .ok (.getfield 218, 3) := by decide +kernel
theorem eX9_find_28 : decode cX9_find 28 = .ok (.ireturn, 1) := by decide +kernel
theorem eX9_branch_0 : decode cX9_branch 0 = .ok (.aload_n 0, 1) := by decide +kernel
theorem eX9_branch_1 : decode cX9_branch 1 = .ok (.invokevirtual 208, 3) := by decide +kernel
theorem eX9_branch_4 : decode cX9_branch 4 = .ok (.aload_n 0, 1) := by decide +kernel
theorem eX9_branch_5 : decode cX9_branch 5 = .ok (.iload_n 1, 1) := by decide +kernel
theorem eX9_branch_6 : decode cX9_branch 6 = .ok (.invokevirtual 211, 3) := by decide +kernel
theorem eX9_branch_9 : decode cX9_branch 9 = .ok (.aload_n 0, 1) := by decide +kernel
theorem eX9_branch_10 : decode cX9_branch 10 = .ok (.getfield 80, 3) := by decide +kernel
theorem eX9_branch_13 : decode cX9_branch 13 = .ok (.aload_n 0, 1) := by decide +kernel
theorem eX9_branch_14 : decode cX9_branch 14 = .ok (.getfield 14, 3) := by decide +kernel
theorem eX9_branch_17 : decode cX9_branch 17 = .ok (.iload_n 1, 1) := by decide +kernel
theorem eX9_branch_18 : decode cX9_branch 18 = .ok (.invokevirtual 214, 3) := by decide +kernel
theorem eX9_branch_21 : decode cX9_branch 21 = .ok (.aload_n 0, 1) := by decide +kernel
theorem eX9_branch_22 : decode cX9_branch 22 = .ok (.getfield 80, 3) := by decide +kernel
theorem eX9_branch_25 : decode cX9_branch 25 = .ok (.getfield 218, 3) := by decide +kernel
theorem eX9_branch_28 : decode cX9_branch 28 = .ok (.iconst (-1), 1) := by decide +kernel
theorem eX9_branch_29 : decode cX9_branch 29 = .ok (.if_icmp .ne 7, 3) := by decide +kernel
theorem eX9_branch_32 : decode cX9_branch 32 = .ok (.iconst (-1), 1) := by decide +kernel
theorem eX9_branch_33 : decode cX9_branch 33 = .ok (.goto 20, 3) := by decide +kernel
theorem eX9_branch_53 : decode cX9_branch 53 = .ok (.ireturn, 1) := by decide +kernel
theorem eX9_examined_0 : decode cX9_examined 0 = .ok (.aload_n 0, 1) := by decide +kernel
theorem eX9_examined_1 : decode cX9_examined 1 = .ok (.invokevirtual 208, 3) := by decide +kernel
theorem eX9_examined_4 : decode cX9_examined 4 = .ok (.aload_n 0, 1) := by decide +kernel
theorem eX9_examined_5 : decode cX9_examined 5 = .ok (.iload_n 1, 1) := by decide +kernel
theorem eX9_examined_6 : decode cX9_examined 6 = .ok (.invokevirtual 211, 3) := by decide +kernel
theorem eX9_examined_9 : decode cX9_examined 9 = .ok (.aload_n 0, 1) := by decide +kernel
theorem eX9_examined_10 : decode cX9_examined 10 = .ok (.getfield 80, 3) := by decide +kernel
theorem eX9_examined_13 : decode cX9_examined 13 = .ok (.aload_n 0, 1) := by decide +kernel
theorem eX9_examined_14 : decode cX9_examined 14 = .ok (.getfield 14, 3) := by decide +kernel
theorem eX9_examined_17 : decode cX9_examined 17 = .ok (.iload_n 1, 1) := by decide +kernel
theorem eX9_examined_18 : decode cX9_examined 18 = .ok (.invokevirtual 214, 3) := by decide +kernel
theorem eX9_examined_21 : decode cX9_examined 21 = .ok (.aload_n 0, 1) := by decide +kernel
theorem eX9_examined_22 : decode cX9_examined 22 = .ok (.getfield 80, 3) := by decide +kernel
theorem eX9_examined_25 : decode cX9_examined 25 = .ok (.getfield 221, 3) := by decide +kernel
theorem eX9_examined_28 : decode cX9_examined 28 = .ok (.ireturn, 1) := by decide +kernel
theorem eX9_cost_0 : decode cX9_cost 0 = .ok (.aload_n 0, 1) := by decide +kernel
theorem eX9_cost_1 : decode cX9_cost 1 = .ok (.invokevirtual 208, 3) := by decide +kernel
theorem eX9_cost_4 : decode cX9_cost 4 = .ok (.aload_n 0, 1) := by decide +kernel
theorem eX9_cost_5 : decode cX9_cost 5 = .ok (.iload_n 1, 1) := by decide +kernel
theorem eX9_cost_6 : decode cX9_cost 6 = .ok (.invokevirtual 211, 3) := by decide +kernel
theorem eX9_cost_9 : decode cX9_cost 9 = .ok (.aload_n 0, 1) := by decide +kernel
theorem eX9_cost_10 : decode cX9_cost 10 = .ok (.getfield 80, 3) := by decide +kernel
theorem eX9_cost_13 : decode cX9_cost 13 = .ok (.iload_n 1, 1) := by decide +kernel
theorem eX9_cost_14 : decode cX9_cost 14 = .ok (.invokevirtual 224, 3) := by decide +kernel
theorem eX9_cost_17 : decode cX9_cost 17 = .ok (.aload_n 0, 1) := by decide +kernel
theorem eX9_cost_18 : decode cX9_cost 18 = .ok (.getfield 80, 3) := by decide +kernel
theorem eX9_cost_21 : decode cX9_cost 21 = .ok (.getfield 227, 3) := by decide +kernel
theorem eX9_cost_24 : decode cX9_cost 24 = .ok (.ireturn, 1) := by decide +kernel
theorem eX9_worst_0 : decode cX9_worst 0 = .ok (.aload_n 0, 1) := by decide +kernel
theorem eX9_worst_1 : decode cX9_worst 1 = .ok (.invokevirtual 208, 3) := by decide +kernel
theorem eX9_worst_4 : decode cX9_worst 4 = .ok (.aload_n 0, 1) := by decide +kernel
theorem eX9_worst_5 : decode cX9_worst 5 = .ok (.iload_n 1, 1) := by decide +kernel
theorem eX9_worst_6 : decode cX9_worst 6 = .ok (.invokevirtual 211, 3) := by decide +kernel
theorem eX9_worst_9 : decode cX9_worst 9 = .ok (.aload_n 0, 1) := by decide +kernel
theorem eX9_worst_10 : decode cX9_worst 10 = .ok (.getfield 80, 3) := by decide +kernel
theorem eX9_worst_13 : decode cX9_worst 13 = .ok (.iload_n 1, 1) := by decide +kernel
theorem eX9_worst_14 : decode cX9_worst 14 = .ok (.invokevirtual 224, 3) := by decide +kernel
theorem eX9_worst_17 : decode cX9_worst 17 = .ok (.aload_n 0, 1) := by decide +kernel
theorem eX9_worst_18 : decode cX9_worst 18 = .ok (.getfield 80, 3) := by decide +kernel
theorem eX9_worst_21 : decode cX9_worst 21 = .ok (.getfield 230, 3) := by decide +kernel
theorem eX9_worst_24 : decode cX9_worst 24 = .ok (.ireturn, 1) := by decide +kernel
theorem eX9_meanBits_0 : decode cX9_meanBits 0 = .ok (.aload_n 0, 1) := by decide +kernel
theorem eX9_meanBits_1 : decode cX9_meanBits 1 = .ok (.invokevirtual 208, 3) := by decide +kernel
theorem eX9_meanBits_4 : decode cX9_meanBits 4 = .ok (.aload_n 0, 1) := by decide +kernel
theorem eX9_meanBits_5 : decode cX9_meanBits 5 = .ok (.iload_n 1, 1) := by decide +kernel
theorem eX9_meanBits_6 : decode cX9_meanBits 6 = .ok (.invokevirtual 211, 3) := by decide +kernel
theorem eX9_meanBits_9 : decode cX9_meanBits 9 = .ok (.aload_n 0, 1) := by decide +kernel
theorem eX9_meanBits_10 : decode cX9_meanBits 10 = .ok (.getfield 21, 3) := by decide +kernel
theorem eX9_meanBits_13 : decode cX9_meanBits 13 = .ok (.invokevirtual 233, 3) := by decide +kernel
theorem eX9_meanBits_16 : decode cX9_meanBits 16 = .ok (.istore_n 2, 1) := by decide +kernel
theorem eX9_meanBits_17 : decode cX9_meanBits 17 = .ok (.iload_n 2, 1) := by decide +kernel
theorem eX9_meanBits_18 : decode cX9_meanBits 18 = .ok (.ifCond .gt 13, 3) := by decide +kernel
theorem eX9_meanBits_21 : decode cX9_meanBits 21 = .ok (.new 237, 3) := by decide +kernel
theorem eX9_meanBits_24 : decode cX9_meanBits 24 = .ok (.dup, 1) := by decide +kernel
theorem eX9_meanBits_25 : decode cX9_meanBits 25 = .ok (.ldc 239, 2) := by decide +kernel
theorem eX9_meanBits_27 : decode cX9_meanBits 27 = .ok (.invokespecial 241, 3) := by decide +kernel
theorem eX9_meanBits_30 : decode cX9_meanBits 30 = .ok (.athrow, 1) := by decide +kernel
theorem eX9_best_0 : decode cX9_best 0 = .ok (.aload_n 0, 1) := by decide +kernel
theorem eX9_best_1 : decode cX9_best 1 = .ok (.invokevirtual 208, 3) := by decide +kernel
theorem eX9_best_4 : decode cX9_best 4 = .ok (.aload_n 0, 1) := by decide +kernel
theorem eX9_best_5 : decode cX9_best 5 = .ok (.getfield 80, 3) := by decide +kernel
theorem eX9_best_8 : decode cX9_best 8 = .ok (.iconst 0, 1) := by decide +kernel
theorem eX9_best_9 : decode cX9_best 9 = .ok (.invokevirtual 224, 3) := by decide +kernel
theorem eX9_best_12 : decode cX9_best 12 = .ok (.iconst 0, 1) := by decide +kernel
theorem eX9_best_13 : decode cX9_best 13 = .ok (.istore_n 1, 1) := by decide +kernel
theorem eX9_best_14 : decode cX9_best 14 = .ok (.aload_n 0, 1) := by decide +kernel
theorem eX9_best_15 : decode cX9_best 15 = .ok (.getfield 80, 3) := by decide +kernel
theorem eX9_best_18 : decode cX9_best 18 = .ok (.getfield 227, 3) := by decide +kernel
theorem eX9_best_21 : decode cX9_best 21 = .ok (.istore_n 2, 1) := by decide +kernel
theorem eX9_best_22 : decode cX9_best 22 = .ok (.iconst 1, 1) := by decide +kernel
theorem eX9_best_23 : decode cX9_best 23 = .ok (.istore_n 3, 1) := by decide +kernel
theorem eX9_best_24 : decode cX9_best 24 = .ok (.iload_n 3, 1) := by decide +kernel
theorem eX9_best_25 : decode cX9_best 25 = .ok (.iconst 4, 1) := by decide +kernel
theorem eX9_best_26 : decode cX9_best 26 = .ok (.if_icmp .ge 46, 3) := by decide +kernel
theorem eX9_best_29 : decode cX9_best 29 = .ok (.aload_n 0, 1) := by decide +kernel
theorem eX9_best_30 : decode cX9_best 30 = .ok (.iload_n 3, 1) := by decide +kernel
theorem eX9_best_31 : decode cX9_best 31 = .ok (.invokevirtual 246, 3) := by decide +kernel
theorem eX9_best_34 : decode cX9_best 34 = .ok (.ifCond .eq 32, 3) := by decide +kernel
theorem eX9_best_37 : decode cX9_best 37 = .ok (.aload_n 0, 1) := by decide +kernel
theorem eX9_best_38 : decode cX9_best 38 = .ok (.getfield 80, 3) := by decide +kernel
theorem eX9_best_41 : decode cX9_best 41 = .ok (.iload_n 3, 1) := by decide +kernel
theorem eX9_best_42 : decode cX9_best 42 = .ok (.invokevirtual 224, 3) := by decide +kernel
theorem eX9_best_45 : decode cX9_best 45 = .ok (.aload_n 0, 1) := by decide +kernel
theorem eX9_best_46 : decode cX9_best 46 = .ok (.getfield 80, 3) := by decide +kernel
theorem eX9_best_49 : decode cX9_best 49 = .ok (.getfield 227, 3) := by decide +kernel
theorem eX9_best_52 : decode cX9_best 52 = .ok (.iload_n 2, 1) := by decide +kernel
theorem eX9_best_53 : decode cX9_best 53 = .ok (.if_icmp .ge 13, 3) := by decide +kernel
theorem eX9_best_66 : decode cX9_best 66 = .ok (.iinc 3 1, 3) := by decide +kernel
theorem eX9_best_69 : decode cX9_best 69 = .ok (.goto (-45), 3) := by decide +kernel
theorem eX9_best_72 : decode cX9_best 72 = .ok (.iload_n 1, 1) := by decide +kernel
theorem eX9_best_73 : decode cX9_best 73 = .ok (.ireturn, 1) := by decide +kernel
theorem eX9_trees_0 : decode cX9_trees 0 = .ok (.aload_n 0, 1) := by decide +kernel
theorem eX9_trees_1 : decode cX9_trees 1 = .ok (.invokevirtual 208, 3) := by decide +kernel
theorem eX9_trees_4 : decode cX9_trees 4 = .ok (.iload_n 1, 1) := by decide +kernel
theorem eX9_trees_5 : decode cX9_trees 5 = .ok (.tableswitch 71 0 3 #[31, 39, 55, 63], 31) := by decide +kernel
theorem eX9_trees_36 : decode cX9_trees 36 = .ok (.aload_n 0, 1) := by decide +kernel
theorem eX9_trees_37 : decode cX9_trees 37 = .ok (.getfield 55, 3) := by decide +kernel
theorem eX9_trees_40 : decode cX9_trees 40 = .ok (.getfield 250, 3) := by decide +kernel
theorem eX9_trees_43 : decode cX9_trees 43 = .ok (.ireturn, 1) := by decide +kernel
theorem eX9_trees_44 : decode cX9_trees 44 = .ok (.aload_n 0, 1) := by decide +kernel
theorem eX9_trees_45 : decode cX9_trees 45 = .ok (.getfield 55, 3) := by decide +kernel
theorem eX9_trees_48 : decode cX9_trees 48 = .ok (.getfield 253, 3) := by decide +kernel
theorem eX9_trees_51 : decode cX9_trees 51 = .ok (.aload_n 0, 1) := by decide +kernel
theorem eX9_trees_52 : decode cX9_trees 52 = .ok (.getfield 55, 3) := by decide +kernel
theorem eX9_trees_55 : decode cX9_trees 55 = .ok (.getfield 256, 3) := by decide +kernel
theorem eX9_trees_58 : decode cX9_trees 58 = .ok (.isub, 1) := by decide +kernel
theorem eX9_trees_59 : decode cX9_trees 59 = .ok (.ireturn, 1) := by decide +kernel
theorem eX9_trees_60 : decode cX9_trees 60 = .ok (.aload_n 0, 1) := by decide +kernel
theorem eX9_trees_61 : decode cX9_trees 61 = .ok (.getfield 55, 3) := by decide +kernel
theorem eX9_trees_64 : decode cX9_trees 64 = .ok (.getfield 256, 3) := by decide +kernel
theorem eX9_trees_67 : decode cX9_trees 67 = .ok (.ireturn, 1) := by decide +kernel
theorem eX9_trees_68 : decode cX9_trees 68 = .ok (.aload_n 0, 1) := by decide +kernel
theorem eX9_trees_69 : decode cX9_trees 69 = .ok (.getfield 55, 3) := by decide +kernel
theorem eX9_trees_72 : decode cX9_trees 72 = .ok (.getfield 259, 3) := by decide +kernel
theorem eX9_trees_75 : decode cX9_trees 75 = .ok (.ireturn, 1) := by decide +kernel
theorem eX9_trees_76 : decode cX9_trees 76 = .ok (.new 94, 3) := by decide +kernel
theorem eX9_trees_79 : decode cX9_trees 79 = .ok (.dup, 1) := by decide +kernel
theorem eX9_trees_80 : decode cX9_trees 80 = .ok (.ldc 206, 2) := by decide +kernel
theorem eX9_trees_82 : decode cX9_trees 82 = .ok (.invokespecial 98, 3) := by decide +kernel
theorem eX9_trees_85 : decode cX9_trees 85 = .ok (.athrow, 1) := by decide +kernel
theorem eX9_selected_0 : decode cX9_selected 0 = .ok (.aload_n 0, 1) := by decide +kernel
theorem eX9_selected_1 : decode cX9_selected 1 = .ok (.invokevirtual 208, 3) := by decide +kernel
theorem eX9_selected_4 : decode cX9_selected 4 = .ok (.aload_n 0, 1) := by decide +kernel
theorem eX9_selected_5 : decode cX9_selected 5 = .ok (.getfield 62, 3) := by decide +kernel
theorem eX9_selected_8 : decode cX9_selected 8 = .ok (.getfield 262, 3) := by decide +kernel
theorem eX9_selected_11 : decode cX9_selected 11 = .ok (.ireturn, 1) := by decide +kernel
theorem eX9_hash_0 : decode cX9_hash 0 = .ok (.aload_n 0, 1) := by decide +kernel
theorem eX9_hash_1 : decode cX9_hash 1 = .ok (.invokevirtual 208, 3) := by decide +kernel
theorem eX9_hash_4 : decode cX9_hash 4 = .ok (.aload_n 0, 1) := by decide +kernel
theorem eX9_hash_5 : decode cX9_hash 5 = .ok (.getfield 62, 3) := by decide +kernel
theorem eX9_hash_8 : decode cX9_hash 8 = .ok (.aload_n 0, 1) := by decide +kernel
theorem eX9_hash_9 : decode cX9_hash 9 = .ok (.getfield 14, 3) := by decide +kernel
theorem eX9_hash_12 : decode cX9_hash 12 = .ok (.iload_n 1, 1) := by decide +kernel
theorem eX9_hash_13 : decode cX9_hash 13 = .ok (.invokevirtual 265, 3) := by decide +kernel
theorem eX9_hash_16 : decode cX9_hash 16 = .ok (.ireturn, 1) := by decide +kernel
theorem eX9_table_0 : decode cX9_table 0 = .ok (.iload_n 1, 1) := by decide +kernel
theorem eX9_table_1 : decode cX9_table 1 = .ok (.ifCond .lt 8, 3) := by decide +kernel
theorem eX9_table_4 : decode cX9_table 4 = .ok (.iload_n 1, 1) := by decide +kernel
theorem eX9_table_5 : decode cX9_table 5 = .ok (.iconst 4, 1) := by decide +kernel
theorem eX9_table_6 : decode cX9_table 6 = .ok (.if_icmp .le 13, 3) := by decide +kernel
theorem eX9_table_9 : decode cX9_table 9 = .ok (.new 94, 3) := by decide +kernel
theorem eX9_table_12 : decode cX9_table 12 = .ok (.dup, 1) := by decide +kernel
theorem eX9_table_13 : decode cX9_table 13 = .ok (.ldc 206, 2) := by decide +kernel
theorem eX9_table_15 : decode cX9_table 15 = .ok (.invokespecial 98, 3) := by decide +kernel
theorem eX9_table_18 : decode cX9_table 18 = .ok (.athrow, 1) := by decide +kernel
theorem eX9_table_19 : decode cX9_table 19 = .ok (.aload_n 0, 1) := by decide +kernel
theorem eX9_table_20 : decode cX9_table 20 = .ok (.invokevirtual 208, 3) := by decide +kernel
theorem eX9_table_23 : decode cX9_table 23 = .ok (.aload_n 0, 1) := by decide +kernel
theorem eX9_table_24 : decode cX9_table 24 = .ok (.invokevirtual 269, 3) := by decide +kernel
theorem eX9_slot_0 : decode cX9_slot 0 = .ok (.aload_n 0, 1) := by decide +kernel
theorem eX9_slot_1 : decode cX9_slot 1 = .ok (.invokevirtual 208, 3) := by decide +kernel
theorem eX9_slot_4 : decode cX9_slot 4 = .ok (.aload_n 0, 1) := by decide +kernel
theorem eX9_slot_5 : decode cX9_slot 5 = .ok (.invokevirtual 269, 3) := by decide +kernel
theorem eX9_displacement_0 : decode cX9_displacement 0 = .ok (.aload_n 0, 1) := by decide +kernel
theorem eX9_displacement_1 : decode cX9_displacement 1 = .ok (.invokevirtual 208, 3) := by decide +kernel
theorem eX9_displacement_4 : decode cX9_displacement 4 = .ok (.aload_n 0, 1) := by decide +kernel
theorem eX9_displacement_5 : decode cX9_displacement 5 = .ok (.invokevirtual 269, 3) := by decide +kernel
theorem eX9_densityBits_0 : decode cX9_densityBits 0 = .ok (.aload_n 0, 1) := by decide +kernel
theorem eX9_densityBits_1 : decode cX9_densityBits 1 = .ok (.invokevirtual 208, 3) := by decide +kernel
theorem eX9_densityBits_4 : decode cX9_densityBits 4 = .ok (.aload_n 0, 1) := by decide +kernel
theorem eX9_densityBits_5 : decode cX9_densityBits 5 = .ok (.invokevirtual 269, 3) := by decide +kernel
theorem eX9_listing_0 : decode cX9_listing 0 = .ok (.iload_n 1, 1) := by decide +kernel
theorem eX9_listing_1 : decode cX9_listing 1 = .ok (.invokestatic 301, 3) := by decide +kernel
theorem eX9_listing_4 : decode cX9_listing 4 = .ok (.aload_n 0, 1) := by decide +kernel
theorem eX9_listing_5 : decode cX9_listing 5 = .ok (.invokevirtual 208, 3) := by decide +kernel
theorem eX9_listing_8 : decode cX9_listing 8 = .ok (.iload_n 1, 1) := by decide +kernel
theorem eX9_listing_9 : decode cX9_listing 9 = .ok (.iconst 3, 1) := by decide +kernel
theorem eX9_listing_10 : decode cX9_listing 10 = .ok (.if_icmp .ne 7, 3) := by decide +kernel
theorem eX9_listing_13 : decode cX9_listing 13 = .ok (.aload_n 0, 1) := by decide +kernel
theorem eX9_listing_14 : decode cX9_listing 14 = .ok (.invokevirtual 269, 3) := by decide +kernel
theorem eX9_listing_17 : decode cX9_listing 17 = .ok (.aload_n 0, 1) := by decide +kernel
theorem eX9_listing_18 : decode cX9_listing 18 = .ok (.getfield 87, 3) := by decide +kernel
theorem eX9_listing_21 : decode cX9_listing 21 = .ok (.iload_n 1, 1) := by decide +kernel
theorem eX9_listing_22 : decode cX9_listing 22 = .ok (.invokevirtual 304, 3) := by decide +kernel
theorem eX9_listing_25 : decode cX9_listing 25 = .ok (.iload_n 2, 1) := by decide +kernel
theorem eX9_listing_26 : decode cX9_listing 26 = .ok (.iconst (-1), 1) := by decide +kernel
theorem eX9_listing_27 : decode cX9_listing 27 = .ok (.if_icmp .ne 14, 3) := by decide +kernel
theorem eX9_listing_30 : decode cX9_listing 30 = .ok (.aload_n 0, 1) := by decide +kernel
theorem eX9_listing_31 : decode cX9_listing 31 = .ok (.getfield 87, 3) := by decide +kernel
theorem eX9_listing_34 : decode cX9_listing 34 = .ok (.getfield 307, 3) := by decide +kernel
theorem eX9_listing_37 : decode cX9_listing 37 = .ok (.getfield 101, 3) := by decide +kernel
theorem eX9_listing_40 : decode cX9_listing 40 = .ok (.ireturn, 1) := by decide +kernel
theorem eX9_listing_41 : decode cX9_listing 41 = .ok (.iload_n 2, 1) := by decide +kernel
theorem eX9_listing_42 : decode cX9_listing 42 = .ok (.ifCond .lt 17, 3) := by decide +kernel
theorem eX9_listing_45 : decode cX9_listing 45 = .ok (.iload_n 2, 1) := by decide +kernel
theorem eX9_listing_46 : decode cX9_listing 46 = .ok (.aload_n 0, 1) := by decide +kernel
theorem eX9_listing_47 : decode cX9_listing 47 = .ok (.getfield 87, 3) := by decide +kernel
theorem eX9_listing_50 : decode cX9_listing 50 = .ok (.getfield 307, 3) := by decide +kernel
theorem eX9_listing_53 : decode cX9_listing 53 = .ok (.getfield 101, 3) := by decide +kernel
theorem eX9_listing_56 : decode cX9_listing 56 = .ok (.if_icmp .lt 14, 3) := by decide +kernel
theorem eX9_listing_59 : decode cX9_listing 59 = .ok (.new 192, 3) := by decide +kernel
theorem eX9_listing_62 : decode cX9_listing 62 = .ok (.dup, 1) := by decide +kernel
theorem eX9_listing_63 : decode cX9_listing 63 = .ok (.ldc_w 310, 3) := by decide +kernel
theorem eX9_listing_66 : decode cX9_listing 66 = .ok (.invokespecial 196, 3) := by decide +kernel
theorem eX9_listing_69 : decode cX9_listing 69 = .ok (.athrow, 1) := by decide +kernel
theorem eX9_save_0 : decode cX9_save 0 = .ok (.aload_n 0, 1) := by decide +kernel
theorem eX9_save_1 : decode cX9_save 1 = .ok (.getfield 25, 3) := by decide +kernel
theorem eX9_save_4 : decode cX9_save 4 = .ok (.aload_n 0, 1) := by decide +kernel
theorem eX9_save_5 : decode cX9_save 5 = .ok (.getfield 21, 3) := by decide +kernel
theorem eX9_save_8 : decode cX9_save 8 = .ok (.invokevirtual 315, 3) := by decide +kernel
theorem eX9_save_11 : decode cX9_save 11 = .ok (.aload_n 0, 1) := by decide +kernel
theorem eX9_save_12 : decode cX9_save 12 = .ok (.iconst 1, 1) := by decide +kernel
theorem eX9_save_13 : decode cX9_save 13 = .ok (.putfield 28, 3) := by decide +kernel
theorem eX9_save_16 : decode cX9_save 16 = .ok (.aload_n 0, 1) := by decide +kernel
theorem eX9_save_17 : decode cX9_save 17 = .ok (.getfield 25, 3) := by decide +kernel
theorem eX9_save_20 : decode cX9_save 20 = .ok (.getfield 130, 3) := by decide +kernel
theorem eX9_save_23 : decode cX9_save 23 = .ok (.ireturn, 1) := by decide +kernel
theorem eX9_restore_0 : decode cX9_restore 0 = .ok (.aload_n 0, 1) := by decide +kernel
theorem eX9_restore_1 : decode cX9_restore 1 = .ok (.getfield 28, 3) := by decide +kernel
theorem eX9_restore_4 : decode cX9_restore 4 = .ok (.ifCond .ne 14, 3) := by decide +kernel
theorem eX9_restore_7 : decode cX9_restore 7 = .ok (.new 104, 3) := by decide +kernel
theorem eX9_restore_10 : decode cX9_restore 10 = .ok (.dup, 1) := by decide +kernel
theorem eX9_restore_11 : decode cX9_restore 11 = .ok (.ldc_w 318, 3) := by decide +kernel
theorem eX9_restore_14 : decode cX9_restore 14 = .ok (.invokespecial 108, 3) := by decide +kernel
theorem eX9_restore_17 : decode cX9_restore 17 = .ok (.athrow, 1) := by decide +kernel
theorem eX9_requireKey_0 : decode cX9_requireKey 0 = .ok (.aload_n 0, 1) := by decide +kernel
theorem eX9_requireKey_1 : decode cX9_requireKey 1 = .ok (.getfield 21, 3) := by decide +kernel
theorem eX9_requireKey_4 : decode cX9_requireKey 4 = .ok (.iload_n 1, 1) := by decide +kernel
theorem eX9_requireKey_5 : decode cX9_requireKey 5 = .ok (.invokevirtual 320, 3) := by decide +kernel
theorem eX9_requireKey_8 : decode cX9_requireKey 8 = .ok (.ifCond .ne 14, 3) := by decide +kernel
theorem eX9_requireKey_11 : decode cX9_requireKey 11 = .ok (.new 192, 3) := by decide +kernel
theorem eX9_requireKey_14 : decode cX9_requireKey 14 = .ok (.dup, 1) := by decide +kernel
theorem eX9_requireKey_15 : decode cX9_requireKey 15 = .ok (.ldc_w 323, 3) := by decide +kernel
theorem eX9_requireKey_18 : decode cX9_requireKey 18 = .ok (.invokespecial 196, 3) := by decide +kernel
theorem eX9_requireKey_21 : decode cX9_requireKey 21 = .ok (.athrow, 1) := by decide +kernel
theorem eX9_requireStrategy_0 : decode cX9_requireStrategy 0 = .ok (.iload_n 0, 1) := by decide +kernel
theorem eX9_requireStrategy_1 : decode cX9_requireStrategy 1 = .ok (.ifCond .lt 8, 3) := by decide +kernel
theorem eX9_requireStrategy_4 : decode cX9_requireStrategy 4 = .ok (.iload_n 0, 1) := by decide +kernel
theorem eX9_requireStrategy_5 : decode cX9_requireStrategy 5 = .ok (.iconst 4, 1) := by decide +kernel
theorem eX9_requireStrategy_6 : decode cX9_requireStrategy 6 = .ok (.if_icmp .lt 14, 3) := by decide +kernel
theorem eX9_requireStrategy_9 : decode cX9_requireStrategy 9 = .ok (.new 94, 3) := by decide +kernel
theorem eX9_requireStrategy_12 : decode cX9_requireStrategy 12 = .ok (.dup, 1) := by decide +kernel
theorem eX9_requireStrategy_13 : decode cX9_requireStrategy 13 = .ok (.ldc_w 327, 3) := by decide +kernel
theorem eX9_requireStrategy_16 : decode cX9_requireStrategy 16 = .ok (.invokespecial 98, 3) := by decide +kernel
theorem eX9_requireStrategy_19 : decode cX9_requireStrategy 19 = .ok (.athrow, 1) := by decide +kernel
theorem eX9_requireStrategy_20 : decode cX9_requireStrategy 20 = .ok (.return_, 1) := by decide +kernel
theorem eX9_requireRunnable_0 : decode cX9_requireRunnable 0 = .ok (.iload_n 1, 1) := by decide +kernel
theorem eX9_requireRunnable_1 : decode cX9_requireRunnable 1 = .ok (.invokestatic 301, 3) := by decide +kernel
theorem eX9_requireRunnable_4 : decode cX9_requireRunnable 4 = .ok (.aload_n 0, 1) := by decide +kernel
theorem eX9_requireRunnable_5 : decode cX9_requireRunnable 5 = .ok (.iload_n 1, 1) := by decide +kernel
theorem eX9_requireRunnable_6 : decode cX9_requireRunnable 6 = .ok (.invokevirtual 246, 3) := by decide +kernel
theorem eX9_requireRunnable_9 : decode cX9_requireRunnable 9 = .ok (.ifCond .ne 14, 3) := by decide +kernel
theorem eX9_requireRunnable_23 : decode cX9_requireRunnable 23 = .ok (.return_, 1) := by decide +kernel
theorem eX9_requireTable_0 : decode cX9_requireTable 0 = .ok (.aload_n 0, 1) := by decide +kernel
theorem eX9_requireTable_1 : decode cX9_requireTable 1 = .ok (.getfield 71, 3) := by decide +kernel
theorem eX9_requireTable_4 : decode cX9_requireTable 4 = .ok (.getfield 331, 3) := by decide +kernel
theorem eX9_requireTable_7 : decode cX9_requireTable 7 = .ok (.ifCond .ne 14, 3) := by decide +kernel
theorem eX9_requireTable_10 : decode cX9_requireTable 10 = .ok (.new 104, 3) := by decide +kernel
theorem eX9_requireTable_13 : decode cX9_requireTable 13 = .ok (.dup, 1) := by decide +kernel
theorem eX9_requireTable_14 : decode cX9_requireTable 14 = .ok (.ldc_w 329, 3) := by decide +kernel
theorem eX9_requireTable_17 : decode cX9_requireTable 17 = .ok (.invokespecial 108, 3) := by decide +kernel
theorem eX9_requireTable_20 : decode cX9_requireTable 20 = .ok (.athrow, 1) := by decide +kernel
theorem eX9_canRun_0 : decode cX9_canRun 0 = .ok (.iload_n 1, 1) := by decide +kernel
theorem eX9_canRun_1 : decode cX9_canRun 1 = .ok (.iconst 3, 1) := by decide +kernel
theorem eX9_canRun_2 : decode cX9_canRun 2 = .ok (.if_icmp .ne 23, 3) := by decide +kernel
theorem eX9_canRun_5 : decode cX9_canRun 5 = .ok (.aload_n 0, 1) := by decide +kernel
theorem eX9_canRun_6 : decode cX9_canRun 6 = .ok (.getfield 21, 3) := by decide +kernel
theorem eX9_canRun_9 : decode cX9_canRun 9 = .ok (.getfield 130, 3) := by decide +kernel
theorem eX9_canRun_12 : decode cX9_canRun 12 = .ok (.ifCond .eq 13, 3) := by decide +kernel
theorem eX9_canRun_25 : decode cX9_canRun 25 = .ok (.iconst 1, 1) := by decide +kernel
theorem eX9_canRun_26 : decode cX9_canRun 26 = .ok (.goto 4, 3) := by decide +kernel
theorem eX9_canRun_30 : decode cX9_canRun 30 = .ok (.ireturn, 1) := by decide +kernel
theorem eX9_prepare_0 : decode cX9_prepare 0 = .ok (.aload_n 0, 1) := by decide +kernel
theorem eX9_prepare_1 : decode cX9_prepare 1 = .ok (.getfield 91, 3) := by decide +kernel
theorem eX9_prepare_4 : decode cX9_prepare 4 = .ok (.aload_n 0, 1) := by decide +kernel
theorem eX9_prepare_5 : decode cX9_prepare 5 = .ok (.getfield 21, 3) := by decide +kernel
theorem eX9_prepare_8 : decode cX9_prepare 8 = .ok (.getfield 334, 3) := by decide +kernel
theorem eX9_prepare_11 : decode cX9_prepare 11 = .ok (.if_icmp .eq 42, 3) := by decide +kernel
theorem eX9_prepare_14 : decode cX9_prepare 14 = .ok (.aload_n 0, 1) := by decide +kernel
theorem eX9_prepare_15 : decode cX9_prepare 15 = .ok (.getfield 48, 3) := by decide +kernel
theorem eX9_prepare_18 : decode cX9_prepare 18 = .ok (.invokevirtual 337, 3) := by decide +kernel
theorem eX9_prepare_21 : decode cX9_prepare 21 = .ok (.aload_n 0, 1) := by decide +kernel
theorem eX9_prepare_22 : decode cX9_prepare 22 = .ok (.getfield 55, 3) := by decide +kernel
theorem eX9_prepare_25 : decode cX9_prepare 25 = .ok (.invokevirtual 340, 3) := by decide +kernel
theorem eX9_prepare_28 : decode cX9_prepare 28 = .ok (.aload_n 0, 1) := by decide +kernel
theorem eX9_prepare_29 : decode cX9_prepare 29 = .ok (.getfield 62, 3) := by decide +kernel
theorem eX9_prepare_32 : decode cX9_prepare 32 = .ok (.invokevirtual 343, 3) := by decide +kernel
theorem eX9_prepare_35 : decode cX9_prepare 35 = .ok (.aload_n 0, 1) := by decide +kernel
theorem eX9_prepare_36 : decode cX9_prepare 36 = .ok (.getfield 71, 3) := by decide +kernel
theorem eX9_prepare_39 : decode cX9_prepare 39 = .ok (.invokevirtual 346, 3) := by decide +kernel
theorem eX9_prepare_42 : decode cX9_prepare 42 = .ok (.aload_n 0, 1) := by decide +kernel
theorem eX9_prepare_43 : decode cX9_prepare 43 = .ok (.aload_n 0, 1) := by decide +kernel
theorem eX9_prepare_44 : decode cX9_prepare 44 = .ok (.getfield 21, 3) := by decide +kernel
theorem eX9_prepare_47 : decode cX9_prepare 47 = .ok (.getfield 334, 3) := by decide +kernel
theorem eX9_prepare_50 : decode cX9_prepare 50 = .ok (.putfield 91, 3) := by decide +kernel
theorem eX9_prepare_53 : decode cX9_prepare 53 = .ok (.return_, 1) := by decide +kernel
theorem eX9_put_0 : decode cX9_put 0 = .ok (.iload_n 1, 1) := by decide +kernel
theorem eX9_put_1 : decode cX9_put 1 = .ok (.ifCond .lt 13, 3) := by decide +kernel
theorem eX9_put_4 : decode cX9_put 4 = .ok (.iload_n 1, 1) := by decide +kernel
theorem eX9_put_5 : decode cX9_put 5 = .ok (.aload_n 0, 1) := by decide +kernel
theorem eX9_put_6 : decode cX9_put 6 = .ok (.arraylength, 1) := by decide +kernel
theorem eX9_put_7 : decode cX9_put 7 = .ok (.if_icmp .ge 7, 3) := by decide +kernel
theorem eX9_put_10 : decode cX9_put 10 = .ok (.aload_n 0, 1) := by decide +kernel
theorem eX9_put_11 : decode cX9_put 11 = .ok (.iload_n 1, 1) := by decide +kernel
theorem eX9_put_12 : decode cX9_put 12 = .ok (.iload_n 2, 1) := by decide +kernel
theorem eX9_put_13 : decode cX9_put 13 = .ok (.iastore, 1) := by decide +kernel
theorem eX9_put_14 : decode cX9_put 14 = .ok (.return_, 1) := by decide +kernel
theorem eX9_copy_0 : decode cX9_copy 0 = .ok (.iconst 0, 1) := by decide +kernel
theorem eX9_copy_1 : decode cX9_copy 1 = .ok (.istore_n 2, 1) := by decide +kernel
theorem eX9_copy_2 : decode cX9_copy 2 = .ok (.iload_n 2, 1) := by decide +kernel
theorem eX9_copy_3 : decode cX9_copy 3 = .ok (.aload_n 0, 1) := by decide +kernel
theorem eX9_copy_4 : decode cX9_copy 4 = .ok (.arraylength, 1) := by decide +kernel
theorem eX9_copy_5 : decode cX9_copy 5 = .ok (.if_icmp .ge 21, 3) := by decide +kernel
theorem eX9_copy_8 : decode cX9_copy 8 = .ok (.iload_n 2, 1) := by decide +kernel
theorem eX9_copy_9 : decode cX9_copy 9 = .ok (.aload_n 1, 1) := by decide +kernel
theorem eX9_copy_10 : decode cX9_copy 10 = .ok (.arraylength, 1) := by decide +kernel
theorem eX9_copy_11 : decode cX9_copy 11 = .ok (.if_icmp .ge 15, 3) := by decide +kernel
theorem eX9_copy_14 : decode cX9_copy 14 = .ok (.aload_n 1, 1) := by decide +kernel
theorem eX9_copy_15 : decode cX9_copy 15 = .ok (.iload_n 2, 1) := by decide +kernel
theorem eX9_copy_16 : decode cX9_copy 16 = .ok (.aload_n 0, 1) := by decide +kernel
theorem eX9_copy_17 : decode cX9_copy 17 = .ok (.iload_n 2, 1) := by decide +kernel
theorem eX9_copy_18 : decode cX9_copy 18 = .ok (.iaload, 1) := by decide +kernel
theorem eX9_copy_19 : decode cX9_copy 19 = .ok (.iastore, 1) := by decide +kernel
theorem eX9_copy_20 : decode cX9_copy 20 = .ok (.iinc 2 1, 3) := by decide +kernel
theorem eX9_copy_23 : decode cX9_copy 23 = .ok (.goto (-21), 3) := by decide +kernel
theorem eX9_copy_26 : decode cX9_copy 26 = .ok (.return_, 1) := by decide +kernel
theorem eX9_contains_0 : decode cX9_contains 0 = .ok (.iload_n 0, 1) := by decide +kernel
theorem eX9_contains_1 : decode cX9_contains 1 = .ok (.iload_n 1, 1) := by decide +kernel
theorem eX9_contains_2 : decode cX9_contains 2 = .ok (.iushr, 1) := by decide +kernel
theorem eX9_contains_3 : decode cX9_contains 3 = .ok (.iconst 1, 1) := by decide +kernel
theorem eX9_contains_4 : decode cX9_contains 4 = .ok (.iand, 1) := by decide +kernel
theorem eX9_contains_5 : decode cX9_contains 5 = .ok (.ifCond .eq 7, 3) := by decide +kernel
theorem eX9_contains_8 : decode cX9_contains 8 = .ok (.iconst 1, 1) := by decide +kernel
theorem eX9_contains_9 : decode cX9_contains 9 = .ok (.goto 4, 3) := by decide +kernel
theorem eX9_contains_12 : decode cX9_contains 12 = .ok (.iconst 0, 1) := by decide +kernel
theorem eX9_contains_13 : decode cX9_contains 13 = .ok (.ireturn, 1) := by decide +kernel
theorem eX10_init_0 : decode cX10_init 0 = .ok (.aload_n 0, 1) := by decide +kernel
theorem eX10_init_1 : decode cX10_init 1 = .ok (.invokespecial 3, 3) := by decide +kernel
theorem eX10_init_4 : decode cX10_init 4 = .ok (.aload_n 0, 1) := by decide +kernel
theorem eX10_init_5 : decode cX10_init 5 = .ok (.sipush 222, 3) := by decide +kernel
theorem eX10_init_8 : decode cX10_init 8 = .ok (.newarray .int, 2) := by decide +kernel
theorem eX10_init_10 : decode cX10_init 10 = .ok (.putfield 9, 3) := by decide +kernel
theorem eX10_init_13 : decode cX10_init 13 = .ok (.aload_n 0, 1) := by decide +kernel
theorem eX10_init_14 : decode cX10_init 14 = .ok (.sipush 222, 3) := by decide +kernel
theorem eX10_init_17 : decode cX10_init 17 = .ok (.newarray .int, 2) := by decide +kernel
theorem eX10_init_19 : decode cX10_init 19 = .ok (.putfield 13, 3) := by decide +kernel
theorem eX10_init_22 : decode cX10_init 22 = .ok (.aload_n 0, 1) := by decide +kernel
theorem eX10_init_23 : decode cX10_init 23 = .ok (.bipush 60, 2) := by decide +kernel
theorem eX10_init_25 : decode cX10_init 25 = .ok (.newarray .int, 2) := by decide +kernel
theorem eX10_init_27 : decode cX10_init 27 = .ok (.putfield 16, 3) := by decide +kernel
theorem eX10_init_30 : decode cX10_init 30 = .ok (.aload_n 0, 1) := by decide +kernel
theorem eX10_init_31 : decode cX10_init 31 = .ok (.iconst (-1), 1) := by decide +kernel
theorem eX10_init_32 : decode cX10_init 32 = .ok (.putfield 19, 3) := by decide +kernel
theorem eX10_init_35 : decode cX10_init 35 = .ok (.aload_n 0, 1) := by decide +kernel
theorem eX10_init_36 : decode cX10_init 36 = .ok (.bipush 60, 2) := by decide +kernel
theorem eX10_init_38 : decode cX10_init 38 = .ok (.newarray .int, 2) := by decide +kernel
theorem eX10_init_40 : decode cX10_init 40 = .ok (.putfield 23, 3) := by decide +kernel
theorem eX10_init_43 : decode cX10_init 43 = .ok (.aload_n 0, 1) := by decide +kernel
theorem eX10_init_44 : decode cX10_init 44 = .ok (.bipush 60, 2) := by decide +kernel
theorem eX10_init_46 : decode cX10_init 46 = .ok (.newarray .int, 2) := by decide +kernel
theorem eX10_init_48 : decode cX10_init 48 = .ok (.putfield 26, 3) := by decide +kernel
theorem eX10_init_51 : decode cX10_init 51 = .ok (.aload_n 0, 1) := by decide +kernel
theorem eX10_init_52 : decode cX10_init 52 = .ok (.bipush 60, 2) := by decide +kernel
theorem eX10_init_54 : decode cX10_init 54 = .ok (.newarray .int, 2) := by decide +kernel
theorem eX10_init_56 : decode cX10_init 56 = .ok (.putfield 29, 3) := by decide +kernel
theorem eX10_init_59 : decode cX10_init 59 = .ok (.aload_n 0, 1) := by decide +kernel
theorem eX10_init_60 : decode cX10_init 60 = .ok (.bipush 60, 2) := by decide +kernel
theorem eX10_init_62 : decode cX10_init 62 = .ok (.newarray .int, 2) := by decide +kernel
theorem eX10_init_64 : decode cX10_init 64 = .ok (.putfield 32, 3) := by decide +kernel
theorem eX10_init_67 : decode cX10_init 67 = .ok (.aload_n 0, 1) := by decide +kernel
theorem eX10_init_68 : decode cX10_init 68 = .ok (.bipush 60, 2) := by decide +kernel
theorem eX10_init_70 : decode cX10_init 70 = .ok (.newarray .int, 2) := by decide +kernel
theorem eX10_init_72 : decode cX10_init 72 = .ok (.putfield 35, 3) := by decide +kernel
theorem eX10_init_75 : decode cX10_init 75 = .ok (.aload_n 0, 1) := by decide +kernel
theorem eX10_init_76 : decode cX10_init 76 = .ok (.sipush 222, 3) := by decide +kernel
theorem eX10_init_79 : decode cX10_init 79 = .ok (.newarray .int, 2) := by decide +kernel
theorem eX10_init_81 : decode cX10_init 81 = .ok (.putfield 38, 3) := by decide +kernel
theorem eX10_init_84 : decode cX10_init 84 = .ok (.aload_n 0, 1) := by decide +kernel
theorem eX10_init_85 : decode cX10_init 85 = .ok (.bipush 60, 2) := by decide +kernel
theorem eX10_init_87 : decode cX10_init 87 = .ok (.newarray .int, 2) := by decide +kernel
theorem eX10_init_89 : decode cX10_init 89 = .ok (.putfield 41, 3) := by decide +kernel
theorem eX10_init_92 : decode cX10_init 92 = .ok (.aload_n 0, 1) := by decide +kernel
theorem eX10_init_93 : decode cX10_init 93 = .ok (.sipush 128, 3) := by decide +kernel
theorem eX10_init_96 : decode cX10_init 96 = .ok (.newarray .int, 2) := by decide +kernel
theorem eX10_init_98 : decode cX10_init 98 = .ok (.putfield 44, 3) := by decide +kernel
theorem eX10_init_101 : decode cX10_init 101 = .ok (.aload_n 0, 1) := by decide +kernel
theorem eX10_init_102 : decode cX10_init 102 = .ok (.bipush 40, 2) := by decide +kernel
theorem eX10_init_104 : decode cX10_init 104 = .ok (.newarray .int, 2) := by decide +kernel
theorem eX10_init_106 : decode cX10_init 106 = .ok (.putfield 47, 3) := by decide +kernel
theorem eX10_init_109 : decode cX10_init 109 = .ok (.aload_n 0, 1) := by decide +kernel
theorem eX10_init_110 : decode cX10_init 110 = .ok (.bipush 20, 2) := by decide +kernel
theorem eX10_init_112 : decode cX10_init 112 = .ok (.newarray .int, 2) := by decide +kernel
theorem eX10_init_114 : decode cX10_init 114 = .ok (.putfield 50, 3) := by decide +kernel
theorem eX10_init_117 : decode cX10_init 117 = .ok (.aload_n 0, 1) := by decide +kernel
theorem eX10_init_118 : decode cX10_init 118 = .ok (.bipush 20, 2) := by decide +kernel
theorem eX10_init_120 : decode cX10_init 120 = .ok (.newarray .int, 2) := by decide +kernel
theorem eX10_init_122 : decode cX10_init 122 = .ok (.putfield 53, 3) := by decide +kernel
theorem eX10_init_125 : decode cX10_init 125 = .ok (.aload_n 0, 1) := by decide +kernel
theorem eX10_init_126 : decode cX10_init 126 = .ok (.bipush 20, 2) := by decide +kernel
theorem eX10_init_128 : decode cX10_init 128 = .ok (.newarray .int, 2) := by decide +kernel
theorem eX10_init_130 : decode cX10_init 130 = .ok (.putfield 56, 3) := by decide +kernel
theorem eX10_init_133 : decode cX10_init 133 = .ok (.aload_n 0, 1) := by decide +kernel
theorem eX10_init_134 : decode cX10_init 134 = .ok (.sipush 2000, 3) := by decide +kernel
theorem eX10_init_137 : decode cX10_init 137 = .ok (.newarray .int, 2) := by decide +kernel
theorem eX10_init_139 : decode cX10_init 139 = .ok (.putfield 59, 3) := by decide +kernel
theorem eX10_init_142 : decode cX10_init 142 = .ok (.aload_n 0, 1) := by decide +kernel
theorem eX10_init_143 : decode cX10_init 143 = .ok (.getfield 9, 3) := by decide +kernel
theorem eX10_init_146 : decode cX10_init 146 = .ok (.iconst 1, 1) := by decide +kernel
theorem eX10_init_147 : decode cX10_init 147 = .ok (.bipush 100, 2) := by decide +kernel
theorem eX10_init_149 : decode cX10_init 149 = .ok (.iastore, 1) := by decide +kernel
theorem eX10_init_150 : decode cX10_init 150 = .ok (.return_, 1) := by decide +kernel
theorem eX10_thrown_0 : decode cX10_thrown 0 = .ok (.aload_n 0, 1) := by decide +kernel
theorem eX10_thrown_1 : decode cX10_thrown 1 = .ok (.getfield 62, 3) := by decide +kernel
theorem eX10_thrown_4 : decode cX10_thrown 4 = .ok (.ireturn, 1) := by decide +kernel
theorem eX10_in_0 : decode cX10_in 0 = .ok (.lload_n 0, 1) := by decide +kernel
theorem eX10_in_1 : decode cX10_in 1 = .ok (.lload_n 2, 1) := by decide +kernel
theorem eX10_in_2 : decode cX10_in 2 = .ok (.lcmp, 1) := by decide +kernel
theorem eX10_in_3 : decode cX10_in 3 = .ok (.ifCond .lt 14, 3) := by decide +kernel
theorem eX10_in_6 : decode cX10_in 6 = .ok (.lload_n 0, 1) := by decide +kernel
theorem eX10_in_7 : decode cX10_in 7 = .ok (.lload 4, 2) := by decide +kernel
theorem eX10_in_9 : decode cX10_in 9 = .ok (.lcmp, 1) := by decide +kernel
theorem eX10_in_10 : decode cX10_in 10 = .ok (.ifCond .gt 7, 3) := by decide +kernel
theorem eX10_in_13 : decode cX10_in 13 = .ok (.iconst 1, 1) := by decide +kernel
theorem eX10_in_14 : decode cX10_in 14 = .ok (.goto 4, 3) := by decide +kernel
theorem eX10_in_17 : decode cX10_in 17 = .ok (.iconst 0, 1) := by decide +kernel
theorem eX10_in_18 : decode cX10_in 18 = .ok (.ireturn, 1) := by decide +kernel
theorem eX10_isKey_0 : decode cX10_isKey 0 = .ok (.iload_n 1, 1) := by decide +kernel
theorem eX10_isKey_1 : decode cX10_isKey 1 = .ok (.i2l, 1) := by decide +kernel
theorem eX10_isKey_2 : decode cX10_isKey 2 = .ok (.lconst 0, 1) := by decide +kernel
theorem eX10_isKey_3 : decode cX10_isKey 3 = .ok (.aload_n 0, 1) := by decide +kernel
theorem eX10_isKey_4 : decode cX10_isKey 4 = .ok (.getfield 9, 3) := by decide +kernel
theorem eX10_isKey_7 : decode cX10_isKey 7 = .ok (.iconst 0, 1) := by decide +kernel
theorem eX10_isKey_8 : decode cX10_isKey 8 = .ok (.iaload, 1) := by decide +kernel
theorem eX10_isKey_9 : decode cX10_isKey 9 = .ok (.iconst 1, 1) := by decide +kernel
theorem eX10_isKey_10 : decode cX10_isKey 10 = .ok (.isub, 1) := by decide +kernel
theorem eX10_isKey_11 : decode cX10_isKey 11 = .ok (.i2l, 1) := by decide +kernel
theorem eX10_isKey_12 : decode cX10_isKey 12 = .ok (.invokestatic 65, 3) := by decide +kernel
theorem eX10_isKey_15 : decode cX10_isKey 15 = .ok (.ireturn, 1) := by decide +kernel
theorem eX10_append_0 : decode cX10_append 0 = .ok (.iconst 0, 1) := by decide +kernel
theorem eX10_append_1 : decode cX10_append 1 = .ok (.istore_n 2, 1) := by decide +kernel
theorem eX10_append_2 : decode cX10_append 2 = .ok (.iconst 1, 1) := by decide +kernel
theorem eX10_append_3 : decode cX10_append 3 = .ok (.istore_n 3, 1) := by decide +kernel
theorem eX10_append_4 : decode cX10_append 4 = .ok (.bipush 24, 2) := by decide +kernel
theorem eX10_append_6 : decode cX10_append 6 = .ok (.istore 4, 2) := by decide +kernel
theorem eX10_append_8 : decode cX10_append 8 = .ok (.iload 4, 2) := by decide +kernel
theorem eX10_append_10 : decode cX10_append 10 = .ok (.ifCond .lt 62, 3) := by decide +kernel
theorem eX10_append_13 : decode cX10_append 13 = .ok (.iload_n 1, 1) := by decide +kernel
theorem eX10_append_14 : decode cX10_append 14 = .ok (.iload 4, 2) := by decide +kernel
theorem eX10_append_16 : decode cX10_append 16 = .ok (.iushr, 1) := by decide +kernel
theorem eX10_append_17 : decode cX10_append 17 = .ok (.sipush 255, 3) := by decide +kernel
theorem eX10_append_20 : decode cX10_append 20 = .ok (.iand, 1) := by decide +kernel
theorem eX10_append_21 : decode cX10_append 21 = .ok (.istore 5, 2) := by decide +kernel
theorem eX10_append_23 : decode cX10_append 23 = .ok (.iload_n 3, 1) := by decide +kernel
theorem eX10_append_24 : decode cX10_append 24 = .ok (.ifCond .eq 27, 3) := by decide +kernel
theorem eX10_append_27 : decode cX10_append 27 = .ok (.iload 5, 2) := by decide +kernel
theorem eX10_append_29 : decode cX10_append 29 = .ok (.ifCond .eq 18, 3) := by decide +kernel
theorem eX10_append_32 : decode cX10_append 32 = .ok (.iload 5, 2) := by decide +kernel
theorem eX10_append_34 : decode cX10_append 34 = .ok (.i2l, 1) := by decide +kernel
theorem eX10_append_35 : decode cX10_append 35 = .ok (.ldc2_w 77, 3) := by decide +kernel
theorem eX10_append_38 : decode cX10_append 38 = .ok (.ldc2_w 79, 3) := by decide +kernel
theorem eX10_append_41 : decode cX10_append 41 = .ok (.invokestatic 65, 3) := by decide +kernel
theorem eX10_append_44 : decode cX10_append 44 = .ok (.ifCond .eq 7, 3) := by decide +kernel
theorem eX10_append_47 : decode cX10_append 47 = .ok (.iconst 1, 1) := by decide +kernel
theorem eX10_append_48 : decode cX10_append 48 = .ok (.goto 4, 3) := by decide +kernel
theorem eX10_append_51 : decode cX10_append 51 = .ok (.iconst 0, 1) := by decide +kernel
theorem eX10_append_52 : decode cX10_append 52 = .ok (.istore_n 3, 1) := by decide +kernel
theorem eX10_append_53 : decode cX10_append 53 = .ok (.iload_n 2, 1) := by decide +kernel
theorem eX10_append_54 : decode cX10_append 54 = .ok (.iload 5, 2) := by decide +kernel
theorem eX10_append_56 : decode cX10_append 56 = .ok (.ifCond .eq 7, 3) := by decide +kernel
theorem eX10_append_59 : decode cX10_append 59 = .ok (.iconst 1, 1) := by decide +kernel
theorem eX10_append_60 : decode cX10_append 60 = .ok (.goto 4, 3) := by decide +kernel
theorem eX10_append_63 : decode cX10_append 63 = .ok (.iconst 0, 1) := by decide +kernel
theorem eX10_append_64 : decode cX10_append 64 = .ok (.iadd, 1) := by decide +kernel
theorem eX10_append_65 : decode cX10_append 65 = .ok (.istore_n 2, 1) := by decide +kernel
theorem eX10_append_66 : decode cX10_append 66 = .ok (.iinc 4 (-8), 3) := by decide +kernel
theorem eX10_append_69 : decode cX10_append 69 = .ok (.goto (-61), 3) := by decide +kernel
theorem eX10_append_72 : decode cX10_append 72 = .ok (.aload_n 0, 1) := by decide +kernel
theorem eX10_append_73 : decode cX10_append 73 = .ok (.iload_n 3, 1) := by decide +kernel
theorem eX10_append_74 : decode cX10_append 74 = .ok (.ifCond .ne 7, 3) := by decide +kernel
theorem eX10_append_77 : decode cX10_append 77 = .ok (.iconst 1, 1) := by decide +kernel
theorem eX10_append_78 : decode cX10_append 78 = .ok (.goto 19, 3) := by decide +kernel
theorem eX10_append_81 : decode cX10_append 81 = .ok (.aload_n 0, 1) := by decide +kernel
theorem eX10_append_82 : decode cX10_append 82 = .ok (.getfield 81, 3) := by decide +kernel
theorem eX10_append_85 : decode cX10_append 85 = .ok (.iload_n 2, 1) := by decide +kernel
theorem eX10_append_86 : decode cX10_append 86 = .ok (.iadd, 1) := by decide +kernel
theorem eX10_append_87 : decode cX10_append 87 = .ok (.bipush 60, 2) := by decide +kernel
theorem eX10_append_89 : decode cX10_append 89 = .ok (.if_icmp .le 7, 3) := by decide +kernel
theorem eX10_append_96 : decode cX10_append 96 = .ok (.iconst 0, 1) := by decide +kernel
theorem eX10_append_97 : decode cX10_append 97 = .ok (.putfield 62, 3) := by decide +kernel
theorem eX10_append_100 : decode cX10_append 100 = .ok (.aload_n 0, 1) := by decide +kernel
theorem eX10_append_101 : decode cX10_append 101 = .ok (.getfield 62, 3) := by decide +kernel
theorem eX10_append_104 : decode cX10_append 104 = .ok (.ifCond .le 5, 3) := by decide +kernel
theorem eX10_append_107 : decode cX10_append 107 = .ok (.iconst 0, 1) := by decide +kernel
theorem eX10_append_108 : decode cX10_append 108 = .ok (.ireturn, 1) := by decide +kernel
theorem eX10_append_109 : decode cX10_append 109 = .ok (.bipush 24, 2) := by decide +kernel
theorem eX10_append_111 : decode cX10_append 111 = .ok (.istore 4, 2) := by decide +kernel
theorem eX10_append_113 : decode cX10_append 113 = .ok (.iload 4, 2) := by decide +kernel
theorem eX10_append_115 : decode cX10_append 115 = .ok (.ifCond .lt 45, 3) := by decide +kernel
theorem eX10_append_118 : decode cX10_append 118 = .ok (.iload_n 1, 1) := by decide +kernel
theorem eX10_append_119 : decode cX10_append 119 = .ok (.iload 4, 2) := by decide +kernel
theorem eX10_append_121 : decode cX10_append 121 = .ok (.iushr, 1) := by decide +kernel
theorem eX10_append_122 : decode cX10_append 122 = .ok (.sipush 255, 3) := by decide +kernel
theorem eX10_append_125 : decode cX10_append 125 = .ok (.iand, 1) := by decide +kernel
theorem eX10_append_126 : decode cX10_append 126 = .ok (.istore 5, 2) := by decide +kernel
theorem eX10_append_128 : decode cX10_append 128 = .ok (.iload 5, 2) := by decide +kernel
theorem eX10_append_130 : decode cX10_append 130 = .ok (.ifCond .eq 24, 3) := by decide +kernel
theorem eX10_append_133 : decode cX10_append 133 = .ok (.aload_n 0, 1) := by decide +kernel
theorem eX10_append_134 : decode cX10_append 134 = .ok (.getfield 16, 3) := by decide +kernel
theorem eX10_append_137 : decode cX10_append 137 = .ok (.aload_n 0, 1) := by decide +kernel
theorem eX10_append_138 : decode cX10_append 138 = .ok (.getfield 81, 3) := by decide +kernel
theorem eX10_append_141 : decode cX10_append 141 = .ok (.iload 5, 2) := by decide +kernel
theorem eX10_append_143 : decode cX10_append 143 = .ok (.iastore, 1) := by decide +kernel
theorem eX10_append_144 : decode cX10_append 144 = .ok (.aload_n 0, 1) := by decide +kernel
theorem eX10_append_145 : decode cX10_append 145 = .ok (.dup, 1) := by decide +kernel
theorem eX10_append_146 : decode cX10_append 146 = .ok (.getfield 81, 3) := by decide +kernel
theorem eX10_append_149 : decode cX10_append 149 = .ok (.iconst 1, 1) := by decide +kernel
theorem eX10_append_150 : decode cX10_append 150 = .ok (.iadd, 1) := by decide +kernel
theorem eX10_append_151 : decode cX10_append 151 = .ok (.putfield 81, 3) := by decide +kernel
theorem eX10_append_154 : decode cX10_append 154 = .ok (.iinc 4 (-8), 3) := by decide +kernel
theorem eX10_append_157 : decode cX10_append 157 = .ok (.goto (-44), 3) := by decide +kernel
theorem eX10_append_160 : decode cX10_append 160 = .ok (.aload_n 0, 1) := by decide +kernel
theorem eX10_append_161 : decode cX10_append 161 = .ok (.getfield 81, 3) := by decide +kernel
theorem eX10_append_164 : decode cX10_append 164 = .ok (.ireturn, 1) := by decide +kernel
theorem eX10_clear_0 : decode cX10_clear 0 = .ok (.aload_n 0, 1) := by decide +kernel
theorem eX10_clear_1 : decode cX10_clear 1 = .ok (.iconst 0, 1) := by decide +kernel
theorem eX10_clear_2 : decode cX10_clear 2 = .ok (.putfield 62, 3) := by decide +kernel
theorem eX10_clear_5 : decode cX10_clear 5 = .ok (.aload_n 0, 1) := by decide +kernel
theorem eX10_clear_6 : decode cX10_clear 6 = .ok (.getfield 81, 3) := by decide +kernel
theorem eX10_clear_9 : decode cX10_clear 9 = .ok (.istore_n 1, 1) := by decide +kernel
theorem eX10_clear_10 : decode cX10_clear 10 = .ok (.aload_n 0, 1) := by decide +kernel
theorem eX10_clear_11 : decode cX10_clear 11 = .ok (.iconst 0, 1) := by decide +kernel
theorem eX10_clear_12 : decode cX10_clear 12 = .ok (.putfield 81, 3) := by decide +kernel
theorem eX10_clear_15 : decode cX10_clear 15 = .ok (.iload_n 1, 1) := by decide +kernel
theorem eX10_clear_16 : decode cX10_clear 16 = .ok (.ireturn, 1) := by decide +kernel
theorem eX10_add_0 : decode cX10_add 0 = .ok (.aload_n 0, 1) := by decide +kernel
theorem eX10_add_1 : decode cX10_add 1 = .ok (.getfield 81, 3) := by decide +kernel
theorem eX10_add_4 : decode cX10_add 4 = .ok (.i2l, 1) := by decide +kernel
theorem eX10_add_5 : decode cX10_add 5 = .ok (.lconst 1, 1) := by decide +kernel
theorem eX10_add_6 : decode cX10_add 6 = .ok (.ldc2_w 88, 3) := by decide +kernel
theorem eX10_add_9 : decode cX10_add 9 = .ok (.invokestatic 65, 3) := by decide +kernel
theorem eX10_add_12 : decode cX10_add 12 = .ok (.ifCond .eq 19, 3) := by decide +kernel
theorem eX10_add_31 : decode cX10_add 31 = .ok (.iconst 0, 1) := by decide +kernel
theorem eX10_add_32 : decode cX10_add 32 = .ok (.istore_n 2, 1) := by decide +kernel
theorem eX10_add_33 : decode cX10_add 33 = .ok (.iconst 0, 1) := by decide +kernel
theorem eX10_add_34 : decode cX10_add 34 = .ok (.istore_n 3, 1) := by decide +kernel
theorem eX10_add_35 : decode cX10_add 35 = .ok (.iload_n 3, 1) := by decide +kernel
theorem eX10_add_36 : decode cX10_add 36 = .ok (.aload_n 0, 1) := by decide +kernel
theorem eX10_add_37 : decode cX10_add 37 = .ok (.getfield 81, 3) := by decide +kernel
theorem eX10_add_40 : decode cX10_add 40 = .ok (.if_icmp .ge 31, 3) := by decide +kernel
theorem eX10_add_71 : decode cX10_add 71 = .ok (.aload_n 0, 1) := by decide +kernel
theorem eX10_add_72 : decode cX10_add 72 = .ok (.iload_n 2, 1) := by decide +kernel
theorem eX10_add_73 : decode cX10_add 73 = .ok (.ifCond .ne 7, 3) := by decide +kernel
theorem eX10_add_76 : decode cX10_add 76 = .ok (.iconst 1, 1) := by decide +kernel
theorem eX10_add_77 : decode cX10_add 77 = .ok (.goto 31, 3) := by decide +kernel
theorem eX10_add_108 : decode cX10_add 108 = .ok (.putfield 62, 3) := by decide +kernel
theorem eX10_add_111 : decode cX10_add 111 = .ok (.aload_n 0, 1) := by decide +kernel
theorem eX10_add_112 : decode cX10_add 112 = .ok (.getfield 62, 3) := by decide +kernel
theorem eX10_add_115 : decode cX10_add 115 = .ok (.ifCond .le 5, 3) := by decide +kernel
theorem eX10_add_118 : decode cX10_add 118 = .ok (.iconst 0, 1) := by decide +kernel
theorem eX10_add_119 : decode cX10_add 119 = .ok (.ireturn, 1) := by decide +kernel
theorem eX10_remove_0 : decode cX10_remove 0 = .ok (.aload_n 0, 1) := by decide +kernel
theorem eX10_remove_1 : decode cX10_remove 1 = .ok (.aload_n 0, 1) := by decide +kernel
theorem eX10_remove_2 : decode cX10_remove 2 = .ok (.iload_n 1, 1) := by decide +kernel
theorem eX10_remove_3 : decode cX10_remove 3 = .ok (.invokevirtual 107, 3) := by decide +kernel
theorem eX10_remove_6 : decode cX10_remove 6 = .ok (.ifCond .eq 7, 3) := by decide +kernel
theorem eX10_remove_13 : decode cX10_remove 13 = .ok (.iconst 1, 1) := by decide +kernel
theorem eX10_remove_14 : decode cX10_remove 14 = .ok (.putfield 62, 3) := by decide +kernel
theorem eX10_remove_17 : decode cX10_remove 17 = .ok (.aload_n 0, 1) := by decide +kernel
theorem eX10_remove_18 : decode cX10_remove 18 = .ok (.getfield 62, 3) := by decide +kernel
theorem eX10_remove_21 : decode cX10_remove 21 = .ok (.ifCond .le 5, 3) := by decide +kernel
theorem eX10_remove_24 : decode cX10_remove 24 = .ok (.iconst 0, 1) := by decide +kernel
theorem eX10_remove_25 : decode cX10_remove 25 = .ok (.ireturn, 1) := by decide +kernel
theorem eX10_setBranch_0 : decode cX10_setBranch 0 = .ok (.aload_n 0, 1) := by decide +kernel
theorem eX10_setBranch_1 : decode cX10_setBranch 1 = .ok (.aload_n 0, 1) := by decide +kernel
theorem eX10_setBranch_2 : decode cX10_setBranch 2 = .ok (.iload_n 1, 1) := by decide +kernel
theorem eX10_setBranch_3 : decode cX10_setBranch 3 = .ok (.invokevirtual 107, 3) := by decide +kernel
theorem eX10_setBranch_6 : decode cX10_setBranch 6 = .ok (.ifCond .ne 7, 3) := by decide +kernel
theorem eX10_setBranch_9 : decode cX10_setBranch 9 = .ok (.iconst 1, 1) := by decide +kernel
theorem eX10_setBranch_10 : decode cX10_setBranch 10 = .ok (.goto 20, 3) := by decide +kernel
theorem eX10_setBranch_30 : decode cX10_setBranch 30 = .ok (.putfield 62, 3) := by decide +kernel
theorem eX10_setBranch_33 : decode cX10_setBranch 33 = .ok (.aload_n 0, 1) := by decide +kernel
theorem eX10_setBranch_34 : decode cX10_setBranch 34 = .ok (.getfield 62, 3) := by decide +kernel
theorem eX10_setBranch_37 : decode cX10_setBranch 37 = .ok (.ifCond .le 5, 3) := by decide +kernel
theorem eX10_setBranch_40 : decode cX10_setBranch 40 = .ok (.iconst 0, 1) := by decide +kernel
theorem eX10_setBranch_41 : decode cX10_setBranch 41 = .ok (.ireturn, 1) := by decide +kernel
theorem eX10_setWeight_0 : decode cX10_setWeight 0 = .ok (.aload_n 0, 1) := by decide +kernel
theorem eX10_setWeight_1 : decode cX10_setWeight 1 = .ok (.aload_n 0, 1) := by decide +kernel
theorem eX10_setWeight_2 : decode cX10_setWeight 2 = .ok (.iload_n 1, 1) := by decide +kernel
theorem eX10_setWeight_3 : decode cX10_setWeight 3 = .ok (.invokevirtual 107, 3) := by decide +kernel
theorem eX10_setWeight_6 : decode cX10_setWeight 6 = .ok (.ifCond .ne 7, 3) := by decide +kernel
theorem eX10_setWeight_9 : decode cX10_setWeight 9 = .ok (.iconst 1, 1) := by decide +kernel
theorem eX10_setWeight_10 : decode cX10_setWeight 10 = .ok (.goto 20, 3) := by decide +kernel
theorem eX10_setWeight_30 : decode cX10_setWeight 30 = .ok (.putfield 62, 3) := by decide +kernel
theorem eX10_setWeight_33 : decode cX10_setWeight 33 = .ok (.aload_n 0, 1) := by decide +kernel
theorem eX10_setWeight_34 : decode cX10_setWeight 34 = .ok (.getfield 62, 3) := by decide +kernel
theorem eX10_setWeight_37 : decode cX10_setWeight 37 = .ok (.ifCond .le 5, 3) := by decide +kernel
theorem eX10_setWeight_40 : decode cX10_setWeight 40 = .ok (.iconst 0, 1) := by decide +kernel
theorem eX10_setWeight_41 : decode cX10_setWeight 41 = .ok (.ireturn, 1) := by decide +kernel
theorem eX10_setLoad_0 : decode cX10_setLoad 0 = .ok (.aload_n 0, 1) := by decide +kernel
theorem eX10_setLoad_1 : decode cX10_setLoad 1 = .ok (.iload_n 1, 1) := by decide +kernel
theorem eX10_setLoad_2 : decode cX10_setLoad 2 = .ok (.i2l, 1) := by decide +kernel
theorem eX10_setLoad_3 : decode cX10_setLoad 3 = .ok (.ldc2_w 116, 3) := by decide +kernel
theorem eX10_setLoad_6 : decode cX10_setLoad 6 = .ok (.ldc2_w 118, 3) := by decide +kernel
theorem eX10_setLoad_9 : decode cX10_setLoad 9 = .ok (.invokestatic 65, 3) := by decide +kernel
theorem eX10_setLoad_12 : decode cX10_setLoad 12 = .ok (.ifCond .eq 7, 3) := by decide +kernel
theorem eX10_setLoad_15 : decode cX10_setLoad 15 = .ok (.iconst 0, 1) := by decide +kernel
theorem eX10_setLoad_16 : decode cX10_setLoad 16 = .ok (.goto 4, 3) := by decide +kernel
theorem eX10_setLoad_19 : decode cX10_setLoad 19 = .ok (.iconst 1, 1) := by decide +kernel
theorem eX10_setLoad_20 : decode cX10_setLoad 20 = .ok (.putfield 62, 3) := by decide +kernel
theorem eX10_setLoad_23 : decode cX10_setLoad 23 = .ok (.aload_n 0, 1) := by decide +kernel
theorem eX10_setLoad_24 : decode cX10_setLoad 24 = .ok (.getfield 62, 3) := by decide +kernel
theorem eX10_setLoad_27 : decode cX10_setLoad 27 = .ok (.ifCond .le 5, 3) := by decide +kernel
theorem eX10_setLoad_30 : decode cX10_setLoad 30 = .ok (.iconst 0, 1) := by decide +kernel
theorem eX10_setLoad_31 : decode cX10_setLoad 31 = .ok (.ireturn, 1) := by decide +kernel
theorem eX10_setLoad_32 : decode cX10_setLoad 32 = .ok (.aload_n 0, 1) := by decide +kernel
theorem eX10_setLoad_33 : decode cX10_setLoad 33 = .ok (.getfield 9, 3) := by decide +kernel
theorem eX10_setLoad_36 : decode cX10_setLoad 36 = .ok (.iconst 1, 1) := by decide +kernel
theorem eX10_setLoad_37 : decode cX10_setLoad 37 = .ok (.iaload, 1) := by decide +kernel
theorem eX10_setLoad_38 : decode cX10_setLoad 38 = .ok (.istore_n 2, 1) := by decide +kernel
theorem eX10_setLoad_39 : decode cX10_setLoad 39 = .ok (.aload_n 0, 1) := by decide +kernel
theorem eX10_setLoad_40 : decode cX10_setLoad 40 = .ok (.getfield 9, 3) := by decide +kernel
theorem eX10_setLoad_43 : decode cX10_setLoad 43 = .ok (.iconst 1, 1) := by decide +kernel
theorem eX10_setLoad_44 : decode cX10_setLoad 44 = .ok (.iload_n 1, 1) := by decide +kernel
theorem eX10_setLoad_45 : decode cX10_setLoad 45 = .ok (.iastore, 1) := by decide +kernel
theorem eX10_setLoad_46 : decode cX10_setLoad 46 = .ok (.aload_n 0, 1) := by decide +kernel
theorem eX10_setLoad_47 : decode cX10_setLoad 47 = .ok (.iconst 0, 1) := by decide +kernel
