/-! DECODED, 1: made by wip/engine/gen21.py -/
theorem eX9_init_0 : decode cX9_init 0 = .ok (.aload_n 0, 1) := by decide +kernel
theorem eX9_init_1 : decode cX9_init 1 = .ok (.invokespecial 1, 3) := by decide +kernel
theorem eX9_init_4 : decode cX9_init 4 = .ok (.aload_n 0, 1) := by decide +kernel
theorem eX9_init_5 : decode cX9_init 5 = .ok (.new 7, 3) := by decide +kernel
theorem eX9_init_8 : decode cX9_init 8 = .ok (.dup, 1) := by decide +kernel
theorem eX9_init_9 : decode cX9_init 9 = .ok (.bipush 60, 2) := by decide +kernel
theorem eX9_init_11 : decode cX9_init 11 = .ok (.invokespecial 11, 3) := by decide +kernel
theorem eX9_init_14 : decode cX9_init 14 = .ok (.putfield 14, 3) := by decide +kernel
theorem eX9_init_17 : decode cX9_init 17 = .ok (.aload_n 0, 1) := by decide +kernel
theorem eX9_init_18 : decode cX9_init 18 = .ok (.new 18, 3) := by decide +kernel
theorem eX9_init_21 : decode cX9_init 21 = .ok (.dup, 1) := by decide +kernel
theorem eX9_init_22 : decode cX9_init 22 = .ok (.invokespecial 20, 3) := by decide +kernel
theorem eX9_init_25 : decode cX9_init 25 = .ok (.putfield 21, 3) := by decide +kernel
theorem eX9_init_28 : decode cX9_init 28 = .ok (.aload_n 0, 1) := by decide +kernel
theorem eX9_init_29 : decode cX9_init 29 = .ok (.new 18, 3) := by decide +kernel
theorem eX9_init_32 : decode cX9_init 32 = .ok (.dup, 1) := by decide +kernel
theorem eX9_init_33 : decode cX9_init 33 = .ok (.invokespecial 20, 3) := by decide +kernel
theorem eX9_init_36 : decode cX9_init 36 = .ok (.putfield 25, 3) := by decide +kernel
theorem eX9_init_39 : decode cX9_init 39 = .ok (.aload_n 0, 1) := by decide +kernel
theorem eX9_init_40 : decode cX9_init 40 = .ok (.iconst 0, 1) := by decide +kernel
theorem eX9_init_41 : decode cX9_init 41 = .ok (.putfield 28, 3) := by decide +kernel
theorem eX9_init_44 : decode cX9_init 44 = .ok (.aload_n 0, 1) := by decide +kernel
theorem eX9_init_45 : decode cX9_init 45 = .ok (.new 32, 3) := by decide +kernel
theorem eX9_init_48 : decode cX9_init 48 = .ok (.dup, 1) := by decide +kernel
theorem eX9_init_49 : decode cX9_init 49 = .ok (.invokespecial 34, 3) := by decide +kernel
theorem eX9_init_52 : decode cX9_init 52 = .ok (.putfield 35, 3) := by decide +kernel
theorem eX9_init_55 : decode cX9_init 55 = .ok (.aload_n 0, 1) := by decide +kernel
theorem eX9_init_56 : decode cX9_init 56 = .ok (.iconst (-1), 1) := by decide +kernel
theorem eX9_init_57 : decode cX9_init 57 = .ok (.putfield 39, 3) := by decide +kernel
theorem eX9_init_60 : decode cX9_init 60 = .ok (.aload_n 0, 1) := by decide +kernel
theorem eX9_init_61 : decode cX9_init 61 = .ok (.new 43, 3) := by decide +kernel
theorem eX9_init_64 : decode cX9_init 64 = .ok (.dup, 1) := by decide +kernel
theorem eX9_init_65 : decode cX9_init 65 = .ok (.aload_n 0, 1) := by decide +kernel
theorem eX9_init_66 : decode cX9_init 66 = .ok (.getfield 21, 3) := by decide +kernel
theorem eX9_init_69 : decode cX9_init 69 = .ok (.invokespecial 45, 3) := by decide +kernel
theorem eX9_init_72 : decode cX9_init 72 = .ok (.putfield 48, 3) := by decide +kernel
theorem eX9_init_75 : decode cX9_init 75 = .ok (.aload_n 0, 1) := by decide +kernel
theorem eX9_init_76 : decode cX9_init 76 = .ok (.new 52, 3) := by decide +kernel
theorem eX9_init_79 : decode cX9_init 79 = .ok (.dup, 1) := by decide +kernel
theorem eX9_init_80 : decode cX9_init 80 = .ok (.aload_n 0, 1) := by decide +kernel
theorem eX9_init_81 : decode cX9_init 81 = .ok (.getfield 21, 3) := by decide +kernel
theorem eX9_init_84 : decode cX9_init 84 = .ok (.invokespecial 54, 3) := by decide +kernel
theorem eX9_init_87 : decode cX9_init 87 = .ok (.putfield 55, 3) := by decide +kernel
theorem eX9_init_90 : decode cX9_init 90 = .ok (.aload_n 0, 1) := by decide +kernel
theorem eX9_init_91 : decode cX9_init 91 = .ok (.new 59, 3) := by decide +kernel
theorem eX9_init_94 : decode cX9_init 94 = .ok (.dup, 1) := by decide +kernel
theorem eX9_init_95 : decode cX9_init 95 = .ok (.aload_n 0, 1) := by decide +kernel
theorem eX9_init_96 : decode cX9_init 96 = .ok (.getfield 21, 3) := by decide +kernel
theorem eX9_init_99 : decode cX9_init 99 = .ok (.invokespecial 61, 3) := by decide +kernel
theorem eX9_init_102 : decode cX9_init 102 = .ok (.putfield 62, 3) := by decide +kernel
theorem eX9_init_105 : decode cX9_init 105 = .ok (.aload_n 0, 1) := by decide +kernel
theorem eX9_init_106 : decode cX9_init 106 = .ok (.new 66, 3) := by decide +kernel
theorem eX9_init_109 : decode cX9_init 109 = .ok (.dup, 1) := by decide +kernel
theorem eX9_init_110 : decode cX9_init 110 = .ok (.aload_n 0, 1) := by decide +kernel
theorem eX9_init_111 : decode cX9_init 111 = .ok (.getfield 21, 3) := by decide +kernel
theorem eX9_init_114 : decode cX9_init 114 = .ok (.aload_n 0, 1) := by decide +kernel
theorem eX9_init_115 : decode cX9_init 115 = .ok (.getfield 62, 3) := by decide +kernel
theorem eX9_init_118 : decode cX9_init 118 = .ok (.invokespecial 68, 3) := by decide +kernel
theorem eX9_init_121 : decode cX9_init 121 = .ok (.putfield 71, 3) := by decide +kernel
theorem eX9_init_124 : decode cX9_init 124 = .ok (.aload_n 0, 1) := by decide +kernel
theorem eX9_init_125 : decode cX9_init 125 = .ok (.new 75, 3) := by decide +kernel
theorem eX9_init_128 : decode cX9_init 128 = .ok (.dup, 1) := by decide +kernel
theorem eX9_init_129 : decode cX9_init 129 = .ok (.aload_n 0, 1) := by decide +kernel
theorem eX9_init_130 : decode cX9_init 130 = .ok (.getfield 21, 3) := by decide +kernel
theorem eX9_init_133 : decode cX9_init 133 = .ok (.aload_n 0, 1) := by decide +kernel
theorem eX9_init_134 : decode cX9_init 134 = .ok (.getfield 48, 3) := by decide +kernel
theorem eX9_init_137 : decode cX9_init 137 = .ok (.aload_n 0, 1) := by decide +kernel
theorem eX9_init_138 : decode cX9_init 138 = .ok (.getfield 55, 3) := by decide +kernel
theorem eX9_init_141 : decode cX9_init 141 = .ok (.aload_n 0, 1) := by decide +kernel
theorem eX9_init_142 : decode cX9_init 142 = .ok (.getfield 71, 3) := by decide +kernel
theorem eX9_init_145 : decode cX9_init 145 = .ok (.invokespecial 77, 3) := by decide +kernel
theorem eX9_init_148 : decode cX9_init 148 = .ok (.putfield 80, 3) := by decide +kernel
theorem eX9_init_151 : decode cX9_init 151 = .ok (.aload_n 0, 1) := by decide +kernel
theorem eX9_init_152 : decode cX9_init 152 = .ok (.new 84, 3) := by decide +kernel
theorem eX9_init_155 : decode cX9_init 155 = .ok (.dup, 1) := by decide +kernel
theorem eX9_init_156 : decode cX9_init 156 = .ok (.aload_n 0, 1) := by decide +kernel
theorem eX9_init_157 : decode cX9_init 157 = .ok (.getfield 21, 3) := by decide +kernel
theorem eX9_init_160 : decode cX9_init 160 = .ok (.aload_n 0, 1) := by decide +kernel
theorem eX9_init_161 : decode cX9_init 161 = .ok (.getfield 48, 3) := by decide +kernel
theorem eX9_init_164 : decode cX9_init 164 = .ok (.aload_n 0, 1) := by decide +kernel
theorem eX9_init_165 : decode cX9_init 165 = .ok (.getfield 55, 3) := by decide +kernel
theorem eX9_init_168 : decode cX9_init 168 = .ok (.aload_n 0, 1) := by decide +kernel
theorem eX9_init_169 : decode cX9_init 169 = .ok (.getfield 71, 3) := by decide +kernel
theorem eX9_init_172 : decode cX9_init 172 = .ok (.invokespecial 86, 3) := by decide +kernel
theorem eX9_init_175 : decode cX9_init 175 = .ok (.putfield 87, 3) := by decide +kernel
theorem eX9_init_178 : decode cX9_init 178 = .ok (.aload_n 0, 1) := by decide +kernel
theorem eX9_init_179 : decode cX9_init 179 = .ok (.iconst (-1), 1) := by decide +kernel
theorem eX9_init_180 : decode cX9_init 180 = .ok (.putfield 91, 3) := by decide +kernel
theorem eX9_init_183 : decode cX9_init 183 = .ok (.return_, 1) := by decide +kernel
theorem eX9_append_0 : decode cX9_append 0 = .ok (.iconst 0, 1) := by decide +kernel
theorem eX9_append_1 : decode cX9_append 1 = .ok (.istore_n 2, 1) := by decide +kernel
theorem eX9_append_2 : decode cX9_append 2 = .ok (.bipush 24, 2) := by decide +kernel
theorem eX9_append_4 : decode cX9_append 4 = .ok (.istore_n 3, 1) := by decide +kernel
theorem eX9_append_5 : decode cX9_append 5 = .ok (.iload_n 3, 1) := by decide +kernel
theorem eX9_append_6 : decode cX9_append 6 = .ok (.ifCond .lt 50, 3) := by decide +kernel
theorem eX9_append_9 : decode cX9_append 9 = .ok (.iload_n 1, 1) := by decide +kernel
theorem eX9_append_10 : decode cX9_append 10 = .ok (.iload_n 3, 1) := by decide +kernel
theorem eX9_append_11 : decode cX9_append 11 = .ok (.iushr, 1) := by decide +kernel
theorem eX9_append_12 : decode cX9_append 12 = .ok (.sipush 255, 3) := by decide +kernel
theorem eX9_append_15 : decode cX9_append 15 = .ok (.iand, 1) := by decide +kernel
theorem eX9_append_16 : decode cX9_append 16 = .ok (.istore 4, 2) := by decide +kernel
theorem eX9_append_18 : decode cX9_append 18 = .ok (.iload 4, 2) := by decide +kernel
theorem eX9_append_20 : decode cX9_append 20 = .ok (.ifCond .eq 30, 3) := by decide +kernel
theorem eX9_append_23 : decode cX9_append 23 = .ok (.iload 4, 2) := by decide +kernel
theorem eX9_append_25 : decode cX9_append 25 = .ok (.bipush 33, 2) := by decide +kernel
theorem eX9_append_27 : decode cX9_append 27 = .ok (.if_icmp .lt 10, 3) := by decide +kernel
theorem eX9_append_30 : decode cX9_append 30 = .ok (.iload 4, 2) := by decide +kernel
theorem eX9_append_32 : decode cX9_append 32 = .ok (.bipush 126, 2) := by decide +kernel
theorem eX9_append_34 : decode cX9_append 34 = .ok (.if_icmp .le 13, 3) := by decide +kernel
theorem eX9_append_47 : decode cX9_append 47 = .ok (.iinc 2 1, 3) := by decide +kernel
theorem eX9_append_50 : decode cX9_append 50 = .ok (.iinc 3 (-8), 3) := by decide +kernel
theorem eX9_append_53 : decode cX9_append 53 = .ok (.goto (-48), 3) := by decide +kernel
theorem eX9_append_56 : decode cX9_append 56 = .ok (.aload_n 0, 1) := by decide +kernel
theorem eX9_append_57 : decode cX9_append 57 = .ok (.getfield 14, 3) := by decide +kernel
theorem eX9_append_60 : decode cX9_append 60 = .ok (.getfield 101, 3) := by decide +kernel
theorem eX9_append_63 : decode cX9_append 63 = .ok (.iload_n 2, 1) := by decide +kernel
theorem eX9_append_64 : decode cX9_append 64 = .ok (.iadd, 1) := by decide +kernel
theorem eX9_append_65 : decode cX9_append 65 = .ok (.bipush 60, 2) := by decide +kernel
theorem eX9_append_67 : decode cX9_append 67 = .ok (.if_icmp .le 13, 3) := by decide +kernel
theorem eX9_append_80 : decode cX9_append 80 = .ok (.bipush 24, 2) := by decide +kernel
theorem eX9_append_82 : decode cX9_append 82 = .ok (.istore_n 3, 1) := by decide +kernel
theorem eX9_append_83 : decode cX9_append 83 = .ok (.iload_n 3, 1) := by decide +kernel
theorem eX9_append_84 : decode cX9_append 84 = .ok (.ifCond .lt 32, 3) := by decide +kernel
theorem eX9_append_87 : decode cX9_append 87 = .ok (.iload_n 1, 1) := by decide +kernel
theorem eX9_append_88 : decode cX9_append 88 = .ok (.iload_n 3, 1) := by decide +kernel
theorem eX9_append_89 : decode cX9_append 89 = .ok (.iushr, 1) := by decide +kernel
theorem eX9_append_90 : decode cX9_append 90 = .ok (.sipush 255, 3) := by decide +kernel
theorem eX9_append_93 : decode cX9_append 93 = .ok (.iand, 1) := by decide +kernel
theorem eX9_append_94 : decode cX9_append 94 = .ok (.istore 4, 2) := by decide +kernel
theorem eX9_append_96 : decode cX9_append 96 = .ok (.iload 4, 2) := by decide +kernel
theorem eX9_append_98 : decode cX9_append 98 = .ok (.ifCond .eq 12, 3) := by decide +kernel
theorem eX9_append_101 : decode cX9_append 101 = .ok (.aload_n 0, 1) := by decide +kernel
theorem eX9_append_102 : decode cX9_append 102 = .ok (.getfield 14, 3) := by decide +kernel
theorem eX9_append_105 : decode cX9_append 105 = .ok (.iload 4, 2) := by decide +kernel
theorem eX9_append_107 : decode cX9_append 107 = .ok (.invokevirtual 109, 3) := by decide +kernel
theorem eX9_append_110 : decode cX9_append 110 = .ok (.iinc 3 (-8), 3) := by decide +kernel
theorem eX9_append_113 : decode cX9_append 113 = .ok (.goto (-30), 3) := by decide +kernel
theorem eX9_append_116 : decode cX9_append 116 = .ok (.aload_n 0, 1) := by decide +kernel
theorem eX9_append_117 : decode cX9_append 117 = .ok (.getfield 14, 3) := by decide +kernel
theorem eX9_append_120 : decode cX9_append 120 = .ok (.getfield 101, 3) := by decide +kernel
theorem eX9_append_123 : decode cX9_append 123 = .ok (.ireturn, 1) := by decide +kernel
theorem eX9_add_0 : decode cX9_add 0 = .ok (.aload_n 0, 1) := by decide +kernel
theorem eX9_add_1 : decode cX9_add 1 = .ok (.getfield 14, 3) := by decide +kernel
theorem eX9_add_4 : decode cX9_add 4 = .ok (.invokevirtual 115, 3) := by decide +kernel
theorem eX9_add_7 : decode cX9_add 7 = .ok (.ifCond .ne 13, 3) := by decide +kernel
theorem eX9_add_20 : decode cX9_add 20 = .ok (.iload_n 1, 1) := by decide +kernel
theorem eX9_add_21 : decode cX9_add 21 = .ok (.invokestatic 121, 3) := by decide +kernel
theorem eX9_add_24 : decode cX9_add 24 = .ok (.aload_n 0, 1) := by decide +kernel
theorem eX9_add_25 : decode cX9_add 25 = .ok (.getfield 21, 3) := by decide +kernel
theorem eX9_add_28 : decode cX9_add 28 = .ok (.aload_n 0, 1) := by decide +kernel
theorem eX9_add_29 : decode cX9_add 29 = .ok (.getfield 14, 3) := by decide +kernel
theorem eX9_add_32 : decode cX9_add 32 = .ok (.iconst 0, 1) := by decide +kernel
theorem eX9_add_33 : decode cX9_add 33 = .ok (.aload_n 0, 1) := by decide +kernel
theorem eX9_add_34 : decode cX9_add 34 = .ok (.getfield 14, 3) := by decide +kernel
theorem eX9_add_37 : decode cX9_add 37 = .ok (.getfield 101, 3) := by decide +kernel
theorem eX9_add_40 : decode cX9_add 40 = .ok (.iload_n 1, 1) := by decide +kernel
theorem eX9_add_41 : decode cX9_add 41 = .ok (.invokevirtual 124, 3) := by decide +kernel
theorem eX9_add_44 : decode cX9_add 44 = .ok (.ifCond .ne 13, 3) := by decide +kernel
theorem eX9_add_57 : decode cX9_add 57 = .ok (.aload_n 0, 1) := by decide +kernel
theorem eX9_add_58 : decode cX9_add 58 = .ok (.getfield 14, 3) := by decide +kernel
theorem eX9_add_61 : decode cX9_add 61 = .ok (.invokevirtual 112, 3) := by decide +kernel
theorem eX9_add_64 : decode cX9_add 64 = .ok (.aload_n 0, 1) := by decide +kernel
theorem eX9_add_65 : decode cX9_add 65 = .ok (.getfield 21, 3) := by decide +kernel
theorem eX9_add_68 : decode cX9_add 68 = .ok (.getfield 130, 3) := by decide +kernel
theorem eX9_add_71 : decode cX9_add 71 = .ok (.iconst 1, 1) := by decide +kernel
theorem eX9_add_72 : decode cX9_add 72 = .ok (.isub, 1) := by decide +kernel
theorem eX9_add_73 : decode cX9_add 73 = .ok (.ireturn, 1) := by decide +kernel
theorem eX9_trees_0 : decode cX9_trees 0 = .ok (.aload_n 0, 1) := by decide +kernel
theorem eX9_trees_1 : decode cX9_trees 1 = .ok (.invokevirtual 208, 3) := by decide +kernel
theorem eX9_trees_4 : decode cX9_trees 4 = .ok (.iload_n 1, 1) := by decide +kernel
theorem eX9_trees_5 : decode cX9_trees 5 = .ok (.tableswitch 71 0 3 #[31, 39, 55, 63], 31) := by decide +kernel
theorem eX9_trees_36 : decode cX9_trees 36 = .ok (.aload_n 0, 1) := by decide +kernel
theorem eX9_trees_37 : decode cX9_trees 37 = .ok (.getfield 55, 3) := by decide +kernel
theorem eX9_trees_40 : decode cX9_trees 40 = .ok (.getfield 250, 3) := by decide +kernel
theorem eX9_trees_43 : decode cX9_trees 43 = .ok (.ireturn, 1) := by decide +kernel
theorem eX9_requireBranch_0 : decode cX9_requireBranch 0 = .ok (.iload_n 0, 1) := by decide +kernel
theorem eX9_requireBranch_1 : decode cX9_requireBranch 1 = .ok (.ifCond .lt 9, 3) := by decide +kernel
theorem eX9_requireBranch_4 : decode cX9_requireBranch 4 = .ok (.iload_n 0, 1) := by decide +kernel
theorem eX9_requireBranch_5 : decode cX9_requireBranch 5 = .ok (.bipush 9, 2) := by decide +kernel
theorem eX9_requireBranch_7 : decode cX9_requireBranch 7 = .ok (.if_icmp .le 14, 3) := by decide +kernel
theorem eX9_requireBranch_21 : decode cX9_requireBranch 21 = .ok (.return_, 1) := by decide +kernel
theorem eX9_prepare_0 : decode cX9_prepare 0 = .ok (.aload_n 0, 1) := by decide +kernel
theorem eX9_prepare_1 : decode cX9_prepare 1 = .ok (.getfield 91, 3) := by decide +kernel
theorem eX9_prepare_4 : decode cX9_prepare 4 = .ok (.aload_n 0, 1) := by decide +kernel
theorem eX9_prepare_5 : decode cX9_prepare 5 = .ok (.getfield 21, 3) := by decide +kernel
theorem eX9_prepare_8 : decode cX9_prepare 8 = .ok (.getfield 334, 3) := by decide +kernel
theorem eX9_prepare_11 : decode cX9_prepare 11 = .ok (.if_icmp .eq 42, 3) := by decide +kernel
theorem eX9_prepare_14 : decode cX9_prepare 14 = .ok (.aload_n 0, 1) := by decide +kernel
theorem eX9_prepare_15 : decode cX9_prepare 15 = .ok (.getfield 48, 3) := by decide +kernel
theorem eX9_prepare_18 : decode cX9_prepare 18 = .ok (.invokevirtual 337, 3) := by decide +kernel
theorem eX9_prepare_21 : decode cX9_prepare 21 = .ok (.aload_n 0, 1) := by decide +kernel
theorem eX9_prepare_22 : decode cX9_prepare 22 = .ok (.getfield 55, 3) := by decide +kernel
theorem eX9_prepare_25 : decode cX9_prepare 25 = .ok (.invokevirtual 340, 3) := by decide +kernel
theorem eX9_prepare_28 : decode cX9_prepare 28 = .ok (.aload_n 0, 1) := by decide +kernel
theorem eX9_prepare_29 : decode cX9_prepare 29 = .ok (.getfield 62, 3) := by decide +kernel
theorem eX9_prepare_32 : decode cX9_prepare 32 = .ok (.invokevirtual 343, 3) := by decide +kernel
theorem eX9_prepare_35 : decode cX9_prepare 35 = .ok (.aload_n 0, 1) := by decide +kernel
theorem eX9_prepare_36 : decode cX9_prepare 36 = .ok (.getfield 71, 3) := by decide +kernel
theorem eX9_prepare_39 : decode cX9_prepare 39 = .ok (.invokevirtual 346, 3) := by decide +kernel
theorem eX9_prepare_42 : decode cX9_prepare 42 = .ok (.aload_n 0, 1) := by decide +kernel
theorem eX9_prepare_43 : decode cX9_prepare 43 = .ok (.aload_n 0, 1) := by decide +kernel
theorem eX9_prepare_44 : decode cX9_prepare 44 = .ok (.getfield 21, 3) := by decide +kernel
theorem eX9_prepare_47 : decode cX9_prepare 47 = .ok (.getfield 334, 3) := by decide +kernel
theorem eX9_prepare_50 : decode cX9_prepare 50 = .ok (.putfield 91, 3) := by decide +kernel
theorem eX9_prepare_53 : decode cX9_prepare 53 = .ok (.return_, 1) := by decide +kernel
theorem eX9_at_0 : decode cX9_at 0 = .ok (.iload_n 1, 1) := by decide +kernel
theorem eX9_at_1 : decode cX9_at 1 = .ok (.ifCond .lt 15, 3) := by decide +kernel
theorem eX9_at_4 : decode cX9_at 4 = .ok (.iload_n 1, 1) := by decide +kernel
theorem eX9_at_5 : decode cX9_at 5 = .ok (.aload_n 0, 1) := by decide +kernel
theorem eX9_at_6 : decode cX9_at 6 = .ok (.arraylength, 1) := by decide +kernel
theorem eX9_at_7 : decode cX9_at 7 = .ok (.if_icmp .ge 9, 3) := by decide +kernel
theorem eX9_at_10 : decode cX9_at 10 = .ok (.aload_n 0, 1) := by decide +kernel
theorem eX9_at_11 : decode cX9_at 11 = .ok (.iload_n 1, 1) := by decide +kernel
theorem eX9_at_12 : decode cX9_at 12 = .ok (.iaload, 1) := by decide +kernel
theorem eX9_at_13 : decode cX9_at 13 = .ok (.goto 4, 3) := by decide +kernel
theorem eX9_at_17 : decode cX9_at 17 = .ok (.ireturn, 1) := by decide +kernel
theorem eX9_put_0 : decode cX9_put 0 = .ok (.iload_n 1, 1) := by decide +kernel
theorem eX9_put_1 : decode cX9_put 1 = .ok (.ifCond .lt 13, 3) := by decide +kernel
theorem eX9_put_4 : decode cX9_put 4 = .ok (.iload_n 1, 1) := by decide +kernel
theorem eX9_put_5 : decode cX9_put 5 = .ok (.aload_n 0, 1) := by decide +kernel
theorem eX9_put_6 : decode cX9_put 6 = .ok (.arraylength, 1) := by decide +kernel
theorem eX9_put_7 : decode cX9_put 7 = .ok (.if_icmp .ge 7, 3) := by decide +kernel
theorem eX9_put_10 : decode cX9_put 10 = .ok (.aload_n 0, 1) := by decide +kernel
theorem eX9_put_11 : decode cX9_put 11 = .ok (.iload_n 1, 1) := by decide +kernel
theorem eX9_put_12 : decode cX9_put 12 = .ok (.iload_n 2, 1) := by decide +kernel
theorem eX9_put_13 : decode cX9_put 13 = .ok (.iastore, 1) := by decide +kernel
theorem eX9_put_14 : decode cX9_put 14 = .ok (.return_, 1) := by decide +kernel
theorem eX9_contains_0 : decode cX9_contains 0 = .ok (.iload_n 0, 1) := by decide +kernel
theorem eX9_contains_1 : decode cX9_contains 1 = .ok (.iload_n 1, 1) := by decide +kernel
theorem eX9_contains_2 : decode cX9_contains 2 = .ok (.iushr, 1) := by decide +kernel
theorem eX9_contains_3 : decode cX9_contains 3 = .ok (.iconst 1, 1) := by decide +kernel
theorem eX9_contains_4 : decode cX9_contains 4 = .ok (.iand, 1) := by decide +kernel
theorem eX9_contains_5 : decode cX9_contains 5 = .ok (.ifCond .eq 7, 3) := by decide +kernel
theorem eX9_contains_8 : decode cX9_contains 8 = .ok (.iconst 1, 1) := by decide +kernel
theorem eX9_contains_9 : decode cX9_contains 9 = .ok (.goto 4, 3) := by decide +kernel
theorem eX9_contains_12 : decode cX9_contains 12 = .ok (.iconst 0, 1) := by decide +kernel
theorem eX9_contains_13 : decode cX9_contains 13 = .ok (.ireturn, 1) := by decide +kernel
theorem eX9_isLetter_0 : decode cX9_isLetter 0 = .ok (.iload_n 0, 1) := by decide +kernel
theorem eX9_isLetter_1 : decode cX9_isLetter 1 = .ok (.bipush 97, 2) := by decide +kernel
theorem eX9_isLetter_3 : decode cX9_isLetter 3 = .ok (.if_icmp .lt 13, 3) := by decide +kernel
theorem eX9_isLetter_6 : decode cX9_isLetter 6 = .ok (.iload_n 0, 1) := by decide +kernel
theorem eX9_isLetter_7 : decode cX9_isLetter 7 = .ok (.bipush 122, 2) := by decide +kernel
theorem eX9_isLetter_9 : decode cX9_isLetter 9 = .ok (.if_icmp .gt 7, 3) := by decide +kernel
theorem eX9_isLetter_12 : decode cX9_isLetter 12 = .ok (.iconst 1, 1) := by decide +kernel
theorem eX9_isLetter_13 : decode cX9_isLetter 13 = .ok (.goto 4, 3) := by decide +kernel
theorem eX9_isLetter_17 : decode cX9_isLetter 17 = .ok (.ireturn, 1) := by decide +kernel
theorem eX10_init_0 : decode cX10_init 0 = .ok (.aload_n 0, 1) := by decide +kernel
theorem eX10_init_1 : decode cX10_init 1 = .ok (.invokespecial 3, 3) := by decide +kernel
theorem eX10_init_4 : decode cX10_init 4 = .ok (.aload_n 0, 1) := by decide +kernel
theorem eX10_init_5 : decode cX10_init 5 = .ok (.sipush 222, 3) := by decide +kernel
theorem eX10_init_8 : decode cX10_init 8 = .ok (.newarray .int, 2) := by decide +kernel
theorem eX10_init_10 : decode cX10_init 10 = .ok (.putfield 9, 3) := by decide +kernel
theorem eX10_init_13 : decode cX10_init 13 = .ok (.aload_n 0, 1) := by decide +kernel
theorem eX10_init_14 : decode cX10_init 14 = .ok (.sipush 222, 3) := by decide +kernel
theorem eX10_init_17 : decode cX10_init 17 = .ok (.newarray .int, 2) := by decide +kernel
theorem eX10_init_19 : decode cX10_init 19 = .ok (.putfield 13, 3) := by decide +kernel
theorem eX10_init_22 : decode cX10_init 22 = .ok (.aload_n 0, 1) := by decide +kernel
theorem eX10_init_23 : decode cX10_init 23 = .ok (.bipush 60, 2) := by decide +kernel
theorem eX10_init_25 : decode cX10_init 25 = .ok (.newarray .int, 2) := by decide +kernel
theorem eX10_init_27 : decode cX10_init 27 = .ok (.putfield 16, 3) := by decide +kernel
theorem eX10_init_30 : decode cX10_init 30 = .ok (.aload_n 0, 1) := by decide +kernel
theorem eX10_init_31 : decode cX10_init 31 = .ok (.iconst (-1), 1) := by decide +kernel
theorem eX10_init_32 : decode cX10_init 32 = .ok (.putfield 19, 3) := by decide +kernel
theorem eX10_init_35 : decode cX10_init 35 = .ok (.aload_n 0, 1) := by decide +kernel
theorem eX10_init_36 : decode cX10_init 36 = .ok (.bipush 60, 2) := by decide +kernel
theorem eX10_init_38 : decode cX10_init 38 = .ok (.newarray .int, 2) := by decide +kernel
theorem eX10_init_40 : decode cX10_init 40 = .ok (.putfield 23, 3) := by decide +kernel
theorem eX10_init_43 : decode cX10_init 43 = .ok (.aload_n 0, 1) := by decide +kernel
theorem eX10_init_44 : decode cX10_init 44 = .ok (.bipush 60, 2) := by decide +kernel
theorem eX10_init_46 : decode cX10_init 46 = .ok (.newarray .int, 2) := by decide +kernel
theorem eX10_init_48 : decode cX10_init 48 = .ok (.putfield 26, 3) := by decide +kernel
theorem eX10_init_51 : decode cX10_init 51 = .ok (.aload_n 0, 1) := by decide +kernel
theorem eX10_init_52 : decode cX10_init 52 = .ok (.bipush 60, 2) := by decide +kernel
theorem eX10_init_54 : decode cX10_init 54 = .ok (.newarray .int, 2) := by decide +kernel
theorem eX10_init_56 : decode cX10_init 56 = .ok (.putfield 29, 3) := by decide +kernel
theorem eX10_init_59 : decode cX10_init 59 = .ok (.aload_n 0, 1) := by decide +kernel
theorem eX10_init_60 : decode cX10_init 60 = .ok (.bipush 60, 2) := by decide +kernel
theorem eX10_init_62 : decode cX10_init 62 = .ok (.newarray .int, 2) := by decide +kernel
theorem eX10_init_64 : decode cX10_init 64 = .ok (.putfield 32, 3) := by decide +kernel
theorem eX10_init_67 : decode cX10_init 67 = .ok (.aload_n 0, 1) := by decide +kernel
theorem eX10_init_68 : decode cX10_init 68 = .ok (.bipush 60, 2) := by decide +kernel
theorem eX10_init_70 : decode cX10_init 70 = .ok (.newarray .int, 2) := by decide +kernel
theorem eX10_init_72 : decode cX10_init 72 = .ok (.putfield 35, 3) := by decide +kernel
theorem eX10_init_75 : decode cX10_init 75 = .ok (.aload_n 0, 1) := by decide +kernel
theorem eX10_init_76 : decode cX10_init 76 = .ok (.sipush 222, 3) := by decide +kernel
theorem eX10_init_79 : decode cX10_init 79 = .ok (.newarray .int, 2) := by decide +kernel
theorem eX10_init_81 : decode cX10_init 81 = .ok (.putfield 38, 3) := by decide +kernel
theorem eX10_init_84 : decode cX10_init 84 = .ok (.aload_n 0, 1) := by decide +kernel
theorem eX10_init_85 : decode cX10_init 85 = .ok (.bipush 60, 2) := by decide +kernel
theorem eX10_init_87 : decode cX10_init 87 = .ok (.newarray .int, 2) := by decide +kernel
theorem eX10_init_89 : decode cX10_init 89 = .ok (.putfield 41, 3) := by decide +kernel
theorem eX10_init_92 : decode cX10_init 92 = .ok (.aload_n 0, 1) := by decide +kernel
theorem eX10_init_93 : decode cX10_init 93 = .ok (.sipush 128, 3) := by decide +kernel
theorem eX10_init_96 : decode cX10_init 96 = .ok (.newarray .int, 2) := by decide +kernel
theorem eX10_init_98 : decode cX10_init 98 = .ok (.putfield 44, 3) := by decide +kernel
theorem eX10_init_101 : decode cX10_init 101 = .ok (.aload_n 0, 1) := by decide +kernel
theorem eX10_init_102 : decode cX10_init 102 = .ok (.bipush 40, 2) := by decide +kernel
theorem eX10_init_104 : decode cX10_init 104 = .ok (.newarray .int, 2) := by decide +kernel
theorem eX10_init_106 : decode cX10_init 106 = .ok (.putfield 47, 3) := by decide +kernel
theorem eX10_init_109 : decode cX10_init 109 = .ok (.aload_n 0, 1) := by decide +kernel
theorem eX10_init_110 : decode cX10_init 110 = .ok (.bipush 20, 2) := by decide +kernel
theorem eX10_init_112 : decode cX10_init 112 = .ok (.newarray .int, 2) := by decide +kernel
theorem eX10_init_114 : decode cX10_init 114 = .ok (.putfield 50, 3) := by decide +kernel
theorem eX10_init_117 : decode cX10_init 117 = .ok (.aload_n 0, 1) := by decide +kernel
theorem eX10_init_118 : decode cX10_init 118 = .ok (.bipush 20, 2) := by decide +kernel
theorem eX10_init_120 : decode cX10_init 120 = .ok (.newarray .int, 2) := by decide +kernel
theorem eX10_init_122 : decode cX10_init 122 = .ok (.putfield 53, 3) := by decide +kernel
theorem eX10_init_125 : decode cX10_init 125 = .ok (.aload_n 0, 1) := by decide +kernel
theorem eX10_init_126 : decode cX10_init 126 = .ok (.bipush 20, 2) := by decide +kernel
theorem eX10_init_128 : decode cX10_init 128 = .ok (.newarray .int, 2) := by decide +kernel
theorem eX10_init_130 : decode cX10_init 130 = .ok (.putfield 56, 3) := by decide +kernel
theorem eX10_init_133 : decode cX10_init 133 = .ok (.aload_n 0, 1) := by decide +kernel
theorem eX10_init_134 : decode cX10_init 134 = .ok (.sipush 2000, 3) := by decide +kernel
theorem eX10_init_137 : decode cX10_init 137 = .ok (.newarray .int, 2) := by decide +kernel
theorem eX10_init_139 : decode cX10_init 139 = .ok (.putfield 59, 3) := by decide +kernel
theorem eX10_init_142 : decode cX10_init 142 = .ok (.aload_n 0, 1) := by decide +kernel
theorem eX10_init_143 : decode cX10_init 143 = .ok (.getfield 9, 3) := by decide +kernel
theorem eX10_init_146 : decode cX10_init 146 = .ok (.iconst 1, 1) := by decide +kernel
theorem eX10_init_147 : decode cX10_init 147 = .ok (.bipush 100, 2) := by decide +kernel
theorem eX10_init_149 : decode cX10_init 149 = .ok (.iastore, 1) := by decide +kernel
theorem eX10_init_150 : decode cX10_init 150 = .ok (.return_, 1) := by decide +kernel
theorem eX10_in_0 : decode cX10_in 0 = .ok (.lload_n 0, 1) := by decide +kernel
theorem eX10_in_1 : decode cX10_in 1 = .ok (.lload_n 2, 1) := by decide +kernel
theorem eX10_in_2 : decode cX10_in 2 = .ok (.lcmp, 1) := by decide +kernel
theorem eX10_in_3 : decode cX10_in 3 = .ok (.ifCond .lt 14, 3) := by decide +kernel
theorem eX10_in_6 : decode cX10_in 6 = .ok (.lload_n 0, 1) := by decide +kernel
theorem eX10_in_7 : decode cX10_in 7 = .ok (.lload 4, 2) := by decide +kernel
theorem eX10_in_9 : decode cX10_in 9 = .ok (.lcmp, 1) := by decide +kernel
theorem eX10_in_10 : decode cX10_in 10 = .ok (.ifCond .gt 7, 3) := by decide +kernel
theorem eX10_in_13 : decode cX10_in 13 = .ok (.iconst 1, 1) := by decide +kernel
theorem eX10_in_14 : decode cX10_in 14 = .ok (.goto 4, 3) := by decide +kernel
theorem eX10_in_18 : decode cX10_in 18 = .ok (.ireturn, 1) := by decide +kernel
theorem eX10_isSign_0 : decode cX10_isSign 0 = .ok (.iload_n 0, 1) := by decide +kernel
theorem eX10_isSign_1 : decode cX10_isSign 1 = .ok (.i2l, 1) := by decide +kernel
theorem eX10_isSign_2 : decode cX10_isSign 2 = .ok (.ldc2_w 69, 3) := by decide +kernel
theorem eX10_isSign_5 : decode cX10_isSign 5 = .ok (.ldc2_w 71, 3) := by decide +kernel
theorem eX10_isSign_8 : decode cX10_isSign 8 = .ok (.invokestatic 65, 3) := by decide +kernel
theorem eX10_isSign_11 : decode cX10_isSign 11 = .ok (.ifCond .ne 17, 3) := by decide +kernel
theorem eX10_isSign_28 : decode cX10_isSign 28 = .ok (.iconst 1, 1) := by decide +kernel
theorem eX10_isSign_29 : decode cX10_isSign 29 = .ok (.goto 4, 3) := by decide +kernel
theorem eX10_isSign_33 : decode cX10_isSign 33 = .ok (.ireturn, 1) := by decide +kernel
theorem eX10_at_0 : decode cX10_at 0 = .ok (.aload_n 0, 1) := by decide +kernel
theorem eX10_at_1 : decode cX10_at 1 = .ok (.getfield 9, 3) := by decide +kernel
theorem eX10_at_4 : decode cX10_at 4 = .ok (.bipush 62, 2) := by decide +kernel
theorem eX10_at_6 : decode cX10_at 6 = .ok (.bipush 8, 2) := by decide +kernel
theorem eX10_at_8 : decode cX10_at 8 = .ok (.iload_n 1, 1) := by decide +kernel
theorem eX10_at_9 : decode cX10_at 9 = .ok (.imul, 1) := by decide +kernel
theorem eX10_at_10 : decode cX10_at 10 = .ok (.iadd, 1) := by decide +kernel
theorem eX10_at_11 : decode cX10_at 11 = .ok (.iload_n 2, 1) := by decide +kernel
theorem eX10_at_12 : decode cX10_at 12 = .ok (.iadd, 1) := by decide +kernel
theorem eX10_at_13 : decode cX10_at 13 = .ok (.iaload, 1) := by decide +kernel
theorem eX10_at_14 : decode cX10_at 14 = .ok (.ireturn, 1) := by decide +kernel
theorem eX10_append_0 : decode cX10_append 0 = .ok (.iconst 0, 1) := by decide +kernel
theorem eX10_append_1 : decode cX10_append 1 = .ok (.istore_n 2, 1) := by decide +kernel
theorem eX10_append_2 : decode cX10_append 2 = .ok (.iconst 1, 1) := by decide +kernel
theorem eX10_append_3 : decode cX10_append 3 = .ok (.istore_n 3, 1) := by decide +kernel
theorem eX10_append_4 : decode cX10_append 4 = .ok (.bipush 24, 2) := by decide +kernel
theorem eX10_append_6 : decode cX10_append 6 = .ok (.istore 4, 2) := by decide +kernel
theorem eX10_append_8 : decode cX10_append 8 = .ok (.iload 4, 2) := by decide +kernel
theorem eX10_append_10 : decode cX10_append 10 = .ok (.ifCond .lt 62, 3) := by decide +kernel
theorem eX10_append_13 : decode cX10_append 13 = .ok (.iload_n 1, 1) := by decide +kernel
theorem eX10_append_14 : decode cX10_append 14 = .ok (.iload 4, 2) := by decide +kernel
theorem eX10_append_16 : decode cX10_append 16 = .ok (.iushr, 1) := by decide +kernel
theorem eX10_append_17 : decode cX10_append 17 = .ok (.sipush 255, 3) := by decide +kernel
theorem eX10_append_20 : decode cX10_append 20 = .ok (.iand, 1) := by decide +kernel
theorem eX10_append_21 : decode cX10_append 21 = .ok (.istore 5, 2) := by decide +kernel
theorem eX10_append_23 : decode cX10_append 23 = .ok (.iload_n 3, 1) := by decide +kernel
theorem eX10_append_24 : decode cX10_append 24 = .ok (.ifCond .eq 27, 3) := by decide +kernel
theorem eX10_append_27 : decode cX10_append 27 = .ok (.iload 5, 2) := by decide +kernel
theorem eX10_append_29 : decode cX10_append 29 = .ok (.ifCond .eq 18, 3) := by decide +kernel
theorem eX10_append_32 : decode cX10_append 32 = .ok (.iload 5, 2) := by decide +kernel
theorem eX10_append_34 : decode cX10_append 34 = .ok (.i2l, 1) := by decide +kernel
theorem eX10_append_35 : decode cX10_append 35 = .ok (.ldc2_w 77, 3) := by decide +kernel
theorem eX10_append_38 : decode cX10_append 38 = .ok (.ldc2_w 79, 3) := by decide +kernel
theorem eX10_append_41 : decode cX10_append 41 = .ok (.invokestatic 65, 3) := by decide +kernel
theorem eX10_append_44 : decode cX10_append 44 = .ok (.ifCond .eq 7, 3) := by decide +kernel
theorem eX10_append_47 : decode cX10_append 47 = .ok (.iconst 1, 1) := by decide +kernel
theorem eX10_append_48 : decode cX10_append 48 = .ok (.goto 4, 3) := by decide +kernel
theorem eX10_append_52 : decode cX10_append 52 = .ok (.istore_n 3, 1) := by decide +kernel
theorem eX10_append_53 : decode cX10_append 53 = .ok (.iload_n 2, 1) := by decide +kernel
theorem eX10_append_54 : decode cX10_append 54 = .ok (.iload 5, 2) := by decide +kernel
theorem eX10_append_56 : decode cX10_append 56 = .ok (.ifCond .eq 7, 3) := by decide +kernel
theorem eX10_append_59 : decode cX10_append 59 = .ok (.iconst 1, 1) := by decide +kernel
theorem eX10_append_60 : decode cX10_append 60 = .ok (.goto 4, 3) := by decide +kernel
theorem eX10_append_63 : decode cX10_append 63 = .ok (.iconst 0, 1) := by decide +kernel
theorem eX10_append_64 : decode cX10_append 64 = .ok (.iadd, 1) := by decide +kernel
theorem eX10_append_65 : decode cX10_append 65 = .ok (.istore_n 2, 1) := by decide +kernel
theorem eX10_append_66 : decode cX10_append 66 = .ok (.iinc 4 (-8), 3) := by decide +kernel
theorem eX10_append_69 : decode cX10_append 69 = .ok (.goto (-61), 3) := by decide +kernel
theorem eX10_append_72 : decode cX10_append 72 = .ok (.aload_n 0, 1) := by decide +kernel
theorem eX10_append_73 : decode cX10_append 73 = .ok (.iload_n 3, 1) := by decide +kernel
theorem eX10_append_74 : decode cX10_append 74 = .ok (.ifCond .ne 7, 3) := by decide +kernel
theorem eX10_append_81 : decode cX10_append 81 = .ok (.aload_n 0, 1) := by decide +kernel
theorem eX10_append_82 : decode cX10_append 82 = .ok (.getfield 81, 3) := by decide +kernel
theorem eX10_append_85 : decode cX10_append 85 = .ok (.iload_n 2, 1) := by decide +kernel
theorem eX10_append_86 : decode cX10_append 86 = .ok (.iadd, 1) := by decide +kernel
theorem eX10_append_87 : decode cX10_append 87 = .ok (.bipush 60, 2) := by decide +kernel
theorem eX10_append_89 : decode cX10_append 89 = .ok (.if_icmp .le 7, 3) := by decide +kernel
theorem eX10_append_96 : decode cX10_append 96 = .ok (.iconst 0, 1) := by decide +kernel
theorem eX10_append_97 : decode cX10_append 97 = .ok (.putfield 62, 3) := by decide +kernel
theorem eX10_append_100 : decode cX10_append 100 = .ok (.aload_n 0, 1) := by decide +kernel
theorem eX10_append_101 : decode cX10_append 101 = .ok (.getfield 62, 3) := by decide +kernel
theorem eX10_append_104 : decode cX10_append 104 = .ok (.ifCond .le 5, 3) := by decide +kernel
theorem eX10_append_109 : decode cX10_append 109 = .ok (.bipush 24, 2) := by decide +kernel
theorem eX10_append_111 : decode cX10_append 111 = .ok (.istore 4, 2) := by decide +kernel
theorem eX10_append_113 : decode cX10_append 113 = .ok (.iload 4, 2) := by decide +kernel
theorem eX10_append_115 : decode cX10_append 115 = .ok (.ifCond .lt 45, 3) := by decide +kernel
theorem eX10_append_118 : decode cX10_append 118 = .ok (.iload_n 1, 1) := by decide +kernel
theorem eX10_append_119 : decode cX10_append 119 = .ok (.iload 4, 2) := by decide +kernel
theorem eX10_append_121 : decode cX10_append 121 = .ok (.iushr, 1) := by decide +kernel
theorem eX10_append_122 : decode cX10_append 122 = .ok (.sipush 255, 3) := by decide +kernel
theorem eX10_append_125 : decode cX10_append 125 = .ok (.iand, 1) := by decide +kernel
theorem eX10_append_126 : decode cX10_append 126 = .ok (.istore 5, 2) := by decide +kernel
theorem eX10_append_128 : decode cX10_append 128 = .ok (.iload 5, 2) := by decide +kernel
theorem eX10_append_130 : decode cX10_append 130 = .ok (.ifCond .eq 24, 3) := by decide +kernel
theorem eX10_append_133 : decode cX10_append 133 = .ok (.aload_n 0, 1) := by decide +kernel
theorem eX10_append_134 : decode cX10_append 134 = .ok (.getfield 16, 3) := by decide +kernel
theorem eX10_append_137 : decode cX10_append 137 = .ok (.aload_n 0, 1) := by decide +kernel
theorem eX10_append_138 : decode cX10_append 138 = .ok (.getfield 81, 3) := by decide +kernel
theorem eX10_append_141 : decode cX10_append 141 = .ok (.iload 5, 2) := by decide +kernel
theorem eX10_append_143 : decode cX10_append 143 = .ok (.iastore, 1) := by decide +kernel
theorem eX10_append_144 : decode cX10_append 144 = .ok (.aload_n 0, 1) := by decide +kernel
theorem eX10_append_145 : decode cX10_append 145 = .ok (.dup, 1) := by decide +kernel
theorem eX10_append_146 : decode cX10_append 146 = .ok (.getfield 81, 3) := by decide +kernel
theorem eX10_append_149 : decode cX10_append 149 = .ok (.iconst 1, 1) := by decide +kernel
theorem eX10_append_150 : decode cX10_append 150 = .ok (.iadd, 1) := by decide +kernel
theorem eX10_append_151 : decode cX10_append 151 = .ok (.putfield 81, 3) := by decide +kernel
theorem eX10_append_154 : decode cX10_append 154 = .ok (.iinc 4 (-8), 3) := by decide +kernel
theorem eX10_append_157 : decode cX10_append 157 = .ok (.goto (-44), 3) := by decide +kernel
theorem eX10_append_160 : decode cX10_append 160 = .ok (.aload_n 0, 1) := by decide +kernel
theorem eX10_append_161 : decode cX10_append 161 = .ok (.getfield 81, 3) := by decide +kernel
theorem eX10_append_164 : decode cX10_append 164 = .ok (.ireturn, 1) := by decide +kernel
theorem eX10_keyAt_0 : decode cX10_keyAt 0 = .ok (.iconst 0, 1) := by decide +kernel
theorem eX10_keyAt_1 : decode cX10_keyAt 1 = .ok (.istore_n 3, 1) := by decide +kernel
theorem eX10_keyAt_2 : decode cX10_keyAt 2 = .ok (.iload_n 3, 1) := by decide +kernel
theorem eX10_keyAt_3 : decode cX10_keyAt 3 = .ok (.aload_n 0, 1) := by decide +kernel
theorem eX10_keyAt_4 : decode cX10_keyAt 4 = .ok (.getfield 9, 3) := by decide +kernel
theorem eX10_keyAt_7 : decode cX10_keyAt 7 = .ok (.iconst 0, 1) := by decide +kernel
theorem eX10_keyAt_8 : decode cX10_keyAt 8 = .ok (.iaload, 1) := by decide +kernel
theorem eX10_keyAt_9 : decode cX10_keyAt 9 = .ok (.if_icmp .ge 81, 3) := by decide +kernel
theorem eX10_keyAt_12 : decode cX10_keyAt 12 = .ok (.aload_n 0, 1) := by decide +kernel
theorem eX10_keyAt_13 : decode cX10_keyAt 13 = .ok (.getfield 9, 3) := by decide +kernel
theorem eX10_keyAt_16 : decode cX10_keyAt 16 = .ok (.iconst 2, 1) := by decide +kernel
theorem eX10_keyAt_17 : decode cX10_keyAt 17 = .ok (.iload_n 3, 1) := by decide +kernel
theorem eX10_keyAt_18 : decode cX10_keyAt 18 = .ok (.iadd, 1) := by decide +kernel
theorem eX10_keyAt_19 : decode cX10_keyAt 19 = .ok (.iaload, 1) := by decide +kernel
theorem eX10_keyAt_20 : decode cX10_keyAt 20 = .ok (.iload_n 2, 1) := by decide +kernel
theorem eX10_keyAt_21 : decode cX10_keyAt 21 = .ok (.if_icmp .ne 7, 3) := by decide +kernel
theorem eX10_keyAt_24 : decode cX10_keyAt 24 = .ok (.iconst 1, 1) := by decide +kernel
theorem eX10_keyAt_25 : decode cX10_keyAt 25 = .ok (.goto 4, 3) := by decide +kernel
theorem eX10_keyAt_28 : decode cX10_keyAt 28 = .ok (.iconst 0, 1) := by decide +kernel
theorem eX10_keyAt_29 : decode cX10_keyAt 29 = .ok (.istore 4, 2) := by decide +kernel
theorem eX10_keyAt_31 : decode cX10_keyAt 31 = .ok (.iconst 0, 1) := by decide +kernel
theorem eX10_keyAt_32 : decode cX10_keyAt 32 = .ok (.istore 5, 2) := by decide +kernel
theorem eX10_keyAt_34 : decode cX10_keyAt 34 = .ok (.iload 5, 2) := by decide +kernel
theorem eX10_keyAt_36 : decode cX10_keyAt 36 = .ok (.iload_n 2, 1) := by decide +kernel
theorem eX10_keyAt_37 : decode cX10_keyAt 37 = .ok (.if_icmp .ge 40, 3) := by decide +kernel
theorem eX10_keyAt_40 : decode cX10_keyAt 40 = .ok (.iload 4, 2) := by decide +kernel
theorem eX10_keyAt_42 : decode cX10_keyAt 42 = .ok (.ifCond .eq 35, 3) := by decide +kernel
theorem eX10_keyAt_45 : decode cX10_keyAt 45 = .ok (.aload_n 0, 1) := by decide +kernel
theorem eX10_keyAt_46 : decode cX10_keyAt 46 = .ok (.iload_n 3, 1) := by decide +kernel
theorem eX10_keyAt_47 : decode cX10_keyAt 47 = .ok (.iload 5, 2) := by decide +kernel
theorem eX10_keyAt_49 : decode cX10_keyAt 49 = .ok (.invokevirtual 84, 3) := by decide +kernel
theorem eX10_keyAt_52 : decode cX10_keyAt 52 = .ok (.aload_n 0, 1) := by decide +kernel
theorem eX10_keyAt_53 : decode cX10_keyAt 53 = .ok (.getfield 16, 3) := by decide +kernel
theorem eX10_keyAt_56 : decode cX10_keyAt 56 = .ok (.iload_n 1, 1) := by decide +kernel
theorem eX10_keyAt_57 : decode cX10_keyAt 57 = .ok (.iload 5, 2) := by decide +kernel
theorem eX10_keyAt_59 : decode cX10_keyAt 59 = .ok (.iadd, 1) := by decide +kernel
theorem eX10_keyAt_60 : decode cX10_keyAt 60 = .ok (.iaload, 1) := by decide +kernel
theorem eX10_keyAt_61 : decode cX10_keyAt 61 = .ok (.if_icmp .ne 7, 3) := by decide +kernel
theorem eX10_keyAt_64 : decode cX10_keyAt 64 = .ok (.iconst 1, 1) := by decide +kernel
theorem eX10_keyAt_65 : decode cX10_keyAt 65 = .ok (.goto 4, 3) := by decide +kernel
theorem eX10_keyAt_68 : decode cX10_keyAt 68 = .ok (.iconst 0, 1) := by decide +kernel
theorem eX10_keyAt_69 : decode cX10_keyAt 69 = .ok (.istore 4, 2) := by decide +kernel
theorem eX10_keyAt_71 : decode cX10_keyAt 71 = .ok (.iinc 5 1, 3) := by decide +kernel
theorem eX10_keyAt_74 : decode cX10_keyAt 74 = .ok (.goto (-40), 3) := by decide +kernel
theorem eX10_keyAt_77 : decode cX10_keyAt 77 = .ok (.iload 4, 2) := by decide +kernel
theorem eX10_keyAt_79 : decode cX10_keyAt 79 = .ok (.ifCond .eq 5, 3) := by decide +kernel
theorem eX10_keyAt_84 : decode cX10_keyAt 84 = .ok (.iinc 3 1, 3) := by decide +kernel
theorem eX10_keyAt_87 : decode cX10_keyAt 87 = .ok (.goto (-85), 3) := by decide +kernel
theorem eX10_keyAt_90 : decode cX10_keyAt 90 = .ok (.iconst (-1), 1) := by decide +kernel
theorem eX10_keyAt_91 : decode cX10_keyAt 91 = .ok (.ireturn, 1) := by decide +kernel
theorem eX10_addKey_0 : decode cX10_addKey 0 = .ok (.aload_n 0, 1) := by decide +kernel
theorem eX10_addKey_1 : decode cX10_addKey 1 = .ok (.getfield 9, 3) := by decide +kernel
theorem eX10_addKey_4 : decode cX10_addKey 4 = .ok (.iconst 0, 1) := by decide +kernel
theorem eX10_addKey_5 : decode cX10_addKey 5 = .ok (.iaload, 1) := by decide +kernel
theorem eX10_addKey_6 : decode cX10_addKey 6 = .ok (.istore 4, 2) := by decide +kernel
theorem eX10_addKey_8 : decode cX10_addKey 8 = .ok (.aload_n 0, 1) := by decide +kernel
theorem eX10_addKey_9 : decode cX10_addKey 9 = .ok (.getfield 9, 3) := by decide +kernel
theorem eX10_addKey_12 : decode cX10_addKey 12 = .ok (.iconst 2, 1) := by decide +kernel
theorem eX10_addKey_13 : decode cX10_addKey 13 = .ok (.iload 4, 2) := by decide +kernel
theorem eX10_addKey_15 : decode cX10_addKey 15 = .ok (.iadd, 1) := by decide +kernel
theorem eX10_addKey_16 : decode cX10_addKey 16 = .ok (.iload_n 2, 1) := by decide +kernel
theorem eX10_addKey_17 : decode cX10_addKey 17 = .ok (.iastore, 1) := by decide +kernel
theorem eX10_addKey_18 : decode cX10_addKey 18 = .ok (.aload_n 0, 1) := by decide +kernel
theorem eX10_addKey_19 : decode cX10_addKey 19 = .ok (.getfield 9, 3) := by decide +kernel
theorem eX10_addKey_22 : decode cX10_addKey 22 = .ok (.bipush 22, 2) := by decide +kernel
theorem eX10_addKey_24 : decode cX10_addKey 24 = .ok (.iload 4, 2) := by decide +kernel
theorem eX10_addKey_26 : decode cX10_addKey 26 = .ok (.iadd, 1) := by decide +kernel
theorem eX10_addKey_27 : decode cX10_addKey 27 = .ok (.iload_n 3, 1) := by decide +kernel
theorem eX10_addKey_28 : decode cX10_addKey 28 = .ok (.iastore, 1) := by decide +kernel
theorem eX10_addKey_29 : decode cX10_addKey 29 = .ok (.aload_n 0, 1) := by decide +kernel
theorem eX10_addKey_30 : decode cX10_addKey 30 = .ok (.getfield 9, 3) := by decide +kernel
theorem eX10_addKey_33 : decode cX10_addKey 33 = .ok (.bipush 42, 2) := by decide +kernel
theorem eX10_addKey_35 : decode cX10_addKey 35 = .ok (.iload 4, 2) := by decide +kernel
theorem eX10_addKey_37 : decode cX10_addKey 37 = .ok (.iadd, 1) := by decide +kernel
theorem eX10_addKey_38 : decode cX10_addKey 38 = .ok (.iconst 1, 1) := by decide +kernel
theorem eX10_addKey_39 : decode cX10_addKey 39 = .ok (.iastore, 1) := by decide +kernel
theorem eX10_addKey_40 : decode cX10_addKey 40 = .ok (.iconst 0, 1) := by decide +kernel
theorem eX10_addKey_41 : decode cX10_addKey 41 = .ok (.istore 5, 2) := by decide +kernel
theorem eX10_addKey_43 : decode cX10_addKey 43 = .ok (.iload 5, 2) := by decide +kernel
theorem eX10_addKey_45 : decode cX10_addKey 45 = .ok (.iload_n 2, 1) := by decide +kernel
theorem eX10_addKey_46 : decode cX10_addKey 46 = .ok (.if_icmp .ge 34, 3) := by decide +kernel
theorem eX10_addKey_49 : decode cX10_addKey 49 = .ok (.aload_n 0, 1) := by decide +kernel
theorem eX10_addKey_50 : decode cX10_addKey 50 = .ok (.getfield 9, 3) := by decide +kernel
theorem eX10_addKey_53 : decode cX10_addKey 53 = .ok (.bipush 62, 2) := by decide +kernel
theorem eX10_addKey_55 : decode cX10_addKey 55 = .ok (.bipush 8, 2) := by decide +kernel
theorem eX10_addKey_57 : decode cX10_addKey 57 = .ok (.iload 4, 2) := by decide +kernel
theorem eX10_addKey_59 : decode cX10_addKey 59 = .ok (.imul, 1) := by decide +kernel
theorem eX10_addKey_60 : decode cX10_addKey 60 = .ok (.iadd, 1) := by decide +kernel
theorem eX10_addKey_61 : decode cX10_addKey 61 = .ok (.iload 5, 2) := by decide +kernel
theorem eX10_addKey_63 : decode cX10_addKey 63 = .ok (.iadd, 1) := by decide +kernel
theorem eX10_addKey_64 : decode cX10_addKey 64 = .ok (.aload_n 0, 1) := by decide +kernel
theorem eX10_addKey_65 : decode cX10_addKey 65 = .ok (.getfield 16, 3) := by decide +kernel
theorem eX10_addKey_68 : decode cX10_addKey 68 = .ok (.iload_n 1, 1) := by decide +kernel
theorem eX10_addKey_69 : decode cX10_addKey 69 = .ok (.iload 5, 2) := by decide +kernel
theorem eX10_addKey_71 : decode cX10_addKey 71 = .ok (.iadd, 1) := by decide +kernel
theorem eX10_addKey_72 : decode cX10_addKey 72 = .ok (.iaload, 1) := by decide +kernel
theorem eX10_addKey_73 : decode cX10_addKey 73 = .ok (.iastore, 1) := by decide +kernel
theorem eX10_addKey_74 : decode cX10_addKey 74 = .ok (.iinc 5 1, 3) := by decide +kernel
theorem eX10_addKey_77 : decode cX10_addKey 77 = .ok (.goto (-34), 3) := by decide +kernel
theorem eX10_addKey_80 : decode cX10_addKey 80 = .ok (.aload_n 0, 1) := by decide +kernel
theorem eX10_addKey_81 : decode cX10_addKey 81 = .ok (.getfield 9, 3) := by decide +kernel
theorem eX10_addKey_84 : decode cX10_addKey 84 = .ok (.iconst 0, 1) := by decide +kernel
theorem eX10_addKey_85 : decode cX10_addKey 85 = .ok (.dup2, 1) := by decide +kernel
theorem eX10_addKey_86 : decode cX10_addKey 86 = .ok (.iaload, 1) := by decide +kernel
theorem eX10_addKey_87 : decode cX10_addKey 87 = .ok (.iconst 1, 1) := by decide +kernel
theorem eX10_addKey_88 : decode cX10_addKey 88 = .ok (.iadd, 1) := by decide +kernel
theorem eX10_addKey_89 : decode cX10_addKey 89 = .ok (.iastore, 1) := by decide +kernel
theorem eX10_addKey_90 : decode cX10_addKey 90 = .ok (.iload 4, 2) := by decide +kernel
theorem eX10_addKey_92 : decode cX10_addKey 92 = .ok (.ireturn, 1) := by decide +kernel
theorem eX10_add_0 : decode cX10_add 0 = .ok (.aload_n 0, 1) := by decide +kernel
theorem eX10_add_1 : decode cX10_add 1 = .ok (.getfield 81, 3) := by decide +kernel
theorem eX10_add_4 : decode cX10_add 4 = .ok (.i2l, 1) := by decide +kernel
theorem eX10_add_5 : decode cX10_add 5 = .ok (.lconst 1, 1) := by decide +kernel
theorem eX10_add_6 : decode cX10_add 6 = .ok (.ldc2_w 88, 3) := by decide +kernel
theorem eX10_add_9 : decode cX10_add 9 = .ok (.invokestatic 65, 3) := by decide +kernel
theorem eX10_add_12 : decode cX10_add 12 = .ok (.ifCond .eq 19, 3) := by decide +kernel
theorem eX10_add_15 : decode cX10_add 15 = .ok (.iload_n 1, 1) := by decide +kernel
theorem eX10_add_16 : decode cX10_add 16 = .ok (.i2l, 1) := by decide +kernel
theorem eX10_add_17 : decode cX10_add 17 = .ok (.lconst 0, 1) := by decide +kernel
theorem eX10_add_18 : decode cX10_add 18 = .ok (.ldc2_w 90, 3) := by decide +kernel
theorem eX10_add_21 : decode cX10_add 21 = .ok (.invokestatic 65, 3) := by decide +kernel
theorem eX10_add_24 : decode cX10_add 24 = .ok (.ifCond .eq 7, 3) := by decide +kernel
theorem eX10_add_27 : decode cX10_add 27 = .ok (.iconst 1, 1) := by decide +kernel
theorem eX10_add_28 : decode cX10_add 28 = .ok (.goto 4, 3) := by decide +kernel
theorem eX10_add_32 : decode cX10_add 32 = .ok (.istore_n 2, 1) := by decide +kernel
theorem eX10_add_33 : decode cX10_add 33 = .ok (.iconst 0, 1) := by decide +kernel
theorem eX10_add_34 : decode cX10_add 34 = .ok (.istore_n 3, 1) := by decide +kernel
theorem eX10_add_35 : decode cX10_add 35 = .ok (.iload_n 3, 1) := by decide +kernel
theorem eX10_add_36 : decode cX10_add 36 = .ok (.aload_n 0, 1) := by decide +kernel
theorem eX10_add_37 : decode cX10_add 37 = .ok (.getfield 81, 3) := by decide +kernel
theorem eX10_add_40 : decode cX10_add 40 = .ok (.if_icmp .ge 31, 3) := by decide +kernel
theorem eX10_add_43 : decode cX10_add 43 = .ok (.iload_n 2, 1) := by decide +kernel
theorem eX10_add_44 : decode cX10_add 44 = .ok (.ifCond .eq 19, 3) := by decide +kernel
theorem eX10_add_47 : decode cX10_add 47 = .ok (.aload_n 0, 1) := by decide +kernel
theorem eX10_add_48 : decode cX10_add 48 = .ok (.getfield 16, 3) := by decide +kernel
theorem eX10_add_51 : decode cX10_add 51 = .ok (.iload_n 3, 1) := by decide +kernel
theorem eX10_add_52 : decode cX10_add 52 = .ok (.iaload, 1) := by decide +kernel
theorem eX10_add_53 : decode cX10_add 53 = .ok (.invokestatic 92, 3) := by decide +kernel
theorem eX10_add_56 : decode cX10_add 56 = .ok (.ifCond .eq 7, 3) := by decide +kernel
theorem eX10_add_59 : decode cX10_add 59 = .ok (.iconst 1, 1) := by decide +kernel
theorem eX10_add_60 : decode cX10_add 60 = .ok (.goto 4, 3) := by decide +kernel
theorem eX10_add_64 : decode cX10_add 64 = .ok (.istore_n 2, 1) := by decide +kernel
theorem eX10_add_65 : decode cX10_add 65 = .ok (.iinc 3 1, 3) := by decide +kernel
theorem eX10_add_68 : decode cX10_add 68 = .ok (.goto (-33), 3) := by decide +kernel
theorem eX10_add_71 : decode cX10_add 71 = .ok (.aload_n 0, 1) := by decide +kernel
theorem eX10_add_72 : decode cX10_add 72 = .ok (.iload_n 2, 1) := by decide +kernel
theorem eX10_add_73 : decode cX10_add 73 = .ok (.ifCond .ne 7, 3) := by decide +kernel
theorem eX10_add_80 : decode cX10_add 80 = .ok (.aload_n 0, 1) := by decide +kernel
theorem eX10_add_81 : decode cX10_add 81 = .ok (.getfield 9, 3) := by decide +kernel
theorem eX10_add_84 : decode cX10_add 84 = .ok (.iconst 0, 1) := by decide +kernel
theorem eX10_add_85 : decode cX10_add 85 = .ok (.iaload, 1) := by decide +kernel
theorem eX10_add_86 : decode cX10_add 86 = .ok (.bipush 20, 2) := by decide +kernel
theorem eX10_add_88 : decode cX10_add 88 = .ok (.if_icmp .eq 15, 3) := by decide +kernel
theorem eX10_add_91 : decode cX10_add 91 = .ok (.aload_n 0, 1) := by decide +kernel
theorem eX10_add_92 : decode cX10_add 92 = .ok (.iconst 0, 1) := by decide +kernel
theorem eX10_add_93 : decode cX10_add 93 = .ok (.aload_n 0, 1) := by decide +kernel
theorem eX10_add_94 : decode cX10_add 94 = .ok (.getfield 81, 3) := by decide +kernel
theorem eX10_add_97 : decode cX10_add 97 = .ok (.invokevirtual 96, 3) := by decide +kernel
theorem eX10_add_100 : decode cX10_add 100 = .ok (.ifCond .lt 7, 3) := by decide +kernel
theorem eX10_add_107 : decode cX10_add 107 = .ok (.iconst 0, 1) := by decide +kernel
theorem eX10_add_108 : decode cX10_add 108 = .ok (.putfield 62, 3) := by decide +kernel
theorem eX10_add_111 : decode cX10_add 111 = .ok (.aload_n 0, 1) := by decide +kernel
theorem eX10_add_112 : decode cX10_add 112 = .ok (.getfield 62, 3) := by decide +kernel
theorem eX10_add_115 : decode cX10_add 115 = .ok (.ifCond .le 5, 3) := by decide +kernel
theorem eX10_add_120 : decode cX10_add 120 = .ok (.aload_n 0, 1) := by decide +kernel
theorem eX10_add_121 : decode cX10_add 121 = .ok (.iconst 0, 1) := by decide +kernel
theorem eX10_add_122 : decode cX10_add 122 = .ok (.aload_n 0, 1) := by decide +kernel
theorem eX10_add_123 : decode cX10_add 123 = .ok (.getfield 81, 3) := by decide +kernel
theorem eX10_add_126 : decode cX10_add 126 = .ok (.iload_n 1, 1) := by decide +kernel
theorem eX10_add_127 : decode cX10_add 127 = .ok (.invokevirtual 99, 3) := by decide +kernel
theorem eX10_add_130 : decode cX10_add 130 = .ok (.istore_n 3, 1) := by decide +kernel
theorem eX10_add_131 : decode cX10_add 131 = .ok (.aload_n 0, 1) := by decide +kernel
theorem eX10_add_132 : decode cX10_add 132 = .ok (.iconst 0, 1) := by decide +kernel
theorem eX10_add_133 : decode cX10_add 133 = .ok (.putfield 81, 3) := by decide +kernel
theorem eX10_add_136 : decode cX10_add 136 = .ok (.aload_n 0, 1) := by decide +kernel
theorem eX10_add_137 : decode cX10_add 137 = .ok (.iconst 0, 1) := by decide +kernel
theorem eX10_add_138 : decode cX10_add 138 = .ok (.putfield 103, 3) := by decide +kernel
theorem eX10_add_141 : decode cX10_add 141 = .ok (.iload_n 3, 1) := by decide +kernel
theorem eX10_add_142 : decode cX10_add 142 = .ok (.ireturn, 1) := by decide +kernel
theorem eX10_marked_0 : decode cX10_marked 0 = .ok (.iconst 0, 1) := by decide +kernel
theorem eX10_marked_1 : decode cX10_marked 1 = .ok (.istore_n 2, 1) := by decide +kernel
theorem eX10_marked_2 : decode cX10_marked 2 = .ok (.iconst 0, 1) := by decide +kernel
theorem eX10_marked_3 : decode cX10_marked 3 = .ok (.istore_n 3, 1) := by decide +kernel
theorem eX10_marked_4 : decode cX10_marked 4 = .ok (.iload_n 3, 1) := by decide +kernel
theorem eX10_marked_5 : decode cX10_marked 5 = .ok (.aload_n 0, 1) := by decide +kernel
theorem eX10_marked_6 : decode cX10_marked 6 = .ok (.getfield 9, 3) := by decide +kernel
theorem eX10_marked_9 : decode cX10_marked 9 = .ok (.iconst 0, 1) := by decide +kernel
theorem eX10_marked_10 : decode cX10_marked 10 = .ok (.iaload, 1) := by decide +kernel
theorem eX10_marked_11 : decode cX10_marked 11 = .ok (.if_icmp .ge 23, 3) := by decide +kernel
theorem eX10_marked_14 : decode cX10_marked 14 = .ok (.iload_n 2, 1) := by decide +kernel
theorem eX10_marked_15 : decode cX10_marked 15 = .ok (.aload_n 1, 1) := by decide +kernel
theorem eX10_marked_16 : decode cX10_marked 16 = .ok (.iload_n 3, 1) := by decide +kernel
theorem eX10_marked_17 : decode cX10_marked 17 = .ok (.baload, 1) := by decide +kernel
theorem eX10_marked_18 : decode cX10_marked 18 = .ok (.ifCond .eq 7, 3) := by decide +kernel
theorem eX10_marked_21 : decode cX10_marked 21 = .ok (.iconst 1, 1) := by decide +kernel
theorem eX10_marked_22 : decode cX10_marked 22 = .ok (.goto 4, 3) := by decide +kernel
theorem eX10_marked_25 : decode cX10_marked 25 = .ok (.iconst 0, 1) := by decide +kernel
theorem eX10_marked_26 : decode cX10_marked 26 = .ok (.iadd, 1) := by decide +kernel
theorem eX10_marked_27 : decode cX10_marked 27 = .ok (.istore_n 2, 1) := by decide +kernel
theorem eX10_marked_28 : decode cX10_marked 28 = .ok (.iinc 3 1, 3) := by decide +kernel
theorem eX10_marked_31 : decode cX10_marked 31 = .ok (.goto (-27), 3) := by decide +kernel
theorem eX10_marked_34 : decode cX10_marked 34 = .ok (.iload_n 2, 1) := by decide +kernel
theorem eX10_marked_35 : decode cX10_marked 35 = .ok (.ireturn, 1) := by decide +kernel
theorem eX10_positionOf_0 : decode cX10_positionOf 0 = .ok (.iconst (-1), 1) := by decide +kernel
theorem eX10_positionOf_1 : decode cX10_positionOf 1 = .ok (.istore_n 3, 1) := by decide +kernel
theorem eX10_positionOf_2 : decode cX10_positionOf 2 = .ok (.iconst 0, 1) := by decide +kernel
theorem eX10_positionOf_3 : decode cX10_positionOf 3 = .ok (.istore 4, 2) := by decide +kernel
theorem eX10_positionOf_5 : decode cX10_positionOf 5 = .ok (.iconst 0, 1) := by decide +kernel
theorem eX10_positionOf_6 : decode cX10_positionOf 6 = .ok (.istore 5, 2) := by decide +kernel
theorem eX10_positionOf_8 : decode cX10_positionOf 8 = .ok (.iconst 0, 1) := by decide +kernel
theorem eX10_positionOf_9 : decode cX10_positionOf 9 = .ok (.istore 6, 2) := by decide +kernel
theorem eX10_positionOf_11 : decode cX10_positionOf 11 = .ok (.iload 6, 2) := by decide +kernel
theorem eX10_positionOf_13 : decode cX10_positionOf 13 = .ok (.iload_n 2, 1) := by decide +kernel
theorem eX10_positionOf_14 : decode cX10_positionOf 14 = .ok (.if_icmp .ge 158, 3) := by decide +kernel
theorem eX10_positionOf_17 : decode cX10_positionOf 17 = .ok (.iconst 0, 1) := by decide +kernel
theorem eX10_positionOf_18 : decode cX10_positionOf 18 = .ok (.istore 7, 2) := by decide +kernel
theorem eX10_positionOf_20 : decode cX10_positionOf 20 = .ok (.iload 7, 2) := by decide +kernel
theorem eX10_positionOf_22 : decode cX10_positionOf 22 = .ok (.sipush 128, 3) := by decide +kernel
theorem eX10_positionOf_25 : decode cX10_positionOf 25 = .ok (.if_icmp .ge 17, 3) := by decide +kernel
theorem eX10_positionOf_28 : decode cX10_positionOf 28 = .ok (.aload_n 0, 1) := by decide +kernel
theorem eX10_positionOf_29 : decode cX10_positionOf 29 = .ok (.getfield 44, 3) := by decide +kernel
theorem eX10_positionOf_32 : decode cX10_positionOf 32 = .ok (.iload 7, 2) := by decide +kernel
theorem eX10_positionOf_34 : decode cX10_positionOf 34 = .ok (.iconst 0, 1) := by decide +kernel
theorem eX10_positionOf_35 : decode cX10_positionOf 35 = .ok (.iastore, 1) := by decide +kernel
theorem eX10_positionOf_36 : decode cX10_positionOf 36 = .ok (.iinc 7 1, 3) := by decide +kernel
theorem eX10_positionOf_39 : decode cX10_positionOf 39 = .ok (.goto (-19), 3) := by decide +kernel
theorem eX10_positionOf_42 : decode cX10_positionOf 42 = .ok (.iconst 0, 1) := by decide +kernel
theorem eX10_positionOf_43 : decode cX10_positionOf 43 = .ok (.istore 7, 2) := by decide +kernel
theorem eX10_positionOf_45 : decode cX10_positionOf 45 = .ok (.iconst 0, 1) := by decide +kernel
theorem eX10_positionOf_46 : decode cX10_positionOf 46 = .ok (.istore 8, 2) := by decide +kernel
theorem eX10_positionOf_48 : decode cX10_positionOf 48 = .ok (.iconst 0, 1) := by decide +kernel
theorem eX10_positionOf_49 : decode cX10_positionOf 49 = .ok (.istore 9, 2) := by decide +kernel
theorem eX10_positionOf_51 : decode cX10_positionOf 51 = .ok (.iload 9, 2) := by decide +kernel
theorem eX10_positionOf_53 : decode cX10_positionOf 53 = .ok (.aload_n 0, 1) := by decide +kernel
theorem eX10_positionOf_54 : decode cX10_positionOf 54 = .ok (.getfield 9, 3) := by decide +kernel
theorem eX10_positionOf_57 : decode cX10_positionOf 57 = .ok (.iconst 0, 1) := by decide +kernel
theorem eX10_positionOf_58 : decode cX10_positionOf 58 = .ok (.iaload, 1) := by decide +kernel
theorem eX10_positionOf_59 : decode cX10_positionOf 59 = .ok (.if_icmp .ge 71, 3) := by decide +kernel
theorem eX10_positionOf_62 : decode cX10_positionOf 62 = .ok (.aload_n 1, 1) := by decide +kernel
theorem eX10_positionOf_63 : decode cX10_positionOf 63 = .ok (.iload 9, 2) := by decide +kernel
theorem eX10_positionOf_65 : decode cX10_positionOf 65 = .ok (.baload, 1) := by decide +kernel
theorem eX10_positionOf_66 : decode cX10_positionOf 66 = .ok (.ifCond .eq 58, 3) := by decide +kernel
theorem eX10_positionOf_69 : decode cX10_positionOf 69 = .ok (.aload_n 0, 1) := by decide +kernel
theorem eX10_positionOf_70 : decode cX10_positionOf 70 = .ok (.iload 9, 2) := by decide +kernel
theorem eX10_positionOf_72 : decode cX10_positionOf 72 = .ok (.iload 6, 2) := by decide +kernel
theorem eX10_positionOf_74 : decode cX10_positionOf 74 = .ok (.invokevirtual 84, 3) := by decide +kernel
theorem eX10_positionOf_77 : decode cX10_positionOf 77 = .ok (.istore 10, 2) := by decide +kernel
theorem eX10_positionOf_79 : decode cX10_positionOf 79 = .ok (.iload 8, 2) := by decide +kernel
theorem eX10_positionOf_81 : decode cX10_positionOf 81 = .ok (.aload_n 0, 1) := by decide +kernel
theorem eX10_positionOf_82 : decode cX10_positionOf 82 = .ok (.getfield 44, 3) := by decide +kernel
theorem eX10_positionOf_85 : decode cX10_positionOf 85 = .ok (.iload 10, 2) := by decide +kernel
theorem eX10_positionOf_87 : decode cX10_positionOf 87 = .ok (.iaload, 1) := by decide +kernel
theorem eX10_positionOf_88 : decode cX10_positionOf 88 = .ok (.ifCond .ne 7, 3) := by decide +kernel
theorem eX10_positionOf_91 : decode cX10_positionOf 91 = .ok (.iconst 1, 1) := by decide +kernel
theorem eX10_positionOf_92 : decode cX10_positionOf 92 = .ok (.goto 4, 3) := by decide +kernel
theorem eX10_positionOf_95 : decode cX10_positionOf 95 = .ok (.iconst 0, 1) := by decide +kernel
theorem eX10_positionOf_96 : decode cX10_positionOf 96 = .ok (.iadd, 1) := by decide +kernel
theorem eX10_positionOf_97 : decode cX10_positionOf 97 = .ok (.istore 8, 2) := by decide +kernel
theorem eX10_positionOf_99 : decode cX10_positionOf 99 = .ok (.aload_n 0, 1) := by decide +kernel
theorem eX10_positionOf_100 : decode cX10_positionOf 100 = .ok (.getfield 44, 3) := by decide +kernel
theorem eX10_positionOf_103 : decode cX10_positionOf 103 = .ok (.iload 10, 2) := by decide +kernel
theorem eX10_positionOf_105 : decode cX10_positionOf 105 = .ok (.dup2, 1) := by decide +kernel
theorem eX10_positionOf_106 : decode cX10_positionOf 106 = .ok (.iaload, 1) := by decide +kernel
theorem eX10_positionOf_107 : decode cX10_positionOf 107 = .ok (.iconst 1, 1) := by decide +kernel
theorem eX10_positionOf_108 : decode cX10_positionOf 108 = .ok (.iadd, 1) := by decide +kernel
theorem eX10_positionOf_109 : decode cX10_positionOf 109 = .ok (.iastore, 1) := by decide +kernel
theorem eX10_positionOf_110 : decode cX10_positionOf 110 = .ok (.iload 7, 2) := by decide +kernel
theorem eX10_positionOf_112 : decode cX10_positionOf 112 = .ok (.aload_n 0, 1) := by decide +kernel
theorem eX10_positionOf_113 : decode cX10_positionOf 113 = .ok (.getfield 44, 3) := by decide +kernel
theorem eX10_positionOf_116 : decode cX10_positionOf 116 = .ok (.iload 10, 2) := by decide +kernel
theorem eX10_positionOf_118 : decode cX10_positionOf 118 = .ok (.iaload, 1) := by decide +kernel
theorem eX10_positionOf_119 : decode cX10_positionOf 119 = .ok (.invokestatic 220, 3) := by decide +kernel
theorem eX10_positionOf_122 : decode cX10_positionOf 122 = .ok (.istore 7, 2) := by decide +kernel
theorem eX10_positionOf_124 : decode cX10_positionOf 124 = .ok (.iinc 9 1, 3) := by decide +kernel
theorem eX10_positionOf_127 : decode cX10_positionOf 127 = .ok (.goto (-76), 3) := by decide +kernel
theorem eX10_positionOf_130 : decode cX10_positionOf 130 = .ok (.iload_n 3, 1) := by decide +kernel
theorem eX10_positionOf_131 : decode cX10_positionOf 131 = .ok (.ifCond .lt 24, 3) := by decide +kernel
theorem eX10_positionOf_134 : decode cX10_positionOf 134 = .ok (.iload 7, 2) := by decide +kernel
theorem eX10_positionOf_136 : decode cX10_positionOf 136 = .ok (.iload 4, 2) := by decide +kernel
theorem eX10_positionOf_138 : decode cX10_positionOf 138 = .ok (.if_icmp .lt 17, 3) := by decide +kernel
theorem eX10_positionOf_141 : decode cX10_positionOf 141 = .ok (.iload 7, 2) := by decide +kernel
theorem eX10_positionOf_143 : decode cX10_positionOf 143 = .ok (.iload 4, 2) := by decide +kernel
theorem eX10_positionOf_145 : decode cX10_positionOf 145 = .ok (.if_icmp .ne 21, 3) := by decide +kernel
theorem eX10_positionOf_148 : decode cX10_positionOf 148 = .ok (.iload 8, 2) := by decide +kernel
theorem eX10_positionOf_150 : decode cX10_positionOf 150 = .ok (.iload 5, 2) := by decide +kernel
theorem eX10_positionOf_152 : decode cX10_positionOf 152 = .ok (.if_icmp .le 14, 3) := by decide +kernel
theorem eX10_positionOf_155 : decode cX10_positionOf 155 = .ok (.iload 6, 2) := by decide +kernel
theorem eX10_positionOf_157 : decode cX10_positionOf 157 = .ok (.istore_n 3, 1) := by decide +kernel
theorem eX10_positionOf_158 : decode cX10_positionOf 158 = .ok (.iload 7, 2) := by decide +kernel
theorem eX10_positionOf_160 : decode cX10_positionOf 160 = .ok (.istore 4, 2) := by decide +kernel
theorem eX10_positionOf_162 : decode cX10_positionOf 162 = .ok (.iload 8, 2) := by decide +kernel
theorem eX10_positionOf_164 : decode cX10_positionOf 164 = .ok (.istore 5, 2) := by decide +kernel
theorem eX10_positionOf_166 : decode cX10_positionOf 166 = .ok (.iinc 6 1, 3) := by decide +kernel
theorem eX10_positionOf_169 : decode cX10_positionOf 169 = .ok (.goto (-158), 3) := by decide +kernel
theorem eX10_positionOf_172 : decode cX10_positionOf 172 = .ok (.iload_n 3, 1) := by decide +kernel
theorem eX10_positionOf_173 : decode cX10_positionOf 173 = .ok (.ireturn, 1) := by decide +kernel
theorem eX10_ofLength_0 : decode cX10_ofLength 0 = .ok (.bipush 20, 2) := by decide +kernel
theorem eX10_ofLength_2 : decode cX10_ofLength 2 = .ok (.newarray .boolean, 2) := by decide +kernel
theorem eX10_ofLength_4 : decode cX10_ofLength 4 = .ok (.astore_n 2, 1) := by decide +kernel
theorem eX10_ofLength_5 : decode cX10_ofLength 5 = .ok (.iconst 0, 1) := by decide +kernel
theorem eX10_ofLength_6 : decode cX10_ofLength 6 = .ok (.istore_n 3, 1) := by decide +kernel
theorem eX10_ofLength_7 : decode cX10_ofLength 7 = .ok (.iload_n 3, 1) := by decide +kernel
theorem eX10_ofLength_8 : decode cX10_ofLength 8 = .ok (.aload_n 0, 1) := by decide +kernel
theorem eX10_ofLength_9 : decode cX10_ofLength 9 = .ok (.getfield 9, 3) := by decide +kernel
theorem eX10_ofLength_12 : decode cX10_ofLength 12 = .ok (.iconst 0, 1) := by decide +kernel
theorem eX10_ofLength_13 : decode cX10_ofLength 13 = .ok (.iaload, 1) := by decide +kernel
theorem eX10_ofLength_14 : decode cX10_ofLength 14 = .ok (.if_icmp .ge 29, 3) := by decide +kernel
theorem eX10_ofLength_17 : decode cX10_ofLength 17 = .ok (.aload_n 2, 1) := by decide +kernel
theorem eX10_ofLength_18 : decode cX10_ofLength 18 = .ok (.iload_n 3, 1) := by decide +kernel
theorem eX10_ofLength_19 : decode cX10_ofLength 19 = .ok (.aload_n 0, 1) := by decide +kernel
theorem eX10_ofLength_20 : decode cX10_ofLength 20 = .ok (.getfield 9, 3) := by decide +kernel
theorem eX10_ofLength_23 : decode cX10_ofLength 23 = .ok (.iconst 2, 1) := by decide +kernel
theorem eX10_ofLength_24 : decode cX10_ofLength 24 = .ok (.iload_n 3, 1) := by decide +kernel
theorem eX10_ofLength_25 : decode cX10_ofLength 25 = .ok (.iadd, 1) := by decide +kernel
theorem eX10_ofLength_26 : decode cX10_ofLength 26 = .ok (.iaload, 1) := by decide +kernel
theorem eX10_ofLength_27 : decode cX10_ofLength 27 = .ok (.iload_n 1, 1) := by decide +kernel
theorem eX10_ofLength_28 : decode cX10_ofLength 28 = .ok (.if_icmp .ne 7, 3) := by decide +kernel
theorem eX10_ofLength_31 : decode cX10_ofLength 31 = .ok (.iconst 1, 1) := by decide +kernel
theorem eX10_ofLength_32 : decode cX10_ofLength 32 = .ok (.goto 4, 3) := by decide +kernel
theorem eX10_ofLength_35 : decode cX10_ofLength 35 = .ok (.iconst 0, 1) := by decide +kernel
theorem eX10_ofLength_36 : decode cX10_ofLength 36 = .ok (.bastore, 1) := by decide +kernel
theorem eX10_ofLength_37 : decode cX10_ofLength 37 = .ok (.iinc 3 1, 3) := by decide +kernel
theorem eX10_ofLength_40 : decode cX10_ofLength 40 = .ok (.goto (-33), 3) := by decide +kernel
theorem eX10_ofLength_43 : decode cX10_ofLength 43 = .ok (.aload_n 2, 1) := by decide +kernel
theorem eX10_ofLength_44 : decode cX10_ofLength 44 = .ok (.areturn, 1) := by decide +kernel
theorem eX10_child_0 : decode cX10_child 0 = .ok (.bipush 20, 2) := by decide +kernel
theorem eX10_child_2 : decode cX10_child 2 = .ok (.newarray .boolean, 2) := by decide +kernel
theorem eX10_child_4 : decode cX10_child 4 = .ok (.astore 4, 2) := by decide +kernel
theorem eX10_child_6 : decode cX10_child 6 = .ok (.iconst 0, 1) := by decide +kernel
theorem eX10_child_7 : decode cX10_child 7 = .ok (.istore 5, 2) := by decide +kernel
theorem eX10_child_9 : decode cX10_child 9 = .ok (.iload 5, 2) := by decide +kernel
theorem eX10_child_11 : decode cX10_child 11 = .ok (.aload_n 0, 1) := by decide +kernel
theorem eX10_child_12 : decode cX10_child 12 = .ok (.getfield 9, 3) := by decide +kernel
theorem eX10_child_15 : decode cX10_child 15 = .ok (.iconst 0, 1) := by decide +kernel
theorem eX10_child_16 : decode cX10_child 16 = .ok (.iaload, 1) := by decide +kernel
theorem eX10_child_17 : decode cX10_child 17 = .ok (.if_icmp .ge 37, 3) := by decide +kernel
theorem eX10_child_20 : decode cX10_child 20 = .ok (.aload 4, 2) := by decide +kernel
theorem eX10_child_22 : decode cX10_child 22 = .ok (.iload 5, 2) := by decide +kernel
theorem eX10_child_24 : decode cX10_child 24 = .ok (.aload_n 1, 1) := by decide +kernel
theorem eX10_child_25 : decode cX10_child 25 = .ok (.iload 5, 2) := by decide +kernel
theorem eX10_child_27 : decode cX10_child 27 = .ok (.baload, 1) := by decide +kernel
theorem eX10_child_28 : decode cX10_child 28 = .ok (.ifCond .eq 18, 3) := by decide +kernel
theorem eX10_child_31 : decode cX10_child 31 = .ok (.aload_n 0, 1) := by decide +kernel
theorem eX10_child_32 : decode cX10_child 32 = .ok (.iload 5, 2) := by decide +kernel
theorem eX10_child_34 : decode cX10_child 34 = .ok (.iload_n 2, 1) := by decide +kernel
theorem eX10_child_35 : decode cX10_child 35 = .ok (.invokevirtual 84, 3) := by decide +kernel
theorem eX10_child_38 : decode cX10_child 38 = .ok (.iload_n 3, 1) := by decide +kernel
theorem eX10_child_39 : decode cX10_child 39 = .ok (.if_icmp .ne 7, 3) := by decide +kernel
theorem eX10_child_42 : decode cX10_child 42 = .ok (.iconst 1, 1) := by decide +kernel
theorem eX10_child_43 : decode cX10_child 43 = .ok (.goto 4, 3) := by decide +kernel
theorem eX10_child_46 : decode cX10_child 46 = .ok (.iconst 0, 1) := by decide +kernel
theorem eX10_child_47 : decode cX10_child 47 = .ok (.bastore, 1) := by decide +kernel
theorem eX10_child_48 : decode cX10_child 48 = .ok (.iinc 5 1, 3) := by decide +kernel
theorem eX10_child_51 : decode cX10_child 51 = .ok (.goto (-42), 3) := by decide +kernel
theorem eX10_child_54 : decode cX10_child 54 = .ok (.aload 4, 2) := by decide +kernel
theorem eX10_child_56 : decode cX10_child 56 = .ok (.areturn, 1) := by decide +kernel
theorem eX10_measure_0 : decode cX10_measure 0 = .ok (.aload_n 0, 1) := by decide +kernel
theorem eX10_measure_1 : decode cX10_measure 1 = .ok (.aload_n 1, 1) := by decide +kernel
theorem eX10_measure_2 : decode cX10_measure 2 = .ok (.invokevirtual 227, 3) := by decide +kernel
theorem eX10_measure_5 : decode cX10_measure 5 = .ok (.iconst 1, 1) := by decide +kernel
theorem eX10_measure_6 : decode cX10_measure 6 = .ok (.if_icmp .ne 26, 3) := by decide +kernel
theorem eX10_measure_9 : decode cX10_measure 9 = .ok (.aload_n 0, 1) := by decide +kernel
theorem eX10_measure_10 : decode cX10_measure 10 = .ok (.dup, 1) := by decide +kernel
theorem eX10_measure_11 : decode cX10_measure 11 = .ok (.getfield 242, 3) := by decide +kernel
theorem eX10_measure_14 : decode cX10_measure 14 = .ok (.iconst 1, 1) := by decide +kernel
theorem eX10_measure_15 : decode cX10_measure 15 = .ok (.iadd, 1) := by decide +kernel
theorem eX10_measure_16 : decode cX10_measure 16 = .ok (.putfield 242, 3) := by decide +kernel
theorem eX10_measure_19 : decode cX10_measure 19 = .ok (.aload_n 0, 1) := by decide +kernel
theorem eX10_measure_20 : decode cX10_measure 20 = .ok (.aload_n 0, 1) := by decide +kernel
theorem eX10_measure_21 : decode cX10_measure 21 = .ok (.getfield 245, 3) := by decide +kernel
theorem eX10_measure_24 : decode cX10_measure 24 = .ok (.iload_n 3, 1) := by decide +kernel
theorem eX10_measure_25 : decode cX10_measure 25 = .ok (.invokestatic 220, 3) := by decide +kernel
theorem eX10_measure_28 : decode cX10_measure 28 = .ok (.putfield 245, 3) := by decide +kernel
theorem eX10_measure_31 : decode cX10_measure 31 = .ok (.return_, 1) := by decide +kernel
theorem eX10_measure_32 : decode cX10_measure 32 = .ok (.aload_n 0, 1) := by decide +kernel
theorem eX10_measure_33 : decode cX10_measure 33 = .ok (.dup, 1) := by decide +kernel
theorem eX10_measure_34 : decode cX10_measure 34 = .ok (.getfield 248, 3) := by decide +kernel
theorem eX10_measure_37 : decode cX10_measure 37 = .ok (.iconst 1, 1) := by decide +kernel
theorem eX10_measure_38 : decode cX10_measure 38 = .ok (.iadd, 1) := by decide +kernel
theorem eX10_measure_39 : decode cX10_measure 39 = .ok (.putfield 248, 3) := by decide +kernel
theorem eX10_measure_42 : decode cX10_measure 42 = .ok (.aload_n 0, 1) := by decide +kernel
theorem eX10_measure_43 : decode cX10_measure 43 = .ok (.aload_n 1, 1) := by decide +kernel
theorem eX10_measure_44 : decode cX10_measure 44 = .ok (.iload_n 2, 1) := by decide +kernel
theorem eX10_measure_45 : decode cX10_measure 45 = .ok (.invokevirtual 231, 3) := by decide +kernel
theorem eX10_measure_48 : decode cX10_measure 48 = .ok (.istore 4, 2) := by decide +kernel
theorem eX10_measure_50 : decode cX10_measure 50 = .ok (.bipush 48, 2) := by decide +kernel
theorem eX10_measure_52 : decode cX10_measure 52 = .ok (.istore 5, 2) := by decide +kernel
theorem eX10_measure_54 : decode cX10_measure 54 = .ok (.iload 5, 2) := by decide +kernel
theorem eX10_measure_56 : decode cX10_measure 56 = .ok (.bipush 122, 2) := by decide +kernel
theorem eX10_measure_58 : decode cX10_measure 58 = .ok (.if_icmp .gt 39, 3) := by decide +kernel
theorem eX10_measure_61 : decode cX10_measure 61 = .ok (.aload_n 0, 1) := by decide +kernel
theorem eX10_measure_62 : decode cX10_measure 62 = .ok (.aload_n 1, 1) := by decide +kernel
theorem eX10_measure_63 : decode cX10_measure 63 = .ok (.iload 4, 2) := by decide +kernel
theorem eX10_measure_65 : decode cX10_measure 65 = .ok (.iload 5, 2) := by decide +kernel
theorem eX10_measure_67 : decode cX10_measure 67 = .ok (.invokevirtual 235, 3) := by decide +kernel
theorem eX10_measure_70 : decode cX10_measure 70 = .ok (.astore 6, 2) := by decide +kernel
theorem eX10_measure_72 : decode cX10_measure 72 = .ok (.aload_n 0, 1) := by decide +kernel
theorem eX10_measure_73 : decode cX10_measure 73 = .ok (.aload 6, 2) := by decide +kernel
theorem eX10_measure_75 : decode cX10_measure 75 = .ok (.invokevirtual 227, 3) := by decide +kernel
theorem eX10_measure_78 : decode cX10_measure 78 = .ok (.ifCond .le 13, 3) := by decide +kernel
theorem eX10_measure_81 : decode cX10_measure 81 = .ok (.aload_n 0, 1) := by decide +kernel
theorem eX10_measure_82 : decode cX10_measure 82 = .ok (.aload 6, 2) := by decide +kernel
theorem eX10_measure_84 : decode cX10_measure 84 = .ok (.iload_n 2, 1) := by decide +kernel
theorem eX10_measure_85 : decode cX10_measure 85 = .ok (.iload_n 3, 1) := by decide +kernel
theorem eX10_measure_86 : decode cX10_measure 86 = .ok (.iconst 1, 1) := by decide +kernel
theorem eX10_measure_87 : decode cX10_measure 87 = .ok (.iadd, 1) := by decide +kernel
theorem eX10_measure_88 : decode cX10_measure 88 = .ok (.invokevirtual 251, 3) := by decide +kernel
theorem eX10_measure_91 : decode cX10_measure 91 = .ok (.iinc 5 1, 3) := by decide +kernel
theorem eX10_measure_94 : decode cX10_measure 94 = .ok (.goto (-40), 3) := by decide +kernel
theorem eX10_measure_97 : decode cX10_measure 97 = .ok (.return_, 1) := by decide +kernel
theorem eX10_trees_0 : decode cX10_trees 0 = .ok (.aload_n 0, 1) := by decide +kernel
theorem eX10_trees_1 : decode cX10_trees 1 = .ok (.iload_n 1, 1) := by decide +kernel
theorem eX10_trees_2 : decode cX10_trees 2 = .ok (.i2l, 1) := by decide +kernel
theorem eX10_trees_3 : decode cX10_trees 3 = .ok (.lconst 0, 1) := by decide +kernel
theorem eX10_trees_4 : decode cX10_trees 4 = .ok (.ldc2_w 255, 3) := by decide +kernel
theorem eX10_trees_7 : decode cX10_trees 7 = .ok (.invokestatic 65, 3) := by decide +kernel
theorem eX10_trees_10 : decode cX10_trees 10 = .ok (.ifCond .eq 7, 3) := by decide +kernel
theorem eX10_trees_13 : decode cX10_trees 13 = .ok (.iconst 0, 1) := by decide +kernel
theorem eX10_trees_14 : decode cX10_trees 14 = .ok (.goto 4, 3) := by decide +kernel
theorem eX10_trees_18 : decode cX10_trees 18 = .ok (.putfield 62, 3) := by decide +kernel
theorem eX10_trees_21 : decode cX10_trees 21 = .ok (.aload_n 0, 1) := by decide +kernel
theorem eX10_trees_22 : decode cX10_trees 22 = .ok (.getfield 62, 3) := by decide +kernel
theorem eX10_trees_25 : decode cX10_trees 25 = .ok (.ifCond .le 5, 3) := by decide +kernel
theorem eX10_trees_30 : decode cX10_trees 30 = .ok (.aload_n 0, 1) := by decide +kernel
theorem eX10_trees_31 : decode cX10_trees 31 = .ok (.iconst 0, 1) := by decide +kernel
theorem eX10_trees_32 : decode cX10_trees 32 = .ok (.putfield 257, 3) := by decide +kernel
theorem eX10_trees_35 : decode cX10_trees 35 = .ok (.aload_n 0, 1) := by decide +kernel
theorem eX10_trees_36 : decode cX10_trees 36 = .ok (.iconst 0, 1) := by decide +kernel
theorem eX10_trees_37 : decode cX10_trees 37 = .ok (.putfield 248, 3) := by decide +kernel
theorem eX10_trees_40 : decode cX10_trees 40 = .ok (.aload_n 0, 1) := by decide +kernel
theorem eX10_trees_41 : decode cX10_trees 41 = .ok (.iconst 0, 1) := by decide +kernel
theorem eX10_trees_42 : decode cX10_trees 42 = .ok (.putfield 242, 3) := by decide +kernel
theorem eX10_trees_45 : decode cX10_trees 45 = .ok (.aload_n 0, 1) := by decide +kernel
theorem eX10_trees_46 : decode cX10_trees 46 = .ok (.iconst 0, 1) := by decide +kernel
theorem eX10_trees_47 : decode cX10_trees 47 = .ok (.putfield 245, 3) := by decide +kernel
theorem eX10_trees_50 : decode cX10_trees 50 = .ok (.iconst 1, 1) := by decide +kernel
theorem eX10_trees_51 : decode cX10_trees 51 = .ok (.istore_n 2, 1) := by decide +kernel
theorem eX10_trees_52 : decode cX10_trees 52 = .ok (.iload_n 2, 1) := by decide +kernel
theorem eX10_trees_53 : decode cX10_trees 53 = .ok (.bipush 8, 2) := by decide +kernel
theorem eX10_trees_55 : decode cX10_trees 55 = .ok (.if_icmp .gt 40, 3) := by decide +kernel
theorem eX10_trees_58 : decode cX10_trees 58 = .ok (.aload_n 0, 1) := by decide +kernel
theorem eX10_trees_59 : decode cX10_trees 59 = .ok (.iload_n 2, 1) := by decide +kernel
theorem eX10_trees_60 : decode cX10_trees 60 = .ok (.invokevirtual 223, 3) := by decide +kernel
theorem eX10_trees_63 : decode cX10_trees 63 = .ok (.astore_n 3, 1) := by decide +kernel
theorem eX10_trees_64 : decode cX10_trees 64 = .ok (.aload_n 0, 1) := by decide +kernel
theorem eX10_trees_65 : decode cX10_trees 65 = .ok (.aload_n 3, 1) := by decide +kernel
theorem eX10_trees_66 : decode cX10_trees 66 = .ok (.invokevirtual 227, 3) := by decide +kernel
theorem eX10_trees_69 : decode cX10_trees 69 = .ok (.ifCond .le 20, 3) := by decide +kernel
theorem eX10_trees_72 : decode cX10_trees 72 = .ok (.aload_n 0, 1) := by decide +kernel
theorem eX10_trees_73 : decode cX10_trees 73 = .ok (.dup, 1) := by decide +kernel
theorem eX10_trees_74 : decode cX10_trees 74 = .ok (.getfield 257, 3) := by decide +kernel
theorem eX10_trees_77 : decode cX10_trees 77 = .ok (.iconst 1, 1) := by decide +kernel
theorem eX10_trees_78 : decode cX10_trees 78 = .ok (.iadd, 1) := by decide +kernel
theorem eX10_trees_79 : decode cX10_trees 79 = .ok (.putfield 257, 3) := by decide +kernel
theorem eX10_trees_82 : decode cX10_trees 82 = .ok (.aload_n 0, 1) := by decide +kernel
theorem eX10_trees_83 : decode cX10_trees 83 = .ok (.aload_n 3, 1) := by decide +kernel
theorem eX10_trees_84 : decode cX10_trees 84 = .ok (.iload_n 2, 1) := by decide +kernel
theorem eX10_trees_85 : decode cX10_trees 85 = .ok (.iconst 0, 1) := by decide +kernel
theorem eX10_trees_86 : decode cX10_trees 86 = .ok (.invokevirtual 251, 3) := by decide +kernel
theorem eX10_trees_89 : decode cX10_trees 89 = .ok (.iinc 2 1, 3) := by decide +kernel
theorem eX10_trees_92 : decode cX10_trees 92 = .ok (.goto (-40), 3) := by decide +kernel
theorem eX10_trees_95 : decode cX10_trees 95 = .ok (.iload_n 1, 1) := by decide +kernel
theorem eX10_trees_96 : decode cX10_trees 96 = .ok (.ifCond .ne 10, 3) := by decide +kernel
theorem eX10_trees_99 : decode cX10_trees 99 = .ok (.aload_n 0, 1) := by decide +kernel
theorem eX10_trees_100 : decode cX10_trees 100 = .ok (.getfield 257, 3) := by decide +kernel
theorem eX10_trees_103 : decode cX10_trees 103 = .ok (.goto 31, 3) := by decide +kernel
theorem eX10_trees_134 : decode cX10_trees 134 = .ok (.ireturn, 1) := by decide +kernel
theorem eX0_init_0 : decode cX0_init 0 = .ok (.aload_n 0, 1) := by decide +kernel
