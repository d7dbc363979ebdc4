/-! DECODED, 2: made by wip/engine/gen21.py -/
theorem eX10_setLoad_48 : decode cX10_setLoad 48 = .ok (.putfield 103, 3) := by decide +kernel
theorem eX10_setLoad_51 : decode cX10_setLoad 51 = .ok (.iload_n 2, 1) := by decide +kernel
theorem eX10_setLoad_52 : decode cX10_setLoad 52 = .ok (.ireturn, 1) := by decide +kernel
theorem eX10_here_0 : decode cX10_here 0 = .ok (.aload_n 0, 1) := by decide +kernel
theorem eX10_here_1 : decode cX10_here 1 = .ok (.getfield 120, 3) := by decide +kernel
theorem eX10_here_4 : decode cX10_here 4 = .ok (.aload_n 0, 1) := by decide +kernel
theorem eX10_here_5 : decode cX10_here 5 = .ok (.getfield 81, 3) := by decide +kernel
theorem eX10_here_8 : decode cX10_here 8 = .ok (.if_icmp .ge 15, 3) := by decide +kernel
theorem eX10_here_23 : decode cX10_here 23 = .ok (.iconst 0, 1) := by decide +kernel
theorem eX10_here_24 : decode cX10_here 24 = .ok (.ireturn, 1) := by decide +kernel
theorem eX10_isWord_0 : decode cX10_isWord 0 = .ok (.aload_n 0, 1) := by decide +kernel
theorem eX10_isWord_1 : decode cX10_isWord 1 = .ok (.getfield 120, 3) := by decide +kernel
theorem eX10_isWord_4 : decode cX10_isWord 4 = .ok (.iload_n 1, 1) := by decide +kernel
theorem eX10_isWord_5 : decode cX10_isWord 5 = .ok (.isub, 1) := by decide +kernel
theorem eX10_isWord_6 : decode cX10_isWord 6 = .ok (.aload_n 2, 1) := by decide +kernel
theorem eX10_isWord_7 : decode cX10_isWord 7 = .ok (.invokevirtual 130, 3) := by decide +kernel
theorem eX10_isWord_10 : decode cX10_isWord 10 = .ok (.if_icmp .ne 7, 3) := by decide +kernel
theorem eX10_isWord_17 : decode cX10_isWord 17 = .ok (.iconst 0, 1) := by decide +kernel
theorem eX10_isWord_18 : decode cX10_isWord 18 = .ok (.istore_n 3, 1) := by decide +kernel
theorem eX10_isWord_19 : decode cX10_isWord 19 = .ok (.iconst 0, 1) := by decide +kernel
theorem eX10_isWord_20 : decode cX10_isWord 20 = .ok (.istore 4, 2) := by decide +kernel
theorem eX10_isWord_22 : decode cX10_isWord 22 = .ok (.iload 4, 2) := by decide +kernel
theorem eX10_isWord_24 : decode cX10_isWord 24 = .ok (.aload_n 2, 1) := by decide +kernel
theorem eX10_isWord_25 : decode cX10_isWord 25 = .ok (.invokevirtual 130, 3) := by decide +kernel
theorem eX10_isWord_28 : decode cX10_isWord 28 = .ok (.if_icmp .ge 37, 3) := by decide +kernel
theorem eX10_isWord_31 : decode cX10_isWord 31 = .ok (.iload_n 3, 1) := by decide +kernel
theorem eX10_isWord_32 : decode cX10_isWord 32 = .ok (.ifCond .eq 33, 3) := by decide +kernel
theorem eX10_isWord_65 : decode cX10_isWord 65 = .ok (.iload_n 3, 1) := by decide +kernel
theorem eX10_isWord_66 : decode cX10_isWord 66 = .ok (.ireturn, 1) := by decide +kernel
theorem eX10_word_0 : decode cX10_word 0 = .ok (.aload_n 0, 1) := by decide +kernel
theorem eX10_word_1 : decode cX10_word 1 = .ok (.getfield 120, 3) := by decide +kernel
theorem eX10_word_4 : decode cX10_word 4 = .ok (.istore_n 1, 1) := by decide +kernel
theorem eX10_word_5 : decode cX10_word 5 = .ok (.aload_n 0, 1) := by decide +kernel
theorem eX10_word_6 : decode cX10_word 6 = .ok (.invokevirtual 126, 3) := by decide +kernel
theorem eX10_word_9 : decode cX10_word 9 = .ok (.i2l, 1) := by decide +kernel
theorem eX10_word_10 : decode cX10_word 10 = .ok (.ldc2_w 69, 3) := by decide +kernel
theorem eX10_word_13 : decode cX10_word 13 = .ok (.ldc2_w 71, 3) := by decide +kernel
theorem eX10_word_16 : decode cX10_word 16 = .ok (.invokestatic 65, 3) := by decide +kernel
theorem eX10_word_19 : decode cX10_word 19 = .ok (.ifCond .eq 16, 3) := by decide +kernel
theorem eX10_word_35 : decode cX10_word 35 = .ok (.aload_n 0, 1) := by decide +kernel
theorem eX10_word_36 : decode cX10_word 36 = .ok (.iload_n 1, 1) := by decide +kernel
theorem eX10_word_37 : decode cX10_word 37 = .ok (.ldc 138, 2) := by decide +kernel
theorem eX10_word_39 : decode cX10_word 39 = .ok (.invokevirtual 140, 3) := by decide +kernel
theorem eX10_word_42 : decode cX10_word 42 = .ok (.ifCond .eq 7, 3) := by decide +kernel
theorem eX10_word_49 : decode cX10_word 49 = .ok (.aload_n 0, 1) := by decide +kernel
theorem eX10_word_50 : decode cX10_word 50 = .ok (.iload_n 1, 1) := by decide +kernel
theorem eX10_word_51 : decode cX10_word 51 = .ok (.ldc 144, 2) := by decide +kernel
theorem eX10_word_53 : decode cX10_word 53 = .ok (.invokevirtual 140, 3) := by decide +kernel
theorem eX10_word_56 : decode cX10_word 56 = .ok (.ifCond .eq 7, 3) := by decide +kernel
theorem eX10_word_63 : decode cX10_word 63 = .ok (.aload_n 0, 1) := by decide +kernel
theorem eX10_word_64 : decode cX10_word 64 = .ok (.iload_n 1, 1) := by decide +kernel
theorem eX10_word_65 : decode cX10_word 65 = .ok (.ldc 146, 2) := by decide +kernel
theorem eX10_word_67 : decode cX10_word 67 = .ok (.invokevirtual 140, 3) := by decide +kernel
theorem eX10_word_70 : decode cX10_word 70 = .ok (.ifCond .eq 7, 3) := by decide +kernel
theorem eX10_word_77 : decode cX10_word 77 = .ok (.aload_n 0, 1) := by decide +kernel
theorem eX10_word_78 : decode cX10_word 78 = .ok (.iload_n 1, 1) := by decide +kernel
theorem eX10_word_79 : decode cX10_word 79 = .ok (.ldc 148, 2) := by decide +kernel
theorem eX10_word_81 : decode cX10_word 81 = .ok (.invokevirtual 140, 3) := by decide +kernel
theorem eX10_word_84 : decode cX10_word 84 = .ok (.ifCond .eq 7, 3) := by decide +kernel
theorem eX10_word_91 : decode cX10_word 91 = .ok (.iconst (-1), 1) := by decide +kernel
theorem eX10_word_92 : decode cX10_word 92 = .ok (.istore_n 2, 1) := by decide +kernel
theorem eX10_word_93 : decode cX10_word 93 = .ok (.iload_n 2, 1) := by decide +kernel
theorem eX10_word_94 : decode cX10_word 94 = .ok (.ifCond .ge 13, 3) := by decide +kernel
theorem eX10_word_97 : decode cX10_word 97 = .ok (.aload_n 0, 1) := by decide +kernel
theorem eX10_word_98 : decode cX10_word 98 = .ok (.iconst 1, 1) := by decide +kernel
theorem eX10_word_99 : decode cX10_word 99 = .ok (.putfield 123, 3) := by decide +kernel
theorem eX10_word_102 : decode cX10_word 102 = .ok (.aload_n 0, 1) := by decide +kernel
theorem eX10_word_103 : decode cX10_word 103 = .ok (.iload_n 1, 1) := by decide +kernel
theorem eX10_word_104 : decode cX10_word 104 = .ok (.putfield 120, 3) := by decide +kernel
theorem eX10_word_107 : decode cX10_word 107 = .ok (.iload_n 2, 1) := by decide +kernel
theorem eX10_word_108 : decode cX10_word 108 = .ok (.ireturn, 1) := by decide +kernel
theorem eX10_readCommand_0 : decode cX10_readCommand 0 = .ok (.aload_n 0, 1) := by decide +kernel
theorem eX10_readCommand_1 : decode cX10_readCommand 1 = .ok (.getfield 23, 3) := by decide +kernel
theorem eX10_readCommand_4 : decode cX10_readCommand 4 = .ok (.aload_n 0, 1) := by decide +kernel
theorem eX10_readCommand_5 : decode cX10_readCommand 5 = .ok (.getfield 150, 3) := by decide +kernel
theorem eX10_readCommand_8 : decode cX10_readCommand 8 = .ok (.aload_n 0, 1) := by decide +kernel
theorem eX10_readCommand_9 : decode cX10_readCommand 9 = .ok (.getfield 120, 3) := by decide +kernel
theorem eX10_readCommand_12 : decode cX10_readCommand 12 = .ok (.iastore, 1) := by decide +kernel
theorem eX10_readCommand_13 : decode cX10_readCommand 13 = .ok (.aload_n 0, 1) := by decide +kernel
theorem eX10_readCommand_14 : decode cX10_readCommand 14 = .ok (.getfield 26, 3) := by decide +kernel
theorem eX10_readCommand_17 : decode cX10_readCommand 17 = .ok (.aload_n 0, 1) := by decide +kernel
theorem eX10_readCommand_18 : decode cX10_readCommand 18 = .ok (.getfield 150, 3) := by decide +kernel
theorem eX10_readCommand_21 : decode cX10_readCommand 21 = .ok (.aload_n 0, 1) := by decide +kernel
theorem eX10_readCommand_22 : decode cX10_readCommand 22 = .ok (.invokevirtual 155, 3) := by decide +kernel
theorem eX10_readCommand_25 : decode cX10_readCommand 25 = .ok (.iastore, 1) := by decide +kernel
theorem eX10_readCommand_26 : decode cX10_readCommand 26 = .ok (.aload_n 0, 1) := by decide +kernel
theorem eX10_readCommand_27 : decode cX10_readCommand 27 = .ok (.getfield 123, 3) := by decide +kernel
theorem eX10_readCommand_30 : decode cX10_readCommand 30 = .ok (.ifCond .eq 4, 3) := by decide +kernel
theorem eX10_readCommand_33 : decode cX10_readCommand 33 = .ok (.return_, 1) := by decide +kernel
theorem eX10_execute_0 : decode cX10_execute 0 = .ok (.aload_n 0, 1) := by decide +kernel
theorem eX10_execute_1 : decode cX10_execute 1 = .ok (.iconst 0, 1) := by decide +kernel
theorem eX10_execute_2 : decode cX10_execute 2 = .ok (.putfield 120, 3) := by decide +kernel
theorem eX10_execute_5 : decode cX10_execute 5 = .ok (.aload_n 0, 1) := by decide +kernel
theorem eX10_execute_6 : decode cX10_execute 6 = .ok (.iconst 0, 1) := by decide +kernel
theorem eX10_execute_7 : decode cX10_execute 7 = .ok (.putfield 123, 3) := by decide +kernel
theorem eX10_execute_10 : decode cX10_execute 10 = .ok (.aload_n 0, 1) := by decide +kernel
theorem eX10_execute_11 : decode cX10_execute 11 = .ok (.iconst 0, 1) := by decide +kernel
theorem eX10_execute_12 : decode cX10_execute 12 = .ok (.putfield 150, 3) := by decide +kernel
theorem eX10_execute_15 : decode cX10_execute 15 = .ok (.iconst 1, 1) := by decide +kernel
theorem eX10_execute_16 : decode cX10_execute 16 = .ok (.istore_n 1, 1) := by decide +kernel
theorem eX10_execute_17 : decode cX10_execute 17 = .ok (.iload_n 1, 1) := by decide +kernel
theorem eX10_execute_18 : decode cX10_execute 18 = .ok (.ifCond .eq 56, 3) := by decide +kernel
theorem eX10_execute_21 : decode cX10_execute 21 = .ok (.aload_n 0, 1) := by decide +kernel
theorem eX10_execute_22 : decode cX10_execute 22 = .ok (.invokevirtual 170, 3) := by decide +kernel
theorem eX10_execute_25 : decode cX10_execute 25 = .ok (.aload_n 0, 1) := by decide +kernel
theorem eX10_execute_26 : decode cX10_execute 26 = .ok (.getfield 123, 3) := by decide +kernel
theorem eX10_execute_29 : decode cX10_execute 29 = .ok (.ifCond .ne 23, 3) := by decide +kernel
theorem eX10_execute_52 : decode cX10_execute 52 = .ok (.iconst 0, 1) := by decide +kernel
theorem eX10_execute_53 : decode cX10_execute 53 = .ok (.istore_n 1, 1) := by decide +kernel
theorem eX10_execute_54 : decode cX10_execute 54 = .ok (.iload_n 1, 1) := by decide +kernel
theorem eX10_execute_55 : decode cX10_execute 55 = .ok (.ifCond .eq 14, 3) := by decide +kernel
theorem eX10_execute_69 : decode cX10_execute 69 = .ok (.iconst 0, 1) := by decide +kernel
theorem eX10_execute_70 : decode cX10_execute 70 = .ok (.istore_n 1, 1) := by decide +kernel
theorem eX10_execute_71 : decode cX10_execute 71 = .ok (.goto (-54), 3) := by decide +kernel
theorem eX10_execute_74 : decode cX10_execute 74 = .ok (.aload_n 0, 1) := by decide +kernel
theorem eX10_execute_75 : decode cX10_execute 75 = .ok (.aload_n 0, 1) := by decide +kernel
theorem eX10_execute_76 : decode cX10_execute 76 = .ok (.getfield 123, 3) := by decide +kernel
theorem eX10_execute_79 : decode cX10_execute 79 = .ok (.ifCond .eq 7, 3) := by decide +kernel
theorem eX10_execute_82 : decode cX10_execute 82 = .ok (.iconst 1, 1) := by decide +kernel
theorem eX10_execute_83 : decode cX10_execute 83 = .ok (.goto 4, 3) := by decide +kernel
theorem eX10_execute_87 : decode cX10_execute 87 = .ok (.putfield 62, 3) := by decide +kernel
theorem eX10_execute_90 : decode cX10_execute 90 = .ok (.aload_n 0, 1) := by decide +kernel
theorem eX10_execute_91 : decode cX10_execute 91 = .ok (.aload_n 0, 1) := by decide +kernel
theorem eX10_execute_92 : decode cX10_execute 92 = .ok (.getfield 123, 3) := by decide +kernel
theorem eX10_execute_95 : decode cX10_execute 95 = .ok (.ifCond .eq 10, 3) := by decide +kernel
theorem eX10_execute_98 : decode cX10_execute 98 = .ok (.aload_n 0, 1) := by decide +kernel
theorem eX10_execute_99 : decode cX10_execute 99 = .ok (.getfield 120, 3) := by decide +kernel
theorem eX10_execute_102 : decode cX10_execute 102 = .ok (.goto 4, 3) := by decide +kernel
theorem eX10_execute_106 : decode cX10_execute 106 = .ok (.putfield 19, 3) := by decide +kernel
theorem eX10_execute_109 : decode cX10_execute 109 = .ok (.aload_n 0, 1) := by decide +kernel
theorem eX10_execute_110 : decode cX10_execute 110 = .ok (.getfield 9, 3) := by decide +kernel
theorem eX10_execute_113 : decode cX10_execute 113 = .ok (.iconst 0, 1) := by decide +kernel
theorem eX10_execute_114 : decode cX10_execute 114 = .ok (.aload_n 0, 1) := by decide +kernel
theorem eX10_execute_115 : decode cX10_execute 115 = .ok (.getfield 38, 3) := by decide +kernel
theorem eX10_execute_118 : decode cX10_execute 118 = .ok (.iconst 0, 1) := by decide +kernel
theorem eX10_execute_119 : decode cX10_execute 119 = .ok (.sipush 222, 3) := by decide +kernel
theorem eX10_execute_122 : decode cX10_execute 122 = .ok (.invokestatic 173, 3) := by decide +kernel
theorem eX10_execute_125 : decode cX10_execute 125 = .ok (.iconst 0, 1) := by decide +kernel
theorem eX10_execute_126 : decode cX10_execute 126 = .ok (.istore_n 2, 1) := by decide +kernel
theorem eX10_execute_127 : decode cX10_execute 127 = .ok (.iload_n 2, 1) := by decide +kernel
theorem eX10_execute_128 : decode cX10_execute 128 = .ok (.aload_n 0, 1) := by decide +kernel
theorem eX10_execute_129 : decode cX10_execute 129 = .ok (.getfield 150, 3) := by decide +kernel
theorem eX10_execute_132 : decode cX10_execute 132 = .ok (.if_icmp .ge 55, 3) := by decide +kernel
theorem eX10_execute_187 : decode cX10_execute 187 = .ok (.aload_n 0, 1) := by decide +kernel
theorem eX10_execute_188 : decode cX10_execute 188 = .ok (.iconst 0, 1) := by decide +kernel
theorem eX10_execute_189 : decode cX10_execute 189 = .ok (.putfield 81, 3) := by decide +kernel
theorem eX10_execute_192 : decode cX10_execute 192 = .ok (.aload_n 0, 1) := by decide +kernel
theorem eX10_execute_193 : decode cX10_execute 193 = .ok (.iconst 0, 1) := by decide +kernel
theorem eX10_execute_194 : decode cX10_execute 194 = .ok (.putfield 103, 3) := by decide +kernel
theorem eX10_execute_197 : decode cX10_execute 197 = .ok (.aload_n 0, 1) := by decide +kernel
theorem eX10_execute_198 : decode cX10_execute 198 = .ok (.getfield 62, 3) := by decide +kernel
theorem eX10_execute_201 : decode cX10_execute 201 = .ok (.ifCond .le 7, 3) := by decide +kernel
theorem eX10_execute_204 : decode cX10_execute 204 = .ok (.iconst 0, 1) := by decide +kernel
theorem eX10_execute_205 : decode cX10_execute 205 = .ok (.goto 7, 3) := by decide +kernel
theorem eX10_execute_212 : decode cX10_execute 212 = .ok (.ireturn, 1) := by decide +kernel
theorem eX10_errorPosition_0 : decode cX10_errorPosition 0 = .ok (.aload_n 0, 1) := by decide +kernel
theorem eX10_errorPosition_1 : decode cX10_errorPosition 1 = .ok (.iconst 0, 1) := by decide +kernel
theorem eX10_errorPosition_2 : decode cX10_errorPosition 2 = .ok (.putfield 62, 3) := by decide +kernel
theorem eX10_errorPosition_5 : decode cX10_errorPosition 5 = .ok (.aload_n 0, 1) := by decide +kernel
theorem eX10_errorPosition_6 : decode cX10_errorPosition 6 = .ok (.getfield 19, 3) := by decide +kernel
theorem eX10_errorPosition_9 : decode cX10_errorPosition 9 = .ok (.ireturn, 1) := by decide +kernel
theorem eX10_property_0 : decode cX10_property 0 = .ok (.aload_n 0, 1) := by decide +kernel
theorem eX10_property_1 : decode cX10_property 1 = .ok (.aload_n 0, 1) := by decide +kernel
theorem eX10_property_2 : decode cX10_property 2 = .ok (.iload_n 1, 1) := by decide +kernel
theorem eX10_property_3 : decode cX10_property 3 = .ok (.invokevirtual 107, 3) := by decide +kernel
theorem eX10_property_6 : decode cX10_property 6 = .ok (.ifCond .ne 7, 3) := by decide +kernel
theorem eX10_property_9 : decode cX10_property 9 = .ok (.iconst 1, 1) := by decide +kernel
theorem eX10_property_10 : decode cX10_property 10 = .ok (.goto 20, 3) := by decide +kernel
theorem eX10_property_30 : decode cX10_property 30 = .ok (.putfield 62, 3) := by decide +kernel
theorem eX10_property_33 : decode cX10_property 33 = .ok (.aload_n 0, 1) := by decide +kernel
theorem eX10_property_34 : decode cX10_property 34 = .ok (.getfield 62, 3) := by decide +kernel
theorem eX10_property_37 : decode cX10_property 37 = .ok (.ifCond .le 5, 3) := by decide +kernel
theorem eX10_property_40 : decode cX10_property 40 = .ok (.iconst 0, 1) := by decide +kernel
theorem eX10_property_41 : decode cX10_property 41 = .ok (.ireturn, 1) := by decide +kernel
theorem eX10_character_0 : decode cX10_character 0 = .ok (.aload_n 0, 1) := by decide +kernel
theorem eX10_character_1 : decode cX10_character 1 = .ok (.aload_n 0, 1) := by decide +kernel
theorem eX10_character_2 : decode cX10_character 2 = .ok (.iload_n 1, 1) := by decide +kernel
theorem eX10_character_3 : decode cX10_character 3 = .ok (.invokevirtual 107, 3) := by decide +kernel
theorem eX10_character_6 : decode cX10_character 6 = .ok (.ifCond .eq 27, 3) := by decide +kernel
theorem eX10_character_33 : decode cX10_character 33 = .ok (.iconst 1, 1) := by decide +kernel
theorem eX10_character_34 : decode cX10_character 34 = .ok (.putfield 62, 3) := by decide +kernel
theorem eX10_character_37 : decode cX10_character 37 = .ok (.aload_n 0, 1) := by decide +kernel
theorem eX10_character_38 : decode cX10_character 38 = .ok (.getfield 62, 3) := by decide +kernel
theorem eX10_character_41 : decode cX10_character 41 = .ok (.ifCond .le 7, 3) := by decide +kernel
theorem eX10_character_44 : decode cX10_character 44 = .ok (.iconst 0, 1) := by decide +kernel
theorem eX10_character_45 : decode cX10_character 45 = .ok (.goto 9, 3) := by decide +kernel
theorem eX10_character_54 : decode cX10_character 54 = .ok (.ireturn, 1) := by decide +kernel
theorem eX10_difference_0 : decode cX10_difference 0 = .ok (.aload_n 0, 1) := by decide +kernel
theorem eX10_difference_1 : decode cX10_difference 1 = .ok (.aload_n 0, 1) := by decide +kernel
theorem eX10_difference_2 : decode cX10_difference 2 = .ok (.iload_n 1, 1) := by decide +kernel
theorem eX10_difference_3 : decode cX10_difference 3 = .ok (.invokevirtual 107, 3) := by decide +kernel
theorem eX10_difference_6 : decode cX10_difference 6 = .ok (.ifCond .eq 11, 3) := by decide +kernel
theorem eX10_difference_17 : decode cX10_difference 17 = .ok (.iconst 1, 1) := by decide +kernel
theorem eX10_difference_18 : decode cX10_difference 18 = .ok (.goto 13, 3) := by decide +kernel
theorem eX10_difference_31 : decode cX10_difference 31 = .ok (.putfield 62, 3) := by decide +kernel
theorem eX10_difference_34 : decode cX10_difference 34 = .ok (.aload_n 0, 1) := by decide +kernel
theorem eX10_difference_35 : decode cX10_difference 35 = .ok (.getfield 62, 3) := by decide +kernel
theorem eX10_difference_38 : decode cX10_difference 38 = .ok (.ifCond .le 7, 3) := by decide +kernel
theorem eX10_difference_41 : decode cX10_difference 41 = .ok (.iconst 0, 1) := by decide +kernel
theorem eX10_difference_42 : decode cX10_difference 42 = .ok (.goto 9, 3) := by decide +kernel
theorem eX10_difference_51 : decode cX10_difference 51 = .ok (.ireturn, 1) := by decide +kernel
theorem eX10_size_0 : decode cX10_size 0 = .ok (.aload_n 0, 1) := by decide +kernel
theorem eX10_size_1 : decode cX10_size 1 = .ok (.iload_n 1, 1) := by decide +kernel
theorem eX10_size_2 : decode cX10_size 2 = .ok (.i2l, 1) := by decide +kernel
theorem eX10_size_3 : decode cX10_size 3 = .ok (.lconst 0, 1) := by decide +kernel
theorem eX10_size_4 : decode cX10_size 4 = .ok (.ldc2_w 203, 3) := by decide +kernel
theorem eX10_size_7 : decode cX10_size 7 = .ok (.invokestatic 65, 3) := by decide +kernel
theorem eX10_size_10 : decode cX10_size 10 = .ok (.ifCond .eq 7, 3) := by decide +kernel
theorem eX10_size_13 : decode cX10_size 13 = .ok (.iconst 0, 1) := by decide +kernel
theorem eX10_size_14 : decode cX10_size 14 = .ok (.goto 4, 3) := by decide +kernel
theorem eX10_size_17 : decode cX10_size 17 = .ok (.iconst 1, 1) := by decide +kernel
theorem eX10_size_18 : decode cX10_size 18 = .ok (.putfield 62, 3) := by decide +kernel
theorem eX10_size_21 : decode cX10_size 21 = .ok (.aload_n 0, 1) := by decide +kernel
theorem eX10_size_22 : decode cX10_size 22 = .ok (.getfield 62, 3) := by decide +kernel
theorem eX10_size_25 : decode cX10_size 25 = .ok (.ifCond .le 7, 3) := by decide +kernel
theorem eX10_size_28 : decode cX10_size 28 = .ok (.iconst 0, 1) := by decide +kernel
theorem eX10_size_29 : decode cX10_size 29 = .ok (.goto 21, 3) := by decide +kernel
theorem eX10_size_32 : decode cX10_size 32 = .ok (.iload_n 1, 1) := by decide +kernel
theorem eX10_size_33 : decode cX10_size 33 = .ok (.iconst 2, 1) := by decide +kernel
theorem eX10_size_34 : decode cX10_size 34 = .ok (.if_icmp .ne 10, 3) := by decide +kernel
theorem eX10_size_37 : decode cX10_size 37 = .ok (.aload_n 0, 1) := by decide +kernel
theorem eX10_size_38 : decode cX10_size 38 = .ok (.getfield 81, 3) := by decide +kernel
theorem eX10_size_41 : decode cX10_size 41 = .ok (.goto 9, 3) := by decide +kernel
theorem eX10_size_44 : decode cX10_size 44 = .ok (.aload_n 0, 1) := by decide +kernel
theorem eX10_size_45 : decode cX10_size 45 = .ok (.getfield 9, 3) := by decide +kernel
theorem eX10_size_48 : decode cX10_size 48 = .ok (.iload_n 1, 1) := by decide +kernel
theorem eX10_size_49 : decode cX10_size 49 = .ok (.iaload, 1) := by decide +kernel
theorem eX10_size_50 : decode cX10_size 50 = .ok (.ireturn, 1) := by decide +kernel
theorem eX10_takeBuffer_0 : decode cX10_takeBuffer 0 = .ok (.aload_n 0, 1) := by decide +kernel
theorem eX10_takeBuffer_1 : decode cX10_takeBuffer 1 = .ok (.getfield 16, 3) := by decide +kernel
theorem eX10_takeBuffer_4 : decode cX10_takeBuffer 4 = .ok (.iconst 0, 1) := by decide +kernel
theorem eX10_takeBuffer_5 : decode cX10_takeBuffer 5 = .ok (.aload_n 0, 1) := by decide +kernel
theorem eX10_takeBuffer_6 : decode cX10_takeBuffer 6 = .ok (.getfield 41, 3) := by decide +kernel
theorem eX10_takeBuffer_9 : decode cX10_takeBuffer 9 = .ok (.iconst 0, 1) := by decide +kernel
theorem eX10_takeBuffer_10 : decode cX10_takeBuffer 10 = .ok (.aload_n 0, 1) := by decide +kernel
theorem eX10_takeBuffer_11 : decode cX10_takeBuffer 11 = .ok (.getfield 81, 3) := by decide +kernel
theorem eX10_takeBuffer_14 : decode cX10_takeBuffer 14 = .ok (.invokestatic 173, 3) := by decide +kernel
theorem eX10_takeBuffer_17 : decode cX10_takeBuffer 17 = .ok (.aload_n 0, 1) := by decide +kernel
theorem eX10_takeBuffer_18 : decode cX10_takeBuffer 18 = .ok (.aload_n 0, 1) := by decide +kernel
theorem eX10_takeBuffer_19 : decode cX10_takeBuffer 19 = .ok (.getfield 81, 3) := by decide +kernel
theorem eX10_takeBuffer_22 : decode cX10_takeBuffer 22 = .ok (.putfield 205, 3) := by decide +kernel
theorem eX10_takeBuffer_25 : decode cX10_takeBuffer 25 = .ok (.return_, 1) := by decide +kernel
theorem eX10_linear_0 : decode cX10_linear 0 = .ok (.iconst 0, 1) := by decide +kernel
theorem eX10_linear_1 : decode cX10_linear 1 = .ok (.istore_n 1, 1) := by decide +kernel
theorem eX10_linear_2 : decode cX10_linear 2 = .ok (.iload_n 1, 1) := by decide +kernel
theorem eX10_linear_3 : decode cX10_linear 3 = .ok (.aload_n 0, 1) := by decide +kernel
theorem eX10_linear_4 : decode cX10_linear 4 = .ok (.getfield 9, 3) := by decide +kernel
theorem eX10_linear_7 : decode cX10_linear 7 = .ok (.iconst 0, 1) := by decide +kernel
theorem eX10_linear_8 : decode cX10_linear 8 = .ok (.iaload, 1) := by decide +kernel
theorem eX10_linear_9 : decode cX10_linear 9 = .ok (.if_icmp .ge 19, 3) := by decide +kernel
theorem eX10_linear_28 : decode cX10_linear 28 = .ok (.iconst (-1), 1) := by decide +kernel
theorem eX10_linear_29 : decode cX10_linear 29 = .ok (.ireturn, 1) := by decide +kernel
theorem eX10_search_0 : decode cX10_search 0 = .ok (.iconst 0, 1) := by decide +kernel
theorem eX10_search_1 : decode cX10_search 1 = .ok (.istore_n 1, 1) := by decide +kernel
theorem eX10_search_2 : decode cX10_search 2 = .ok (.aload_n 0, 1) := by decide +kernel
theorem eX10_search_3 : decode cX10_search 3 = .ok (.getfield 9, 3) := by decide +kernel
theorem eX10_search_6 : decode cX10_search 6 = .ok (.iconst 0, 1) := by decide +kernel
theorem eX10_search_7 : decode cX10_search 7 = .ok (.iaload, 1) := by decide +kernel
theorem eX10_search_8 : decode cX10_search 8 = .ok (.iconst 1, 1) := by decide +kernel
theorem eX10_search_9 : decode cX10_search 9 = .ok (.isub, 1) := by decide +kernel
theorem eX10_search_10 : decode cX10_search 10 = .ok (.istore_n 2, 1) := by decide +kernel
theorem eX10_search_11 : decode cX10_search 11 = .ok (.iload_n 1, 1) := by decide +kernel
theorem eX10_search_12 : decode cX10_search 12 = .ok (.iload_n 2, 1) := by decide +kernel
theorem eX10_search_13 : decode cX10_search 13 = .ok (.if_icmp .gt 51, 3) := by decide +kernel
theorem eX10_search_64 : decode cX10_search 64 = .ok (.iconst (-1), 1) := by decide +kernel
theorem eX10_search_65 : decode cX10_search 65 = .ok (.ireturn, 1) := by decide +kernel
theorem eX10_marked_0 : decode cX10_marked 0 = .ok (.iconst 0, 1) := by decide +kernel
theorem eX10_marked_1 : decode cX10_marked 1 = .ok (.istore_n 2, 1) := by decide +kernel
theorem eX10_marked_2 : decode cX10_marked 2 = .ok (.iconst 0, 1) := by decide +kernel
theorem eX10_marked_3 : decode cX10_marked 3 = .ok (.istore_n 3, 1) := by decide +kernel
theorem eX10_marked_4 : decode cX10_marked 4 = .ok (.iload_n 3, 1) := by decide +kernel
theorem eX10_marked_5 : decode cX10_marked 5 = .ok (.aload_n 0, 1) := by decide +kernel
theorem eX10_marked_6 : decode cX10_marked 6 = .ok (.getfield 9, 3) := by decide +kernel
theorem eX10_marked_9 : decode cX10_marked 9 = .ok (.iconst 0, 1) := by decide +kernel
theorem eX10_marked_10 : decode cX10_marked 10 = .ok (.iaload, 1) := by decide +kernel
theorem eX10_marked_11 : decode cX10_marked 11 = .ok (.if_icmp .ge 23, 3) := by decide +kernel
theorem eX10_marked_34 : decode cX10_marked 34 = .ok (.iload_n 2, 1) := by decide +kernel
theorem eX10_marked_35 : decode cX10_marked 35 = .ok (.ireturn, 1) := by decide +kernel
theorem eX10_ofLength_0 : decode cX10_ofLength 0 = .ok (.bipush 20, 2) := by decide +kernel
theorem eX10_ofLength_2 : decode cX10_ofLength 2 = .ok (.newarray .boolean, 2) := by decide +kernel
theorem eX10_ofLength_4 : decode cX10_ofLength 4 = .ok (.astore_n 2, 1) := by decide +kernel
theorem eX10_ofLength_5 : decode cX10_ofLength 5 = .ok (.iconst 0, 1) := by decide +kernel
theorem eX10_ofLength_6 : decode cX10_ofLength 6 = .ok (.istore_n 3, 1) := by decide +kernel
theorem eX10_ofLength_7 : decode cX10_ofLength 7 = .ok (.iload_n 3, 1) := by decide +kernel
theorem eX10_ofLength_8 : decode cX10_ofLength 8 = .ok (.aload_n 0, 1) := by decide +kernel
theorem eX10_ofLength_9 : decode cX10_ofLength 9 = .ok (.getfield 9, 3) := by decide +kernel
theorem eX10_ofLength_12 : decode cX10_ofLength 12 = .ok (.iconst 0, 1) := by decide +kernel
theorem eX10_ofLength_13 : decode cX10_ofLength 13 = .ok (.iaload, 1) := by decide +kernel
theorem eX10_ofLength_14 : decode cX10_ofLength 14 = .ok (.if_icmp .ge 29, 3) := by decide +kernel
theorem eX10_ofLength_43 : decode cX10_ofLength 43 = .ok (.aload_n 2, 1) := by decide +kernel
theorem eX10_ofLength_44 : decode cX10_ofLength 44 = .ok (.areturn, 1) := by decide +kernel
theorem eX10_climb_0 : decode cX10_climb 0 = .ok (.aload_n 0, 1) := by decide +kernel
theorem eX10_climb_1 : decode cX10_climb 1 = .ok (.aload_n 0, 1) := by decide +kernel
theorem eX10_climb_2 : decode cX10_climb 2 = .ok (.getfield 205, 3) := by decide +kernel
theorem eX10_climb_5 : decode cX10_climb 5 = .ok (.invokevirtual 223, 3) := by decide +kernel
theorem eX10_climb_8 : decode cX10_climb 8 = .ok (.astore_n 1, 1) := by decide +kernel
theorem eX10_climb_9 : decode cX10_climb 9 = .ok (.bipush 8, 2) := by decide +kernel
theorem eX10_climb_11 : decode cX10_climb 11 = .ok (.newarray .boolean, 2) := by decide +kernel
theorem eX10_climb_13 : decode cX10_climb 13 = .ok (.astore_n 2, 1) := by decide +kernel
theorem eX10_climb_14 : decode cX10_climb 14 = .ok (.aload_n 0, 1) := by decide +kernel
theorem eX10_climb_15 : decode cX10_climb 15 = .ok (.aload_n 1, 1) := by decide +kernel
theorem eX10_climb_16 : decode cX10_climb 16 = .ok (.invokevirtual 227, 3) := by decide +kernel
theorem eX10_climb_19 : decode cX10_climb 19 = .ok (.istore_n 3, 1) := by decide +kernel
theorem eX10_climb_20 : decode cX10_climb 20 = .ok (.iload_n 3, 1) := by decide +kernel
theorem eX10_climb_21 : decode cX10_climb 21 = .ok (.iconst 1, 1) := by decide +kernel
theorem eX10_climb_22 : decode cX10_climb 22 = .ok (.if_icmp .le 53, 3) := by decide +kernel
theorem eX10_climb_75 : decode cX10_climb 75 = .ok (.iload_n 3, 1) := by decide +kernel
theorem eX10_climb_76 : decode cX10_climb 76 = .ok (.ifCond .ne 5, 3) := by decide +kernel
theorem eX10_climb_79 : decode cX10_climb 79 = .ok (.iconst (-1), 1) := by decide +kernel
theorem eX10_climb_80 : decode cX10_climb 80 = .ok (.ireturn, 1) := by decide +kernel
theorem eX10_trees_0 : decode cX10_trees 0 = .ok (.aload_n 0, 1) := by decide +kernel
theorem eX10_trees_1 : decode cX10_trees 1 = .ok (.iload_n 1, 1) := by decide +kernel
theorem eX10_trees_2 : decode cX10_trees 2 = .ok (.i2l, 1) := by decide +kernel
theorem eX10_trees_3 : decode cX10_trees 3 = .ok (.lconst 0, 1) := by decide +kernel
theorem eX10_trees_4 : decode cX10_trees 4 = .ok (.ldc2_w 255, 3) := by decide +kernel
theorem eX10_trees_7 : decode cX10_trees 7 = .ok (.invokestatic 65, 3) := by decide +kernel
theorem eX10_trees_10 : decode cX10_trees 10 = .ok (.ifCond .eq 7, 3) := by decide +kernel
theorem eX10_trees_13 : decode cX10_trees 13 = .ok (.iconst 0, 1) := by decide +kernel
theorem eX10_trees_14 : decode cX10_trees 14 = .ok (.goto 4, 3) := by decide +kernel
theorem eX10_trees_17 : decode cX10_trees 17 = .ok (.iconst 1, 1) := by decide +kernel
theorem eX10_trees_18 : decode cX10_trees 18 = .ok (.putfield 62, 3) := by decide +kernel
theorem eX10_trees_21 : decode cX10_trees 21 = .ok (.aload_n 0, 1) := by decide +kernel
theorem eX10_trees_22 : decode cX10_trees 22 = .ok (.getfield 62, 3) := by decide +kernel
theorem eX10_trees_25 : decode cX10_trees 25 = .ok (.ifCond .le 5, 3) := by decide +kernel
theorem eX10_trees_28 : decode cX10_trees 28 = .ok (.iconst 0, 1) := by decide +kernel
theorem eX10_trees_29 : decode cX10_trees 29 = .ok (.ireturn, 1) := by decide +kernel
theorem eX10_trees_30 : decode cX10_trees 30 = .ok (.aload_n 0, 1) := by decide +kernel
theorem eX10_trees_31 : decode cX10_trees 31 = .ok (.iconst 0, 1) := by decide +kernel
theorem eX10_trees_32 : decode cX10_trees 32 = .ok (.putfield 257, 3) := by decide +kernel
theorem eX10_trees_35 : decode cX10_trees 35 = .ok (.aload_n 0, 1) := by decide +kernel
theorem eX10_trees_36 : decode cX10_trees 36 = .ok (.iconst 0, 1) := by decide +kernel
theorem eX10_trees_37 : decode cX10_trees 37 = .ok (.putfield 248, 3) := by decide +kernel
theorem eX10_trees_40 : decode cX10_trees 40 = .ok (.aload_n 0, 1) := by decide +kernel
theorem eX10_trees_41 : decode cX10_trees 41 = .ok (.iconst 0, 1) := by decide +kernel
theorem eX10_trees_42 : decode cX10_trees 42 = .ok (.putfield 242, 3) := by decide +kernel
theorem eX10_trees_45 : decode cX10_trees 45 = .ok (.aload_n 0, 1) := by decide +kernel
theorem eX10_trees_46 : decode cX10_trees 46 = .ok (.iconst 0, 1) := by decide +kernel
theorem eX10_trees_47 : decode cX10_trees 47 = .ok (.putfield 245, 3) := by decide +kernel
theorem eX10_trees_50 : decode cX10_trees 50 = .ok (.iconst 1, 1) := by decide +kernel
theorem eX10_trees_51 : decode cX10_trees 51 = .ok (.istore_n 2, 1) := by decide +kernel
theorem eX10_trees_52 : decode cX10_trees 52 = .ok (.iload_n 2, 1) := by decide +kernel
theorem eX10_trees_53 : decode cX10_trees 53 = .ok (.bipush 8, 2) := by decide +kernel
theorem eX10_trees_55 : decode cX10_trees 55 = .ok (.if_icmp .gt 40, 3) := by decide +kernel
theorem eX10_trees_58 : decode cX10_trees 58 = .ok (.aload_n 0, 1) := by decide +kernel
theorem eX10_trees_59 : decode cX10_trees 59 = .ok (.iload_n 2, 1) := by decide +kernel
theorem eX10_trees_60 : decode cX10_trees 60 = .ok (.invokevirtual 223, 3) := by decide +kernel
theorem eX10_trees_63 : decode cX10_trees 63 = .ok (.astore_n 3, 1) := by decide +kernel
theorem eX10_trees_64 : decode cX10_trees 64 = .ok (.aload_n 0, 1) := by decide +kernel
theorem eX10_trees_65 : decode cX10_trees 65 = .ok (.aload_n 3, 1) := by decide +kernel
theorem eX10_trees_66 : decode cX10_trees 66 = .ok (.invokevirtual 227, 3) := by decide +kernel
theorem eX10_trees_69 : decode cX10_trees 69 = .ok (.ifCond .le 20, 3) := by decide +kernel
theorem eX10_trees_89 : decode cX10_trees 89 = .ok (.iinc 2 1, 3) := by decide +kernel
theorem eX10_trees_92 : decode cX10_trees 92 = .ok (.goto (-40), 3) := by decide +kernel
theorem eX10_trees_95 : decode cX10_trees 95 = .ok (.iload_n 1, 1) := by decide +kernel
theorem eX10_trees_96 : decode cX10_trees 96 = .ok (.ifCond .ne 10, 3) := by decide +kernel
theorem eX10_trees_99 : decode cX10_trees 99 = .ok (.aload_n 0, 1) := by decide +kernel
theorem eX10_trees_100 : decode cX10_trees 100 = .ok (.getfield 257, 3) := by decide +kernel
theorem eX10_trees_103 : decode cX10_trees 103 = .ok (.goto 31, 3) := by decide +kernel
theorem eX10_trees_106 : decode cX10_trees 106 = .ok (.iload_n 1, 1) := by decide +kernel
theorem eX10_trees_107 : decode cX10_trees 107 = .ok (.iconst 1, 1) := by decide +kernel
theorem eX10_trees_108 : decode cX10_trees 108 = .ok (.if_icmp .ne 10, 3) := by decide +kernel
theorem eX10_trees_111 : decode cX10_trees 111 = .ok (.aload_n 0, 1) := by decide +kernel
theorem eX10_trees_112 : decode cX10_trees 112 = .ok (.getfield 248, 3) := by decide +kernel
theorem eX10_trees_115 : decode cX10_trees 115 = .ok (.goto 19, 3) := by decide +kernel
theorem eX10_trees_118 : decode cX10_trees 118 = .ok (.iload_n 1, 1) := by decide +kernel
theorem eX10_trees_119 : decode cX10_trees 119 = .ok (.iconst 2, 1) := by decide +kernel
theorem eX10_trees_120 : decode cX10_trees 120 = .ok (.if_icmp .ne 10, 3) := by decide +kernel
theorem eX10_trees_123 : decode cX10_trees 123 = .ok (.aload_n 0, 1) := by decide +kernel
theorem eX10_trees_124 : decode cX10_trees 124 = .ok (.getfield 242, 3) := by decide +kernel
theorem eX10_trees_127 : decode cX10_trees 127 = .ok (.goto 7, 3) := by decide +kernel
theorem eX10_trees_130 : decode cX10_trees 130 = .ok (.aload_n 0, 1) := by decide +kernel
theorem eX10_trees_131 : decode cX10_trees 131 = .ok (.getfield 245, 3) := by decide +kernel
theorem eX10_trees_134 : decode cX10_trees 134 = .ok (.ireturn, 1) := by decide +kernel
theorem eX10_separates_0 : decode cX10_separates 0 = .ok (.iconst 0, 1) := by decide +kernel
theorem eX10_separates_1 : decode cX10_separates 1 = .ok (.istore_n 2, 1) := by decide +kernel
theorem eX10_separates_2 : decode cX10_separates 2 = .ok (.iload_n 2, 1) := by decide +kernel
theorem eX10_separates_3 : decode cX10_separates 3 = .ok (.aload_n 0, 1) := by decide +kernel
theorem eX10_separates_4 : decode cX10_separates 4 = .ok (.getfield 9, 3) := by decide +kernel
theorem eX10_separates_7 : decode cX10_separates 7 = .ok (.iconst 0, 1) := by decide +kernel
theorem eX10_separates_8 : decode cX10_separates 8 = .ok (.iaload, 1) := by decide +kernel
theorem eX10_separates_9 : decode cX10_separates 9 = .ok (.if_icmp .ge 116, 3) := by decide +kernel
theorem eX10_separates_125 : decode cX10_separates 125 = .ok (.iconst 1, 1) := by decide +kernel
theorem eX10_separates_126 : decode cX10_separates 126 = .ok (.ireturn, 1) := by decide +kernel
theorem eX10_sizeOf_0 : decode cX10_sizeOf 0 = .ok (.iconst 0, 1) := by decide +kernel
theorem eX10_sizeOf_1 : decode cX10_sizeOf 1 = .ok (.istore_n 1, 1) := by decide +kernel
theorem eX10_sizeOf_2 : decode cX10_sizeOf 2 = .ok (.iconst 0, 1) := by decide +kernel
theorem eX10_sizeOf_3 : decode cX10_sizeOf 3 = .ok (.istore_n 2, 1) := by decide +kernel
theorem eX10_sizeOf_4 : decode cX10_sizeOf 4 = .ok (.iload_n 2, 1) := by decide +kernel
theorem eX10_sizeOf_5 : decode cX10_sizeOf 5 = .ok (.bipush 8, 2) := by decide +kernel
theorem eX10_sizeOf_7 : decode cX10_sizeOf 7 = .ok (.if_icmp .ge 17, 3) := by decide +kernel
theorem eX10_sizeOf_10 : decode cX10_sizeOf 10 = .ok (.iload_n 1, 1) := by decide +kernel
theorem eX10_sizeOf_11 : decode cX10_sizeOf 11 = .ok (.iload_n 0, 1) := by decide +kernel
theorem eX10_sizeOf_12 : decode cX10_sizeOf 12 = .ok (.iload_n 2, 1) := by decide +kernel
theorem eX10_sizeOf_13 : decode cX10_sizeOf 13 = .ok (.ishr, 1) := by decide +kernel
theorem eX10_sizeOf_14 : decode cX10_sizeOf 14 = .ok (.iconst 1, 1) := by decide +kernel
theorem eX10_sizeOf_15 : decode cX10_sizeOf 15 = .ok (.iand, 1) := by decide +kernel
theorem eX10_sizeOf_16 : decode cX10_sizeOf 16 = .ok (.iadd, 1) := by decide +kernel
theorem eX10_sizeOf_17 : decode cX10_sizeOf 17 = .ok (.istore_n 1, 1) := by decide +kernel
theorem eX10_sizeOf_18 : decode cX10_sizeOf 18 = .ok (.iinc 2 1, 3) := by decide +kernel
theorem eX10_sizeOf_21 : decode cX10_sizeOf 21 = .ok (.goto (-17), 3) := by decide +kernel
theorem eX10_sizeOf_24 : decode cX10_sizeOf 24 = .ok (.iload_n 1, 1) := by decide +kernel
theorem eX10_sizeOf_25 : decode cX10_sizeOf 25 = .ok (.ireturn, 1) := by decide +kernel
theorem eX10_select_0 : decode cX10_select 0 = .ok (.iconst (-1), 1) := by decide +kernel
theorem eX10_select_1 : decode cX10_select 1 = .ok (.istore_n 1, 1) := by decide +kernel
theorem eX10_select_2 : decode cX10_select 2 = .ok (.iconst 0, 1) := by decide +kernel
theorem eX10_select_3 : decode cX10_select 3 = .ok (.istore_n 2, 1) := by decide +kernel
theorem eX10_select_4 : decode cX10_select 4 = .ok (.iload_n 2, 1) := by decide +kernel
theorem eX10_select_5 : decode cX10_select 5 = .ok (.sipush 256, 3) := by decide +kernel
theorem eX10_select_8 : decode cX10_select 8 = .ok (.if_icmp .ge 63, 3) := by decide +kernel
theorem eX10_select_11 : decode cX10_select 11 = .ok (.iload_n 1, 1) := by decide +kernel
theorem eX10_select_12 : decode cX10_select 12 = .ok (.ifCond .lt 33, 3) := by decide +kernel
theorem eX10_select_15 : decode cX10_select 15 = .ok (.iload_n 2, 1) := by decide +kernel
theorem eX10_select_16 : decode cX10_select 16 = .ok (.invokestatic 260, 3) := by decide +kernel
theorem eX10_select_19 : decode cX10_select 19 = .ok (.iload_n 1, 1) := by decide +kernel
theorem eX10_select_20 : decode cX10_select 20 = .ok (.invokestatic 260, 3) := by decide +kernel
theorem eX10_select_23 : decode cX10_select 23 = .ok (.if_icmp .lt 22, 3) := by decide +kernel
theorem eX10_select_26 : decode cX10_select 26 = .ok (.iload_n 2, 1) := by decide +kernel
theorem eX10_select_27 : decode cX10_select 27 = .ok (.invokestatic 260, 3) := by decide +kernel
theorem eX10_select_30 : decode cX10_select 30 = .ok (.iload_n 1, 1) := by decide +kernel
theorem eX10_select_31 : decode cX10_select 31 = .ok (.invokestatic 260, 3) := by decide +kernel
theorem eX10_select_34 : decode cX10_select 34 = .ok (.if_icmp .ne 15, 3) := by decide +kernel
theorem eX10_select_45 : decode cX10_select 45 = .ok (.iconst 1, 1) := by decide +kernel
theorem eX10_select_46 : decode cX10_select 46 = .ok (.goto 4, 3) := by decide +kernel
theorem eX10_select_49 : decode cX10_select 49 = .ok (.iconst 0, 1) := by decide +kernel
theorem eX10_select_50 : decode cX10_select 50 = .ok (.istore_n 3, 1) := by decide +kernel
theorem eX10_select_51 : decode cX10_select 51 = .ok (.iload_n 3, 1) := by decide +kernel
theorem eX10_select_52 : decode cX10_select 52 = .ok (.ifCond .eq 13, 3) := by decide +kernel
theorem eX10_select_55 : decode cX10_select 55 = .ok (.aload_n 0, 1) := by decide +kernel
theorem eX10_select_56 : decode cX10_select 56 = .ok (.iload_n 2, 1) := by decide +kernel
theorem eX10_select_57 : decode cX10_select 57 = .ok (.invokevirtual 266, 3) := by decide +kernel
theorem eX10_select_60 : decode cX10_select 60 = .ok (.ifCond .eq 5, 3) := by decide +kernel
theorem eX10_select_63 : decode cX10_select 63 = .ok (.iload_n 2, 1) := by decide +kernel
theorem eX10_select_64 : decode cX10_select 64 = .ok (.istore_n 1, 1) := by decide +kernel
theorem eX10_select_65 : decode cX10_select 65 = .ok (.iinc 2 1, 3) := by decide +kernel
theorem eX10_select_68 : decode cX10_select 68 = .ok (.goto (-64), 3) := by decide +kernel
theorem eX10_select_71 : decode cX10_select 71 = .ok (.aload_n 0, 1) := by decide +kernel
theorem eX10_select_72 : decode cX10_select 72 = .ok (.iload_n 1, 1) := by decide +kernel
theorem eX10_select_73 : decode cX10_select 73 = .ok (.putfield 269, 3) := by decide +kernel
theorem eX10_select_76 : decode cX10_select 76 = .ok (.return_, 1) := by decide +kernel
theorem eX10_hashOfText_0 : decode cX10_hashOfText 0 = .ok (.iload_n 1, 1) := by decide +kernel
theorem eX10_hashOfText_1 : decode cX10_hashOfText 1 = .ok (.istore_n 2, 1) := by decide +kernel
theorem eX10_hashOfText_2 : decode cX10_hashOfText 2 = .ok (.iconst 0, 1) := by decide +kernel
theorem eX10_hashOfText_3 : decode cX10_hashOfText 3 = .ok (.istore_n 3, 1) := by decide +kernel
theorem eX10_hashOfText_4 : decode cX10_hashOfText 4 = .ok (.iload_n 3, 1) := by decide +kernel
theorem eX10_hashOfText_5 : decode cX10_hashOfText 5 = .ok (.bipush 8, 2) := by decide +kernel
theorem eX10_hashOfText_7 : decode cX10_hashOfText 7 = .ok (.if_icmp .ge 45, 3) := by decide +kernel
theorem eX10_hashOfText_10 : decode cX10_hashOfText 10 = .ok (.aload_n 0, 1) := by decide +kernel
theorem eX10_hashOfText_11 : decode cX10_hashOfText 11 = .ok (.getfield 269, 3) := by decide +kernel
theorem eX10_hashOfText_14 : decode cX10_hashOfText 14 = .ok (.iload_n 3, 1) := by decide +kernel
theorem eX10_hashOfText_15 : decode cX10_hashOfText 15 = .ok (.ishr, 1) := by decide +kernel
theorem eX10_hashOfText_16 : decode cX10_hashOfText 16 = .ok (.iconst 1, 1) := by decide +kernel
theorem eX10_hashOfText_17 : decode cX10_hashOfText 17 = .ok (.iand, 1) := by decide +kernel
theorem eX10_hashOfText_18 : decode cX10_hashOfText 18 = .ok (.iconst 1, 1) := by decide +kernel
theorem eX10_hashOfText_19 : decode cX10_hashOfText 19 = .ok (.if_icmp .ne 27, 3) := by decide +kernel
theorem eX10_hashOfText_46 : decode cX10_hashOfText 46 = .ok (.iinc 3 1, 3) := by decide +kernel
theorem eX10_hashOfText_49 : decode cX10_hashOfText 49 = .ok (.goto (-45), 3) := by decide +kernel
theorem eX10_hashOfText_52 : decode cX10_hashOfText 52 = .ok (.bipush 31, 2) := by decide +kernel
theorem eX10_hashOfText_54 : decode cX10_hashOfText 54 = .ok (.iload_n 2, 1) := by decide +kernel
theorem eX10_hashOfText_55 : decode cX10_hashOfText 55 = .ok (.imul, 1) := by decide +kernel
theorem eX10_hashOfText_56 : decode cX10_hashOfText 56 = .ok (.aload_n 0, 1) := by decide +kernel
theorem eX10_hashOfText_57 : decode cX10_hashOfText 57 = .ok (.getfield 205, 3) := by decide +kernel
theorem eX10_hashOfText_60 : decode cX10_hashOfText 60 = .ok (.iadd, 1) := by decide +kernel
theorem eX10_hashOfText_61 : decode cX10_hashOfText 61 = .ok (.istore_n 2, 1) := by decide +kernel
theorem eX10_hashOfText_62 : decode cX10_hashOfText 62 = .ok (.iload_n 2, 1) := by decide +kernel
theorem eX10_hashOfText_63 : decode cX10_hashOfText 63 = .ok (.iload_n 2, 1) := by decide +kernel
theorem eX10_hashOfText_64 : decode cX10_hashOfText 64 = .ok (.bipush 15, 2) := by decide +kernel
theorem eX10_hashOfText_66 : decode cX10_hashOfText 66 = .ok (.iushr, 1) := by decide +kernel
theorem eX10_hashOfText_67 : decode cX10_hashOfText 67 = .ok (.ixor, 1) := by decide +kernel
theorem eX10_hashOfText_68 : decode cX10_hashOfText 68 = .ok (.istore_n 2, 1) := by decide +kernel
theorem eX10_hashOfText_69 : decode cX10_hashOfText 69 = .ok (.iload_n 2, 1) := by decide +kernel
theorem eX10_hashOfText_70 : decode cX10_hashOfText 70 = .ok (.ldc_w 272, 3) := by decide +kernel
theorem eX10_hashOfText_73 : decode cX10_hashOfText 73 = .ok (.imul, 1) := by decide +kernel
theorem eX10_hashOfText_74 : decode cX10_hashOfText 74 = .ok (.istore_n 2, 1) := by decide +kernel
theorem eX10_hashOfText_75 : decode cX10_hashOfText 75 = .ok (.iload_n 2, 1) := by decide +kernel
theorem eX10_hashOfText_76 : decode cX10_hashOfText 76 = .ok (.iload_n 2, 1) := by decide +kernel
theorem eX10_hashOfText_77 : decode cX10_hashOfText 77 = .ok (.bipush 12, 2) := by decide +kernel
theorem eX10_hashOfText_79 : decode cX10_hashOfText 79 = .ok (.iushr, 1) := by decide +kernel
theorem eX10_hashOfText_80 : decode cX10_hashOfText 80 = .ok (.ixor, 1) := by decide +kernel
theorem eX10_hashOfText_81 : decode cX10_hashOfText 81 = .ok (.ireturn, 1) := by decide +kernel
theorem eX10_prepare_0 : decode cX10_prepare 0 = .ok (.aload_n 0, 1) := by decide +kernel
theorem eX10_prepare_1 : decode cX10_prepare 1 = .ok (.getfield 103, 3) := by decide +kernel
theorem eX10_prepare_4 : decode cX10_prepare 4 = .ok (.ifCond .eq 4, 3) := by decide +kernel
theorem eX10_prepare_7 : decode cX10_prepare 7 = .ok (.return_, 1) := by decide +kernel
theorem eX10_prepare_8 : decode cX10_prepare 8 = .ok (.aload_n 0, 1) := by decide +kernel
theorem eX10_prepare_9 : decode cX10_prepare 9 = .ok (.iconst 1, 1) := by decide +kernel
theorem eX10_prepare_10 : decode cX10_prepare 10 = .ok (.putfield 103, 3) := by decide +kernel
theorem eX10_prepare_13 : decode cX10_prepare 13 = .ok (.aload_n 0, 1) := by decide +kernel
theorem eX10_prepare_14 : decode cX10_prepare 14 = .ok (.invokevirtual 300, 3) := by decide +kernel
theorem eX10_prepare_17 : decode cX10_prepare 17 = .ok (.aload_n 0, 1) := by decide +kernel
theorem eX10_prepare_18 : decode cX10_prepare 18 = .ok (.getfield 9, 3) := by decide +kernel
theorem eX10_prepare_21 : decode cX10_prepare 21 = .ok (.iconst 0, 1) := by decide +kernel
theorem eX10_prepare_22 : decode cX10_prepare 22 = .ok (.iaload, 1) := by decide +kernel
theorem eX10_prepare_23 : decode cX10_prepare 23 = .ok (.istore_n 1, 1) := by decide +kernel
theorem eX10_prepare_24 : decode cX10_prepare 24 = .ok (.aload_n 0, 1) := by decide +kernel
theorem eX10_prepare_25 : decode cX10_prepare 25 = .ok (.bipush 100, 2) := by decide +kernel
theorem eX10_prepare_27 : decode cX10_prepare 27 = .ok (.iload_n 1, 1) := by decide +kernel
theorem eX10_prepare_28 : decode cX10_prepare 28 = .ok (.imul, 1) := by decide +kernel
theorem eX10_prepare_29 : decode cX10_prepare 29 = .ok (.aload_n 0, 1) := by decide +kernel
theorem eX10_prepare_30 : decode cX10_prepare 30 = .ok (.getfield 9, 3) := by decide +kernel
theorem eX10_prepare_33 : decode cX10_prepare 33 = .ok (.iconst 1, 1) := by decide +kernel
theorem eX10_prepare_34 : decode cX10_prepare 34 = .ok (.iaload, 1) := by decide +kernel
theorem eX10_prepare_35 : decode cX10_prepare 35 = .ok (.iadd, 1) := by decide +kernel
theorem eX10_prepare_36 : decode cX10_prepare 36 = .ok (.iconst 1, 1) := by decide +kernel
theorem eX10_prepare_37 : decode cX10_prepare 37 = .ok (.isub, 1) := by decide +kernel
theorem eX10_prepare_38 : decode cX10_prepare 38 = .ok (.aload_n 0, 1) := by decide +kernel
theorem eX10_prepare_39 : decode cX10_prepare 39 = .ok (.getfield 9, 3) := by decide +kernel
theorem eX10_prepare_42 : decode cX10_prepare 42 = .ok (.iconst 1, 1) := by decide +kernel
theorem eX10_prepare_43 : decode cX10_prepare 43 = .ok (.iaload, 1) := by decide +kernel
theorem eX10_prepare_44 : decode cX10_prepare 44 = .ok (.idiv, 1) := by decide +kernel
theorem eX10_prepare_45 : decode cX10_prepare 45 = .ok (.putfield 279, 3) := by decide +kernel
theorem eX10_prepare_48 : decode cX10_prepare 48 = .ok (.aload_n 0, 1) := by decide +kernel
theorem eX10_prepare_49 : decode cX10_prepare 49 = .ok (.iload_n 1, 1) := by decide +kernel
theorem eX10_prepare_50 : decode cX10_prepare 50 = .ok (.iconst 2, 1) := by decide +kernel
theorem eX10_prepare_51 : decode cX10_prepare 51 = .ok (.iadd, 1) := by decide +kernel
theorem eX10_prepare_52 : decode cX10_prepare 52 = .ok (.iconst 3, 1) := by decide +kernel
theorem eX10_prepare_53 : decode cX10_prepare 53 = .ok (.idiv, 1) := by decide +kernel
theorem eX10_prepare_54 : decode cX10_prepare 54 = .ok (.putfield 294, 3) := by decide +kernel
theorem eX10_prepare_57 : decode cX10_prepare 57 = .ok (.aload_n 0, 1) := by decide +kernel
theorem eX10_prepare_58 : decode cX10_prepare 58 = .ok (.iconst 0, 1) := by decide +kernel
theorem eX10_prepare_59 : decode cX10_prepare 59 = .ok (.putfield 303, 3) := by decide +kernel
theorem eX10_prepare_62 : decode cX10_prepare 62 = .ok (.aload_n 0, 1) := by decide +kernel
theorem eX10_prepare_63 : decode cX10_prepare 63 = .ok (.iconst 0, 1) := by decide +kernel
theorem eX10_prepare_64 : decode cX10_prepare 64 = .ok (.putfield 273, 3) := by decide +kernel
theorem eX10_prepare_67 : decode cX10_prepare 67 = .ok (.aload_n 0, 1) := by decide +kernel
theorem eX10_prepare_68 : decode cX10_prepare 68 = .ok (.getfield 273, 3) := by decide +kernel
theorem eX10_prepare_71 : decode cX10_prepare 71 = .ok (.sipush 300, 3) := by decide +kernel
theorem eX10_prepare_74 : decode cX10_prepare 74 = .ok (.if_icmp .ge 35, 3) := by decide +kernel
theorem eX10_prepare_77 : decode cX10_prepare 77 = .ok (.iload_n 1, 1) := by decide +kernel
theorem eX10_prepare_78 : decode cX10_prepare 78 = .ok (.ifCond .le 31, 3) := by decide +kernel
theorem eX10_prepare_109 : decode cX10_prepare 109 = .ok (.aload_n 0, 1) := by decide +kernel
theorem eX10_prepare_110 : decode cX10_prepare 110 = .ok (.dup, 1) := by decide +kernel
theorem eX10_prepare_111 : decode cX10_prepare 111 = .ok (.getfield 273, 3) := by decide +kernel
theorem eX10_prepare_114 : decode cX10_prepare 114 = .ok (.aload_n 0, 1) := by decide +kernel
theorem eX10_prepare_115 : decode cX10_prepare 115 = .ok (.getfield 303, 3) := by decide +kernel
theorem eX10_prepare_118 : decode cX10_prepare 118 = .ok (.ifCond .eq 7, 3) := by decide +kernel
theorem eX10_prepare_125 : decode cX10_prepare 125 = .ok (.iconst 0, 1) := by decide +kernel
theorem eX10_prepare_126 : decode cX10_prepare 126 = .ok (.isub, 1) := by decide +kernel
theorem eX10_prepare_127 : decode cX10_prepare 127 = .ok (.putfield 273, 3) := by decide +kernel
theorem eX10_prepare_130 : decode cX10_prepare 130 = .ok (.return_, 1) := by decide +kernel
theorem eX10_hashed_0 : decode cX10_hashed 0 = .ok (.aload_n 0, 1) := by decide +kernel
theorem eX10_hashed_1 : decode cX10_hashed 1 = .ok (.getfield 9, 3) := by decide +kernel
theorem eX10_hashed_4 : decode cX10_hashed 4 = .ok (.iconst 0, 1) := by decide +kernel
theorem eX10_hashed_5 : decode cX10_hashed 5 = .ok (.iaload, 1) := by decide +kernel
theorem eX10_hashed_6 : decode cX10_hashed 6 = .ok (.ifCond .ne 5, 3) := by decide +kernel
theorem eX10_hashed_9 : decode cX10_hashed 9 = .ok (.iconst (-1), 1) := by decide +kernel
theorem eX10_hashed_10 : decode cX10_hashed 10 = .ok (.ireturn, 1) := by decide +kernel
theorem eX10_canRun_0 : decode cX10_canRun 0 = .ok (.aload_n 0, 1) := by decide +kernel
theorem eX10_canRun_1 : decode cX10_canRun 1 = .ok (.invokevirtual 310, 3) := by decide +kernel
theorem eX10_canRun_4 : decode cX10_canRun 4 = .ok (.iload_n 1, 1) := by decide +kernel
theorem eX10_canRun_5 : decode cX10_canRun 5 = .ok (.iconst 3, 1) := by decide +kernel
theorem eX10_canRun_6 : decode cX10_canRun 6 = .ok (.if_icmp .ne 19, 3) := by decide +kernel
theorem eX10_canRun_9 : decode cX10_canRun 9 = .ok (.aload_n 0, 1) := by decide +kernel
theorem eX10_canRun_10 : decode cX10_canRun 10 = .ok (.getfield 9, 3) := by decide +kernel
theorem eX10_canRun_13 : decode cX10_canRun 13 = .ok (.iconst 0, 1) := by decide +kernel
theorem eX10_canRun_14 : decode cX10_canRun 14 = .ok (.iaload, 1) := by decide +kernel
theorem eX10_canRun_15 : decode cX10_canRun 15 = .ok (.ifCond .eq 10, 3) := by decide +kernel
theorem eX10_canRun_25 : decode cX10_canRun 25 = .ok (.iconst 1, 1) := by decide +kernel
theorem eX10_canRun_26 : decode cX10_canRun 26 = .ok (.goto 4, 3) := by decide +kernel
theorem eX10_canRun_30 : decode cX10_canRun 30 = .ok (.ireturn, 1) := by decide +kernel
theorem eX10_refusal_0 : decode cX10_refusal 0 = .ok (.iload_n 1, 1) := by decide +kernel
theorem eX10_refusal_1 : decode cX10_refusal 1 = .ok (.i2l, 1) := by decide +kernel
theorem eX10_refusal_2 : decode cX10_refusal 2 = .ok (.lconst 0, 1) := by decide +kernel
theorem eX10_refusal_3 : decode cX10_refusal 3 = .ok (.ldc2_w 255, 3) := by decide +kernel
theorem eX10_refusal_6 : decode cX10_refusal 6 = .ok (.invokestatic 65, 3) := by decide +kernel
theorem eX10_refusal_9 : decode cX10_refusal 9 = .ok (.ifCond .ne 7, 3) := by decide +kernel
theorem eX10_refusal_12 : decode cX10_refusal 12 = .ok (.iconst 1, 1) := by decide +kernel
theorem eX10_refusal_13 : decode cX10_refusal 13 = .ok (.goto 16, 3) := by decide +kernel
theorem eX10_refusal_16 : decode cX10_refusal 16 = .ok (.aload_n 0, 1) := by decide +kernel
theorem eX10_refusal_17 : decode cX10_refusal 17 = .ok (.iload_n 1, 1) := by decide +kernel
theorem eX10_refusal_18 : decode cX10_refusal 18 = .ok (.invokevirtual 313, 3) := by decide +kernel
theorem eX10_refusal_21 : decode cX10_refusal 21 = .ok (.ifCond .ne 7, 3) := by decide +kernel
theorem eX10_refusal_28 : decode cX10_refusal 28 = .ok (.iconst 0, 1) := by decide +kernel
theorem eX10_refusal_29 : decode cX10_refusal 29 = .ok (.ireturn, 1) := by decide +kernel
theorem eX10_run_0 : decode cX10_run 0 = .ok (.aload_n 0, 1) := by decide +kernel
theorem eX10_run_1 : decode cX10_run 1 = .ok (.iconst 0, 1) := by decide +kernel
theorem eX10_run_2 : decode cX10_run 2 = .ok (.putfield 208, 3) := by decide +kernel
theorem eX10_run_5 : decode cX10_run 5 = .ok (.iload_n 1, 1) := by decide +kernel
theorem eX10_run_6 : decode cX10_run 6 = .ok (.ifCond .ne 10, 3) := by decide +kernel
theorem eX10_run_9 : decode cX10_run 9 = .ok (.aload_n 0, 1) := by decide +kernel
theorem eX10_run_10 : decode cX10_run 10 = .ok (.invokevirtual 316, 3) := by decide +kernel
theorem eX10_run_13 : decode cX10_run 13 = .ok (.goto 31, 3) := by decide +kernel
theorem eX10_run_16 : decode cX10_run 16 = .ok (.iload_n 1, 1) := by decide +kernel
theorem eX10_run_17 : decode cX10_run 17 = .ok (.iconst 1, 1) := by decide +kernel
theorem eX10_run_18 : decode cX10_run 18 = .ok (.if_icmp .ne 10, 3) := by decide +kernel
theorem eX10_run_21 : decode cX10_run 21 = .ok (.aload_n 0, 1) := by decide +kernel
theorem eX10_run_22 : decode cX10_run 22 = .ok (.invokevirtual 319, 3) := by decide +kernel
theorem eX10_run_25 : decode cX10_run 25 = .ok (.goto 19, 3) := by decide +kernel
theorem eX10_run_28 : decode cX10_run 28 = .ok (.iload_n 1, 1) := by decide +kernel
theorem eX10_run_29 : decode cX10_run 29 = .ok (.iconst 2, 1) := by decide +kernel
theorem eX10_run_30 : decode cX10_run 30 = .ok (.if_icmp .ne 10, 3) := by decide +kernel
theorem eX10_run_33 : decode cX10_run 33 = .ok (.aload_n 0, 1) := by decide +kernel
theorem eX10_run_34 : decode cX10_run 34 = .ok (.invokevirtual 322, 3) := by decide +kernel
theorem eX10_run_37 : decode cX10_run 37 = .ok (.goto 7, 3) := by decide +kernel
theorem eX10_run_40 : decode cX10_run 40 = .ok (.aload_n 0, 1) := by decide +kernel
theorem eX10_run_41 : decode cX10_run 41 = .ok (.invokevirtual 325, 3) := by decide +kernel
theorem eX10_run_44 : decode cX10_run 44 = .ok (.ireturn, 1) := by decide +kernel
theorem eX10_find_0 : decode cX10_find 0 = .ok (.aload_n 0, 1) := by decide +kernel
theorem eX10_find_1 : decode cX10_find 1 = .ok (.aload_n 0, 1) := by decide +kernel
theorem eX10_find_2 : decode cX10_find 2 = .ok (.iload_n 1, 1) := by decide +kernel
theorem eX10_find_3 : decode cX10_find 3 = .ok (.invokevirtual 328, 3) := by decide +kernel
theorem eX10_find_6 : decode cX10_find 6 = .ok (.putfield 62, 3) := by decide +kernel
theorem eX10_find_9 : decode cX10_find 9 = .ok (.aload_n 0, 1) := by decide +kernel
theorem eX10_find_10 : decode cX10_find 10 = .ok (.getfield 62, 3) := by decide +kernel
theorem eX10_find_13 : decode cX10_find 13 = .ok (.ifCond .le 5, 3) := by decide +kernel
theorem eX10_find_16 : decode cX10_find 16 = .ok (.iconst 0, 1) := by decide +kernel
theorem eX10_find_17 : decode cX10_find 17 = .ok (.ireturn, 1) := by decide +kernel
theorem eX10_find_18 : decode cX10_find 18 = .ok (.aload_n 0, 1) := by decide +kernel
theorem eX10_find_19 : decode cX10_find 19 = .ok (.invokevirtual 331, 3) := by decide +kernel
theorem eX10_find_22 : decode cX10_find 22 = .ok (.aload_n 0, 1) := by decide +kernel
theorem eX10_find_23 : decode cX10_find 23 = .ok (.iload_n 1, 1) := by decide +kernel
theorem eX10_find_24 : decode cX10_find 24 = .ok (.invokevirtual 334, 3) := by decide +kernel
theorem eX10_find_27 : decode cX10_find 27 = .ok (.ireturn, 1) := by decide +kernel
theorem eX10_branch_0 : decode cX10_branch 0 = .ok (.aload_n 0, 1) := by decide +kernel
theorem eX10_branch_1 : decode cX10_branch 1 = .ok (.aload_n 0, 1) := by decide +kernel
theorem eX10_branch_2 : decode cX10_branch 2 = .ok (.iload_n 1, 1) := by decide +kernel
theorem eX10_branch_3 : decode cX10_branch 3 = .ok (.invokevirtual 328, 3) := by decide +kernel
theorem eX10_branch_6 : decode cX10_branch 6 = .ok (.putfield 62, 3) := by decide +kernel
theorem eX10_branch_9 : decode cX10_branch 9 = .ok (.aload_n 0, 1) := by decide +kernel
theorem eX10_branch_10 : decode cX10_branch 10 = .ok (.getfield 62, 3) := by decide +kernel
theorem eX10_branch_13 : decode cX10_branch 13 = .ok (.ifCond .le 5, 3) := by decide +kernel
theorem eX10_branch_16 : decode cX10_branch 16 = .ok (.iconst 0, 1) := by decide +kernel
theorem eX10_branch_17 : decode cX10_branch 17 = .ok (.ireturn, 1) := by decide +kernel
theorem eX10_branch_18 : decode cX10_branch 18 = .ok (.aload_n 0, 1) := by decide +kernel
theorem eX10_branch_19 : decode cX10_branch 19 = .ok (.invokevirtual 331, 3) := by decide +kernel
theorem eX10_branch_22 : decode cX10_branch 22 = .ok (.aload_n 0, 1) := by decide +kernel
theorem eX10_branch_23 : decode cX10_branch 23 = .ok (.iload_n 1, 1) := by decide +kernel
theorem eX10_branch_24 : decode cX10_branch 24 = .ok (.invokevirtual 334, 3) := by decide +kernel
theorem eX10_branch_27 : decode cX10_branch 27 = .ok (.istore_n 2, 1) := by decide +kernel
theorem eX10_branch_28 : decode cX10_branch 28 = .ok (.iload_n 2, 1) := by decide +kernel
theorem eX10_branch_29 : decode cX10_branch 29 = .ok (.ifCond .ge 7, 3) := by decide +kernel
theorem eX10_branch_32 : decode cX10_branch 32 = .ok (.iconst (-1), 1) := by decide +kernel
theorem eX10_branch_33 : decode cX10_branch 33 = .ok (.goto 12, 3) := by decide +kernel
theorem eX10_branch_45 : decode cX10_branch 45 = .ok (.ireturn, 1) := by decide +kernel
theorem eX10_examined_0 : decode cX10_examined 0 = .ok (.aload_n 0, 1) := by decide +kernel
theorem eX10_examined_1 : decode cX10_examined 1 = .ok (.aload_n 0, 1) := by decide +kernel
theorem eX10_examined_2 : decode cX10_examined 2 = .ok (.iload_n 1, 1) := by decide +kernel
theorem eX10_examined_3 : decode cX10_examined 3 = .ok (.invokevirtual 328, 3) := by decide +kernel
theorem eX10_examined_6 : decode cX10_examined 6 = .ok (.putfield 62, 3) := by decide +kernel
theorem eX10_examined_9 : decode cX10_examined 9 = .ok (.aload_n 0, 1) := by decide +kernel
theorem eX10_examined_10 : decode cX10_examined 10 = .ok (.getfield 62, 3) := by decide +kernel
theorem eX10_examined_13 : decode cX10_examined 13 = .ok (.ifCond .le 5, 3) := by decide +kernel
theorem eX10_examined_16 : decode cX10_examined 16 = .ok (.iconst 0, 1) := by decide +kernel
theorem eX10_examined_17 : decode cX10_examined 17 = .ok (.ireturn, 1) := by decide +kernel
theorem eX10_examined_18 : decode cX10_examined 18 = .ok (.aload_n 0, 1) := by decide +kernel
theorem eX10_examined_19 : decode cX10_examined 19 = .ok (.invokevirtual 331, 3) := by decide +kernel
theorem eX10_examined_22 : decode cX10_examined 22 = .ok (.aload_n 0, 1) := by decide +kernel
theorem eX10_examined_23 : decode cX10_examined 23 = .ok (.iload_n 1, 1) := by decide +kernel
theorem eX10_examined_24 : decode cX10_examined 24 = .ok (.invokevirtual 334, 3) := by decide +kernel
theorem eX10_examined_27 : decode cX10_examined 27 = .ok (.istore_n 2, 1) := by decide +kernel
theorem eX10_examined_28 : decode cX10_examined 28 = .ok (.aload_n 0, 1) := by decide +kernel
theorem eX10_examined_29 : decode cX10_examined 29 = .ok (.getfield 208, 3) := by decide +kernel
theorem eX10_examined_32 : decode cX10_examined 32 = .ok (.ireturn, 1) := by decide +kernel
theorem eX10_costOf_0 : decode cX10_costOf 0 = .ok (.iconst 0, 1) := by decide +kernel
theorem eX10_costOf_1 : decode cX10_costOf 1 = .ok (.istore_n 2, 1) := by decide +kernel
theorem eX10_costOf_2 : decode cX10_costOf 2 = .ok (.iconst 0, 1) := by decide +kernel
theorem eX10_costOf_3 : decode cX10_costOf 3 = .ok (.istore_n 3, 1) := by decide +kernel
theorem eX10_costOf_4 : decode cX10_costOf 4 = .ok (.iload_n 3, 1) := by decide +kernel
theorem eX10_costOf_5 : decode cX10_costOf 5 = .ok (.aload_n 0, 1) := by decide +kernel
theorem eX10_costOf_6 : decode cX10_costOf 6 = .ok (.getfield 9, 3) := by decide +kernel
theorem eX10_costOf_9 : decode cX10_costOf 9 = .ok (.iconst 0, 1) := by decide +kernel
theorem eX10_costOf_10 : decode cX10_costOf 10 = .ok (.iaload, 1) := by decide +kernel
theorem eX10_costOf_11 : decode cX10_costOf 11 = .ok (.if_icmp .ge 38, 3) := by decide +kernel
theorem eX10_costOf_49 : decode cX10_costOf 49 = .ok (.iload_n 2, 1) := by decide +kernel
theorem eX10_costOf_50 : decode cX10_costOf 50 = .ok (.ireturn, 1) := by decide +kernel
theorem eX10_cost_0 : decode cX10_cost 0 = .ok (.aload_n 0, 1) := by decide +kernel
theorem eX10_cost_1 : decode cX10_cost 1 = .ok (.aload_n 0, 1) := by decide +kernel
theorem eX10_cost_2 : decode cX10_cost 2 = .ok (.iload_n 1, 1) := by decide +kernel
theorem eX10_cost_3 : decode cX10_cost 3 = .ok (.invokevirtual 328, 3) := by decide +kernel
theorem eX10_cost_6 : decode cX10_cost 6 = .ok (.putfield 62, 3) := by decide +kernel
theorem eX10_cost_9 : decode cX10_cost 9 = .ok (.aload_n 0, 1) := by decide +kernel
theorem eX10_cost_10 : decode cX10_cost 10 = .ok (.getfield 62, 3) := by decide +kernel
theorem eX10_cost_13 : decode cX10_cost 13 = .ok (.ifCond .le 7, 3) := by decide +kernel
theorem eX10_cost_16 : decode cX10_cost 16 = .ok (.iconst 0, 1) := by decide +kernel
theorem eX10_cost_17 : decode cX10_cost 17 = .ok (.goto 8, 3) := by decide +kernel
theorem eX10_cost_20 : decode cX10_cost 20 = .ok (.aload_n 0, 1) := by decide +kernel
theorem eX10_cost_21 : decode cX10_cost 21 = .ok (.iload_n 1, 1) := by decide +kernel
theorem eX10_cost_22 : decode cX10_cost 22 = .ok (.invokevirtual 337, 3) := by decide +kernel
theorem eX10_cost_25 : decode cX10_cost 25 = .ok (.ireturn, 1) := by decide +kernel
theorem eX10_worst_0 : decode cX10_worst 0 = .ok (.aload_n 0, 1) := by decide +kernel
theorem eX10_worst_1 : decode cX10_worst 1 = .ok (.aload_n 0, 1) := by decide +kernel
theorem eX10_worst_2 : decode cX10_worst 2 = .ok (.iload_n 1, 1) := by decide +kernel
theorem eX10_worst_3 : decode cX10_worst 3 = .ok (.invokevirtual 328, 3) := by decide +kernel
theorem eX10_worst_6 : decode cX10_worst 6 = .ok (.putfield 62, 3) := by decide +kernel
theorem eX10_worst_9 : decode cX10_worst 9 = .ok (.aload_n 0, 1) := by decide +kernel
theorem eX10_worst_10 : decode cX10_worst 10 = .ok (.getfield 62, 3) := by decide +kernel
theorem eX10_worst_13 : decode cX10_worst 13 = .ok (.ifCond .le 5, 3) := by decide +kernel
theorem eX10_worst_16 : decode cX10_worst 16 = .ok (.iconst 0, 1) := by decide +kernel
theorem eX10_worst_17 : decode cX10_worst 17 = .ok (.ireturn, 1) := by decide +kernel
theorem eX10_worst_18 : decode cX10_worst 18 = .ok (.iconst 0, 1) := by decide +kernel
theorem eX10_worst_19 : decode cX10_worst 19 = .ok (.istore_n 2, 1) := by decide +kernel
theorem eX10_worst_20 : decode cX10_worst 20 = .ok (.iconst 0, 1) := by decide +kernel
theorem eX10_worst_21 : decode cX10_worst 21 = .ok (.istore_n 3, 1) := by decide +kernel
theorem eX10_worst_22 : decode cX10_worst 22 = .ok (.iload_n 3, 1) := by decide +kernel
theorem eX10_worst_23 : decode cX10_worst 23 = .ok (.aload_n 0, 1) := by decide +kernel
theorem eX10_worst_24 : decode cX10_worst 24 = .ok (.getfield 9, 3) := by decide +kernel
theorem eX10_worst_27 : decode cX10_worst 27 = .ok (.iconst 0, 1) := by decide +kernel
theorem eX10_worst_28 : decode cX10_worst 28 = .ok (.iaload, 1) := by decide +kernel
theorem eX10_worst_29 : decode cX10_worst 29 = .ok (.if_icmp .ge 30, 3) := by decide +kernel
theorem eX10_worst_59 : decode cX10_worst 59 = .ok (.iload_n 2, 1) := by decide +kernel
theorem eX10_worst_60 : decode cX10_worst 60 = .ok (.ireturn, 1) := by decide +kernel
theorem eX10_meanBits_0 : decode cX10_meanBits 0 = .ok (.aload_n 0, 1) := by decide +kernel
theorem eX10_meanBits_1 : decode cX10_meanBits 1 = .ok (.aload_n 0, 1) := by decide +kernel
theorem eX10_meanBits_2 : decode cX10_meanBits 2 = .ok (.iload_n 1, 1) := by decide +kernel
theorem eX10_meanBits_3 : decode cX10_meanBits 3 = .ok (.invokevirtual 328, 3) := by decide +kernel
theorem eX10_meanBits_6 : decode cX10_meanBits 6 = .ok (.putfield 62, 3) := by decide +kernel
theorem eX10_meanBits_9 : decode cX10_meanBits 9 = .ok (.aload_n 0, 1) := by decide +kernel
theorem eX10_meanBits_10 : decode cX10_meanBits 10 = .ok (.aload_n 0, 1) := by decide +kernel
theorem eX10_meanBits_11 : decode cX10_meanBits 11 = .ok (.getfield 62, 3) := by decide +kernel
theorem eX10_meanBits_14 : decode cX10_meanBits 14 = .ok (.ifCond .ne 16, 3) := by decide +kernel
theorem eX10_meanBits_17 : decode cX10_meanBits 17 = .ok (.aload_n 0, 1) := by decide +kernel
theorem eX10_meanBits_18 : decode cX10_meanBits 18 = .ok (.getfield 9, 3) := by decide +kernel
theorem eX10_meanBits_21 : decode cX10_meanBits 21 = .ok (.iconst 0, 1) := by decide +kernel
theorem eX10_meanBits_22 : decode cX10_meanBits 22 = .ok (.iaload, 1) := by decide +kernel
theorem eX10_meanBits_23 : decode cX10_meanBits 23 = .ok (.ifCond .ne 7, 3) := by decide +kernel
theorem eX10_meanBits_26 : decode cX10_meanBits 26 = .ok (.iconst 3, 1) := by decide +kernel
theorem eX10_meanBits_27 : decode cX10_meanBits 27 = .ok (.goto 7, 3) := by decide +kernel
theorem eX10_meanBits_30 : decode cX10_meanBits 30 = .ok (.aload_n 0, 1) := by decide +kernel
theorem eX10_meanBits_31 : decode cX10_meanBits 31 = .ok (.getfield 62, 3) := by decide +kernel
theorem eX10_meanBits_34 : decode cX10_meanBits 34 = .ok (.putfield 62, 3) := by decide +kernel
theorem eX10_meanBits_37 : decode cX10_meanBits 37 = .ok (.aload_n 0, 1) := by decide +kernel
theorem eX10_meanBits_38 : decode cX10_meanBits 38 = .ok (.getfield 62, 3) := by decide +kernel
theorem eX10_meanBits_41 : decode cX10_meanBits 41 = .ok (.ifCond .le 5, 3) := by decide +kernel
theorem eX10_meanBits_44 : decode cX10_meanBits 44 = .ok (.lconst 0, 1) := by decide +kernel
theorem eX10_meanBits_45 : decode cX10_meanBits 45 = .ok (.lreturn, 1) := by decide +kernel
theorem eX10_best_0 : decode cX10_best 0 = .ok (.aload_n 0, 1) := by decide +kernel
theorem eX10_best_1 : decode cX10_best 1 = .ok (.iconst 0, 1) := by decide +kernel
theorem eX10_best_2 : decode cX10_best 2 = .ok (.putfield 62, 3) := by decide +kernel
theorem eX10_best_5 : decode cX10_best 5 = .ok (.iconst 0, 1) := by decide +kernel
theorem eX10_best_6 : decode cX10_best 6 = .ok (.istore_n 1, 1) := by decide +kernel
theorem eX10_best_7 : decode cX10_best 7 = .ok (.aload_n 0, 1) := by decide +kernel
theorem eX10_best_8 : decode cX10_best 8 = .ok (.iconst 0, 1) := by decide +kernel
theorem eX10_best_9 : decode cX10_best 9 = .ok (.invokevirtual 337, 3) := by decide +kernel
theorem eX10_best_12 : decode cX10_best 12 = .ok (.istore_n 2, 1) := by decide +kernel
theorem eX10_best_13 : decode cX10_best 13 = .ok (.iconst 1, 1) := by decide +kernel
theorem eX10_best_14 : decode cX10_best 14 = .ok (.istore_n 3, 1) := by decide +kernel
theorem eX10_best_15 : decode cX10_best 15 = .ok (.iload_n 3, 1) := by decide +kernel
theorem eX10_best_16 : decode cX10_best 16 = .ok (.iconst 4, 1) := by decide +kernel
theorem eX10_best_17 : decode cX10_best 17 = .ok (.if_icmp .ge 43, 3) := by decide +kernel
theorem eX10_best_20 : decode cX10_best 20 = .ok (.aload_n 0, 1) := by decide +kernel
theorem eX10_best_21 : decode cX10_best 21 = .ok (.iload_n 3, 1) := by decide +kernel
theorem eX10_best_22 : decode cX10_best 22 = .ok (.invokevirtual 313, 3) := by decide +kernel
theorem eX10_best_25 : decode cX10_best 25 = .ok (.ifCond .eq 29, 3) := by decide +kernel
theorem eX10_best_28 : decode cX10_best 28 = .ok (.aload_n 0, 1) := by decide +kernel
theorem eX10_best_29 : decode cX10_best 29 = .ok (.iload_n 3, 1) := by decide +kernel
theorem eX10_best_30 : decode cX10_best 30 = .ok (.invokevirtual 337, 3) := by decide +kernel
theorem eX10_best_33 : decode cX10_best 33 = .ok (.istore 4, 2) := by decide +kernel
theorem eX10_best_35 : decode cX10_best 35 = .ok (.iload 4, 2) := by decide +kernel
theorem eX10_best_37 : decode cX10_best 37 = .ok (.iload_n 2, 1) := by decide +kernel
theorem eX10_best_38 : decode cX10_best 38 = .ok (.if_icmp .ge 7, 3) := by decide +kernel
theorem eX10_best_45 : decode cX10_best 45 = .ok (.iload_n 1, 1) := by decide +kernel
theorem eX10_best_46 : decode cX10_best 46 = .ok (.istore_n 1, 1) := by decide +kernel
theorem eX10_best_47 : decode cX10_best 47 = .ok (.iload_n 2, 1) := by decide +kernel
theorem eX10_best_48 : decode cX10_best 48 = .ok (.iload 4, 2) := by decide +kernel
theorem eX10_best_50 : decode cX10_best 50 = .ok (.invokestatic 182, 3) := by decide +kernel
theorem eX10_best_53 : decode cX10_best 53 = .ok (.istore_n 2, 1) := by decide +kernel
theorem eX10_best_54 : decode cX10_best 54 = .ok (.iinc 3 1, 3) := by decide +kernel
theorem eX10_best_57 : decode cX10_best 57 = .ok (.goto (-42), 3) := by decide +kernel
theorem eX10_best_60 : decode cX10_best 60 = .ok (.iload_n 1, 1) := by decide +kernel
theorem eX10_best_61 : decode cX10_best 61 = .ok (.ireturn, 1) := by decide +kernel
theorem eX10_selected_0 : decode cX10_selected 0 = .ok (.aload_n 0, 1) := by decide +kernel
theorem eX10_selected_1 : decode cX10_selected 1 = .ok (.iconst 0, 1) := by decide +kernel
theorem eX10_selected_2 : decode cX10_selected 2 = .ok (.putfield 62, 3) := by decide +kernel
theorem eX10_selected_5 : decode cX10_selected 5 = .ok (.aload_n 0, 1) := by decide +kernel
theorem eX10_selected_6 : decode cX10_selected 6 = .ok (.invokevirtual 310, 3) := by decide +kernel
theorem eX10_selected_9 : decode cX10_selected 9 = .ok (.aload_n 0, 1) := by decide +kernel
theorem eX10_selected_10 : decode cX10_selected 10 = .ok (.getfield 269, 3) := by decide +kernel
theorem eX10_selected_13 : decode cX10_selected 13 = .ok (.ireturn, 1) := by decide +kernel
theorem eX10_hash_0 : decode cX10_hash 0 = .ok (.aload_n 0, 1) := by decide +kernel
theorem eX10_hash_1 : decode cX10_hash 1 = .ok (.iconst 0, 1) := by decide +kernel
theorem eX10_hash_2 : decode cX10_hash 2 = .ok (.putfield 62, 3) := by decide +kernel
theorem eX10_hash_5 : decode cX10_hash 5 = .ok (.aload_n 0, 1) := by decide +kernel
theorem eX10_hash_6 : decode cX10_hash 6 = .ok (.invokevirtual 310, 3) := by decide +kernel
theorem eX10_hash_9 : decode cX10_hash 9 = .ok (.aload_n 0, 1) := by decide +kernel
theorem eX10_hash_10 : decode cX10_hash 10 = .ok (.invokevirtual 331, 3) := by decide +kernel
theorem eX10_hash_13 : decode cX10_hash 13 = .ok (.aload_n 0, 1) := by decide +kernel
theorem eX10_hash_14 : decode cX10_hash 14 = .ok (.iload_n 1, 1) := by decide +kernel
theorem eX10_hash_15 : decode cX10_hash 15 = .ok (.invokevirtual 276, 3) := by decide +kernel
theorem eX10_hash_18 : decode cX10_hash 18 = .ok (.ireturn, 1) := by decide +kernel
theorem eX10_hasTable_0 : decode cX10_hasTable 0 = .ok (.aload_n 0, 1) := by decide +kernel
theorem eX10_hasTable_1 : decode cX10_hasTable 1 = .ok (.invokevirtual 310, 3) := by decide +kernel
theorem eX10_hasTable_4 : decode cX10_hasTable 4 = .ok (.aload_n 0, 1) := by decide +kernel
theorem eX10_hasTable_5 : decode cX10_hasTable 5 = .ok (.getfield 303, 3) := by decide +kernel
theorem eX10_hasTable_8 : decode cX10_hasTable 8 = .ok (.ireturn, 1) := by decide +kernel
theorem eX10_table_0 : decode cX10_table 0 = .ok (.aload_n 0, 1) := by decide +kernel
theorem eX10_table_1 : decode cX10_table 1 = .ok (.iload_n 1, 1) := by decide +kernel
theorem eX10_table_2 : decode cX10_table 2 = .ok (.i2l, 1) := by decide +kernel
theorem eX10_table_3 : decode cX10_table 3 = .ok (.lconst 0, 1) := by decide +kernel
theorem eX10_table_4 : decode cX10_table 4 = .ok (.ldc2_w 194, 3) := by decide +kernel
theorem eX10_table_7 : decode cX10_table 7 = .ok (.invokestatic 65, 3) := by decide +kernel
theorem eX10_table_10 : decode cX10_table 10 = .ok (.ifCond .ne 7, 3) := by decide +kernel
theorem eX10_table_13 : decode cX10_table 13 = .ok (.iconst 1, 1) := by decide +kernel
theorem eX10_table_14 : decode cX10_table 14 = .ok (.goto 15, 3) := by decide +kernel
theorem eX10_table_17 : decode cX10_table 17 = .ok (.aload_n 0, 1) := by decide +kernel
theorem eX10_table_18 : decode cX10_table 18 = .ok (.invokevirtual 346, 3) := by decide +kernel
theorem eX10_table_21 : decode cX10_table 21 = .ok (.ifCond .ne 7, 3) := by decide +kernel
theorem eX10_table_24 : decode cX10_table 24 = .ok (.iconst 2, 1) := by decide +kernel
theorem eX10_table_25 : decode cX10_table 25 = .ok (.goto 4, 3) := by decide +kernel
theorem eX10_table_29 : decode cX10_table 29 = .ok (.putfield 62, 3) := by decide +kernel
theorem eX10_table_32 : decode cX10_table 32 = .ok (.aload_n 0, 1) := by decide +kernel
theorem eX10_table_33 : decode cX10_table 33 = .ok (.getfield 62, 3) := by decide +kernel
theorem eX10_table_36 : decode cX10_table 36 = .ok (.ifCond .le 5, 3) := by decide +kernel
theorem eX10_table_39 : decode cX10_table 39 = .ok (.iconst 0, 1) := by decide +kernel
theorem eX10_table_40 : decode cX10_table 40 = .ok (.ireturn, 1) := by decide +kernel
theorem eX10_slot_0 : decode cX10_slot 0 = .ok (.aload_n 0, 1) := by decide +kernel
theorem eX10_slot_1 : decode cX10_slot 1 = .ok (.aload_n 0, 1) := by decide +kernel
theorem eX10_slot_2 : decode cX10_slot 2 = .ok (.invokevirtual 346, 3) := by decide +kernel
theorem eX10_slot_5 : decode cX10_slot 5 = .ok (.ifCond .ne 7, 3) := by decide +kernel
theorem eX10_slot_8 : decode cX10_slot 8 = .ok (.iconst 1, 1) := by decide +kernel
theorem eX10_slot_9 : decode cX10_slot 9 = .ok (.goto 24, 3) := by decide +kernel
theorem eX10_slot_33 : decode cX10_slot 33 = .ok (.putfield 62, 3) := by decide +kernel
theorem eX10_slot_36 : decode cX10_slot 36 = .ok (.aload_n 0, 1) := by decide +kernel
theorem eX10_slot_37 : decode cX10_slot 37 = .ok (.getfield 62, 3) := by decide +kernel
theorem eX10_slot_40 : decode cX10_slot 40 = .ok (.ifCond .le 7, 3) := by decide +kernel
theorem eX10_slot_43 : decode cX10_slot 43 = .ok (.iconst 0, 1) := by decide +kernel
theorem eX10_slot_44 : decode cX10_slot 44 = .ok (.goto 9, 3) := by decide +kernel
theorem eX10_slot_53 : decode cX10_slot 53 = .ok (.ireturn, 1) := by decide +kernel
theorem eX10_displacement_0 : decode cX10_displacement 0 = .ok (.aload_n 0, 1) := by decide +kernel
theorem eX10_displacement_1 : decode cX10_displacement 1 = .ok (.aload_n 0, 1) := by decide +kernel
theorem eX10_displacement_2 : decode cX10_displacement 2 = .ok (.invokevirtual 346, 3) := by decide +kernel
theorem eX10_displacement_5 : decode cX10_displacement 5 = .ok (.ifCond .ne 7, 3) := by decide +kernel
theorem eX10_displacement_8 : decode cX10_displacement 8 = .ok (.iconst 1, 1) := by decide +kernel
theorem eX10_displacement_9 : decode cX10_displacement 9 = .ok (.goto 24, 3) := by decide +kernel
theorem eX10_displacement_33 : decode cX10_displacement 33 = .ok (.putfield 62, 3) := by decide +kernel
theorem eX10_displacement_36 : decode cX10_displacement 36 = .ok (.aload_n 0, 1) := by decide +kernel
theorem eX10_displacement_37 : decode cX10_displacement 37 = .ok (.getfield 62, 3) := by decide +kernel
theorem eX10_displacement_40 : decode cX10_displacement 40 = .ok (.ifCond .le 7, 3) := by decide +kernel
theorem eX10_displacement_43 : decode cX10_displacement 43 = .ok (.iconst 0, 1) := by decide +kernel
theorem eX10_displacement_44 : decode cX10_displacement 44 = .ok (.goto 9, 3) := by decide +kernel
theorem eX10_displacement_53 : decode cX10_displacement 53 = .ok (.ireturn, 1) := by decide +kernel
theorem eX10_densityBits_0 : decode cX10_densityBits 0 = .ok (.aload_n 0, 1) := by decide +kernel
theorem eX10_densityBits_1 : decode cX10_densityBits 1 = .ok (.aload_n 0, 1) := by decide +kernel
theorem eX10_densityBits_2 : decode cX10_densityBits 2 = .ok (.invokevirtual 346, 3) := by decide +kernel
theorem eX10_densityBits_5 : decode cX10_densityBits 5 = .ok (.ifCond .eq 7, 3) := by decide +kernel
theorem eX10_densityBits_12 : decode cX10_densityBits 12 = .ok (.iconst 1, 1) := by decide +kernel
theorem eX10_densityBits_13 : decode cX10_densityBits 13 = .ok (.putfield 62, 3) := by decide +kernel
theorem eX10_densityBits_16 : decode cX10_densityBits 16 = .ok (.aload_n 0, 1) := by decide +kernel
theorem eX10_densityBits_17 : decode cX10_densityBits 17 = .ok (.getfield 62, 3) := by decide +kernel
theorem eX10_densityBits_20 : decode cX10_densityBits 20 = .ok (.ifCond .le 7, 3) := by decide +kernel
theorem eX10_densityBits_23 : decode cX10_densityBits 23 = .ok (.iconst 0, 1) := by decide +kernel
theorem eX10_densityBits_24 : decode cX10_densityBits 24 = .ok (.goto 19, 3) := by decide +kernel
theorem eX10_densityBits_43 : decode cX10_densityBits 43 = .ok (.ireturn, 1) := by decide +kernel
theorem eX10_putTrees_0 : decode cX10_putTrees 0 = .ok (.iconst 1, 1) := by decide +kernel
theorem eX10_putTrees_1 : decode cX10_putTrees 1 = .ok (.istore_n 1, 1) := by decide +kernel
theorem eX10_putTrees_2 : decode cX10_putTrees 2 = .ok (.iload_n 1, 1) := by decide +kernel
theorem eX10_putTrees_3 : decode cX10_putTrees 3 = .ok (.bipush 8, 2) := by decide +kernel
theorem eX10_putTrees_5 : decode cX10_putTrees 5 = .ok (.if_icmp .gt 53, 3) := by decide +kernel
theorem eX10_putTrees_8 : decode cX10_putTrees 8 = .ok (.aload_n 0, 1) := by decide +kernel
theorem eX10_putTrees_9 : decode cX10_putTrees 9 = .ok (.iload_n 1, 1) := by decide +kernel
theorem eX10_putTrees_10 : decode cX10_putTrees 10 = .ok (.invokevirtual 223, 3) := by decide +kernel
theorem eX10_putTrees_13 : decode cX10_putTrees 13 = .ok (.astore_n 2, 1) := by decide +kernel
theorem eX10_putTrees_14 : decode cX10_putTrees 14 = .ok (.aload_n 0, 1) := by decide +kernel
theorem eX10_putTrees_15 : decode cX10_putTrees 15 = .ok (.aload_n 2, 1) := by decide +kernel
theorem eX10_putTrees_16 : decode cX10_putTrees 16 = .ok (.invokevirtual 227, 3) := by decide +kernel
theorem eX10_putTrees_19 : decode cX10_putTrees 19 = .ok (.ifCond .le 33, 3) := by decide +kernel
theorem eX10_putTrees_52 : decode cX10_putTrees 52 = .ok (.iinc 1 1, 3) := by decide +kernel
theorem eX10_putTrees_55 : decode cX10_putTrees 55 = .ok (.goto (-53), 3) := by decide +kernel
theorem eX10_putTrees_58 : decode cX10_putTrees 58 = .ok (.return_, 1) := by decide +kernel
theorem eX10_list_0 : decode cX10_list 0 = .ok (.aload_n 0, 1) := by decide +kernel
theorem eX10_list_1 : decode cX10_list 1 = .ok (.iconst 0, 1) := by decide +kernel
theorem eX10_list_2 : decode cX10_list 2 = .ok (.putfield 359, 3) := by decide +kernel
theorem eX10_list_5 : decode cX10_list 5 = .ok (.iconst 0, 1) := by decide +kernel
theorem eX10_list_6 : decode cX10_list 6 = .ok (.istore_n 2, 1) := by decide +kernel
theorem eX10_list_7 : decode cX10_list 7 = .ok (.iload_n 2, 1) := by decide +kernel
theorem eX10_list_8 : decode cX10_list 8 = .ok (.aload_n 0, 1) := by decide +kernel
theorem eX10_list_9 : decode cX10_list 9 = .ok (.getfield 9, 3) := by decide +kernel
theorem eX10_list_12 : decode cX10_list 12 = .ok (.iconst 0, 1) := by decide +kernel
theorem eX10_list_13 : decode cX10_list 13 = .ok (.iaload, 1) := by decide +kernel
theorem eX10_list_14 : decode cX10_list 14 = .ok (.if_icmp .ge 41, 3) := by decide +kernel
theorem eX10_list_55 : decode cX10_list 55 = .ok (.iload_n 1, 1) := by decide +kernel
theorem eX10_list_56 : decode cX10_list 56 = .ok (.iconst 2, 1) := by decide +kernel
theorem eX10_list_57 : decode cX10_list 57 = .ok (.if_icmp .ne 7, 3) := by decide +kernel
theorem eX10_list_60 : decode cX10_list 60 = .ok (.aload_n 0, 1) := by decide +kernel
theorem eX10_list_61 : decode cX10_list 61 = .ok (.invokevirtual 378, 3) := by decide +kernel
theorem eX10_list_64 : decode cX10_list 64 = .ok (.iload_n 1, 1) := by decide +kernel
theorem eX10_list_65 : decode cX10_list 65 = .ok (.iconst 3, 1) := by decide +kernel
theorem eX10_list_66 : decode cX10_list 66 = .ok (.if_icmp .ne 7, 3) := by decide +kernel
theorem eX10_list_73 : decode cX10_list 73 = .ok (.return_, 1) := by decide +kernel
theorem eX10_listing_0 : decode cX10_listing 0 = .ok (.aload_n 0, 1) := by decide +kernel
theorem eX10_listing_1 : decode cX10_listing 1 = .ok (.iload_n 1, 1) := by decide +kernel
theorem eX10_listing_2 : decode cX10_listing 2 = .ok (.i2l, 1) := by decide +kernel
theorem eX10_listing_3 : decode cX10_listing 3 = .ok (.lconst 0, 1) := by decide +kernel
theorem eX10_listing_4 : decode cX10_listing 4 = .ok (.ldc2_w 255, 3) := by decide +kernel
theorem eX10_listing_7 : decode cX10_listing 7 = .ok (.invokestatic 65, 3) := by decide +kernel
theorem eX10_listing_10 : decode cX10_listing 10 = .ok (.ifCond .ne 7, 3) := by decide +kernel
theorem eX10_listing_13 : decode cX10_listing 13 = .ok (.iconst 1, 1) := by decide +kernel
theorem eX10_listing_14 : decode cX10_listing 14 = .ok (.goto 20, 3) := by decide +kernel
theorem eX10_listing_17 : decode cX10_listing 17 = .ok (.iload_n 1, 1) := by decide +kernel
theorem eX10_listing_18 : decode cX10_listing 18 = .ok (.iconst 3, 1) := by decide +kernel
theorem eX10_listing_19 : decode cX10_listing 19 = .ok (.if_icmp .ne 14, 3) := by decide +kernel
theorem eX10_listing_22 : decode cX10_listing 22 = .ok (.aload_n 0, 1) := by decide +kernel
theorem eX10_listing_23 : decode cX10_listing 23 = .ok (.invokevirtual 346, 3) := by decide +kernel
theorem eX10_listing_26 : decode cX10_listing 26 = .ok (.ifCond .ne 7, 3) := by decide +kernel
theorem eX10_listing_29 : decode cX10_listing 29 = .ok (.iconst 2, 1) := by decide +kernel
theorem eX10_listing_30 : decode cX10_listing 30 = .ok (.goto 4, 3) := by decide +kernel
theorem eX10_listing_33 : decode cX10_listing 33 = .ok (.iconst 0, 1) := by decide +kernel
theorem eX10_listing_34 : decode cX10_listing 34 = .ok (.putfield 62, 3) := by decide +kernel
theorem eX10_listing_37 : decode cX10_listing 37 = .ok (.aload_n 0, 1) := by decide +kernel
theorem eX10_listing_38 : decode cX10_listing 38 = .ok (.getfield 62, 3) := by decide +kernel
theorem eX10_listing_41 : decode cX10_listing 41 = .ok (.ifCond .le 5, 3) := by decide +kernel
theorem eX10_listing_44 : decode cX10_listing 44 = .ok (.iconst 0, 1) := by decide +kernel
