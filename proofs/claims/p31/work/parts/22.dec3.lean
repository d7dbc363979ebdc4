/-! DECODED, 3: made by wip/engine/gen21.py -/
theorem eX6_choose_10 : decode cX6_choose 10 = .ok (.istore_n 2, 1) := by decide +kernel
theorem eX6_choose_11 : decode cX6_choose 11 = .ok (.iload_n 2, 1) := by decide +kernel
theorem eX6_choose_12 : decode cX6_choose 12 = .ok (.ifCond .lt 40, 3) := by decide +kernel
theorem eX6_choose_15 : decode cX6_choose 15 = .ok (.iload_n 2, 1) := by decide +kernel
theorem eX6_choose_16 : decode cX6_choose 16 = .ok (.invokestatic 29, 3) := by decide +kernel
theorem eX6_choose_19 : decode cX6_choose 19 = .ok (.istore_n 3, 1) := by decide +kernel
theorem eX6_choose_20 : decode cX6_choose 20 = .ok (.iload_n 3, 1) := by decide +kernel
theorem eX6_choose_21 : decode cX6_choose 21 = .ok (.iload_n 1, 1) := by decide +kernel
theorem eX6_choose_22 : decode cX6_choose 22 = .ok (.if_icmp .ge 24, 3) := by decide +kernel
theorem eX6_choose_25 : decode cX6_choose 25 = .ok (.aload_n 0, 1) := by decide +kernel
theorem eX6_choose_26 : decode cX6_choose 26 = .ok (.iload_n 2, 1) := by decide +kernel
theorem eX6_choose_27 : decode cX6_choose 27 = .ok (.invokestatic 35, 3) := by decide +kernel
theorem eX6_choose_30 : decode cX6_choose 30 = .ok (.invokevirtual 38, 3) := by decide +kernel
theorem eX6_choose_33 : decode cX6_choose 33 = .ok (.ifCond .eq 13, 3) := by decide +kernel
theorem eX6_choose_36 : decode cX6_choose 36 = .ok (.iload_n 3, 1) := by decide +kernel
theorem eX6_choose_37 : decode cX6_choose 37 = .ok (.istore_n 1, 1) := by decide +kernel
theorem eX6_choose_38 : decode cX6_choose 38 = .ok (.aload_n 0, 1) := by decide +kernel
theorem eX6_choose_39 : decode cX6_choose 39 = .ok (.iload_n 2, 1) := by decide +kernel
theorem eX6_choose_40 : decode cX6_choose 40 = .ok (.invokestatic 35, 3) := by decide +kernel
theorem eX6_choose_43 : decode cX6_choose 43 = .ok (.putfield 19, 3) := by decide +kernel
theorem eX6_choose_46 : decode cX6_choose 46 = .ok (.iinc 2 (-1), 3) := by decide +kernel
theorem eX6_choose_49 : decode cX6_choose 49 = .ok (.goto (-38), 3) := by decide +kernel
theorem eX6_choose_52 : decode cX6_choose 52 = .ok (.return_, 1) := by decide +kernel
theorem eX6_turned_0 : decode cX6_turned 0 = .ok (.iconst 0, 1) := by decide +kernel
theorem eX6_turned_1 : decode cX6_turned 1 = .ok (.istore_n 1, 1) := by decide +kernel
theorem eX6_turned_2 : decode cX6_turned 2 = .ok (.iconst 0, 1) := by decide +kernel
theorem eX6_turned_3 : decode cX6_turned 3 = .ok (.istore_n 2, 1) := by decide +kernel
theorem eX6_turned_4 : decode cX6_turned 4 = .ok (.iload_n 2, 1) := by decide +kernel
theorem eX6_turned_5 : decode cX6_turned 5 = .ok (.bipush 8, 2) := by decide +kernel
theorem eX6_turned_7 : decode cX6_turned 7 = .ok (.if_icmp .ge 26, 3) := by decide +kernel
theorem eX6_turned_10 : decode cX6_turned 10 = .ok (.iload_n 0, 1) := by decide +kernel
theorem eX6_turned_11 : decode cX6_turned 11 = .ok (.bipush 7, 2) := by decide +kernel
theorem eX6_turned_13 : decode cX6_turned 13 = .ok (.iload_n 2, 1) := by decide +kernel
theorem eX6_turned_14 : decode cX6_turned 14 = .ok (.isub, 1) := by decide +kernel
theorem eX6_turned_15 : decode cX6_turned 15 = .ok (.invokestatic 42, 3) := by decide +kernel
theorem eX6_turned_18 : decode cX6_turned 18 = .ok (.ifCond .eq 9, 3) := by decide +kernel
theorem eX6_turned_21 : decode cX6_turned 21 = .ok (.iload_n 1, 1) := by decide +kernel
theorem eX6_turned_22 : decode cX6_turned 22 = .ok (.iconst 1, 1) := by decide +kernel
theorem eX6_turned_23 : decode cX6_turned 23 = .ok (.iload_n 2, 1) := by decide +kernel
theorem eX6_turned_24 : decode cX6_turned 24 = .ok (.ishl, 1) := by decide +kernel
theorem eX6_turned_25 : decode cX6_turned 25 = .ok (.ior, 1) := by decide +kernel
theorem eX6_turned_26 : decode cX6_turned 26 = .ok (.istore_n 1, 1) := by decide +kernel
theorem eX6_turned_27 : decode cX6_turned 27 = .ok (.iinc 2 1, 3) := by decide +kernel
theorem eX6_turned_30 : decode cX6_turned 30 = .ok (.goto (-26), 3) := by decide +kernel
theorem eX6_turned_33 : decode cX6_turned 33 = .ok (.iload_n 1, 1) := by decide +kernel
theorem eX6_turned_34 : decode cX6_turned 34 = .ok (.ireturn, 1) := by decide +kernel
theorem eX6_collectPairs_0 : decode cX6_collectPairs 0 = .ok (.aload_n 0, 1) := by decide +kernel
theorem eX6_collectPairs_1 : decode cX6_collectPairs 1 = .ok (.iconst 0, 1) := by decide +kernel
theorem eX6_collectPairs_2 : decode cX6_collectPairs 2 = .ok (.putfield 15, 3) := by decide +kernel
theorem eX6_collectPairs_5 : decode cX6_collectPairs 5 = .ok (.iconst 0, 1) := by decide +kernel
theorem eX6_collectPairs_6 : decode cX6_collectPairs 6 = .ok (.istore_n 1, 1) := by decide +kernel
theorem eX6_collectPairs_7 : decode cX6_collectPairs 7 = .ok (.iload_n 1, 1) := by decide +kernel
theorem eX6_collectPairs_8 : decode cX6_collectPairs 8 = .ok (.aload_n 0, 1) := by decide +kernel
theorem eX6_collectPairs_9 : decode cX6_collectPairs 9 = .ok (.getfield 22, 3) := by decide +kernel
theorem eX6_collectPairs_12 : decode cX6_collectPairs 12 = .ok (.getfield 46, 3) := by decide +kernel
theorem eX6_collectPairs_15 : decode cX6_collectPairs 15 = .ok (.if_icmp .ge 71, 3) := by decide +kernel
theorem eX6_collectPairs_18 : decode cX6_collectPairs 18 = .ok (.iconst 0, 1) := by decide +kernel
theorem eX6_collectPairs_19 : decode cX6_collectPairs 19 = .ok (.istore_n 2, 1) := by decide +kernel
theorem eX6_collectPairs_20 : decode cX6_collectPairs 20 = .ok (.iload_n 2, 1) := by decide +kernel
theorem eX6_collectPairs_21 : decode cX6_collectPairs 21 = .ok (.iload_n 1, 1) := by decide +kernel
theorem eX6_collectPairs_22 : decode cX6_collectPairs 22 = .ok (.if_icmp .ge 58, 3) := by decide +kernel
theorem eX6_collectPairs_25 : decode cX6_collectPairs 25 = .ok (.aload_n 0, 1) := by decide +kernel
theorem eX6_collectPairs_26 : decode cX6_collectPairs 26 = .ok (.getfield 22, 3) := by decide +kernel
theorem eX6_collectPairs_29 : decode cX6_collectPairs 29 = .ok (.iload_n 1, 1) := by decide +kernel
theorem eX6_collectPairs_30 : decode cX6_collectPairs 30 = .ok (.invokevirtual 51, 3) := by decide +kernel
theorem eX6_collectPairs_33 : decode cX6_collectPairs 33 = .ok (.aload_n 0, 1) := by decide +kernel
theorem eX6_collectPairs_34 : decode cX6_collectPairs 34 = .ok (.getfield 22, 3) := by decide +kernel
theorem eX6_collectPairs_37 : decode cX6_collectPairs 37 = .ok (.iload_n 2, 1) := by decide +kernel
theorem eX6_collectPairs_38 : decode cX6_collectPairs 38 = .ok (.invokevirtual 51, 3) := by decide +kernel
theorem eX6_collectPairs_41 : decode cX6_collectPairs 41 = .ok (.if_icmp .ne 33, 3) := by decide +kernel
theorem eX6_collectPairs_44 : decode cX6_collectPairs 44 = .ok (.aload_n 0, 1) := by decide +kernel
theorem eX6_collectPairs_45 : decode cX6_collectPairs 45 = .ok (.getfield 9, 3) := by decide +kernel
theorem eX6_collectPairs_48 : decode cX6_collectPairs 48 = .ok (.aload_n 0, 1) := by decide +kernel
theorem eX6_collectPairs_49 : decode cX6_collectPairs 49 = .ok (.getfield 15, 3) := by decide +kernel
theorem eX6_collectPairs_52 : decode cX6_collectPairs 52 = .ok (.aload_n 0, 1) := by decide +kernel
theorem eX6_collectPairs_53 : decode cX6_collectPairs 53 = .ok (.getfield 22, 3) := by decide +kernel
theorem eX6_collectPairs_56 : decode cX6_collectPairs 56 = .ok (.iload_n 1, 1) := by decide +kernel
theorem eX6_collectPairs_57 : decode cX6_collectPairs 57 = .ok (.iload_n 2, 1) := by decide +kernel
theorem eX6_collectPairs_58 : decode cX6_collectPairs 58 = .ok (.invokevirtual 54, 3) := by decide +kernel
theorem eX6_collectPairs_61 : decode cX6_collectPairs 61 = .ok (.invokestatic 58, 3) := by decide +kernel
theorem eX6_collectPairs_64 : decode cX6_collectPairs 64 = .ok (.aload_n 0, 1) := by decide +kernel
theorem eX6_collectPairs_65 : decode cX6_collectPairs 65 = .ok (.dup, 1) := by decide +kernel
theorem eX6_collectPairs_66 : decode cX6_collectPairs 66 = .ok (.getfield 15, 3) := by decide +kernel
theorem eX6_collectPairs_69 : decode cX6_collectPairs 69 = .ok (.iconst 1, 1) := by decide +kernel
theorem eX6_collectPairs_70 : decode cX6_collectPairs 70 = .ok (.iadd, 1) := by decide +kernel
theorem eX6_collectPairs_71 : decode cX6_collectPairs 71 = .ok (.putfield 15, 3) := by decide +kernel
theorem eX6_collectPairs_74 : decode cX6_collectPairs 74 = .ok (.iinc 2 1, 3) := by decide +kernel
theorem eX6_collectPairs_77 : decode cX6_collectPairs 77 = .ok (.goto (-57), 3) := by decide +kernel
theorem eX6_collectPairs_80 : decode cX6_collectPairs 80 = .ok (.iinc 1 1, 3) := by decide +kernel
theorem eX6_collectPairs_83 : decode cX6_collectPairs 83 = .ok (.goto (-76), 3) := by decide +kernel
theorem eX6_collectPairs_86 : decode cX6_collectPairs 86 = .ok (.return_, 1) := by decide +kernel
theorem eX6_separates_0 : decode cX6_separates 0 = .ok (.iconst 0, 1) := by decide +kernel
theorem eX6_separates_1 : decode cX6_separates 1 = .ok (.istore_n 2, 1) := by decide +kernel
theorem eX6_separates_2 : decode cX6_separates 2 = .ok (.iload_n 2, 1) := by decide +kernel
theorem eX6_separates_3 : decode cX6_separates 3 = .ok (.aload_n 0, 1) := by decide +kernel
theorem eX6_separates_4 : decode cX6_separates 4 = .ok (.getfield 15, 3) := by decide +kernel
theorem eX6_separates_7 : decode cX6_separates 7 = .ok (.if_icmp .ge 24, 3) := by decide +kernel
theorem eX6_separates_10 : decode cX6_separates 10 = .ok (.aload_n 0, 1) := by decide +kernel
theorem eX6_separates_11 : decode cX6_separates 11 = .ok (.getfield 9, 3) := by decide +kernel
theorem eX6_separates_14 : decode cX6_separates 14 = .ok (.iload_n 2, 1) := by decide +kernel
theorem eX6_separates_15 : decode cX6_separates 15 = .ok (.invokestatic 62, 3) := by decide +kernel
theorem eX6_separates_18 : decode cX6_separates 18 = .ok (.iload_n 1, 1) := by decide +kernel
theorem eX6_separates_19 : decode cX6_separates 19 = .ok (.iand, 1) := by decide +kernel
theorem eX6_separates_20 : decode cX6_separates 20 = .ok (.ifCond .ne 5, 3) := by decide +kernel
theorem eX6_separates_23 : decode cX6_separates 23 = .ok (.iconst 0, 1) := by decide +kernel
theorem eX6_separates_24 : decode cX6_separates 24 = .ok (.ireturn, 1) := by decide +kernel
theorem eX6_separates_25 : decode cX6_separates 25 = .ok (.iinc 2 1, 3) := by decide +kernel
theorem eX6_separates_28 : decode cX6_separates 28 = .ok (.goto (-26), 3) := by decide +kernel
theorem eX6_separates_31 : decode cX6_separates 31 = .ok (.iconst 1, 1) := by decide +kernel
theorem eX6_separates_32 : decode cX6_separates 32 = .ok (.ireturn, 1) := by decide +kernel
theorem eX6_hashOf_0 : decode cX6_hashOf 0 = .ok (.iload_n 2, 1) := by decide +kernel
theorem eX6_hashOf_1 : decode cX6_hashOf 1 = .ok (.istore_n 3, 1) := by decide +kernel
theorem eX6_hashOf_2 : decode cX6_hashOf 2 = .ok (.iconst 0, 1) := by decide +kernel
theorem eX6_hashOf_3 : decode cX6_hashOf 3 = .ok (.istore 4, 2) := by decide +kernel
theorem eX6_hashOf_5 : decode cX6_hashOf 5 = .ok (.iload 4, 2) := by decide +kernel
theorem eX6_hashOf_7 : decode cX6_hashOf 7 = .ok (.bipush 8, 2) := by decide +kernel
theorem eX6_hashOf_9 : decode cX6_hashOf 9 = .ok (.if_icmp .ge 46, 3) := by decide +kernel
theorem eX6_hashOf_12 : decode cX6_hashOf 12 = .ok (.aload_n 0, 1) := by decide +kernel
theorem eX6_hashOf_13 : decode cX6_hashOf 13 = .ok (.getfield 19, 3) := by decide +kernel
theorem eX6_hashOf_16 : decode cX6_hashOf 16 = .ok (.iload 4, 2) := by decide +kernel
theorem eX6_hashOf_18 : decode cX6_hashOf 18 = .ok (.iushr, 1) := by decide +kernel
theorem eX6_hashOf_19 : decode cX6_hashOf 19 = .ok (.iconst 1, 1) := by decide +kernel
theorem eX6_hashOf_20 : decode cX6_hashOf 20 = .ok (.iand, 1) := by decide +kernel
theorem eX6_hashOf_21 : decode cX6_hashOf 21 = .ok (.ifCond .eq 28, 3) := by decide +kernel
theorem eX6_hashOf_24 : decode cX6_hashOf 24 = .ok (.bipush 31, 2) := by decide +kernel
theorem eX6_hashOf_26 : decode cX6_hashOf 26 = .ok (.iload_n 3, 1) := by decide +kernel
theorem eX6_hashOf_27 : decode cX6_hashOf 27 = .ok (.imul, 1) := by decide +kernel
theorem eX6_hashOf_28 : decode cX6_hashOf 28 = .ok (.iload 4, 2) := by decide +kernel
theorem eX6_hashOf_30 : decode cX6_hashOf 30 = .ok (.aload_n 1, 1) := by decide +kernel
theorem eX6_hashOf_31 : decode cX6_hashOf 31 = .ok (.getfield 66, 3) := by decide +kernel
theorem eX6_hashOf_34 : decode cX6_hashOf 34 = .ok (.if_icmp .ge 12, 3) := by decide +kernel
theorem eX6_hashOf_37 : decode cX6_hashOf 37 = .ok (.aload_n 1, 1) := by decide +kernel
theorem eX6_hashOf_38 : decode cX6_hashOf 38 = .ok (.iload 4, 2) := by decide +kernel
theorem eX6_hashOf_40 : decode cX6_hashOf 40 = .ok (.invokevirtual 71, 3) := by decide +kernel
theorem eX6_hashOf_43 : decode cX6_hashOf 43 = .ok (.goto 4, 3) := by decide +kernel
theorem eX6_hashOf_46 : decode cX6_hashOf 46 = .ok (.iconst 0, 1) := by decide +kernel
theorem eX6_hashOf_47 : decode cX6_hashOf 47 = .ok (.iadd, 1) := by decide +kernel
theorem eX6_hashOf_48 : decode cX6_hashOf 48 = .ok (.istore_n 3, 1) := by decide +kernel
theorem eX6_hashOf_49 : decode cX6_hashOf 49 = .ok (.iinc 4 1, 3) := by decide +kernel
theorem eX6_hashOf_52 : decode cX6_hashOf 52 = .ok (.goto (-47), 3) := by decide +kernel
theorem eX6_hashOf_55 : decode cX6_hashOf 55 = .ok (.bipush 31, 2) := by decide +kernel
theorem eX6_hashOf_57 : decode cX6_hashOf 57 = .ok (.iload_n 3, 1) := by decide +kernel
theorem eX6_hashOf_58 : decode cX6_hashOf 58 = .ok (.imul, 1) := by decide +kernel
theorem eX6_hashOf_59 : decode cX6_hashOf 59 = .ok (.aload_n 1, 1) := by decide +kernel
theorem eX6_hashOf_60 : decode cX6_hashOf 60 = .ok (.getfield 66, 3) := by decide +kernel
theorem eX6_hashOf_63 : decode cX6_hashOf 63 = .ok (.iadd, 1) := by decide +kernel
theorem eX6_hashOf_64 : decode cX6_hashOf 64 = .ok (.istore_n 3, 1) := by decide +kernel
theorem eX6_hashOf_65 : decode cX6_hashOf 65 = .ok (.iload_n 3, 1) := by decide +kernel
theorem eX6_hashOf_66 : decode cX6_hashOf 66 = .ok (.iload_n 3, 1) := by decide +kernel
theorem eX6_hashOf_67 : decode cX6_hashOf 67 = .ok (.bipush 15, 2) := by decide +kernel
theorem eX6_hashOf_69 : decode cX6_hashOf 69 = .ok (.iushr, 1) := by decide +kernel
theorem eX6_hashOf_70 : decode cX6_hashOf 70 = .ok (.ixor, 1) := by decide +kernel
theorem eX6_hashOf_71 : decode cX6_hashOf 71 = .ok (.istore_n 3, 1) := by decide +kernel
theorem eX6_hashOf_72 : decode cX6_hashOf 72 = .ok (.iload_n 3, 1) := by decide +kernel
theorem eX6_hashOf_73 : decode cX6_hashOf 73 = .ok (.ldc 74, 2) := by decide +kernel
theorem eX6_hashOf_75 : decode cX6_hashOf 75 = .ok (.imul, 1) := by decide +kernel
theorem eX6_hashOf_76 : decode cX6_hashOf 76 = .ok (.istore_n 3, 1) := by decide +kernel
theorem eX6_hashOf_77 : decode cX6_hashOf 77 = .ok (.iload_n 3, 1) := by decide +kernel
theorem eX6_hashOf_78 : decode cX6_hashOf 78 = .ok (.iload_n 3, 1) := by decide +kernel
theorem eX6_hashOf_79 : decode cX6_hashOf 79 = .ok (.bipush 12, 2) := by decide +kernel
theorem eX6_hashOf_81 : decode cX6_hashOf 81 = .ok (.iushr, 1) := by decide +kernel
theorem eX6_hashOf_82 : decode cX6_hashOf 82 = .ok (.ixor, 1) := by decide +kernel
theorem eX6_hashOf_83 : decode cX6_hashOf 83 = .ok (.ireturn, 1) := by decide +kernel
theorem eX7_init_0 : decode cX7_init 0 = .ok (.aload_n 0, 1) := by decide +kernel
theorem eX7_init_1 : decode cX7_init 1 = .ok (.invokespecial 3, 3) := by decide +kernel
theorem eX7_init_4 : decode cX7_init 4 = .ok (.aload_n 0, 1) := by decide +kernel
theorem eX7_init_5 : decode cX7_init 5 = .ok (.new 9, 3) := by decide +kernel
theorem eX7_init_8 : decode cX7_init 8 = .ok (.dup, 1) := by decide +kernel
theorem eX7_init_9 : decode cX7_init 9 = .ok (.bipush 8, 2) := by decide +kernel
theorem eX7_init_11 : decode cX7_init 11 = .ok (.invokespecial 11, 3) := by decide +kernel
theorem eX7_init_14 : decode cX7_init 14 = .ok (.putfield 14, 3) := by decide +kernel
theorem eX7_init_17 : decode cX7_init 17 = .ok (.aload_n 0, 1) := by decide +kernel
theorem eX7_init_18 : decode cX7_init 18 = .ok (.bipush 20, 2) := by decide +kernel
theorem eX7_init_20 : decode cX7_init 20 = .ok (.newarray .int, 2) := by decide +kernel
theorem eX7_init_22 : decode cX7_init 22 = .ok (.putfield 20, 3) := by decide +kernel
theorem eX7_init_25 : decode cX7_init 25 = .ok (.aload_n 0, 1) := by decide +kernel
theorem eX7_init_26 : decode cX7_init 26 = .ok (.bipush 20, 2) := by decide +kernel
theorem eX7_init_28 : decode cX7_init 28 = .ok (.newarray .int, 2) := by decide +kernel
theorem eX7_init_30 : decode cX7_init 30 = .ok (.putfield 24, 3) := by decide +kernel
theorem eX7_init_33 : decode cX7_init 33 = .ok (.aload_n 0, 1) := by decide +kernel
theorem eX7_init_34 : decode cX7_init 34 = .ok (.bipush 20, 2) := by decide +kernel
theorem eX7_init_36 : decode cX7_init 36 = .ok (.newarray .int, 2) := by decide +kernel
theorem eX7_init_38 : decode cX7_init 38 = .ok (.putfield 27, 3) := by decide +kernel
theorem eX7_init_41 : decode cX7_init 41 = .ok (.aload_n 0, 1) := by decide +kernel
theorem eX7_init_42 : decode cX7_init 42 = .ok (.bipush 7, 2) := by decide +kernel
theorem eX7_init_44 : decode cX7_init 44 = .ok (.newarray .int, 2) := by decide +kernel
theorem eX7_init_46 : decode cX7_init 46 = .ok (.putfield 30, 3) := by decide +kernel
theorem eX7_init_49 : decode cX7_init 49 = .ok (.aload_n 0, 1) := by decide +kernel
theorem eX7_init_50 : decode cX7_init 50 = .ok (.bipush 7, 2) := by decide +kernel
theorem eX7_init_52 : decode cX7_init 52 = .ok (.newarray .int, 2) := by decide +kernel
theorem eX7_init_54 : decode cX7_init 54 = .ok (.putfield 33, 3) := by decide +kernel
theorem eX7_init_57 : decode cX7_init 57 = .ok (.aload_n 0, 1) := by decide +kernel
theorem eX7_init_58 : decode cX7_init 58 = .ok (.bipush 40, 2) := by decide +kernel
theorem eX7_init_60 : decode cX7_init 60 = .ok (.newarray .int, 2) := by decide +kernel
theorem eX7_init_62 : decode cX7_init 62 = .ok (.putfield 36, 3) := by decide +kernel
theorem eX7_init_65 : decode cX7_init 65 = .ok (.aload_n 0, 1) := by decide +kernel
theorem eX7_init_66 : decode cX7_init 66 = .ok (.iconst 0, 1) := by decide +kernel
theorem eX7_init_67 : decode cX7_init 67 = .ok (.putfield 39, 3) := by decide +kernel
theorem eX7_init_70 : decode cX7_init 70 = .ok (.aload_n 0, 1) := by decide +kernel
theorem eX7_init_71 : decode cX7_init 71 = .ok (.iconst 0, 1) := by decide +kernel
theorem eX7_init_72 : decode cX7_init 72 = .ok (.putfield 43, 3) := by decide +kernel
theorem eX7_init_75 : decode cX7_init 75 = .ok (.aload_n 0, 1) := by decide +kernel
theorem eX7_init_76 : decode cX7_init 76 = .ok (.iconst 0, 1) := by decide +kernel
theorem eX7_init_77 : decode cX7_init 77 = .ok (.putfield 46, 3) := by decide +kernel
theorem eX7_init_80 : decode cX7_init 80 = .ok (.aload_n 0, 1) := by decide +kernel
theorem eX7_init_81 : decode cX7_init 81 = .ok (.iconst 0, 1) := by decide +kernel
theorem eX7_init_82 : decode cX7_init 82 = .ok (.putfield 49, 3) := by decide +kernel
theorem eX7_init_85 : decode cX7_init 85 = .ok (.aload_n 0, 1) := by decide +kernel
theorem eX7_init_86 : decode cX7_init 86 = .ok (.lconst 0, 1) := by decide +kernel
theorem eX7_init_87 : decode cX7_init 87 = .ok (.putfield 53, 3) := by decide +kernel
theorem eX7_init_90 : decode cX7_init 90 = .ok (.aload_n 0, 1) := by decide +kernel
theorem eX7_init_91 : decode cX7_init 91 = .ok (.aload_n 1, 1) := by decide +kernel
theorem eX7_init_92 : decode cX7_init 92 = .ok (.putfield 57, 3) := by decide +kernel
theorem eX7_init_95 : decode cX7_init 95 = .ok (.aload_n 0, 1) := by decide +kernel
theorem eX7_init_96 : decode cX7_init 96 = .ok (.aload_n 2, 1) := by decide +kernel
theorem eX7_init_97 : decode cX7_init 97 = .ok (.putfield 61, 3) := by decide +kernel
theorem eX7_init_100 : decode cX7_init 100 = .ok (.return_, 1) := by decide +kernel
theorem eX7_build_0 : decode cX7_build 0 = .ok (.aload_n 0, 1) := by decide +kernel
theorem eX7_build_1 : decode cX7_build 1 = .ok (.iconst 0, 1) := by decide +kernel
theorem eX7_build_2 : decode cX7_build 2 = .ok (.putfield 49, 3) := by decide +kernel
theorem eX7_build_5 : decode cX7_build 5 = .ok (.aload_n 0, 1) := by decide +kernel
theorem eX7_build_6 : decode cX7_build 6 = .ok (.aload_n 0, 1) := by decide +kernel
theorem eX7_build_7 : decode cX7_build 7 = .ok (.getfield 57, 3) := by decide +kernel
theorem eX7_build_10 : decode cX7_build 10 = .ok (.getfield 65, 3) := by decide +kernel
theorem eX7_build_13 : decode cX7_build 13 = .ok (.ifCond .gt 7, 3) := by decide +kernel
theorem eX7_build_20 : decode cX7_build 20 = .ok (.bipush 100, 2) := by decide +kernel
theorem eX7_build_22 : decode cX7_build 22 = .ok (.aload_n 0, 1) := by decide +kernel
theorem eX7_build_23 : decode cX7_build 23 = .ok (.getfield 57, 3) := by decide +kernel
theorem eX7_build_26 : decode cX7_build 26 = .ok (.getfield 70, 3) := by decide +kernel
theorem eX7_build_29 : decode cX7_build 29 = .ok (.imul, 1) := by decide +kernel
theorem eX7_build_30 : decode cX7_build 30 = .ok (.aload_n 0, 1) := by decide +kernel
theorem eX7_build_31 : decode cX7_build 31 = .ok (.getfield 57, 3) := by decide +kernel
theorem eX7_build_34 : decode cX7_build 34 = .ok (.getfield 65, 3) := by decide +kernel
theorem eX7_build_37 : decode cX7_build 37 = .ok (.iadd, 1) := by decide +kernel
theorem eX7_build_38 : decode cX7_build 38 = .ok (.iconst 1, 1) := by decide +kernel
theorem eX7_build_39 : decode cX7_build 39 = .ok (.isub, 1) := by decide +kernel
theorem eX7_build_40 : decode cX7_build 40 = .ok (.aload_n 0, 1) := by decide +kernel
theorem eX7_build_41 : decode cX7_build 41 = .ok (.getfield 57, 3) := by decide +kernel
theorem eX7_build_44 : decode cX7_build 44 = .ok (.getfield 65, 3) := by decide +kernel
theorem eX7_build_47 : decode cX7_build 47 = .ok (.idiv, 1) := by decide +kernel
theorem eX7_build_48 : decode cX7_build 48 = .ok (.putfield 39, 3) := by decide +kernel
theorem eX7_build_51 : decode cX7_build 51 = .ok (.aload_n 0, 1) := by decide +kernel
theorem eX7_build_52 : decode cX7_build 52 = .ok (.aload_n 0, 1) := by decide +kernel
theorem eX7_build_53 : decode cX7_build 53 = .ok (.getfield 57, 3) := by decide +kernel
theorem eX7_build_56 : decode cX7_build 56 = .ok (.getfield 70, 3) := by decide +kernel
theorem eX7_build_59 : decode cX7_build 59 = .ok (.iconst 2, 1) := by decide +kernel
theorem eX7_build_60 : decode cX7_build 60 = .ok (.iadd, 1) := by decide +kernel
theorem eX7_build_61 : decode cX7_build 61 = .ok (.iconst 3, 1) := by decide +kernel
theorem eX7_build_62 : decode cX7_build 62 = .ok (.idiv, 1) := by decide +kernel
theorem eX7_build_63 : decode cX7_build 63 = .ok (.putfield 43, 3) := by decide +kernel
theorem eX7_build_66 : decode cX7_build 66 = .ok (.aload_n 0, 1) := by decide +kernel
theorem eX7_build_67 : decode cX7_build 67 = .ok (.getfield 57, 3) := by decide +kernel
theorem eX7_build_70 : decode cX7_build 70 = .ok (.getfield 70, 3) := by decide +kernel
theorem eX7_build_73 : decode cX7_build 73 = .ok (.ifCond .le 34, 3) := by decide +kernel
theorem eX7_build_76 : decode cX7_build 76 = .ok (.iconst 0, 1) := by decide +kernel
theorem eX7_build_77 : decode cX7_build 77 = .ok (.istore_n 1, 1) := by decide +kernel
theorem eX7_build_78 : decode cX7_build 78 = .ok (.iload_n 1, 1) := by decide +kernel
theorem eX7_build_79 : decode cX7_build 79 = .ok (.sipush 297, 3) := by decide +kernel
theorem eX7_build_82 : decode cX7_build 82 = .ok (.if_icmp .gt 25, 3) := by decide +kernel
theorem eX7_build_85 : decode cX7_build 85 = .ok (.aload_n 0, 1) := by decide +kernel
theorem eX7_build_86 : decode cX7_build 86 = .ok (.getfield 49, 3) := by decide +kernel
theorem eX7_build_89 : decode cX7_build 89 = .ok (.ifCond .ne 18, 3) := by decide +kernel
theorem eX7_build_92 : decode cX7_build 92 = .ok (.aload_n 0, 1) := by decide +kernel
theorem eX7_build_93 : decode cX7_build 93 = .ok (.aload_n 0, 1) := by decide +kernel
theorem eX7_build_94 : decode cX7_build 94 = .ok (.iload_n 1, 1) := by decide +kernel
theorem eX7_build_95 : decode cX7_build 95 = .ok (.invokevirtual 73, 3) := by decide +kernel
theorem eX7_build_98 : decode cX7_build 98 = .ok (.putfield 49, 3) := by decide +kernel
theorem eX7_build_101 : decode cX7_build 101 = .ok (.iinc 1 3, 3) := by decide +kernel
theorem eX7_build_104 : decode cX7_build 104 = .ok (.goto (-26), 3) := by decide +kernel
theorem eX7_build_107 : decode cX7_build 107 = .ok (.return_, 1) := by decide +kernel
theorem eX7_trySeed_0 : decode cX7_trySeed 0 = .ok (.aload_n 0, 1) := by decide +kernel
theorem eX7_trySeed_1 : decode cX7_trySeed 1 = .ok (.iload_n 1, 1) := by decide +kernel
theorem eX7_trySeed_2 : decode cX7_trySeed 2 = .ok (.putfield 46, 3) := by decide +kernel
theorem eX7_trySeed_5 : decode cX7_trySeed 5 = .ok (.aload_n 0, 1) := by decide +kernel
theorem eX7_trySeed_6 : decode cX7_trySeed 6 = .ok (.lconst 0, 1) := by decide +kernel
theorem eX7_trySeed_7 : decode cX7_trySeed 7 = .ok (.putfield 53, 3) := by decide +kernel
theorem eX7_trySeed_10 : decode cX7_trySeed 10 = .ok (.aload_n 0, 1) := by decide +kernel
theorem eX7_trySeed_11 : decode cX7_trySeed 11 = .ok (.invokevirtual 77, 3) := by decide +kernel
theorem eX7_trySeed_14 : decode cX7_trySeed 14 = .ok (.aload_n 0, 1) := by decide +kernel
theorem eX7_trySeed_15 : decode cX7_trySeed 15 = .ok (.getfield 57, 3) := by decide +kernel
theorem eX7_trySeed_18 : decode cX7_trySeed 18 = .ok (.getfield 70, 3) := by decide +kernel
theorem eX7_trySeed_21 : decode cX7_trySeed 21 = .ok (.istore_n 2, 1) := by decide +kernel
theorem eX7_trySeed_22 : decode cX7_trySeed 22 = .ok (.iload_n 2, 1) := by decide +kernel
theorem eX7_trySeed_23 : decode cX7_trySeed 23 = .ok (.ifCond .le 47, 3) := by decide +kernel
theorem eX7_trySeed_26 : decode cX7_trySeed 26 = .ok (.iconst 0, 1) := by decide +kernel
theorem eX7_trySeed_27 : decode cX7_trySeed 27 = .ok (.istore_n 3, 1) := by decide +kernel
theorem eX7_trySeed_28 : decode cX7_trySeed 28 = .ok (.iload_n 3, 1) := by decide +kernel
theorem eX7_trySeed_29 : decode cX7_trySeed 29 = .ok (.aload_n 0, 1) := by decide +kernel
theorem eX7_trySeed_30 : decode cX7_trySeed 30 = .ok (.getfield 43, 3) := by decide +kernel
theorem eX7_trySeed_33 : decode cX7_trySeed 33 = .ok (.if_icmp .ge 31, 3) := by decide +kernel
theorem eX7_trySeed_36 : decode cX7_trySeed 36 = .ok (.aload_n 0, 1) := by decide +kernel
theorem eX7_trySeed_37 : decode cX7_trySeed 37 = .ok (.getfield 30, 3) := by decide +kernel
theorem eX7_trySeed_40 : decode cX7_trySeed 40 = .ok (.iload_n 3, 1) := by decide +kernel
theorem eX7_trySeed_41 : decode cX7_trySeed 41 = .ok (.invokestatic 80, 3) := by decide +kernel
theorem eX7_trySeed_44 : decode cX7_trySeed 44 = .ok (.iload_n 2, 1) := by decide +kernel
theorem eX7_trySeed_45 : decode cX7_trySeed 45 = .ok (.if_icmp .ne 13, 3) := by decide +kernel
theorem eX7_trySeed_48 : decode cX7_trySeed 48 = .ok (.aload_n 0, 1) := by decide +kernel
theorem eX7_trySeed_49 : decode cX7_trySeed 49 = .ok (.iload_n 3, 1) := by decide +kernel
theorem eX7_trySeed_50 : decode cX7_trySeed 50 = .ok (.invokevirtual 84, 3) := by decide +kernel
theorem eX7_trySeed_53 : decode cX7_trySeed 53 = .ok (.ifCond .ne 5, 3) := by decide +kernel
theorem eX7_trySeed_56 : decode cX7_trySeed 56 = .ok (.iconst 0, 1) := by decide +kernel
theorem eX7_trySeed_57 : decode cX7_trySeed 57 = .ok (.ireturn, 1) := by decide +kernel
theorem eX7_trySeed_58 : decode cX7_trySeed 58 = .ok (.iinc 3 1, 3) := by decide +kernel
theorem eX7_trySeed_61 : decode cX7_trySeed 61 = .ok (.goto (-33), 3) := by decide +kernel
theorem eX7_trySeed_64 : decode cX7_trySeed 64 = .ok (.iinc 2 (-1), 3) := by decide +kernel
theorem eX7_trySeed_67 : decode cX7_trySeed 67 = .ok (.goto (-45), 3) := by decide +kernel
theorem eX7_trySeed_70 : decode cX7_trySeed 70 = .ok (.aload_n 0, 1) := by decide +kernel
theorem eX7_trySeed_71 : decode cX7_trySeed 71 = .ok (.invokevirtual 87, 3) := by decide +kernel
theorem eX7_trySeed_74 : decode cX7_trySeed 74 = .ok (.iconst 1, 1) := by decide +kernel
theorem eX7_trySeed_75 : decode cX7_trySeed 75 = .ok (.ireturn, 1) := by decide +kernel
theorem eX7_hashKeys_0 : decode cX7_hashKeys 0 = .ok (.iconst 0, 1) := by decide +kernel
theorem eX7_hashKeys_1 : decode cX7_hashKeys 1 = .ok (.istore_n 1, 1) := by decide +kernel
theorem eX7_hashKeys_2 : decode cX7_hashKeys 2 = .ok (.iload_n 1, 1) := by decide +kernel
theorem eX7_hashKeys_3 : decode cX7_hashKeys 3 = .ok (.aload_n 0, 1) := by decide +kernel
theorem eX7_hashKeys_4 : decode cX7_hashKeys 4 = .ok (.getfield 43, 3) := by decide +kernel
theorem eX7_hashKeys_7 : decode cX7_hashKeys 7 = .ok (.if_icmp .ge 27, 3) := by decide +kernel
theorem eX7_hashKeys_10 : decode cX7_hashKeys 10 = .ok (.aload_n 0, 1) := by decide +kernel
theorem eX7_hashKeys_11 : decode cX7_hashKeys 11 = .ok (.getfield 30, 3) := by decide +kernel
theorem eX7_hashKeys_14 : decode cX7_hashKeys 14 = .ok (.iload_n 1, 1) := by decide +kernel
theorem eX7_hashKeys_15 : decode cX7_hashKeys 15 = .ok (.iconst 0, 1) := by decide +kernel
theorem eX7_hashKeys_16 : decode cX7_hashKeys 16 = .ok (.invokestatic 90, 3) := by decide +kernel
theorem eX7_hashKeys_19 : decode cX7_hashKeys 19 = .ok (.aload_n 0, 1) := by decide +kernel
theorem eX7_hashKeys_20 : decode cX7_hashKeys 20 = .ok (.getfield 33, 3) := by decide +kernel
theorem eX7_hashKeys_23 : decode cX7_hashKeys 23 = .ok (.iload_n 1, 1) := by decide +kernel
theorem eX7_hashKeys_24 : decode cX7_hashKeys 24 = .ok (.iconst 0, 1) := by decide +kernel
theorem eX7_hashKeys_25 : decode cX7_hashKeys 25 = .ok (.invokestatic 90, 3) := by decide +kernel
theorem eX7_hashKeys_28 : decode cX7_hashKeys 28 = .ok (.iinc 1 1, 3) := by decide +kernel
theorem eX7_hashKeys_31 : decode cX7_hashKeys 31 = .ok (.goto (-29), 3) := by decide +kernel
theorem eX7_hashKeys_34 : decode cX7_hashKeys 34 = .ok (.iconst 0, 1) := by decide +kernel
theorem eX7_hashKeys_35 : decode cX7_hashKeys 35 = .ok (.istore_n 1, 1) := by decide +kernel
theorem eX7_hashKeys_36 : decode cX7_hashKeys 36 = .ok (.iload_n 1, 1) := by decide +kernel
theorem eX7_hashKeys_37 : decode cX7_hashKeys 37 = .ok (.aload_n 0, 1) := by decide +kernel
theorem eX7_hashKeys_38 : decode cX7_hashKeys 38 = .ok (.getfield 57, 3) := by decide +kernel
theorem eX7_hashKeys_41 : decode cX7_hashKeys 41 = .ok (.getfield 70, 3) := by decide +kernel
theorem eX7_hashKeys_44 : decode cX7_hashKeys 44 = .ok (.if_icmp .ge 127, 3) := by decide +kernel
theorem eX7_hashKeys_47 : decode cX7_hashKeys 47 = .ok (.aload_n 0, 1) := by decide +kernel
theorem eX7_hashKeys_48 : decode cX7_hashKeys 48 = .ok (.getfield 14, 3) := by decide +kernel
theorem eX7_hashKeys_51 : decode cX7_hashKeys 51 = .ok (.invokevirtual 94, 3) := by decide +kernel
theorem eX7_hashKeys_54 : decode cX7_hashKeys 54 = .ok (.aload_n 0, 1) := by decide +kernel
theorem eX7_hashKeys_55 : decode cX7_hashKeys 55 = .ok (.getfield 57, 3) := by decide +kernel
theorem eX7_hashKeys_58 : decode cX7_hashKeys 58 = .ok (.iload_n 1, 1) := by decide +kernel
theorem eX7_hashKeys_59 : decode cX7_hashKeys 59 = .ok (.aload_n 0, 1) := by decide +kernel
theorem eX7_hashKeys_60 : decode cX7_hashKeys 60 = .ok (.getfield 14, 3) := by decide +kernel
theorem eX7_hashKeys_63 : decode cX7_hashKeys 63 = .ok (.invokevirtual 97, 3) := by decide +kernel
theorem eX7_hashKeys_66 : decode cX7_hashKeys 66 = .ok (.aload_n 0, 1) := by decide +kernel
theorem eX7_hashKeys_67 : decode cX7_hashKeys 67 = .ok (.aload_n 0, 1) := by decide +kernel
theorem eX7_hashKeys_68 : decode cX7_hashKeys 68 = .ok (.getfield 61, 3) := by decide +kernel
theorem eX7_hashKeys_71 : decode cX7_hashKeys 71 = .ok (.aload_n 0, 1) := by decide +kernel
theorem eX7_hashKeys_72 : decode cX7_hashKeys 72 = .ok (.getfield 14, 3) := by decide +kernel
theorem eX7_hashKeys_75 : decode cX7_hashKeys 75 = .ok (.aload_n 0, 1) := by decide +kernel
theorem eX7_hashKeys_76 : decode cX7_hashKeys 76 = .ok (.getfield 46, 3) := by decide +kernel
theorem eX7_hashKeys_79 : decode cX7_hashKeys 79 = .ok (.invokevirtual 101, 3) := by decide +kernel
theorem eX7_hashKeys_82 : decode cX7_hashKeys 82 = .ok (.invokevirtual 107, 3) := by decide +kernel
theorem eX7_hashKeys_85 : decode cX7_hashKeys 85 = .ok (.istore_n 2, 1) := by decide +kernel
theorem eX7_hashKeys_86 : decode cX7_hashKeys 86 = .ok (.aload_n 0, 1) := by decide +kernel
theorem eX7_hashKeys_87 : decode cX7_hashKeys 87 = .ok (.getfield 20, 3) := by decide +kernel
theorem eX7_hashKeys_90 : decode cX7_hashKeys 90 = .ok (.iload_n 1, 1) := by decide +kernel
theorem eX7_hashKeys_91 : decode cX7_hashKeys 91 = .ok (.iload_n 2, 1) := by decide +kernel
theorem eX7_hashKeys_92 : decode cX7_hashKeys 92 = .ok (.invokestatic 90, 3) := by decide +kernel
theorem eX7_hashKeys_95 : decode cX7_hashKeys 95 = .ok (.aload_n 0, 1) := by decide +kernel
theorem eX7_hashKeys_96 : decode cX7_hashKeys 96 = .ok (.getfield 30, 3) := by decide +kernel
theorem eX7_hashKeys_99 : decode cX7_hashKeys 99 = .ok (.iload_n 2, 1) := by decide +kernel
theorem eX7_hashKeys_100 : decode cX7_hashKeys 100 = .ok (.aload_n 0, 1) := by decide +kernel
theorem eX7_hashKeys_101 : decode cX7_hashKeys 101 = .ok (.getfield 30, 3) := by decide +kernel
theorem eX7_hashKeys_104 : decode cX7_hashKeys 104 = .ok (.iload_n 2, 1) := by decide +kernel
theorem eX7_hashKeys_105 : decode cX7_hashKeys 105 = .ok (.invokestatic 80, 3) := by decide +kernel
theorem eX7_hashKeys_108 : decode cX7_hashKeys 108 = .ok (.iconst 1, 1) := by decide +kernel
theorem eX7_hashKeys_109 : decode cX7_hashKeys 109 = .ok (.iadd, 1) := by decide +kernel
theorem eX7_hashKeys_110 : decode cX7_hashKeys 110 = .ok (.invokestatic 90, 3) := by decide +kernel
theorem eX7_hashKeys_113 : decode cX7_hashKeys 113 = .ok (.aload_n 0, 1) := by decide +kernel
theorem eX7_hashKeys_114 : decode cX7_hashKeys 114 = .ok (.getfield 24, 3) := by decide +kernel
theorem eX7_hashKeys_117 : decode cX7_hashKeys 117 = .ok (.iload_n 1, 1) := by decide +kernel
theorem eX7_hashKeys_118 : decode cX7_hashKeys 118 = .ok (.aload_n 0, 1) := by decide +kernel
theorem eX7_hashKeys_119 : decode cX7_hashKeys 119 = .ok (.getfield 61, 3) := by decide +kernel
theorem eX7_hashKeys_122 : decode cX7_hashKeys 122 = .ok (.aload_n 0, 1) := by decide +kernel
theorem eX7_hashKeys_123 : decode cX7_hashKeys 123 = .ok (.getfield 14, 3) := by decide +kernel
theorem eX7_hashKeys_126 : decode cX7_hashKeys 126 = .ok (.aload_n 0, 1) := by decide +kernel
theorem eX7_hashKeys_127 : decode cX7_hashKeys 127 = .ok (.getfield 46, 3) := by decide +kernel
theorem eX7_hashKeys_130 : decode cX7_hashKeys 130 = .ok (.iconst 1, 1) := by decide +kernel
theorem eX7_hashKeys_131 : decode cX7_hashKeys 131 = .ok (.iadd, 1) := by decide +kernel
theorem eX7_hashKeys_132 : decode cX7_hashKeys 132 = .ok (.invokevirtual 101, 3) := by decide +kernel
theorem eX7_hashKeys_135 : decode cX7_hashKeys 135 = .ok (.invokestatic 90, 3) := by decide +kernel
theorem eX7_hashKeys_138 : decode cX7_hashKeys 138 = .ok (.aload_n 0, 1) := by decide +kernel
theorem eX7_hashKeys_139 : decode cX7_hashKeys 139 = .ok (.getfield 27, 3) := by decide +kernel
theorem eX7_hashKeys_142 : decode cX7_hashKeys 142 = .ok (.iload_n 1, 1) := by decide +kernel
theorem eX7_hashKeys_143 : decode cX7_hashKeys 143 = .ok (.aload_n 0, 1) := by decide +kernel
theorem eX7_hashKeys_144 : decode cX7_hashKeys 144 = .ok (.getfield 61, 3) := by decide +kernel
theorem eX7_hashKeys_147 : decode cX7_hashKeys 147 = .ok (.aload_n 0, 1) := by decide +kernel
theorem eX7_hashKeys_148 : decode cX7_hashKeys 148 = .ok (.getfield 14, 3) := by decide +kernel
theorem eX7_hashKeys_151 : decode cX7_hashKeys 151 = .ok (.aload_n 0, 1) := by decide +kernel
theorem eX7_hashKeys_152 : decode cX7_hashKeys 152 = .ok (.getfield 46, 3) := by decide +kernel
theorem eX7_hashKeys_155 : decode cX7_hashKeys 155 = .ok (.iconst 2, 1) := by decide +kernel
theorem eX7_hashKeys_156 : decode cX7_hashKeys 156 = .ok (.iadd, 1) := by decide +kernel
theorem eX7_hashKeys_157 : decode cX7_hashKeys 157 = .ok (.invokevirtual 101, 3) := by decide +kernel
theorem eX7_hashKeys_160 : decode cX7_hashKeys 160 = .ok (.iconst 1, 1) := by decide +kernel
theorem eX7_hashKeys_161 : decode cX7_hashKeys 161 = .ok (.ior, 1) := by decide +kernel
theorem eX7_hashKeys_162 : decode cX7_hashKeys 162 = .ok (.invokestatic 90, 3) := by decide +kernel
theorem eX7_hashKeys_165 : decode cX7_hashKeys 165 = .ok (.iinc 1 1, 3) := by decide +kernel
theorem eX7_hashKeys_168 : decode cX7_hashKeys 168 = .ok (.goto (-132), 3) := by decide +kernel
theorem eX7_hashKeys_171 : decode cX7_hashKeys 171 = .ok (.return_, 1) := by decide +kernel
theorem eX7_place_0 : decode cX7_place 0 = .ok (.iconst 0, 1) := by decide +kernel
theorem eX7_place_1 : decode cX7_place 1 = .ok (.istore_n 2, 1) := by decide +kernel
theorem eX7_place_2 : decode cX7_place 2 = .ok (.iload_n 2, 1) := by decide +kernel
theorem eX7_place_3 : decode cX7_place 3 = .ok (.bipush 99, 2) := by decide +kernel
theorem eX7_place_5 : decode cX7_place 5 = .ok (.if_icmp .gt 29, 3) := by decide +kernel
theorem eX7_place_8 : decode cX7_place 8 = .ok (.aload_n 0, 1) := by decide +kernel
theorem eX7_place_9 : decode cX7_place 9 = .ok (.iload_n 1, 1) := by decide +kernel
theorem eX7_place_10 : decode cX7_place 10 = .ok (.iload_n 2, 1) := by decide +kernel
theorem eX7_place_11 : decode cX7_place 11 = .ok (.invokevirtual 111, 3) := by decide +kernel
theorem eX7_place_14 : decode cX7_place 14 = .ok (.ifCond .eq 14, 3) := by decide +kernel
theorem eX7_place_17 : decode cX7_place 17 = .ok (.aload_n 0, 1) := by decide +kernel
theorem eX7_place_18 : decode cX7_place 18 = .ok (.getfield 33, 3) := by decide +kernel
theorem eX7_place_21 : decode cX7_place 21 = .ok (.iload_n 1, 1) := by decide +kernel
theorem eX7_place_22 : decode cX7_place 22 = .ok (.iload_n 2, 1) := by decide +kernel
theorem eX7_place_23 : decode cX7_place 23 = .ok (.invokestatic 90, 3) := by decide +kernel
theorem eX7_place_26 : decode cX7_place 26 = .ok (.iconst 1, 1) := by decide +kernel
theorem eX7_place_27 : decode cX7_place 27 = .ok (.ireturn, 1) := by decide +kernel
theorem eX7_place_28 : decode cX7_place 28 = .ok (.iinc 2 1, 3) := by decide +kernel
theorem eX7_place_31 : decode cX7_place 31 = .ok (.goto (-29), 3) := by decide +kernel
theorem eX7_place_34 : decode cX7_place 34 = .ok (.iconst 0, 1) := by decide +kernel
theorem eX7_place_35 : decode cX7_place 35 = .ok (.ireturn, 1) := by decide +kernel
theorem eX7_takeSlots_0 : decode cX7_takeSlots 0 = .ok (.aload_n 0, 1) := by decide +kernel
theorem eX7_takeSlots_1 : decode cX7_takeSlots 1 = .ok (.getfield 53, 3) := by decide +kernel
theorem eX7_takeSlots_4 : decode cX7_takeSlots 4 = .ok (.lstore_n 3, 1) := by decide +kernel
theorem eX7_takeSlots_5 : decode cX7_takeSlots 5 = .ok (.iconst 0, 1) := by decide +kernel
theorem eX7_takeSlots_6 : decode cX7_takeSlots 6 = .ok (.istore 5, 2) := by decide +kernel
theorem eX7_takeSlots_8 : decode cX7_takeSlots 8 = .ok (.iload 5, 2) := by decide +kernel
theorem eX7_takeSlots_10 : decode cX7_takeSlots 10 = .ok (.aload_n 0, 1) := by decide +kernel
theorem eX7_takeSlots_11 : decode cX7_takeSlots 11 = .ok (.getfield 57, 3) := by decide +kernel
theorem eX7_takeSlots_14 : decode cX7_takeSlots 14 = .ok (.getfield 70, 3) := by decide +kernel
theorem eX7_takeSlots_17 : decode cX7_takeSlots 17 = .ok (.if_icmp .ge 65, 3) := by decide +kernel
theorem eX7_takeSlots_20 : decode cX7_takeSlots 20 = .ok (.aload_n 0, 1) := by decide +kernel
theorem eX7_takeSlots_21 : decode cX7_takeSlots 21 = .ok (.getfield 20, 3) := by decide +kernel
theorem eX7_takeSlots_24 : decode cX7_takeSlots 24 = .ok (.iload 5, 2) := by decide +kernel
theorem eX7_takeSlots_26 : decode cX7_takeSlots 26 = .ok (.invokestatic 80, 3) := by decide +kernel
theorem eX7_takeSlots_29 : decode cX7_takeSlots 29 = .ok (.iload_n 1, 1) := by decide +kernel
theorem eX7_takeSlots_30 : decode cX7_takeSlots 30 = .ok (.if_icmp .ne 46, 3) := by decide +kernel
theorem eX7_takeSlots_33 : decode cX7_takeSlots 33 = .ok (.lconst 1, 1) := by decide +kernel
theorem eX7_takeSlots_34 : decode cX7_takeSlots 34 = .ok (.aload_n 0, 1) := by decide +kernel
theorem eX7_takeSlots_35 : decode cX7_takeSlots 35 = .ok (.aload_n 0, 1) := by decide +kernel
theorem eX7_takeSlots_36 : decode cX7_takeSlots 36 = .ok (.getfield 24, 3) := by decide +kernel
theorem eX7_takeSlots_39 : decode cX7_takeSlots 39 = .ok (.iload 5, 2) := by decide +kernel
theorem eX7_takeSlots_41 : decode cX7_takeSlots 41 = .ok (.invokestatic 80, 3) := by decide +kernel
theorem eX7_takeSlots_44 : decode cX7_takeSlots 44 = .ok (.aload_n 0, 1) := by decide +kernel
theorem eX7_takeSlots_45 : decode cX7_takeSlots 45 = .ok (.getfield 27, 3) := by decide +kernel
theorem eX7_takeSlots_48 : decode cX7_takeSlots 48 = .ok (.iload 5, 2) := by decide +kernel
theorem eX7_takeSlots_50 : decode cX7_takeSlots 50 = .ok (.invokestatic 80, 3) := by decide +kernel
theorem eX7_takeSlots_53 : decode cX7_takeSlots 53 = .ok (.iload_n 2, 1) := by decide +kernel
theorem eX7_takeSlots_54 : decode cX7_takeSlots 54 = .ok (.invokevirtual 115, 3) := by decide +kernel
theorem eX7_takeSlots_57 : decode cX7_takeSlots 57 = .ok (.lshl, 1) := by decide +kernel
theorem eX7_takeSlots_58 : decode cX7_takeSlots 58 = .ok (.lstore 6, 2) := by decide +kernel
theorem eX7_takeSlots_60 : decode cX7_takeSlots 60 = .ok (.lload_n 3, 1) := by decide +kernel
theorem eX7_takeSlots_61 : decode cX7_takeSlots 61 = .ok (.lload 6, 2) := by decide +kernel
theorem eX7_takeSlots_63 : decode cX7_takeSlots 63 = .ok (.land, 1) := by decide +kernel
theorem eX7_takeSlots_64 : decode cX7_takeSlots 64 = .ok (.lconst 0, 1) := by decide +kernel
theorem eX7_takeSlots_65 : decode cX7_takeSlots 65 = .ok (.lcmp, 1) := by decide +kernel
theorem eX7_takeSlots_66 : decode cX7_takeSlots 66 = .ok (.ifCond .eq 5, 3) := by decide +kernel
theorem eX7_takeSlots_69 : decode cX7_takeSlots 69 = .ok (.iconst 0, 1) := by decide +kernel
theorem eX7_takeSlots_70 : decode cX7_takeSlots 70 = .ok (.ireturn, 1) := by decide +kernel
theorem eX7_takeSlots_71 : decode cX7_takeSlots 71 = .ok (.lload_n 3, 1) := by decide +kernel
theorem eX7_takeSlots_72 : decode cX7_takeSlots 72 = .ok (.lload 6, 2) := by decide +kernel
theorem eX7_takeSlots_74 : decode cX7_takeSlots 74 = .ok (.lor, 1) := by decide +kernel
theorem eX7_takeSlots_75 : decode cX7_takeSlots 75 = .ok (.lstore_n 3, 1) := by decide +kernel
theorem eX7_takeSlots_76 : decode cX7_takeSlots 76 = .ok (.iinc 5 1, 3) := by decide +kernel
theorem eX7_takeSlots_79 : decode cX7_takeSlots 79 = .ok (.goto (-71), 3) := by decide +kernel
theorem eX7_takeSlots_82 : decode cX7_takeSlots 82 = .ok (.aload_n 0, 1) := by decide +kernel
theorem eX7_takeSlots_83 : decode cX7_takeSlots 83 = .ok (.lload_n 3, 1) := by decide +kernel
theorem eX7_takeSlots_84 : decode cX7_takeSlots 84 = .ok (.putfield 53, 3) := by decide +kernel
theorem eX7_takeSlots_87 : decode cX7_takeSlots 87 = .ok (.iconst 1, 1) := by decide +kernel
theorem eX7_takeSlots_88 : decode cX7_takeSlots 88 = .ok (.ireturn, 1) := by decide +kernel
theorem eX7_nameOwners_0 : decode cX7_nameOwners 0 = .ok (.iconst 0, 1) := by decide +kernel
theorem eX7_nameOwners_1 : decode cX7_nameOwners 1 = .ok (.istore_n 1, 1) := by decide +kernel
theorem eX7_nameOwners_2 : decode cX7_nameOwners 2 = .ok (.iload_n 1, 1) := by decide +kernel
theorem eX7_nameOwners_3 : decode cX7_nameOwners 3 = .ok (.aload_n 0, 1) := by decide +kernel
theorem eX7_nameOwners_4 : decode cX7_nameOwners 4 = .ok (.getfield 39, 3) := by decide +kernel
theorem eX7_nameOwners_7 : decode cX7_nameOwners 7 = .ok (.if_icmp .ge 18, 3) := by decide +kernel
theorem eX7_nameOwners_10 : decode cX7_nameOwners 10 = .ok (.aload_n 0, 1) := by decide +kernel
theorem eX7_nameOwners_11 : decode cX7_nameOwners 11 = .ok (.getfield 36, 3) := by decide +kernel
theorem eX7_nameOwners_14 : decode cX7_nameOwners 14 = .ok (.iload_n 1, 1) := by decide +kernel
theorem eX7_nameOwners_15 : decode cX7_nameOwners 15 = .ok (.iconst (-1), 1) := by decide +kernel
theorem eX7_nameOwners_16 : decode cX7_nameOwners 16 = .ok (.invokestatic 90, 3) := by decide +kernel
theorem eX7_nameOwners_19 : decode cX7_nameOwners 19 = .ok (.iinc 1 1, 3) := by decide +kernel
theorem eX7_nameOwners_22 : decode cX7_nameOwners 22 = .ok (.goto (-20), 3) := by decide +kernel
theorem eX7_nameOwners_25 : decode cX7_nameOwners 25 = .ok (.iconst 0, 1) := by decide +kernel
theorem eX7_nameOwners_26 : decode cX7_nameOwners 26 = .ok (.istore_n 1, 1) := by decide +kernel
theorem eX7_nameOwners_27 : decode cX7_nameOwners 27 = .ok (.iload_n 1, 1) := by decide +kernel
theorem eX7_nameOwners_28 : decode cX7_nameOwners 28 = .ok (.aload_n 0, 1) := by decide +kernel
theorem eX7_nameOwners_29 : decode cX7_nameOwners 29 = .ok (.getfield 57, 3) := by decide +kernel
theorem eX7_nameOwners_32 : decode cX7_nameOwners 32 = .ok (.getfield 70, 3) := by decide +kernel
theorem eX7_nameOwners_35 : decode cX7_nameOwners 35 = .ok (.if_icmp .ge 54, 3) := by decide +kernel
theorem eX7_nameOwners_38 : decode cX7_nameOwners 38 = .ok (.aload_n 0, 1) := by decide +kernel
theorem eX7_nameOwners_39 : decode cX7_nameOwners 39 = .ok (.getfield 33, 3) := by decide +kernel
theorem eX7_nameOwners_42 : decode cX7_nameOwners 42 = .ok (.aload_n 0, 1) := by decide +kernel
theorem eX7_nameOwners_43 : decode cX7_nameOwners 43 = .ok (.getfield 20, 3) := by decide +kernel
theorem eX7_nameOwners_46 : decode cX7_nameOwners 46 = .ok (.iload_n 1, 1) := by decide +kernel
theorem eX7_nameOwners_47 : decode cX7_nameOwners 47 = .ok (.invokestatic 80, 3) := by decide +kernel
theorem eX7_nameOwners_50 : decode cX7_nameOwners 50 = .ok (.invokestatic 80, 3) := by decide +kernel
theorem eX7_nameOwners_53 : decode cX7_nameOwners 53 = .ok (.istore_n 2, 1) := by decide +kernel
theorem eX7_nameOwners_54 : decode cX7_nameOwners 54 = .ok (.aload_n 0, 1) := by decide +kernel
theorem eX7_nameOwners_55 : decode cX7_nameOwners 55 = .ok (.getfield 36, 3) := by decide +kernel
theorem eX7_nameOwners_58 : decode cX7_nameOwners 58 = .ok (.aload_n 0, 1) := by decide +kernel
theorem eX7_nameOwners_59 : decode cX7_nameOwners 59 = .ok (.aload_n 0, 1) := by decide +kernel
theorem eX7_nameOwners_60 : decode cX7_nameOwners 60 = .ok (.getfield 24, 3) := by decide +kernel
theorem eX7_nameOwners_63 : decode cX7_nameOwners 63 = .ok (.iload_n 1, 1) := by decide +kernel
theorem eX7_nameOwners_64 : decode cX7_nameOwners 64 = .ok (.invokestatic 80, 3) := by decide +kernel
theorem eX7_nameOwners_67 : decode cX7_nameOwners 67 = .ok (.aload_n 0, 1) := by decide +kernel
theorem eX7_nameOwners_68 : decode cX7_nameOwners 68 = .ok (.getfield 27, 3) := by decide +kernel
theorem eX7_nameOwners_71 : decode cX7_nameOwners 71 = .ok (.iload_n 1, 1) := by decide +kernel
theorem eX7_nameOwners_72 : decode cX7_nameOwners 72 = .ok (.invokestatic 80, 3) := by decide +kernel
theorem eX7_nameOwners_75 : decode cX7_nameOwners 75 = .ok (.iload_n 2, 1) := by decide +kernel
theorem eX7_nameOwners_76 : decode cX7_nameOwners 76 = .ok (.invokevirtual 115, 3) := by decide +kernel
theorem eX7_nameOwners_79 : decode cX7_nameOwners 79 = .ok (.iload_n 1, 1) := by decide +kernel
theorem eX7_nameOwners_80 : decode cX7_nameOwners 80 = .ok (.invokestatic 90, 3) := by decide +kernel
theorem eX7_nameOwners_83 : decode cX7_nameOwners 83 = .ok (.iinc 1 1, 3) := by decide +kernel
theorem eX7_nameOwners_86 : decode cX7_nameOwners 86 = .ok (.goto (-59), 3) := by decide +kernel
theorem eX7_nameOwners_89 : decode cX7_nameOwners 89 = .ok (.return_, 1) := by decide +kernel
theorem eX7_slotFor_0 : decode cX7_slotFor 0 = .ok (.aload_n 0, 1) := by decide +kernel
theorem eX7_slotFor_1 : decode cX7_slotFor 1 = .ok (.getfield 39, 3) := by decide +kernel
theorem eX7_slotFor_4 : decode cX7_slotFor 4 = .ok (.ifCond .gt 7, 3) := by decide +kernel
theorem eX7_slotFor_11 : decode cX7_slotFor 11 = .ok (.iload_n 1, 1) := by decide +kernel
theorem eX7_slotFor_12 : decode cX7_slotFor 12 = .ok (.iload_n 3, 1) := by decide +kernel
theorem eX7_slotFor_13 : decode cX7_slotFor 13 = .ok (.iload_n 2, 1) := by decide +kernel
theorem eX7_slotFor_14 : decode cX7_slotFor 14 = .ok (.imul, 1) := by decide +kernel
theorem eX7_slotFor_15 : decode cX7_slotFor 15 = .ok (.iadd, 1) := by decide +kernel
theorem eX7_slotFor_16 : decode cX7_slotFor 16 = .ok (.aload_n 0, 1) := by decide +kernel
theorem eX7_slotFor_17 : decode cX7_slotFor 17 = .ok (.getfield 39, 3) := by decide +kernel
theorem eX7_slotFor_20 : decode cX7_slotFor 20 = .ok (.invokestatic 119, 3) := by decide +kernel
theorem eX7_slotFor_23 : decode cX7_slotFor 23 = .ok (.ireturn, 1) := by decide +kernel
theorem eX7_bucketFor_0 : decode cX7_bucketFor 0 = .ok (.aload_n 0, 1) := by decide +kernel
theorem eX7_bucketFor_1 : decode cX7_bucketFor 1 = .ok (.getfield 43, 3) := by decide +kernel
theorem eX7_bucketFor_4 : decode cX7_bucketFor 4 = .ok (.ifCond .gt 7, 3) := by decide +kernel
theorem eX7_bucketFor_11 : decode cX7_bucketFor 11 = .ok (.iload_n 1, 1) := by decide +kernel
theorem eX7_bucketFor_12 : decode cX7_bucketFor 12 = .ok (.aload_n 0, 1) := by decide +kernel
theorem eX7_bucketFor_13 : decode cX7_bucketFor 13 = .ok (.getfield 43, 3) := by decide +kernel
theorem eX7_bucketFor_16 : decode cX7_bucketFor 16 = .ok (.invokestatic 119, 3) := by decide +kernel
theorem eX7_bucketFor_19 : decode cX7_bucketFor 19 = .ok (.ireturn, 1) := by decide +kernel
theorem eX8_init_0 : decode cX8_init 0 = .ok (.aload_n 0, 1) := by decide +kernel
theorem eX8_init_1 : decode cX8_init 1 = .ok (.invokespecial 3, 3) := by decide +kernel
theorem eX8_init_4 : decode cX8_init 4 = .ok (.aload_n 0, 1) := by decide +kernel
theorem eX8_init_5 : decode cX8_init 5 = .ok (.iconst 0, 1) := by decide +kernel
theorem eX8_init_6 : decode cX8_init 6 = .ok (.putfield 9, 3) := by decide +kernel
theorem eX8_init_9 : decode cX8_init 9 = .ok (.aload_n 0, 1) := by decide +kernel
theorem eX8_init_10 : decode cX8_init 10 = .ok (.iload_n 1, 1) := by decide +kernel
theorem eX8_init_11 : decode cX8_init 11 = .ok (.iconst 0, 1) := by decide +kernel
theorem eX8_init_12 : decode cX8_init 12 = .ok (.invokestatic 15, 3) := by decide +kernel
theorem eX8_init_15 : decode cX8_init 15 = .ok (.newarray .int, 2) := by decide +kernel
theorem eX8_init_17 : decode cX8_init 17 = .ok (.putfield 21, 3) := by decide +kernel
theorem eX8_init_20 : decode cX8_init 20 = .ok (.return_, 1) := by decide +kernel
theorem eX8_empty_0 : decode cX8_empty 0 = .ok (.aload_n 0, 1) := by decide +kernel
theorem eX8_empty_1 : decode cX8_empty 1 = .ok (.iconst 0, 1) := by decide +kernel
theorem eX8_empty_2 : decode cX8_empty 2 = .ok (.putfield 9, 3) := by decide +kernel
theorem eX8_empty_5 : decode cX8_empty 5 = .ok (.return_, 1) := by decide +kernel
theorem eX8_signAt_0 : decode cX8_signAt 0 = .ok (.iload_n 1, 1) := by decide +kernel
theorem eX8_signAt_1 : decode cX8_signAt 1 = .ok (.ifCond .lt 29, 3) := by decide +kernel
theorem eX8_signAt_4 : decode cX8_signAt 4 = .ok (.iload_n 1, 1) := by decide +kernel
theorem eX8_signAt_5 : decode cX8_signAt 5 = .ok (.aload_n 0, 1) := by decide +kernel
theorem eX8_signAt_6 : decode cX8_signAt 6 = .ok (.getfield 9, 3) := by decide +kernel
theorem eX8_signAt_9 : decode cX8_signAt 9 = .ok (.if_icmp .ge 21, 3) := by decide +kernel
theorem eX8_signAt_12 : decode cX8_signAt 12 = .ok (.iload_n 1, 1) := by decide +kernel
theorem eX8_signAt_13 : decode cX8_signAt 13 = .ok (.aload_n 0, 1) := by decide +kernel
theorem eX8_signAt_14 : decode cX8_signAt 14 = .ok (.getfield 21, 3) := by decide +kernel
theorem eX8_signAt_17 : decode cX8_signAt 17 = .ok (.arraylength, 1) := by decide +kernel
theorem eX8_signAt_18 : decode cX8_signAt 18 = .ok (.if_icmp .ge 12, 3) := by decide +kernel
theorem eX8_signAt_21 : decode cX8_signAt 21 = .ok (.aload_n 0, 1) := by decide +kernel
theorem eX8_signAt_22 : decode cX8_signAt 22 = .ok (.getfield 21, 3) := by decide +kernel
theorem eX8_signAt_25 : decode cX8_signAt 25 = .ok (.iload_n 1, 1) := by decide +kernel
theorem eX8_signAt_26 : decode cX8_signAt 26 = .ok (.iaload, 1) := by decide +kernel
theorem eX8_signAt_27 : decode cX8_signAt 27 = .ok (.goto 4, 3) := by decide +kernel
theorem eX8_signAt_31 : decode cX8_signAt 31 = .ok (.ireturn, 1) := by decide +kernel
theorem eX8_write_0 : decode cX8_write 0 = .ok (.aload_n 0, 1) := by decide +kernel
theorem eX8_write_1 : decode cX8_write 1 = .ok (.getfield 9, 3) := by decide +kernel
theorem eX8_write_4 : decode cX8_write 4 = .ok (.ifCond .lt 35, 3) := by decide +kernel
theorem eX8_write_7 : decode cX8_write 7 = .ok (.aload_n 0, 1) := by decide +kernel
theorem eX8_write_8 : decode cX8_write 8 = .ok (.getfield 9, 3) := by decide +kernel
theorem eX8_write_11 : decode cX8_write 11 = .ok (.aload_n 0, 1) := by decide +kernel
theorem eX8_write_12 : decode cX8_write 12 = .ok (.getfield 21, 3) := by decide +kernel
theorem eX8_write_15 : decode cX8_write 15 = .ok (.arraylength, 1) := by decide +kernel
theorem eX8_write_16 : decode cX8_write 16 = .ok (.if_icmp .ge 23, 3) := by decide +kernel
theorem eX8_write_19 : decode cX8_write 19 = .ok (.aload_n 0, 1) := by decide +kernel
theorem eX8_write_20 : decode cX8_write 20 = .ok (.getfield 21, 3) := by decide +kernel
theorem eX8_write_23 : decode cX8_write 23 = .ok (.aload_n 0, 1) := by decide +kernel
theorem eX8_write_24 : decode cX8_write 24 = .ok (.getfield 9, 3) := by decide +kernel
theorem eX8_write_27 : decode cX8_write 27 = .ok (.iload_n 1, 1) := by decide +kernel
theorem eX8_write_28 : decode cX8_write 28 = .ok (.iastore, 1) := by decide +kernel
theorem eX8_write_29 : decode cX8_write 29 = .ok (.aload_n 0, 1) := by decide +kernel
theorem eX8_write_30 : decode cX8_write 30 = .ok (.dup, 1) := by decide +kernel
theorem eX8_write_31 : decode cX8_write 31 = .ok (.getfield 9, 3) := by decide +kernel
theorem eX8_write_34 : decode cX8_write 34 = .ok (.iconst 1, 1) := by decide +kernel
theorem eX8_write_35 : decode cX8_write 35 = .ok (.iadd, 1) := by decide +kernel
theorem eX8_write_36 : decode cX8_write 36 = .ok (.putfield 9, 3) := by decide +kernel
theorem eX8_write_39 : decode cX8_write 39 = .ok (.return_, 1) := by decide +kernel
theorem eX8_isKeySign_0 : decode cX8_isKeySign 0 = .ok (.aload_n 0, 1) := by decide +kernel
theorem eX8_isKeySign_1 : decode cX8_isKeySign 1 = .ok (.iload_n 1, 1) := by decide +kernel
theorem eX8_isKeySign_2 : decode cX8_isKeySign 2 = .ok (.invokevirtual 29, 3) := by decide +kernel
theorem eX8_isKeySign_5 : decode cX8_isKeySign 5 = .ok (.istore_n 2, 1) := by decide +kernel
theorem eX8_isKeySign_6 : decode cX8_isKeySign 6 = .ok (.iload_n 2, 1) := by decide +kernel
theorem eX8_isKeySign_7 : decode cX8_isKeySign 7 = .ok (.invokestatic 33, 3) := by decide +kernel
theorem eX8_isKeySign_10 : decode cX8_isKeySign 10 = .ok (.ifCond .ne 10, 3) := by decide +kernel
theorem eX8_isKeySign_20 : decode cX8_isKeySign 20 = .ok (.iconst 1, 1) := by decide +kernel
theorem eX8_isKeySign_21 : decode cX8_isKeySign 21 = .ok (.goto 4, 3) := by decide +kernel
theorem eX8_isKeySign_25 : decode cX8_isKeySign 25 = .ok (.ireturn, 1) := by decide +kernel
theorem eX8_isKey_0 : decode cX8_isKey 0 = .ok (.iconst 0, 1) := by decide +kernel
theorem eX8_isKey_1 : decode cX8_isKey 1 = .ok (.istore_n 1, 1) := by decide +kernel
theorem eX8_isKey_2 : decode cX8_isKey 2 = .ok (.iload_n 1, 1) := by decide +kernel
theorem eX8_isKey_3 : decode cX8_isKey 3 = .ok (.aload_n 0, 1) := by decide +kernel
theorem eX8_isKey_4 : decode cX8_isKey 4 = .ok (.getfield 9, 3) := by decide +kernel
theorem eX8_isKey_7 : decode cX8_isKey 7 = .ok (.if_icmp .ge 19, 3) := by decide +kernel
theorem eX8_isKey_10 : decode cX8_isKey 10 = .ok (.aload_n 0, 1) := by decide +kernel
theorem eX8_isKey_11 : decode cX8_isKey 11 = .ok (.iload_n 1, 1) := by decide +kernel
theorem eX8_isKey_12 : decode cX8_isKey 12 = .ok (.invokevirtual 40, 3) := by decide +kernel
theorem eX8_isKey_15 : decode cX8_isKey 15 = .ok (.ifCond .ne 5, 3) := by decide +kernel
theorem eX8_isKey_20 : decode cX8_isKey 20 = .ok (.iinc 1 1, 3) := by decide +kernel
theorem eX8_isKey_23 : decode cX8_isKey 23 = .ok (.goto (-21), 3) := by decide +kernel
theorem eX8_isKey_26 : decode cX8_isKey 26 = .ok (.aload_n 0, 1) := by decide +kernel
theorem eX8_isKey_27 : decode cX8_isKey 27 = .ok (.getfield 9, 3) := by decide +kernel
theorem eX8_isKey_30 : decode cX8_isKey 30 = .ok (.iconst 1, 1) := by decide +kernel
theorem eX8_isKey_31 : decode cX8_isKey 31 = .ok (.if_icmp .lt 16, 3) := by decide +kernel
theorem eX8_isKey_34 : decode cX8_isKey 34 = .ok (.aload_n 0, 1) := by decide +kernel
theorem eX8_isKey_35 : decode cX8_isKey 35 = .ok (.getfield 9, 3) := by decide +kernel
theorem eX8_isKey_38 : decode cX8_isKey 38 = .ok (.bipush 8, 2) := by decide +kernel
theorem eX8_isKey_40 : decode cX8_isKey 40 = .ok (.if_icmp .gt 7, 3) := by decide +kernel
theorem eX8_isKey_43 : decode cX8_isKey 43 = .ok (.iconst 1, 1) := by decide +kernel
theorem eX8_isKey_44 : decode cX8_isKey 44 = .ok (.goto 4, 3) := by decide +kernel
theorem eX8_isKey_48 : decode cX8_isKey 48 = .ok (.ireturn, 1) := by decide +kernel
theorem eL_append_0 : decode cL_append 0 = .ok (.aload_n 2, 1) := by decide +kernel
theorem eL_append_1 : decode cL_append 1 = .ok (.iconst 0, 1) := by decide +kernel
theorem eL_append_2 : decode cL_append 2 = .ok (.aload_n 0, 1) := by decide +kernel
theorem eL_append_3 : decode cL_append 3 = .ok (.iload_n 1, 1) := by decide +kernel
theorem eL_append_4 : decode cL_append 4 = .ok (.invokevirtual 7, 3) := by decide +kernel
theorem eL_append_7 : decode cL_append 7 = .ok (.i2l, 1) := by decide +kernel
theorem eL_append_8 : decode cL_append 8 = .ok (.lastore, 1) := by decide +kernel
theorem eL_append_9 : decode cL_append 9 = .ok (.goto 9, 3) := by decide +kernel
theorem eL_append_18 : decode cL_append 18 = .ok (.iconst 0, 1) := by decide +kernel
theorem eL_append_19 : decode cL_append 19 = .ok (.ireturn, 1) := by decide +kernel
theorem eL_add_0 : decode cL_add 0 = .ok (.aload_n 2, 1) := by decide +kernel
theorem eL_add_1 : decode cL_add 1 = .ok (.iconst 0, 1) := by decide +kernel
theorem eL_add_2 : decode cL_add 2 = .ok (.aload_n 0, 1) := by decide +kernel
theorem eL_add_3 : decode cL_add 3 = .ok (.iload_n 1, 1) := by decide +kernel
theorem eL_add_4 : decode cL_add 4 = .ok (.invokevirtual 17, 3) := by decide +kernel
theorem eL_add_7 : decode cL_add 7 = .ok (.i2l, 1) := by decide +kernel
theorem eL_add_8 : decode cL_add 8 = .ok (.lastore, 1) := by decide +kernel
theorem eL_add_9 : decode cL_add 9 = .ok (.goto 9, 3) := by decide +kernel
theorem eL_add_18 : decode cL_add 18 = .ok (.iconst 0, 1) := by decide +kernel
theorem eL_add_19 : decode cL_add 19 = .ok (.ireturn, 1) := by decide +kernel
theorem eL_trees_0 : decode cL_trees 0 = .ok (.aload_n 2, 1) := by decide +kernel
theorem eL_trees_1 : decode cL_trees 1 = .ok (.iconst 0, 1) := by decide +kernel
theorem eL_trees_2 : decode cL_trees 2 = .ok (.aload_n 0, 1) := by decide +kernel
theorem eL_trees_3 : decode cL_trees 3 = .ok (.iload_n 1, 1) := by decide +kernel
theorem eL_trees_4 : decode cL_trees 4 = .ok (.invokevirtual 72, 3) := by decide +kernel
theorem eL_trees_7 : decode cL_trees 7 = .ok (.i2l, 1) := by decide +kernel
theorem eL_trees_8 : decode cL_trees 8 = .ok (.lastore, 1) := by decide +kernel
theorem eL_trees_9 : decode cL_trees 9 = .ok (.goto 6, 3) := by decide +kernel
theorem eL_trees_15 : decode cL_trees 15 = .ok (.iconst 0, 1) := by decide +kernel
theorem eL_trees_16 : decode cL_trees 16 = .ok (.ireturn, 1) := by decide +kernel
theorem eL_law_0 : decode cL_law 0 = .ok (.new 8, 3) := by decide +kernel
theorem eL_law_3 : decode cL_law 3 = .ok (.dup, 1) := by decide +kernel
theorem eL_law_4 : decode cL_law 4 = .ok (.invokespecial 93, 3) := by decide +kernel
theorem eL_law_7 : decode cL_law 7 = .ok (.astore_n 1, 1) := by decide +kernel
theorem eL_law_8 : decode cL_law 8 = .ok (.new 94, 3) := by decide +kernel
theorem eL_law_11 : decode cL_law 11 = .ok (.dup, 1) := by decide +kernel
theorem eL_law_12 : decode cL_law 12 = .ok (.invokespecial 96, 3) := by decide +kernel
theorem eL_law_15 : decode cL_law 15 = .ok (.astore_n 2, 1) := by decide +kernel
theorem eL_law_16 : decode cL_law 16 = .ok (.iconst 1, 1) := by decide +kernel
theorem eL_law_17 : decode cL_law 17 = .ok (.newarray .long, 2) := by decide +kernel
theorem eL_law_19 : decode cL_law 19 = .ok (.astore_n 3, 1) := by decide +kernel
theorem eL_law_20 : decode cL_law 20 = .ok (.iconst 0, 1) := by decide +kernel
theorem eL_law_21 : decode cL_law 21 = .ok (.istore 4, 2) := by decide +kernel
theorem eL_law_23 : decode cL_law 23 = .ok (.iload 4, 2) := by decide +kernel
theorem eL_law_25 : decode cL_law 25 = .ok (.aload_n 0, 1) := by decide +kernel
theorem eL_law_26 : decode cL_law 26 = .ok (.arraylength, 1) := by decide +kernel
theorem eL_law_27 : decode cL_law 27 = .ok (.iconst 3, 1) := by decide +kernel
theorem eL_law_28 : decode cL_law 28 = .ok (.isub, 1) := by decide +kernel
theorem eL_law_29 : decode cL_law 29 = .ok (.if_icmp .gt 975, 3) := by decide +kernel
theorem eL_law_32 : decode cL_law 32 = .ok (.aload_n 0, 1) := by decide +kernel
theorem eL_law_33 : decode cL_law 33 = .ok (.iload 4, 2) := by decide +kernel
theorem eL_law_35 : decode cL_law 35 = .ok (.iaload, 1) := by decide +kernel
theorem eL_law_36 : decode cL_law 36 = .ok (.bipush 31, 2) := by decide +kernel
theorem eL_law_38 : decode cL_law 38 = .ok (.iand, 1) := by decide +kernel
theorem eL_law_39 : decode cL_law 39 = .ok (.tableswitch 959 0 29 #[133, 161, 174, 202, 230, 270, 310, 338, 354, 367, 407, 447, 487, 515, 543, 571, 599, 627, 655, 683, 696, 724, 737, 762, 790, 818, 846, 862, 902, 915], 133) := by decide +kernel
theorem eL_law_172 : decode cL_law 172 = .ok (.aload_n 1, 1) := by decide +kernel
theorem eL_law_173 : decode cL_law 173 = .ok (.aload_n 0, 1) := by decide +kernel
theorem eL_law_174 : decode cL_law 174 = .ok (.iload 4, 2) := by decide +kernel
theorem eL_law_176 : decode cL_law 176 = .ok (.iconst 1, 1) := by decide +kernel
theorem eL_law_177 : decode cL_law 177 = .ok (.iadd, 1) := by decide +kernel
theorem eL_law_178 : decode cL_law 178 = .ok (.iaload, 1) := by decide +kernel
theorem eL_law_179 : decode cL_law 179 = .ok (.aload_n 3, 1) := by decide +kernel
theorem eL_law_180 : decode cL_law 180 = .ok (.invokestatic 97, 3) := by decide +kernel
theorem eL_law_183 : decode cL_law 183 = .ok (.istore 5, 2) := by decide +kernel
theorem eL_law_185 : decode cL_law 185 = .ok (.aload_n 2, 1) := by decide +kernel
theorem eL_law_186 : decode cL_law 186 = .ok (.aload_n 0, 1) := by decide +kernel
theorem eL_law_187 : decode cL_law 187 = .ok (.iload 4, 2) := by decide +kernel
theorem eL_law_189 : decode cL_law 189 = .ok (.iconst 1, 1) := by decide +kernel
theorem eL_law_190 : decode cL_law 190 = .ok (.iadd, 1) := by decide +kernel
theorem eL_law_191 : decode cL_law 191 = .ok (.iaload, 1) := by decide +kernel
theorem eL_law_192 : decode cL_law 192 = .ok (.invokevirtual 102, 3) := by decide +kernel
theorem eL_law_195 : decode cL_law 195 = .ok (.istore 6, 2) := by decide +kernel
theorem eL_law_197 : decode cL_law 197 = .ok (.goto 801, 3) := by decide +kernel
theorem eL_law_213 : decode cL_law 213 = .ok (.aload_n 1, 1) := by decide +kernel
theorem eL_law_214 : decode cL_law 214 = .ok (.aload_n 0, 1) := by decide +kernel
theorem eL_law_215 : decode cL_law 215 = .ok (.iload 4, 2) := by decide +kernel
theorem eL_law_217 : decode cL_law 217 = .ok (.iconst 1, 1) := by decide +kernel
theorem eL_law_218 : decode cL_law 218 = .ok (.iadd, 1) := by decide +kernel
theorem eL_law_219 : decode cL_law 219 = .ok (.iaload, 1) := by decide +kernel
theorem eL_law_220 : decode cL_law 220 = .ok (.aload_n 3, 1) := by decide +kernel
theorem eL_law_221 : decode cL_law 221 = .ok (.invokestatic 107, 3) := by decide +kernel
theorem eL_law_224 : decode cL_law 224 = .ok (.istore 5, 2) := by decide +kernel
theorem eL_law_226 : decode cL_law 226 = .ok (.aload_n 2, 1) := by decide +kernel
theorem eL_law_227 : decode cL_law 227 = .ok (.aload_n 0, 1) := by decide +kernel
theorem eL_law_228 : decode cL_law 228 = .ok (.iload 4, 2) := by decide +kernel
theorem eL_law_230 : decode cL_law 230 = .ok (.iconst 1, 1) := by decide +kernel
theorem eL_law_231 : decode cL_law 231 = .ok (.iadd, 1) := by decide +kernel
theorem eL_law_232 : decode cL_law 232 = .ok (.iaload, 1) := by decide +kernel
theorem eL_law_233 : decode cL_law 233 = .ok (.invokevirtual 109, 3) := by decide +kernel
theorem eL_law_236 : decode cL_law 236 = .ok (.istore 6, 2) := by decide +kernel
theorem eL_law_238 : decode cL_law 238 = .ok (.goto 760, 3) := by decide +kernel
theorem eL_law_735 : decode cL_law 735 = .ok (.aload_n 1, 1) := by decide +kernel
theorem eL_law_736 : decode cL_law 736 = .ok (.aload_n 0, 1) := by decide +kernel
theorem eL_law_737 : decode cL_law 737 = .ok (.iload 4, 2) := by decide +kernel
theorem eL_law_739 : decode cL_law 739 = .ok (.iconst 1, 1) := by decide +kernel
theorem eL_law_740 : decode cL_law 740 = .ok (.iadd, 1) := by decide +kernel
theorem eL_law_741 : decode cL_law 741 = .ok (.iaload, 1) := by decide +kernel
theorem eL_law_742 : decode cL_law 742 = .ok (.aload_n 3, 1) := by decide +kernel
theorem eL_law_743 : decode cL_law 743 = .ok (.invokestatic 165, 3) := by decide +kernel
theorem eL_law_746 : decode cL_law 746 = .ok (.istore 5, 2) := by decide +kernel
theorem eL_law_748 : decode cL_law 748 = .ok (.aload_n 2, 1) := by decide +kernel
theorem eL_law_749 : decode cL_law 749 = .ok (.aload_n 0, 1) := by decide +kernel
theorem eL_law_750 : decode cL_law 750 = .ok (.iload 4, 2) := by decide +kernel
theorem eL_law_752 : decode cL_law 752 = .ok (.iconst 1, 1) := by decide +kernel
theorem eL_law_753 : decode cL_law 753 = .ok (.iadd, 1) := by decide +kernel
theorem eL_law_754 : decode cL_law 754 = .ok (.iaload, 1) := by decide +kernel
theorem eL_law_755 : decode cL_law 755 = .ok (.invokevirtual 167, 3) := by decide +kernel
theorem eL_law_758 : decode cL_law 758 = .ok (.istore 6, 2) := by decide +kernel
theorem eL_law_760 : decode cL_law 760 = .ok (.goto 238, 3) := by decide +kernel
theorem eL_law_998 : decode cL_law 998 = .ok (.iinc 4 3, 3) := by decide +kernel
theorem eL_law_1001 : decode cL_law 1001 = .ok (.goto (-978), 3) := by decide +kernel
theorem eL_law_1004 : decode cL_law 1004 = .ok (.iconst 1, 1) := by decide +kernel
theorem eL_law_1005 : decode cL_law 1005 = .ok (.ireturn, 1) := by decide +kernel
theorem eJ6_bitCount_0f7a4_0 : decode cJ6_bitCount_0f7a4 0 = .ok (.iload_n 0, 1) := by decide +kernel
theorem eJ6_bitCount_0f7a4_1 : decode cJ6_bitCount_0f7a4 1 = .ok (.iload_n 0, 1) := by decide +kernel
theorem eJ6_bitCount_0f7a4_2 : decode cJ6_bitCount_0f7a4 2 = .ok (.iconst 1, 1) := by decide +kernel
theorem eJ6_bitCount_0f7a4_3 : decode cJ6_bitCount_0f7a4 3 = .ok (.iushr, 1) := by decide +kernel
theorem eJ6_bitCount_0f7a4_4 : decode cJ6_bitCount_0f7a4 4 = .ok (.ldc_w 265, 3) := by decide +kernel
theorem eJ6_bitCount_0f7a4_7 : decode cJ6_bitCount_0f7a4 7 = .ok (.iand, 1) := by decide +kernel
theorem eJ6_bitCount_0f7a4_8 : decode cJ6_bitCount_0f7a4 8 = .ok (.isub, 1) := by decide +kernel
theorem eJ6_bitCount_0f7a4_9 : decode cJ6_bitCount_0f7a4 9 = .ok (.istore_n 0, 1) := by decide +kernel
theorem eJ6_bitCount_0f7a4_10 : decode cJ6_bitCount_0f7a4 10 = .ok (.iload_n 0, 1) := by decide +kernel
theorem eJ6_bitCount_0f7a4_11 : decode cJ6_bitCount_0f7a4 11 = .ok (.ldc_w 266, 3) := by decide +kernel
theorem eJ6_bitCount_0f7a4_14 : decode cJ6_bitCount_0f7a4 14 = .ok (.iand, 1) := by decide +kernel
theorem eJ6_bitCount_0f7a4_15 : decode cJ6_bitCount_0f7a4 15 = .ok (.iload_n 0, 1) := by decide +kernel
theorem eJ6_bitCount_0f7a4_16 : decode cJ6_bitCount_0f7a4 16 = .ok (.iconst 2, 1) := by decide +kernel
theorem eJ6_bitCount_0f7a4_17 : decode cJ6_bitCount_0f7a4 17 = .ok (.iushr, 1) := by decide +kernel
theorem eJ6_bitCount_0f7a4_18 : decode cJ6_bitCount_0f7a4 18 = .ok (.ldc_w 266, 3) := by decide +kernel
theorem eJ6_bitCount_0f7a4_21 : decode cJ6_bitCount_0f7a4 21 = .ok (.iand, 1) := by decide +kernel
theorem eJ6_bitCount_0f7a4_22 : decode cJ6_bitCount_0f7a4 22 = .ok (.iadd, 1) := by decide +kernel
theorem eJ6_bitCount_0f7a4_23 : decode cJ6_bitCount_0f7a4 23 = .ok (.istore_n 0, 1) := by decide +kernel
theorem eJ6_bitCount_0f7a4_24 : decode cJ6_bitCount_0f7a4 24 = .ok (.iload_n 0, 1) := by decide +kernel
theorem eJ6_bitCount_0f7a4_25 : decode cJ6_bitCount_0f7a4 25 = .ok (.iload_n 0, 1) := by decide +kernel
theorem eJ6_bitCount_0f7a4_26 : decode cJ6_bitCount_0f7a4 26 = .ok (.iconst 4, 1) := by decide +kernel
theorem eJ6_bitCount_0f7a4_27 : decode cJ6_bitCount_0f7a4 27 = .ok (.iushr, 1) := by decide +kernel
theorem eJ6_bitCount_0f7a4_28 : decode cJ6_bitCount_0f7a4 28 = .ok (.iadd, 1) := by decide +kernel
theorem eJ6_bitCount_0f7a4_29 : decode cJ6_bitCount_0f7a4 29 = .ok (.ldc_w 267, 3) := by decide +kernel
theorem eJ6_bitCount_0f7a4_32 : decode cJ6_bitCount_0f7a4 32 = .ok (.iand, 1) := by decide +kernel
theorem eJ6_bitCount_0f7a4_33 : decode cJ6_bitCount_0f7a4 33 = .ok (.istore_n 0, 1) := by decide +kernel
theorem eJ6_bitCount_0f7a4_34 : decode cJ6_bitCount_0f7a4 34 = .ok (.iload_n 0, 1) := by decide +kernel
theorem eJ6_bitCount_0f7a4_35 : decode cJ6_bitCount_0f7a4 35 = .ok (.iload_n 0, 1) := by decide +kernel
theorem eJ6_bitCount_0f7a4_36 : decode cJ6_bitCount_0f7a4 36 = .ok (.bipush 8, 2) := by decide +kernel
theorem eJ6_bitCount_0f7a4_38 : decode cJ6_bitCount_0f7a4 38 = .ok (.iushr, 1) := by decide +kernel
theorem eJ6_bitCount_0f7a4_39 : decode cJ6_bitCount_0f7a4 39 = .ok (.iadd, 1) := by decide +kernel
theorem eJ6_bitCount_0f7a4_40 : decode cJ6_bitCount_0f7a4 40 = .ok (.istore_n 0, 1) := by decide +kernel
theorem eJ6_bitCount_0f7a4_41 : decode cJ6_bitCount_0f7a4 41 = .ok (.iload_n 0, 1) := by decide +kernel
theorem eJ6_bitCount_0f7a4_42 : decode cJ6_bitCount_0f7a4 42 = .ok (.iload_n 0, 1) := by decide +kernel
theorem eJ6_bitCount_0f7a4_43 : decode cJ6_bitCount_0f7a4 43 = .ok (.bipush 16, 2) := by decide +kernel
theorem eJ6_bitCount_0f7a4_45 : decode cJ6_bitCount_0f7a4 45 = .ok (.iushr, 1) := by decide +kernel
theorem eJ6_bitCount_0f7a4_46 : decode cJ6_bitCount_0f7a4 46 = .ok (.iadd, 1) := by decide +kernel
theorem eJ6_bitCount_0f7a4_47 : decode cJ6_bitCount_0f7a4 47 = .ok (.istore_n 0, 1) := by decide +kernel
theorem eJ6_bitCount_0f7a4_48 : decode cJ6_bitCount_0f7a4 48 = .ok (.iload_n 0, 1) := by decide +kernel
theorem eJ6_bitCount_0f7a4_49 : decode cJ6_bitCount_0f7a4 49 = .ok (.bipush 63, 2) := by decide +kernel
theorem eJ6_bitCount_0f7a4_51 : decode cJ6_bitCount_0f7a4 51 = .ok (.iand, 1) := by decide +kernel
theorem eJ6_bitCount_0f7a4_52 : decode cJ6_bitCount_0f7a4 52 = .ok (.ireturn, 1) := by decide +kernel
