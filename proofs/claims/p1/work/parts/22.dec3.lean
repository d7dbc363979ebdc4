/-! DECODED, 3: made by wip/engine/gen21.py -/
theorem eX10_listing_45 : decode cX10_listing 45 = .ok (.ireturn, 1) := by decide +kernel
theorem eX10_listing_46 : decode cX10_listing 46 = .ok (.aload_n 0, 1) := by decide +kernel
theorem eX10_listing_47 : decode cX10_listing 47 = .ok (.iload_n 1, 1) := by decide +kernel
theorem eX10_listing_48 : decode cX10_listing 48 = .ok (.invokevirtual 384, 3) := by decide +kernel
theorem eX10_listing_51 : decode cX10_listing 51 = .ok (.aload_n 0, 1) := by decide +kernel
theorem eX10_listing_52 : decode cX10_listing 52 = .ok (.iload_n 2, 1) := by decide +kernel
theorem eX10_listing_53 : decode cX10_listing 53 = .ok (.i2l, 1) := by decide +kernel
theorem eX10_listing_54 : decode cX10_listing 54 = .ok (.ldc2_w 387, 3) := by decide +kernel
theorem eX10_listing_57 : decode cX10_listing 57 = .ok (.aload_n 0, 1) := by decide +kernel
theorem eX10_listing_58 : decode cX10_listing 58 = .ok (.getfield 359, 3) := by decide +kernel
theorem eX10_listing_61 : decode cX10_listing 61 = .ok (.iconst 1, 1) := by decide +kernel
theorem eX10_listing_62 : decode cX10_listing 62 = .ok (.isub, 1) := by decide +kernel
theorem eX10_listing_63 : decode cX10_listing 63 = .ok (.i2l, 1) := by decide +kernel
theorem eX10_listing_64 : decode cX10_listing 64 = .ok (.invokestatic 65, 3) := by decide +kernel
theorem eX10_listing_67 : decode cX10_listing 67 = .ok (.ifCond .eq 7, 3) := by decide +kernel
theorem eX10_listing_70 : decode cX10_listing 70 = .ok (.iconst 0, 1) := by decide +kernel
theorem eX10_listing_71 : decode cX10_listing 71 = .ok (.goto 4, 3) := by decide +kernel
theorem eX10_listing_74 : decode cX10_listing 74 = .ok (.iconst 3, 1) := by decide +kernel
theorem eX10_listing_75 : decode cX10_listing 75 = .ok (.putfield 62, 3) := by decide +kernel
theorem eX10_listing_78 : decode cX10_listing 78 = .ok (.aload_n 0, 1) := by decide +kernel
theorem eX10_listing_79 : decode cX10_listing 79 = .ok (.getfield 62, 3) := by decide +kernel
theorem eX10_listing_82 : decode cX10_listing 82 = .ok (.ifCond .le 7, 3) := by decide +kernel
theorem eX10_listing_85 : decode cX10_listing 85 = .ok (.iconst 0, 1) := by decide +kernel
theorem eX10_listing_86 : decode cX10_listing 86 = .ok (.goto 21, 3) := by decide +kernel
theorem eX10_listing_89 : decode cX10_listing 89 = .ok (.iload_n 2, 1) := by decide +kernel
theorem eX10_listing_90 : decode cX10_listing 90 = .ok (.iconst (-1), 1) := by decide +kernel
theorem eX10_listing_91 : decode cX10_listing 91 = .ok (.if_icmp .ne 10, 3) := by decide +kernel
theorem eX10_listing_94 : decode cX10_listing 94 = .ok (.aload_n 0, 1) := by decide +kernel
theorem eX10_listing_95 : decode cX10_listing 95 = .ok (.getfield 359, 3) := by decide +kernel
theorem eX10_listing_98 : decode cX10_listing 98 = .ok (.goto 9, 3) := by decide +kernel
theorem eX10_listing_107 : decode cX10_listing 107 = .ok (.ireturn, 1) := by decide +kernel
theorem eX10_save_0 : decode cX10_save 0 = .ok (.aload_n 0, 1) := by decide +kernel
theorem eX10_save_1 : decode cX10_save 1 = .ok (.iconst 0, 1) := by decide +kernel
theorem eX10_save_2 : decode cX10_save 2 = .ok (.putfield 62, 3) := by decide +kernel
theorem eX10_save_5 : decode cX10_save 5 = .ok (.aload_n 0, 1) := by decide +kernel
theorem eX10_save_6 : decode cX10_save 6 = .ok (.getfield 9, 3) := by decide +kernel
theorem eX10_save_9 : decode cX10_save 9 = .ok (.iconst 0, 1) := by decide +kernel
theorem eX10_save_10 : decode cX10_save 10 = .ok (.aload_n 0, 1) := by decide +kernel
theorem eX10_save_11 : decode cX10_save 11 = .ok (.getfield 13, 3) := by decide +kernel
theorem eX10_save_14 : decode cX10_save 14 = .ok (.iconst 0, 1) := by decide +kernel
theorem eX10_save_15 : decode cX10_save 15 = .ok (.sipush 222, 3) := by decide +kernel
theorem eX10_save_18 : decode cX10_save 18 = .ok (.invokestatic 173, 3) := by decide +kernel
theorem eX10_save_21 : decode cX10_save 21 = .ok (.aload_n 0, 1) := by decide +kernel
theorem eX10_save_22 : decode cX10_save 22 = .ok (.iconst 1, 1) := by decide +kernel
theorem eX10_save_23 : decode cX10_save 23 = .ok (.putfield 389, 3) := by decide +kernel
theorem eX10_save_26 : decode cX10_save 26 = .ok (.aload_n 0, 1) := by decide +kernel
theorem eX10_save_27 : decode cX10_save 27 = .ok (.getfield 9, 3) := by decide +kernel
theorem eX10_save_30 : decode cX10_save 30 = .ok (.iconst 0, 1) := by decide +kernel
theorem eX10_save_31 : decode cX10_save 31 = .ok (.iaload, 1) := by decide +kernel
theorem eX10_save_32 : decode cX10_save 32 = .ok (.ireturn, 1) := by decide +kernel
theorem eX10_restore_0 : decode cX10_restore 0 = .ok (.aload_n 0, 1) := by decide +kernel
theorem eX10_restore_1 : decode cX10_restore 1 = .ok (.aload_n 0, 1) := by decide +kernel
theorem eX10_restore_2 : decode cX10_restore 2 = .ok (.getfield 389, 3) := by decide +kernel
theorem eX10_restore_5 : decode cX10_restore 5 = .ok (.ifCond .eq 7, 3) := by decide +kernel
theorem eX10_restore_12 : decode cX10_restore 12 = .ok (.iconst 1, 1) := by decide +kernel
theorem eX10_restore_13 : decode cX10_restore 13 = .ok (.putfield 62, 3) := by decide +kernel
theorem eX10_restore_16 : decode cX10_restore 16 = .ok (.aload_n 0, 1) := by decide +kernel
theorem eX10_restore_17 : decode cX10_restore 17 = .ok (.getfield 62, 3) := by decide +kernel
theorem eX10_restore_20 : decode cX10_restore 20 = .ok (.ifCond .le 5, 3) := by decide +kernel
theorem eX10_restore_23 : decode cX10_restore 23 = .ok (.iconst 0, 1) := by decide +kernel
theorem eX10_restore_24 : decode cX10_restore 24 = .ok (.ireturn, 1) := by decide +kernel
theorem eX0_init_0 : decode cX0_init 0 = .ok (.aload_n 0, 1) := by decide +kernel
theorem eX0_init_1 : decode cX0_init 1 = .ok (.invokespecial 3, 3) := by decide +kernel
theorem eX0_init_4 : decode cX0_init 4 = .ok (.aload_n 0, 1) := by decide +kernel
theorem eX0_init_5 : decode cX0_init 5 = .ok (.bipush 60, 2) := by decide +kernel
theorem eX0_init_7 : decode cX0_init 7 = .ok (.newarray .int, 2) := by decide +kernel
theorem eX0_init_9 : decode cX0_init 9 = .ok (.putfield 9, 3) := by decide +kernel
theorem eX0_init_12 : decode cX0_init 12 = .ok (.aload_n 0, 1) := by decide +kernel
theorem eX0_init_13 : decode cX0_init 13 = .ok (.bipush 60, 2) := by decide +kernel
theorem eX0_init_15 : decode cX0_init 15 = .ok (.newarray .int, 2) := by decide +kernel
theorem eX0_init_17 : decode cX0_init 17 = .ok (.putfield 15, 3) := by decide +kernel
theorem eX0_init_20 : decode cX0_init 20 = .ok (.aload_n 0, 1) := by decide +kernel
theorem eX0_init_21 : decode cX0_init 21 = .ok (.bipush 60, 2) := by decide +kernel
theorem eX0_init_23 : decode cX0_init 23 = .ok (.newarray .int, 2) := by decide +kernel
theorem eX0_init_25 : decode cX0_init 25 = .ok (.putfield 18, 3) := by decide +kernel
theorem eX0_init_28 : decode cX0_init 28 = .ok (.aload_n 0, 1) := by decide +kernel
theorem eX0_init_29 : decode cX0_init 29 = .ok (.bipush 60, 2) := by decide +kernel
theorem eX0_init_31 : decode cX0_init 31 = .ok (.newarray .int, 2) := by decide +kernel
theorem eX0_init_33 : decode cX0_init 33 = .ok (.putfield 21, 3) := by decide +kernel
theorem eX0_init_36 : decode cX0_init 36 = .ok (.aload_n 0, 1) := by decide +kernel
theorem eX0_init_37 : decode cX0_init 37 = .ok (.bipush 60, 2) := by decide +kernel
theorem eX0_init_39 : decode cX0_init 39 = .ok (.newarray .int, 2) := by decide +kernel
theorem eX0_init_41 : decode cX0_init 41 = .ok (.putfield 24, 3) := by decide +kernel
theorem eX0_init_44 : decode cX0_init 44 = .ok (.aload_n 0, 1) := by decide +kernel
theorem eX0_init_45 : decode cX0_init 45 = .ok (.new 27, 3) := by decide +kernel
theorem eX0_init_48 : decode cX0_init 48 = .ok (.dup, 1) := by decide +kernel
theorem eX0_init_49 : decode cX0_init 49 = .ok (.invokespecial 29, 3) := by decide +kernel
theorem eX0_init_52 : decode cX0_init 52 = .ok (.putfield 30, 3) := by decide +kernel
theorem eX0_init_55 : decode cX0_init 55 = .ok (.aload_n 0, 1) := by decide +kernel
theorem eX0_init_56 : decode cX0_init 56 = .ok (.iconst 0, 1) := by decide +kernel
theorem eX0_init_57 : decode cX0_init 57 = .ok (.putfield 34, 3) := by decide +kernel
theorem eX0_init_60 : decode cX0_init 60 = .ok (.aload_n 0, 1) := by decide +kernel
theorem eX0_init_61 : decode cX0_init 61 = .ok (.iconst 0, 1) := by decide +kernel
theorem eX0_init_62 : decode cX0_init 62 = .ok (.putfield 38, 3) := by decide +kernel
theorem eX0_init_65 : decode cX0_init 65 = .ok (.aload_n 0, 1) := by decide +kernel
theorem eX0_init_66 : decode cX0_init 66 = .ok (.iconst (-1), 1) := by decide +kernel
theorem eX0_init_67 : decode cX0_init 67 = .ok (.putfield 41, 3) := by decide +kernel
theorem eX0_init_70 : decode cX0_init 70 = .ok (.return_, 1) := by decide +kernel
theorem eX0_read_0 : decode cX0_read 0 = .ok (.aload_n 0, 1) := by decide +kernel
theorem eX0_read_1 : decode cX0_read 1 = .ok (.iconst 0, 1) := by decide +kernel
theorem eX0_read_2 : decode cX0_read 2 = .ok (.putfield 34, 3) := by decide +kernel
theorem eX0_read_5 : decode cX0_read 5 = .ok (.aload_n 0, 1) := by decide +kernel
theorem eX0_read_6 : decode cX0_read 6 = .ok (.iconst 0, 1) := by decide +kernel
theorem eX0_read_7 : decode cX0_read 7 = .ok (.putfield 38, 3) := by decide +kernel
theorem eX0_read_10 : decode cX0_read 10 = .ok (.aload_n 0, 1) := by decide +kernel
theorem eX0_read_11 : decode cX0_read 11 = .ok (.iconst (-1), 1) := by decide +kernel
theorem eX0_read_12 : decode cX0_read 12 = .ok (.putfield 41, 3) := by decide +kernel
theorem eX0_read_15 : decode cX0_read 15 = .ok (.iconst 1, 1) := by decide +kernel
theorem eX0_read_16 : decode cX0_read 16 = .ok (.istore_n 2, 1) := by decide +kernel
theorem eX0_read_17 : decode cX0_read 17 = .ok (.iload_n 2, 1) := by decide +kernel
theorem eX0_read_18 : decode cX0_read 18 = .ok (.ifCond .eq 65, 3) := by decide +kernel
theorem eX0_read_21 : decode cX0_read 21 = .ok (.aload_n 0, 1) := by decide +kernel
theorem eX0_read_22 : decode cX0_read 22 = .ok (.getfield 34, 3) := by decide +kernel
theorem eX0_read_25 : decode cX0_read 25 = .ok (.bipush 60, 2) := by decide +kernel
theorem eX0_read_27 : decode cX0_read 27 = .ok (.if_icmp .ge 56, 3) := by decide +kernel
theorem eX0_read_30 : decode cX0_read 30 = .ok (.aload_n 0, 1) := by decide +kernel
theorem eX0_read_31 : decode cX0_read 31 = .ok (.aload_n 1, 1) := by decide +kernel
theorem eX0_read_32 : decode cX0_read 32 = .ok (.invokevirtual 44, 3) := by decide +kernel
theorem eX0_read_35 : decode cX0_read 35 = .ok (.ifCond .ne 5, 3) := by decide +kernel
theorem eX0_read_38 : decode cX0_read 38 = .ok (.iconst 0, 1) := by decide +kernel
theorem eX0_read_39 : decode cX0_read 39 = .ok (.ireturn, 1) := by decide +kernel
theorem eX0_readCommand_0 : decode cX0_readCommand 0 = .ok (.aload_n 0, 1) := by decide +kernel
theorem eX0_readCommand_1 : decode cX0_readCommand 1 = .ok (.getfield 15, 3) := by decide +kernel
theorem eX0_readCommand_4 : decode cX0_readCommand 4 = .ok (.aload_n 0, 1) := by decide +kernel
theorem eX0_readCommand_5 : decode cX0_readCommand 5 = .ok (.getfield 34, 3) := by decide +kernel
theorem eX0_readCommand_8 : decode cX0_readCommand 8 = .ok (.aload_n 0, 1) := by decide +kernel
theorem eX0_readCommand_9 : decode cX0_readCommand 9 = .ok (.getfield 38, 3) := by decide +kernel
theorem eX0_readCommand_12 : decode cX0_readCommand 12 = .ok (.invokestatic 57, 3) := by decide +kernel
theorem eX0_readCommand_15 : decode cX0_readCommand 15 = .ok (.aload_n 0, 1) := by decide +kernel
theorem eX0_readCommand_16 : decode cX0_readCommand 16 = .ok (.aload_n 1, 1) := by decide +kernel
theorem eX0_readCommand_17 : decode cX0_readCommand 17 = .ok (.invokevirtual 61, 3) := by decide +kernel
theorem eX0_readCommand_20 : decode cX0_readCommand 20 = .ok (.istore_n 2, 1) := by decide +kernel
theorem eX0_readCommand_21 : decode cX0_readCommand 21 = .ok (.aload_n 0, 1) := by decide +kernel
theorem eX0_readCommand_22 : decode cX0_readCommand 22 = .ok (.getfield 9, 3) := by decide +kernel
theorem eX0_readCommand_25 : decode cX0_readCommand 25 = .ok (.aload_n 0, 1) := by decide +kernel
theorem eX0_readCommand_26 : decode cX0_readCommand 26 = .ok (.getfield 34, 3) := by decide +kernel
theorem eX0_readCommand_29 : decode cX0_readCommand 29 = .ok (.iload_n 2, 1) := by decide +kernel
theorem eX0_readCommand_30 : decode cX0_readCommand 30 = .ok (.invokestatic 57, 3) := by decide +kernel
theorem eX0_readCommand_33 : decode cX0_readCommand 33 = .ok (.iload_n 2, 1) := by decide +kernel
theorem eX0_readCommand_34 : decode cX0_readCommand 34 = .ok (.tableswitch 169 0 3 #[30, 72, 96, 141], 30) := by decide +kernel
theorem eX0_readCommand_203 : decode cX0_readCommand 203 = .ok (.iconst 0, 1) := by decide +kernel
theorem eX0_readCommand_204 : decode cX0_readCommand 204 = .ok (.ireturn, 1) := by decide +kernel
theorem eX0_readWord_0 : decode cX0_readWord 0 = .ok (.aload_n 0, 1) := by decide +kernel
theorem eX0_readWord_1 : decode cX0_readWord 1 = .ok (.getfield 38, 3) := by decide +kernel
theorem eX0_readWord_4 : decode cX0_readWord 4 = .ok (.istore_n 2, 1) := by decide +kernel
theorem eX0_readWord_5 : decode cX0_readWord 5 = .ok (.aload_n 0, 1) := by decide +kernel
theorem eX0_readWord_6 : decode cX0_readWord 6 = .ok (.getfield 38, 3) := by decide +kernel
theorem eX0_readWord_9 : decode cX0_readWord 9 = .ok (.aload_n 1, 1) := by decide +kernel
theorem eX0_readWord_10 : decode cX0_readWord 10 = .ok (.getfield 48, 3) := by decide +kernel
theorem eX0_readWord_13 : decode cX0_readWord 13 = .ok (.if_icmp .ge 30, 3) := by decide +kernel
theorem eX0_readWord_43 : decode cX0_readWord 43 = .ok (.aload_n 0, 1) := by decide +kernel
theorem eX0_readWord_44 : decode cX0_readWord 44 = .ok (.aload_n 1, 1) := by decide +kernel
theorem eX0_readWord_45 : decode cX0_readWord 45 = .ok (.iload_n 2, 1) := by decide +kernel
theorem eX0_readWord_46 : decode cX0_readWord 46 = .ok (.ldc 83, 2) := by decide +kernel
theorem eX0_readWord_48 : decode cX0_readWord 48 = .ok (.invokevirtual 85, 3) := by decide +kernel
theorem eX0_readWord_51 : decode cX0_readWord 51 = .ok (.ifCond .eq 5, 3) := by decide +kernel
theorem eX0_readWord_56 : decode cX0_readWord 56 = .ok (.aload_n 0, 1) := by decide +kernel
theorem eX0_readWord_57 : decode cX0_readWord 57 = .ok (.aload_n 1, 1) := by decide +kernel
theorem eX0_readWord_58 : decode cX0_readWord 58 = .ok (.iload_n 2, 1) := by decide +kernel
theorem eX0_readWord_59 : decode cX0_readWord 59 = .ok (.ldc 89, 2) := by decide +kernel
theorem eX0_readWord_61 : decode cX0_readWord 61 = .ok (.invokevirtual 85, 3) := by decide +kernel
theorem eX0_readWord_64 : decode cX0_readWord 64 = .ok (.ifCond .eq 5, 3) := by decide +kernel
theorem eX0_readWord_69 : decode cX0_readWord 69 = .ok (.aload_n 0, 1) := by decide +kernel
theorem eX0_readWord_70 : decode cX0_readWord 70 = .ok (.aload_n 1, 1) := by decide +kernel
theorem eX0_readWord_71 : decode cX0_readWord 71 = .ok (.iload_n 2, 1) := by decide +kernel
theorem eX0_readWord_72 : decode cX0_readWord 72 = .ok (.ldc 91, 2) := by decide +kernel
theorem eX0_readWord_74 : decode cX0_readWord 74 = .ok (.invokevirtual 85, 3) := by decide +kernel
theorem eX0_readWord_77 : decode cX0_readWord 77 = .ok (.ifCond .eq 5, 3) := by decide +kernel
theorem eX0_readWord_82 : decode cX0_readWord 82 = .ok (.aload_n 0, 1) := by decide +kernel
theorem eX0_readWord_83 : decode cX0_readWord 83 = .ok (.aload_n 1, 1) := by decide +kernel
theorem eX0_readWord_84 : decode cX0_readWord 84 = .ok (.iload_n 2, 1) := by decide +kernel
theorem eX0_readWord_85 : decode cX0_readWord 85 = .ok (.ldc 93, 2) := by decide +kernel
theorem eX0_readWord_87 : decode cX0_readWord 87 = .ok (.invokevirtual 85, 3) := by decide +kernel
theorem eX0_readWord_90 : decode cX0_readWord 90 = .ok (.ifCond .eq 5, 3) := by decide +kernel
theorem eX0_readWord_95 : decode cX0_readWord 95 = .ok (.aload_n 0, 1) := by decide +kernel
theorem eX0_readWord_96 : decode cX0_readWord 96 = .ok (.iload_n 2, 1) := by decide +kernel
theorem eX0_readWord_97 : decode cX0_readWord 97 = .ok (.putfield 41, 3) := by decide +kernel
theorem eX0_readWord_100 : decode cX0_readWord 100 = .ok (.iconst (-1), 1) := by decide +kernel
theorem eX0_readWord_101 : decode cX0_readWord 101 = .ok (.ireturn, 1) := by decide +kernel
theorem eX0_isWord_0 : decode cX0_isWord 0 = .ok (.aload_n 0, 1) := by decide +kernel
theorem eX0_isWord_1 : decode cX0_isWord 1 = .ok (.getfield 38, 3) := by decide +kernel
theorem eX0_isWord_4 : decode cX0_isWord 4 = .ok (.iload_n 2, 1) := by decide +kernel
theorem eX0_isWord_5 : decode cX0_isWord 5 = .ok (.isub, 1) := by decide +kernel
theorem eX0_isWord_6 : decode cX0_isWord 6 = .ok (.aload_n 3, 1) := by decide +kernel
theorem eX0_isWord_7 : decode cX0_isWord 7 = .ok (.invokevirtual 95, 3) := by decide +kernel
theorem eX0_isWord_10 : decode cX0_isWord 10 = .ok (.if_icmp .eq 5, 3) := by decide +kernel
theorem eX0_isWord_13 : decode cX0_isWord 13 = .ok (.iconst 0, 1) := by decide +kernel
theorem eX0_isWord_14 : decode cX0_isWord 14 = .ok (.ireturn, 1) := by decide +kernel
theorem eX1_init_0 : decode cX1_init 0 = .ok (.aload_n 0, 1) := by decide +kernel
theorem eX1_init_1 : decode cX1_init 1 = .ok (.invokespecial 3, 3) := by decide +kernel
theorem eX1_init_4 : decode cX1_init 4 = .ok (.aload_n 0, 1) := by decide +kernel
theorem eX1_init_5 : decode cX1_init 5 = .ok (.bipush 20, 2) := by decide +kernel
theorem eX1_init_7 : decode cX1_init 7 = .ok (.newarray .int, 2) := by decide +kernel
theorem eX1_init_9 : decode cX1_init 9 = .ok (.putfield 9, 3) := by decide +kernel
theorem eX1_init_12 : decode cX1_init 12 = .ok (.aload_n 0, 1) := by decide +kernel
theorem eX1_init_13 : decode cX1_init 13 = .ok (.bipush 40, 2) := by decide +kernel
theorem eX1_init_15 : decode cX1_init 15 = .ok (.newarray .int, 2) := by decide +kernel
theorem eX1_init_17 : decode cX1_init 17 = .ok (.putfield 15, 3) := by decide +kernel
theorem eX1_init_20 : decode cX1_init 20 = .ok (.aload_n 0, 1) := by decide +kernel
theorem eX1_init_21 : decode cX1_init 21 = .ok (.bipush 40, 2) := by decide +kernel
theorem eX1_init_23 : decode cX1_init 23 = .ok (.newarray .int, 2) := by decide +kernel
theorem eX1_init_25 : decode cX1_init 25 = .ok (.putfield 18, 3) := by decide +kernel
theorem eX1_init_28 : decode cX1_init 28 = .ok (.aload_n 0, 1) := by decide +kernel
theorem eX1_init_29 : decode cX1_init 29 = .ok (.bipush 40, 2) := by decide +kernel
theorem eX1_init_31 : decode cX1_init 31 = .ok (.newarray .int, 2) := by decide +kernel
theorem eX1_init_33 : decode cX1_init 33 = .ok (.putfield 21, 3) := by decide +kernel
theorem eX1_init_36 : decode cX1_init 36 = .ok (.aload_n 0, 1) := by decide +kernel
theorem eX1_init_37 : decode cX1_init 37 = .ok (.bipush 40, 2) := by decide +kernel
theorem eX1_init_39 : decode cX1_init 39 = .ok (.newarray .int, 2) := by decide +kernel
theorem eX1_init_41 : decode cX1_init 41 = .ok (.putfield 24, 3) := by decide +kernel
theorem eX1_init_44 : decode cX1_init 44 = .ok (.aload_n 0, 1) := by decide +kernel
theorem eX1_init_45 : decode cX1_init 45 = .ok (.bipush 40, 2) := by decide +kernel
theorem eX1_init_47 : decode cX1_init 47 = .ok (.newarray .int, 2) := by decide +kernel
theorem eX1_init_49 : decode cX1_init 49 = .ok (.putfield 27, 3) := by decide +kernel
theorem eX1_init_52 : decode cX1_init 52 = .ok (.aload_n 0, 1) := by decide +kernel
theorem eX1_init_53 : decode cX1_init 53 = .ok (.bipush 40, 2) := by decide +kernel
theorem eX1_init_55 : decode cX1_init 55 = .ok (.newarray .int, 2) := by decide +kernel
theorem eX1_init_57 : decode cX1_init 57 = .ok (.putfield 30, 3) := by decide +kernel
theorem eX1_init_60 : decode cX1_init 60 = .ok (.aload_n 0, 1) := by decide +kernel
theorem eX1_init_61 : decode cX1_init 61 = .ok (.bipush 40, 2) := by decide +kernel
theorem eX1_init_63 : decode cX1_init 63 = .ok (.newarray .int, 2) := by decide +kernel
theorem eX1_init_65 : decode cX1_init 65 = .ok (.putfield 33, 3) := by decide +kernel
theorem eX1_init_68 : decode cX1_init 68 = .ok (.aload_n 0, 1) := by decide +kernel
theorem eX1_init_69 : decode cX1_init 69 = .ok (.iconst 0, 1) := by decide +kernel
theorem eX1_init_70 : decode cX1_init 70 = .ok (.putfield 36, 3) := by decide +kernel
theorem eX1_init_73 : decode cX1_init 73 = .ok (.aload_n 0, 1) := by decide +kernel
theorem eX1_init_74 : decode cX1_init 74 = .ok (.iconst 0, 1) := by decide +kernel
theorem eX1_init_75 : decode cX1_init 75 = .ok (.putfield 40, 3) := by decide +kernel
theorem eX1_init_78 : decode cX1_init 78 = .ok (.aload_n 0, 1) := by decide +kernel
theorem eX1_init_79 : decode cX1_init 79 = .ok (.iconst 0, 1) := by decide +kernel
theorem eX1_init_80 : decode cX1_init 80 = .ok (.putfield 43, 3) := by decide +kernel
theorem eX1_init_83 : decode cX1_init 83 = .ok (.aload_n 0, 1) := by decide +kernel
theorem eX1_init_84 : decode cX1_init 84 = .ok (.iconst 0, 1) := by decide +kernel
theorem eX1_init_85 : decode cX1_init 85 = .ok (.putfield 46, 3) := by decide +kernel
theorem eX1_init_88 : decode cX1_init 88 = .ok (.aload_n 0, 1) := by decide +kernel
theorem eX1_init_89 : decode cX1_init 89 = .ok (.aload_n 1, 1) := by decide +kernel
theorem eX1_init_90 : decode cX1_init 90 = .ok (.putfield 49, 3) := by decide +kernel
theorem eX1_init_93 : decode cX1_init 93 = .ok (.return_, 1) := by decide +kernel
theorem eX1_grow_0 : decode cX1_grow 0 = .ok (.aload_n 0, 1) := by decide +kernel
theorem eX1_grow_1 : decode cX1_grow 1 = .ok (.iconst 0, 1) := by decide +kernel
theorem eX1_grow_2 : decode cX1_grow 2 = .ok (.putfield 36, 3) := by decide +kernel
theorem eX1_grow_5 : decode cX1_grow 5 = .ok (.aload_n 0, 1) := by decide +kernel
theorem eX1_grow_6 : decode cX1_grow 6 = .ok (.iconst 0, 1) := by decide +kernel
theorem eX1_grow_7 : decode cX1_grow 7 = .ok (.putfield 43, 3) := by decide +kernel
theorem eX1_grow_10 : decode cX1_grow 10 = .ok (.aload_n 0, 1) := by decide +kernel
theorem eX1_grow_11 : decode cX1_grow 11 = .ok (.iconst 0, 1) := by decide +kernel
theorem eX1_grow_12 : decode cX1_grow 12 = .ok (.putfield 46, 3) := by decide +kernel
theorem eX1_grow_15 : decode cX1_grow 15 = .ok (.aload_n 0, 1) := by decide +kernel
theorem eX1_grow_16 : decode cX1_grow 16 = .ok (.invokevirtual 53, 3) := by decide +kernel
theorem eX1_grow_19 : decode cX1_grow 19 = .ok (.aload_n 0, 1) := by decide +kernel
theorem eX1_grow_20 : decode cX1_grow 20 = .ok (.aload_n 0, 1) := by decide +kernel
theorem eX1_grow_21 : decode cX1_grow 21 = .ok (.getfield 36, 3) := by decide +kernel
theorem eX1_grow_24 : decode cX1_grow 24 = .ok (.putfield 40, 3) := by decide +kernel
theorem eX1_grow_27 : decode cX1_grow 27 = .ok (.iconst 0, 1) := by decide +kernel
theorem eX1_grow_28 : decode cX1_grow 28 = .ok (.istore_n 1, 1) := by decide +kernel
theorem eX1_grow_29 : decode cX1_grow 29 = .ok (.iload_n 1, 1) := by decide +kernel
theorem eX1_grow_30 : decode cX1_grow 30 = .ok (.bipush 40, 2) := by decide +kernel
theorem eX1_grow_32 : decode cX1_grow 32 = .ok (.if_icmp .ge 62, 3) := by decide +kernel
theorem eX1_grow_35 : decode cX1_grow 35 = .ok (.iload_n 1, 1) := by decide +kernel
theorem eX1_grow_36 : decode cX1_grow 36 = .ok (.aload_n 0, 1) := by decide +kernel
theorem eX1_grow_37 : decode cX1_grow 37 = .ok (.getfield 36, 3) := by decide +kernel
theorem eX1_grow_40 : decode cX1_grow 40 = .ok (.if_icmp .ge 54, 3) := by decide +kernel
theorem eX1_grow_94 : decode cX1_grow 94 = .ok (.return_, 1) := by decide +kernel
theorem eX1_rootWith_0 : decode cX1_rootWith 0 = .ok (.aload_n 0, 1) := by decide +kernel
theorem eX1_rootWith_1 : decode cX1_rootWith 1 = .ok (.iconst 0, 1) := by decide +kernel
theorem eX1_rootWith_2 : decode cX1_rootWith 2 = .ok (.aload_n 0, 1) := by decide +kernel
theorem eX1_rootWith_3 : decode cX1_rootWith 3 = .ok (.getfield 40, 3) := by decide +kernel
theorem eX1_rootWith_6 : decode cX1_rootWith 6 = .ok (.iload_n 1, 1) := by decide +kernel
theorem eX1_rootWith_7 : decode cX1_rootWith 7 = .ok (.invokevirtual 74, 3) := by decide +kernel
theorem eX1_rootWith_10 : decode cX1_rootWith 10 = .ok (.ireturn, 1) := by decide +kernel
theorem eX1_treeWith_0 : decode cX1_treeWith 0 = .ok (.iconst 0, 1) := by decide +kernel
theorem eX1_treeWith_1 : decode cX1_treeWith 1 = .ok (.istore 4, 2) := by decide +kernel
theorem eX1_treeWith_3 : decode cX1_treeWith 3 = .ok (.iload 4, 2) := by decide +kernel
theorem eX1_treeWith_5 : decode cX1_treeWith 5 = .ok (.iload_n 2, 1) := by decide +kernel
theorem eX1_treeWith_6 : decode cX1_treeWith 6 = .ok (.if_icmp .ge 29, 3) := by decide +kernel
theorem eX1_treeWith_35 : decode cX1_treeWith 35 = .ok (.iconst (-1), 1) := by decide +kernel
theorem eX1_treeWith_36 : decode cX1_treeWith 36 = .ok (.ireturn, 1) := by decide +kernel
theorem eX1_plantRoots_0 : decode cX1_plantRoots 0 = .ok (.iconst 0, 1) := by decide +kernel
theorem eX1_plantRoots_1 : decode cX1_plantRoots 1 = .ok (.istore_n 1, 1) := by decide +kernel
theorem eX1_plantRoots_2 : decode cX1_plantRoots 2 = .ok (.iconst 1, 1) := by decide +kernel
theorem eX1_plantRoots_3 : decode cX1_plantRoots 3 = .ok (.istore_n 2, 1) := by decide +kernel
theorem eX1_plantRoots_4 : decode cX1_plantRoots 4 = .ok (.iload_n 2, 1) := by decide +kernel
theorem eX1_plantRoots_5 : decode cX1_plantRoots 5 = .ok (.bipush 8, 2) := by decide +kernel
theorem eX1_plantRoots_7 : decode cX1_plantRoots 7 = .ok (.if_icmp .gt 71, 3) := by decide +kernel
theorem eX1_plantRoots_10 : decode cX1_plantRoots 10 = .ok (.iload_n 1, 1) := by decide +kernel
theorem eX1_plantRoots_11 : decode cX1_plantRoots 11 = .ok (.istore_n 3, 1) := by decide +kernel
theorem eX1_plantRoots_12 : decode cX1_plantRoots 12 = .ok (.iconst 0, 1) := by decide +kernel
theorem eX1_plantRoots_13 : decode cX1_plantRoots 13 = .ok (.istore 4, 2) := by decide +kernel
theorem eX1_plantRoots_15 : decode cX1_plantRoots 15 = .ok (.iload 4, 2) := by decide +kernel
theorem eX1_plantRoots_17 : decode cX1_plantRoots 17 = .ok (.aload_n 0, 1) := by decide +kernel
theorem eX1_plantRoots_18 : decode cX1_plantRoots 18 = .ok (.getfield 49, 3) := by decide +kernel
theorem eX1_plantRoots_21 : decode cX1_plantRoots 21 = .ok (.getfield 82, 3) := by decide +kernel
theorem eX1_plantRoots_24 : decode cX1_plantRoots 24 = .ok (.if_icmp .ge 35, 3) := by decide +kernel
theorem eX1_plantRoots_59 : decode cX1_plantRoots 59 = .ok (.iload_n 1, 1) := by decide +kernel
theorem eX1_plantRoots_60 : decode cX1_plantRoots 60 = .ok (.iload_n 3, 1) := by decide +kernel
theorem eX1_plantRoots_61 : decode cX1_plantRoots 61 = .ok (.if_icmp .le 11, 3) := by decide +kernel
theorem eX1_plantRoots_72 : decode cX1_plantRoots 72 = .ok (.iinc 2 1, 3) := by decide +kernel
theorem eX1_plantRoots_75 : decode cX1_plantRoots 75 = .ok (.goto (-71), 3) := by decide +kernel
theorem eX1_plantRoots_78 : decode cX1_plantRoots 78 = .ok (.return_, 1) := by decide +kernel
theorem eX2_init_0 : decode cX2_init 0 = .ok (.aload_n 0, 1) := by decide +kernel
theorem eX2_init_1 : decode cX2_init 1 = .ok (.invokespecial 3, 3) := by decide +kernel
theorem eX2_init_4 : decode cX2_init 4 = .ok (.aload_n 0, 1) := by decide +kernel
theorem eX2_init_5 : decode cX2_init 5 = .ok (.sipush 160, 3) := by decide +kernel
theorem eX2_init_8 : decode cX2_init 8 = .ok (.newarray .int, 2) := by decide +kernel
theorem eX2_init_10 : decode cX2_init 10 = .ok (.putfield 9, 3) := by decide +kernel
theorem eX2_init_13 : decode cX2_init 13 = .ok (.aload_n 0, 1) := by decide +kernel
theorem eX2_init_14 : decode cX2_init 14 = .ok (.bipush 20, 2) := by decide +kernel
theorem eX2_init_16 : decode cX2_init 16 = .ok (.newarray .int, 2) := by decide +kernel
theorem eX2_init_18 : decode cX2_init 18 = .ok (.putfield 15, 3) := by decide +kernel
theorem eX2_init_21 : decode cX2_init 21 = .ok (.aload_n 0, 1) := by decide +kernel
theorem eX2_init_22 : decode cX2_init 22 = .ok (.bipush 20, 2) := by decide +kernel
theorem eX2_init_24 : decode cX2_init 24 = .ok (.newarray .int, 2) := by decide +kernel
theorem eX2_init_26 : decode cX2_init 26 = .ok (.putfield 18, 3) := by decide +kernel
theorem eX2_init_29 : decode cX2_init 29 = .ok (.aload_n 0, 1) := by decide +kernel
theorem eX2_init_30 : decode cX2_init 30 = .ok (.bipush 20, 2) := by decide +kernel
theorem eX2_init_32 : decode cX2_init 32 = .ok (.newarray .int, 2) := by decide +kernel
theorem eX2_init_34 : decode cX2_init 34 = .ok (.putfield 21, 3) := by decide +kernel
theorem eX2_init_37 : decode cX2_init 37 = .ok (.aload_n 0, 1) := by decide +kernel
theorem eX2_init_38 : decode cX2_init 38 = .ok (.iconst 0, 1) := by decide +kernel
theorem eX2_init_39 : decode cX2_init 39 = .ok (.putfield 24, 3) := by decide +kernel
theorem eX2_init_42 : decode cX2_init 42 = .ok (.aload_n 0, 1) := by decide +kernel
theorem eX2_init_43 : decode cX2_init 43 = .ok (.bipush 100, 2) := by decide +kernel
theorem eX2_init_45 : decode cX2_init 45 = .ok (.putfield 28, 3) := by decide +kernel
theorem eX2_init_48 : decode cX2_init 48 = .ok (.aload_n 0, 1) := by decide +kernel
theorem eX2_init_49 : decode cX2_init 49 = .ok (.iconst 0, 1) := by decide +kernel
theorem eX2_init_50 : decode cX2_init 50 = .ok (.putfield 31, 3) := by decide +kernel
theorem eX2_init_53 : decode cX2_init 53 = .ok (.return_, 1) := by decide +kernel
theorem eX2_has_0 : decode cX2_has 0 = .ok (.iload_n 1, 1) := by decide +kernel
theorem eX2_has_1 : decode cX2_has 1 = .ok (.ifCond .lt 15, 3) := by decide +kernel
theorem eX2_has_4 : decode cX2_has 4 = .ok (.iload_n 1, 1) := by decide +kernel
theorem eX2_has_5 : decode cX2_has 5 = .ok (.aload_n 0, 1) := by decide +kernel
theorem eX2_has_6 : decode cX2_has 6 = .ok (.getfield 24, 3) := by decide +kernel
theorem eX2_has_9 : decode cX2_has 9 = .ok (.if_icmp .ge 7, 3) := by decide +kernel
theorem eX2_has_16 : decode cX2_has 16 = .ok (.iconst 0, 1) := by decide +kernel
theorem eX2_has_17 : decode cX2_has 17 = .ok (.ireturn, 1) := by decide +kernel
theorem eX2_changeLoad_0 : decode cX2_changeLoad 0 = .ok (.aload_n 0, 1) := by decide +kernel
theorem eX2_changeLoad_1 : decode cX2_changeLoad 1 = .ok (.iload_n 1, 1) := by decide +kernel
theorem eX2_changeLoad_2 : decode cX2_changeLoad 2 = .ok (.putfield 28, 3) := by decide +kernel
theorem eX2_changeLoad_5 : decode cX2_changeLoad 5 = .ok (.aload_n 0, 1) := by decide +kernel
theorem eX2_changeLoad_6 : decode cX2_changeLoad 6 = .ok (.dup, 1) := by decide +kernel
theorem eX2_changeLoad_7 : decode cX2_changeLoad 7 = .ok (.getfield 31, 3) := by decide +kernel
theorem eX2_changeLoad_10 : decode cX2_changeLoad 10 = .ok (.iconst 1, 1) := by decide +kernel
theorem eX2_changeLoad_11 : decode cX2_changeLoad 11 = .ok (.iadd, 1) := by decide +kernel
theorem eX2_changeLoad_12 : decode cX2_changeLoad 12 = .ok (.putfield 31, 3) := by decide +kernel
theorem eX2_changeLoad_15 : decode cX2_changeLoad 15 = .ok (.return_, 1) := by decide +kernel
theorem eX2_takeOver_0 : decode cX2_takeOver 0 = .ok (.aload_n 1, 1) := by decide +kernel
theorem eX2_takeOver_1 : decode cX2_takeOver 1 = .ok (.getfield 9, 3) := by decide +kernel
theorem eX2_takeOver_4 : decode cX2_takeOver 4 = .ok (.aload_n 0, 1) := by decide +kernel
theorem eX2_takeOver_5 : decode cX2_takeOver 5 = .ok (.getfield 9, 3) := by decide +kernel
theorem eX2_takeOver_8 : decode cX2_takeOver 8 = .ok (.invokestatic 63, 3) := by decide +kernel
theorem eX2_takeOver_11 : decode cX2_takeOver 11 = .ok (.aload_n 1, 1) := by decide +kernel
theorem eX2_takeOver_12 : decode cX2_takeOver 12 = .ok (.getfield 15, 3) := by decide +kernel
theorem eX2_takeOver_15 : decode cX2_takeOver 15 = .ok (.aload_n 0, 1) := by decide +kernel
theorem eX2_takeOver_16 : decode cX2_takeOver 16 = .ok (.getfield 15, 3) := by decide +kernel
theorem eX2_takeOver_19 : decode cX2_takeOver 19 = .ok (.invokestatic 63, 3) := by decide +kernel
theorem eX2_takeOver_22 : decode cX2_takeOver 22 = .ok (.aload_n 1, 1) := by decide +kernel
theorem eX2_takeOver_23 : decode cX2_takeOver 23 = .ok (.getfield 18, 3) := by decide +kernel
theorem eX2_takeOver_26 : decode cX2_takeOver 26 = .ok (.aload_n 0, 1) := by decide +kernel
theorem eX2_takeOver_27 : decode cX2_takeOver 27 = .ok (.getfield 18, 3) := by decide +kernel
theorem eX2_takeOver_30 : decode cX2_takeOver 30 = .ok (.invokestatic 63, 3) := by decide +kernel
theorem eX2_takeOver_33 : decode cX2_takeOver 33 = .ok (.aload_n 1, 1) := by decide +kernel
theorem eX2_takeOver_34 : decode cX2_takeOver 34 = .ok (.getfield 21, 3) := by decide +kernel
theorem eX2_takeOver_37 : decode cX2_takeOver 37 = .ok (.aload_n 0, 1) := by decide +kernel
theorem eX2_takeOver_38 : decode cX2_takeOver 38 = .ok (.getfield 21, 3) := by decide +kernel
theorem eX2_takeOver_41 : decode cX2_takeOver 41 = .ok (.invokestatic 63, 3) := by decide +kernel
theorem eX2_takeOver_44 : decode cX2_takeOver 44 = .ok (.aload_n 0, 1) := by decide +kernel
theorem eX2_takeOver_45 : decode cX2_takeOver 45 = .ok (.aload_n 1, 1) := by decide +kernel
theorem eX2_takeOver_46 : decode cX2_takeOver 46 = .ok (.getfield 24, 3) := by decide +kernel
theorem eX2_takeOver_49 : decode cX2_takeOver 49 = .ok (.putfield 24, 3) := by decide +kernel
theorem eX2_takeOver_52 : decode cX2_takeOver 52 = .ok (.aload_n 0, 1) := by decide +kernel
theorem eX2_takeOver_53 : decode cX2_takeOver 53 = .ok (.aload_n 1, 1) := by decide +kernel
theorem eX2_takeOver_54 : decode cX2_takeOver 54 = .ok (.getfield 28, 3) := by decide +kernel
theorem eX2_takeOver_57 : decode cX2_takeOver 57 = .ok (.putfield 28, 3) := by decide +kernel
theorem eX2_takeOver_60 : decode cX2_takeOver 60 = .ok (.aload_n 0, 1) := by decide +kernel
theorem eX2_takeOver_61 : decode cX2_takeOver 61 = .ok (.dup, 1) := by decide +kernel
theorem eX2_takeOver_62 : decode cX2_takeOver 62 = .ok (.getfield 31, 3) := by decide +kernel
theorem eX2_takeOver_65 : decode cX2_takeOver 65 = .ok (.iconst 1, 1) := by decide +kernel
theorem eX2_takeOver_66 : decode cX2_takeOver 66 = .ok (.iadd, 1) := by decide +kernel
theorem eX2_takeOver_67 : decode cX2_takeOver 67 = .ok (.putfield 31, 3) := by decide +kernel
theorem eX2_takeOver_70 : decode cX2_takeOver 70 = .ok (.return_, 1) := by decide +kernel
theorem eX2_totalWeight_0 : decode cX2_totalWeight 0 = .ok (.iconst 0, 1) := by decide +kernel
theorem eX2_totalWeight_1 : decode cX2_totalWeight 1 = .ok (.istore_n 1, 1) := by decide +kernel
theorem eX2_totalWeight_2 : decode cX2_totalWeight 2 = .ok (.iconst 0, 1) := by decide +kernel
theorem eX2_totalWeight_3 : decode cX2_totalWeight 3 = .ok (.istore_n 2, 1) := by decide +kernel
theorem eX2_totalWeight_4 : decode cX2_totalWeight 4 = .ok (.iload_n 2, 1) := by decide +kernel
theorem eX2_totalWeight_5 : decode cX2_totalWeight 5 = .ok (.aload_n 0, 1) := by decide +kernel
theorem eX2_totalWeight_6 : decode cX2_totalWeight 6 = .ok (.getfield 24, 3) := by decide +kernel
theorem eX2_totalWeight_9 : decode cX2_totalWeight 9 = .ok (.if_icmp .ge 20, 3) := by decide +kernel
theorem eX2_totalWeight_29 : decode cX2_totalWeight 29 = .ok (.iload_n 1, 1) := by decide +kernel
theorem eX2_totalWeight_30 : decode cX2_totalWeight 30 = .ok (.ireturn, 1) := by decide +kernel
theorem eX3_init_0 : decode cX3_init 0 = .ok (.aload_n 0, 1) := by decide +kernel
theorem eX3_init_1 : decode cX3_init 1 = .ok (.invokespecial 3, 3) := by decide +kernel
theorem eX3_init_4 : decode cX3_init 4 = .ok (.aload_n 0, 1) := by decide +kernel
theorem eX3_init_5 : decode cX3_init 5 = .ok (.new 9, 3) := by decide +kernel
theorem eX3_init_8 : decode cX3_init 8 = .ok (.dup, 1) := by decide +kernel
theorem eX3_init_9 : decode cX3_init 9 = .ok (.sipush 1000, 3) := by decide +kernel
theorem eX3_init_12 : decode cX3_init 12 = .ok (.invokespecial 13, 3) := by decide +kernel
theorem eX3_init_15 : decode cX3_init 15 = .ok (.putfield 16, 3) := by decide +kernel
theorem eX3_init_18 : decode cX3_init 18 = .ok (.aload_n 0, 1) := by decide +kernel
theorem eX3_init_19 : decode cX3_init 19 = .ok (.aload_n 1, 1) := by decide +kernel
theorem eX3_init_20 : decode cX3_init 20 = .ok (.putfield 20, 3) := by decide +kernel
theorem eX3_init_23 : decode cX3_init 23 = .ok (.aload_n 0, 1) := by decide +kernel
theorem eX3_init_24 : decode cX3_init 24 = .ok (.aload_n 2, 1) := by decide +kernel
theorem eX3_init_25 : decode cX3_init 25 = .ok (.putfield 24, 3) := by decide +kernel
theorem eX3_init_28 : decode cX3_init 28 = .ok (.aload_n 0, 1) := by decide +kernel
theorem eX3_init_29 : decode cX3_init 29 = .ok (.aload_n 3, 1) := by decide +kernel
theorem eX3_init_30 : decode cX3_init 30 = .ok (.putfield 28, 3) := by decide +kernel
theorem eX3_init_33 : decode cX3_init 33 = .ok (.aload_n 0, 1) := by decide +kernel
theorem eX3_init_34 : decode cX3_init 34 = .ok (.aload 4, 2) := by decide +kernel
theorem eX3_init_36 : decode cX3_init 36 = .ok (.putfield 32, 3) := by decide +kernel
theorem eX3_init_39 : decode cX3_init 39 = .ok (.return_, 1) := by decide +kernel
theorem eX3_list_0 : decode cX3_list 0 = .ok (.aload_n 0, 1) := by decide +kernel
theorem eX3_list_1 : decode cX3_list 1 = .ok (.getfield 16, 3) := by decide +kernel
theorem eX3_list_4 : decode cX3_list 4 = .ok (.invokevirtual 36, 3) := by decide +kernel
theorem eX3_list_7 : decode cX3_list 7 = .ok (.iload_n 1, 1) := by decide +kernel
theorem eX3_list_8 : decode cX3_list 8 = .ok (.tableswitch 52 0 2 #[28, 28, 45], 28) := by decide +kernel
theorem eX3_list_36 : decode cX3_list 36 = .ok (.aload_n 0, 1) := by decide +kernel
theorem eX3_list_37 : decode cX3_list 37 = .ok (.iload_n 1, 1) := by decide +kernel
theorem eX3_list_38 : decode cX3_list 38 = .ok (.iconst 1, 1) := by decide +kernel
theorem eX3_list_39 : decode cX3_list 39 = .ok (.if_icmp .ne 7, 3) := by decide +kernel
theorem eX3_list_42 : decode cX3_list 42 = .ok (.iconst 1, 1) := by decide +kernel
theorem eX3_list_43 : decode cX3_list 43 = .ok (.goto 4, 3) := by decide +kernel
theorem eX3_list_46 : decode cX3_list 46 = .ok (.iconst 0, 1) := by decide +kernel
theorem eX3_list_47 : decode cX3_list 47 = .ok (.invokevirtual 39, 3) := by decide +kernel
theorem eX3_list_50 : decode cX3_list 50 = .ok (.goto 14, 3) := by decide +kernel
theorem eX3_list_53 : decode cX3_list 53 = .ok (.aload_n 0, 1) := by decide +kernel
theorem eX3_list_54 : decode cX3_list 54 = .ok (.invokevirtual 43, 3) := by decide +kernel
theorem eX3_list_57 : decode cX3_list 57 = .ok (.goto 7, 3) := by decide +kernel
theorem eX3_list_64 : decode cX3_list 64 = .ok (.return_, 1) := by decide +kernel
theorem eX3_listKeys_0 : decode cX3_listKeys 0 = .ok (.iconst 0, 1) := by decide +kernel
theorem eX3_listKeys_1 : decode cX3_listKeys 1 = .ok (.istore_n 2, 1) := by decide +kernel
theorem eX3_listKeys_2 : decode cX3_listKeys 2 = .ok (.iload_n 2, 1) := by decide +kernel
theorem eX3_listKeys_3 : decode cX3_listKeys 3 = .ok (.aload_n 0, 1) := by decide +kernel
theorem eX3_listKeys_4 : decode cX3_listKeys 4 = .ok (.getfield 20, 3) := by decide +kernel
theorem eX3_listKeys_7 : decode cX3_listKeys 7 = .ok (.getfield 69, 3) := by decide +kernel
theorem eX3_listKeys_10 : decode cX3_listKeys 10 = .ok (.if_icmp .ge 39, 3) := by decide +kernel
theorem eX3_listKeys_49 : decode cX3_listKeys 49 = .ok (.return_, 1) := by decide +kernel
theorem eX3_listForest_0 : decode cX3_listForest 0 = .ok (.iconst 0, 1) := by decide +kernel
theorem eX3_listForest_1 : decode cX3_listForest 1 = .ok (.istore_n 1, 1) := by decide +kernel
theorem eX3_listForest_2 : decode cX3_listForest 2 = .ok (.iload_n 1, 1) := by decide +kernel
theorem eX3_listForest_3 : decode cX3_listForest 3 = .ok (.aload_n 0, 1) := by decide +kernel
theorem eX3_listForest_4 : decode cX3_listForest 4 = .ok (.getfield 28, 3) := by decide +kernel
theorem eX3_listForest_7 : decode cX3_listForest 7 = .ok (.getfield 85, 3) := by decide +kernel
theorem eX3_listForest_10 : decode cX3_listForest 10 = .ok (.if_icmp .ge 49, 3) := by decide +kernel
theorem eX3_listForest_59 : decode cX3_listForest 59 = .ok (.return_, 1) := by decide +kernel
theorem eX4_init_0 : decode cX4_init 0 = .ok (.aload_n 0, 1) := by decide +kernel
theorem eX4_init_1 : decode cX4_init 1 = .ok (.invokespecial 3, 3) := by decide +kernel
theorem eX4_init_4 : decode cX4_init 4 = .ok (.aload_n 0, 1) := by decide +kernel
theorem eX4_init_5 : decode cX4_init 5 = .ok (.bipush 20, 2) := by decide +kernel
theorem eX4_init_7 : decode cX4_init 7 = .ok (.newarray .int, 2) := by decide +kernel
theorem eX4_init_9 : decode cX4_init 9 = .ok (.putfield 9, 3) := by decide +kernel
theorem eX4_init_12 : decode cX4_init 12 = .ok (.aload_n 0, 1) := by decide +kernel
theorem eX4_init_13 : decode cX4_init 13 = .ok (.aload_n 1, 1) := by decide +kernel
theorem eX4_init_14 : decode cX4_init 14 = .ok (.putfield 15, 3) := by decide +kernel
theorem eX4_init_17 : decode cX4_init 17 = .ok (.return_, 1) := by decide +kernel
theorem eX4_sort_0 : decode cX4_sort 0 = .ok (.iconst 0, 1) := by decide +kernel
theorem eX4_sort_1 : decode cX4_sort 1 = .ok (.istore_n 1, 1) := by decide +kernel
theorem eX4_sort_2 : decode cX4_sort 2 = .ok (.iload_n 1, 1) := by decide +kernel
theorem eX4_sort_3 : decode cX4_sort 3 = .ok (.aload_n 0, 1) := by decide +kernel
theorem eX4_sort_4 : decode cX4_sort 4 = .ok (.getfield 15, 3) := by decide +kernel
theorem eX4_sort_7 : decode cX4_sort 7 = .ok (.getfield 19, 3) := by decide +kernel
theorem eX4_sort_10 : decode cX4_sort 10 = .ok (.if_icmp .ge 25, 3) := by decide +kernel
theorem eX4_sort_35 : decode cX4_sort 35 = .ok (.return_, 1) := by decide +kernel
theorem eX5_init_0 : decode cX5_init 0 = .ok (.aload_n 0, 1) := by decide +kernel
theorem eX5_init_1 : decode cX5_init 1 = .ok (.invokespecial 3, 3) := by decide +kernel
theorem eX5_init_4 : decode cX5_init 4 = .ok (.aload_n 0, 1) := by decide +kernel
theorem eX5_init_5 : decode cX5_init 5 = .ok (.new 9, 3) := by decide +kernel
theorem eX5_init_8 : decode cX5_init 8 = .ok (.dup, 1) := by decide +kernel
theorem eX5_init_9 : decode cX5_init 9 = .ok (.bipush 8, 2) := by decide +kernel
theorem eX5_init_11 : decode cX5_init 11 = .ok (.invokespecial 11, 3) := by decide +kernel
theorem eX5_init_14 : decode cX5_init 14 = .ok (.putfield 14, 3) := by decide +kernel
theorem eX5_init_17 : decode cX5_init 17 = .ok (.aload_n 0, 1) := by decide +kernel
theorem eX5_init_18 : decode cX5_init 18 = .ok (.iconst (-1), 1) := by decide +kernel
theorem eX5_init_19 : decode cX5_init 19 = .ok (.putfield 20, 3) := by decide +kernel
theorem eX5_init_22 : decode cX5_init 22 = .ok (.aload_n 0, 1) := by decide +kernel
theorem eX5_init_23 : decode cX5_init 23 = .ok (.iconst 0, 1) := by decide +kernel
theorem eX5_init_24 : decode cX5_init 24 = .ok (.putfield 24, 3) := by decide +kernel
theorem eX5_init_27 : decode cX5_init 27 = .ok (.aload_n 0, 1) := by decide +kernel
theorem eX5_init_28 : decode cX5_init 28 = .ok (.iconst 0, 1) := by decide +kernel
theorem eX5_init_29 : decode cX5_init 29 = .ok (.putfield 27, 3) := by decide +kernel
theorem eX5_init_32 : decode cX5_init 32 = .ok (.aload_n 0, 1) := by decide +kernel
theorem eX5_init_33 : decode cX5_init 33 = .ok (.iconst 0, 1) := by decide +kernel
theorem eX5_init_34 : decode cX5_init 34 = .ok (.putfield 30, 3) := by decide +kernel
theorem eX5_init_37 : decode cX5_init 37 = .ok (.aload_n 0, 1) := by decide +kernel
theorem eX5_init_38 : decode cX5_init 38 = .ok (.aload_n 1, 1) := by decide +kernel
theorem eX5_init_39 : decode cX5_init 39 = .ok (.putfield 33, 3) := by decide +kernel
theorem eX5_init_42 : decode cX5_init 42 = .ok (.aload_n 0, 1) := by decide +kernel
theorem eX5_init_43 : decode cX5_init 43 = .ok (.aload_n 2, 1) := by decide +kernel
theorem eX5_init_44 : decode cX5_init 44 = .ok (.putfield 37, 3) := by decide +kernel
theorem eX5_init_47 : decode cX5_init 47 = .ok (.aload_n 0, 1) := by decide +kernel
theorem eX5_init_48 : decode cX5_init 48 = .ok (.aload_n 3, 1) := by decide +kernel
theorem eX5_init_49 : decode cX5_init 49 = .ok (.putfield 41, 3) := by decide +kernel
theorem eX5_init_52 : decode cX5_init 52 = .ok (.aload_n 0, 1) := by decide +kernel
theorem eX5_init_53 : decode cX5_init 53 = .ok (.aload 4, 2) := by decide +kernel
theorem eX5_init_55 : decode cX5_init 55 = .ok (.putfield 45, 3) := by decide +kernel
theorem eX5_init_58 : decode cX5_init 58 = .ok (.return_, 1) := by decide +kernel
theorem eX5_run_0 : decode cX5_run 0 = .ok (.aload_n 0, 1) := by decide +kernel
theorem eX5_run_1 : decode cX5_run 1 = .ok (.iconst (-1), 1) := by decide +kernel
theorem eX5_run_2 : decode cX5_run 2 = .ok (.putfield 20, 3) := by decide +kernel
theorem eX5_run_5 : decode cX5_run 5 = .ok (.aload_n 0, 1) := by decide +kernel
theorem eX5_run_6 : decode cX5_run 6 = .ok (.iconst 0, 1) := by decide +kernel
theorem eX5_run_7 : decode cX5_run 7 = .ok (.putfield 24, 3) := by decide +kernel
theorem eX5_run_10 : decode cX5_run 10 = .ok (.iload_n 2, 1) := by decide +kernel
theorem eX5_run_11 : decode cX5_run 11 = .ok (.tableswitch 49 0 2 #[25, 33, 41], 25) := by decide +kernel
theorem eX5_run_36 : decode cX5_run 36 = .ok (.aload_n 0, 1) := by decide +kernel
theorem eX5_run_37 : decode cX5_run 37 = .ok (.aload_n 1, 1) := by decide +kernel
theorem eX5_run_38 : decode cX5_run 38 = .ok (.invokevirtual 49, 3) := by decide +kernel
theorem eX5_run_41 : decode cX5_run 41 = .ok (.goto 24, 3) := by decide +kernel
theorem eX5_run_44 : decode cX5_run 44 = .ok (.aload_n 0, 1) := by decide +kernel
theorem eX5_run_45 : decode cX5_run 45 = .ok (.aload_n 1, 1) := by decide +kernel
theorem eX5_run_46 : decode cX5_run 46 = .ok (.invokevirtual 53, 3) := by decide +kernel
theorem eX5_run_49 : decode cX5_run 49 = .ok (.goto 16, 3) := by decide +kernel
theorem eX5_run_52 : decode cX5_run 52 = .ok (.aload_n 0, 1) := by decide +kernel
theorem eX5_run_53 : decode cX5_run 53 = .ok (.aload_n 1, 1) := by decide +kernel
theorem eX5_run_54 : decode cX5_run 54 = .ok (.invokevirtual 56, 3) := by decide +kernel
theorem eX5_run_57 : decode cX5_run 57 = .ok (.goto 8, 3) := by decide +kernel
theorem eX5_run_60 : decode cX5_run 60 = .ok (.aload_n 0, 1) := by decide +kernel
theorem eX5_run_61 : decode cX5_run 61 = .ok (.aload_n 1, 1) := by decide +kernel
theorem eX5_run_62 : decode cX5_run 62 = .ok (.invokevirtual 59, 3) := by decide +kernel
theorem eX5_run_65 : decode cX5_run 65 = .ok (.return_, 1) := by decide +kernel
theorem eX5_measure_0 : decode cX5_measure 0 = .ok (.aload_n 0, 1) := by decide +kernel
theorem eX5_measure_1 : decode cX5_measure 1 = .ok (.iconst 0, 1) := by decide +kernel
theorem eX5_measure_2 : decode cX5_measure 2 = .ok (.putfield 27, 3) := by decide +kernel
theorem eX5_measure_5 : decode cX5_measure 5 = .ok (.aload_n 0, 1) := by decide +kernel
theorem eX5_measure_6 : decode cX5_measure 6 = .ok (.iconst 0, 1) := by decide +kernel
theorem eX5_measure_7 : decode cX5_measure 7 = .ok (.putfield 30, 3) := by decide +kernel
theorem eX5_measure_10 : decode cX5_measure 10 = .ok (.iconst 0, 1) := by decide +kernel
theorem eX5_measure_11 : decode cX5_measure 11 = .ok (.istore_n 2, 1) := by decide +kernel
theorem eX5_measure_12 : decode cX5_measure 12 = .ok (.iload_n 2, 1) := by decide +kernel
theorem eX5_measure_13 : decode cX5_measure 13 = .ok (.aload_n 0, 1) := by decide +kernel
theorem eX5_measure_14 : decode cX5_measure 14 = .ok (.getfield 33, 3) := by decide +kernel
theorem eX5_measure_17 : decode cX5_measure 17 = .ok (.getfield 62, 3) := by decide +kernel
theorem eX5_measure_20 : decode cX5_measure 20 = .ok (.if_icmp .ge 77, 3) := by decide +kernel
theorem eX5_measure_97 : decode cX5_measure 97 = .ok (.return_, 1) := by decide +kernel
theorem eX5_runLinear_0 : decode cX5_runLinear 0 = .ok (.iconst 0, 1) := by decide +kernel
theorem eX5_runLinear_1 : decode cX5_runLinear 1 = .ok (.istore_n 2, 1) := by decide +kernel
theorem eX5_runLinear_2 : decode cX5_runLinear 2 = .ok (.iload_n 2, 1) := by decide +kernel
theorem eX5_runLinear_3 : decode cX5_runLinear 3 = .ok (.aload_n 0, 1) := by decide +kernel
theorem eX5_runLinear_4 : decode cX5_runLinear 4 = .ok (.getfield 33, 3) := by decide +kernel
theorem eX5_runLinear_7 : decode cX5_runLinear 7 = .ok (.getfield 62, 3) := by decide +kernel
theorem eX5_runLinear_10 : decode cX5_runLinear 10 = .ok (.if_icmp .ge 31, 3) := by decide +kernel
theorem eX5_runLinear_41 : decode cX5_runLinear 41 = .ok (.return_, 1) := by decide +kernel
theorem eX5_runBinary_0 : decode cX5_runBinary 0 = .ok (.iconst 0, 1) := by decide +kernel
theorem eX5_runBinary_1 : decode cX5_runBinary 1 = .ok (.istore_n 2, 1) := by decide +kernel
theorem eX5_runBinary_2 : decode cX5_runBinary 2 = .ok (.aload_n 0, 1) := by decide +kernel
theorem eX5_runBinary_3 : decode cX5_runBinary 3 = .ok (.getfield 33, 3) := by decide +kernel
theorem eX5_runBinary_6 : decode cX5_runBinary 6 = .ok (.getfield 62, 3) := by decide +kernel
theorem eX5_runBinary_9 : decode cX5_runBinary 9 = .ok (.iconst 1, 1) := by decide +kernel
theorem eX5_runBinary_10 : decode cX5_runBinary 10 = .ok (.isub, 1) := by decide +kernel
theorem eX5_runBinary_11 : decode cX5_runBinary 11 = .ok (.istore_n 3, 1) := by decide +kernel
theorem eX5_runBinary_12 : decode cX5_runBinary 12 = .ok (.iconst 0, 1) := by decide +kernel
theorem eX5_runBinary_13 : decode cX5_runBinary 13 = .ok (.istore 4, 2) := by decide +kernel
theorem eX5_runBinary_15 : decode cX5_runBinary 15 = .ok (.iload 4, 2) := by decide +kernel
theorem eX5_runBinary_17 : decode cX5_runBinary 17 = .ok (.bipush 20, 2) := by decide +kernel
theorem eX5_runBinary_19 : decode cX5_runBinary 19 = .ok (.if_icmp .ge 109, 3) := by decide +kernel
theorem eX5_runBinary_22 : decode cX5_runBinary 22 = .ok (.iload_n 2, 1) := by decide +kernel
theorem eX5_runBinary_23 : decode cX5_runBinary 23 = .ok (.iload_n 3, 1) := by decide +kernel
theorem eX5_runBinary_24 : decode cX5_runBinary 24 = .ok (.if_icmp .gt 104, 3) := by decide +kernel
theorem eX5_runBinary_128 : decode cX5_runBinary 128 = .ok (.return_, 1) := by decide +kernel
theorem eX5_runTrees_0 : decode cX5_runTrees 0 = .ok (.iconst 0, 1) := by decide +kernel
theorem eX5_runTrees_1 : decode cX5_runTrees 1 = .ok (.istore_n 2, 1) := by decide +kernel
theorem eX5_runTrees_2 : decode cX5_runTrees 2 = .ok (.aload_n 0, 1) := by decide +kernel
theorem eX5_runTrees_3 : decode cX5_runTrees 3 = .ok (.getfield 41, 3) := by decide +kernel
theorem eX5_runTrees_6 : decode cX5_runTrees 6 = .ok (.aload_n 1, 1) := by decide +kernel
theorem eX5_runTrees_7 : decode cX5_runTrees 7 = .ok (.getfield 92, 3) := by decide +kernel
theorem eX5_runTrees_10 : decode cX5_runTrees 10 = .ok (.invokevirtual 121, 3) := by decide +kernel
theorem eX5_runTrees_13 : decode cX5_runTrees 13 = .ok (.istore_n 3, 1) := by decide +kernel
theorem eX5_runTrees_14 : decode cX5_runTrees 14 = .ok (.iconst 0, 1) := by decide +kernel
theorem eX5_runTrees_15 : decode cX5_runTrees 15 = .ok (.istore 4, 2) := by decide +kernel
theorem eX5_runTrees_17 : decode cX5_runTrees 17 = .ok (.iload 4, 2) := by decide +kernel
theorem eX5_runTrees_19 : decode cX5_runTrees 19 = .ok (.bipush 8, 2) := by decide +kernel
theorem eX5_runTrees_21 : decode cX5_runTrees 21 = .ok (.if_icmp .ge 70, 3) := by decide +kernel
theorem eX5_runTrees_24 : decode cX5_runTrees 24 = .ok (.iload_n 3, 1) := by decide +kernel
theorem eX5_runTrees_25 : decode cX5_runTrees 25 = .ok (.iconst (-1), 1) := by decide +kernel
theorem eX5_runTrees_26 : decode cX5_runTrees 26 = .ok (.if_icmp .eq 65, 3) := by decide +kernel
theorem eX5_runTrees_91 : decode cX5_runTrees 91 = .ok (.iload_n 3, 1) := by decide +kernel
theorem eX5_runTrees_92 : decode cX5_runTrees 92 = .ok (.iconst (-1), 1) := by decide +kernel
theorem eX5_runTrees_93 : decode cX5_runTrees 93 = .ok (.if_icmp .eq 32, 3) := by decide +kernel
theorem eX5_runTrees_125 : decode cX5_runTrees 125 = .ok (.return_, 1) := by decide +kernel
theorem eX5_runTable_0 : decode cX5_runTable 0 = .ok (.aload_n 0, 1) := by decide +kernel
theorem eX5_runTable_1 : decode cX5_runTable 1 = .ok (.getfield 45, 3) := by decide +kernel
theorem eX5_runTable_4 : decode cX5_runTable 4 = .ok (.getfield 147, 3) := by decide +kernel
theorem eX5_runTable_7 : decode cX5_runTable 7 = .ok (.ifCond .eq 84, 3) := by decide +kernel
theorem eX5_runTable_91 : decode cX5_runTable 91 = .ok (.return_, 1) := by decide +kernel
theorem eX6_init_0 : decode cX6_init 0 = .ok (.aload_n 0, 1) := by decide +kernel
theorem eX6_init_1 : decode cX6_init 1 = .ok (.invokespecial 3, 3) := by decide +kernel
theorem eX6_init_4 : decode cX6_init 4 = .ok (.aload_n 0, 1) := by decide +kernel
theorem eX6_init_5 : decode cX6_init 5 = .ok (.sipush 400, 3) := by decide +kernel
theorem eX6_init_8 : decode cX6_init 8 = .ok (.newarray .int, 2) := by decide +kernel
theorem eX6_init_10 : decode cX6_init 10 = .ok (.putfield 9, 3) := by decide +kernel
theorem eX6_init_13 : decode cX6_init 13 = .ok (.aload_n 0, 1) := by decide +kernel
theorem eX6_init_14 : decode cX6_init 14 = .ok (.iconst 0, 1) := by decide +kernel
theorem eX6_init_15 : decode cX6_init 15 = .ok (.putfield 15, 3) := by decide +kernel
theorem eX6_init_18 : decode cX6_init 18 = .ok (.aload_n 0, 1) := by decide +kernel
theorem eX6_init_19 : decode cX6_init 19 = .ok (.iconst 0, 1) := by decide +kernel
theorem eX6_init_20 : decode cX6_init 20 = .ok (.putfield 19, 3) := by decide +kernel
theorem eX6_init_23 : decode cX6_init 23 = .ok (.aload_n 0, 1) := by decide +kernel
theorem eX6_init_24 : decode cX6_init 24 = .ok (.aload_n 1, 1) := by decide +kernel
theorem eX6_init_25 : decode cX6_init 25 = .ok (.putfield 22, 3) := by decide +kernel
theorem eX6_init_28 : decode cX6_init 28 = .ok (.return_, 1) := by decide +kernel
theorem eX6_choose_0 : decode cX6_choose 0 = .ok (.aload_n 0, 1) := by decide +kernel
theorem eX6_choose_1 : decode cX6_choose 1 = .ok (.invokevirtual 26, 3) := by decide +kernel
theorem eX6_choose_4 : decode cX6_choose 4 = .ok (.bipush 9, 2) := by decide +kernel
theorem eX6_choose_6 : decode cX6_choose 6 = .ok (.istore_n 1, 1) := by decide +kernel
theorem eX6_choose_7 : decode cX6_choose 7 = .ok (.sipush 255, 3) := by decide +kernel
theorem eX6_choose_10 : decode cX6_choose 10 = .ok (.istore_n 2, 1) := by decide +kernel
theorem eX6_choose_11 : decode cX6_choose 11 = .ok (.iload_n 2, 1) := by decide +kernel
theorem eX6_choose_12 : decode cX6_choose 12 = .ok (.ifCond .lt 40, 3) := by decide +kernel
theorem eX6_choose_15 : decode cX6_choose 15 = .ok (.iload_n 2, 1) := by decide +kernel
theorem eX6_choose_16 : decode cX6_choose 16 = .ok (.invokestatic 29, 3) := by decide +kernel
theorem eX6_choose_19 : decode cX6_choose 19 = .ok (.istore_n 3, 1) := by decide +kernel
theorem eX6_choose_20 : decode cX6_choose 20 = .ok (.iload_n 3, 1) := by decide +kernel
theorem eX6_choose_21 : decode cX6_choose 21 = .ok (.iload_n 1, 1) := by decide +kernel
theorem eX6_choose_22 : decode cX6_choose 22 = .ok (.if_icmp .ge 24, 3) := by decide +kernel
theorem eX6_choose_25 : decode cX6_choose 25 = .ok (.aload_n 0, 1) := by decide +kernel
theorem eX6_choose_26 : decode cX6_choose 26 = .ok (.iload_n 2, 1) := by decide +kernel
theorem eX6_choose_27 : decode cX6_choose 27 = .ok (.invokestatic 35, 3) := by decide +kernel
theorem eX6_choose_30 : decode cX6_choose 30 = .ok (.invokevirtual 38, 3) := by decide +kernel
theorem eX6_choose_33 : decode cX6_choose 33 = .ok (.ifCond .eq 13, 3) := by decide +kernel
theorem eX6_choose_36 : decode cX6_choose 36 = .ok (.iload_n 3, 1) := by decide +kernel
theorem eX6_choose_37 : decode cX6_choose 37 = .ok (.istore_n 1, 1) := by decide +kernel
theorem eX6_choose_38 : decode cX6_choose 38 = .ok (.aload_n 0, 1) := by decide +kernel
theorem eX6_choose_39 : decode cX6_choose 39 = .ok (.iload_n 2, 1) := by decide +kernel
theorem eX6_choose_40 : decode cX6_choose 40 = .ok (.invokestatic 35, 3) := by decide +kernel
theorem eX6_choose_43 : decode cX6_choose 43 = .ok (.putfield 19, 3) := by decide +kernel
theorem eX6_choose_46 : decode cX6_choose 46 = .ok (.iinc 2 (-1), 3) := by decide +kernel
theorem eX6_choose_49 : decode cX6_choose 49 = .ok (.goto (-38), 3) := by decide +kernel
theorem eX6_choose_52 : decode cX6_choose 52 = .ok (.return_, 1) := by decide +kernel
theorem eX6_turned_0 : decode cX6_turned 0 = .ok (.iconst 0, 1) := by decide +kernel
theorem eX6_turned_1 : decode cX6_turned 1 = .ok (.istore_n 1, 1) := by decide +kernel
theorem eX6_turned_2 : decode cX6_turned 2 = .ok (.iconst 0, 1) := by decide +kernel
theorem eX6_turned_3 : decode cX6_turned 3 = .ok (.istore_n 2, 1) := by decide +kernel
theorem eX6_turned_4 : decode cX6_turned 4 = .ok (.iload_n 2, 1) := by decide +kernel
theorem eX6_turned_5 : decode cX6_turned 5 = .ok (.bipush 8, 2) := by decide +kernel
theorem eX6_turned_7 : decode cX6_turned 7 = .ok (.if_icmp .ge 26, 3) := by decide +kernel
theorem eX6_turned_10 : decode cX6_turned 10 = .ok (.iload_n 0, 1) := by decide +kernel
theorem eX6_turned_11 : decode cX6_turned 11 = .ok (.bipush 7, 2) := by decide +kernel
theorem eX6_turned_13 : decode cX6_turned 13 = .ok (.iload_n 2, 1) := by decide +kernel
theorem eX6_turned_14 : decode cX6_turned 14 = .ok (.isub, 1) := by decide +kernel
theorem eX6_turned_15 : decode cX6_turned 15 = .ok (.invokestatic 42, 3) := by decide +kernel
theorem eX6_turned_18 : decode cX6_turned 18 = .ok (.ifCond .eq 9, 3) := by decide +kernel
theorem eX6_turned_21 : decode cX6_turned 21 = .ok (.iload_n 1, 1) := by decide +kernel
theorem eX6_turned_22 : decode cX6_turned 22 = .ok (.iconst 1, 1) := by decide +kernel
theorem eX6_turned_23 : decode cX6_turned 23 = .ok (.iload_n 2, 1) := by decide +kernel
theorem eX6_turned_24 : decode cX6_turned 24 = .ok (.ishl, 1) := by decide +kernel
theorem eX6_turned_25 : decode cX6_turned 25 = .ok (.ior, 1) := by decide +kernel
theorem eX6_turned_26 : decode cX6_turned 26 = .ok (.istore_n 1, 1) := by decide +kernel
theorem eX6_turned_27 : decode cX6_turned 27 = .ok (.iinc 2 1, 3) := by decide +kernel
theorem eX6_turned_30 : decode cX6_turned 30 = .ok (.goto (-26), 3) := by decide +kernel
theorem eX6_turned_33 : decode cX6_turned 33 = .ok (.iload_n 1, 1) := by decide +kernel
theorem eX6_turned_34 : decode cX6_turned 34 = .ok (.ireturn, 1) := by decide +kernel
theorem eX6_collectPairs_0 : decode cX6_collectPairs 0 = .ok (.aload_n 0, 1) := by decide +kernel
theorem eX6_collectPairs_1 : decode cX6_collectPairs 1 = .ok (.iconst 0, 1) := by decide +kernel
theorem eX6_collectPairs_2 : decode cX6_collectPairs 2 = .ok (.putfield 15, 3) := by decide +kernel
theorem eX6_collectPairs_5 : decode cX6_collectPairs 5 = .ok (.iconst 0, 1) := by decide +kernel
theorem eX6_collectPairs_6 : decode cX6_collectPairs 6 = .ok (.istore_n 1, 1) := by decide +kernel
theorem eX6_collectPairs_7 : decode cX6_collectPairs 7 = .ok (.iload_n 1, 1) := by decide +kernel
theorem eX6_collectPairs_8 : decode cX6_collectPairs 8 = .ok (.aload_n 0, 1) := by decide +kernel
theorem eX6_collectPairs_9 : decode cX6_collectPairs 9 = .ok (.getfield 22, 3) := by decide +kernel
theorem eX6_collectPairs_12 : decode cX6_collectPairs 12 = .ok (.getfield 46, 3) := by decide +kernel
theorem eX6_collectPairs_15 : decode cX6_collectPairs 15 = .ok (.if_icmp .ge 71, 3) := by decide +kernel
theorem eX6_collectPairs_86 : decode cX6_collectPairs 86 = .ok (.return_, 1) := by decide +kernel
theorem eX6_separates_0 : decode cX6_separates 0 = .ok (.iconst 0, 1) := by decide +kernel
theorem eX6_separates_1 : decode cX6_separates 1 = .ok (.istore_n 2, 1) := by decide +kernel
theorem eX6_separates_2 : decode cX6_separates 2 = .ok (.iload_n 2, 1) := by decide +kernel
theorem eX6_separates_3 : decode cX6_separates 3 = .ok (.aload_n 0, 1) := by decide +kernel
theorem eX6_separates_4 : decode cX6_separates 4 = .ok (.getfield 15, 3) := by decide +kernel
theorem eX6_separates_7 : decode cX6_separates 7 = .ok (.if_icmp .ge 24, 3) := by decide +kernel
theorem eX6_separates_31 : decode cX6_separates 31 = .ok (.iconst 1, 1) := by decide +kernel
theorem eX6_separates_32 : decode cX6_separates 32 = .ok (.ireturn, 1) := by decide +kernel
theorem eX6_hashOf_0 : decode cX6_hashOf 0 = .ok (.iload_n 2, 1) := by decide +kernel
theorem eX6_hashOf_1 : decode cX6_hashOf 1 = .ok (.istore_n 3, 1) := by decide +kernel
theorem eX6_hashOf_2 : decode cX6_hashOf 2 = .ok (.iconst 0, 1) := by decide +kernel
theorem eX6_hashOf_3 : decode cX6_hashOf 3 = .ok (.istore 4, 2) := by decide +kernel
theorem eX6_hashOf_5 : decode cX6_hashOf 5 = .ok (.iload 4, 2) := by decide +kernel
theorem eX6_hashOf_7 : decode cX6_hashOf 7 = .ok (.bipush 8, 2) := by decide +kernel
theorem eX6_hashOf_9 : decode cX6_hashOf 9 = .ok (.if_icmp .ge 46, 3) := by decide +kernel
theorem eX6_hashOf_12 : decode cX6_hashOf 12 = .ok (.aload_n 0, 1) := by decide +kernel
theorem eX6_hashOf_13 : decode cX6_hashOf 13 = .ok (.getfield 19, 3) := by decide +kernel
theorem eX6_hashOf_16 : decode cX6_hashOf 16 = .ok (.iload 4, 2) := by decide +kernel
theorem eX6_hashOf_18 : decode cX6_hashOf 18 = .ok (.iushr, 1) := by decide +kernel
theorem eX6_hashOf_19 : decode cX6_hashOf 19 = .ok (.iconst 1, 1) := by decide +kernel
theorem eX6_hashOf_20 : decode cX6_hashOf 20 = .ok (.iand, 1) := by decide +kernel
theorem eX6_hashOf_21 : decode cX6_hashOf 21 = .ok (.ifCond .eq 28, 3) := by decide +kernel
theorem eX6_hashOf_49 : decode cX6_hashOf 49 = .ok (.iinc 4 1, 3) := by decide +kernel
theorem eX6_hashOf_52 : decode cX6_hashOf 52 = .ok (.goto (-47), 3) := by decide +kernel
theorem eX6_hashOf_55 : decode cX6_hashOf 55 = .ok (.bipush 31, 2) := by decide +kernel
theorem eX6_hashOf_57 : decode cX6_hashOf 57 = .ok (.iload_n 3, 1) := by decide +kernel
theorem eX6_hashOf_58 : decode cX6_hashOf 58 = .ok (.imul, 1) := by decide +kernel
theorem eX6_hashOf_59 : decode cX6_hashOf 59 = .ok (.aload_n 1, 1) := by decide +kernel
theorem eX6_hashOf_60 : decode cX6_hashOf 60 = .ok (.getfield 66, 3) := by decide +kernel
theorem eX6_hashOf_63 : decode cX6_hashOf 63 = .ok (.iadd, 1) := by decide +kernel
theorem eX6_hashOf_64 : decode cX6_hashOf 64 = .ok (.istore_n 3, 1) := by decide +kernel
theorem eX6_hashOf_65 : decode cX6_hashOf 65 = .ok (.iload_n 3, 1) := by decide +kernel
theorem eX6_hashOf_66 : decode cX6_hashOf 66 = .ok (.iload_n 3, 1) := by decide +kernel
theorem eX6_hashOf_67 : decode cX6_hashOf 67 = .ok (.bipush 15, 2) := by decide +kernel
theorem eX6_hashOf_69 : decode cX6_hashOf 69 = .ok (.iushr, 1) := by decide +kernel
theorem eX6_hashOf_70 : decode cX6_hashOf 70 = .ok (.ixor, 1) := by decide +kernel
theorem eX6_hashOf_71 : decode cX6_hashOf 71 = .ok (.istore_n 3, 1) := by decide +kernel
theorem eX6_hashOf_72 : decode cX6_hashOf 72 = .ok (.iload_n 3, 1) := by decide +kernel
theorem eX6_hashOf_73 : decode cX6_hashOf 73 = .ok (.ldc 74, 2) := by decide +kernel
theorem eX6_hashOf_75 : decode cX6_hashOf 75 = .ok (.imul, 1) := by decide +kernel
theorem eX6_hashOf_76 : decode cX6_hashOf 76 = .ok (.istore_n 3, 1) := by decide +kernel
theorem eX6_hashOf_77 : decode cX6_hashOf 77 = .ok (.iload_n 3, 1) := by decide +kernel
theorem eX6_hashOf_78 : decode cX6_hashOf 78 = .ok (.iload_n 3, 1) := by decide +kernel
theorem eX6_hashOf_79 : decode cX6_hashOf 79 = .ok (.bipush 12, 2) := by decide +kernel
theorem eX6_hashOf_81 : decode cX6_hashOf 81 = .ok (.iushr, 1) := by decide +kernel
theorem eX6_hashOf_82 : decode cX6_hashOf 82 = .ok (.ixor, 1) := by decide +kernel
theorem eX6_hashOf_83 : decode cX6_hashOf 83 = .ok (.ireturn, 1) := by decide +kernel
theorem eX7_init_0 : decode cX7_init 0 = .ok (.aload_n 0, 1) := by decide +kernel
theorem eX7_init_1 : decode cX7_init 1 = .ok (.invokespecial 3, 3) := by decide +kernel
theorem eX7_init_4 : decode cX7_init 4 = .ok (.aload_n 0, 1) := by decide +kernel
theorem eX7_init_5 : decode cX7_init 5 = .ok (.new 9, 3) := by decide +kernel
theorem eX7_init_8 : decode cX7_init 8 = .ok (.dup, 1) := by decide +kernel
theorem eX7_init_9 : decode cX7_init 9 = .ok (.bipush 8, 2) := by decide +kernel
theorem eX7_init_11 : decode cX7_init 11 = .ok (.invokespecial 11, 3) := by decide +kernel
theorem eX7_init_14 : decode cX7_init 14 = .ok (.putfield 14, 3) := by decide +kernel
theorem eX7_init_17 : decode cX7_init 17 = .ok (.aload_n 0, 1) := by decide +kernel
theorem eX7_init_18 : decode cX7_init 18 = .ok (.bipush 20, 2) := by decide +kernel
theorem eX7_init_20 : decode cX7_init 20 = .ok (.newarray .int, 2) := by decide +kernel
theorem eX7_init_22 : decode cX7_init 22 = .ok (.putfield 20, 3) := by decide +kernel
theorem eX7_init_25 : decode cX7_init 25 = .ok (.aload_n 0, 1) := by decide +kernel
theorem eX7_init_26 : decode cX7_init 26 = .ok (.bipush 20, 2) := by decide +kernel
theorem eX7_init_28 : decode cX7_init 28 = .ok (.newarray .int, 2) := by decide +kernel
theorem eX7_init_30 : decode cX7_init 30 = .ok (.putfield 24, 3) := by decide +kernel
theorem eX7_init_33 : decode cX7_init 33 = .ok (.aload_n 0, 1) := by decide +kernel
theorem eX7_init_34 : decode cX7_init 34 = .ok (.bipush 20, 2) := by decide +kernel
theorem eX7_init_36 : decode cX7_init 36 = .ok (.newarray .int, 2) := by decide +kernel
theorem eX7_init_38 : decode cX7_init 38 = .ok (.putfield 27, 3) := by decide +kernel
theorem eX7_init_41 : decode cX7_init 41 = .ok (.aload_n 0, 1) := by decide +kernel
theorem eX7_init_42 : decode cX7_init 42 = .ok (.bipush 7, 2) := by decide +kernel
theorem eX7_init_44 : decode cX7_init 44 = .ok (.newarray .int, 2) := by decide +kernel
theorem eX7_init_46 : decode cX7_init 46 = .ok (.putfield 30, 3) := by decide +kernel
theorem eX7_init_49 : decode cX7_init 49 = .ok (.aload_n 0, 1) := by decide +kernel
theorem eX7_init_50 : decode cX7_init 50 = .ok (.bipush 7, 2) := by decide +kernel
theorem eX7_init_52 : decode cX7_init 52 = .ok (.newarray .int, 2) := by decide +kernel
theorem eX7_init_54 : decode cX7_init 54 = .ok (.putfield 33, 3) := by decide +kernel
theorem eX7_init_57 : decode cX7_init 57 = .ok (.aload_n 0, 1) := by decide +kernel
theorem eX7_init_58 : decode cX7_init 58 = .ok (.bipush 40, 2) := by decide +kernel
theorem eX7_init_60 : decode cX7_init 60 = .ok (.newarray .int, 2) := by decide +kernel
theorem eX7_init_62 : decode cX7_init 62 = .ok (.putfield 36, 3) := by decide +kernel
theorem eX7_init_65 : decode cX7_init 65 = .ok (.aload_n 0, 1) := by decide +kernel
theorem eX7_init_66 : decode cX7_init 66 = .ok (.iconst 0, 1) := by decide +kernel
theorem eX7_init_67 : decode cX7_init 67 = .ok (.putfield 39, 3) := by decide +kernel
theorem eX7_init_70 : decode cX7_init 70 = .ok (.aload_n 0, 1) := by decide +kernel
theorem eX7_init_71 : decode cX7_init 71 = .ok (.iconst 0, 1) := by decide +kernel
theorem eX7_init_72 : decode cX7_init 72 = .ok (.putfield 43, 3) := by decide +kernel
theorem eX7_init_75 : decode cX7_init 75 = .ok (.aload_n 0, 1) := by decide +kernel
theorem eX7_init_76 : decode cX7_init 76 = .ok (.iconst 0, 1) := by decide +kernel
theorem eX7_init_77 : decode cX7_init 77 = .ok (.putfield 46, 3) := by decide +kernel
theorem eX7_init_80 : decode cX7_init 80 = .ok (.aload_n 0, 1) := by decide +kernel
theorem eX7_init_81 : decode cX7_init 81 = .ok (.iconst 0, 1) := by decide +kernel
theorem eX7_init_82 : decode cX7_init 82 = .ok (.putfield 49, 3) := by decide +kernel
theorem eX7_init_85 : decode cX7_init 85 = .ok (.aload_n 0, 1) := by decide +kernel
theorem eX7_init_86 : decode cX7_init 86 = .ok (.lconst 0, 1) := by decide +kernel
theorem eX7_init_87 : decode cX7_init 87 = .ok (.putfield 53, 3) := by decide +kernel
theorem eX7_init_90 : decode cX7_init 90 = .ok (.aload_n 0, 1) := by decide +kernel
theorem eX7_init_91 : decode cX7_init 91 = .ok (.aload_n 1, 1) := by decide +kernel
theorem eX7_init_92 : decode cX7_init 92 = .ok (.putfield 57, 3) := by decide +kernel
theorem eX7_init_95 : decode cX7_init 95 = .ok (.aload_n 0, 1) := by decide +kernel
theorem eX7_init_96 : decode cX7_init 96 = .ok (.aload_n 2, 1) := by decide +kernel
theorem eX7_init_97 : decode cX7_init 97 = .ok (.putfield 61, 3) := by decide +kernel
theorem eX7_init_100 : decode cX7_init 100 = .ok (.return_, 1) := by decide +kernel
theorem eX7_build_0 : decode cX7_build 0 = .ok (.aload_n 0, 1) := by decide +kernel
theorem eX7_build_1 : decode cX7_build 1 = .ok (.iconst 0, 1) := by decide +kernel
theorem eX7_build_2 : decode cX7_build 2 = .ok (.putfield 49, 3) := by decide +kernel
theorem eX7_build_5 : decode cX7_build 5 = .ok (.aload_n 0, 1) := by decide +kernel
theorem eX7_build_6 : decode cX7_build 6 = .ok (.aload_n 0, 1) := by decide +kernel
theorem eX7_build_7 : decode cX7_build 7 = .ok (.getfield 57, 3) := by decide +kernel
theorem eX7_build_10 : decode cX7_build 10 = .ok (.getfield 65, 3) := by decide +kernel
theorem eX7_build_13 : decode cX7_build 13 = .ok (.ifCond .gt 7, 3) := by decide +kernel
theorem eX7_build_20 : decode cX7_build 20 = .ok (.bipush 100, 2) := by decide +kernel
theorem eX7_build_22 : decode cX7_build 22 = .ok (.aload_n 0, 1) := by decide +kernel
theorem eX7_build_23 : decode cX7_build 23 = .ok (.getfield 57, 3) := by decide +kernel
theorem eX7_build_26 : decode cX7_build 26 = .ok (.getfield 70, 3) := by decide +kernel
theorem eX7_build_29 : decode cX7_build 29 = .ok (.imul, 1) := by decide +kernel
theorem eX7_build_30 : decode cX7_build 30 = .ok (.aload_n 0, 1) := by decide +kernel
theorem eX7_build_31 : decode cX7_build 31 = .ok (.getfield 57, 3) := by decide +kernel
theorem eX7_build_34 : decode cX7_build 34 = .ok (.getfield 65, 3) := by decide +kernel
theorem eX7_build_37 : decode cX7_build 37 = .ok (.iadd, 1) := by decide +kernel
theorem eX7_build_38 : decode cX7_build 38 = .ok (.iconst 1, 1) := by decide +kernel
theorem eX7_build_39 : decode cX7_build 39 = .ok (.isub, 1) := by decide +kernel
theorem eX7_build_40 : decode cX7_build 40 = .ok (.aload_n 0, 1) := by decide +kernel
theorem eX7_build_41 : decode cX7_build 41 = .ok (.getfield 57, 3) := by decide +kernel
theorem eX7_build_44 : decode cX7_build 44 = .ok (.getfield 65, 3) := by decide +kernel
theorem eX7_build_47 : decode cX7_build 47 = .ok (.idiv, 1) := by decide +kernel
theorem eX7_build_48 : decode cX7_build 48 = .ok (.putfield 39, 3) := by decide +kernel
theorem eX7_build_51 : decode cX7_build 51 = .ok (.aload_n 0, 1) := by decide +kernel
theorem eX7_build_52 : decode cX7_build 52 = .ok (.aload_n 0, 1) := by decide +kernel
theorem eX7_build_53 : decode cX7_build 53 = .ok (.getfield 57, 3) := by decide +kernel
theorem eX7_build_56 : decode cX7_build 56 = .ok (.getfield 70, 3) := by decide +kernel
theorem eX7_build_59 : decode cX7_build 59 = .ok (.iconst 2, 1) := by decide +kernel
theorem eX7_build_60 : decode cX7_build 60 = .ok (.iadd, 1) := by decide +kernel
theorem eX7_build_61 : decode cX7_build 61 = .ok (.iconst 3, 1) := by decide +kernel
theorem eX7_build_62 : decode cX7_build 62 = .ok (.idiv, 1) := by decide +kernel
theorem eX7_build_63 : decode cX7_build 63 = .ok (.putfield 43, 3) := by decide +kernel
theorem eX7_build_66 : decode cX7_build 66 = .ok (.aload_n 0, 1) := by decide +kernel
theorem eX7_build_67 : decode cX7_build 67 = .ok (.getfield 57, 3) := by decide +kernel
theorem eX7_build_70 : decode cX7_build 70 = .ok (.getfield 70, 3) := by decide +kernel
theorem eX7_build_73 : decode cX7_build 73 = .ok (.ifCond .le 34, 3) := by decide +kernel
theorem eX7_build_107 : decode cX7_build 107 = .ok (.return_, 1) := by decide +kernel
theorem eX8_init_0 : decode cX8_init 0 = .ok (.aload_n 0, 1) := by decide +kernel
theorem eX8_init_1 : decode cX8_init 1 = .ok (.invokespecial 3, 3) := by decide +kernel
theorem eX8_init_4 : decode cX8_init 4 = .ok (.aload_n 0, 1) := by decide +kernel
theorem eX8_init_5 : decode cX8_init 5 = .ok (.iconst 0, 1) := by decide +kernel
theorem eX8_init_6 : decode cX8_init 6 = .ok (.putfield 9, 3) := by decide +kernel
theorem eX8_init_9 : decode cX8_init 9 = .ok (.aload_n 0, 1) := by decide +kernel
theorem eX8_init_10 : decode cX8_init 10 = .ok (.iload_n 1, 1) := by decide +kernel
theorem eX8_init_11 : decode cX8_init 11 = .ok (.iconst 0, 1) := by decide +kernel
theorem eX8_init_12 : decode cX8_init 12 = .ok (.invokestatic 15, 3) := by decide +kernel
theorem eX8_init_15 : decode cX8_init 15 = .ok (.newarray .int, 2) := by decide +kernel
theorem eX8_init_17 : decode cX8_init 17 = .ok (.putfield 21, 3) := by decide +kernel
theorem eX8_init_20 : decode cX8_init 20 = .ok (.return_, 1) := by decide +kernel
theorem eX8_empty_0 : decode cX8_empty 0 = .ok (.aload_n 0, 1) := by decide +kernel
theorem eX8_empty_1 : decode cX8_empty 1 = .ok (.iconst 0, 1) := by decide +kernel
theorem eX8_empty_2 : decode cX8_empty 2 = .ok (.putfield 9, 3) := by decide +kernel
theorem eX8_empty_5 : decode cX8_empty 5 = .ok (.return_, 1) := by decide +kernel
theorem eX8_write_0 : decode cX8_write 0 = .ok (.aload_n 0, 1) := by decide +kernel
theorem eX8_write_1 : decode cX8_write 1 = .ok (.getfield 9, 3) := by decide +kernel
theorem eX8_write_4 : decode cX8_write 4 = .ok (.ifCond .lt 35, 3) := by decide +kernel
theorem eX8_write_7 : decode cX8_write 7 = .ok (.aload_n 0, 1) := by decide +kernel
theorem eX8_write_8 : decode cX8_write 8 = .ok (.getfield 9, 3) := by decide +kernel
theorem eX8_write_11 : decode cX8_write 11 = .ok (.aload_n 0, 1) := by decide +kernel
theorem eX8_write_12 : decode cX8_write 12 = .ok (.getfield 21, 3) := by decide +kernel
theorem eX8_write_15 : decode cX8_write 15 = .ok (.arraylength, 1) := by decide +kernel
theorem eX8_write_16 : decode cX8_write 16 = .ok (.if_icmp .ge 23, 3) := by decide +kernel
theorem eX8_write_19 : decode cX8_write 19 = .ok (.aload_n 0, 1) := by decide +kernel
theorem eX8_write_20 : decode cX8_write 20 = .ok (.getfield 21, 3) := by decide +kernel
theorem eX8_write_23 : decode cX8_write 23 = .ok (.aload_n 0, 1) := by decide +kernel
theorem eX8_write_24 : decode cX8_write 24 = .ok (.getfield 9, 3) := by decide +kernel
theorem eX8_write_27 : decode cX8_write 27 = .ok (.iload_n 1, 1) := by decide +kernel
theorem eX8_write_28 : decode cX8_write 28 = .ok (.iastore, 1) := by decide +kernel
theorem eX8_write_29 : decode cX8_write 29 = .ok (.aload_n 0, 1) := by decide +kernel
theorem eX8_write_30 : decode cX8_write 30 = .ok (.dup, 1) := by decide +kernel
theorem eX8_write_31 : decode cX8_write 31 = .ok (.getfield 9, 3) := by decide +kernel
theorem eX8_write_34 : decode cX8_write 34 = .ok (.iconst 1, 1) := by decide +kernel
theorem eX8_write_35 : decode cX8_write 35 = .ok (.iadd, 1) := by decide +kernel
theorem eX8_write_36 : decode cX8_write 36 = .ok (.putfield 9, 3) := by decide +kernel
theorem eX8_write_39 : decode cX8_write 39 = .ok (.return_, 1) := by decide +kernel
theorem eX8_isKey_0 : decode cX8_isKey 0 = .ok (.iconst 0, 1) := by decide +kernel
theorem eX8_isKey_1 : decode cX8_isKey 1 = .ok (.istore_n 1, 1) := by decide +kernel
theorem eX8_isKey_2 : decode cX8_isKey 2 = .ok (.iload_n 1, 1) := by decide +kernel
theorem eX8_isKey_3 : decode cX8_isKey 3 = .ok (.aload_n 0, 1) := by decide +kernel
theorem eX8_isKey_4 : decode cX8_isKey 4 = .ok (.getfield 9, 3) := by decide +kernel
theorem eX8_isKey_7 : decode cX8_isKey 7 = .ok (.if_icmp .ge 19, 3) := by decide +kernel
theorem eX8_isKey_26 : decode cX8_isKey 26 = .ok (.aload_n 0, 1) := by decide +kernel
theorem eX8_isKey_27 : decode cX8_isKey 27 = .ok (.getfield 9, 3) := by decide +kernel
theorem eX8_isKey_30 : decode cX8_isKey 30 = .ok (.iconst 1, 1) := by decide +kernel
theorem eX8_isKey_31 : decode cX8_isKey 31 = .ok (.if_icmp .lt 16, 3) := by decide +kernel
theorem eX8_isKey_47 : decode cX8_isKey 47 = .ok (.iconst 0, 1) := by decide +kernel
theorem eX8_isKey_48 : decode cX8_isKey 48 = .ok (.ireturn, 1) := by decide +kernel
theorem eL_append_0 : decode cL_append 0 = .ok (.aload_n 2, 1) := by decide +kernel
theorem eL_append_1 : decode cL_append 1 = .ok (.iconst 0, 1) := by decide +kernel
theorem eL_append_2 : decode cL_append 2 = .ok (.aload_n 0, 1) := by decide +kernel
theorem eL_append_3 : decode cL_append 3 = .ok (.iload_n 1, 1) := by decide +kernel
theorem eL_append_4 : decode cL_append 4 = .ok (.invokevirtual 7, 3) := by decide +kernel
theorem eL_append_12 : decode cL_append 12 = .ok (.astore_n 3, 1) := by decide +kernel
theorem eL_append_7 : decode cL_append 7 = .ok (.i2l, 1) := by decide +kernel
theorem eL_append_8 : decode cL_append 8 = .ok (.lastore, 1) := by decide +kernel
theorem eL_append_9 : decode cL_append 9 = .ok (.goto 9, 3) := by decide +kernel
theorem eL_append_13 : decode cL_append 13 = .ok (.iconst 1, 1) := by decide +kernel
theorem eL_append_14 : decode cL_append 14 = .ok (.ireturn, 1) := by decide +kernel
theorem eL_append_18 : decode cL_append 18 = .ok (.iconst 0, 1) := by decide +kernel
theorem eL_append_19 : decode cL_append 19 = .ok (.ireturn, 1) := by decide +kernel
theorem eL_add_0 : decode cL_add 0 = .ok (.aload_n 2, 1) := by decide +kernel
theorem eL_add_1 : decode cL_add 1 = .ok (.iconst 0, 1) := by decide +kernel
theorem eL_add_2 : decode cL_add 2 = .ok (.aload_n 0, 1) := by decide +kernel
theorem eL_add_3 : decode cL_add 3 = .ok (.iload_n 1, 1) := by decide +kernel
theorem eL_add_4 : decode cL_add 4 = .ok (.invokevirtual 17, 3) := by decide +kernel
theorem eL_add_12 : decode cL_add 12 = .ok (.astore_n 3, 1) := by decide +kernel
theorem eL_add_13 : decode cL_add 13 = .ok (.iconst 1, 1) := by decide +kernel
theorem eL_add_14 : decode cL_add 14 = .ok (.ireturn, 1) := by decide +kernel
theorem eL_remove_0 : decode cL_remove 0 = .ok (.aload_n 2, 1) := by decide +kernel
theorem eL_remove_1 : decode cL_remove 1 = .ok (.iconst 0, 1) := by decide +kernel
theorem eL_remove_2 : decode cL_remove 2 = .ok (.aload_n 0, 1) := by decide +kernel
theorem eL_remove_3 : decode cL_remove 3 = .ok (.iload_n 1, 1) := by decide +kernel
theorem eL_remove_4 : decode cL_remove 4 = .ok (.invokevirtual 20, 3) := by decide +kernel
theorem eL_remove_12 : decode cL_remove 12 = .ok (.astore_n 3, 1) := by decide +kernel
theorem eL_remove_13 : decode cL_remove 13 = .ok (.iconst 1, 1) := by decide +kernel
theorem eL_remove_14 : decode cL_remove 14 = .ok (.ireturn, 1) := by decide +kernel
theorem eL_setBranch_0 : decode cL_setBranch 0 = .ok (.aload_n 3, 1) := by decide +kernel
theorem eL_setBranch_1 : decode cL_setBranch 1 = .ok (.iconst 0, 1) := by decide +kernel
theorem eL_setBranch_2 : decode cL_setBranch 2 = .ok (.aload_n 0, 1) := by decide +kernel
theorem eL_setBranch_3 : decode cL_setBranch 3 = .ok (.iload_n 1, 1) := by decide +kernel
theorem eL_setBranch_4 : decode cL_setBranch 4 = .ok (.iload_n 2, 1) := by decide +kernel
theorem eL_setBranch_5 : decode cL_setBranch 5 = .ok (.invokevirtual 25, 3) := by decide +kernel
theorem eL_setBranch_13 : decode cL_setBranch 13 = .ok (.astore 4, 2) := by decide +kernel
theorem eL_setBranch_15 : decode cL_setBranch 15 = .ok (.iconst 1, 1) := by decide +kernel
theorem eL_setBranch_16 : decode cL_setBranch 16 = .ok (.ireturn, 1) := by decide +kernel
theorem eL_setWeight_0 : decode cL_setWeight 0 = .ok (.aload_n 3, 1) := by decide +kernel
theorem eL_setWeight_1 : decode cL_setWeight 1 = .ok (.iconst 0, 1) := by decide +kernel
theorem eL_setWeight_2 : decode cL_setWeight 2 = .ok (.aload_n 0, 1) := by decide +kernel
theorem eL_setWeight_3 : decode cL_setWeight 3 = .ok (.iload_n 1, 1) := by decide +kernel
theorem eL_setWeight_4 : decode cL_setWeight 4 = .ok (.iload_n 2, 1) := by decide +kernel
theorem eL_setWeight_5 : decode cL_setWeight 5 = .ok (.invokevirtual 29, 3) := by decide +kernel
theorem eL_setWeight_13 : decode cL_setWeight 13 = .ok (.astore 4, 2) := by decide +kernel
theorem eL_setWeight_15 : decode cL_setWeight 15 = .ok (.iconst 1, 1) := by decide +kernel
theorem eL_setWeight_16 : decode cL_setWeight 16 = .ok (.ireturn, 1) := by decide +kernel
theorem eL_setLoad_0 : decode cL_setLoad 0 = .ok (.aload_n 2, 1) := by decide +kernel
theorem eL_setLoad_1 : decode cL_setLoad 1 = .ok (.iconst 0, 1) := by decide +kernel
