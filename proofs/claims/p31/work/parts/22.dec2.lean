/-! DECODED, 2: made by wip/engine/gen21.py -/
theorem eX0_init_1 : decode cX0_init 1 = .ok (.invokespecial 3, 3) := by decide +kernel
theorem eX0_init_4 : decode cX0_init 4 = .ok (.aload_n 0, 1) := by decide +kernel
theorem eX0_init_5 : decode cX0_init 5 = .ok (.bipush 60, 2) := by decide +kernel
theorem eX0_init_7 : decode cX0_init 7 = .ok (.newarray .int, 2) := by decide +kernel
theorem eX0_init_9 : decode cX0_init 9 = .ok (.putfield 9, 3) := by decide +kernel
theorem eX0_init_12 : decode cX0_init 12 = .ok (.aload_n 0, 1) := by decide +kernel
theorem eX0_init_13 : decode cX0_init 13 = .ok (.bipush 60, 2) := by decide +kernel
theorem eX0_init_15 : decode cX0_init 15 = .ok (.newarray .int, 2) := by decide +kernel
theorem eX0_init_17 : decode cX0_init 17 = .ok (.putfield 15, 3) := by decide +kernel
theorem eX0_init_20 : decode cX0_init 20 = .ok (.aload_n 0, 1) := by decide +kernel
theorem eX0_init_21 : decode cX0_init 21 = .ok (.bipush 60, 2) := by decide +kernel
theorem eX0_init_23 : decode cX0_init 23 = .ok (.newarray .int, 2) := by decide +kernel
theorem eX0_init_25 : decode cX0_init 25 = .ok (.putfield 18, 3) := by decide +kernel
theorem eX0_init_28 : decode cX0_init 28 = .ok (.aload_n 0, 1) := by decide +kernel
theorem eX0_init_29 : decode cX0_init 29 = .ok (.bipush 60, 2) := by decide +kernel
theorem eX0_init_31 : decode cX0_init 31 = .ok (.newarray .int, 2) := by decide +kernel
theorem eX0_init_33 : decode cX0_init 33 = .ok (.putfield 21, 3) := by decide +kernel
theorem eX0_init_36 : decode cX0_init 36 = .ok (.aload_n 0, 1) := by decide +kernel
theorem eX0_init_37 : decode cX0_init 37 = .ok (.bipush 60, 2) := by decide +kernel
theorem eX0_init_39 : decode cX0_init 39 = .ok (.newarray .int, 2) := by decide +kernel
theorem eX0_init_41 : decode cX0_init 41 = .ok (.putfield 24, 3) := by decide +kernel
theorem eX0_init_44 : decode cX0_init 44 = .ok (.aload_n 0, 1) := by decide +kernel
theorem eX0_init_45 : decode cX0_init 45 = .ok (.new 27, 3) := by decide +kernel
theorem eX0_init_48 : decode cX0_init 48 = .ok (.dup, 1) := by decide +kernel
theorem eX0_init_49 : decode cX0_init 49 = .ok (.invokespecial 29, 3) := by decide +kernel
theorem eX0_init_52 : decode cX0_init 52 = .ok (.putfield 30, 3) := by decide +kernel
theorem eX0_init_55 : decode cX0_init 55 = .ok (.aload_n 0, 1) := by decide +kernel
theorem eX0_init_56 : decode cX0_init 56 = .ok (.iconst 0, 1) := by decide +kernel
theorem eX0_init_57 : decode cX0_init 57 = .ok (.putfield 34, 3) := by decide +kernel
theorem eX0_init_60 : decode cX0_init 60 = .ok (.aload_n 0, 1) := by decide +kernel
theorem eX0_init_61 : decode cX0_init 61 = .ok (.iconst 0, 1) := by decide +kernel
theorem eX0_init_62 : decode cX0_init 62 = .ok (.putfield 38, 3) := by decide +kernel
theorem eX0_init_65 : decode cX0_init 65 = .ok (.aload_n 0, 1) := by decide +kernel
theorem eX0_init_66 : decode cX0_init 66 = .ok (.iconst (-1), 1) := by decide +kernel
theorem eX0_init_67 : decode cX0_init 67 = .ok (.putfield 41, 3) := by decide +kernel
theorem eX0_init_70 : decode cX0_init 70 = .ok (.return_, 1) := by decide +kernel
theorem eX1_init_0 : decode cX1_init 0 = .ok (.aload_n 0, 1) := by decide +kernel
theorem eX1_init_1 : decode cX1_init 1 = .ok (.invokespecial 3, 3) := by decide +kernel
theorem eX1_init_4 : decode cX1_init 4 = .ok (.aload_n 0, 1) := by decide +kernel
theorem eX1_init_5 : decode cX1_init 5 = .ok (.bipush 20, 2) := by decide +kernel
theorem eX1_init_7 : decode cX1_init 7 = .ok (.newarray .int, 2) := by decide +kernel
theorem eX1_init_9 : decode cX1_init 9 = .ok (.putfield 9, 3) := by decide +kernel
theorem eX1_init_12 : decode cX1_init 12 = .ok (.aload_n 0, 1) := by decide +kernel
theorem eX1_init_13 : decode cX1_init 13 = .ok (.bipush 40, 2) := by decide +kernel
theorem eX1_init_15 : decode cX1_init 15 = .ok (.newarray .int, 2) := by decide +kernel
theorem eX1_init_17 : decode cX1_init 17 = .ok (.putfield 15, 3) := by decide +kernel
theorem eX1_init_20 : decode cX1_init 20 = .ok (.aload_n 0, 1) := by decide +kernel
theorem eX1_init_21 : decode cX1_init 21 = .ok (.bipush 40, 2) := by decide +kernel
theorem eX1_init_23 : decode cX1_init 23 = .ok (.newarray .int, 2) := by decide +kernel
theorem eX1_init_25 : decode cX1_init 25 = .ok (.putfield 18, 3) := by decide +kernel
theorem eX1_init_28 : decode cX1_init 28 = .ok (.aload_n 0, 1) := by decide +kernel
theorem eX1_init_29 : decode cX1_init 29 = .ok (.bipush 40, 2) := by decide +kernel
theorem eX1_init_31 : decode cX1_init 31 = .ok (.newarray .int, 2) := by decide +kernel
theorem eX1_init_33 : decode cX1_init 33 = .ok (.putfield 21, 3) := by decide +kernel
theorem eX1_init_36 : decode cX1_init 36 = .ok (.aload_n 0, 1) := by decide +kernel
theorem eX1_init_37 : decode cX1_init 37 = .ok (.bipush 40, 2) := by decide +kernel
theorem eX1_init_39 : decode cX1_init 39 = .ok (.newarray .int, 2) := by decide +kernel
theorem eX1_init_41 : decode cX1_init 41 = .ok (.putfield 24, 3) := by decide +kernel
theorem eX1_init_44 : decode cX1_init 44 = .ok (.aload_n 0, 1) := by decide +kernel
theorem eX1_init_45 : decode cX1_init 45 = .ok (.bipush 40, 2) := by decide +kernel
theorem eX1_init_47 : decode cX1_init 47 = .ok (.newarray .int, 2) := by decide +kernel
theorem eX1_init_49 : decode cX1_init 49 = .ok (.putfield 27, 3) := by decide +kernel
theorem eX1_init_52 : decode cX1_init 52 = .ok (.aload_n 0, 1) := by decide +kernel
theorem eX1_init_53 : decode cX1_init 53 = .ok (.bipush 40, 2) := by decide +kernel
theorem eX1_init_55 : decode cX1_init 55 = .ok (.newarray .int, 2) := by decide +kernel
theorem eX1_init_57 : decode cX1_init 57 = .ok (.putfield 30, 3) := by decide +kernel
theorem eX1_init_60 : decode cX1_init 60 = .ok (.aload_n 0, 1) := by decide +kernel
theorem eX1_init_61 : decode cX1_init 61 = .ok (.bipush 40, 2) := by decide +kernel
theorem eX1_init_63 : decode cX1_init 63 = .ok (.newarray .int, 2) := by decide +kernel
theorem eX1_init_65 : decode cX1_init 65 = .ok (.putfield 33, 3) := by decide +kernel
theorem eX1_init_68 : decode cX1_init 68 = .ok (.aload_n 0, 1) := by decide +kernel
theorem eX1_init_69 : decode cX1_init 69 = .ok (.iconst 0, 1) := by decide +kernel
theorem eX1_init_70 : decode cX1_init 70 = .ok (.putfield 36, 3) := by decide +kernel
theorem eX1_init_73 : decode cX1_init 73 = .ok (.aload_n 0, 1) := by decide +kernel
theorem eX1_init_74 : decode cX1_init 74 = .ok (.iconst 0, 1) := by decide +kernel
theorem eX1_init_75 : decode cX1_init 75 = .ok (.putfield 40, 3) := by decide +kernel
theorem eX1_init_78 : decode cX1_init 78 = .ok (.aload_n 0, 1) := by decide +kernel
theorem eX1_init_79 : decode cX1_init 79 = .ok (.iconst 0, 1) := by decide +kernel
theorem eX1_init_80 : decode cX1_init 80 = .ok (.putfield 43, 3) := by decide +kernel
theorem eX1_init_83 : decode cX1_init 83 = .ok (.aload_n 0, 1) := by decide +kernel
theorem eX1_init_84 : decode cX1_init 84 = .ok (.iconst 0, 1) := by decide +kernel
theorem eX1_init_85 : decode cX1_init 85 = .ok (.putfield 46, 3) := by decide +kernel
theorem eX1_init_88 : decode cX1_init 88 = .ok (.aload_n 0, 1) := by decide +kernel
theorem eX1_init_89 : decode cX1_init 89 = .ok (.aload_n 1, 1) := by decide +kernel
theorem eX1_init_90 : decode cX1_init 90 = .ok (.putfield 49, 3) := by decide +kernel
theorem eX1_init_93 : decode cX1_init 93 = .ok (.return_, 1) := by decide +kernel
theorem eX1_grow_0 : decode cX1_grow 0 = .ok (.aload_n 0, 1) := by decide +kernel
theorem eX1_grow_1 : decode cX1_grow 1 = .ok (.iconst 0, 1) := by decide +kernel
theorem eX1_grow_2 : decode cX1_grow 2 = .ok (.putfield 36, 3) := by decide +kernel
theorem eX1_grow_5 : decode cX1_grow 5 = .ok (.aload_n 0, 1) := by decide +kernel
theorem eX1_grow_6 : decode cX1_grow 6 = .ok (.iconst 0, 1) := by decide +kernel
theorem eX1_grow_7 : decode cX1_grow 7 = .ok (.putfield 43, 3) := by decide +kernel
theorem eX1_grow_10 : decode cX1_grow 10 = .ok (.aload_n 0, 1) := by decide +kernel
theorem eX1_grow_11 : decode cX1_grow 11 = .ok (.iconst 0, 1) := by decide +kernel
theorem eX1_grow_12 : decode cX1_grow 12 = .ok (.putfield 46, 3) := by decide +kernel
theorem eX1_grow_15 : decode cX1_grow 15 = .ok (.aload_n 0, 1) := by decide +kernel
theorem eX1_grow_16 : decode cX1_grow 16 = .ok (.invokevirtual 53, 3) := by decide +kernel
theorem eX1_grow_19 : decode cX1_grow 19 = .ok (.aload_n 0, 1) := by decide +kernel
theorem eX1_grow_20 : decode cX1_grow 20 = .ok (.aload_n 0, 1) := by decide +kernel
theorem eX1_grow_21 : decode cX1_grow 21 = .ok (.getfield 36, 3) := by decide +kernel
theorem eX1_grow_24 : decode cX1_grow 24 = .ok (.putfield 40, 3) := by decide +kernel
theorem eX1_grow_27 : decode cX1_grow 27 = .ok (.iconst 0, 1) := by decide +kernel
theorem eX1_grow_28 : decode cX1_grow 28 = .ok (.istore_n 1, 1) := by decide +kernel
theorem eX1_grow_29 : decode cX1_grow 29 = .ok (.iload_n 1, 1) := by decide +kernel
theorem eX1_grow_30 : decode cX1_grow 30 = .ok (.bipush 40, 2) := by decide +kernel
theorem eX1_grow_32 : decode cX1_grow 32 = .ok (.if_icmp .ge 62, 3) := by decide +kernel
theorem eX1_grow_35 : decode cX1_grow 35 = .ok (.iload_n 1, 1) := by decide +kernel
theorem eX1_grow_36 : decode cX1_grow 36 = .ok (.aload_n 0, 1) := by decide +kernel
theorem eX1_grow_37 : decode cX1_grow 37 = .ok (.getfield 36, 3) := by decide +kernel
theorem eX1_grow_40 : decode cX1_grow 40 = .ok (.if_icmp .ge 54, 3) := by decide +kernel
theorem eX1_grow_43 : decode cX1_grow 43 = .ok (.aload_n 0, 1) := by decide +kernel
theorem eX1_grow_44 : decode cX1_grow 44 = .ok (.iload_n 1, 1) := by decide +kernel
theorem eX1_grow_45 : decode cX1_grow 45 = .ok (.invokevirtual 56, 3) := by decide +kernel
theorem eX1_grow_48 : decode cX1_grow 48 = .ok (.ifCond .eq 35, 3) := by decide +kernel
theorem eX1_grow_51 : decode cX1_grow 51 = .ok (.aload_n 0, 1) := by decide +kernel
theorem eX1_grow_52 : decode cX1_grow 52 = .ok (.dup, 1) := by decide +kernel
theorem eX1_grow_53 : decode cX1_grow 53 = .ok (.getfield 43, 3) := by decide +kernel
theorem eX1_grow_56 : decode cX1_grow 56 = .ok (.iconst 1, 1) := by decide +kernel
theorem eX1_grow_57 : decode cX1_grow 57 = .ok (.iadd, 1) := by decide +kernel
theorem eX1_grow_58 : decode cX1_grow 58 = .ok (.putfield 43, 3) := by decide +kernel
theorem eX1_grow_61 : decode cX1_grow 61 = .ok (.aload_n 0, 1) := by decide +kernel
theorem eX1_grow_62 : decode cX1_grow 62 = .ok (.aload_n 0, 1) := by decide +kernel
theorem eX1_grow_63 : decode cX1_grow 63 = .ok (.getfield 46, 3) := by decide +kernel
theorem eX1_grow_66 : decode cX1_grow 66 = .ok (.aload_n 0, 1) := by decide +kernel
theorem eX1_grow_67 : decode cX1_grow 67 = .ok (.getfield 24, 3) := by decide +kernel
theorem eX1_grow_70 : decode cX1_grow 70 = .ok (.iload_n 1, 1) := by decide +kernel
theorem eX1_grow_71 : decode cX1_grow 71 = .ok (.invokestatic 60, 3) := by decide +kernel
theorem eX1_grow_74 : decode cX1_grow 74 = .ok (.invokestatic 64, 3) := by decide +kernel
theorem eX1_grow_77 : decode cX1_grow 77 = .ok (.putfield 46, 3) := by decide +kernel
theorem eX1_grow_80 : decode cX1_grow 80 = .ok (.goto 8, 3) := by decide +kernel
theorem eX1_grow_83 : decode cX1_grow 83 = .ok (.aload_n 0, 1) := by decide +kernel
theorem eX1_grow_84 : decode cX1_grow 84 = .ok (.iload_n 1, 1) := by decide +kernel
theorem eX1_grow_85 : decode cX1_grow 85 = .ok (.invokevirtual 70, 3) := by decide +kernel
theorem eX1_grow_88 : decode cX1_grow 88 = .ok (.iinc 1 1, 3) := by decide +kernel
theorem eX1_grow_91 : decode cX1_grow 91 = .ok (.goto (-62), 3) := by decide +kernel
theorem eX1_grow_94 : decode cX1_grow 94 = .ok (.return_, 1) := by decide +kernel
theorem eX1_isLeaf_0 : decode cX1_isLeaf 0 = .ok (.aload_n 0, 1) := by decide +kernel
theorem eX1_isLeaf_1 : decode cX1_isLeaf 1 = .ok (.getfield 18, 3) := by decide +kernel
theorem eX1_isLeaf_4 : decode cX1_isLeaf 4 = .ok (.iload_n 1, 1) := by decide +kernel
theorem eX1_isLeaf_5 : decode cX1_isLeaf 5 = .ok (.invokestatic 60, 3) := by decide +kernel
theorem eX1_isLeaf_8 : decode cX1_isLeaf 8 = .ok (.aload_n 0, 1) := by decide +kernel
theorem eX1_isLeaf_9 : decode cX1_isLeaf 9 = .ok (.getfield 15, 3) := by decide +kernel
theorem eX1_isLeaf_12 : decode cX1_isLeaf 12 = .ok (.iload_n 1, 1) := by decide +kernel
theorem eX1_isLeaf_13 : decode cX1_isLeaf 13 = .ok (.invokestatic 60, 3) := by decide +kernel
theorem eX1_isLeaf_16 : decode cX1_isLeaf 16 = .ok (.isub, 1) := by decide +kernel
theorem eX1_isLeaf_17 : decode cX1_isLeaf 17 = .ok (.iconst 1, 1) := by decide +kernel
theorem eX1_isLeaf_18 : decode cX1_isLeaf 18 = .ok (.if_icmp .gt 7, 3) := by decide +kernel
theorem eX1_isLeaf_21 : decode cX1_isLeaf 21 = .ok (.iconst 1, 1) := by decide +kernel
theorem eX1_isLeaf_22 : decode cX1_isLeaf 22 = .ok (.goto 4, 3) := by decide +kernel
theorem eX1_isLeaf_25 : decode cX1_isLeaf 25 = .ok (.iconst 0, 1) := by decide +kernel
theorem eX1_isLeaf_26 : decode cX1_isLeaf 26 = .ok (.ireturn, 1) := by decide +kernel
theorem eX1_keyOf_0 : decode cX1_keyOf 0 = .ok (.aload_n 0, 1) := by decide +kernel
theorem eX1_keyOf_1 : decode cX1_keyOf 1 = .ok (.getfield 9, 3) := by decide +kernel
theorem eX1_keyOf_4 : decode cX1_keyOf 4 = .ok (.aload_n 0, 1) := by decide +kernel
theorem eX1_keyOf_5 : decode cX1_keyOf 5 = .ok (.getfield 15, 3) := by decide +kernel
theorem eX1_keyOf_8 : decode cX1_keyOf 8 = .ok (.iload_n 1, 1) := by decide +kernel
theorem eX1_keyOf_9 : decode cX1_keyOf 9 = .ok (.invokestatic 60, 3) := by decide +kernel
theorem eX1_keyOf_12 : decode cX1_keyOf 12 = .ok (.invokestatic 60, 3) := by decide +kernel
theorem eX1_keyOf_15 : decode cX1_keyOf 15 = .ok (.ireturn, 1) := by decide +kernel
theorem eX1_plant_0 : decode cX1_plant 0 = .ok (.aload_n 0, 1) := by decide +kernel
theorem eX1_plant_1 : decode cX1_plant 1 = .ok (.getfield 15, 3) := by decide +kernel
theorem eX1_plant_4 : decode cX1_plant 4 = .ok (.aload_n 0, 1) := by decide +kernel
theorem eX1_plant_5 : decode cX1_plant 5 = .ok (.getfield 36, 3) := by decide +kernel
theorem eX1_plant_8 : decode cX1_plant 8 = .ok (.iload_n 1, 1) := by decide +kernel
theorem eX1_plant_9 : decode cX1_plant 9 = .ok (.invokestatic 78, 3) := by decide +kernel
theorem eX1_plant_12 : decode cX1_plant 12 = .ok (.aload_n 0, 1) := by decide +kernel
theorem eX1_plant_13 : decode cX1_plant 13 = .ok (.getfield 18, 3) := by decide +kernel
theorem eX1_plant_16 : decode cX1_plant 16 = .ok (.aload_n 0, 1) := by decide +kernel
theorem eX1_plant_17 : decode cX1_plant 17 = .ok (.getfield 36, 3) := by decide +kernel
theorem eX1_plant_20 : decode cX1_plant 20 = .ok (.iload_n 2, 1) := by decide +kernel
theorem eX1_plant_21 : decode cX1_plant 21 = .ok (.invokestatic 78, 3) := by decide +kernel
theorem eX1_plant_24 : decode cX1_plant 24 = .ok (.aload_n 0, 1) := by decide +kernel
theorem eX1_plant_25 : decode cX1_plant 25 = .ok (.getfield 21, 3) := by decide +kernel
theorem eX1_plant_28 : decode cX1_plant 28 = .ok (.aload_n 0, 1) := by decide +kernel
theorem eX1_plant_29 : decode cX1_plant 29 = .ok (.getfield 36, 3) := by decide +kernel
theorem eX1_plant_32 : decode cX1_plant 32 = .ok (.iload_n 3, 1) := by decide +kernel
theorem eX1_plant_33 : decode cX1_plant 33 = .ok (.invokestatic 78, 3) := by decide +kernel
theorem eX1_plant_36 : decode cX1_plant 36 = .ok (.aload_n 0, 1) := by decide +kernel
theorem eX1_plant_37 : decode cX1_plant 37 = .ok (.getfield 24, 3) := by decide +kernel
theorem eX1_plant_40 : decode cX1_plant 40 = .ok (.aload_n 0, 1) := by decide +kernel
theorem eX1_plant_41 : decode cX1_plant 41 = .ok (.getfield 36, 3) := by decide +kernel
theorem eX1_plant_44 : decode cX1_plant 44 = .ok (.iload 4, 2) := by decide +kernel
theorem eX1_plant_46 : decode cX1_plant 46 = .ok (.invokestatic 78, 3) := by decide +kernel
theorem eX1_plant_49 : decode cX1_plant 49 = .ok (.aload_n 0, 1) := by decide +kernel
theorem eX1_plant_50 : decode cX1_plant 50 = .ok (.getfield 33, 3) := by decide +kernel
theorem eX1_plant_53 : decode cX1_plant 53 = .ok (.aload_n 0, 1) := by decide +kernel
theorem eX1_plant_54 : decode cX1_plant 54 = .ok (.getfield 36, 3) := by decide +kernel
theorem eX1_plant_57 : decode cX1_plant 57 = .ok (.iconst 0, 1) := by decide +kernel
theorem eX1_plant_58 : decode cX1_plant 58 = .ok (.invokestatic 78, 3) := by decide +kernel
theorem eX1_plant_61 : decode cX1_plant 61 = .ok (.aload_n 0, 1) := by decide +kernel
theorem eX1_plant_62 : decode cX1_plant 62 = .ok (.dup, 1) := by decide +kernel
theorem eX1_plant_63 : decode cX1_plant 63 = .ok (.getfield 36, 3) := by decide +kernel
theorem eX1_plant_66 : decode cX1_plant 66 = .ok (.iconst 1, 1) := by decide +kernel
theorem eX1_plant_67 : decode cX1_plant 67 = .ok (.iadd, 1) := by decide +kernel
theorem eX1_plant_68 : decode cX1_plant 68 = .ok (.putfield 36, 3) := by decide +kernel
theorem eX1_plant_71 : decode cX1_plant 71 = .ok (.return_, 1) := by decide +kernel
theorem eX1_plantRoots_0 : decode cX1_plantRoots 0 = .ok (.iconst 0, 1) := by decide +kernel
theorem eX1_plantRoots_1 : decode cX1_plantRoots 1 = .ok (.istore_n 1, 1) := by decide +kernel
theorem eX1_plantRoots_2 : decode cX1_plantRoots 2 = .ok (.iconst 1, 1) := by decide +kernel
theorem eX1_plantRoots_3 : decode cX1_plantRoots 3 = .ok (.istore_n 2, 1) := by decide +kernel
theorem eX1_plantRoots_4 : decode cX1_plantRoots 4 = .ok (.iload_n 2, 1) := by decide +kernel
theorem eX1_plantRoots_5 : decode cX1_plantRoots 5 = .ok (.bipush 8, 2) := by decide +kernel
theorem eX1_plantRoots_7 : decode cX1_plantRoots 7 = .ok (.if_icmp .gt 71, 3) := by decide +kernel
theorem eX1_plantRoots_10 : decode cX1_plantRoots 10 = .ok (.iload_n 1, 1) := by decide +kernel
theorem eX1_plantRoots_11 : decode cX1_plantRoots 11 = .ok (.istore_n 3, 1) := by decide +kernel
theorem eX1_plantRoots_12 : decode cX1_plantRoots 12 = .ok (.iconst 0, 1) := by decide +kernel
theorem eX1_plantRoots_13 : decode cX1_plantRoots 13 = .ok (.istore 4, 2) := by decide +kernel
theorem eX1_plantRoots_15 : decode cX1_plantRoots 15 = .ok (.iload 4, 2) := by decide +kernel
theorem eX1_plantRoots_17 : decode cX1_plantRoots 17 = .ok (.aload_n 0, 1) := by decide +kernel
theorem eX1_plantRoots_18 : decode cX1_plantRoots 18 = .ok (.getfield 49, 3) := by decide +kernel
theorem eX1_plantRoots_21 : decode cX1_plantRoots 21 = .ok (.getfield 82, 3) := by decide +kernel
theorem eX1_plantRoots_24 : decode cX1_plantRoots 24 = .ok (.if_icmp .ge 35, 3) := by decide +kernel
theorem eX1_plantRoots_27 : decode cX1_plantRoots 27 = .ok (.aload_n 0, 1) := by decide +kernel
theorem eX1_plantRoots_28 : decode cX1_plantRoots 28 = .ok (.getfield 49, 3) := by decide +kernel
theorem eX1_plantRoots_31 : decode cX1_plantRoots 31 = .ok (.iload 4, 2) := by decide +kernel
theorem eX1_plantRoots_33 : decode cX1_plantRoots 33 = .ok (.invokevirtual 87, 3) := by decide +kernel
theorem eX1_plantRoots_36 : decode cX1_plantRoots 36 = .ok (.iload_n 2, 1) := by decide +kernel
theorem eX1_plantRoots_37 : decode cX1_plantRoots 37 = .ok (.if_icmp .ne 16, 3) := by decide +kernel
theorem eX1_plantRoots_40 : decode cX1_plantRoots 40 = .ok (.aload_n 0, 1) := by decide +kernel
theorem eX1_plantRoots_41 : decode cX1_plantRoots 41 = .ok (.getfield 9, 3) := by decide +kernel
theorem eX1_plantRoots_44 : decode cX1_plantRoots 44 = .ok (.iload_n 1, 1) := by decide +kernel
theorem eX1_plantRoots_45 : decode cX1_plantRoots 45 = .ok (.iload 4, 2) := by decide +kernel
theorem eX1_plantRoots_47 : decode cX1_plantRoots 47 = .ok (.invokestatic 78, 3) := by decide +kernel
theorem eX1_plantRoots_50 : decode cX1_plantRoots 50 = .ok (.iinc 1 1, 3) := by decide +kernel
theorem eX1_plantRoots_53 : decode cX1_plantRoots 53 = .ok (.iinc 4 1, 3) := by decide +kernel
theorem eX1_plantRoots_56 : decode cX1_plantRoots 56 = .ok (.goto (-41), 3) := by decide +kernel
theorem eX1_plantRoots_59 : decode cX1_plantRoots 59 = .ok (.iload_n 1, 1) := by decide +kernel
theorem eX1_plantRoots_60 : decode cX1_plantRoots 60 = .ok (.iload_n 3, 1) := by decide +kernel
theorem eX1_plantRoots_61 : decode cX1_plantRoots 61 = .ok (.if_icmp .le 11, 3) := by decide +kernel
theorem eX1_plantRoots_64 : decode cX1_plantRoots 64 = .ok (.aload_n 0, 1) := by decide +kernel
theorem eX1_plantRoots_65 : decode cX1_plantRoots 65 = .ok (.iload_n 3, 1) := by decide +kernel
theorem eX1_plantRoots_66 : decode cX1_plantRoots 66 = .ok (.iload_n 1, 1) := by decide +kernel
theorem eX1_plantRoots_67 : decode cX1_plantRoots 67 = .ok (.iload_n 2, 1) := by decide +kernel
theorem eX1_plantRoots_68 : decode cX1_plantRoots 68 = .ok (.iconst 0, 1) := by decide +kernel
theorem eX1_plantRoots_69 : decode cX1_plantRoots 69 = .ok (.invokevirtual 91, 3) := by decide +kernel
theorem eX1_plantRoots_72 : decode cX1_plantRoots 72 = .ok (.iinc 2 1, 3) := by decide +kernel
theorem eX1_plantRoots_75 : decode cX1_plantRoots 75 = .ok (.goto (-71), 3) := by decide +kernel
theorem eX1_plantRoots_78 : decode cX1_plantRoots 78 = .ok (.return_, 1) := by decide +kernel
theorem eX1_split_0 : decode cX1_split 0 = .ok (.aload_n 0, 1) := by decide +kernel
theorem eX1_split_1 : decode cX1_split 1 = .ok (.iload_n 1, 1) := by decide +kernel
theorem eX1_split_2 : decode cX1_split 2 = .ok (.invokevirtual 95, 3) := by decide +kernel
theorem eX1_split_5 : decode cX1_split 5 = .ok (.istore_n 2, 1) := by decide +kernel
theorem eX1_split_6 : decode cX1_split 6 = .ok (.aload_n 0, 1) := by decide +kernel
theorem eX1_split_7 : decode cX1_split 7 = .ok (.getfield 27, 3) := by decide +kernel
theorem eX1_split_10 : decode cX1_split 10 = .ok (.iload_n 1, 1) := by decide +kernel
theorem eX1_split_11 : decode cX1_split 11 = .ok (.iload_n 2, 1) := by decide +kernel
theorem eX1_split_12 : decode cX1_split 12 = .ok (.invokestatic 78, 3) := by decide +kernel
theorem eX1_split_15 : decode cX1_split 15 = .ok (.aload_n 0, 1) := by decide +kernel
theorem eX1_split_16 : decode cX1_split 16 = .ok (.getfield 30, 3) := by decide +kernel
theorem eX1_split_19 : decode cX1_split 19 = .ok (.iload_n 1, 1) := by decide +kernel
theorem eX1_split_20 : decode cX1_split 20 = .ok (.aload_n 0, 1) := by decide +kernel
theorem eX1_split_21 : decode cX1_split 21 = .ok (.getfield 36, 3) := by decide +kernel
theorem eX1_split_24 : decode cX1_split 24 = .ok (.invokestatic 78, 3) := by decide +kernel
theorem eX1_split_27 : decode cX1_split 27 = .ok (.aload_n 0, 1) := by decide +kernel
theorem eX1_split_28 : decode cX1_split 28 = .ok (.getfield 15, 3) := by decide +kernel
theorem eX1_split_31 : decode cX1_split 31 = .ok (.iload_n 1, 1) := by decide +kernel
theorem eX1_split_32 : decode cX1_split 32 = .ok (.invokestatic 60, 3) := by decide +kernel
theorem eX1_split_35 : decode cX1_split 35 = .ok (.istore_n 3, 1) := by decide +kernel
theorem eX1_split_36 : decode cX1_split 36 = .ok (.aload_n 0, 1) := by decide +kernel
theorem eX1_split_37 : decode cX1_split 37 = .ok (.getfield 18, 3) := by decide +kernel
theorem eX1_split_40 : decode cX1_split 40 = .ok (.iload_n 1, 1) := by decide +kernel
theorem eX1_split_41 : decode cX1_split 41 = .ok (.invokestatic 60, 3) := by decide +kernel
theorem eX1_split_44 : decode cX1_split 44 = .ok (.istore 4, 2) := by decide +kernel
theorem eX1_split_46 : decode cX1_split 46 = .ok (.aload_n 0, 1) := by decide +kernel
theorem eX1_split_47 : decode cX1_split 47 = .ok (.iload_n 3, 1) := by decide +kernel
theorem eX1_split_48 : decode cX1_split 48 = .ok (.iload 4, 2) := by decide +kernel
theorem eX1_split_50 : decode cX1_split 50 = .ok (.iload_n 2, 1) := by decide +kernel
theorem eX1_split_51 : decode cX1_split 51 = .ok (.invokevirtual 98, 3) := by decide +kernel
theorem eX1_split_54 : decode cX1_split 54 = .ok (.iload_n 3, 1) := by decide +kernel
theorem eX1_split_55 : decode cX1_split 55 = .ok (.istore 5, 2) := by decide +kernel
theorem eX1_split_57 : decode cX1_split 57 = .ok (.iload 5, 2) := by decide +kernel
theorem eX1_split_59 : decode cX1_split 59 = .ok (.iload 4, 2) := by decide +kernel
theorem eX1_split_61 : decode cX1_split 61 = .ok (.if_icmp .ge 99, 3) := by decide +kernel
theorem eX1_split_64 : decode cX1_split 64 = .ok (.aload_n 0, 1) := by decide +kernel
theorem eX1_split_65 : decode cX1_split 65 = .ok (.getfield 49, 3) := by decide +kernel
theorem eX1_split_68 : decode cX1_split 68 = .ok (.aload_n 0, 1) := by decide +kernel
theorem eX1_split_69 : decode cX1_split 69 = .ok (.getfield 9, 3) := by decide +kernel
theorem eX1_split_72 : decode cX1_split 72 = .ok (.iload 5, 2) := by decide +kernel
theorem eX1_split_74 : decode cX1_split 74 = .ok (.invokestatic 60, 3) := by decide +kernel
theorem eX1_split_77 : decode cX1_split 77 = .ok (.iload_n 2, 1) := by decide +kernel
theorem eX1_split_78 : decode cX1_split 78 = .ok (.invokevirtual 102, 3) := by decide +kernel
theorem eX1_split_81 : decode cX1_split 81 = .ok (.istore 6, 2) := by decide +kernel
theorem eX1_split_83 : decode cX1_split 83 = .ok (.iload 5, 2) := by decide +kernel
theorem eX1_split_85 : decode cX1_split 85 = .ok (.iconst 1, 1) := by decide +kernel
theorem eX1_split_86 : decode cX1_split 86 = .ok (.iadd, 1) := by decide +kernel
theorem eX1_split_87 : decode cX1_split 87 = .ok (.iload 4, 2) := by decide +kernel
theorem eX1_split_89 : decode cX1_split 89 = .ok (.if_icmp .ge 27, 3) := by decide +kernel
theorem eX1_split_92 : decode cX1_split 92 = .ok (.aload_n 0, 1) := by decide +kernel
theorem eX1_split_93 : decode cX1_split 93 = .ok (.getfield 49, 3) := by decide +kernel
theorem eX1_split_96 : decode cX1_split 96 = .ok (.aload_n 0, 1) := by decide +kernel
theorem eX1_split_97 : decode cX1_split 97 = .ok (.getfield 9, 3) := by decide +kernel
theorem eX1_split_100 : decode cX1_split 100 = .ok (.iload 5, 2) := by decide +kernel
theorem eX1_split_102 : decode cX1_split 102 = .ok (.iconst 1, 1) := by decide +kernel
theorem eX1_split_103 : decode cX1_split 103 = .ok (.iadd, 1) := by decide +kernel
theorem eX1_split_104 : decode cX1_split 104 = .ok (.invokestatic 60, 3) := by decide +kernel
theorem eX1_split_107 : decode cX1_split 107 = .ok (.iload_n 2, 1) := by decide +kernel
theorem eX1_split_108 : decode cX1_split 108 = .ok (.invokevirtual 102, 3) := by decide +kernel
theorem eX1_split_111 : decode cX1_split 111 = .ok (.iload 6, 2) := by decide +kernel
theorem eX1_split_113 : decode cX1_split 113 = .ok (.if_icmp .eq 7, 3) := by decide +kernel
theorem eX1_split_116 : decode cX1_split 116 = .ok (.iconst 1, 1) := by decide +kernel
theorem eX1_split_117 : decode cX1_split 117 = .ok (.goto 4, 3) := by decide +kernel
theorem eX1_split_120 : decode cX1_split 120 = .ok (.iconst 0, 1) := by decide +kernel
theorem eX1_split_121 : decode cX1_split 121 = .ok (.istore 7, 2) := by decide +kernel
theorem eX1_split_123 : decode cX1_split 123 = .ok (.iload 7, 2) := by decide +kernel
theorem eX1_split_125 : decode cX1_split 125 = .ok (.ifCond .eq 29, 3) := by decide +kernel
theorem eX1_split_128 : decode cX1_split 128 = .ok (.aload_n 0, 1) := by decide +kernel
theorem eX1_split_129 : decode cX1_split 129 = .ok (.iload_n 3, 1) := by decide +kernel
theorem eX1_split_130 : decode cX1_split 130 = .ok (.iload 5, 2) := by decide +kernel
theorem eX1_split_132 : decode cX1_split 132 = .ok (.iconst 1, 1) := by decide +kernel
theorem eX1_split_133 : decode cX1_split 133 = .ok (.iadd, 1) := by decide +kernel
theorem eX1_split_134 : decode cX1_split 134 = .ok (.iload 6, 2) := by decide +kernel
theorem eX1_split_136 : decode cX1_split 136 = .ok (.aload_n 0, 1) := by decide +kernel
theorem eX1_split_137 : decode cX1_split 137 = .ok (.getfield 24, 3) := by decide +kernel
theorem eX1_split_140 : decode cX1_split 140 = .ok (.iload_n 1, 1) := by decide +kernel
theorem eX1_split_141 : decode cX1_split 141 = .ok (.invokestatic 60, 3) := by decide +kernel
theorem eX1_split_144 : decode cX1_split 144 = .ok (.iconst 1, 1) := by decide +kernel
theorem eX1_split_145 : decode cX1_split 145 = .ok (.iadd, 1) := by decide +kernel
theorem eX1_split_146 : decode cX1_split 146 = .ok (.invokevirtual 91, 3) := by decide +kernel
theorem eX1_split_149 : decode cX1_split 149 = .ok (.iload 5, 2) := by decide +kernel
theorem eX1_split_151 : decode cX1_split 151 = .ok (.iconst 1, 1) := by decide +kernel
theorem eX1_split_152 : decode cX1_split 152 = .ok (.iadd, 1) := by decide +kernel
theorem eX1_split_153 : decode cX1_split 153 = .ok (.istore_n 3, 1) := by decide +kernel
theorem eX1_split_154 : decode cX1_split 154 = .ok (.iinc 5 1, 3) := by decide +kernel
theorem eX1_split_157 : decode cX1_split 157 = .ok (.goto (-100), 3) := by decide +kernel
theorem eX1_split_160 : decode cX1_split 160 = .ok (.aload_n 0, 1) := by decide +kernel
theorem eX1_split_161 : decode cX1_split 161 = .ok (.getfield 33, 3) := by decide +kernel
theorem eX1_split_164 : decode cX1_split 164 = .ok (.iload_n 1, 1) := by decide +kernel
theorem eX1_split_165 : decode cX1_split 165 = .ok (.aload_n 0, 1) := by decide +kernel
theorem eX1_split_166 : decode cX1_split 166 = .ok (.getfield 36, 3) := by decide +kernel
theorem eX1_split_169 : decode cX1_split 169 = .ok (.aload_n 0, 1) := by decide +kernel
theorem eX1_split_170 : decode cX1_split 170 = .ok (.getfield 30, 3) := by decide +kernel
theorem eX1_split_173 : decode cX1_split 173 = .ok (.iload_n 1, 1) := by decide +kernel
theorem eX1_split_174 : decode cX1_split 174 = .ok (.invokestatic 60, 3) := by decide +kernel
theorem eX1_split_177 : decode cX1_split 177 = .ok (.isub, 1) := by decide +kernel
theorem eX1_split_178 : decode cX1_split 178 = .ok (.invokestatic 78, 3) := by decide +kernel
theorem eX1_split_181 : decode cX1_split 181 = .ok (.return_, 1) := by decide +kernel
theorem eX1_choosePosition_0 : decode cX1_choosePosition 0 = .ok (.iconst 0, 1) := by decide +kernel
theorem eX1_choosePosition_1 : decode cX1_choosePosition 1 = .ok (.istore_n 2, 1) := by decide +kernel
theorem eX1_choosePosition_2 : decode cX1_choosePosition 2 = .ok (.aload_n 0, 1) := by decide +kernel
theorem eX1_choosePosition_3 : decode cX1_choosePosition 3 = .ok (.iload_n 1, 1) := by decide +kernel
theorem eX1_choosePosition_4 : decode cX1_choosePosition 4 = .ok (.iconst 0, 1) := by decide +kernel
theorem eX1_choosePosition_5 : decode cX1_choosePosition 5 = .ok (.invokevirtual 105, 3) := by decide +kernel
theorem eX1_choosePosition_8 : decode cX1_choosePosition 8 = .ok (.istore_n 3, 1) := by decide +kernel
theorem eX1_choosePosition_9 : decode cX1_choosePosition 9 = .ok (.iconst 1, 1) := by decide +kernel
theorem eX1_choosePosition_10 : decode cX1_choosePosition 10 = .ok (.istore 4, 2) := by decide +kernel
theorem eX1_choosePosition_12 : decode cX1_choosePosition 12 = .ok (.iload 4, 2) := by decide +kernel
theorem eX1_choosePosition_14 : decode cX1_choosePosition 14 = .ok (.aload_n 0, 1) := by decide +kernel
theorem eX1_choosePosition_15 : decode cX1_choosePosition 15 = .ok (.getfield 49, 3) := by decide +kernel
theorem eX1_choosePosition_18 : decode cX1_choosePosition 18 = .ok (.aload_n 0, 1) := by decide +kernel
theorem eX1_choosePosition_19 : decode cX1_choosePosition 19 = .ok (.iload_n 1, 1) := by decide +kernel
theorem eX1_choosePosition_20 : decode cX1_choosePosition 20 = .ok (.invokevirtual 108, 3) := by decide +kernel
theorem eX1_choosePosition_23 : decode cX1_choosePosition 23 = .ok (.invokevirtual 87, 3) := by decide +kernel
theorem eX1_choosePosition_26 : decode cX1_choosePosition 26 = .ok (.if_icmp .ge 30, 3) := by decide +kernel
theorem eX1_choosePosition_29 : decode cX1_choosePosition 29 = .ok (.aload_n 0, 1) := by decide +kernel
theorem eX1_choosePosition_30 : decode cX1_choosePosition 30 = .ok (.iload_n 1, 1) := by decide +kernel
theorem eX1_choosePosition_31 : decode cX1_choosePosition 31 = .ok (.iload 4, 2) := by decide +kernel
theorem eX1_choosePosition_33 : decode cX1_choosePosition 33 = .ok (.invokevirtual 105, 3) := by decide +kernel
theorem eX1_choosePosition_36 : decode cX1_choosePosition 36 = .ok (.istore 5, 2) := by decide +kernel
theorem eX1_choosePosition_38 : decode cX1_choosePosition 38 = .ok (.iload 5, 2) := by decide +kernel
theorem eX1_choosePosition_40 : decode cX1_choosePosition 40 = .ok (.iload_n 3, 1) := by decide +kernel
theorem eX1_choosePosition_41 : decode cX1_choosePosition 41 = .ok (.if_icmp .ge 9, 3) := by decide +kernel
theorem eX1_choosePosition_44 : decode cX1_choosePosition 44 = .ok (.iload 5, 2) := by decide +kernel
theorem eX1_choosePosition_46 : decode cX1_choosePosition 46 = .ok (.istore_n 3, 1) := by decide +kernel
theorem eX1_choosePosition_47 : decode cX1_choosePosition 47 = .ok (.iload 4, 2) := by decide +kernel
theorem eX1_choosePosition_49 : decode cX1_choosePosition 49 = .ok (.istore_n 2, 1) := by decide +kernel
theorem eX1_choosePosition_50 : decode cX1_choosePosition 50 = .ok (.iinc 4 1, 3) := by decide +kernel
theorem eX1_choosePosition_53 : decode cX1_choosePosition 53 = .ok (.goto (-41), 3) := by decide +kernel
theorem eX1_choosePosition_56 : decode cX1_choosePosition 56 = .ok (.iload_n 2, 1) := by decide +kernel
theorem eX1_choosePosition_57 : decode cX1_choosePosition 57 = .ok (.ireturn, 1) := by decide +kernel
theorem eX1_penaltyOf_0 : decode cX1_penaltyOf 0 = .ok (.iconst 0, 1) := by decide +kernel
theorem eX1_penaltyOf_1 : decode cX1_penaltyOf 1 = .ok (.istore_n 3, 1) := by decide +kernel
theorem eX1_penaltyOf_2 : decode cX1_penaltyOf 2 = .ok (.iconst 0, 1) := by decide +kernel
theorem eX1_penaltyOf_3 : decode cX1_penaltyOf 3 = .ok (.istore 4, 2) := by decide +kernel
theorem eX1_penaltyOf_5 : decode cX1_penaltyOf 5 = .ok (.aload_n 0, 1) := by decide +kernel
theorem eX1_penaltyOf_6 : decode cX1_penaltyOf 6 = .ok (.getfield 15, 3) := by decide +kernel
theorem eX1_penaltyOf_9 : decode cX1_penaltyOf 9 = .ok (.iload_n 1, 1) := by decide +kernel
theorem eX1_penaltyOf_10 : decode cX1_penaltyOf 10 = .ok (.invokestatic 60, 3) := by decide +kernel
theorem eX1_penaltyOf_13 : decode cX1_penaltyOf 13 = .ok (.istore 5, 2) := by decide +kernel
theorem eX1_penaltyOf_15 : decode cX1_penaltyOf 15 = .ok (.iload 5, 2) := by decide +kernel
theorem eX1_penaltyOf_17 : decode cX1_penaltyOf 17 = .ok (.aload_n 0, 1) := by decide +kernel
theorem eX1_penaltyOf_18 : decode cX1_penaltyOf 18 = .ok (.getfield 18, 3) := by decide +kernel
theorem eX1_penaltyOf_21 : decode cX1_penaltyOf 21 = .ok (.iload_n 1, 1) := by decide +kernel
theorem eX1_penaltyOf_22 : decode cX1_penaltyOf 22 = .ok (.invokestatic 60, 3) := by decide +kernel
theorem eX1_penaltyOf_25 : decode cX1_penaltyOf 25 = .ok (.if_icmp .ge 127, 3) := by decide +kernel
theorem eX1_penaltyOf_28 : decode cX1_penaltyOf 28 = .ok (.aload_n 0, 1) := by decide +kernel
theorem eX1_penaltyOf_29 : decode cX1_penaltyOf 29 = .ok (.getfield 49, 3) := by decide +kernel
theorem eX1_penaltyOf_32 : decode cX1_penaltyOf 32 = .ok (.aload_n 0, 1) := by decide +kernel
theorem eX1_penaltyOf_33 : decode cX1_penaltyOf 33 = .ok (.getfield 9, 3) := by decide +kernel
theorem eX1_penaltyOf_36 : decode cX1_penaltyOf 36 = .ok (.iload 5, 2) := by decide +kernel
theorem eX1_penaltyOf_38 : decode cX1_penaltyOf 38 = .ok (.invokestatic 60, 3) := by decide +kernel
theorem eX1_penaltyOf_41 : decode cX1_penaltyOf 41 = .ok (.iload_n 2, 1) := by decide +kernel
theorem eX1_penaltyOf_42 : decode cX1_penaltyOf 42 = .ok (.invokevirtual 102, 3) := by decide +kernel
theorem eX1_penaltyOf_45 : decode cX1_penaltyOf 45 = .ok (.istore 6, 2) := by decide +kernel
theorem eX1_penaltyOf_47 : decode cX1_penaltyOf 47 = .ok (.iconst 0, 1) := by decide +kernel
theorem eX1_penaltyOf_48 : decode cX1_penaltyOf 48 = .ok (.istore 7, 2) := by decide +kernel
theorem eX1_penaltyOf_50 : decode cX1_penaltyOf 50 = .ok (.iconst 0, 1) := by decide +kernel
theorem eX1_penaltyOf_51 : decode cX1_penaltyOf 51 = .ok (.istore 8, 2) := by decide +kernel
theorem eX1_penaltyOf_53 : decode cX1_penaltyOf 53 = .ok (.aload_n 0, 1) := by decide +kernel
theorem eX1_penaltyOf_54 : decode cX1_penaltyOf 54 = .ok (.getfield 15, 3) := by decide +kernel
theorem eX1_penaltyOf_57 : decode cX1_penaltyOf 57 = .ok (.iload_n 1, 1) := by decide +kernel
theorem eX1_penaltyOf_58 : decode cX1_penaltyOf 58 = .ok (.invokestatic 60, 3) := by decide +kernel
theorem eX1_penaltyOf_61 : decode cX1_penaltyOf 61 = .ok (.istore 9, 2) := by decide +kernel
theorem eX1_penaltyOf_63 : decode cX1_penaltyOf 63 = .ok (.iload 9, 2) := by decide +kernel
theorem eX1_penaltyOf_65 : decode cX1_penaltyOf 65 = .ok (.aload_n 0, 1) := by decide +kernel
theorem eX1_penaltyOf_66 : decode cX1_penaltyOf 66 = .ok (.getfield 18, 3) := by decide +kernel
theorem eX1_penaltyOf_69 : decode cX1_penaltyOf 69 = .ok (.iload_n 1, 1) := by decide +kernel
theorem eX1_penaltyOf_70 : decode cX1_penaltyOf 70 = .ok (.invokestatic 60, 3) := by decide +kernel
theorem eX1_penaltyOf_73 : decode cX1_penaltyOf 73 = .ok (.if_icmp .ge 51, 3) := by decide +kernel
theorem eX1_penaltyOf_76 : decode cX1_penaltyOf 76 = .ok (.aload_n 0, 1) := by decide +kernel
theorem eX1_penaltyOf_77 : decode cX1_penaltyOf 77 = .ok (.getfield 49, 3) := by decide +kernel
theorem eX1_penaltyOf_80 : decode cX1_penaltyOf 80 = .ok (.aload_n 0, 1) := by decide +kernel
theorem eX1_penaltyOf_81 : decode cX1_penaltyOf 81 = .ok (.getfield 9, 3) := by decide +kernel
theorem eX1_penaltyOf_84 : decode cX1_penaltyOf 84 = .ok (.iload 9, 2) := by decide +kernel
theorem eX1_penaltyOf_86 : decode cX1_penaltyOf 86 = .ok (.invokestatic 60, 3) := by decide +kernel
theorem eX1_penaltyOf_89 : decode cX1_penaltyOf 89 = .ok (.iload_n 2, 1) := by decide +kernel
theorem eX1_penaltyOf_90 : decode cX1_penaltyOf 90 = .ok (.invokevirtual 102, 3) := by decide +kernel
theorem eX1_penaltyOf_93 : decode cX1_penaltyOf 93 = .ok (.iload 6, 2) := by decide +kernel
theorem eX1_penaltyOf_95 : decode cX1_penaltyOf 95 = .ok (.if_icmp .ne 23, 3) := by decide +kernel
theorem eX1_penaltyOf_98 : decode cX1_penaltyOf 98 = .ok (.iinc 8 1, 3) := by decide +kernel
theorem eX1_penaltyOf_101 : decode cX1_penaltyOf 101 = .ok (.iload 7, 2) := by decide +kernel
theorem eX1_penaltyOf_103 : decode cX1_penaltyOf 103 = .ok (.iload 9, 2) := by decide +kernel
theorem eX1_penaltyOf_105 : decode cX1_penaltyOf 105 = .ok (.iload 5, 2) := by decide +kernel
theorem eX1_penaltyOf_107 : decode cX1_penaltyOf 107 = .ok (.if_icmp .ge 7, 3) := by decide +kernel
theorem eX1_penaltyOf_110 : decode cX1_penaltyOf 110 = .ok (.iconst 1, 1) := by decide +kernel
theorem eX1_penaltyOf_111 : decode cX1_penaltyOf 111 = .ok (.goto 4, 3) := by decide +kernel
theorem eX1_penaltyOf_114 : decode cX1_penaltyOf 114 = .ok (.iconst 0, 1) := by decide +kernel
theorem eX1_penaltyOf_115 : decode cX1_penaltyOf 115 = .ok (.iadd, 1) := by decide +kernel
theorem eX1_penaltyOf_116 : decode cX1_penaltyOf 116 = .ok (.istore 7, 2) := by decide +kernel
theorem eX1_penaltyOf_118 : decode cX1_penaltyOf 118 = .ok (.iinc 9 1, 3) := by decide +kernel
theorem eX1_penaltyOf_121 : decode cX1_penaltyOf 121 = .ok (.goto (-58), 3) := by decide +kernel
theorem eX1_penaltyOf_124 : decode cX1_penaltyOf 124 = .ok (.iload_n 3, 1) := by decide +kernel
theorem eX1_penaltyOf_125 : decode cX1_penaltyOf 125 = .ok (.iload 8, 2) := by decide +kernel
theorem eX1_penaltyOf_127 : decode cX1_penaltyOf 127 = .ok (.invokestatic 64, 3) := by decide +kernel
theorem eX1_penaltyOf_130 : decode cX1_penaltyOf 130 = .ok (.istore_n 3, 1) := by decide +kernel
theorem eX1_penaltyOf_131 : decode cX1_penaltyOf 131 = .ok (.iload 4, 2) := by decide +kernel
theorem eX1_penaltyOf_133 : decode cX1_penaltyOf 133 = .ok (.iload 7, 2) := by decide +kernel
theorem eX1_penaltyOf_135 : decode cX1_penaltyOf 135 = .ok (.ifCond .ne 7, 3) := by decide +kernel
theorem eX1_penaltyOf_138 : decode cX1_penaltyOf 138 = .ok (.iconst 1, 1) := by decide +kernel
theorem eX1_penaltyOf_139 : decode cX1_penaltyOf 139 = .ok (.goto 4, 3) := by decide +kernel
theorem eX1_penaltyOf_142 : decode cX1_penaltyOf 142 = .ok (.iconst 0, 1) := by decide +kernel
theorem eX1_penaltyOf_143 : decode cX1_penaltyOf 143 = .ok (.iadd, 1) := by decide +kernel
theorem eX1_penaltyOf_144 : decode cX1_penaltyOf 144 = .ok (.istore 4, 2) := by decide +kernel
theorem eX1_penaltyOf_146 : decode cX1_penaltyOf 146 = .ok (.iinc 5 1, 3) := by decide +kernel
theorem eX1_penaltyOf_149 : decode cX1_penaltyOf 149 = .ok (.goto (-134), 3) := by decide +kernel
theorem eX1_penaltyOf_152 : decode cX1_penaltyOf 152 = .ok (.iload_n 3, 1) := by decide +kernel
theorem eX1_penaltyOf_153 : decode cX1_penaltyOf 153 = .ok (.bipush 21, 2) := by decide +kernel
theorem eX1_penaltyOf_155 : decode cX1_penaltyOf 155 = .ok (.imul, 1) := by decide +kernel
theorem eX1_penaltyOf_156 : decode cX1_penaltyOf 156 = .ok (.iload 4, 2) := by decide +kernel
theorem eX1_penaltyOf_158 : decode cX1_penaltyOf 158 = .ok (.isub, 1) := by decide +kernel
theorem eX1_penaltyOf_159 : decode cX1_penaltyOf 159 = .ok (.ireturn, 1) := by decide +kernel
theorem eX1_sortMembers_0 : decode cX1_sortMembers 0 = .ok (.iload_n 1, 1) := by decide +kernel
theorem eX1_sortMembers_1 : decode cX1_sortMembers 1 = .ok (.iconst 1, 1) := by decide +kernel
theorem eX1_sortMembers_2 : decode cX1_sortMembers 2 = .ok (.iadd, 1) := by decide +kernel
theorem eX1_sortMembers_3 : decode cX1_sortMembers 3 = .ok (.istore 4, 2) := by decide +kernel
theorem eX1_sortMembers_5 : decode cX1_sortMembers 5 = .ok (.iload 4, 2) := by decide +kernel
theorem eX1_sortMembers_7 : decode cX1_sortMembers 7 = .ok (.iload_n 2, 1) := by decide +kernel
theorem eX1_sortMembers_8 : decode cX1_sortMembers 8 = .ok (.if_icmp .ge 99, 3) := by decide +kernel
theorem eX1_sortMembers_11 : decode cX1_sortMembers 11 = .ok (.aload_n 0, 1) := by decide +kernel
theorem eX1_sortMembers_12 : decode cX1_sortMembers 12 = .ok (.getfield 9, 3) := by decide +kernel
theorem eX1_sortMembers_15 : decode cX1_sortMembers 15 = .ok (.iload 4, 2) := by decide +kernel
theorem eX1_sortMembers_17 : decode cX1_sortMembers 17 = .ok (.invokestatic 60, 3) := by decide +kernel
theorem eX1_sortMembers_20 : decode cX1_sortMembers 20 = .ok (.istore 5, 2) := by decide +kernel
theorem eX1_sortMembers_22 : decode cX1_sortMembers 22 = .ok (.iload 4, 2) := by decide +kernel
theorem eX1_sortMembers_24 : decode cX1_sortMembers 24 = .ok (.istore 6, 2) := by decide +kernel
theorem eX1_sortMembers_26 : decode cX1_sortMembers 26 = .ok (.iload 6, 2) := by decide +kernel
theorem eX1_sortMembers_28 : decode cX1_sortMembers 28 = .ok (.iload_n 1, 1) := by decide +kernel
theorem eX1_sortMembers_29 : decode cX1_sortMembers 29 = .ok (.if_icmp .le 61, 3) := by decide +kernel
theorem eX1_sortMembers_32 : decode cX1_sortMembers 32 = .ok (.aload_n 0, 1) := by decide +kernel
theorem eX1_sortMembers_33 : decode cX1_sortMembers 33 = .ok (.getfield 49, 3) := by decide +kernel
theorem eX1_sortMembers_36 : decode cX1_sortMembers 36 = .ok (.aload_n 0, 1) := by decide +kernel
theorem eX1_sortMembers_37 : decode cX1_sortMembers 37 = .ok (.getfield 9, 3) := by decide +kernel
theorem eX1_sortMembers_40 : decode cX1_sortMembers 40 = .ok (.iload 6, 2) := by decide +kernel
theorem eX1_sortMembers_42 : decode cX1_sortMembers 42 = .ok (.iconst 1, 1) := by decide +kernel
theorem eX1_sortMembers_43 : decode cX1_sortMembers 43 = .ok (.isub, 1) := by decide +kernel
theorem eX1_sortMembers_44 : decode cX1_sortMembers 44 = .ok (.invokestatic 60, 3) := by decide +kernel
theorem eX1_sortMembers_47 : decode cX1_sortMembers 47 = .ok (.iload_n 3, 1) := by decide +kernel
theorem eX1_sortMembers_48 : decode cX1_sortMembers 48 = .ok (.invokevirtual 102, 3) := by decide +kernel
theorem eX1_sortMembers_51 : decode cX1_sortMembers 51 = .ok (.aload_n 0, 1) := by decide +kernel
theorem eX1_sortMembers_52 : decode cX1_sortMembers 52 = .ok (.getfield 49, 3) := by decide +kernel
theorem eX1_sortMembers_55 : decode cX1_sortMembers 55 = .ok (.iload 5, 2) := by decide +kernel
theorem eX1_sortMembers_57 : decode cX1_sortMembers 57 = .ok (.iload_n 3, 1) := by decide +kernel
theorem eX1_sortMembers_58 : decode cX1_sortMembers 58 = .ok (.invokevirtual 102, 3) := by decide +kernel
theorem eX1_sortMembers_61 : decode cX1_sortMembers 61 = .ok (.if_icmp .le 29, 3) := by decide +kernel
theorem eX1_sortMembers_64 : decode cX1_sortMembers 64 = .ok (.aload_n 0, 1) := by decide +kernel
theorem eX1_sortMembers_65 : decode cX1_sortMembers 65 = .ok (.getfield 9, 3) := by decide +kernel
theorem eX1_sortMembers_68 : decode cX1_sortMembers 68 = .ok (.iload 6, 2) := by decide +kernel
theorem eX1_sortMembers_70 : decode cX1_sortMembers 70 = .ok (.aload_n 0, 1) := by decide +kernel
theorem eX1_sortMembers_71 : decode cX1_sortMembers 71 = .ok (.getfield 9, 3) := by decide +kernel
theorem eX1_sortMembers_74 : decode cX1_sortMembers 74 = .ok (.iload 6, 2) := by decide +kernel
theorem eX1_sortMembers_76 : decode cX1_sortMembers 76 = .ok (.iconst 1, 1) := by decide +kernel
theorem eX1_sortMembers_77 : decode cX1_sortMembers 77 = .ok (.isub, 1) := by decide +kernel
theorem eX1_sortMembers_78 : decode cX1_sortMembers 78 = .ok (.invokestatic 60, 3) := by decide +kernel
theorem eX1_sortMembers_81 : decode cX1_sortMembers 81 = .ok (.invokestatic 78, 3) := by decide +kernel
theorem eX1_sortMembers_84 : decode cX1_sortMembers 84 = .ok (.iinc 6 (-1), 3) := by decide +kernel
theorem eX1_sortMembers_87 : decode cX1_sortMembers 87 = .ok (.goto (-61), 3) := by decide +kernel
theorem eX1_sortMembers_90 : decode cX1_sortMembers 90 = .ok (.aload_n 0, 1) := by decide +kernel
theorem eX1_sortMembers_91 : decode cX1_sortMembers 91 = .ok (.getfield 9, 3) := by decide +kernel
theorem eX1_sortMembers_94 : decode cX1_sortMembers 94 = .ok (.iload 6, 2) := by decide +kernel
theorem eX1_sortMembers_96 : decode cX1_sortMembers 96 = .ok (.iload 5, 2) := by decide +kernel
theorem eX1_sortMembers_98 : decode cX1_sortMembers 98 = .ok (.invokestatic 78, 3) := by decide +kernel
theorem eX1_sortMembers_101 : decode cX1_sortMembers 101 = .ok (.iinc 4 1, 3) := by decide +kernel
theorem eX1_sortMembers_104 : decode cX1_sortMembers 104 = .ok (.goto (-99), 3) := by decide +kernel
theorem eX1_sortMembers_107 : decode cX1_sortMembers 107 = .ok (.return_, 1) := by decide +kernel
theorem eX2_init_0 : decode cX2_init 0 = .ok (.aload_n 0, 1) := by decide +kernel
theorem eX2_init_1 : decode cX2_init 1 = .ok (.invokespecial 3, 3) := by decide +kernel
theorem eX2_init_4 : decode cX2_init 4 = .ok (.aload_n 0, 1) := by decide +kernel
theorem eX2_init_5 : decode cX2_init 5 = .ok (.sipush 160, 3) := by decide +kernel
theorem eX2_init_8 : decode cX2_init 8 = .ok (.newarray .int, 2) := by decide +kernel
theorem eX2_init_10 : decode cX2_init 10 = .ok (.putfield 9, 3) := by decide +kernel
theorem eX2_init_13 : decode cX2_init 13 = .ok (.aload_n 0, 1) := by decide +kernel
theorem eX2_init_14 : decode cX2_init 14 = .ok (.bipush 20, 2) := by decide +kernel
theorem eX2_init_16 : decode cX2_init 16 = .ok (.newarray .int, 2) := by decide +kernel
theorem eX2_init_18 : decode cX2_init 18 = .ok (.putfield 15, 3) := by decide +kernel
theorem eX2_init_21 : decode cX2_init 21 = .ok (.aload_n 0, 1) := by decide +kernel
theorem eX2_init_22 : decode cX2_init 22 = .ok (.bipush 20, 2) := by decide +kernel
theorem eX2_init_24 : decode cX2_init 24 = .ok (.newarray .int, 2) := by decide +kernel
theorem eX2_init_26 : decode cX2_init 26 = .ok (.putfield 18, 3) := by decide +kernel
theorem eX2_init_29 : decode cX2_init 29 = .ok (.aload_n 0, 1) := by decide +kernel
theorem eX2_init_30 : decode cX2_init 30 = .ok (.bipush 20, 2) := by decide +kernel
theorem eX2_init_32 : decode cX2_init 32 = .ok (.newarray .int, 2) := by decide +kernel
theorem eX2_init_34 : decode cX2_init 34 = .ok (.putfield 21, 3) := by decide +kernel
theorem eX2_init_37 : decode cX2_init 37 = .ok (.aload_n 0, 1) := by decide +kernel
theorem eX2_init_38 : decode cX2_init 38 = .ok (.iconst 0, 1) := by decide +kernel
theorem eX2_init_39 : decode cX2_init 39 = .ok (.putfield 24, 3) := by decide +kernel
theorem eX2_init_42 : decode cX2_init 42 = .ok (.aload_n 0, 1) := by decide +kernel
theorem eX2_init_43 : decode cX2_init 43 = .ok (.bipush 100, 2) := by decide +kernel
theorem eX2_init_45 : decode cX2_init 45 = .ok (.putfield 28, 3) := by decide +kernel
theorem eX2_init_48 : decode cX2_init 48 = .ok (.aload_n 0, 1) := by decide +kernel
theorem eX2_init_49 : decode cX2_init 49 = .ok (.iconst 0, 1) := by decide +kernel
theorem eX2_init_50 : decode cX2_init 50 = .ok (.putfield 31, 3) := by decide +kernel
theorem eX2_init_53 : decode cX2_init 53 = .ok (.return_, 1) := by decide +kernel
theorem eX2_lengthOf_0 : decode cX2_lengthOf 0 = .ok (.iload_n 1, 1) := by decide +kernel
theorem eX2_lengthOf_1 : decode cX2_lengthOf 1 = .ok (.ifCond .lt 21, 3) := by decide +kernel
theorem eX2_lengthOf_4 : decode cX2_lengthOf 4 = .ok (.iload_n 1, 1) := by decide +kernel
theorem eX2_lengthOf_5 : decode cX2_lengthOf 5 = .ok (.aload_n 0, 1) := by decide +kernel
theorem eX2_lengthOf_6 : decode cX2_lengthOf 6 = .ok (.getfield 15, 3) := by decide +kernel
theorem eX2_lengthOf_9 : decode cX2_lengthOf 9 = .ok (.arraylength, 1) := by decide +kernel
theorem eX2_lengthOf_10 : decode cX2_lengthOf 10 = .ok (.if_icmp .ge 12, 3) := by decide +kernel
theorem eX2_lengthOf_13 : decode cX2_lengthOf 13 = .ok (.aload_n 0, 1) := by decide +kernel
theorem eX2_lengthOf_14 : decode cX2_lengthOf 14 = .ok (.getfield 15, 3) := by decide +kernel
theorem eX2_lengthOf_17 : decode cX2_lengthOf 17 = .ok (.iload_n 1, 1) := by decide +kernel
theorem eX2_lengthOf_18 : decode cX2_lengthOf 18 = .ok (.iaload, 1) := by decide +kernel
theorem eX2_lengthOf_19 : decode cX2_lengthOf 19 = .ok (.goto 4, 3) := by decide +kernel
theorem eX2_lengthOf_23 : decode cX2_lengthOf 23 = .ok (.ireturn, 1) := by decide +kernel
theorem eX2_letterAt_0 : decode cX2_letterAt 0 = .ok (.iload_n 1, 1) := by decide +kernel
theorem eX2_letterAt_1 : decode cX2_letterAt 1 = .ok (.ifCond .lt 34, 3) := by decide +kernel
theorem eX2_letterAt_4 : decode cX2_letterAt 4 = .ok (.iload_n 1, 1) := by decide +kernel
theorem eX2_letterAt_5 : decode cX2_letterAt 5 = .ok (.aload_n 0, 1) := by decide +kernel
theorem eX2_letterAt_6 : decode cX2_letterAt 6 = .ok (.getfield 24, 3) := by decide +kernel
theorem eX2_letterAt_9 : decode cX2_letterAt 9 = .ok (.if_icmp .ge 26, 3) := by decide +kernel
theorem eX2_letterAt_12 : decode cX2_letterAt 12 = .ok (.iload_n 1, 1) := by decide +kernel
theorem eX2_letterAt_13 : decode cX2_letterAt 13 = .ok (.aload_n 0, 1) := by decide +kernel
theorem eX2_letterAt_14 : decode cX2_letterAt 14 = .ok (.getfield 15, 3) := by decide +kernel
theorem eX2_letterAt_17 : decode cX2_letterAt 17 = .ok (.arraylength, 1) := by decide +kernel
theorem eX2_letterAt_18 : decode cX2_letterAt 18 = .ok (.if_icmp .ge 17, 3) := by decide +kernel
theorem eX2_letterAt_21 : decode cX2_letterAt 21 = .ok (.iload_n 2, 1) := by decide +kernel
theorem eX2_letterAt_22 : decode cX2_letterAt 22 = .ok (.ifCond .lt 13, 3) := by decide +kernel
theorem eX2_letterAt_25 : decode cX2_letterAt 25 = .ok (.iload_n 2, 1) := by decide +kernel
theorem eX2_letterAt_26 : decode cX2_letterAt 26 = .ok (.aload_n 0, 1) := by decide +kernel
theorem eX2_letterAt_27 : decode cX2_letterAt 27 = .ok (.getfield 15, 3) := by decide +kernel
theorem eX2_letterAt_30 : decode cX2_letterAt 30 = .ok (.iload_n 1, 1) := by decide +kernel
theorem eX2_letterAt_31 : decode cX2_letterAt 31 = .ok (.iaload, 1) := by decide +kernel
theorem eX2_letterAt_32 : decode cX2_letterAt 32 = .ok (.if_icmp .lt 5, 3) := by decide +kernel
theorem eX2_letterAt_35 : decode cX2_letterAt 35 = .ok (.iconst (-1), 1) := by decide +kernel
theorem eX2_letterAt_36 : decode cX2_letterAt 36 = .ok (.ireturn, 1) := by decide +kernel
theorem eX2_letterAt_37 : decode cX2_letterAt 37 = .ok (.iload_n 1, 1) := by decide +kernel
theorem eX2_letterAt_38 : decode cX2_letterAt 38 = .ok (.bipush 8, 2) := by decide +kernel
theorem eX2_letterAt_40 : decode cX2_letterAt 40 = .ok (.imul, 1) := by decide +kernel
theorem eX2_letterAt_41 : decode cX2_letterAt 41 = .ok (.iload_n 2, 1) := by decide +kernel
theorem eX2_letterAt_42 : decode cX2_letterAt 42 = .ok (.iadd, 1) := by decide +kernel
theorem eX2_letterAt_43 : decode cX2_letterAt 43 = .ok (.istore_n 3, 1) := by decide +kernel
theorem eX2_letterAt_44 : decode cX2_letterAt 44 = .ok (.iload_n 3, 1) := by decide +kernel
theorem eX2_letterAt_45 : decode cX2_letterAt 45 = .ok (.aload_n 0, 1) := by decide +kernel
theorem eX2_letterAt_46 : decode cX2_letterAt 46 = .ok (.getfield 9, 3) := by decide +kernel
theorem eX2_letterAt_49 : decode cX2_letterAt 49 = .ok (.arraylength, 1) := by decide +kernel
theorem eX2_letterAt_50 : decode cX2_letterAt 50 = .ok (.if_icmp .ge 12, 3) := by decide +kernel
theorem eX2_letterAt_53 : decode cX2_letterAt 53 = .ok (.aload_n 0, 1) := by decide +kernel
theorem eX2_letterAt_54 : decode cX2_letterAt 54 = .ok (.getfield 9, 3) := by decide +kernel
theorem eX2_letterAt_57 : decode cX2_letterAt 57 = .ok (.iload_n 3, 1) := by decide +kernel
theorem eX2_letterAt_58 : decode cX2_letterAt 58 = .ok (.iaload, 1) := by decide +kernel
theorem eX2_letterAt_59 : decode cX2_letterAt 59 = .ok (.goto 4, 3) := by decide +kernel
theorem eX2_letterAt_63 : decode cX2_letterAt 63 = .ok (.ireturn, 1) := by decide +kernel
theorem eX2_numberOf_0 : decode cX2_numberOf 0 = .ok (.iconst 0, 1) := by decide +kernel
theorem eX2_numberOf_1 : decode cX2_numberOf 1 = .ok (.istore 4, 2) := by decide +kernel
theorem eX2_numberOf_3 : decode cX2_numberOf 3 = .ok (.iload 4, 2) := by decide +kernel
theorem eX2_numberOf_5 : decode cX2_numberOf 5 = .ok (.aload_n 0, 1) := by decide +kernel
theorem eX2_numberOf_6 : decode cX2_numberOf 6 = .ok (.getfield 24, 3) := by decide +kernel
theorem eX2_numberOf_9 : decode cX2_numberOf 9 = .ok (.if_icmp .ge 33, 3) := by decide +kernel
theorem eX2_numberOf_12 : decode cX2_numberOf 12 = .ok (.aload_n 0, 1) := by decide +kernel
theorem eX2_numberOf_13 : decode cX2_numberOf 13 = .ok (.iload 4, 2) := by decide +kernel
theorem eX2_numberOf_15 : decode cX2_numberOf 15 = .ok (.invokevirtual 34, 3) := by decide +kernel
theorem eX2_numberOf_18 : decode cX2_numberOf 18 = .ok (.iload_n 3, 1) := by decide +kernel
theorem eX2_numberOf_19 : decode cX2_numberOf 19 = .ok (.if_icmp .ne 17, 3) := by decide +kernel
theorem eX2_numberOf_22 : decode cX2_numberOf 22 = .ok (.aload_n 0, 1) := by decide +kernel
theorem eX2_numberOf_23 : decode cX2_numberOf 23 = .ok (.iload 4, 2) := by decide +kernel
theorem eX2_numberOf_25 : decode cX2_numberOf 25 = .ok (.aload_n 1, 1) := by decide +kernel
theorem eX2_numberOf_26 : decode cX2_numberOf 26 = .ok (.iload_n 2, 1) := by decide +kernel
theorem eX2_numberOf_27 : decode cX2_numberOf 27 = .ok (.invokevirtual 38, 3) := by decide +kernel
theorem eX2_numberOf_30 : decode cX2_numberOf 30 = .ok (.ifCond .eq 6, 3) := by decide +kernel
theorem eX2_numberOf_36 : decode cX2_numberOf 36 = .ok (.iinc 4 1, 3) := by decide +kernel
theorem eX2_numberOf_39 : decode cX2_numberOf 39 = .ok (.goto (-36), 3) := by decide +kernel
theorem eX2_numberOf_42 : decode cX2_numberOf 42 = .ok (.iconst (-1), 1) := by decide +kernel
theorem eX2_numberOf_43 : decode cX2_numberOf 43 = .ok (.ireturn, 1) := by decide +kernel
theorem eX2_beginsAt_0 : decode cX2_beginsAt 0 = .ok (.iconst 0, 1) := by decide +kernel
theorem eX2_beginsAt_1 : decode cX2_beginsAt 1 = .ok (.istore 4, 2) := by decide +kernel
theorem eX2_beginsAt_3 : decode cX2_beginsAt 3 = .ok (.iload 4, 2) := by decide +kernel
theorem eX2_beginsAt_5 : decode cX2_beginsAt 5 = .ok (.aload_n 0, 1) := by decide +kernel
theorem eX2_beginsAt_6 : decode cX2_beginsAt 6 = .ok (.iload_n 1, 1) := by decide +kernel
theorem eX2_beginsAt_7 : decode cX2_beginsAt 7 = .ok (.invokevirtual 34, 3) := by decide +kernel
theorem eX2_beginsAt_10 : decode cX2_beginsAt 10 = .ok (.if_icmp .ge 29, 3) := by decide +kernel
theorem eX2_beginsAt_13 : decode cX2_beginsAt 13 = .ok (.aload_n 0, 1) := by decide +kernel
theorem eX2_beginsAt_14 : decode cX2_beginsAt 14 = .ok (.iload_n 1, 1) := by decide +kernel
theorem eX2_beginsAt_15 : decode cX2_beginsAt 15 = .ok (.iload 4, 2) := by decide +kernel
theorem eX2_beginsAt_17 : decode cX2_beginsAt 17 = .ok (.invokevirtual 42, 3) := by decide +kernel
theorem eX2_beginsAt_20 : decode cX2_beginsAt 20 = .ok (.aload_n 2, 1) := by decide +kernel
theorem eX2_beginsAt_21 : decode cX2_beginsAt 21 = .ok (.iload_n 3, 1) := by decide +kernel
theorem eX2_beginsAt_22 : decode cX2_beginsAt 22 = .ok (.iload 4, 2) := by decide +kernel
theorem eX2_beginsAt_24 : decode cX2_beginsAt 24 = .ok (.iadd, 1) := by decide +kernel
theorem eX2_beginsAt_25 : decode cX2_beginsAt 25 = .ok (.invokevirtual 46, 3) := by decide +kernel
theorem eX2_beginsAt_28 : decode cX2_beginsAt 28 = .ok (.if_icmp .eq 5, 3) := by decide +kernel
theorem eX2_beginsAt_31 : decode cX2_beginsAt 31 = .ok (.iconst 0, 1) := by decide +kernel
theorem eX2_beginsAt_32 : decode cX2_beginsAt 32 = .ok (.ireturn, 1) := by decide +kernel
theorem eX2_beginsAt_33 : decode cX2_beginsAt 33 = .ok (.iinc 4 1, 3) := by decide +kernel
theorem eX2_beginsAt_36 : decode cX2_beginsAt 36 = .ok (.goto (-33), 3) := by decide +kernel
theorem eX2_insert_0 : decode cX2_insert 0 = .ok (.aload_n 0, 1) := by decide +kernel
theorem eX2_insert_1 : decode cX2_insert 1 = .ok (.getfield 24, 3) := by decide +kernel
theorem eX2_insert_4 : decode cX2_insert 4 = .ok (.bipush 20, 2) := by decide +kernel
theorem eX2_insert_6 : decode cX2_insert 6 = .ok (.if_icmp .ge 20, 3) := by decide +kernel
theorem eX2_insert_9 : decode cX2_insert 9 = .ok (.iload_n 3, 1) := by decide +kernel
theorem eX2_insert_10 : decode cX2_insert 10 = .ok (.bipush 8, 2) := by decide +kernel
theorem eX2_insert_12 : decode cX2_insert 12 = .ok (.if_icmp .gt 14, 3) := by decide +kernel
theorem eX2_insert_15 : decode cX2_insert 15 = .ok (.aload_n 0, 1) := by decide +kernel
theorem eX2_insert_16 : decode cX2_insert 16 = .ok (.aload_n 1, 1) := by decide +kernel
theorem eX2_insert_17 : decode cX2_insert 17 = .ok (.iload_n 2, 1) := by decide +kernel
theorem eX2_insert_18 : decode cX2_insert 18 = .ok (.iload_n 3, 1) := by decide +kernel
theorem eX2_insert_19 : decode cX2_insert 19 = .ok (.invokevirtual 51, 3) := by decide +kernel
theorem eX2_insert_22 : decode cX2_insert 22 = .ok (.iconst (-1), 1) := by decide +kernel
theorem eX2_insert_23 : decode cX2_insert 23 = .ok (.if_icmp .eq 5, 3) := by decide +kernel
theorem eX2_insert_28 : decode cX2_insert 28 = .ok (.iconst 0, 1) := by decide +kernel
theorem eX2_insert_29 : decode cX2_insert 29 = .ok (.istore 5, 2) := by decide +kernel
theorem eX2_insert_31 : decode cX2_insert 31 = .ok (.iload 5, 2) := by decide +kernel
theorem eX2_insert_33 : decode cX2_insert 33 = .ok (.iload_n 3, 1) := by decide +kernel
theorem eX2_insert_34 : decode cX2_insert 34 = .ok (.if_icmp .ge 34, 3) := by decide +kernel
theorem eX2_insert_37 : decode cX2_insert 37 = .ok (.aload_n 0, 1) := by decide +kernel
theorem eX2_insert_38 : decode cX2_insert 38 = .ok (.getfield 9, 3) := by decide +kernel
theorem eX2_insert_41 : decode cX2_insert 41 = .ok (.aload_n 0, 1) := by decide +kernel
theorem eX2_insert_42 : decode cX2_insert 42 = .ok (.getfield 24, 3) := by decide +kernel
theorem eX2_insert_45 : decode cX2_insert 45 = .ok (.bipush 8, 2) := by decide +kernel
theorem eX2_insert_47 : decode cX2_insert 47 = .ok (.imul, 1) := by decide +kernel
theorem eX2_insert_48 : decode cX2_insert 48 = .ok (.iload 5, 2) := by decide +kernel
theorem eX2_insert_50 : decode cX2_insert 50 = .ok (.iadd, 1) := by decide +kernel
theorem eX2_insert_51 : decode cX2_insert 51 = .ok (.aload_n 1, 1) := by decide +kernel
theorem eX2_insert_52 : decode cX2_insert 52 = .ok (.iload_n 2, 1) := by decide +kernel
theorem eX2_insert_53 : decode cX2_insert 53 = .ok (.iload 5, 2) := by decide +kernel
theorem eX2_insert_55 : decode cX2_insert 55 = .ok (.iadd, 1) := by decide +kernel
theorem eX2_insert_56 : decode cX2_insert 56 = .ok (.invokevirtual 46, 3) := by decide +kernel
theorem eX2_insert_59 : decode cX2_insert 59 = .ok (.invokestatic 55, 3) := by decide +kernel
theorem eX2_insert_62 : decode cX2_insert 62 = .ok (.iinc 5 1, 3) := by decide +kernel
theorem eX2_insert_65 : decode cX2_insert 65 = .ok (.goto (-34), 3) := by decide +kernel
theorem eX2_insert_68 : decode cX2_insert 68 = .ok (.aload_n 0, 1) := by decide +kernel
theorem eX2_insert_69 : decode cX2_insert 69 = .ok (.getfield 15, 3) := by decide +kernel
theorem eX2_insert_72 : decode cX2_insert 72 = .ok (.aload_n 0, 1) := by decide +kernel
theorem eX2_insert_73 : decode cX2_insert 73 = .ok (.getfield 24, 3) := by decide +kernel
theorem eX2_insert_76 : decode cX2_insert 76 = .ok (.iload_n 3, 1) := by decide +kernel
theorem eX2_insert_77 : decode cX2_insert 77 = .ok (.invokestatic 55, 3) := by decide +kernel
theorem eX2_insert_80 : decode cX2_insert 80 = .ok (.aload_n 0, 1) := by decide +kernel
theorem eX2_insert_81 : decode cX2_insert 81 = .ok (.getfield 18, 3) := by decide +kernel
theorem eX2_insert_84 : decode cX2_insert 84 = .ok (.aload_n 0, 1) := by decide +kernel
theorem eX2_insert_85 : decode cX2_insert 85 = .ok (.getfield 24, 3) := by decide +kernel
theorem eX2_insert_88 : decode cX2_insert 88 = .ok (.iload 4, 2) := by decide +kernel
theorem eX2_insert_90 : decode cX2_insert 90 = .ok (.invokestatic 55, 3) := by decide +kernel
theorem eX2_insert_93 : decode cX2_insert 93 = .ok (.aload_n 0, 1) := by decide +kernel
theorem eX2_insert_94 : decode cX2_insert 94 = .ok (.getfield 21, 3) := by decide +kernel
theorem eX2_insert_97 : decode cX2_insert 97 = .ok (.aload_n 0, 1) := by decide +kernel
theorem eX2_insert_98 : decode cX2_insert 98 = .ok (.getfield 24, 3) := by decide +kernel
theorem eX2_insert_101 : decode cX2_insert 101 = .ok (.iconst 1, 1) := by decide +kernel
theorem eX2_insert_102 : decode cX2_insert 102 = .ok (.invokestatic 55, 3) := by decide +kernel
theorem eX2_insert_105 : decode cX2_insert 105 = .ok (.aload_n 0, 1) := by decide +kernel
theorem eX2_insert_106 : decode cX2_insert 106 = .ok (.dup, 1) := by decide +kernel
theorem eX2_insert_107 : decode cX2_insert 107 = .ok (.getfield 24, 3) := by decide +kernel
theorem eX2_insert_110 : decode cX2_insert 110 = .ok (.iconst 1, 1) := by decide +kernel
theorem eX2_insert_111 : decode cX2_insert 111 = .ok (.iadd, 1) := by decide +kernel
theorem eX2_insert_112 : decode cX2_insert 112 = .ok (.putfield 24, 3) := by decide +kernel
theorem eX2_insert_115 : decode cX2_insert 115 = .ok (.aload_n 0, 1) := by decide +kernel
theorem eX2_insert_116 : decode cX2_insert 116 = .ok (.dup, 1) := by decide +kernel
theorem eX2_insert_117 : decode cX2_insert 117 = .ok (.getfield 31, 3) := by decide +kernel
theorem eX2_insert_120 : decode cX2_insert 120 = .ok (.iconst 1, 1) := by decide +kernel
theorem eX2_insert_121 : decode cX2_insert 121 = .ok (.iadd, 1) := by decide +kernel
theorem eX2_insert_122 : decode cX2_insert 122 = .ok (.putfield 31, 3) := by decide +kernel
theorem eX2_insert_125 : decode cX2_insert 125 = .ok (.iconst 1, 1) := by decide +kernel
theorem eX2_insert_126 : decode cX2_insert 126 = .ok (.ireturn, 1) := by decide +kernel
theorem eX2_firstDifference_0 : decode cX2_firstDifference 0 = .ok (.aload_n 0, 1) := by decide +kernel
theorem eX2_firstDifference_1 : decode cX2_firstDifference 1 = .ok (.iload_n 1, 1) := by decide +kernel
theorem eX2_firstDifference_2 : decode cX2_firstDifference 2 = .ok (.invokevirtual 34, 3) := by decide +kernel
theorem eX2_firstDifference_5 : decode cX2_firstDifference 5 = .ok (.aload_n 0, 1) := by decide +kernel
theorem eX2_firstDifference_6 : decode cX2_firstDifference 6 = .ok (.iload_n 2, 1) := by decide +kernel
theorem eX2_firstDifference_7 : decode cX2_firstDifference 7 = .ok (.invokevirtual 34, 3) := by decide +kernel
theorem eX2_firstDifference_10 : decode cX2_firstDifference 10 = .ok (.invokestatic 67, 3) := by decide +kernel
theorem eX2_firstDifference_13 : decode cX2_firstDifference 13 = .ok (.istore_n 3, 1) := by decide +kernel
theorem eX2_firstDifference_14 : decode cX2_firstDifference 14 = .ok (.iconst 0, 1) := by decide +kernel
theorem eX2_firstDifference_15 : decode cX2_firstDifference 15 = .ok (.istore 4, 2) := by decide +kernel
theorem eX2_firstDifference_17 : decode cX2_firstDifference 17 = .ok (.iload 4, 2) := by decide +kernel
theorem eX2_firstDifference_19 : decode cX2_firstDifference 19 = .ok (.iload_n 3, 1) := by decide +kernel
theorem eX2_firstDifference_20 : decode cX2_firstDifference 20 = .ok (.if_icmp .ge 29, 3) := by decide +kernel
theorem eX2_firstDifference_23 : decode cX2_firstDifference 23 = .ok (.aload_n 0, 1) := by decide +kernel
theorem eX2_firstDifference_24 : decode cX2_firstDifference 24 = .ok (.iload_n 1, 1) := by decide +kernel
theorem eX2_firstDifference_25 : decode cX2_firstDifference 25 = .ok (.iload 4, 2) := by decide +kernel
theorem eX2_firstDifference_27 : decode cX2_firstDifference 27 = .ok (.invokevirtual 42, 3) := by decide +kernel
theorem eX2_firstDifference_30 : decode cX2_firstDifference 30 = .ok (.aload_n 0, 1) := by decide +kernel
theorem eX2_firstDifference_31 : decode cX2_firstDifference 31 = .ok (.iload_n 2, 1) := by decide +kernel
theorem eX2_firstDifference_32 : decode cX2_firstDifference 32 = .ok (.iload 4, 2) := by decide +kernel
theorem eX2_firstDifference_34 : decode cX2_firstDifference 34 = .ok (.invokevirtual 42, 3) := by decide +kernel
theorem eX2_firstDifference_37 : decode cX2_firstDifference 37 = .ok (.if_icmp .eq 6, 3) := by decide +kernel
theorem eX2_firstDifference_40 : decode cX2_firstDifference 40 = .ok (.iload 4, 2) := by decide +kernel
theorem eX2_firstDifference_42 : decode cX2_firstDifference 42 = .ok (.ireturn, 1) := by decide +kernel
theorem eX2_firstDifference_43 : decode cX2_firstDifference 43 = .ok (.iinc 4 1, 3) := by decide +kernel
theorem eX2_firstDifference_46 : decode cX2_firstDifference 46 = .ok (.goto (-29), 3) := by decide +kernel
theorem eX2_firstDifference_49 : decode cX2_firstDifference 49 = .ok (.iload_n 3, 1) := by decide +kernel
theorem eX2_firstDifference_50 : decode cX2_firstDifference 50 = .ok (.ireturn, 1) := by decide +kernel
theorem eX2_isLess_0 : decode cX2_isLess 0 = .ok (.aload_n 0, 1) := by decide +kernel
theorem eX2_isLess_1 : decode cX2_isLess 1 = .ok (.iload_n 1, 1) := by decide +kernel
theorem eX2_isLess_2 : decode cX2_isLess 2 = .ok (.iload_n 2, 1) := by decide +kernel
theorem eX2_isLess_3 : decode cX2_isLess 3 = .ok (.invokevirtual 72, 3) := by decide +kernel
theorem eX2_isLess_6 : decode cX2_isLess 6 = .ok (.istore_n 3, 1) := by decide +kernel
theorem eX2_isLess_7 : decode cX2_isLess 7 = .ok (.aload_n 0, 1) := by decide +kernel
theorem eX2_isLess_8 : decode cX2_isLess 8 = .ok (.iload_n 1, 1) := by decide +kernel
theorem eX2_isLess_9 : decode cX2_isLess 9 = .ok (.iload_n 3, 1) := by decide +kernel
theorem eX2_isLess_10 : decode cX2_isLess 10 = .ok (.invokevirtual 42, 3) := by decide +kernel
theorem eX2_isLess_13 : decode cX2_isLess 13 = .ok (.aload_n 0, 1) := by decide +kernel
theorem eX2_isLess_14 : decode cX2_isLess 14 = .ok (.iload_n 2, 1) := by decide +kernel
theorem eX2_isLess_15 : decode cX2_isLess 15 = .ok (.iload_n 3, 1) := by decide +kernel
theorem eX2_isLess_16 : decode cX2_isLess 16 = .ok (.invokevirtual 42, 3) := by decide +kernel
theorem eX2_isLess_19 : decode cX2_isLess 19 = .ok (.if_icmp .ge 7, 3) := by decide +kernel
theorem eX2_isLess_22 : decode cX2_isLess 22 = .ok (.iconst 1, 1) := by decide +kernel
theorem eX2_isLess_23 : decode cX2_isLess 23 = .ok (.goto 4, 3) := by decide +kernel
theorem eX2_isLess_26 : decode cX2_isLess 26 = .ok (.iconst 0, 1) := by decide +kernel
theorem eX2_isLess_27 : decode cX2_isLess 27 = .ok (.ireturn, 1) := by decide +kernel
theorem eX2_rankOf_0 : decode cX2_rankOf 0 = .ok (.iconst 0, 1) := by decide +kernel
theorem eX2_rankOf_1 : decode cX2_rankOf 1 = .ok (.istore_n 2, 1) := by decide +kernel
theorem eX2_rankOf_2 : decode cX2_rankOf 2 = .ok (.iconst 0, 1) := by decide +kernel
theorem eX2_rankOf_3 : decode cX2_rankOf 3 = .ok (.istore_n 3, 1) := by decide +kernel
theorem eX2_rankOf_4 : decode cX2_rankOf 4 = .ok (.iload_n 3, 1) := by decide +kernel
theorem eX2_rankOf_5 : decode cX2_rankOf 5 = .ok (.aload_n 0, 1) := by decide +kernel
theorem eX2_rankOf_6 : decode cX2_rankOf 6 = .ok (.getfield 24, 3) := by decide +kernel
theorem eX2_rankOf_9 : decode cX2_rankOf 9 = .ok (.if_icmp .ge 21, 3) := by decide +kernel
theorem eX2_rankOf_12 : decode cX2_rankOf 12 = .ok (.aload_n 0, 1) := by decide +kernel
theorem eX2_rankOf_13 : decode cX2_rankOf 13 = .ok (.iload_n 3, 1) := by decide +kernel
theorem eX2_rankOf_14 : decode cX2_rankOf 14 = .ok (.iload_n 1, 1) := by decide +kernel
theorem eX2_rankOf_15 : decode cX2_rankOf 15 = .ok (.invokevirtual 75, 3) := by decide +kernel
theorem eX2_rankOf_18 : decode cX2_rankOf 18 = .ok (.ifCond .eq 6, 3) := by decide +kernel
theorem eX2_rankOf_21 : decode cX2_rankOf 21 = .ok (.iinc 2 1, 3) := by decide +kernel
theorem eX2_rankOf_24 : decode cX2_rankOf 24 = .ok (.iinc 3 1, 3) := by decide +kernel
theorem eX2_rankOf_27 : decode cX2_rankOf 27 = .ok (.goto (-23), 3) := by decide +kernel
theorem eX2_rankOf_30 : decode cX2_rankOf 30 = .ok (.iload_n 2, 1) := by decide +kernel
theorem eX2_rankOf_31 : decode cX2_rankOf 31 = .ok (.ireturn, 1) := by decide +kernel
theorem eX2_differences_0 : decode cX2_differences 0 = .ok (.iconst 0, 1) := by decide +kernel
theorem eX2_differences_1 : decode cX2_differences 1 = .ok (.istore_n 3, 1) := by decide +kernel
theorem eX2_differences_2 : decode cX2_differences 2 = .ok (.iconst 0, 1) := by decide +kernel
theorem eX2_differences_3 : decode cX2_differences 3 = .ok (.istore 4, 2) := by decide +kernel
theorem eX2_differences_5 : decode cX2_differences 5 = .ok (.iload 4, 2) := by decide +kernel
theorem eX2_differences_7 : decode cX2_differences 7 = .ok (.bipush 8, 2) := by decide +kernel
theorem eX2_differences_9 : decode cX2_differences 9 = .ok (.if_icmp .ge 33, 3) := by decide +kernel
theorem eX2_differences_12 : decode cX2_differences 12 = .ok (.aload_n 0, 1) := by decide +kernel
theorem eX2_differences_13 : decode cX2_differences 13 = .ok (.iload_n 1, 1) := by decide +kernel
theorem eX2_differences_14 : decode cX2_differences 14 = .ok (.iload 4, 2) := by decide +kernel
theorem eX2_differences_16 : decode cX2_differences 16 = .ok (.invokevirtual 42, 3) := by decide +kernel
theorem eX2_differences_19 : decode cX2_differences 19 = .ok (.aload_n 0, 1) := by decide +kernel
theorem eX2_differences_20 : decode cX2_differences 20 = .ok (.iload_n 2, 1) := by decide +kernel
theorem eX2_differences_21 : decode cX2_differences 21 = .ok (.iload 4, 2) := by decide +kernel
theorem eX2_differences_23 : decode cX2_differences 23 = .ok (.invokevirtual 42, 3) := by decide +kernel
theorem eX2_differences_26 : decode cX2_differences 26 = .ok (.if_icmp .eq 10, 3) := by decide +kernel
theorem eX2_differences_29 : decode cX2_differences 29 = .ok (.iload_n 3, 1) := by decide +kernel
theorem eX2_differences_30 : decode cX2_differences 30 = .ok (.iconst 1, 1) := by decide +kernel
theorem eX2_differences_31 : decode cX2_differences 31 = .ok (.iload 4, 2) := by decide +kernel
theorem eX2_differences_33 : decode cX2_differences 33 = .ok (.ishl, 1) := by decide +kernel
theorem eX2_differences_34 : decode cX2_differences 34 = .ok (.ior, 1) := by decide +kernel
theorem eX2_differences_35 : decode cX2_differences 35 = .ok (.istore_n 3, 1) := by decide +kernel
theorem eX2_differences_36 : decode cX2_differences 36 = .ok (.iinc 4 1, 3) := by decide +kernel
theorem eX2_differences_39 : decode cX2_differences 39 = .ok (.goto (-34), 3) := by decide +kernel
theorem eX2_differences_42 : decode cX2_differences 42 = .ok (.iload_n 3, 1) := by decide +kernel
theorem eX2_differences_43 : decode cX2_differences 43 = .ok (.ireturn, 1) := by decide +kernel
theorem eX2_writeKey_0 : decode cX2_writeKey 0 = .ok (.iconst 0, 1) := by decide +kernel
theorem eX2_writeKey_1 : decode cX2_writeKey 1 = .ok (.istore_n 3, 1) := by decide +kernel
theorem eX2_writeKey_2 : decode cX2_writeKey 2 = .ok (.iload_n 3, 1) := by decide +kernel
theorem eX2_writeKey_3 : decode cX2_writeKey 3 = .ok (.aload_n 0, 1) := by decide +kernel
theorem eX2_writeKey_4 : decode cX2_writeKey 4 = .ok (.iload_n 1, 1) := by decide +kernel
theorem eX2_writeKey_5 : decode cX2_writeKey 5 = .ok (.invokevirtual 34, 3) := by decide +kernel
theorem eX2_writeKey_8 : decode cX2_writeKey 8 = .ok (.if_icmp .ge 19, 3) := by decide +kernel
theorem eX2_writeKey_11 : decode cX2_writeKey 11 = .ok (.aload_n 2, 1) := by decide +kernel
theorem eX2_writeKey_12 : decode cX2_writeKey 12 = .ok (.aload_n 0, 1) := by decide +kernel
theorem eX2_writeKey_13 : decode cX2_writeKey 13 = .ok (.iload_n 1, 1) := by decide +kernel
theorem eX2_writeKey_14 : decode cX2_writeKey 14 = .ok (.iload_n 3, 1) := by decide +kernel
theorem eX2_writeKey_15 : decode cX2_writeKey 15 = .ok (.invokevirtual 42, 3) := by decide +kernel
theorem eX2_writeKey_18 : decode cX2_writeKey 18 = .ok (.invokevirtual 87, 3) := by decide +kernel
theorem eX2_writeKey_21 : decode cX2_writeKey 21 = .ok (.iinc 3 1, 3) := by decide +kernel
theorem eX2_writeKey_24 : decode cX2_writeKey 24 = .ok (.goto (-22), 3) := by decide +kernel
theorem eX2_writeKey_27 : decode cX2_writeKey 27 = .ok (.return_, 1) := by decide +kernel
theorem eX3_init_0 : decode cX3_init 0 = .ok (.aload_n 0, 1) := by decide +kernel
theorem eX3_init_1 : decode cX3_init 1 = .ok (.invokespecial 3, 3) := by decide +kernel
theorem eX3_init_4 : decode cX3_init 4 = .ok (.aload_n 0, 1) := by decide +kernel
theorem eX3_init_5 : decode cX3_init 5 = .ok (.new 9, 3) := by decide +kernel
theorem eX3_init_8 : decode cX3_init 8 = .ok (.dup, 1) := by decide +kernel
theorem eX3_init_9 : decode cX3_init 9 = .ok (.sipush 1000, 3) := by decide +kernel
theorem eX3_init_12 : decode cX3_init 12 = .ok (.invokespecial 13, 3) := by decide +kernel
theorem eX3_init_15 : decode cX3_init 15 = .ok (.putfield 16, 3) := by decide +kernel
theorem eX3_init_18 : decode cX3_init 18 = .ok (.aload_n 0, 1) := by decide +kernel
theorem eX3_init_19 : decode cX3_init 19 = .ok (.aload_n 1, 1) := by decide +kernel
theorem eX3_init_20 : decode cX3_init 20 = .ok (.putfield 20, 3) := by decide +kernel
theorem eX3_init_23 : decode cX3_init 23 = .ok (.aload_n 0, 1) := by decide +kernel
theorem eX3_init_24 : decode cX3_init 24 = .ok (.aload_n 2, 1) := by decide +kernel
theorem eX3_init_25 : decode cX3_init 25 = .ok (.putfield 24, 3) := by decide +kernel
theorem eX3_init_28 : decode cX3_init 28 = .ok (.aload_n 0, 1) := by decide +kernel
theorem eX3_init_29 : decode cX3_init 29 = .ok (.aload_n 3, 1) := by decide +kernel
theorem eX3_init_30 : decode cX3_init 30 = .ok (.putfield 28, 3) := by decide +kernel
theorem eX3_init_33 : decode cX3_init 33 = .ok (.aload_n 0, 1) := by decide +kernel
theorem eX3_init_34 : decode cX3_init 34 = .ok (.aload 4, 2) := by decide +kernel
theorem eX3_init_36 : decode cX3_init 36 = .ok (.putfield 32, 3) := by decide +kernel
theorem eX3_init_39 : decode cX3_init 39 = .ok (.return_, 1) := by decide +kernel
theorem eX4_init_0 : decode cX4_init 0 = .ok (.aload_n 0, 1) := by decide +kernel
theorem eX4_init_1 : decode cX4_init 1 = .ok (.invokespecial 3, 3) := by decide +kernel
theorem eX4_init_4 : decode cX4_init 4 = .ok (.aload_n 0, 1) := by decide +kernel
theorem eX4_init_5 : decode cX4_init 5 = .ok (.bipush 20, 2) := by decide +kernel
theorem eX4_init_7 : decode cX4_init 7 = .ok (.newarray .int, 2) := by decide +kernel
theorem eX4_init_9 : decode cX4_init 9 = .ok (.putfield 9, 3) := by decide +kernel
theorem eX4_init_12 : decode cX4_init 12 = .ok (.aload_n 0, 1) := by decide +kernel
theorem eX4_init_13 : decode cX4_init 13 = .ok (.aload_n 1, 1) := by decide +kernel
theorem eX4_init_14 : decode cX4_init 14 = .ok (.putfield 15, 3) := by decide +kernel
theorem eX4_init_17 : decode cX4_init 17 = .ok (.return_, 1) := by decide +kernel
theorem eX4_sort_0 : decode cX4_sort 0 = .ok (.iconst 0, 1) := by decide +kernel
theorem eX4_sort_1 : decode cX4_sort 1 = .ok (.istore_n 1, 1) := by decide +kernel
theorem eX4_sort_2 : decode cX4_sort 2 = .ok (.iload_n 1, 1) := by decide +kernel
theorem eX4_sort_3 : decode cX4_sort 3 = .ok (.aload_n 0, 1) := by decide +kernel
theorem eX4_sort_4 : decode cX4_sort 4 = .ok (.getfield 15, 3) := by decide +kernel
theorem eX4_sort_7 : decode cX4_sort 7 = .ok (.getfield 19, 3) := by decide +kernel
theorem eX4_sort_10 : decode cX4_sort 10 = .ok (.if_icmp .ge 25, 3) := by decide +kernel
theorem eX4_sort_13 : decode cX4_sort 13 = .ok (.aload_n 0, 1) := by decide +kernel
theorem eX4_sort_14 : decode cX4_sort 14 = .ok (.getfield 9, 3) := by decide +kernel
theorem eX4_sort_17 : decode cX4_sort 17 = .ok (.aload_n 0, 1) := by decide +kernel
theorem eX4_sort_18 : decode cX4_sort 18 = .ok (.getfield 15, 3) := by decide +kernel
theorem eX4_sort_21 : decode cX4_sort 21 = .ok (.iload_n 1, 1) := by decide +kernel
theorem eX4_sort_22 : decode cX4_sort 22 = .ok (.invokevirtual 25, 3) := by decide +kernel
theorem eX4_sort_25 : decode cX4_sort 25 = .ok (.iload_n 1, 1) := by decide +kernel
theorem eX4_sort_26 : decode cX4_sort 26 = .ok (.invokestatic 29, 3) := by decide +kernel
theorem eX4_sort_29 : decode cX4_sort 29 = .ok (.iinc 1 1, 3) := by decide +kernel
theorem eX4_sort_32 : decode cX4_sort 32 = .ok (.goto (-30), 3) := by decide +kernel
theorem eX4_sort_35 : decode cX4_sort 35 = .ok (.return_, 1) := by decide +kernel
theorem eX5_init_0 : decode cX5_init 0 = .ok (.aload_n 0, 1) := by decide +kernel
theorem eX5_init_1 : decode cX5_init 1 = .ok (.invokespecial 3, 3) := by decide +kernel
theorem eX5_init_4 : decode cX5_init 4 = .ok (.aload_n 0, 1) := by decide +kernel
theorem eX5_init_5 : decode cX5_init 5 = .ok (.new 9, 3) := by decide +kernel
theorem eX5_init_8 : decode cX5_init 8 = .ok (.dup, 1) := by decide +kernel
theorem eX5_init_9 : decode cX5_init 9 = .ok (.bipush 8, 2) := by decide +kernel
theorem eX5_init_11 : decode cX5_init 11 = .ok (.invokespecial 11, 3) := by decide +kernel
theorem eX5_init_14 : decode cX5_init 14 = .ok (.putfield 14, 3) := by decide +kernel
theorem eX5_init_17 : decode cX5_init 17 = .ok (.aload_n 0, 1) := by decide +kernel
theorem eX5_init_18 : decode cX5_init 18 = .ok (.iconst (-1), 1) := by decide +kernel
theorem eX5_init_19 : decode cX5_init 19 = .ok (.putfield 20, 3) := by decide +kernel
theorem eX5_init_22 : decode cX5_init 22 = .ok (.aload_n 0, 1) := by decide +kernel
theorem eX5_init_23 : decode cX5_init 23 = .ok (.iconst 0, 1) := by decide +kernel
theorem eX5_init_24 : decode cX5_init 24 = .ok (.putfield 24, 3) := by decide +kernel
theorem eX5_init_27 : decode cX5_init 27 = .ok (.aload_n 0, 1) := by decide +kernel
theorem eX5_init_28 : decode cX5_init 28 = .ok (.iconst 0, 1) := by decide +kernel
theorem eX5_init_29 : decode cX5_init 29 = .ok (.putfield 27, 3) := by decide +kernel
theorem eX5_init_32 : decode cX5_init 32 = .ok (.aload_n 0, 1) := by decide +kernel
theorem eX5_init_33 : decode cX5_init 33 = .ok (.iconst 0, 1) := by decide +kernel
theorem eX5_init_34 : decode cX5_init 34 = .ok (.putfield 30, 3) := by decide +kernel
theorem eX5_init_37 : decode cX5_init 37 = .ok (.aload_n 0, 1) := by decide +kernel
theorem eX5_init_38 : decode cX5_init 38 = .ok (.aload_n 1, 1) := by decide +kernel
theorem eX5_init_39 : decode cX5_init 39 = .ok (.putfield 33, 3) := by decide +kernel
theorem eX5_init_42 : decode cX5_init 42 = .ok (.aload_n 0, 1) := by decide +kernel
theorem eX5_init_43 : decode cX5_init 43 = .ok (.aload_n 2, 1) := by decide +kernel
theorem eX5_init_44 : decode cX5_init 44 = .ok (.putfield 37, 3) := by decide +kernel
theorem eX5_init_47 : decode cX5_init 47 = .ok (.aload_n 0, 1) := by decide +kernel
theorem eX5_init_48 : decode cX5_init 48 = .ok (.aload_n 3, 1) := by decide +kernel
theorem eX5_init_49 : decode cX5_init 49 = .ok (.putfield 41, 3) := by decide +kernel
theorem eX5_init_52 : decode cX5_init 52 = .ok (.aload_n 0, 1) := by decide +kernel
theorem eX5_init_53 : decode cX5_init 53 = .ok (.aload 4, 2) := by decide +kernel
theorem eX5_init_55 : decode cX5_init 55 = .ok (.putfield 45, 3) := by decide +kernel
theorem eX5_init_58 : decode cX5_init 58 = .ok (.return_, 1) := by decide +kernel
theorem eX6_init_0 : decode cX6_init 0 = .ok (.aload_n 0, 1) := by decide +kernel
theorem eX6_init_1 : decode cX6_init 1 = .ok (.invokespecial 3, 3) := by decide +kernel
theorem eX6_init_4 : decode cX6_init 4 = .ok (.aload_n 0, 1) := by decide +kernel
theorem eX6_init_5 : decode cX6_init 5 = .ok (.sipush 400, 3) := by decide +kernel
theorem eX6_init_8 : decode cX6_init 8 = .ok (.newarray .int, 2) := by decide +kernel
theorem eX6_init_10 : decode cX6_init 10 = .ok (.putfield 9, 3) := by decide +kernel
theorem eX6_init_13 : decode cX6_init 13 = .ok (.aload_n 0, 1) := by decide +kernel
theorem eX6_init_14 : decode cX6_init 14 = .ok (.iconst 0, 1) := by decide +kernel
theorem eX6_init_15 : decode cX6_init 15 = .ok (.putfield 15, 3) := by decide +kernel
theorem eX6_init_18 : decode cX6_init 18 = .ok (.aload_n 0, 1) := by decide +kernel
theorem eX6_init_19 : decode cX6_init 19 = .ok (.iconst 0, 1) := by decide +kernel
theorem eX6_init_20 : decode cX6_init 20 = .ok (.putfield 19, 3) := by decide +kernel
theorem eX6_init_23 : decode cX6_init 23 = .ok (.aload_n 0, 1) := by decide +kernel
theorem eX6_init_24 : decode cX6_init 24 = .ok (.aload_n 1, 1) := by decide +kernel
theorem eX6_init_25 : decode cX6_init 25 = .ok (.putfield 22, 3) := by decide +kernel
theorem eX6_init_28 : decode cX6_init 28 = .ok (.return_, 1) := by decide +kernel
theorem eX6_choose_0 : decode cX6_choose 0 = .ok (.aload_n 0, 1) := by decide +kernel
theorem eX6_choose_1 : decode cX6_choose 1 = .ok (.invokevirtual 26, 3) := by decide +kernel
theorem eX6_choose_4 : decode cX6_choose 4 = .ok (.bipush 9, 2) := by decide +kernel
theorem eX6_choose_6 : decode cX6_choose 6 = .ok (.istore_n 1, 1) := by decide +kernel
theorem eX6_choose_7 : decode cX6_choose 7 = .ok (.sipush 255, 3) := by decide +kernel
