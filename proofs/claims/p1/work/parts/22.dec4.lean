/-! DECODED, 4: made by wip/engine/gen21.py -/
theorem eL_setLoad_2 : decode cL_setLoad 2 = .ok (.aload_n 0, 1) := by decide +kernel
theorem eL_setLoad_3 : decode cL_setLoad 3 = .ok (.iload_n 1, 1) := by decide +kernel
theorem eL_setLoad_4 : decode cL_setLoad 4 = .ok (.invokevirtual 32, 3) := by decide +kernel
theorem eL_setLoad_12 : decode cL_setLoad 12 = .ok (.astore_n 3, 1) := by decide +kernel
theorem eL_setLoad_7 : decode cL_setLoad 7 = .ok (.i2l, 1) := by decide +kernel
theorem eL_setLoad_8 : decode cL_setLoad 8 = .ok (.lastore, 1) := by decide +kernel
theorem eL_setLoad_9 : decode cL_setLoad 9 = .ok (.goto 6, 3) := by decide +kernel
theorem eL_setLoad_13 : decode cL_setLoad 13 = .ok (.iconst 1, 1) := by decide +kernel
theorem eL_setLoad_14 : decode cL_setLoad 14 = .ok (.ireturn, 1) := by decide +kernel
theorem eL_setLoad_15 : decode cL_setLoad 15 = .ok (.iconst 0, 1) := by decide +kernel
theorem eL_setLoad_16 : decode cL_setLoad 16 = .ok (.ireturn, 1) := by decide +kernel
theorem eL_execute_0 : decode cL_execute 0 = .ok (.aload_n 1, 1) := by decide +kernel
theorem eL_execute_1 : decode cL_execute 1 = .ok (.iconst 0, 1) := by decide +kernel
theorem eL_execute_2 : decode cL_execute 2 = .ok (.aload_n 0, 1) := by decide +kernel
theorem eL_execute_3 : decode cL_execute 3 = .ok (.invokevirtual 35, 3) := by decide +kernel
theorem eL_execute_11 : decode cL_execute 11 = .ok (.astore_n 2, 1) := by decide +kernel
theorem eL_execute_12 : decode cL_execute 12 = .ok (.iconst 1, 1) := by decide +kernel
theorem eL_execute_13 : decode cL_execute 13 = .ok (.ireturn, 1) := by decide +kernel
theorem eL_property_0 : decode cL_property 0 = .ok (.aload_n 3, 1) := by decide +kernel
theorem eL_property_1 : decode cL_property 1 = .ok (.iconst 0, 1) := by decide +kernel
theorem eL_property_2 : decode cL_property 2 = .ok (.aload_n 0, 1) := by decide +kernel
theorem eL_property_3 : decode cL_property 3 = .ok (.iload_n 1, 1) := by decide +kernel
theorem eL_property_4 : decode cL_property 4 = .ok (.iload_n 2, 1) := by decide +kernel
theorem eL_property_5 : decode cL_property 5 = .ok (.invokevirtual 39, 3) := by decide +kernel
theorem eL_property_13 : decode cL_property 13 = .ok (.astore 4, 2) := by decide +kernel
theorem eL_property_15 : decode cL_property 15 = .ok (.iconst 1, 1) := by decide +kernel
theorem eL_property_16 : decode cL_property 16 = .ok (.ireturn, 1) := by decide +kernel
theorem eL_character_0 : decode cL_character 0 = .ok (.aload_n 3, 1) := by decide +kernel
theorem eL_character_1 : decode cL_character 1 = .ok (.iconst 0, 1) := by decide +kernel
theorem eL_character_2 : decode cL_character 2 = .ok (.aload_n 0, 1) := by decide +kernel
theorem eL_character_3 : decode cL_character 3 = .ok (.iload_n 1, 1) := by decide +kernel
theorem eL_character_4 : decode cL_character 4 = .ok (.iload_n 2, 1) := by decide +kernel
theorem eL_character_5 : decode cL_character 5 = .ok (.invokevirtual 42, 3) := by decide +kernel
theorem eL_character_13 : decode cL_character 13 = .ok (.astore 4, 2) := by decide +kernel
theorem eL_character_15 : decode cL_character 15 = .ok (.iconst 1, 1) := by decide +kernel
theorem eL_character_16 : decode cL_character 16 = .ok (.ireturn, 1) := by decide +kernel
theorem eL_difference_0 : decode cL_difference 0 = .ok (.aload_n 3, 1) := by decide +kernel
theorem eL_difference_1 : decode cL_difference 1 = .ok (.iconst 0, 1) := by decide +kernel
theorem eL_difference_2 : decode cL_difference 2 = .ok (.aload_n 0, 1) := by decide +kernel
theorem eL_difference_3 : decode cL_difference 3 = .ok (.iload_n 1, 1) := by decide +kernel
theorem eL_difference_4 : decode cL_difference 4 = .ok (.iload_n 2, 1) := by decide +kernel
theorem eL_difference_5 : decode cL_difference 5 = .ok (.invokevirtual 45, 3) := by decide +kernel
theorem eL_difference_13 : decode cL_difference 13 = .ok (.astore 4, 2) := by decide +kernel
theorem eL_difference_15 : decode cL_difference 15 = .ok (.iconst 1, 1) := by decide +kernel
theorem eL_difference_16 : decode cL_difference 16 = .ok (.ireturn, 1) := by decide +kernel
theorem eL_size_0 : decode cL_size 0 = .ok (.aload_n 2, 1) := by decide +kernel
theorem eL_size_1 : decode cL_size 1 = .ok (.iconst 0, 1) := by decide +kernel
theorem eL_size_2 : decode cL_size 2 = .ok (.aload_n 0, 1) := by decide +kernel
theorem eL_size_3 : decode cL_size 3 = .ok (.iload_n 1, 1) := by decide +kernel
theorem eL_size_4 : decode cL_size 4 = .ok (.invokevirtual 48, 3) := by decide +kernel
theorem eL_size_12 : decode cL_size 12 = .ok (.astore_n 3, 1) := by decide +kernel
theorem eL_size_7 : decode cL_size 7 = .ok (.i2l, 1) := by decide +kernel
theorem eL_size_8 : decode cL_size 8 = .ok (.lastore, 1) := by decide +kernel
theorem eL_size_9 : decode cL_size 9 = .ok (.goto 6, 3) := by decide +kernel
theorem eL_size_13 : decode cL_size 13 = .ok (.iconst 1, 1) := by decide +kernel
theorem eL_size_14 : decode cL_size 14 = .ok (.ireturn, 1) := by decide +kernel
theorem eL_size_15 : decode cL_size 15 = .ok (.iconst 0, 1) := by decide +kernel
theorem eL_size_16 : decode cL_size 16 = .ok (.ireturn, 1) := by decide +kernel
theorem eL_find_0 : decode cL_find 0 = .ok (.aload_n 2, 1) := by decide +kernel
theorem eL_find_1 : decode cL_find 1 = .ok (.iconst 0, 1) := by decide +kernel
theorem eL_find_2 : decode cL_find 2 = .ok (.aload_n 0, 1) := by decide +kernel
theorem eL_find_3 : decode cL_find 3 = .ok (.iload_n 1, 1) := by decide +kernel
theorem eL_find_4 : decode cL_find 4 = .ok (.invokevirtual 51, 3) := by decide +kernel
theorem eL_find_12 : decode cL_find 12 = .ok (.astore_n 3, 1) := by decide +kernel
theorem eL_find_7 : decode cL_find 7 = .ok (.i2l, 1) := by decide +kernel
theorem eL_find_8 : decode cL_find 8 = .ok (.lastore, 1) := by decide +kernel
theorem eL_find_9 : decode cL_find 9 = .ok (.goto 9, 3) := by decide +kernel
theorem eL_find_13 : decode cL_find 13 = .ok (.iconst 1, 1) := by decide +kernel
theorem eL_find_14 : decode cL_find 14 = .ok (.ireturn, 1) := by decide +kernel
theorem eL_find_18 : decode cL_find 18 = .ok (.iconst 0, 1) := by decide +kernel
theorem eL_find_19 : decode cL_find 19 = .ok (.ireturn, 1) := by decide +kernel
theorem eL_branch_0 : decode cL_branch 0 = .ok (.aload_n 2, 1) := by decide +kernel
theorem eL_branch_1 : decode cL_branch 1 = .ok (.iconst 0, 1) := by decide +kernel
theorem eL_branch_2 : decode cL_branch 2 = .ok (.aload_n 0, 1) := by decide +kernel
theorem eL_branch_3 : decode cL_branch 3 = .ok (.iload_n 1, 1) := by decide +kernel
theorem eL_branch_4 : decode cL_branch 4 = .ok (.invokevirtual 54, 3) := by decide +kernel
theorem eL_branch_12 : decode cL_branch 12 = .ok (.astore_n 3, 1) := by decide +kernel
theorem eL_branch_7 : decode cL_branch 7 = .ok (.i2l, 1) := by decide +kernel
theorem eL_branch_8 : decode cL_branch 8 = .ok (.lastore, 1) := by decide +kernel
theorem eL_branch_9 : decode cL_branch 9 = .ok (.goto 9, 3) := by decide +kernel
theorem eL_branch_13 : decode cL_branch 13 = .ok (.iconst 1, 1) := by decide +kernel
theorem eL_branch_14 : decode cL_branch 14 = .ok (.ireturn, 1) := by decide +kernel
theorem eL_branch_18 : decode cL_branch 18 = .ok (.iconst 0, 1) := by decide +kernel
theorem eL_branch_19 : decode cL_branch 19 = .ok (.ireturn, 1) := by decide +kernel
theorem eL_examined_0 : decode cL_examined 0 = .ok (.aload_n 2, 1) := by decide +kernel
theorem eL_examined_1 : decode cL_examined 1 = .ok (.iconst 0, 1) := by decide +kernel
theorem eL_examined_2 : decode cL_examined 2 = .ok (.aload_n 0, 1) := by decide +kernel
theorem eL_examined_3 : decode cL_examined 3 = .ok (.iload_n 1, 1) := by decide +kernel
theorem eL_examined_4 : decode cL_examined 4 = .ok (.invokevirtual 57, 3) := by decide +kernel
theorem eL_examined_12 : decode cL_examined 12 = .ok (.astore_n 3, 1) := by decide +kernel
theorem eL_examined_7 : decode cL_examined 7 = .ok (.i2l, 1) := by decide +kernel
theorem eL_examined_8 : decode cL_examined 8 = .ok (.lastore, 1) := by decide +kernel
theorem eL_examined_9 : decode cL_examined 9 = .ok (.goto 9, 3) := by decide +kernel
theorem eL_examined_13 : decode cL_examined 13 = .ok (.iconst 1, 1) := by decide +kernel
theorem eL_examined_14 : decode cL_examined 14 = .ok (.ireturn, 1) := by decide +kernel
theorem eL_examined_18 : decode cL_examined 18 = .ok (.iconst 0, 1) := by decide +kernel
theorem eL_examined_19 : decode cL_examined 19 = .ok (.ireturn, 1) := by decide +kernel
theorem eL_cost_0 : decode cL_cost 0 = .ok (.aload_n 2, 1) := by decide +kernel
theorem eL_cost_1 : decode cL_cost 1 = .ok (.iconst 0, 1) := by decide +kernel
theorem eL_cost_2 : decode cL_cost 2 = .ok (.aload_n 0, 1) := by decide +kernel
theorem eL_cost_3 : decode cL_cost 3 = .ok (.iload_n 1, 1) := by decide +kernel
theorem eL_cost_4 : decode cL_cost 4 = .ok (.invokevirtual 60, 3) := by decide +kernel
theorem eL_cost_12 : decode cL_cost 12 = .ok (.astore_n 3, 1) := by decide +kernel
theorem eL_cost_7 : decode cL_cost 7 = .ok (.i2l, 1) := by decide +kernel
theorem eL_cost_8 : decode cL_cost 8 = .ok (.lastore, 1) := by decide +kernel
theorem eL_cost_9 : decode cL_cost 9 = .ok (.goto 9, 3) := by decide +kernel
theorem eL_cost_13 : decode cL_cost 13 = .ok (.iconst 1, 1) := by decide +kernel
theorem eL_cost_14 : decode cL_cost 14 = .ok (.ireturn, 1) := by decide +kernel
theorem eL_cost_18 : decode cL_cost 18 = .ok (.iconst 0, 1) := by decide +kernel
theorem eL_cost_19 : decode cL_cost 19 = .ok (.ireturn, 1) := by decide +kernel
theorem eL_worst_0 : decode cL_worst 0 = .ok (.aload_n 2, 1) := by decide +kernel
theorem eL_worst_1 : decode cL_worst 1 = .ok (.iconst 0, 1) := by decide +kernel
theorem eL_worst_2 : decode cL_worst 2 = .ok (.aload_n 0, 1) := by decide +kernel
theorem eL_worst_3 : decode cL_worst 3 = .ok (.iload_n 1, 1) := by decide +kernel
theorem eL_worst_4 : decode cL_worst 4 = .ok (.invokevirtual 63, 3) := by decide +kernel
theorem eL_worst_12 : decode cL_worst 12 = .ok (.astore_n 3, 1) := by decide +kernel
theorem eL_worst_7 : decode cL_worst 7 = .ok (.i2l, 1) := by decide +kernel
theorem eL_worst_8 : decode cL_worst 8 = .ok (.lastore, 1) := by decide +kernel
theorem eL_worst_9 : decode cL_worst 9 = .ok (.goto 9, 3) := by decide +kernel
theorem eL_worst_13 : decode cL_worst 13 = .ok (.iconst 1, 1) := by decide +kernel
theorem eL_worst_14 : decode cL_worst 14 = .ok (.ireturn, 1) := by decide +kernel
theorem eL_worst_18 : decode cL_worst 18 = .ok (.iconst 0, 1) := by decide +kernel
theorem eL_worst_19 : decode cL_worst 19 = .ok (.ireturn, 1) := by decide +kernel
theorem eL_meanBits_0 : decode cL_meanBits 0 = .ok (.aload_n 2, 1) := by decide +kernel
theorem eL_meanBits_1 : decode cL_meanBits 1 = .ok (.iconst 0, 1) := by decide +kernel
theorem eL_meanBits_2 : decode cL_meanBits 2 = .ok (.aload_n 0, 1) := by decide +kernel
theorem eL_meanBits_3 : decode cL_meanBits 3 = .ok (.iload_n 1, 1) := by decide +kernel
theorem eL_meanBits_4 : decode cL_meanBits 4 = .ok (.invokevirtual 66, 3) := by decide +kernel
theorem eL_meanBits_11 : decode cL_meanBits 11 = .ok (.astore_n 3, 1) := by decide +kernel
theorem eL_meanBits_17 : decode cL_meanBits 17 = .ok (.astore_n 3, 1) := by decide +kernel
theorem eL_meanBits_12 : decode cL_meanBits 12 = .ok (.iconst 1, 1) := by decide +kernel
theorem eL_meanBits_13 : decode cL_meanBits 13 = .ok (.ireturn, 1) := by decide +kernel
theorem eL_meanBits_18 : decode cL_meanBits 18 = .ok (.iconst 3, 1) := by decide +kernel
theorem eL_meanBits_19 : decode cL_meanBits 19 = .ok (.ireturn, 1) := by decide +kernel
theorem eL_trees_0 : decode cL_trees 0 = .ok (.aload_n 2, 1) := by decide +kernel
theorem eL_trees_1 : decode cL_trees 1 = .ok (.iconst 0, 1) := by decide +kernel
theorem eL_trees_2 : decode cL_trees 2 = .ok (.aload_n 0, 1) := by decide +kernel
theorem eL_trees_3 : decode cL_trees 3 = .ok (.iload_n 1, 1) := by decide +kernel
theorem eL_trees_4 : decode cL_trees 4 = .ok (.invokevirtual 72, 3) := by decide +kernel
theorem eL_trees_12 : decode cL_trees 12 = .ok (.astore_n 3, 1) := by decide +kernel
theorem eL_trees_7 : decode cL_trees 7 = .ok (.i2l, 1) := by decide +kernel
theorem eL_trees_8 : decode cL_trees 8 = .ok (.lastore, 1) := by decide +kernel
theorem eL_trees_9 : decode cL_trees 9 = .ok (.goto 6, 3) := by decide +kernel
theorem eL_trees_13 : decode cL_trees 13 = .ok (.iconst 1, 1) := by decide +kernel
theorem eL_trees_14 : decode cL_trees 14 = .ok (.ireturn, 1) := by decide +kernel
theorem eL_trees_15 : decode cL_trees 15 = .ok (.iconst 0, 1) := by decide +kernel
theorem eL_trees_16 : decode cL_trees 16 = .ok (.ireturn, 1) := by decide +kernel
theorem eL_table_0 : decode cL_table 0 = .ok (.aload_n 2, 1) := by decide +kernel
theorem eL_table_1 : decode cL_table 1 = .ok (.iconst 0, 1) := by decide +kernel
theorem eL_table_2 : decode cL_table 2 = .ok (.aload_n 0, 1) := by decide +kernel
theorem eL_table_3 : decode cL_table 3 = .ok (.iload_n 1, 1) := by decide +kernel
theorem eL_table_4 : decode cL_table 4 = .ok (.invokevirtual 75, 3) := by decide +kernel
theorem eL_table_12 : decode cL_table 12 = .ok (.astore_n 3, 1) := by decide +kernel
theorem eL_table_15 : decode cL_table 15 = .ok (.astore_n 3, 1) := by decide +kernel
theorem eL_table_13 : decode cL_table 13 = .ok (.iconst 1, 1) := by decide +kernel
theorem eL_table_14 : decode cL_table 14 = .ok (.ireturn, 1) := by decide +kernel
theorem eL_table_16 : decode cL_table 16 = .ok (.iconst 2, 1) := by decide +kernel
theorem eL_table_17 : decode cL_table 17 = .ok (.ireturn, 1) := by decide +kernel
theorem eL_slot_0 : decode cL_slot 0 = .ok (.aload_n 2, 1) := by decide +kernel
theorem eL_slot_1 : decode cL_slot 1 = .ok (.iconst 0, 1) := by decide +kernel
theorem eL_slot_2 : decode cL_slot 2 = .ok (.aload_n 0, 1) := by decide +kernel
theorem eL_slot_3 : decode cL_slot 3 = .ok (.iload_n 1, 1) := by decide +kernel
theorem eL_slot_4 : decode cL_slot 4 = .ok (.invokevirtual 78, 3) := by decide +kernel
theorem eL_slot_12 : decode cL_slot 12 = .ok (.astore_n 3, 1) := by decide +kernel
theorem eL_slot_13 : decode cL_slot 13 = .ok (.iconst 1, 1) := by decide +kernel
theorem eL_slot_14 : decode cL_slot 14 = .ok (.ireturn, 1) := by decide +kernel
theorem eL_displacement_0 : decode cL_displacement 0 = .ok (.aload_n 2, 1) := by decide +kernel
theorem eL_displacement_1 : decode cL_displacement 1 = .ok (.iconst 0, 1) := by decide +kernel
theorem eL_displacement_2 : decode cL_displacement 2 = .ok (.aload_n 0, 1) := by decide +kernel
theorem eL_displacement_3 : decode cL_displacement 3 = .ok (.iload_n 1, 1) := by decide +kernel
theorem eL_displacement_4 : decode cL_displacement 4 = .ok (.invokevirtual 81, 3) := by decide +kernel
theorem eL_displacement_12 : decode cL_displacement 12 = .ok (.astore_n 3, 1) := by decide +kernel
theorem eL_displacement_13 : decode cL_displacement 13 = .ok (.iconst 1, 1) := by decide +kernel
theorem eL_displacement_14 : decode cL_displacement 14 = .ok (.ireturn, 1) := by decide +kernel
theorem eL_densityBits_0 : decode cL_densityBits 0 = .ok (.aload_n 1, 1) := by decide +kernel
theorem eL_densityBits_1 : decode cL_densityBits 1 = .ok (.iconst 0, 1) := by decide +kernel
theorem eL_densityBits_2 : decode cL_densityBits 2 = .ok (.aload_n 0, 1) := by decide +kernel
theorem eL_densityBits_3 : decode cL_densityBits 3 = .ok (.invokevirtual 84, 3) := by decide +kernel
theorem eL_densityBits_11 : decode cL_densityBits 11 = .ok (.astore_n 2, 1) := by decide +kernel
theorem eL_densityBits_12 : decode cL_densityBits 12 = .ok (.iconst 1, 1) := by decide +kernel
theorem eL_densityBits_13 : decode cL_densityBits 13 = .ok (.ireturn, 1) := by decide +kernel
theorem eL_listing_0 : decode cL_listing 0 = .ok (.aload_n 3, 1) := by decide +kernel
theorem eL_listing_1 : decode cL_listing 1 = .ok (.iconst 0, 1) := by decide +kernel
theorem eL_listing_2 : decode cL_listing 2 = .ok (.aload_n 0, 1) := by decide +kernel
theorem eL_listing_3 : decode cL_listing 3 = .ok (.iload_n 1, 1) := by decide +kernel
theorem eL_listing_4 : decode cL_listing 4 = .ok (.iload_n 2, 1) := by decide +kernel
theorem eL_listing_5 : decode cL_listing 5 = .ok (.invokevirtual 87, 3) := by decide +kernel
theorem eL_listing_13 : decode cL_listing 13 = .ok (.astore 4, 2) := by decide +kernel
theorem eL_listing_17 : decode cL_listing 17 = .ok (.astore 4, 2) := by decide +kernel
theorem eL_listing_21 : decode cL_listing 21 = .ok (.astore 4, 2) := by decide +kernel
theorem eL_listing_8 : decode cL_listing 8 = .ok (.i2l, 1) := by decide +kernel
theorem eL_listing_9 : decode cL_listing 9 = .ok (.lastore, 1) := by decide +kernel
theorem eL_listing_10 : decode cL_listing 10 = .ok (.goto 15, 3) := by decide +kernel
theorem eL_listing_15 : decode cL_listing 15 = .ok (.iconst 1, 1) := by decide +kernel
theorem eL_listing_16 : decode cL_listing 16 = .ok (.ireturn, 1) := by decide +kernel
theorem eL_listing_19 : decode cL_listing 19 = .ok (.iconst 2, 1) := by decide +kernel
theorem eL_listing_20 : decode cL_listing 20 = .ok (.ireturn, 1) := by decide +kernel
theorem eL_listing_23 : decode cL_listing 23 = .ok (.iconst 3, 1) := by decide +kernel
theorem eL_listing_24 : decode cL_listing 24 = .ok (.ireturn, 1) := by decide +kernel
theorem eL_listing_25 : decode cL_listing 25 = .ok (.iconst 0, 1) := by decide +kernel
theorem eL_listing_26 : decode cL_listing 26 = .ok (.ireturn, 1) := by decide +kernel
theorem eL_restore_0 : decode cL_restore 0 = .ok (.aload_n 1, 1) := by decide +kernel
theorem eL_restore_1 : decode cL_restore 1 = .ok (.iconst 0, 1) := by decide +kernel
theorem eL_restore_2 : decode cL_restore 2 = .ok (.aload_n 0, 1) := by decide +kernel
theorem eL_restore_3 : decode cL_restore 3 = .ok (.invokevirtual 90, 3) := by decide +kernel
theorem eL_restore_11 : decode cL_restore 11 = .ok (.astore_n 2, 1) := by decide +kernel
theorem eL_restore_12 : decode cL_restore 12 = .ok (.iconst 1, 1) := by decide +kernel
theorem eL_restore_13 : decode cL_restore 13 = .ok (.ireturn, 1) := by decide +kernel
theorem eL_law_0 : decode cL_law 0 = .ok (.new 8, 3) := by decide +kernel
theorem eL_law_3 : decode cL_law 3 = .ok (.dup, 1) := by decide +kernel
theorem eL_law_4 : decode cL_law 4 = .ok (.invokespecial 93, 3) := by decide +kernel
theorem eL_law_7 : decode cL_law 7 = .ok (.astore_n 1, 1) := by decide +kernel
theorem eL_law_8 : decode cL_law 8 = .ok (.new 94, 3) := by decide +kernel
theorem eL_law_11 : decode cL_law 11 = .ok (.dup, 1) := by decide +kernel
theorem eL_law_12 : decode cL_law 12 = .ok (.invokespecial 96, 3) := by decide +kernel
theorem eL_law_15 : decode cL_law 15 = .ok (.astore_n 2, 1) := by decide +kernel
theorem eL_law_16 : decode cL_law 16 = .ok (.iconst 1, 1) := by decide +kernel
theorem eL_law_17 : decode cL_law 17 = .ok (.newarray .long, 2) := by decide +kernel
theorem eL_law_19 : decode cL_law 19 = .ok (.astore_n 3, 1) := by decide +kernel
theorem eL_law_20 : decode cL_law 20 = .ok (.iconst 0, 1) := by decide +kernel
theorem eL_law_21 : decode cL_law 21 = .ok (.istore 4, 2) := by decide +kernel
theorem eL_law_23 : decode cL_law 23 = .ok (.iload 4, 2) := by decide +kernel
theorem eL_law_25 : decode cL_law 25 = .ok (.aload_n 0, 1) := by decide +kernel
theorem eL_law_26 : decode cL_law 26 = .ok (.arraylength, 1) := by decide +kernel
theorem eL_law_27 : decode cL_law 27 = .ok (.iconst 3, 1) := by decide +kernel
theorem eL_law_28 : decode cL_law 28 = .ok (.isub, 1) := by decide +kernel
theorem eL_law_29 : decode cL_law 29 = .ok (.if_icmp .gt 1618, 3) := by decide +kernel
theorem eL_law_32 : decode cL_law 32 = .ok (.aload_n 0, 1) := by decide +kernel
theorem eL_law_33 : decode cL_law 33 = .ok (.iload 4, 2) := by decide +kernel
theorem eL_law_35 : decode cL_law 35 = .ok (.iaload, 1) := by decide +kernel
theorem eL_law_36 : decode cL_law 36 = .ok (.bipush 31, 2) := by decide +kernel
theorem eL_law_38 : decode cL_law 38 = .ok (.iand, 1) := by decide +kernel
theorem eL_law_39 : decode cL_law 39 = .ok (.tableswitch 1602 0 29 #[133, 189, 202, 258, 314, 382, 450, 506, 550, 563, 631, 699, 767, 823, 879, 935, 991, 1047, 1103, 1158, 1171, 1227, 1240, 1265, 1321, 1377, 1433, 1477, 1545, 1558], 133) := by decide +kernel
theorem eL_law_172 : decode cL_law 172 = .ok (.aload_n 1, 1) := by decide +kernel
theorem eL_law_173 : decode cL_law 173 = .ok (.aload_n 0, 1) := by decide +kernel
theorem eL_law_174 : decode cL_law 174 = .ok (.iload 4, 2) := by decide +kernel
theorem eL_law_176 : decode cL_law 176 = .ok (.iconst 1, 1) := by decide +kernel
theorem eL_law_177 : decode cL_law 177 = .ok (.iadd, 1) := by decide +kernel
theorem eL_law_178 : decode cL_law 178 = .ok (.iaload, 1) := by decide +kernel
theorem eL_law_179 : decode cL_law 179 = .ok (.aload_n 3, 1) := by decide +kernel
theorem eL_law_180 : decode cL_law 180 = .ok (.invokestatic 97, 3) := by decide +kernel
theorem eL_law_183 : decode cL_law 183 = .ok (.istore 5, 2) := by decide +kernel
theorem eL_law_185 : decode cL_law 185 = .ok (.aload_n 2, 1) := by decide +kernel
theorem eL_law_186 : decode cL_law 186 = .ok (.aload_n 0, 1) := by decide +kernel
theorem eL_law_187 : decode cL_law 187 = .ok (.iload 4, 2) := by decide +kernel
theorem eL_law_189 : decode cL_law 189 = .ok (.iconst 1, 1) := by decide +kernel
theorem eL_law_190 : decode cL_law 190 = .ok (.iadd, 1) := by decide +kernel
theorem eL_law_191 : decode cL_law 191 = .ok (.iaload, 1) := by decide +kernel
theorem eL_law_192 : decode cL_law 192 = .ok (.invokevirtual 102, 3) := by decide +kernel
theorem eL_law_195 : decode cL_law 195 = .ok (.istore 6, 2) := by decide +kernel
theorem eL_law_197 : decode cL_law 197 = .ok (.aload_n 2, 1) := by decide +kernel
theorem eL_law_198 : decode cL_law 198 = .ok (.invokevirtual 103, 3) := by decide +kernel
theorem eL_law_201 : decode cL_law 201 = .ok (.iload 5, 2) := by decide +kernel
theorem eL_law_203 : decode cL_law 203 = .ok (.if_icmp .eq 5, 3) := by decide +kernel
theorem eL_law_208 : decode cL_law 208 = .ok (.iload 5, 2) := by decide +kernel
theorem eL_law_210 : decode cL_law 210 = .ok (.ifCond .ne 15, 3) := by decide +kernel
theorem eL_law_213 : decode cL_law 213 = .ok (.aload_n 3, 1) := by decide +kernel
theorem eL_law_214 : decode cL_law 214 = .ok (.iconst 0, 1) := by decide +kernel
theorem eL_law_215 : decode cL_law 215 = .ok (.laload, 1) := by decide +kernel
theorem eL_law_216 : decode cL_law 216 = .ok (.iload 6, 2) := by decide +kernel
theorem eL_law_218 : decode cL_law 218 = .ok (.i2l, 1) := by decide +kernel
theorem eL_law_219 : decode cL_law 219 = .ok (.lcmp, 1) := by decide +kernel
theorem eL_law_220 : decode cL_law 220 = .ok (.ifCond .eq 5, 3) := by decide +kernel
theorem eL_law_225 : decode cL_law 225 = .ok (.goto 1416, 3) := by decide +kernel
theorem eL_law_228 : decode cL_law 228 = .ok (.aload_n 1, 1) := by decide +kernel
theorem eL_law_229 : decode cL_law 229 = .ok (.invokevirtual 106, 3) := by decide +kernel
theorem eL_law_232 : decode cL_law 232 = .ok (.aload_n 2, 1) := by decide +kernel
theorem eL_law_233 : decode cL_law 233 = .ok (.invokevirtual 109, 3) := by decide +kernel
theorem eL_law_236 : decode cL_law 236 = .ok (.if_icmp .eq 1405, 3) := by decide +kernel
theorem eL_law_241 : decode cL_law 241 = .ok (.aload_n 1, 1) := by decide +kernel
theorem eL_law_242 : decode cL_law 242 = .ok (.aload_n 0, 1) := by decide +kernel
theorem eL_law_243 : decode cL_law 243 = .ok (.iload 4, 2) := by decide +kernel
theorem eL_law_245 : decode cL_law 245 = .ok (.iconst 1, 1) := by decide +kernel
theorem eL_law_246 : decode cL_law 246 = .ok (.iadd, 1) := by decide +kernel
theorem eL_law_247 : decode cL_law 247 = .ok (.iaload, 1) := by decide +kernel
theorem eL_law_248 : decode cL_law 248 = .ok (.aload_n 3, 1) := by decide +kernel
theorem eL_law_249 : decode cL_law 249 = .ok (.invokestatic 110, 3) := by decide +kernel
theorem eL_law_252 : decode cL_law 252 = .ok (.istore 5, 2) := by decide +kernel
theorem eL_law_254 : decode cL_law 254 = .ok (.aload_n 2, 1) := by decide +kernel
theorem eL_law_255 : decode cL_law 255 = .ok (.aload_n 0, 1) := by decide +kernel
theorem eL_law_256 : decode cL_law 256 = .ok (.iload 4, 2) := by decide +kernel
theorem eL_law_258 : decode cL_law 258 = .ok (.iconst 1, 1) := by decide +kernel
theorem eL_law_259 : decode cL_law 259 = .ok (.iadd, 1) := by decide +kernel
theorem eL_law_260 : decode cL_law 260 = .ok (.iaload, 1) := by decide +kernel
theorem eL_law_261 : decode cL_law 261 = .ok (.invokevirtual 112, 3) := by decide +kernel
theorem eL_law_264 : decode cL_law 264 = .ok (.istore 6, 2) := by decide +kernel
theorem eL_law_266 : decode cL_law 266 = .ok (.aload_n 2, 1) := by decide +kernel
theorem eL_law_267 : decode cL_law 267 = .ok (.invokevirtual 103, 3) := by decide +kernel
theorem eL_law_270 : decode cL_law 270 = .ok (.iload 5, 2) := by decide +kernel
theorem eL_law_272 : decode cL_law 272 = .ok (.if_icmp .eq 5, 3) := by decide +kernel
theorem eL_law_277 : decode cL_law 277 = .ok (.iload 5, 2) := by decide +kernel
theorem eL_law_279 : decode cL_law 279 = .ok (.ifCond .ne 15, 3) := by decide +kernel
theorem eL_law_294 : decode cL_law 294 = .ok (.goto 1347, 3) := by decide +kernel
theorem eL_law_297 : decode cL_law 297 = .ok (.aload_n 1, 1) := by decide +kernel
theorem eL_law_298 : decode cL_law 298 = .ok (.aload_n 0, 1) := by decide +kernel
theorem eL_law_299 : decode cL_law 299 = .ok (.iload 4, 2) := by decide +kernel
theorem eL_law_301 : decode cL_law 301 = .ok (.iconst 1, 1) := by decide +kernel
theorem eL_law_302 : decode cL_law 302 = .ok (.iadd, 1) := by decide +kernel
theorem eL_law_303 : decode cL_law 303 = .ok (.iaload, 1) := by decide +kernel
theorem eL_law_304 : decode cL_law 304 = .ok (.aload_n 3, 1) := by decide +kernel
theorem eL_law_305 : decode cL_law 305 = .ok (.invokestatic 113, 3) := by decide +kernel
theorem eL_law_308 : decode cL_law 308 = .ok (.istore 5, 2) := by decide +kernel
theorem eL_law_310 : decode cL_law 310 = .ok (.aload_n 2, 1) := by decide +kernel
theorem eL_law_311 : decode cL_law 311 = .ok (.aload_n 0, 1) := by decide +kernel
theorem eL_law_312 : decode cL_law 312 = .ok (.iload 4, 2) := by decide +kernel
theorem eL_law_314 : decode cL_law 314 = .ok (.iconst 1, 1) := by decide +kernel
theorem eL_law_315 : decode cL_law 315 = .ok (.iadd, 1) := by decide +kernel
theorem eL_law_316 : decode cL_law 316 = .ok (.iaload, 1) := by decide +kernel
theorem eL_law_317 : decode cL_law 317 = .ok (.invokevirtual 115, 3) := by decide +kernel
theorem eL_law_320 : decode cL_law 320 = .ok (.istore 6, 2) := by decide +kernel
theorem eL_law_322 : decode cL_law 322 = .ok (.aload_n 2, 1) := by decide +kernel
theorem eL_law_323 : decode cL_law 323 = .ok (.invokevirtual 103, 3) := by decide +kernel
theorem eL_law_326 : decode cL_law 326 = .ok (.iload 5, 2) := by decide +kernel
theorem eL_law_328 : decode cL_law 328 = .ok (.if_icmp .eq 5, 3) := by decide +kernel
theorem eL_law_333 : decode cL_law 333 = .ok (.iload 5, 2) := by decide +kernel
theorem eL_law_335 : decode cL_law 335 = .ok (.ifCond .ne 15, 3) := by decide +kernel
theorem eL_law_350 : decode cL_law 350 = .ok (.goto 1291, 3) := by decide +kernel
theorem eL_law_353 : decode cL_law 353 = .ok (.aload_n 1, 1) := by decide +kernel
theorem eL_law_354 : decode cL_law 354 = .ok (.aload_n 0, 1) := by decide +kernel
theorem eL_law_355 : decode cL_law 355 = .ok (.iload 4, 2) := by decide +kernel
theorem eL_law_357 : decode cL_law 357 = .ok (.iconst 1, 1) := by decide +kernel
theorem eL_law_358 : decode cL_law 358 = .ok (.iadd, 1) := by decide +kernel
theorem eL_law_359 : decode cL_law 359 = .ok (.iaload, 1) := by decide +kernel
theorem eL_law_360 : decode cL_law 360 = .ok (.aload_n 0, 1) := by decide +kernel
theorem eL_law_361 : decode cL_law 361 = .ok (.iload 4, 2) := by decide +kernel
theorem eL_law_363 : decode cL_law 363 = .ok (.iconst 2, 1) := by decide +kernel
theorem eL_law_364 : decode cL_law 364 = .ok (.iadd, 1) := by decide +kernel
theorem eL_law_365 : decode cL_law 365 = .ok (.iaload, 1) := by decide +kernel
theorem eL_law_366 : decode cL_law 366 = .ok (.aload_n 3, 1) := by decide +kernel
theorem eL_law_367 : decode cL_law 367 = .ok (.invokestatic 116, 3) := by decide +kernel
theorem eL_law_370 : decode cL_law 370 = .ok (.istore 5, 2) := by decide +kernel
theorem eL_law_372 : decode cL_law 372 = .ok (.aload_n 2, 1) := by decide +kernel
theorem eL_law_373 : decode cL_law 373 = .ok (.aload_n 0, 1) := by decide +kernel
theorem eL_law_374 : decode cL_law 374 = .ok (.iload 4, 2) := by decide +kernel
theorem eL_law_376 : decode cL_law 376 = .ok (.iconst 1, 1) := by decide +kernel
theorem eL_law_377 : decode cL_law 377 = .ok (.iadd, 1) := by decide +kernel
theorem eL_law_378 : decode cL_law 378 = .ok (.iaload, 1) := by decide +kernel
theorem eL_law_379 : decode cL_law 379 = .ok (.aload_n 0, 1) := by decide +kernel
theorem eL_law_380 : decode cL_law 380 = .ok (.iload 4, 2) := by decide +kernel
theorem eL_law_382 : decode cL_law 382 = .ok (.iconst 2, 1) := by decide +kernel
theorem eL_law_383 : decode cL_law 383 = .ok (.iadd, 1) := by decide +kernel
theorem eL_law_384 : decode cL_law 384 = .ok (.iaload, 1) := by decide +kernel
theorem eL_law_385 : decode cL_law 385 = .ok (.invokevirtual 119, 3) := by decide +kernel
theorem eL_law_388 : decode cL_law 388 = .ok (.istore 6, 2) := by decide +kernel
theorem eL_law_390 : decode cL_law 390 = .ok (.aload_n 2, 1) := by decide +kernel
theorem eL_law_391 : decode cL_law 391 = .ok (.invokevirtual 103, 3) := by decide +kernel
theorem eL_law_394 : decode cL_law 394 = .ok (.iload 5, 2) := by decide +kernel
theorem eL_law_396 : decode cL_law 396 = .ok (.if_icmp .eq 5, 3) := by decide +kernel
theorem eL_law_401 : decode cL_law 401 = .ok (.iload 5, 2) := by decide +kernel
theorem eL_law_403 : decode cL_law 403 = .ok (.ifCond .ne 15, 3) := by decide +kernel
theorem eL_law_418 : decode cL_law 418 = .ok (.goto 1223, 3) := by decide +kernel
theorem eL_law_421 : decode cL_law 421 = .ok (.aload_n 1, 1) := by decide +kernel
theorem eL_law_422 : decode cL_law 422 = .ok (.aload_n 0, 1) := by decide +kernel
theorem eL_law_423 : decode cL_law 423 = .ok (.iload 4, 2) := by decide +kernel
theorem eL_law_425 : decode cL_law 425 = .ok (.iconst 1, 1) := by decide +kernel
theorem eL_law_426 : decode cL_law 426 = .ok (.iadd, 1) := by decide +kernel
theorem eL_law_427 : decode cL_law 427 = .ok (.iaload, 1) := by decide +kernel
theorem eL_law_428 : decode cL_law 428 = .ok (.aload_n 0, 1) := by decide +kernel
theorem eL_law_429 : decode cL_law 429 = .ok (.iload 4, 2) := by decide +kernel
theorem eL_law_431 : decode cL_law 431 = .ok (.iconst 2, 1) := by decide +kernel
theorem eL_law_432 : decode cL_law 432 = .ok (.iadd, 1) := by decide +kernel
theorem eL_law_433 : decode cL_law 433 = .ok (.iaload, 1) := by decide +kernel
theorem eL_law_434 : decode cL_law 434 = .ok (.aload_n 3, 1) := by decide +kernel
theorem eL_law_435 : decode cL_law 435 = .ok (.invokestatic 120, 3) := by decide +kernel
theorem eL_law_438 : decode cL_law 438 = .ok (.istore 5, 2) := by decide +kernel
theorem eL_law_440 : decode cL_law 440 = .ok (.aload_n 2, 1) := by decide +kernel
theorem eL_law_441 : decode cL_law 441 = .ok (.aload_n 0, 1) := by decide +kernel
theorem eL_law_442 : decode cL_law 442 = .ok (.iload 4, 2) := by decide +kernel
theorem eL_law_444 : decode cL_law 444 = .ok (.iconst 1, 1) := by decide +kernel
theorem eL_law_445 : decode cL_law 445 = .ok (.iadd, 1) := by decide +kernel
theorem eL_law_446 : decode cL_law 446 = .ok (.iaload, 1) := by decide +kernel
theorem eL_law_447 : decode cL_law 447 = .ok (.aload_n 0, 1) := by decide +kernel
theorem eL_law_448 : decode cL_law 448 = .ok (.iload 4, 2) := by decide +kernel
theorem eL_law_450 : decode cL_law 450 = .ok (.iconst 2, 1) := by decide +kernel
theorem eL_law_451 : decode cL_law 451 = .ok (.iadd, 1) := by decide +kernel
theorem eL_law_452 : decode cL_law 452 = .ok (.iaload, 1) := by decide +kernel
theorem eL_law_453 : decode cL_law 453 = .ok (.invokevirtual 122, 3) := by decide +kernel
theorem eL_law_456 : decode cL_law 456 = .ok (.istore 6, 2) := by decide +kernel
theorem eL_law_458 : decode cL_law 458 = .ok (.aload_n 2, 1) := by decide +kernel
theorem eL_law_459 : decode cL_law 459 = .ok (.invokevirtual 103, 3) := by decide +kernel
theorem eL_law_462 : decode cL_law 462 = .ok (.iload 5, 2) := by decide +kernel
theorem eL_law_464 : decode cL_law 464 = .ok (.if_icmp .eq 5, 3) := by decide +kernel
theorem eL_law_469 : decode cL_law 469 = .ok (.iload 5, 2) := by decide +kernel
theorem eL_law_471 : decode cL_law 471 = .ok (.ifCond .ne 15, 3) := by decide +kernel
theorem eL_law_486 : decode cL_law 486 = .ok (.goto 1155, 3) := by decide +kernel
theorem eL_law_489 : decode cL_law 489 = .ok (.aload_n 1, 1) := by decide +kernel
theorem eL_law_490 : decode cL_law 490 = .ok (.aload_n 0, 1) := by decide +kernel
theorem eL_law_491 : decode cL_law 491 = .ok (.iload 4, 2) := by decide +kernel
theorem eL_law_493 : decode cL_law 493 = .ok (.iconst 1, 1) := by decide +kernel
theorem eL_law_494 : decode cL_law 494 = .ok (.iadd, 1) := by decide +kernel
theorem eL_law_495 : decode cL_law 495 = .ok (.iaload, 1) := by decide +kernel
theorem eL_law_496 : decode cL_law 496 = .ok (.aload_n 3, 1) := by decide +kernel
theorem eL_law_497 : decode cL_law 497 = .ok (.invokestatic 123, 3) := by decide +kernel
theorem eL_law_500 : decode cL_law 500 = .ok (.istore 5, 2) := by decide +kernel
theorem eL_law_502 : decode cL_law 502 = .ok (.aload_n 2, 1) := by decide +kernel
theorem eL_law_503 : decode cL_law 503 = .ok (.aload_n 0, 1) := by decide +kernel
theorem eL_law_504 : decode cL_law 504 = .ok (.iload 4, 2) := by decide +kernel
theorem eL_law_506 : decode cL_law 506 = .ok (.iconst 1, 1) := by decide +kernel
theorem eL_law_507 : decode cL_law 507 = .ok (.iadd, 1) := by decide +kernel
theorem eL_law_508 : decode cL_law 508 = .ok (.iaload, 1) := by decide +kernel
theorem eL_law_509 : decode cL_law 509 = .ok (.invokevirtual 125, 3) := by decide +kernel
theorem eL_law_512 : decode cL_law 512 = .ok (.istore 6, 2) := by decide +kernel
theorem eL_law_514 : decode cL_law 514 = .ok (.aload_n 2, 1) := by decide +kernel
theorem eL_law_515 : decode cL_law 515 = .ok (.invokevirtual 103, 3) := by decide +kernel
theorem eL_law_518 : decode cL_law 518 = .ok (.iload 5, 2) := by decide +kernel
theorem eL_law_520 : decode cL_law 520 = .ok (.if_icmp .eq 5, 3) := by decide +kernel
theorem eL_law_525 : decode cL_law 525 = .ok (.iload 5, 2) := by decide +kernel
theorem eL_law_527 : decode cL_law 527 = .ok (.ifCond .ne 15, 3) := by decide +kernel
theorem eL_law_530 : decode cL_law 530 = .ok (.aload_n 3, 1) := by decide +kernel
theorem eL_law_531 : decode cL_law 531 = .ok (.iconst 0, 1) := by decide +kernel
theorem eL_law_532 : decode cL_law 532 = .ok (.laload, 1) := by decide +kernel
theorem eL_law_533 : decode cL_law 533 = .ok (.iload 6, 2) := by decide +kernel
theorem eL_law_535 : decode cL_law 535 = .ok (.i2l, 1) := by decide +kernel
theorem eL_law_536 : decode cL_law 536 = .ok (.lcmp, 1) := by decide +kernel
theorem eL_law_537 : decode cL_law 537 = .ok (.ifCond .eq 5, 3) := by decide +kernel
theorem eL_law_542 : decode cL_law 542 = .ok (.goto 1099, 3) := by decide +kernel
theorem eL_law_545 : decode cL_law 545 = .ok (.aload_n 1, 1) := by decide +kernel
theorem eL_law_546 : decode cL_law 546 = .ok (.aload_n 3, 1) := by decide +kernel
theorem eL_law_547 : decode cL_law 547 = .ok (.invokestatic 126, 3) := by decide +kernel
theorem eL_law_550 : decode cL_law 550 = .ok (.istore 5, 2) := by decide +kernel
theorem eL_law_552 : decode cL_law 552 = .ok (.aload_n 2, 1) := by decide +kernel
theorem eL_law_553 : decode cL_law 553 = .ok (.invokevirtual 129, 3) := by decide +kernel
theorem eL_law_556 : decode cL_law 556 = .ok (.istore 6, 2) := by decide +kernel
theorem eL_law_558 : decode cL_law 558 = .ok (.aload_n 2, 1) := by decide +kernel
theorem eL_law_559 : decode cL_law 559 = .ok (.invokevirtual 103, 3) := by decide +kernel
theorem eL_law_562 : decode cL_law 562 = .ok (.iload 5, 2) := by decide +kernel
theorem eL_law_564 : decode cL_law 564 = .ok (.if_icmp .eq 5, 3) := by decide +kernel
theorem eL_law_569 : decode cL_law 569 = .ok (.iload 5, 2) := by decide +kernel
theorem eL_law_571 : decode cL_law 571 = .ok (.ifCond .ne 15, 3) := by decide +kernel
theorem eL_law_586 : decode cL_law 586 = .ok (.goto 1055, 3) := by decide +kernel
theorem eL_law_589 : decode cL_law 589 = .ok (.aload_n 1, 1) := by decide +kernel
theorem eL_law_590 : decode cL_law 590 = .ok (.invokevirtual 130, 3) := by decide +kernel
theorem eL_law_593 : decode cL_law 593 = .ok (.aload_n 2, 1) := by decide +kernel
theorem eL_law_594 : decode cL_law 594 = .ok (.invokevirtual 133, 3) := by decide +kernel
theorem eL_law_597 : decode cL_law 597 = .ok (.if_icmp .eq 1044, 3) := by decide +kernel
theorem eL_law_602 : decode cL_law 602 = .ok (.aload_n 1, 1) := by decide +kernel
theorem eL_law_603 : decode cL_law 603 = .ok (.aload_n 0, 1) := by decide +kernel
theorem eL_law_604 : decode cL_law 604 = .ok (.iload 4, 2) := by decide +kernel
theorem eL_law_606 : decode cL_law 606 = .ok (.iconst 1, 1) := by decide +kernel
theorem eL_law_607 : decode cL_law 607 = .ok (.iadd, 1) := by decide +kernel
theorem eL_law_608 : decode cL_law 608 = .ok (.iaload, 1) := by decide +kernel
theorem eL_law_609 : decode cL_law 609 = .ok (.aload_n 0, 1) := by decide +kernel
theorem eL_law_610 : decode cL_law 610 = .ok (.iload 4, 2) := by decide +kernel
theorem eL_law_612 : decode cL_law 612 = .ok (.iconst 2, 1) := by decide +kernel
theorem eL_law_613 : decode cL_law 613 = .ok (.iadd, 1) := by decide +kernel
theorem eL_law_614 : decode cL_law 614 = .ok (.iaload, 1) := by decide +kernel
theorem eL_law_615 : decode cL_law 615 = .ok (.aload_n 3, 1) := by decide +kernel
theorem eL_law_616 : decode cL_law 616 = .ok (.invokestatic 134, 3) := by decide +kernel
theorem eL_law_619 : decode cL_law 619 = .ok (.istore 5, 2) := by decide +kernel
theorem eL_law_621 : decode cL_law 621 = .ok (.aload_n 2, 1) := by decide +kernel
theorem eL_law_622 : decode cL_law 622 = .ok (.aload_n 0, 1) := by decide +kernel
theorem eL_law_623 : decode cL_law 623 = .ok (.iload 4, 2) := by decide +kernel
theorem eL_law_625 : decode cL_law 625 = .ok (.iconst 1, 1) := by decide +kernel
theorem eL_law_626 : decode cL_law 626 = .ok (.iadd, 1) := by decide +kernel
theorem eL_law_627 : decode cL_law 627 = .ok (.iaload, 1) := by decide +kernel
theorem eL_law_628 : decode cL_law 628 = .ok (.aload_n 0, 1) := by decide +kernel
theorem eL_law_629 : decode cL_law 629 = .ok (.iload 4, 2) := by decide +kernel
theorem eL_law_631 : decode cL_law 631 = .ok (.iconst 2, 1) := by decide +kernel
theorem eL_law_632 : decode cL_law 632 = .ok (.iadd, 1) := by decide +kernel
theorem eL_law_633 : decode cL_law 633 = .ok (.iaload, 1) := by decide +kernel
theorem eL_law_634 : decode cL_law 634 = .ok (.invokevirtual 136, 3) := by decide +kernel
theorem eL_law_637 : decode cL_law 637 = .ok (.istore 6, 2) := by decide +kernel
theorem eL_law_639 : decode cL_law 639 = .ok (.aload_n 2, 1) := by decide +kernel
theorem eL_law_640 : decode cL_law 640 = .ok (.invokevirtual 103, 3) := by decide +kernel
theorem eL_law_643 : decode cL_law 643 = .ok (.iload 5, 2) := by decide +kernel
theorem eL_law_645 : decode cL_law 645 = .ok (.if_icmp .eq 5, 3) := by decide +kernel
theorem eL_law_650 : decode cL_law 650 = .ok (.iload 5, 2) := by decide +kernel
theorem eL_law_652 : decode cL_law 652 = .ok (.ifCond .ne 15, 3) := by decide +kernel
theorem eL_law_667 : decode cL_law 667 = .ok (.goto 974, 3) := by decide +kernel
theorem eL_law_670 : decode cL_law 670 = .ok (.aload_n 1, 1) := by decide +kernel
theorem eL_law_671 : decode cL_law 671 = .ok (.aload_n 0, 1) := by decide +kernel
theorem eL_law_672 : decode cL_law 672 = .ok (.iload 4, 2) := by decide +kernel
theorem eL_law_674 : decode cL_law 674 = .ok (.iconst 1, 1) := by decide +kernel
theorem eL_law_675 : decode cL_law 675 = .ok (.iadd, 1) := by decide +kernel
theorem eL_law_676 : decode cL_law 676 = .ok (.iaload, 1) := by decide +kernel
theorem eL_law_677 : decode cL_law 677 = .ok (.aload_n 0, 1) := by decide +kernel
theorem eL_law_678 : decode cL_law 678 = .ok (.iload 4, 2) := by decide +kernel
theorem eL_law_680 : decode cL_law 680 = .ok (.iconst 2, 1) := by decide +kernel
theorem eL_law_681 : decode cL_law 681 = .ok (.iadd, 1) := by decide +kernel
theorem eL_law_682 : decode cL_law 682 = .ok (.iaload, 1) := by decide +kernel
theorem eL_law_683 : decode cL_law 683 = .ok (.aload_n 3, 1) := by decide +kernel
theorem eL_law_684 : decode cL_law 684 = .ok (.invokestatic 137, 3) := by decide +kernel
theorem eL_law_687 : decode cL_law 687 = .ok (.istore 5, 2) := by decide +kernel
theorem eL_law_689 : decode cL_law 689 = .ok (.aload_n 2, 1) := by decide +kernel
theorem eL_law_690 : decode cL_law 690 = .ok (.aload_n 0, 1) := by decide +kernel
theorem eL_law_691 : decode cL_law 691 = .ok (.iload 4, 2) := by decide +kernel
theorem eL_law_693 : decode cL_law 693 = .ok (.iconst 1, 1) := by decide +kernel
theorem eL_law_694 : decode cL_law 694 = .ok (.iadd, 1) := by decide +kernel
theorem eL_law_695 : decode cL_law 695 = .ok (.iaload, 1) := by decide +kernel
theorem eL_law_696 : decode cL_law 696 = .ok (.aload_n 0, 1) := by decide +kernel
theorem eL_law_697 : decode cL_law 697 = .ok (.iload 4, 2) := by decide +kernel
theorem eL_law_699 : decode cL_law 699 = .ok (.iconst 2, 1) := by decide +kernel
theorem eL_law_700 : decode cL_law 700 = .ok (.iadd, 1) := by decide +kernel
theorem eL_law_701 : decode cL_law 701 = .ok (.iaload, 1) := by decide +kernel
theorem eL_law_702 : decode cL_law 702 = .ok (.invokevirtual 139, 3) := by decide +kernel
theorem eL_law_705 : decode cL_law 705 = .ok (.istore 6, 2) := by decide +kernel
theorem eL_law_707 : decode cL_law 707 = .ok (.aload_n 2, 1) := by decide +kernel
theorem eL_law_708 : decode cL_law 708 = .ok (.invokevirtual 103, 3) := by decide +kernel
theorem eL_law_711 : decode cL_law 711 = .ok (.iload 5, 2) := by decide +kernel
theorem eL_law_713 : decode cL_law 713 = .ok (.if_icmp .eq 5, 3) := by decide +kernel
theorem eL_law_718 : decode cL_law 718 = .ok (.iload 5, 2) := by decide +kernel
theorem eL_law_720 : decode cL_law 720 = .ok (.ifCond .ne 15, 3) := by decide +kernel
theorem eL_law_735 : decode cL_law 735 = .ok (.goto 906, 3) := by decide +kernel
theorem eL_law_738 : decode cL_law 738 = .ok (.aload_n 1, 1) := by decide +kernel
theorem eL_law_739 : decode cL_law 739 = .ok (.aload_n 0, 1) := by decide +kernel
theorem eL_law_740 : decode cL_law 740 = .ok (.iload 4, 2) := by decide +kernel
theorem eL_law_742 : decode cL_law 742 = .ok (.iconst 1, 1) := by decide +kernel
theorem eL_law_743 : decode cL_law 743 = .ok (.iadd, 1) := by decide +kernel
theorem eL_law_744 : decode cL_law 744 = .ok (.iaload, 1) := by decide +kernel
theorem eL_law_745 : decode cL_law 745 = .ok (.aload_n 0, 1) := by decide +kernel
theorem eL_law_746 : decode cL_law 746 = .ok (.iload 4, 2) := by decide +kernel
theorem eL_law_748 : decode cL_law 748 = .ok (.iconst 2, 1) := by decide +kernel
theorem eL_law_749 : decode cL_law 749 = .ok (.iadd, 1) := by decide +kernel
theorem eL_law_750 : decode cL_law 750 = .ok (.iaload, 1) := by decide +kernel
theorem eL_law_751 : decode cL_law 751 = .ok (.aload_n 3, 1) := by decide +kernel
theorem eL_law_752 : decode cL_law 752 = .ok (.invokestatic 140, 3) := by decide +kernel
theorem eL_law_755 : decode cL_law 755 = .ok (.istore 5, 2) := by decide +kernel
theorem eL_law_757 : decode cL_law 757 = .ok (.aload_n 2, 1) := by decide +kernel
theorem eL_law_758 : decode cL_law 758 = .ok (.aload_n 0, 1) := by decide +kernel
theorem eL_law_759 : decode cL_law 759 = .ok (.iload 4, 2) := by decide +kernel
theorem eL_law_761 : decode cL_law 761 = .ok (.iconst 1, 1) := by decide +kernel
theorem eL_law_762 : decode cL_law 762 = .ok (.iadd, 1) := by decide +kernel
theorem eL_law_763 : decode cL_law 763 = .ok (.iaload, 1) := by decide +kernel
theorem eL_law_764 : decode cL_law 764 = .ok (.aload_n 0, 1) := by decide +kernel
theorem eL_law_765 : decode cL_law 765 = .ok (.iload 4, 2) := by decide +kernel
theorem eL_law_767 : decode cL_law 767 = .ok (.iconst 2, 1) := by decide +kernel
theorem eL_law_768 : decode cL_law 768 = .ok (.iadd, 1) := by decide +kernel
theorem eL_law_769 : decode cL_law 769 = .ok (.iaload, 1) := by decide +kernel
theorem eL_law_770 : decode cL_law 770 = .ok (.invokevirtual 142, 3) := by decide +kernel
theorem eL_law_773 : decode cL_law 773 = .ok (.istore 6, 2) := by decide +kernel
theorem eL_law_775 : decode cL_law 775 = .ok (.aload_n 2, 1) := by decide +kernel
theorem eL_law_776 : decode cL_law 776 = .ok (.invokevirtual 103, 3) := by decide +kernel
theorem eL_law_779 : decode cL_law 779 = .ok (.iload 5, 2) := by decide +kernel
theorem eL_law_781 : decode cL_law 781 = .ok (.if_icmp .eq 5, 3) := by decide +kernel
theorem eL_law_786 : decode cL_law 786 = .ok (.iload 5, 2) := by decide +kernel
theorem eL_law_788 : decode cL_law 788 = .ok (.ifCond .ne 15, 3) := by decide +kernel
theorem eL_law_803 : decode cL_law 803 = .ok (.goto 838, 3) := by decide +kernel
theorem eL_law_806 : decode cL_law 806 = .ok (.aload_n 1, 1) := by decide +kernel
theorem eL_law_807 : decode cL_law 807 = .ok (.aload_n 0, 1) := by decide +kernel
theorem eL_law_808 : decode cL_law 808 = .ok (.iload 4, 2) := by decide +kernel
theorem eL_law_810 : decode cL_law 810 = .ok (.iconst 1, 1) := by decide +kernel
theorem eL_law_811 : decode cL_law 811 = .ok (.iadd, 1) := by decide +kernel
theorem eL_law_812 : decode cL_law 812 = .ok (.iaload, 1) := by decide +kernel
theorem eL_law_813 : decode cL_law 813 = .ok (.aload_n 3, 1) := by decide +kernel
theorem eL_law_814 : decode cL_law 814 = .ok (.invokestatic 143, 3) := by decide +kernel
theorem eL_law_817 : decode cL_law 817 = .ok (.istore 5, 2) := by decide +kernel
theorem eL_law_819 : decode cL_law 819 = .ok (.aload_n 2, 1) := by decide +kernel
theorem eL_law_820 : decode cL_law 820 = .ok (.aload_n 0, 1) := by decide +kernel
theorem eL_law_821 : decode cL_law 821 = .ok (.iload 4, 2) := by decide +kernel
theorem eL_law_823 : decode cL_law 823 = .ok (.iconst 1, 1) := by decide +kernel
theorem eL_law_824 : decode cL_law 824 = .ok (.iadd, 1) := by decide +kernel
theorem eL_law_825 : decode cL_law 825 = .ok (.iaload, 1) := by decide +kernel
theorem eL_law_826 : decode cL_law 826 = .ok (.invokevirtual 145, 3) := by decide +kernel
theorem eL_law_829 : decode cL_law 829 = .ok (.istore 6, 2) := by decide +kernel
theorem eL_law_831 : decode cL_law 831 = .ok (.aload_n 2, 1) := by decide +kernel
theorem eL_law_832 : decode cL_law 832 = .ok (.invokevirtual 103, 3) := by decide +kernel
theorem eL_law_835 : decode cL_law 835 = .ok (.iload 5, 2) := by decide +kernel
theorem eL_law_837 : decode cL_law 837 = .ok (.if_icmp .eq 5, 3) := by decide +kernel
theorem eL_law_842 : decode cL_law 842 = .ok (.iload 5, 2) := by decide +kernel
theorem eL_law_844 : decode cL_law 844 = .ok (.ifCond .ne 15, 3) := by decide +kernel
theorem eL_law_847 : decode cL_law 847 = .ok (.aload_n 3, 1) := by decide +kernel
theorem eL_law_848 : decode cL_law 848 = .ok (.iconst 0, 1) := by decide +kernel
theorem eL_law_849 : decode cL_law 849 = .ok (.laload, 1) := by decide +kernel
theorem eL_law_850 : decode cL_law 850 = .ok (.iload 6, 2) := by decide +kernel
theorem eL_law_852 : decode cL_law 852 = .ok (.i2l, 1) := by decide +kernel
theorem eL_law_853 : decode cL_law 853 = .ok (.lcmp, 1) := by decide +kernel
theorem eL_law_854 : decode cL_law 854 = .ok (.ifCond .eq 5, 3) := by decide +kernel
theorem eL_law_859 : decode cL_law 859 = .ok (.goto 782, 3) := by decide +kernel
theorem eL_law_862 : decode cL_law 862 = .ok (.aload_n 1, 1) := by decide +kernel
theorem eL_law_863 : decode cL_law 863 = .ok (.aload_n 0, 1) := by decide +kernel
theorem eL_law_864 : decode cL_law 864 = .ok (.iload 4, 2) := by decide +kernel
theorem eL_law_866 : decode cL_law 866 = .ok (.iconst 1, 1) := by decide +kernel
theorem eL_law_867 : decode cL_law 867 = .ok (.iadd, 1) := by decide +kernel
theorem eL_law_868 : decode cL_law 868 = .ok (.iaload, 1) := by decide +kernel
theorem eL_law_869 : decode cL_law 869 = .ok (.aload_n 3, 1) := by decide +kernel
theorem eL_law_870 : decode cL_law 870 = .ok (.invokestatic 146, 3) := by decide +kernel
theorem eL_law_873 : decode cL_law 873 = .ok (.istore 5, 2) := by decide +kernel
theorem eL_law_875 : decode cL_law 875 = .ok (.aload_n 2, 1) := by decide +kernel
theorem eL_law_876 : decode cL_law 876 = .ok (.aload_n 0, 1) := by decide +kernel
theorem eL_law_877 : decode cL_law 877 = .ok (.iload 4, 2) := by decide +kernel
theorem eL_law_879 : decode cL_law 879 = .ok (.iconst 1, 1) := by decide +kernel
theorem eL_law_880 : decode cL_law 880 = .ok (.iadd, 1) := by decide +kernel
theorem eL_law_881 : decode cL_law 881 = .ok (.iaload, 1) := by decide +kernel
theorem eL_law_882 : decode cL_law 882 = .ok (.invokevirtual 148, 3) := by decide +kernel
theorem eL_law_885 : decode cL_law 885 = .ok (.istore 6, 2) := by decide +kernel
theorem eL_law_887 : decode cL_law 887 = .ok (.aload_n 2, 1) := by decide +kernel
theorem eL_law_888 : decode cL_law 888 = .ok (.invokevirtual 103, 3) := by decide +kernel
theorem eL_law_891 : decode cL_law 891 = .ok (.iload 5, 2) := by decide +kernel
theorem eL_law_893 : decode cL_law 893 = .ok (.if_icmp .eq 5, 3) := by decide +kernel
theorem eL_law_898 : decode cL_law 898 = .ok (.iload 5, 2) := by decide +kernel
theorem eL_law_900 : decode cL_law 900 = .ok (.ifCond .ne 15, 3) := by decide +kernel
theorem eL_law_903 : decode cL_law 903 = .ok (.aload_n 3, 1) := by decide +kernel
theorem eL_law_904 : decode cL_law 904 = .ok (.iconst 0, 1) := by decide +kernel
theorem eL_law_905 : decode cL_law 905 = .ok (.laload, 1) := by decide +kernel
theorem eL_law_906 : decode cL_law 906 = .ok (.iload 6, 2) := by decide +kernel
theorem eL_law_908 : decode cL_law 908 = .ok (.i2l, 1) := by decide +kernel
theorem eL_law_909 : decode cL_law 909 = .ok (.lcmp, 1) := by decide +kernel
theorem eL_law_910 : decode cL_law 910 = .ok (.ifCond .eq 5, 3) := by decide +kernel
theorem eL_law_915 : decode cL_law 915 = .ok (.goto 726, 3) := by decide +kernel
theorem eL_law_918 : decode cL_law 918 = .ok (.aload_n 1, 1) := by decide +kernel
theorem eL_law_919 : decode cL_law 919 = .ok (.aload_n 0, 1) := by decide +kernel
theorem eL_law_920 : decode cL_law 920 = .ok (.iload 4, 2) := by decide +kernel
theorem eL_law_922 : decode cL_law 922 = .ok (.iconst 1, 1) := by decide +kernel
theorem eL_law_923 : decode cL_law 923 = .ok (.iadd, 1) := by decide +kernel
theorem eL_law_924 : decode cL_law 924 = .ok (.iaload, 1) := by decide +kernel
theorem eL_law_925 : decode cL_law 925 = .ok (.aload_n 3, 1) := by decide +kernel
theorem eL_law_926 : decode cL_law 926 = .ok (.invokestatic 149, 3) := by decide +kernel
theorem eL_law_929 : decode cL_law 929 = .ok (.istore 5, 2) := by decide +kernel
theorem eL_law_931 : decode cL_law 931 = .ok (.aload_n 2, 1) := by decide +kernel
theorem eL_law_932 : decode cL_law 932 = .ok (.aload_n 0, 1) := by decide +kernel
theorem eL_law_933 : decode cL_law 933 = .ok (.iload 4, 2) := by decide +kernel
theorem eL_law_935 : decode cL_law 935 = .ok (.iconst 1, 1) := by decide +kernel
theorem eL_law_936 : decode cL_law 936 = .ok (.iadd, 1) := by decide +kernel
theorem eL_law_937 : decode cL_law 937 = .ok (.iaload, 1) := by decide +kernel
theorem eL_law_938 : decode cL_law 938 = .ok (.invokevirtual 151, 3) := by decide +kernel
theorem eL_law_941 : decode cL_law 941 = .ok (.istore 6, 2) := by decide +kernel
theorem eL_law_943 : decode cL_law 943 = .ok (.aload_n 2, 1) := by decide +kernel
theorem eL_law_944 : decode cL_law 944 = .ok (.invokevirtual 103, 3) := by decide +kernel
theorem eL_law_947 : decode cL_law 947 = .ok (.iload 5, 2) := by decide +kernel
theorem eL_law_949 : decode cL_law 949 = .ok (.if_icmp .eq 5, 3) := by decide +kernel
theorem eL_law_954 : decode cL_law 954 = .ok (.iload 5, 2) := by decide +kernel
theorem eL_law_956 : decode cL_law 956 = .ok (.ifCond .ne 15, 3) := by decide +kernel
theorem eL_law_959 : decode cL_law 959 = .ok (.aload_n 3, 1) := by decide +kernel
theorem eL_law_960 : decode cL_law 960 = .ok (.iconst 0, 1) := by decide +kernel
theorem eL_law_961 : decode cL_law 961 = .ok (.laload, 1) := by decide +kernel
theorem eL_law_962 : decode cL_law 962 = .ok (.iload 6, 2) := by decide +kernel
theorem eL_law_964 : decode cL_law 964 = .ok (.i2l, 1) := by decide +kernel
theorem eL_law_965 : decode cL_law 965 = .ok (.lcmp, 1) := by decide +kernel
theorem eL_law_966 : decode cL_law 966 = .ok (.ifCond .eq 5, 3) := by decide +kernel
theorem eL_law_971 : decode cL_law 971 = .ok (.goto 670, 3) := by decide +kernel
theorem eL_law_974 : decode cL_law 974 = .ok (.aload_n 1, 1) := by decide +kernel
theorem eL_law_975 : decode cL_law 975 = .ok (.aload_n 0, 1) := by decide +kernel
theorem eL_law_976 : decode cL_law 976 = .ok (.iload 4, 2) := by decide +kernel
theorem eL_law_978 : decode cL_law 978 = .ok (.iconst 1, 1) := by decide +kernel
theorem eL_law_979 : decode cL_law 979 = .ok (.iadd, 1) := by decide +kernel
theorem eL_law_980 : decode cL_law 980 = .ok (.iaload, 1) := by decide +kernel
theorem eL_law_981 : decode cL_law 981 = .ok (.aload_n 3, 1) := by decide +kernel
theorem eL_law_982 : decode cL_law 982 = .ok (.invokestatic 152, 3) := by decide +kernel
theorem eL_law_985 : decode cL_law 985 = .ok (.istore 5, 2) := by decide +kernel
theorem eL_law_987 : decode cL_law 987 = .ok (.aload_n 2, 1) := by decide +kernel
theorem eL_law_988 : decode cL_law 988 = .ok (.aload_n 0, 1) := by decide +kernel
theorem eL_law_989 : decode cL_law 989 = .ok (.iload 4, 2) := by decide +kernel
theorem eL_law_991 : decode cL_law 991 = .ok (.iconst 1, 1) := by decide +kernel
theorem eL_law_992 : decode cL_law 992 = .ok (.iadd, 1) := by decide +kernel
theorem eL_law_993 : decode cL_law 993 = .ok (.iaload, 1) := by decide +kernel
theorem eL_law_994 : decode cL_law 994 = .ok (.invokevirtual 154, 3) := by decide +kernel
theorem eL_law_997 : decode cL_law 997 = .ok (.istore 6, 2) := by decide +kernel
theorem eL_law_999 : decode cL_law 999 = .ok (.aload_n 2, 1) := by decide +kernel
theorem eL_law_1000 : decode cL_law 1000 = .ok (.invokevirtual 103, 3) := by decide +kernel
theorem eL_law_1003 : decode cL_law 1003 = .ok (.iload 5, 2) := by decide +kernel
theorem eL_law_1005 : decode cL_law 1005 = .ok (.if_icmp .eq 5, 3) := by decide +kernel
theorem eL_law_1010 : decode cL_law 1010 = .ok (.iload 5, 2) := by decide +kernel
theorem eL_law_1012 : decode cL_law 1012 = .ok (.ifCond .ne 15, 3) := by decide +kernel
theorem eL_law_1015 : decode cL_law 1015 = .ok (.aload_n 3, 1) := by decide +kernel
theorem eL_law_1016 : decode cL_law 1016 = .ok (.iconst 0, 1) := by decide +kernel
theorem eL_law_1017 : decode cL_law 1017 = .ok (.laload, 1) := by decide +kernel
theorem eL_law_1018 : decode cL_law 1018 = .ok (.iload 6, 2) := by decide +kernel
theorem eL_law_1020 : decode cL_law 1020 = .ok (.i2l, 1) := by decide +kernel
theorem eL_law_1021 : decode cL_law 1021 = .ok (.lcmp, 1) := by decide +kernel
theorem eL_law_1022 : decode cL_law 1022 = .ok (.ifCond .eq 5, 3) := by decide +kernel
theorem eL_law_1027 : decode cL_law 1027 = .ok (.goto 614, 3) := by decide +kernel
theorem eL_law_1030 : decode cL_law 1030 = .ok (.aload_n 1, 1) := by decide +kernel
theorem eL_law_1031 : decode cL_law 1031 = .ok (.aload_n 0, 1) := by decide +kernel
theorem eL_law_1032 : decode cL_law 1032 = .ok (.iload 4, 2) := by decide +kernel
theorem eL_law_1034 : decode cL_law 1034 = .ok (.iconst 1, 1) := by decide +kernel
theorem eL_law_1035 : decode cL_law 1035 = .ok (.iadd, 1) := by decide +kernel
theorem eL_law_1036 : decode cL_law 1036 = .ok (.iaload, 1) := by decide +kernel
theorem eL_law_1037 : decode cL_law 1037 = .ok (.aload_n 3, 1) := by decide +kernel
theorem eL_law_1038 : decode cL_law 1038 = .ok (.invokestatic 155, 3) := by decide +kernel
theorem eL_law_1041 : decode cL_law 1041 = .ok (.istore 5, 2) := by decide +kernel
theorem eL_law_1043 : decode cL_law 1043 = .ok (.aload_n 2, 1) := by decide +kernel
theorem eL_law_1044 : decode cL_law 1044 = .ok (.aload_n 0, 1) := by decide +kernel
theorem eL_law_1045 : decode cL_law 1045 = .ok (.iload 4, 2) := by decide +kernel
theorem eL_law_1047 : decode cL_law 1047 = .ok (.iconst 1, 1) := by decide +kernel
theorem eL_law_1048 : decode cL_law 1048 = .ok (.iadd, 1) := by decide +kernel
theorem eL_law_1049 : decode cL_law 1049 = .ok (.iaload, 1) := by decide +kernel
theorem eL_law_1050 : decode cL_law 1050 = .ok (.invokevirtual 157, 3) := by decide +kernel
theorem eL_law_1053 : decode cL_law 1053 = .ok (.istore 6, 2) := by decide +kernel
theorem eL_law_1055 : decode cL_law 1055 = .ok (.aload_n 2, 1) := by decide +kernel
theorem eL_law_1056 : decode cL_law 1056 = .ok (.invokevirtual 103, 3) := by decide +kernel
theorem eL_law_1059 : decode cL_law 1059 = .ok (.iload 5, 2) := by decide +kernel
theorem eL_law_1061 : decode cL_law 1061 = .ok (.if_icmp .eq 5, 3) := by decide +kernel
theorem eL_law_1066 : decode cL_law 1066 = .ok (.iload 5, 2) := by decide +kernel
theorem eL_law_1068 : decode cL_law 1068 = .ok (.ifCond .ne 15, 3) := by decide +kernel
theorem eL_law_1071 : decode cL_law 1071 = .ok (.aload_n 3, 1) := by decide +kernel
theorem eL_law_1072 : decode cL_law 1072 = .ok (.iconst 0, 1) := by decide +kernel
theorem eL_law_1073 : decode cL_law 1073 = .ok (.laload, 1) := by decide +kernel
theorem eL_law_1074 : decode cL_law 1074 = .ok (.iload 6, 2) := by decide +kernel
theorem eL_law_1076 : decode cL_law 1076 = .ok (.i2l, 1) := by decide +kernel
theorem eL_law_1077 : decode cL_law 1077 = .ok (.lcmp, 1) := by decide +kernel
theorem eL_law_1078 : decode cL_law 1078 = .ok (.ifCond .eq 5, 3) := by decide +kernel
theorem eL_law_1083 : decode cL_law 1083 = .ok (.goto 558, 3) := by decide +kernel
theorem eL_law_1086 : decode cL_law 1086 = .ok (.aload_n 1, 1) := by decide +kernel
theorem eL_law_1087 : decode cL_law 1087 = .ok (.aload_n 0, 1) := by decide +kernel
theorem eL_law_1088 : decode cL_law 1088 = .ok (.iload 4, 2) := by decide +kernel
theorem eL_law_1090 : decode cL_law 1090 = .ok (.iconst 1, 1) := by decide +kernel
theorem eL_law_1091 : decode cL_law 1091 = .ok (.iadd, 1) := by decide +kernel
theorem eL_law_1092 : decode cL_law 1092 = .ok (.iaload, 1) := by decide +kernel
theorem eL_law_1093 : decode cL_law 1093 = .ok (.aload_n 3, 1) := by decide +kernel
theorem eL_law_1094 : decode cL_law 1094 = .ok (.invokestatic 158, 3) := by decide +kernel
theorem eL_law_1097 : decode cL_law 1097 = .ok (.istore 5, 2) := by decide +kernel
theorem eL_law_1099 : decode cL_law 1099 = .ok (.aload_n 2, 1) := by decide +kernel
theorem eL_law_1100 : decode cL_law 1100 = .ok (.aload_n 0, 1) := by decide +kernel
theorem eL_law_1101 : decode cL_law 1101 = .ok (.iload 4, 2) := by decide +kernel
theorem eL_law_1103 : decode cL_law 1103 = .ok (.iconst 1, 1) := by decide +kernel
theorem eL_law_1104 : decode cL_law 1104 = .ok (.iadd, 1) := by decide +kernel
theorem eL_law_1105 : decode cL_law 1105 = .ok (.iaload, 1) := by decide +kernel
theorem eL_law_1106 : decode cL_law 1106 = .ok (.invokevirtual 160, 3) := by decide +kernel
theorem eL_law_1109 : decode cL_law 1109 = .ok (.istore 6, 2) := by decide +kernel
theorem eL_law_1111 : decode cL_law 1111 = .ok (.aload_n 2, 1) := by decide +kernel
theorem eL_law_1112 : decode cL_law 1112 = .ok (.invokevirtual 103, 3) := by decide +kernel
theorem eL_law_1115 : decode cL_law 1115 = .ok (.iload 5, 2) := by decide +kernel
theorem eL_law_1117 : decode cL_law 1117 = .ok (.if_icmp .eq 5, 3) := by decide +kernel
theorem eL_law_1122 : decode cL_law 1122 = .ok (.iload 5, 2) := by decide +kernel
theorem eL_law_1124 : decode cL_law 1124 = .ok (.ifCond .ne 15, 3) := by decide +kernel
theorem eL_law_1127 : decode cL_law 1127 = .ok (.aload_n 3, 1) := by decide +kernel
theorem eL_law_1128 : decode cL_law 1128 = .ok (.iconst 0, 1) := by decide +kernel
theorem eL_law_1129 : decode cL_law 1129 = .ok (.laload, 1) := by decide +kernel
theorem eL_law_1130 : decode cL_law 1130 = .ok (.iload 6, 2) := by decide +kernel
theorem eL_law_1132 : decode cL_law 1132 = .ok (.i2l, 1) := by decide +kernel
theorem eL_law_1133 : decode cL_law 1133 = .ok (.lcmp, 1) := by decide +kernel
theorem eL_law_1134 : decode cL_law 1134 = .ok (.ifCond .eq 5, 3) := by decide +kernel
theorem eL_law_1139 : decode cL_law 1139 = .ok (.goto 502, 3) := by decide +kernel
theorem eL_law_1142 : decode cL_law 1142 = .ok (.aload_n 1, 1) := by decide +kernel
theorem eL_law_1143 : decode cL_law 1143 = .ok (.aload_n 0, 1) := by decide +kernel
theorem eL_law_1144 : decode cL_law 1144 = .ok (.iload 4, 2) := by decide +kernel
theorem eL_law_1146 : decode cL_law 1146 = .ok (.iconst 1, 1) := by decide +kernel
theorem eL_law_1147 : decode cL_law 1147 = .ok (.iadd, 1) := by decide +kernel
theorem eL_law_1148 : decode cL_law 1148 = .ok (.iaload, 1) := by decide +kernel
theorem eL_law_1149 : decode cL_law 1149 = .ok (.aload_n 3, 1) := by decide +kernel
theorem eL_law_1150 : decode cL_law 1150 = .ok (.invokestatic 161, 3) := by decide +kernel
theorem eL_law_1153 : decode cL_law 1153 = .ok (.istore 5, 2) := by decide +kernel
theorem eL_law_1155 : decode cL_law 1155 = .ok (.aload_n 2, 1) := by decide +kernel
theorem eL_law_1156 : decode cL_law 1156 = .ok (.aload_n 0, 1) := by decide +kernel
theorem eL_law_1157 : decode cL_law 1157 = .ok (.iload 4, 2) := by decide +kernel
theorem eL_law_1159 : decode cL_law 1159 = .ok (.iconst 1, 1) := by decide +kernel
theorem eL_law_1160 : decode cL_law 1160 = .ok (.iadd, 1) := by decide +kernel
theorem eL_law_1161 : decode cL_law 1161 = .ok (.iaload, 1) := by decide +kernel
theorem eL_law_1162 : decode cL_law 1162 = .ok (.invokevirtual 163, 3) := by decide +kernel
theorem eL_law_1165 : decode cL_law 1165 = .ok (.lstore 6, 2) := by decide +kernel
theorem eL_law_1167 : decode cL_law 1167 = .ok (.aload_n 2, 1) := by decide +kernel
theorem eL_law_1168 : decode cL_law 1168 = .ok (.invokevirtual 103, 3) := by decide +kernel
theorem eL_law_1171 : decode cL_law 1171 = .ok (.iload 5, 2) := by decide +kernel
theorem eL_law_1173 : decode cL_law 1173 = .ok (.if_icmp .eq 5, 3) := by decide +kernel
theorem eL_law_1178 : decode cL_law 1178 = .ok (.iload 5, 2) := by decide +kernel
theorem eL_law_1180 : decode cL_law 1180 = .ok (.ifCond .ne 14, 3) := by decide +kernel
theorem eL_law_1194 : decode cL_law 1194 = .ok (.goto 447, 3) := by decide +kernel
theorem eL_law_1197 : decode cL_law 1197 = .ok (.aload_n 1, 1) := by decide +kernel
theorem eL_law_1198 : decode cL_law 1198 = .ok (.invokevirtual 164, 3) := by decide +kernel
theorem eL_law_1201 : decode cL_law 1201 = .ok (.aload_n 2, 1) := by decide +kernel
theorem eL_law_1202 : decode cL_law 1202 = .ok (.invokevirtual 167, 3) := by decide +kernel
theorem eL_law_1205 : decode cL_law 1205 = .ok (.if_icmp .eq 436, 3) := by decide +kernel
theorem eL_law_1210 : decode cL_law 1210 = .ok (.aload_n 1, 1) := by decide +kernel
theorem eL_law_1211 : decode cL_law 1211 = .ok (.aload_n 0, 1) := by decide +kernel
theorem eL_law_1212 : decode cL_law 1212 = .ok (.iload 4, 2) := by decide +kernel
theorem eL_law_1214 : decode cL_law 1214 = .ok (.iconst 1, 1) := by decide +kernel
theorem eL_law_1215 : decode cL_law 1215 = .ok (.iadd, 1) := by decide +kernel
theorem eL_law_1216 : decode cL_law 1216 = .ok (.iaload, 1) := by decide +kernel
theorem eL_law_1217 : decode cL_law 1217 = .ok (.aload_n 3, 1) := by decide +kernel
theorem eL_law_1218 : decode cL_law 1218 = .ok (.invokestatic 168, 3) := by decide +kernel
theorem eL_law_1221 : decode cL_law 1221 = .ok (.istore 5, 2) := by decide +kernel
theorem eL_law_1223 : decode cL_law 1223 = .ok (.aload_n 2, 1) := by decide +kernel
theorem eL_law_1224 : decode cL_law 1224 = .ok (.aload_n 0, 1) := by decide +kernel
theorem eL_law_1225 : decode cL_law 1225 = .ok (.iload 4, 2) := by decide +kernel
theorem eL_law_1227 : decode cL_law 1227 = .ok (.iconst 1, 1) := by decide +kernel
theorem eL_law_1228 : decode cL_law 1228 = .ok (.iadd, 1) := by decide +kernel
theorem eL_law_1229 : decode cL_law 1229 = .ok (.iaload, 1) := by decide +kernel
theorem eL_law_1230 : decode cL_law 1230 = .ok (.invokevirtual 170, 3) := by decide +kernel
theorem eL_law_1233 : decode cL_law 1233 = .ok (.istore 6, 2) := by decide +kernel
theorem eL_law_1235 : decode cL_law 1235 = .ok (.aload_n 2, 1) := by decide +kernel
theorem eL_law_1236 : decode cL_law 1236 = .ok (.invokevirtual 103, 3) := by decide +kernel
theorem eL_law_1239 : decode cL_law 1239 = .ok (.iload 5, 2) := by decide +kernel
theorem eL_law_1241 : decode cL_law 1241 = .ok (.if_icmp .eq 5, 3) := by decide +kernel
theorem eL_law_1246 : decode cL_law 1246 = .ok (.iload 5, 2) := by decide +kernel
theorem eL_law_1248 : decode cL_law 1248 = .ok (.ifCond .ne 15, 3) := by decide +kernel
theorem eL_law_1251 : decode cL_law 1251 = .ok (.aload_n 3, 1) := by decide +kernel
theorem eL_law_1252 : decode cL_law 1252 = .ok (.iconst 0, 1) := by decide +kernel
theorem eL_law_1253 : decode cL_law 1253 = .ok (.laload, 1) := by decide +kernel
theorem eL_law_1254 : decode cL_law 1254 = .ok (.iload 6, 2) := by decide +kernel
theorem eL_law_1256 : decode cL_law 1256 = .ok (.i2l, 1) := by decide +kernel
theorem eL_law_1257 : decode cL_law 1257 = .ok (.lcmp, 1) := by decide +kernel
theorem eL_law_1258 : decode cL_law 1258 = .ok (.ifCond .eq 5, 3) := by decide +kernel
theorem eL_law_1263 : decode cL_law 1263 = .ok (.goto 378, 3) := by decide +kernel
theorem eL_law_1266 : decode cL_law 1266 = .ok (.aload_n 1, 1) := by decide +kernel
theorem eL_law_1267 : decode cL_law 1267 = .ok (.invokevirtual 171, 3) := by decide +kernel
theorem eL_law_1270 : decode cL_law 1270 = .ok (.aload_n 2, 1) := by decide +kernel
theorem eL_law_1271 : decode cL_law 1271 = .ok (.invokevirtual 174, 3) := by decide +kernel
theorem eL_law_1274 : decode cL_law 1274 = .ok (.if_icmp .eq 367, 3) := by decide +kernel
theorem eL_law_1279 : decode cL_law 1279 = .ok (.aload_n 1, 1) := by decide +kernel
theorem eL_law_1280 : decode cL_law 1280 = .ok (.aload_n 0, 1) := by decide +kernel
theorem eL_law_1281 : decode cL_law 1281 = .ok (.iload 4, 2) := by decide +kernel
theorem eL_law_1283 : decode cL_law 1283 = .ok (.iconst 1, 1) := by decide +kernel
theorem eL_law_1284 : decode cL_law 1284 = .ok (.iadd, 1) := by decide +kernel
theorem eL_law_1285 : decode cL_law 1285 = .ok (.iaload, 1) := by decide +kernel
theorem eL_law_1286 : decode cL_law 1286 = .ok (.invokevirtual 175, 3) := by decide +kernel
theorem eL_law_1289 : decode cL_law 1289 = .ok (.aload_n 2, 1) := by decide +kernel
theorem eL_law_1290 : decode cL_law 1290 = .ok (.aload_n 0, 1) := by decide +kernel
theorem eL_law_1291 : decode cL_law 1291 = .ok (.iload 4, 2) := by decide +kernel
theorem eL_law_1293 : decode cL_law 1293 = .ok (.iconst 1, 1) := by decide +kernel
theorem eL_law_1294 : decode cL_law 1294 = .ok (.iadd, 1) := by decide +kernel
theorem eL_law_1295 : decode cL_law 1295 = .ok (.iaload, 1) := by decide +kernel
theorem eL_law_1296 : decode cL_law 1296 = .ok (.invokevirtual 178, 3) := by decide +kernel
theorem eL_law_1299 : decode cL_law 1299 = .ok (.if_icmp .eq 342, 3) := by decide +kernel
theorem eL_law_1304 : decode cL_law 1304 = .ok (.aload_n 1, 1) := by decide +kernel
theorem eL_law_1305 : decode cL_law 1305 = .ok (.aload_n 0, 1) := by decide +kernel
theorem eL_law_1306 : decode cL_law 1306 = .ok (.iload 4, 2) := by decide +kernel
theorem eL_law_1308 : decode cL_law 1308 = .ok (.iconst 1, 1) := by decide +kernel
theorem eL_law_1309 : decode cL_law 1309 = .ok (.iadd, 1) := by decide +kernel
theorem eL_law_1310 : decode cL_law 1310 = .ok (.iaload, 1) := by decide +kernel
theorem eL_law_1311 : decode cL_law 1311 = .ok (.aload_n 3, 1) := by decide +kernel
theorem eL_law_1312 : decode cL_law 1312 = .ok (.invokestatic 179, 3) := by decide +kernel
theorem eL_law_1315 : decode cL_law 1315 = .ok (.istore 5, 2) := by decide +kernel
theorem eL_law_1317 : decode cL_law 1317 = .ok (.aload_n 2, 1) := by decide +kernel
theorem eL_law_1318 : decode cL_law 1318 = .ok (.aload_n 0, 1) := by decide +kernel
theorem eL_law_1319 : decode cL_law 1319 = .ok (.iload 4, 2) := by decide +kernel
theorem eL_law_1321 : decode cL_law 1321 = .ok (.iconst 1, 1) := by decide +kernel
theorem eL_law_1322 : decode cL_law 1322 = .ok (.iadd, 1) := by decide +kernel
theorem eL_law_1323 : decode cL_law 1323 = .ok (.iaload, 1) := by decide +kernel
theorem eL_law_1324 : decode cL_law 1324 = .ok (.invokevirtual 181, 3) := by decide +kernel
theorem eL_law_1327 : decode cL_law 1327 = .ok (.istore 6, 2) := by decide +kernel
theorem eL_law_1329 : decode cL_law 1329 = .ok (.aload_n 2, 1) := by decide +kernel
theorem eL_law_1330 : decode cL_law 1330 = .ok (.invokevirtual 103, 3) := by decide +kernel
theorem eL_law_1333 : decode cL_law 1333 = .ok (.iload 5, 2) := by decide +kernel
theorem eL_law_1335 : decode cL_law 1335 = .ok (.if_icmp .eq 5, 3) := by decide +kernel
theorem eL_law_1340 : decode cL_law 1340 = .ok (.iload 5, 2) := by decide +kernel
theorem eL_law_1342 : decode cL_law 1342 = .ok (.ifCond .ne 15, 3) := by decide +kernel
theorem eL_law_1357 : decode cL_law 1357 = .ok (.goto 284, 3) := by decide +kernel
theorem eL_law_1360 : decode cL_law 1360 = .ok (.aload_n 1, 1) := by decide +kernel
theorem eL_law_1361 : decode cL_law 1361 = .ok (.aload_n 0, 1) := by decide +kernel
theorem eL_law_1362 : decode cL_law 1362 = .ok (.iload 4, 2) := by decide +kernel
theorem eL_law_1364 : decode cL_law 1364 = .ok (.iconst 1, 1) := by decide +kernel
theorem eL_law_1365 : decode cL_law 1365 = .ok (.iadd, 1) := by decide +kernel
theorem eL_law_1366 : decode cL_law 1366 = .ok (.iaload, 1) := by decide +kernel
theorem eL_law_1367 : decode cL_law 1367 = .ok (.aload_n 3, 1) := by decide +kernel
theorem eL_law_1368 : decode cL_law 1368 = .ok (.invokestatic 182, 3) := by decide +kernel
theorem eL_law_1371 : decode cL_law 1371 = .ok (.istore 5, 2) := by decide +kernel
theorem eL_law_1373 : decode cL_law 1373 = .ok (.aload_n 2, 1) := by decide +kernel
theorem eL_law_1374 : decode cL_law 1374 = .ok (.aload_n 0, 1) := by decide +kernel
theorem eL_law_1375 : decode cL_law 1375 = .ok (.iload 4, 2) := by decide +kernel
theorem eL_law_1377 : decode cL_law 1377 = .ok (.iconst 1, 1) := by decide +kernel
theorem eL_law_1378 : decode cL_law 1378 = .ok (.iadd, 1) := by decide +kernel
theorem eL_law_1379 : decode cL_law 1379 = .ok (.iaload, 1) := by decide +kernel
theorem eL_law_1380 : decode cL_law 1380 = .ok (.invokevirtual 184, 3) := by decide +kernel
theorem eL_law_1383 : decode cL_law 1383 = .ok (.istore 6, 2) := by decide +kernel
theorem eL_law_1385 : decode cL_law 1385 = .ok (.aload_n 2, 1) := by decide +kernel
theorem eL_law_1386 : decode cL_law 1386 = .ok (.invokevirtual 103, 3) := by decide +kernel
theorem eL_law_1389 : decode cL_law 1389 = .ok (.iload 5, 2) := by decide +kernel
theorem eL_law_1391 : decode cL_law 1391 = .ok (.if_icmp .eq 5, 3) := by decide +kernel
theorem eL_law_1396 : decode cL_law 1396 = .ok (.iload 5, 2) := by decide +kernel
theorem eL_law_1398 : decode cL_law 1398 = .ok (.ifCond .ne 15, 3) := by decide +kernel
theorem eL_law_1413 : decode cL_law 1413 = .ok (.goto 228, 3) := by decide +kernel
theorem eL_law_1416 : decode cL_law 1416 = .ok (.aload_n 1, 1) := by decide +kernel
theorem eL_law_1417 : decode cL_law 1417 = .ok (.aload_n 0, 1) := by decide +kernel
theorem eL_law_1418 : decode cL_law 1418 = .ok (.iload 4, 2) := by decide +kernel
theorem eL_law_1420 : decode cL_law 1420 = .ok (.iconst 1, 1) := by decide +kernel
theorem eL_law_1421 : decode cL_law 1421 = .ok (.iadd, 1) := by decide +kernel
theorem eL_law_1422 : decode cL_law 1422 = .ok (.iaload, 1) := by decide +kernel
theorem eL_law_1423 : decode cL_law 1423 = .ok (.aload_n 3, 1) := by decide +kernel
theorem eL_law_1424 : decode cL_law 1424 = .ok (.invokestatic 185, 3) := by decide +kernel
theorem eL_law_1427 : decode cL_law 1427 = .ok (.istore 5, 2) := by decide +kernel
theorem eL_law_1429 : decode cL_law 1429 = .ok (.aload_n 2, 1) := by decide +kernel
theorem eL_law_1430 : decode cL_law 1430 = .ok (.aload_n 0, 1) := by decide +kernel
theorem eL_law_1431 : decode cL_law 1431 = .ok (.iload 4, 2) := by decide +kernel
theorem eL_law_1433 : decode cL_law 1433 = .ok (.iconst 1, 1) := by decide +kernel
theorem eL_law_1434 : decode cL_law 1434 = .ok (.iadd, 1) := by decide +kernel
theorem eL_law_1435 : decode cL_law 1435 = .ok (.iaload, 1) := by decide +kernel
theorem eL_law_1436 : decode cL_law 1436 = .ok (.invokevirtual 187, 3) := by decide +kernel
theorem eL_law_1439 : decode cL_law 1439 = .ok (.istore 6, 2) := by decide +kernel
theorem eL_law_1441 : decode cL_law 1441 = .ok (.aload_n 2, 1) := by decide +kernel
theorem eL_law_1442 : decode cL_law 1442 = .ok (.invokevirtual 103, 3) := by decide +kernel
theorem eL_law_1445 : decode cL_law 1445 = .ok (.iload 5, 2) := by decide +kernel
theorem eL_law_1447 : decode cL_law 1447 = .ok (.if_icmp .eq 5, 3) := by decide +kernel
theorem eL_law_1452 : decode cL_law 1452 = .ok (.iload 5, 2) := by decide +kernel
theorem eL_law_1454 : decode cL_law 1454 = .ok (.ifCond .ne 15, 3) := by decide +kernel
theorem eL_law_1469 : decode cL_law 1469 = .ok (.goto 172, 3) := by decide +kernel
theorem eL_law_1472 : decode cL_law 1472 = .ok (.aload_n 1, 1) := by decide +kernel
theorem eL_law_1473 : decode cL_law 1473 = .ok (.aload_n 3, 1) := by decide +kernel
theorem eL_law_1474 : decode cL_law 1474 = .ok (.invokestatic 188, 3) := by decide +kernel
theorem eL_law_1477 : decode cL_law 1477 = .ok (.istore 5, 2) := by decide +kernel
theorem eL_law_1479 : decode cL_law 1479 = .ok (.aload_n 2, 1) := by decide +kernel
theorem eL_law_1480 : decode cL_law 1480 = .ok (.invokevirtual 190, 3) := by decide +kernel
theorem eL_law_1483 : decode cL_law 1483 = .ok (.istore 6, 2) := by decide +kernel
theorem eL_law_1485 : decode cL_law 1485 = .ok (.aload_n 2, 1) := by decide +kernel
theorem eL_law_1486 : decode cL_law 1486 = .ok (.invokevirtual 103, 3) := by decide +kernel
theorem eL_law_1489 : decode cL_law 1489 = .ok (.iload 5, 2) := by decide +kernel
theorem eL_law_1491 : decode cL_law 1491 = .ok (.if_icmp .eq 5, 3) := by decide +kernel
theorem eL_law_1496 : decode cL_law 1496 = .ok (.iload 5, 2) := by decide +kernel
theorem eL_law_1498 : decode cL_law 1498 = .ok (.ifCond .ne 15, 3) := by decide +kernel
theorem eL_law_1513 : decode cL_law 1513 = .ok (.goto 128, 3) := by decide +kernel
theorem eL_law_1516 : decode cL_law 1516 = .ok (.aload_n 1, 1) := by decide +kernel
theorem eL_law_1517 : decode cL_law 1517 = .ok (.aload_n 0, 1) := by decide +kernel
theorem eL_law_1518 : decode cL_law 1518 = .ok (.iload 4, 2) := by decide +kernel
theorem eL_law_1520 : decode cL_law 1520 = .ok (.iconst 1, 1) := by decide +kernel
theorem eL_law_1521 : decode cL_law 1521 = .ok (.iadd, 1) := by decide +kernel
theorem eL_law_1522 : decode cL_law 1522 = .ok (.iaload, 1) := by decide +kernel
theorem eL_law_1523 : decode cL_law 1523 = .ok (.aload_n 0, 1) := by decide +kernel
theorem eL_law_1524 : decode cL_law 1524 = .ok (.iload 4, 2) := by decide +kernel
theorem eL_law_1526 : decode cL_law 1526 = .ok (.iconst 2, 1) := by decide +kernel
theorem eL_law_1527 : decode cL_law 1527 = .ok (.iadd, 1) := by decide +kernel
theorem eL_law_1528 : decode cL_law 1528 = .ok (.iaload, 1) := by decide +kernel
