/-! decode rows of the law -/
theorem dL_at_0 : decode cL_at 0 = .ok (.iload_n 1, 1) := by decide +kernel
theorem dL_at_1 : decode cL_at 1 = .ok (.aload_n 0, 1) := by decide +kernel
theorem dL_at_2 : decode cL_at 2 = .ok (.arraylength, 1) := by decide +kernel
theorem dL_at_3 : decode cL_at 3 = .ok (.if_icmp .ge 9, 3) := by decide +kernel
theorem dL_at_6 : decode cL_at 6 = .ok (.aload_n 0, 1) := by decide +kernel
theorem dL_at_7 : decode cL_at 7 = .ok (.iload_n 1, 1) := by decide +kernel
theorem dL_at_8 : decode cL_at 8 = .ok (.iaload, 1) := by decide +kernel
theorem dL_at_9 : decode cL_at 9 = .ok (.goto 4, 3) := by decide +kernel
theorem dL_at_12 : decode cL_at 12 = .ok (.iconst 0, 1) := by decide +kernel
theorem dL_at_13 : decode cL_at 13 = .ok (.ireturn, 1) := by decide +kernel
theorem dL_some_0 : decode cL_some 0 = .ok (.iload_n 0, 1) := by decide +kernel
theorem dL_some_1 : decode cL_some 1 = .ok (.iload_n 1, 1) := by decide +kernel
theorem dL_some_2 : decode cL_some 2 = .ok (.irem, 1) := by decide +kernel
theorem dL_some_3 : decode cL_some 3 = .ok (.istore_n 2, 1) := by decide +kernel
theorem dL_some_4 : decode cL_some 4 = .ok (.iload_n 2, 1) := by decide +kernel
theorem dL_some_5 : decode cL_some 5 = .ok (.ifCond .ge 9, 3) := by decide +kernel
theorem dL_some_8 : decode cL_some 8 = .ok (.iload_n 2, 1) := by decide +kernel
theorem dL_some_9 : decode cL_some 9 = .ok (.iload_n 1, 1) := by decide +kernel
theorem dL_some_10 : decode cL_some 10 = .ok (.iadd, 1) := by decide +kernel
theorem dL_some_11 : decode cL_some 11 = .ok (.goto 4, 3) := by decide +kernel
theorem dL_some_14 : decode cL_some 14 = .ok (.iload_n 2, 1) := by decide +kernel
theorem dL_some_15 : decode cL_some 15 = .ok (.ireturn, 1) := by decide +kernel
theorem dL_append_0 : decode cL_append 0 = .ok (.aload_n 0, 1) := by decide +kernel
theorem dL_append_1 : decode cL_append 1 = .ok (.iload_n 1, 1) := by decide +kernel
theorem dL_append_2 : decode cL_append 2 = .ok (.invokevirtual 7, 3) := by decide +kernel
theorem dL_append_5 : decode cL_append 5 = .ok (.ireturn, 1) := by decide +kernel
theorem dL_append_6 : decode cL_append 6 = .ok (.astore_n 2, 1) := by decide +kernel
theorem dL_append_7 : decode cL_append 7 = .ok (.sipush (-1001), 3) := by decide +kernel
theorem dL_append_10 : decode cL_append 10 = .ok (.ireturn, 1) := by decide +kernel
theorem dL_colour_0 : decode cL_colour 0 = .ok (.aload_n 0, 1) := by decide +kernel
theorem dL_colour_1 : decode cL_colour 1 = .ok (.iload_n 1, 1) := by decide +kernel
theorem dL_colour_2 : decode cL_colour 2 = .ok (.invokevirtual 15, 3) := by decide +kernel
theorem dL_colour_5 : decode cL_colour 5 = .ok (.ireturn, 1) := by decide +kernel
theorem dL_colour_6 : decode cL_colour 6 = .ok (.astore_n 2, 1) := by decide +kernel
theorem dL_colour_7 : decode cL_colour 7 = .ok (.sipush (-1001), 3) := by decide +kernel
theorem dL_colour_10 : decode cL_colour 10 = .ok (.ireturn, 1) := by decide +kernel
theorem dL_part_0 : decode cL_part 0 = .ok (.aload_n 0, 1) := by decide +kernel
theorem dL_part_1 : decode cL_part 1 = .ok (.iload_n 1, 1) := by decide +kernel
theorem dL_part_2 : decode cL_part 2 = .ok (.invokevirtual 21, 3) := by decide +kernel
theorem dL_part_5 : decode cL_part 5 = .ok (.ireturn, 1) := by decide +kernel
theorem dL_part_6 : decode cL_part 6 = .ok (.astore_n 2, 1) := by decide +kernel
theorem dL_part_7 : decode cL_part 7 = .ok (.sipush (-1001), 3) := by decide +kernel
theorem dL_part_10 : decode cL_part 10 = .ok (.ireturn, 1) := by decide +kernel
theorem dL_family_0 : decode cL_family 0 = .ok (.aload_n 0, 1) := by decide +kernel
theorem dL_family_1 : decode cL_family 1 = .ok (.invokevirtual 24, 3) := by decide +kernel
theorem dL_family_4 : decode cL_family 4 = .ok (.ireturn, 1) := by decide +kernel
theorem dL_family_5 : decode cL_family 5 = .ok (.astore_n 1, 1) := by decide +kernel
theorem dL_family_6 : decode cL_family 6 = .ok (.sipush (-1001), 3) := by decide +kernel
theorem dL_family_9 : decode cL_family 9 = .ok (.ireturn, 1) := by decide +kernel
theorem dL_family_10 : decode cL_family 10 = .ok (.astore_n 1, 1) := by decide +kernel
theorem dL_family_11 : decode cL_family 11 = .ok (.sipush (-1002), 3) := by decide +kernel
theorem dL_family_14 : decode cL_family 14 = .ok (.ireturn, 1) := by decide +kernel
theorem dL_program_0 : decode cL_program 0 = .ok (.aload_n 0, 1) := by decide +kernel
theorem dL_program_1 : decode cL_program 1 = .ok (.invokevirtual 30, 3) := by decide +kernel
theorem dL_program_4 : decode cL_program 4 = .ok (.ireturn, 1) := by decide +kernel
theorem dL_program_5 : decode cL_program 5 = .ok (.astore_n 1, 1) := by decide +kernel
theorem dL_program_6 : decode cL_program 6 = .ok (.sipush (-1001), 3) := by decide +kernel
theorem dL_program_9 : decode cL_program 9 = .ok (.ireturn, 1) := by decide +kernel
theorem dL_program_10 : decode cL_program 10 = .ok (.astore_n 1, 1) := by decide +kernel
theorem dL_program_11 : decode cL_program 11 = .ok (.sipush (-1002), 3) := by decide +kernel
theorem dL_program_14 : decode cL_program 14 = .ok (.ireturn, 1) := by decide +kernel
theorem dL_mount_0 : decode cL_mount 0 = .ok (.aload_n 0, 1) := by decide +kernel
theorem dL_mount_1 : decode cL_mount 1 = .ok (.iload_n 1, 1) := by decide +kernel
theorem dL_mount_2 : decode cL_mount 2 = .ok (.invokevirtual 33, 3) := by decide +kernel
theorem dL_mount_5 : decode cL_mount 5 = .ok (.ireturn, 1) := by decide +kernel
theorem dL_mount_6 : decode cL_mount 6 = .ok (.astore_n 2, 1) := by decide +kernel
theorem dL_mount_7 : decode cL_mount 7 = .ok (.sipush (-1001), 3) := by decide +kernel
theorem dL_mount_10 : decode cL_mount 10 = .ok (.ireturn, 1) := by decide +kernel
theorem dL_load_0 : decode cL_load 0 = .ok (.aload_n 0, 1) := by decide +kernel
theorem dL_load_1 : decode cL_load 1 = .ok (.iload_n 1, 1) := by decide +kernel
theorem dL_load_2 : decode cL_load 2 = .ok (.iload_n 2, 1) := by decide +kernel
theorem dL_load_3 : decode cL_load 3 = .ok (.iload_n 3, 1) := by decide +kernel
theorem dL_load_4 : decode cL_load 4 = .ok (.invokevirtual 36, 3) := by decide +kernel
theorem dL_load_7 : decode cL_load 7 = .ok (.ireturn, 1) := by decide +kernel
theorem dL_load_8 : decode cL_load 8 = .ok (.astore 4, 2) := by decide +kernel
theorem dL_load_10 : decode cL_load 10 = .ok (.sipush (-1001), 3) := by decide +kernel
theorem dL_load_13 : decode cL_load 13 = .ok (.ireturn, 1) := by decide +kernel
theorem dL_empty_0 : decode cL_empty 0 = .ok (.aload_n 0, 1) := by decide +kernel
theorem dL_empty_1 : decode cL_empty 1 = .ok (.iload_n 1, 1) := by decide +kernel
theorem dL_empty_2 : decode cL_empty 2 = .ok (.invokevirtual 40, 3) := by decide +kernel
theorem dL_empty_5 : decode cL_empty 5 = .ok (.ireturn, 1) := by decide +kernel
theorem dL_empty_6 : decode cL_empty 6 = .ok (.astore_n 2, 1) := by decide +kernel
theorem dL_empty_7 : decode cL_empty 7 = .ok (.sipush (-1001), 3) := by decide +kernel
theorem dL_empty_10 : decode cL_empty 10 = .ok (.ireturn, 1) := by decide +kernel
theorem dL_pause_0 : decode cL_pause 0 = .ok (.aload_n 0, 1) := by decide +kernel
theorem dL_pause_1 : decode cL_pause 1 = .ok (.iload_n 1, 1) := by decide +kernel
theorem dL_pause_2 : decode cL_pause 2 = .ok (.invokevirtual 43, 3) := by decide +kernel
theorem dL_pause_5 : decode cL_pause 5 = .ok (.ireturn, 1) := by decide +kernel
theorem dL_pause_6 : decode cL_pause 6 = .ok (.astore_n 2, 1) := by decide +kernel
theorem dL_pause_7 : decode cL_pause 7 = .ok (.sipush (-1001), 3) := by decide +kernel
theorem dL_pause_10 : decode cL_pause 10 = .ok (.ireturn, 1) := by decide +kernel
theorem dL_run_0 : decode cL_run 0 = .ok (.aload_n 0, 1) := by decide +kernel
theorem dL_run_1 : decode cL_run 1 = .ok (.iload_n 1, 1) := by decide +kernel
theorem dL_run_2 : decode cL_run 2 = .ok (.iload_n 2, 1) := by decide +kernel
theorem dL_run_3 : decode cL_run 3 = .ok (.invokevirtual 46, 3) := by decide +kernel
theorem dL_run_6 : decode cL_run 6 = .ok (.ireturn, 1) := by decide +kernel
theorem dL_run_7 : decode cL_run 7 = .ok (.astore_n 3, 1) := by decide +kernel
theorem dL_run_8 : decode cL_run 8 = .ok (.sipush (-1001), 3) := by decide +kernel
theorem dL_run_11 : decode cL_run 11 = .ok (.ireturn, 1) := by decide +kernel
theorem dL_order_0 : decode cL_order 0 = .ok (.aload_n 0, 1) := by decide +kernel
theorem dL_order_1 : decode cL_order 1 = .ok (.iload_n 1, 1) := by decide +kernel
theorem dL_order_2 : decode cL_order 2 = .ok (.iload_n 2, 1) := by decide +kernel
theorem dL_order_3 : decode cL_order 3 = .ok (.iload_n 3, 1) := by decide +kernel
theorem dL_order_4 : decode cL_order 4 = .ok (.iload 4, 2) := by decide +kernel
theorem dL_order_6 : decode cL_order 6 = .ok (.invokevirtual 50, 3) := by decide +kernel
theorem dL_order_9 : decode cL_order 9 = .ok (.ireturn, 1) := by decide +kernel
theorem dL_order_10 : decode cL_order 10 = .ok (.astore 5, 2) := by decide +kernel
theorem dL_order_12 : decode cL_order 12 = .ok (.sipush (-1001), 3) := by decide +kernel
theorem dL_order_15 : decode cL_order 15 = .ok (.ireturn, 1) := by decide +kernel
theorem dL_callOff_0 : decode cL_callOff 0 = .ok (.aload_n 0, 1) := by decide +kernel
theorem dL_callOff_1 : decode cL_callOff 1 = .ok (.iload_n 1, 1) := by decide +kernel
theorem dL_callOff_2 : decode cL_callOff 2 = .ok (.invokevirtual 54, 3) := by decide +kernel
theorem dL_callOff_5 : decode cL_callOff 5 = .ok (.ireturn, 1) := by decide +kernel
theorem dL_callOff_6 : decode cL_callOff 6 = .ok (.astore_n 2, 1) := by decide +kernel
theorem dL_callOff_7 : decode cL_callOff 7 = .ok (.sipush (-1001), 3) := by decide +kernel
theorem dL_callOff_10 : decode cL_callOff 10 = .ok (.ireturn, 1) := by decide +kernel
theorem dL_set_0 : decode cL_set 0 = .ok (.aload_n 0, 1) := by decide +kernel
theorem dL_set_1 : decode cL_set 1 = .ok (.iload_n 1, 1) := by decide +kernel
theorem dL_set_2 : decode cL_set 2 = .ok (.iload_n 2, 1) := by decide +kernel
theorem dL_set_3 : decode cL_set 3 = .ok (.invokevirtual 57, 3) := by decide +kernel
theorem dL_set_6 : decode cL_set 6 = .ok (.ireturn, 1) := by decide +kernel
theorem dL_set_7 : decode cL_set 7 = .ok (.astore_n 3, 1) := by decide +kernel
theorem dL_set_8 : decode cL_set 8 = .ok (.sipush (-1001), 3) := by decide +kernel
theorem dL_set_11 : decode cL_set 11 = .ok (.ireturn, 1) := by decide +kernel
theorem dL_purge_0 : decode cL_purge 0 = .ok (.aload_n 0, 1) := by decide +kernel
theorem dL_purge_1 : decode cL_purge 1 = .ok (.iload_n 1, 1) := by decide +kernel
theorem dL_purge_2 : decode cL_purge 2 = .ok (.iload_n 2, 1) := by decide +kernel
theorem dL_purge_3 : decode cL_purge 3 = .ok (.invokevirtual 60, 3) := by decide +kernel
theorem dL_purge_6 : decode cL_purge 6 = .ok (.ireturn, 1) := by decide +kernel
theorem dL_purge_7 : decode cL_purge 7 = .ok (.astore_n 3, 1) := by decide +kernel
theorem dL_purge_8 : decode cL_purge 8 = .ok (.sipush (-1001), 3) := by decide +kernel
theorem dL_purge_11 : decode cL_purge 11 = .ok (.ireturn, 1) := by decide +kernel
theorem dL_minutes_0 : decode cL_minutes 0 = .ok (.aload_n 0, 1) := by decide +kernel
theorem dL_minutes_1 : decode cL_minutes 1 = .ok (.iload_n 1, 1) := by decide +kernel
theorem dL_minutes_2 : decode cL_minutes 2 = .ok (.iload_n 2, 1) := by decide +kernel
theorem dL_minutes_3 : decode cL_minutes 3 = .ok (.invokevirtual 65, 3) := by decide +kernel
theorem dL_minutes_6 : decode cL_minutes 6 = .ok (.ireturn, 1) := by decide +kernel
theorem dL_minutes_7 : decode cL_minutes 7 = .ok (.astore_n 3, 1) := by decide +kernel
theorem dL_minutes_8 : decode cL_minutes 8 = .ok (.sipush (-1001), 3) := by decide +kernel
theorem dL_minutes_11 : decode cL_minutes 11 = .ok (.ireturn, 1) := by decide +kernel
theorem dL_minutes_12 : decode cL_minutes 12 = .ok (.astore_n 3, 1) := by decide +kernel
theorem dL_minutes_13 : decode cL_minutes 13 = .ok (.sipush (-1002), 3) := by decide +kernel
theorem dL_minutes_16 : decode cL_minutes 16 = .ok (.ireturn, 1) := by decide +kernel
theorem dL_minutes_17 : decode cL_minutes 17 = .ok (.astore_n 3, 1) := by decide +kernel
theorem dL_minutes_18 : decode cL_minutes 18 = .ok (.sipush (-1003), 3) := by decide +kernel
theorem dL_minutes_21 : decode cL_minutes 21 = .ok (.ireturn, 1) := by decide +kernel
theorem dL_best_0 : decode cL_best 0 = .ok (.aload_n 0, 1) := by decide +kernel
theorem dL_best_1 : decode cL_best 1 = .ok (.iload_n 1, 1) := by decide +kernel
theorem dL_best_2 : decode cL_best 2 = .ok (.invokevirtual 68, 3) := by decide +kernel
theorem dL_best_5 : decode cL_best 5 = .ok (.ireturn, 1) := by decide +kernel
theorem dL_best_6 : decode cL_best 6 = .ok (.astore_n 2, 1) := by decide +kernel
theorem dL_best_7 : decode cL_best 7 = .ok (.sipush (-1001), 3) := by decide +kernel
theorem dL_best_10 : decode cL_best 10 = .ok (.ireturn, 1) := by decide +kernel
theorem dL_bestColour_0 : decode cL_bestColour 0 = .ok (.aload_n 0, 1) := by decide +kernel
theorem dL_bestColour_1 : decode cL_bestColour 1 = .ok (.iload_n 1, 1) := by decide +kernel
theorem dL_bestColour_2 : decode cL_bestColour 2 = .ok (.iload_n 2, 1) := by decide +kernel
theorem dL_bestColour_3 : decode cL_bestColour 3 = .ok (.invokevirtual 74, 3) := by decide +kernel
theorem dL_bestColour_6 : decode cL_bestColour 6 = .ok (.ireturn, 1) := by decide +kernel
theorem dL_bestColour_7 : decode cL_bestColour 7 = .ok (.astore_n 3, 1) := by decide +kernel
theorem dL_bestColour_8 : decode cL_bestColour 8 = .ok (.sipush (-1001), 3) := by decide +kernel
theorem dL_bestColour_11 : decode cL_bestColour 11 = .ok (.ireturn, 1) := by decide +kernel
theorem dL_bestColour_12 : decode cL_bestColour 12 = .ok (.astore_n 3, 1) := by decide +kernel
theorem dL_bestColour_13 : decode cL_bestColour 13 = .ok (.sipush (-1002), 3) := by decide +kernel
theorem dL_bestColour_16 : decode cL_bestColour 16 = .ok (.ireturn, 1) := by decide +kernel
theorem dL_familyOf_0 : decode cL_familyOf 0 = .ok (.aload_n 0, 1) := by decide +kernel
theorem dL_familyOf_1 : decode cL_familyOf 1 = .ok (.iload_n 1, 1) := by decide +kernel
theorem dL_familyOf_2 : decode cL_familyOf 2 = .ok (.iload_n 2, 1) := by decide +kernel
theorem dL_familyOf_3 : decode cL_familyOf 3 = .ok (.invokevirtual 79, 3) := by decide +kernel
theorem dL_familyOf_6 : decode cL_familyOf 6 = .ok (.ireturn, 1) := by decide +kernel
theorem dL_familyOf_7 : decode cL_familyOf 7 = .ok (.astore_n 3, 1) := by decide +kernel
theorem dL_familyOf_8 : decode cL_familyOf 8 = .ok (.sipush (-1001), 3) := by decide +kernel
theorem dL_familyOf_11 : decode cL_familyOf 11 = .ok (.ireturn, 1) := by decide +kernel
theorem dL_familyOf_12 : decode cL_familyOf 12 = .ok (.astore_n 3, 1) := by decide +kernel
theorem dL_familyOf_13 : decode cL_familyOf 13 = .ok (.sipush (-1002), 3) := by decide +kernel
theorem dL_familyOf_16 : decode cL_familyOf 16 = .ok (.ireturn, 1) := by decide +kernel
theorem dL_pieces_0 : decode cL_pieces 0 = .ok (.aload_n 0, 1) := by decide +kernel
theorem dL_pieces_1 : decode cL_pieces 1 = .ok (.iload_n 1, 1) := by decide +kernel
theorem dL_pieces_2 : decode cL_pieces 2 = .ok (.iload_n 2, 1) := by decide +kernel
theorem dL_pieces_3 : decode cL_pieces 3 = .ok (.invokevirtual 82, 3) := by decide +kernel
theorem dL_pieces_6 : decode cL_pieces 6 = .ok (.ireturn, 1) := by decide +kernel
theorem dL_pieces_7 : decode cL_pieces 7 = .ok (.astore_n 3, 1) := by decide +kernel
theorem dL_pieces_8 : decode cL_pieces 8 = .ok (.sipush (-1001), 3) := by decide +kernel
theorem dL_pieces_11 : decode cL_pieces 11 = .ok (.ireturn, 1) := by decide +kernel
theorem dL_families_0 : decode cL_families 0 = .ok (.aload_n 0, 1) := by decide +kernel
theorem dL_families_1 : decode cL_families 1 = .ok (.iload_n 1, 1) := by decide +kernel
theorem dL_families_2 : decode cL_families 2 = .ok (.invokevirtual 85, 3) := by decide +kernel
theorem dL_families_5 : decode cL_families 5 = .ok (.ireturn, 1) := by decide +kernel
theorem dL_families_6 : decode cL_families 6 = .ok (.astore_n 2, 1) := by decide +kernel
theorem dL_families_7 : decode cL_families 7 = .ok (.sipush (-1001), 3) := by decide +kernel
theorem dL_families_10 : decode cL_families 10 = .ok (.ireturn, 1) := by decide +kernel
theorem dL_dryer_0 : decode cL_dryer 0 = .ok (.aload_n 0, 1) := by decide +kernel
theorem dL_dryer_1 : decode cL_dryer 1 = .ok (.iload_n 1, 1) := by decide +kernel
theorem dL_dryer_2 : decode cL_dryer 2 = .ok (.iload_n 2, 1) := by decide +kernel
theorem dL_dryer_3 : decode cL_dryer 3 = .ok (.invokevirtual 88, 3) := by decide +kernel
theorem dL_dryer_6 : decode cL_dryer 6 = .ok (.ireturn, 1) := by decide +kernel
theorem dL_dryer_7 : decode cL_dryer 7 = .ok (.astore_n 3, 1) := by decide +kernel
theorem dL_dryer_8 : decode cL_dryer 8 = .ok (.sipush (-1001), 3) := by decide +kernel
theorem dL_dryer_11 : decode cL_dryer 11 = .ok (.ireturn, 1) := by decide +kernel
theorem dL_dryer_12 : decode cL_dryer 12 = .ok (.astore_n 3, 1) := by decide +kernel
theorem dL_dryer_13 : decode cL_dryer 13 = .ok (.sipush (-1002), 3) := by decide +kernel
theorem dL_dryer_16 : decode cL_dryer 16 = .ok (.ireturn, 1) := by decide +kernel
theorem dL_stock_0 : decode cL_stock 0 = .ok (.aload_n 0, 1) := by decide +kernel
theorem dL_stock_1 : decode cL_stock 1 = .ok (.iload_n 1, 1) := by decide +kernel
theorem dL_stock_2 : decode cL_stock 2 = .ok (.iload_n 2, 1) := by decide +kernel
theorem dL_stock_3 : decode cL_stock 3 = .ok (.iload_n 3, 1) := by decide +kernel
theorem dL_stock_4 : decode cL_stock 4 = .ok (.invokevirtual 91, 3) := by decide +kernel
theorem dL_stock_7 : decode cL_stock 7 = .ok (.ireturn, 1) := by decide +kernel
theorem dL_stock_8 : decode cL_stock 8 = .ok (.astore 4, 2) := by decide +kernel
theorem dL_stock_10 : decode cL_stock 10 = .ok (.sipush (-1001), 3) := by decide +kernel
theorem dL_stock_13 : decode cL_stock 13 = .ok (.ireturn, 1) := by decide +kernel
theorem dL_stock_14 : decode cL_stock 14 = .ok (.astore 4, 2) := by decide +kernel
theorem dL_stock_16 : decode cL_stock 16 = .ok (.sipush (-1002), 3) := by decide +kernel
theorem dL_stock_19 : decode cL_stock 19 = .ok (.ireturn, 1) := by decide +kernel
theorem dL_made_0 : decode cL_made 0 = .ok (.aload_n 0, 1) := by decide +kernel
theorem dL_made_1 : decode cL_made 1 = .ok (.iload_n 1, 1) := by decide +kernel
theorem dL_made_2 : decode cL_made 2 = .ok (.iload_n 2, 1) := by decide +kernel
theorem dL_made_3 : decode cL_made 3 = .ok (.invokevirtual 94, 3) := by decide +kernel
theorem dL_made_6 : decode cL_made 6 = .ok (.ireturn, 1) := by decide +kernel
theorem dL_made_7 : decode cL_made 7 = .ok (.astore_n 3, 1) := by decide +kernel
theorem dL_made_8 : decode cL_made 8 = .ok (.sipush (-1001), 3) := by decide +kernel
theorem dL_made_11 : decode cL_made 11 = .ok (.ireturn, 1) := by decide +kernel
theorem dL_made_12 : decode cL_made 12 = .ok (.astore_n 3, 1) := by decide +kernel
theorem dL_made_13 : decode cL_made 13 = .ok (.sipush (-1002), 3) := by decide +kernel
theorem dL_made_16 : decode cL_made 16 = .ok (.ireturn, 1) := by decide +kernel
theorem dL_orderOf_0 : decode cL_orderOf 0 = .ok (.aload_n 0, 1) := by decide +kernel
theorem dL_orderOf_1 : decode cL_orderOf 1 = .ok (.iload_n 1, 1) := by decide +kernel
theorem dL_orderOf_2 : decode cL_orderOf 2 = .ok (.iload_n 2, 1) := by decide +kernel
theorem dL_orderOf_3 : decode cL_orderOf 3 = .ok (.invokevirtual 97, 3) := by decide +kernel
theorem dL_orderOf_6 : decode cL_orderOf 6 = .ok (.ireturn, 1) := by decide +kernel
theorem dL_orderOf_7 : decode cL_orderOf 7 = .ok (.astore_n 3, 1) := by decide +kernel
theorem dL_orderOf_8 : decode cL_orderOf 8 = .ok (.sipush (-1001), 3) := by decide +kernel
theorem dL_orderOf_11 : decode cL_orderOf 11 = .ok (.ireturn, 1) := by decide +kernel
theorem dL_orderOf_12 : decode cL_orderOf 12 = .ok (.astore_n 3, 1) := by decide +kernel
theorem dL_orderOf_13 : decode cL_orderOf 13 = .ok (.sipush (-1002), 3) := by decide +kernel
theorem dL_orderOf_16 : decode cL_orderOf 16 = .ok (.ireturn, 1) := by decide +kernel
theorem dL_shots_0 : decode cL_shots 0 = .ok (.aload_n 0, 1) := by decide +kernel
theorem dL_shots_1 : decode cL_shots 1 = .ok (.iload_n 1, 1) := by decide +kernel
theorem dL_shots_2 : decode cL_shots 2 = .ok (.invokevirtual 100, 3) := by decide +kernel
theorem dL_shots_5 : decode cL_shots 5 = .ok (.ireturn, 1) := by decide +kernel
theorem dL_shots_6 : decode cL_shots 6 = .ok (.astore_n 2, 1) := by decide +kernel
theorem dL_shots_7 : decode cL_shots 7 = .ok (.sipush (-1001), 3) := by decide +kernel
theorem dL_shots_10 : decode cL_shots 10 = .ok (.ireturn, 1) := by decide +kernel
theorem dL_shots_11 : decode cL_shots 11 = .ok (.astore_n 2, 1) := by decide +kernel
theorem dL_shots_12 : decode cL_shots 12 = .ok (.sipush (-1002), 3) := by decide +kernel
theorem dL_shots_15 : decode cL_shots 15 = .ok (.ireturn, 1) := by decide +kernel
theorem dL_letter_0 : decode cL_letter 0 = .ok (.aload_n 0, 1) := by decide +kernel
theorem dL_letter_1 : decode cL_letter 1 = .ok (.iload_n 1, 1) := by decide +kernel
theorem dL_letter_2 : decode cL_letter 2 = .ok (.invokevirtual 103, 3) := by decide +kernel
theorem dL_letter_5 : decode cL_letter 5 = .ok (.ireturn, 1) := by decide +kernel
theorem dL_letter_6 : decode cL_letter 6 = .ok (.astore_n 2, 1) := by decide +kernel
theorem dL_letter_7 : decode cL_letter 7 = .ok (.sipush (-1001), 3) := by decide +kernel
theorem dL_letter_10 : decode cL_letter 10 = .ok (.ireturn, 1) := by decide +kernel
theorem dL_due_0 : decode cL_due 0 = .ok (.aload_n 0, 1) := by decide +kernel
theorem dL_due_1 : decode cL_due 1 = .ok (.iload_n 1, 1) := by decide +kernel
theorem dL_due_2 : decode cL_due 2 = .ok (.invokevirtual 107, 3) := by decide +kernel
theorem dL_due_5 : decode cL_due 5 = .ok (.ireturn, 1) := by decide +kernel
theorem dL_due_6 : decode cL_due 6 = .ok (.astore_n 2, 1) := by decide +kernel
theorem dL_due_7 : decode cL_due 7 = .ok (.sipush (-1001), 3) := by decide +kernel
theorem dL_due_10 : decode cL_due 10 = .ok (.ireturn, 1) := by decide +kernel
theorem dL_reason_0 : decode cL_reason 0 = .ok (.aload_n 0, 1) := by decide +kernel
theorem dL_reason_1 : decode cL_reason 1 = .ok (.iload_n 1, 1) := by decide +kernel
theorem dL_reason_2 : decode cL_reason 2 = .ok (.iload_n 2, 1) := by decide +kernel
theorem dL_reason_3 : decode cL_reason 3 = .ok (.invokevirtual 110, 3) := by decide +kernel
theorem dL_reason_6 : decode cL_reason 6 = .ok (.ireturn, 1) := by decide +kernel
theorem dL_reason_7 : decode cL_reason 7 = .ok (.astore_n 3, 1) := by decide +kernel
theorem dL_reason_8 : decode cL_reason 8 = .ok (.sipush (-1001), 3) := by decide +kernel
theorem dL_reason_11 : decode cL_reason 11 = .ok (.ireturn, 1) := by decide +kernel
theorem dL_reason_12 : decode cL_reason 12 = .ok (.astore_n 3, 1) := by decide +kernel
theorem dL_reason_13 : decode cL_reason 13 = .ok (.sipush (-1002), 3) := by decide +kernel
theorem dL_reason_16 : decode cL_reason 16 = .ok (.ireturn, 1) := by decide +kernel
theorem dL_scrap_0 : decode cL_scrap 0 = .ok (.aload_n 0, 1) := by decide +kernel
theorem dL_scrap_1 : decode cL_scrap 1 = .ok (.invokevirtual 114, 3) := by decide +kernel
theorem dL_scrap_4 : decode cL_scrap 4 = .ok (.freturn, 1) := by decide +kernel
theorem dL_scrap_5 : decode cL_scrap 5 = .ok (.astore_n 1, 1) := by decide +kernel
theorem dL_scrap_6 : decode cL_scrap 6 = .ok (.ldc 120, 2) := by decide +kernel
theorem dL_scrap_8 : decode cL_scrap 8 = .ok (.freturn, 1) := by decide +kernel
theorem dL_lateness_0 : decode cL_lateness 0 = .ok (.aload_n 0, 1) := by decide +kernel
theorem dL_lateness_1 : decode cL_lateness 1 = .ok (.invokevirtual 121, 3) := by decide +kernel
theorem dL_lateness_4 : decode cL_lateness 4 = .ok (.dreturn, 1) := by decide +kernel
theorem dL_lateness_5 : decode cL_lateness 5 = .ok (.astore_n 1, 1) := by decide +kernel
theorem dL_lateness_6 : decode cL_lateness 6 = .ok (.ldc2_w 125, 3) := by decide +kernel
theorem dL_lateness_9 : decode cL_lateness 9 = .ok (.dreturn, 1) := by decide +kernel
theorem dL_account_0 : decode cL_account 0 = .ok (.aload_n 0, 1) := by decide +kernel
theorem dL_account_1 : decode cL_account 1 = .ok (.iload_n 1, 1) := by decide +kernel
theorem dL_account_2 : decode cL_account 2 = .ok (.invokevirtual 127, 3) := by decide +kernel
theorem dL_account_5 : decode cL_account 5 = .ok (.ireturn, 1) := by decide +kernel
theorem dL_account_6 : decode cL_account 6 = .ok (.astore_n 2, 1) := by decide +kernel
theorem dL_account_7 : decode cL_account 7 = .ok (.sipush (-1001), 3) := by decide +kernel
theorem dL_account_10 : decode cL_account 10 = .ok (.ireturn, 1) := by decide +kernel
theorem dL_undo_0 : decode cL_undo 0 = .ok (.aload_n 0, 1) := by decide +kernel
theorem dL_undo_1 : decode cL_undo 1 = .ok (.invokevirtual 130, 3) := by decide +kernel
theorem dL_undo_4 : decode cL_undo 4 = .ok (.ireturn, 1) := by decide +kernel
theorem dL_undo_5 : decode cL_undo 5 = .ok (.astore_n 1, 1) := by decide +kernel
theorem dL_undo_6 : decode cL_undo 6 = .ok (.sipush (-1001), 3) := by decide +kernel
theorem dL_undo_9 : decode cL_undo 9 = .ok (.ireturn, 1) := by decide +kernel
theorem dL_restore_0 : decode cL_restore 0 = .ok (.aload_n 0, 1) := by decide +kernel
theorem dL_restore_1 : decode cL_restore 1 = .ok (.invokevirtual 133, 3) := by decide +kernel
theorem dL_restore_4 : decode cL_restore 4 = .ok (.ireturn, 1) := by decide +kernel
theorem dL_restore_5 : decode cL_restore 5 = .ok (.astore_n 1, 1) := by decide +kernel
theorem dL_restore_6 : decode cL_restore 6 = .ok (.sipush (-1001), 3) := by decide +kernel
theorem dL_restore_9 : decode cL_restore 9 = .ok (.ireturn, 1) := by decide +kernel
theorem dL_feeds_0 : decode cL_feeds 0 = .ok (.iconst 0, 1) := by decide +kernel
theorem dL_feeds_1 : decode cL_feeds 1 = .ok (.istore_n 2, 1) := by decide +kernel
theorem dL_feeds_2 : decode cL_feeds 2 = .ok (.iload_n 2, 1) := by decide +kernel
theorem dL_feeds_3 : decode cL_feeds 3 = .ok (.aload_n 1, 1) := by decide +kernel
theorem dL_feeds_4 : decode cL_feeds 4 = .ok (.invokevirtual 136, 3) := by decide +kernel
theorem dL_feeds_7 : decode cL_feeds 7 = .ok (.if_icmp .ge 26, 3) := by decide +kernel
theorem dL_feeds_10 : decode cL_feeds 10 = .ok (.aload_n 0, 1) := by decide +kernel
theorem dL_feeds_11 : decode cL_feeds 11 = .ok (.aload_n 1, 1) := by decide +kernel
theorem dL_feeds_12 : decode cL_feeds 12 = .ok (.iload_n 2, 1) := by decide +kernel
theorem dL_feeds_13 : decode cL_feeds 13 = .ok (.invokevirtual 141, 3) := by decide +kernel
theorem dL_feeds_16 : decode cL_feeds 16 = .ok (.invokestatic 144, 3) := by decide +kernel
theorem dL_feeds_19 : decode cL_feeds 19 = .ok (.iload_n 2, 1) := by decide +kernel
theorem dL_feeds_20 : decode cL_feeds 20 = .ok (.iconst 1, 1) := by decide +kernel
theorem dL_feeds_21 : decode cL_feeds 21 = .ok (.iadd, 1) := by decide +kernel
theorem dL_feeds_22 : decode cL_feeds 22 = .ok (.if_icmp .eq 5, 3) := by decide +kernel
theorem dL_feeds_25 : decode cL_feeds 25 = .ok (.iconst 0, 1) := by decide +kernel
theorem dL_feeds_26 : decode cL_feeds 26 = .ok (.ireturn, 1) := by decide +kernel
theorem dL_feeds_27 : decode cL_feeds 27 = .ok (.iinc 2 1, 3) := by decide +kernel
theorem dL_feeds_30 : decode cL_feeds 30 = .ok (.goto (-28), 3) := by decide +kernel
theorem dL_feeds_33 : decode cL_feeds 33 = .ok (.iconst 1, 1) := by decide +kernel
theorem dL_feeds_34 : decode cL_feeds 34 = .ok (.ireturn, 1) := by decide +kernel
theorem dL_told_0 : decode cL_told 0 = .ok (.aload_n 0, 1) := by decide +kernel
theorem dL_told_1 : decode cL_told 1 = .ok (.aload_n 1, 1) := by decide +kernel
theorem dL_told_2 : decode cL_told 2 = .ok (.invokestatic 149, 3) := by decide +kernel
theorem dL_told_5 : decode cL_told 5 = .ok (.ifCond .eq 10, 3) := by decide +kernel
theorem dL_told_8 : decode cL_told 8 = .ok (.aload_n 0, 1) := by decide +kernel
theorem dL_told_9 : decode cL_told 9 = .ok (.invokestatic 153, 3) := by decide +kernel
theorem dL_told_12 : decode cL_told 12 = .ok (.goto 5, 3) := by decide +kernel
theorem dL_told_15 : decode cL_told 15 = .ok (.bipush (-99), 2) := by decide +kernel
theorem dL_told_17 : decode cL_told 17 = .ok (.ireturn, 1) := by decide +kernel
theorem dL_does_0 : decode cL_does 0 = .ok (.aload_n 0, 1) := by decide +kernel
theorem dL_does_1 : decode cL_does 1 = .ok (.aload_n 1, 1) := by decide +kernel
theorem dL_does_2 : decode cL_does 2 = .ok (.invokestatic 149, 3) := by decide +kernel
theorem dL_does_5 : decode cL_does 5 = .ok (.ifCond .eq 10, 3) := by decide +kernel
theorem dL_does_8 : decode cL_does 8 = .ok (.aload_n 0, 1) := by decide +kernel
theorem dL_does_9 : decode cL_does 9 = .ok (.invokestatic 156, 3) := by decide +kernel
theorem dL_does_12 : decode cL_does 12 = .ok (.goto 5, 3) := by decide +kernel
theorem dL_does_15 : decode cL_does 15 = .ok (.bipush (-99), 2) := by decide +kernel
theorem dL_does_17 : decode cL_does 17 = .ok (.ireturn, 1) := by decide +kernel
theorem dL_is_0 : decode cL_is 0 = .ok (.aload_n 0, 1) := by decide +kernel
theorem dL_is_1 : decode cL_is 1 = .ok (.iload_n 1, 1) := by decide +kernel
theorem dL_is_2 : decode cL_is 2 = .ok (.iconst 0, 1) := by decide +kernel
theorem dL_is_3 : decode cL_is 3 = .ok (.invokestatic 158, 3) := by decide +kernel
theorem dL_is_6 : decode cL_is 6 = .ok (.iload_n 2, 1) := by decide +kernel
theorem dL_is_7 : decode cL_is 7 = .ok (.if_icmp .ne 17, 3) := by decide +kernel
theorem dL_is_10 : decode cL_is 10 = .ok (.aload_n 0, 1) := by decide +kernel
theorem dL_is_11 : decode cL_is 11 = .ok (.iload_n 1, 1) := by decide +kernel
theorem dL_is_12 : decode cL_is 12 = .ok (.iconst 1, 1) := by decide +kernel
theorem dL_is_13 : decode cL_is 13 = .ok (.invokestatic 158, 3) := by decide +kernel
theorem dL_is_16 : decode cL_is 16 = .ok (.iload_n 3, 1) := by decide +kernel
theorem dL_is_17 : decode cL_is 17 = .ok (.if_icmp .ne 7, 3) := by decide +kernel
theorem dL_is_20 : decode cL_is 20 = .ok (.iconst 1, 1) := by decide +kernel
theorem dL_is_21 : decode cL_is 21 = .ok (.goto 4, 3) := by decide +kernel
theorem dL_is_24 : decode cL_is 24 = .ok (.iconst 0, 1) := by decide +kernel
theorem dL_is_25 : decode cL_is 25 = .ok (.ireturn, 1) := by decide +kernel
theorem dL_makes_0 : decode cL_makes 0 = .ok (.iconst 0, 1) := by decide +kernel
theorem dL_makes_1 : decode cL_makes 1 = .ok (.istore_n 2, 1) := by decide +kernel
theorem dL_makes_2 : decode cL_makes 2 = .ok (.iload_n 2, 1) := by decide +kernel
theorem dL_makes_3 : decode cL_makes 3 = .ok (.iconst 4, 1) := by decide +kernel
theorem dL_makes_4 : decode cL_makes 4 = .ok (.if_icmp .ge 29, 3) := by decide +kernel
theorem dL_makes_7 : decode cL_makes 7 = .ok (.aload_n 0, 1) := by decide +kernel
theorem dL_makes_8 : decode cL_makes 8 = .ok (.aload_n 1, 1) := by decide +kernel
theorem dL_makes_9 : decode cL_makes 9 = .ok (.iload_n 2, 1) := by decide +kernel
theorem dL_makes_10 : decode cL_makes 10 = .ok (.invokestatic 161, 3) := by decide +kernel
theorem dL_makes_13 : decode cL_makes 13 = .ok (.bipush 10, 2) := by decide +kernel
theorem dL_makes_15 : decode cL_makes 15 = .ok (.invokestatic 165, 3) := by decide +kernel
theorem dL_makes_18 : decode cL_makes 18 = .ok (.invokestatic 168, 3) := by decide +kernel
theorem dL_makes_21 : decode cL_makes 21 = .ok (.iload_n 2, 1) := by decide +kernel
theorem dL_makes_22 : decode cL_makes 22 = .ok (.if_icmp .eq 5, 3) := by decide +kernel
theorem dL_makes_25 : decode cL_makes 25 = .ok (.iconst 0, 1) := by decide +kernel
theorem dL_makes_26 : decode cL_makes 26 = .ok (.ireturn, 1) := by decide +kernel
theorem dL_makes_27 : decode cL_makes 27 = .ok (.iinc 2 1, 3) := by decide +kernel
theorem dL_makes_30 : decode cL_makes 30 = .ok (.goto (-28), 3) := by decide +kernel
theorem dL_makes_33 : decode cL_makes 33 = .ok (.iconst 0, 1) := by decide +kernel
theorem dL_makes_34 : decode cL_makes 34 = .ok (.istore_n 2, 1) := by decide +kernel
theorem dL_makes_35 : decode cL_makes 35 = .ok (.iload_n 2, 1) := by decide +kernel
theorem dL_makes_36 : decode cL_makes 36 = .ok (.iconst 4, 1) := by decide +kernel
theorem dL_makes_37 : decode cL_makes 37 = .ok (.if_icmp .ge 33, 3) := by decide +kernel
theorem dL_makes_40 : decode cL_makes 40 = .ok (.aload_n 0, 1) := by decide +kernel
theorem dL_makes_41 : decode cL_makes 41 = .ok (.iconst 1, 1) := by decide +kernel
theorem dL_makes_42 : decode cL_makes 42 = .ok (.aload_n 1, 1) := by decide +kernel
theorem dL_makes_43 : decode cL_makes 43 = .ok (.iconst 4, 1) := by decide +kernel
theorem dL_makes_44 : decode cL_makes 44 = .ok (.iload_n 2, 1) := by decide +kernel
theorem dL_makes_45 : decode cL_makes 45 = .ok (.iadd, 1) := by decide +kernel
theorem dL_makes_46 : decode cL_makes 46 = .ok (.invokestatic 161, 3) := by decide +kernel
theorem dL_makes_49 : decode cL_makes 49 = .ok (.bipush 30, 2) := by decide +kernel
theorem dL_makes_51 : decode cL_makes 51 = .ok (.invokestatic 165, 3) := by decide +kernel
theorem dL_makes_54 : decode cL_makes 54 = .ok (.iadd, 1) := by decide +kernel
theorem dL_makes_55 : decode cL_makes 55 = .ok (.invokestatic 171, 3) := by decide +kernel
theorem dL_makes_58 : decode cL_makes 58 = .ok (.iload_n 2, 1) := by decide +kernel
theorem dL_makes_59 : decode cL_makes 59 = .ok (.if_icmp .eq 5, 3) := by decide +kernel
theorem dL_makes_62 : decode cL_makes 62 = .ok (.iconst 0, 1) := by decide +kernel
theorem dL_makes_63 : decode cL_makes 63 = .ok (.ireturn, 1) := by decide +kernel
theorem dL_makes_64 : decode cL_makes 64 = .ok (.iinc 2 1, 3) := by decide +kernel
theorem dL_makes_67 : decode cL_makes 67 = .ok (.goto (-32), 3) := by decide +kernel
theorem dL_makes_70 : decode cL_makes 70 = .ok (.iconst 0, 1) := by decide +kernel
theorem dL_makes_71 : decode cL_makes 71 = .ok (.istore_n 2, 1) := by decide +kernel
theorem dL_makes_72 : decode cL_makes 72 = .ok (.iload_n 2, 1) := by decide +kernel
theorem dL_makes_73 : decode cL_makes 73 = .ok (.iconst 3, 1) := by decide +kernel
theorem dL_makes_74 : decode cL_makes 74 = .ok (.if_icmp .ge 145, 3) := by decide +kernel
theorem dL_makes_77 : decode cL_makes 77 = .ok (.aload_n 1, 1) := by decide +kernel
theorem dL_makes_78 : decode cL_makes 78 = .ok (.bipush 8, 2) := by decide +kernel
theorem dL_makes_80 : decode cL_makes 80 = .ok (.iload_n 2, 1) := by decide +kernel
theorem dL_makes_81 : decode cL_makes 81 = .ok (.iadd, 1) := by decide +kernel
theorem dL_makes_82 : decode cL_makes 82 = .ok (.invokestatic 161, 3) := by decide +kernel
theorem dL_makes_85 : decode cL_makes 85 = .ok (.istore_n 3, 1) := by decide +kernel
theorem dL_makes_86 : decode cL_makes 86 = .ok (.new 173, 3) := by decide +kernel
theorem dL_makes_89 : decode cL_makes 89 = .ok (.dup, 1) := by decide +kernel
theorem dL_makes_90 : decode cL_makes 90 = .ok (.invokespecial 175, 3) := by decide +kernel
theorem dL_makes_93 : decode cL_makes 93 = .ok (.astore 4, 2) := by decide +kernel
theorem dL_makes_95 : decode cL_makes 95 = .ok (.aload 4, 2) := by decide +kernel
theorem dL_makes_97 : decode cL_makes 97 = .ok (.iconst 1, 1) := by decide +kernel
theorem dL_makes_98 : decode cL_makes 98 = .ok (.iload_n 3, 1) := by decide +kernel
theorem dL_makes_99 : decode cL_makes 99 = .ok (.bipush 9, 2) := by decide +kernel
theorem dL_makes_101 : decode cL_makes 101 = .ok (.invokestatic 165, 3) := by decide +kernel
theorem dL_makes_104 : decode cL_makes 104 = .ok (.iadd, 1) := by decide +kernel
theorem dL_makes_105 : decode cL_makes 105 = .ok (.invokevirtual 176, 3) := by decide +kernel
theorem dL_makes_108 : decode cL_makes 108 = .ok (.bipush 32, 2) := by decide +kernel
theorem dL_makes_110 : decode cL_makes 110 = .ok (.invokevirtual 179, 3) := by decide +kernel
theorem dL_makes_113 : decode cL_makes 113 = .ok (.iconst 1, 1) := by decide +kernel
theorem dL_makes_114 : decode cL_makes 114 = .ok (.iload_n 3, 1) := by decide +kernel
theorem dL_makes_115 : decode cL_makes 115 = .ok (.iconst 2, 1) := by decide +kernel
theorem dL_makes_116 : decode cL_makes 116 = .ok (.ishr, 1) := by decide +kernel
theorem dL_makes_117 : decode cL_makes 117 = .ok (.bipush 99, 2) := by decide +kernel
theorem dL_makes_119 : decode cL_makes 119 = .ok (.invokestatic 165, 3) := by decide +kernel
theorem dL_makes_122 : decode cL_makes 122 = .ok (.iadd, 1) := by decide +kernel
theorem dL_makes_123 : decode cL_makes 123 = .ok (.invokevirtual 176, 3) := by decide +kernel
theorem dL_makes_126 : decode cL_makes 126 = .ok (.pop, 1) := by decide +kernel
theorem dL_makes_127 : decode cL_makes 127 = .ok (.iconst 1, 1) := by decide +kernel
theorem dL_makes_128 : decode cL_makes 128 = .ok (.iload_n 3, 1) := by decide +kernel
theorem dL_makes_129 : decode cL_makes 129 = .ok (.iconst 3, 1) := by decide +kernel
theorem dL_makes_130 : decode cL_makes 130 = .ok (.ishr, 1) := by decide +kernel
theorem dL_makes_131 : decode cL_makes 131 = .ok (.iconst 3, 1) := by decide +kernel
theorem dL_makes_132 : decode cL_makes 132 = .ok (.invokestatic 165, 3) := by decide +kernel
theorem dL_makes_135 : decode cL_makes 135 = .ok (.iadd, 1) := by decide +kernel
theorem dL_makes_136 : decode cL_makes 136 = .ok (.istore 5, 2) := by decide +kernel
theorem dL_makes_138 : decode cL_makes 138 = .ok (.iconst 0, 1) := by decide +kernel
theorem dL_makes_139 : decode cL_makes 139 = .ok (.istore 6, 2) := by decide +kernel
theorem dL_makes_141 : decode cL_makes 141 = .ok (.iload 6, 2) := by decide +kernel
theorem dL_makes_143 : decode cL_makes 143 = .ok (.iload 5, 2) := by decide +kernel
theorem dL_makes_145 : decode cL_makes 145 = .ok (.if_icmp .ge 53, 3) := by decide +kernel
theorem dL_makes_148 : decode cL_makes 148 = .ok (.aload 4, 2) := by decide +kernel
theorem dL_makes_150 : decode cL_makes 150 = .ok (.bipush 32, 2) := by decide +kernel
theorem dL_makes_152 : decode cL_makes 152 = .ok (.invokevirtual 179, 3) := by decide +kernel
theorem dL_makes_155 : decode cL_makes 155 = .ok (.iload_n 3, 1) := by decide +kernel
theorem dL_makes_156 : decode cL_makes 156 = .ok (.iconst 4, 1) := by decide +kernel
theorem dL_makes_157 : decode cL_makes 157 = .ok (.ishr, 1) := by decide +kernel
theorem dL_makes_158 : decode cL_makes 158 = .ok (.iconst 4, 1) := by decide +kernel
theorem dL_makes_159 : decode cL_makes 159 = .ok (.invokestatic 165, 3) := by decide +kernel
theorem dL_makes_162 : decode cL_makes 162 = .ok (.iload 6, 2) := by decide +kernel
theorem dL_makes_164 : decode cL_makes 164 = .ok (.iadd, 1) := by decide +kernel
theorem dL_makes_165 : decode cL_makes 165 = .ok (.iconst 4, 1) := by decide +kernel
theorem dL_makes_166 : decode cL_makes 166 = .ok (.irem, 1) := by decide +kernel
theorem dL_makes_167 : decode cL_makes 167 = .ok (.invokevirtual 176, 3) := by decide +kernel
theorem dL_makes_170 : decode cL_makes 170 = .ok (.bipush 120, 2) := by decide +kernel
theorem dL_makes_172 : decode cL_makes 172 = .ok (.invokevirtual 179, 3) := by decide +kernel
theorem dL_makes_175 : decode cL_makes 175 = .ok (.iconst 1, 1) := by decide +kernel
theorem dL_makes_176 : decode cL_makes 176 = .ok (.iload_n 3, 1) := by decide +kernel
theorem dL_makes_177 : decode cL_makes 177 = .ok (.iconst 5, 1) := by decide +kernel
theorem dL_makes_178 : decode cL_makes 178 = .ok (.iload 6, 2) := by decide +kernel
theorem dL_makes_180 : decode cL_makes 180 = .ok (.iadd, 1) := by decide +kernel
theorem dL_makes_181 : decode cL_makes 181 = .ok (.ishr, 1) := by decide +kernel
theorem dL_makes_182 : decode cL_makes 182 = .ok (.bipush 9, 2) := by decide +kernel
theorem dL_makes_184 : decode cL_makes 184 = .ok (.invokestatic 165, 3) := by decide +kernel
theorem dL_makes_187 : decode cL_makes 187 = .ok (.iadd, 1) := by decide +kernel
theorem dL_makes_188 : decode cL_makes 188 = .ok (.invokevirtual 176, 3) := by decide +kernel
theorem dL_makes_191 : decode cL_makes 191 = .ok (.pop, 1) := by decide +kernel
theorem dL_makes_192 : decode cL_makes 192 = .ok (.iinc 6 1, 3) := by decide +kernel
theorem dL_makes_195 : decode cL_makes 195 = .ok (.goto (-54), 3) := by decide +kernel
theorem dL_makes_198 : decode cL_makes 198 = .ok (.aload_n 0, 1) := by decide +kernel
theorem dL_makes_199 : decode cL_makes 199 = .ok (.aload 4, 2) := by decide +kernel
theorem dL_makes_201 : decode cL_makes 201 = .ok (.invokevirtual 182, 3) := by decide +kernel
theorem dL_makes_204 : decode cL_makes 204 = .ok (.invokestatic 186, 3) := by decide +kernel
theorem dL_makes_207 : decode cL_makes 207 = .ok (.iload_n 2, 1) := by decide +kernel
theorem dL_makes_208 : decode cL_makes 208 = .ok (.if_icmp .eq 5, 3) := by decide +kernel
theorem dL_makes_211 : decode cL_makes 211 = .ok (.iconst 0, 1) := by decide +kernel
theorem dL_makes_212 : decode cL_makes 212 = .ok (.ireturn, 1) := by decide +kernel
theorem dL_makes_213 : decode cL_makes 213 = .ok (.iinc 2 1, 3) := by decide +kernel
theorem dL_makes_216 : decode cL_makes 216 = .ok (.goto (-144), 3) := by decide +kernel
theorem dL_makes_219 : decode cL_makes 219 = .ok (.aload_n 0, 1) := by decide +kernel
theorem dL_makes_220 : decode cL_makes 220 = .ok (.iconst 0, 1) := by decide +kernel
theorem dL_makes_221 : decode cL_makes 221 = .ok (.bipush 60, 2) := by decide +kernel
theorem dL_makes_223 : decode cL_makes 223 = .ok (.aload_n 1, 1) := by decide +kernel
theorem dL_makes_224 : decode cL_makes 224 = .ok (.bipush 12, 2) := by decide +kernel
theorem dL_makes_226 : decode cL_makes 226 = .ok (.invokestatic 161, 3) := by decide +kernel
theorem dL_makes_229 : decode cL_makes 229 = .ok (.sipush 300, 3) := by decide +kernel
theorem dL_makes_232 : decode cL_makes 232 = .ok (.invokestatic 165, 3) := by decide +kernel
theorem dL_makes_235 : decode cL_makes 235 = .ok (.iadd, 1) := by decide +kernel
theorem dL_makes_236 : decode cL_makes 236 = .ok (.invokestatic 190, 3) := by decide +kernel
theorem dL_makes_239 : decode cL_makes 239 = .ok (.sipush 480, 3) := by decide +kernel
theorem dL_makes_242 : decode cL_makes 242 = .ok (.if_icmp .ne 69, 3) := by decide +kernel
theorem dL_makes_245 : decode cL_makes 245 = .ok (.aload_n 0, 1) := by decide +kernel
theorem dL_makes_246 : decode cL_makes 246 = .ok (.iconst 1, 1) := by decide +kernel
theorem dL_makes_247 : decode cL_makes 247 = .ok (.aload_n 1, 1) := by decide +kernel
theorem dL_makes_248 : decode cL_makes 248 = .ok (.bipush 13, 2) := by decide +kernel
theorem dL_makes_250 : decode cL_makes 250 = .ok (.invokestatic 161, 3) := by decide +kernel
theorem dL_makes_253 : decode cL_makes 253 = .ok (.bipush 90, 2) := by decide +kernel
theorem dL_makes_255 : decode cL_makes 255 = .ok (.invokestatic 165, 3) := by decide +kernel
theorem dL_makes_258 : decode cL_makes 258 = .ok (.invokestatic 190, 3) := by decide +kernel
theorem dL_makes_261 : decode cL_makes 261 = .ok (.bipush 60, 2) := by decide +kernel
theorem dL_makes_263 : decode cL_makes 263 = .ok (.if_icmp .ne 48, 3) := by decide +kernel
theorem dL_makes_266 : decode cL_makes 266 = .ok (.aload_n 0, 1) := by decide +kernel
theorem dL_makes_267 : decode cL_makes 267 = .ok (.iconst 2, 1) := by decide +kernel
theorem dL_makes_268 : decode cL_makes 268 = .ok (.aload_n 1, 1) := by decide +kernel
theorem dL_makes_269 : decode cL_makes 269 = .ok (.bipush 14, 2) := by decide +kernel
theorem dL_makes_271 : decode cL_makes 271 = .ok (.invokestatic 161, 3) := by decide +kernel
theorem dL_makes_274 : decode cL_makes 274 = .ok (.bipush 6, 2) := by decide +kernel
theorem dL_makes_276 : decode cL_makes 276 = .ok (.invokestatic 165, 3) := by decide +kernel
theorem dL_makes_279 : decode cL_makes 279 = .ok (.invokestatic 190, 3) := by decide +kernel
theorem dL_makes_282 : decode cL_makes 282 = .ok (.iconst 2, 1) := by decide +kernel
theorem dL_makes_283 : decode cL_makes 283 = .ok (.if_icmp .ne 28, 3) := by decide +kernel
theorem dL_makes_286 : decode cL_makes 286 = .ok (.aload_n 0, 1) := by decide +kernel
theorem dL_makes_287 : decode cL_makes 287 = .ok (.iconst 3, 1) := by decide +kernel
theorem dL_makes_288 : decode cL_makes 288 = .ok (.aload_n 1, 1) := by decide +kernel
theorem dL_makes_289 : decode cL_makes 289 = .ok (.bipush 15, 2) := by decide +kernel
theorem dL_makes_291 : decode cL_makes 291 = .ok (.invokestatic 161, 3) := by decide +kernel
theorem dL_makes_294 : decode cL_makes 294 = .ok (.bipush 40, 2) := by decide +kernel
theorem dL_makes_296 : decode cL_makes 296 = .ok (.invokestatic 165, 3) := by decide +kernel
theorem dL_makes_299 : decode cL_makes 299 = .ok (.invokestatic 190, 3) := by decide +kernel
theorem dL_makes_302 : decode cL_makes 302 = .ok (.bipush 10, 2) := by decide +kernel
theorem dL_makes_304 : decode cL_makes 304 = .ok (.if_icmp .ne 7, 3) := by decide +kernel
theorem dL_makes_307 : decode cL_makes 307 = .ok (.iconst 1, 1) := by decide +kernel
theorem dL_makes_308 : decode cL_makes 308 = .ok (.goto 4, 3) := by decide +kernel
theorem dL_makes_311 : decode cL_makes 311 = .ok (.iconst 0, 1) := by decide +kernel
theorem dL_makes_312 : decode cL_makes 312 = .ok (.ireturn, 1) := by decide +kernel
theorem dL_asks_0 : decode cL_asks 0 = .ok (.aload_n 0, 1) := by decide +kernel
theorem dL_asks_1 : decode cL_asks 1 = .ok (.invokestatic 193, 3) := by decide +kernel
theorem dL_asks_4 : decode cL_asks 4 = .ok (.invokestatic 196, 3) := by decide +kernel
theorem dL_asks_7 : decode cL_asks 7 = .ok (.aload_n 0, 1) := by decide +kernel
theorem dL_asks_8 : decode cL_asks 8 = .ok (.invokestatic 202, 3) := by decide +kernel
theorem dL_asks_11 : decode cL_asks 11 = .ok (.invokestatic 205, 3) := by decide +kernel
theorem dL_asks_14 : decode cL_asks 14 = .ok (.i2l, 1) := by decide +kernel
theorem dL_asks_15 : decode cL_asks 15 = .ok (.ladd, 1) := by decide +kernel
theorem dL_asks_16 : decode cL_asks 16 = .ok (.lstore_n 1, 1) := by decide +kernel
theorem dL_asks_17 : decode cL_asks 17 = .ok (.iconst 0, 1) := by decide +kernel
theorem dL_asks_18 : decode cL_asks 18 = .ok (.istore_n 3, 1) := by decide +kernel
theorem dL_asks_19 : decode cL_asks 19 = .ok (.iload_n 3, 1) := by decide +kernel
theorem dL_asks_20 : decode cL_asks 20 = .ok (.bipush 19, 2) := by decide +kernel
theorem dL_asks_22 : decode cL_asks 22 = .ok (.if_icmp .ge 28, 3) := by decide +kernel
theorem dL_asks_25 : decode cL_asks 25 = .ok (.iload_n 3, 1) := by decide +kernel
theorem dL_asks_26 : decode cL_asks 26 = .ok (.bipush 13, 2) := by decide +kernel
theorem dL_asks_28 : decode cL_asks 28 = .ok (.if_icmp .eq 16, 3) := by decide +kernel
theorem dL_asks_31 : decode cL_asks 31 = .ok (.ldc2_w 211, 3) := by decide +kernel
theorem dL_asks_34 : decode cL_asks 34 = .ok (.lload_n 1, 1) := by decide +kernel
theorem dL_asks_35 : decode cL_asks 35 = .ok (.lmul, 1) := by decide +kernel
theorem dL_asks_36 : decode cL_asks 36 = .ok (.aload_n 0, 1) := by decide +kernel
theorem dL_asks_37 : decode cL_asks 37 = .ok (.iload_n 3, 1) := by decide +kernel
theorem dL_asks_38 : decode cL_asks 38 = .ok (.invokestatic 213, 3) := by decide +kernel
theorem dL_asks_41 : decode cL_asks 41 = .ok (.i2l, 1) := by decide +kernel
theorem dL_asks_42 : decode cL_asks 42 = .ok (.ladd, 1) := by decide +kernel
theorem dL_asks_43 : decode cL_asks 43 = .ok (.lstore_n 1, 1) := by decide +kernel
theorem dL_asks_44 : decode cL_asks 44 = .ok (.iinc 3 1, 3) := by decide +kernel
theorem dL_asks_47 : decode cL_asks 47 = .ok (.goto (-28), 3) := by decide +kernel
theorem dL_asks_50 : decode cL_asks 50 = .ok (.iconst 0, 1) := by decide +kernel
theorem dL_asks_51 : decode cL_asks 51 = .ok (.istore_n 3, 1) := by decide +kernel
theorem dL_asks_52 : decode cL_asks 52 = .ok (.iload_n 3, 1) := by decide +kernel
theorem dL_asks_53 : decode cL_asks 53 = .ok (.aload_n 0, 1) := by decide +kernel
theorem dL_asks_54 : decode cL_asks 54 = .ok (.iconst 2, 1) := by decide +kernel
theorem dL_asks_55 : decode cL_asks 55 = .ok (.invokestatic 213, 3) := by decide +kernel
theorem dL_asks_58 : decode cL_asks 58 = .ok (.if_icmp .ge 39, 3) := by decide +kernel
theorem dL_asks_61 : decode cL_asks 61 = .ok (.iconst 0, 1) := by decide +kernel
theorem dL_asks_62 : decode cL_asks 62 = .ok (.istore 4, 2) := by decide +kernel
theorem dL_asks_64 : decode cL_asks 64 = .ok (.iload 4, 2) := by decide +kernel
theorem dL_asks_66 : decode cL_asks 66 = .ok (.iconst 5, 1) := by decide +kernel
theorem dL_asks_67 : decode cL_asks 67 = .ok (.if_icmp .ge 24, 3) := by decide +kernel
theorem dL_asks_70 : decode cL_asks 70 = .ok (.ldc2_w 211, 3) := by decide +kernel
theorem dL_asks_73 : decode cL_asks 73 = .ok (.lload_n 1, 1) := by decide +kernel
theorem dL_asks_74 : decode cL_asks 74 = .ok (.lmul, 1) := by decide +kernel
theorem dL_asks_75 : decode cL_asks 75 = .ok (.aload_n 0, 1) := by decide +kernel
theorem dL_asks_76 : decode cL_asks 76 = .ok (.iload_n 3, 1) := by decide +kernel
theorem dL_asks_77 : decode cL_asks 77 = .ok (.iload 4, 2) := by decide +kernel
theorem dL_asks_79 : decode cL_asks 79 = .ok (.invokestatic 215, 3) := by decide +kernel
theorem dL_asks_82 : decode cL_asks 82 = .ok (.i2l, 1) := by decide +kernel
theorem dL_asks_83 : decode cL_asks 83 = .ok (.ladd, 1) := by decide +kernel
theorem dL_asks_84 : decode cL_asks 84 = .ok (.lstore_n 1, 1) := by decide +kernel
theorem dL_asks_85 : decode cL_asks 85 = .ok (.iinc 4 1, 3) := by decide +kernel
theorem dL_asks_88 : decode cL_asks 88 = .ok (.goto (-24), 3) := by decide +kernel
theorem dL_asks_91 : decode cL_asks 91 = .ok (.iinc 3 1, 3) := by decide +kernel
theorem dL_asks_94 : decode cL_asks 94 = .ok (.goto (-42), 3) := by decide +kernel
theorem dL_asks_97 : decode cL_asks 97 = .ok (.iconst 0, 1) := by decide +kernel
theorem dL_asks_98 : decode cL_asks 98 = .ok (.istore_n 3, 1) := by decide +kernel
theorem dL_asks_99 : decode cL_asks 99 = .ok (.iload_n 3, 1) := by decide +kernel
theorem dL_asks_100 : decode cL_asks 100 = .ok (.iconst 3, 1) := by decide +kernel
theorem dL_asks_101 : decode cL_asks 101 = .ok (.if_icmp .ge 39, 3) := by decide +kernel
theorem dL_asks_104 : decode cL_asks 104 = .ok (.iconst 0, 1) := by decide +kernel
theorem dL_asks_105 : decode cL_asks 105 = .ok (.istore 4, 2) := by decide +kernel
theorem dL_asks_107 : decode cL_asks 107 = .ok (.iload 4, 2) := by decide +kernel
theorem dL_asks_109 : decode cL_asks 109 = .ok (.iconst 4, 1) := by decide +kernel
theorem dL_asks_110 : decode cL_asks 110 = .ok (.if_icmp .ge 24, 3) := by decide +kernel
theorem dL_asks_113 : decode cL_asks 113 = .ok (.ldc2_w 211, 3) := by decide +kernel
theorem dL_asks_116 : decode cL_asks 116 = .ok (.lload_n 1, 1) := by decide +kernel
theorem dL_asks_117 : decode cL_asks 117 = .ok (.lmul, 1) := by decide +kernel
theorem dL_asks_118 : decode cL_asks 118 = .ok (.aload_n 0, 1) := by decide +kernel
theorem dL_asks_119 : decode cL_asks 119 = .ok (.iload_n 3, 1) := by decide +kernel
theorem dL_asks_120 : decode cL_asks 120 = .ok (.iload 4, 2) := by decide +kernel
theorem dL_asks_122 : decode cL_asks 122 = .ok (.invokestatic 217, 3) := by decide +kernel
theorem dL_asks_125 : decode cL_asks 125 = .ok (.i2l, 1) := by decide +kernel
theorem dL_asks_126 : decode cL_asks 126 = .ok (.ladd, 1) := by decide +kernel
theorem dL_asks_127 : decode cL_asks 127 = .ok (.lstore_n 1, 1) := by decide +kernel
theorem dL_asks_128 : decode cL_asks 128 = .ok (.iinc 4 1, 3) := by decide +kernel
theorem dL_asks_131 : decode cL_asks 131 = .ok (.goto (-24), 3) := by decide +kernel
theorem dL_asks_134 : decode cL_asks 134 = .ok (.iinc 3 1, 3) := by decide +kernel
theorem dL_asks_137 : decode cL_asks 137 = .ok (.goto (-38), 3) := by decide +kernel
theorem dL_asks_140 : decode cL_asks 140 = .ok (.iconst 0, 1) := by decide +kernel
theorem dL_asks_141 : decode cL_asks 141 = .ok (.istore_n 3, 1) := by decide +kernel
theorem dL_asks_142 : decode cL_asks 142 = .ok (.iload_n 3, 1) := by decide +kernel
theorem dL_asks_143 : decode cL_asks 143 = .ok (.aload_n 0, 1) := by decide +kernel
theorem dL_asks_144 : decode cL_asks 144 = .ok (.iconst 1, 1) := by decide +kernel
theorem dL_asks_145 : decode cL_asks 145 = .ok (.invokestatic 213, 3) := by decide +kernel
theorem dL_asks_148 : decode cL_asks 148 = .ok (.if_icmp .ge 103, 3) := by decide +kernel
theorem dL_asks_151 : decode cL_asks 151 = .ok (.ldc2_w 211, 3) := by decide +kernel
theorem dL_asks_154 : decode cL_asks 154 = .ok (.lload_n 1, 1) := by decide +kernel
theorem dL_asks_155 : decode cL_asks 155 = .ok (.lmul, 1) := by decide +kernel
theorem dL_asks_156 : decode cL_asks 156 = .ok (.aload_n 0, 1) := by decide +kernel
theorem dL_asks_157 : decode cL_asks 157 = .ok (.iload_n 3, 1) := by decide +kernel
theorem dL_asks_158 : decode cL_asks 158 = .ok (.invokestatic 219, 3) := by decide +kernel
theorem dL_asks_161 : decode cL_asks 161 = .ok (.i2l, 1) := by decide +kernel
theorem dL_asks_162 : decode cL_asks 162 = .ok (.ladd, 1) := by decide +kernel
theorem dL_asks_163 : decode cL_asks 163 = .ok (.lstore_n 1, 1) := by decide +kernel
theorem dL_asks_164 : decode cL_asks 164 = .ok (.iconst 0, 1) := by decide +kernel
theorem dL_asks_165 : decode cL_asks 165 = .ok (.istore 4, 2) := by decide +kernel
theorem dL_asks_167 : decode cL_asks 167 = .ok (.iload 4, 2) := by decide +kernel
theorem dL_asks_169 : decode cL_asks 169 = .ok (.iconst 4, 1) := by decide +kernel
theorem dL_asks_170 : decode cL_asks 170 = .ok (.if_icmp .ge 24, 3) := by decide +kernel
theorem dL_asks_173 : decode cL_asks 173 = .ok (.ldc2_w 211, 3) := by decide +kernel
theorem dL_asks_176 : decode cL_asks 176 = .ok (.lload_n 1, 1) := by decide +kernel
theorem dL_asks_177 : decode cL_asks 177 = .ok (.lmul, 1) := by decide +kernel
theorem dL_asks_178 : decode cL_asks 178 = .ok (.aload_n 0, 1) := by decide +kernel
theorem dL_asks_179 : decode cL_asks 179 = .ok (.iload_n 3, 1) := by decide +kernel
theorem dL_asks_180 : decode cL_asks 180 = .ok (.iload 4, 2) := by decide +kernel
theorem dL_asks_182 : decode cL_asks 182 = .ok (.invokestatic 221, 3) := by decide +kernel
theorem dL_asks_185 : decode cL_asks 185 = .ok (.i2l, 1) := by decide +kernel
theorem dL_asks_186 : decode cL_asks 186 = .ok (.ladd, 1) := by decide +kernel
theorem dL_asks_187 : decode cL_asks 187 = .ok (.lstore_n 1, 1) := by decide +kernel
theorem dL_asks_188 : decode cL_asks 188 = .ok (.iinc 4 1, 3) := by decide +kernel
theorem dL_asks_191 : decode cL_asks 191 = .ok (.goto (-24), 3) := by decide +kernel
theorem dL_asks_194 : decode cL_asks 194 = .ok (.iconst 0, 1) := by decide +kernel
theorem dL_asks_195 : decode cL_asks 195 = .ok (.istore 4, 2) := by decide +kernel
theorem dL_asks_197 : decode cL_asks 197 = .ok (.iload 4, 2) := by decide +kernel
theorem dL_asks_199 : decode cL_asks 199 = .ok (.aload_n 0, 1) := by decide +kernel
theorem dL_asks_200 : decode cL_asks 200 = .ok (.iconst 0, 1) := by decide +kernel
theorem dL_asks_201 : decode cL_asks 201 = .ok (.invokestatic 213, 3) := by decide +kernel
theorem dL_asks_204 : decode cL_asks 204 = .ok (.if_icmp .ge 41, 3) := by decide +kernel
theorem dL_asks_207 : decode cL_asks 207 = .ok (.iconst 0, 1) := by decide +kernel
theorem dL_asks_208 : decode cL_asks 208 = .ok (.istore 5, 2) := by decide +kernel
theorem dL_asks_210 : decode cL_asks 210 = .ok (.iload 5, 2) := by decide +kernel
theorem dL_asks_212 : decode cL_asks 212 = .ok (.iconst 3, 1) := by decide +kernel
theorem dL_asks_213 : decode cL_asks 213 = .ok (.if_icmp .ge 26, 3) := by decide +kernel
theorem dL_asks_216 : decode cL_asks 216 = .ok (.ldc2_w 211, 3) := by decide +kernel
theorem dL_asks_219 : decode cL_asks 219 = .ok (.lload_n 1, 1) := by decide +kernel
theorem dL_asks_220 : decode cL_asks 220 = .ok (.lmul, 1) := by decide +kernel
theorem dL_asks_221 : decode cL_asks 221 = .ok (.aload_n 0, 1) := by decide +kernel
theorem dL_asks_222 : decode cL_asks 222 = .ok (.iload_n 3, 1) := by decide +kernel
theorem dL_asks_223 : decode cL_asks 223 = .ok (.iload 4, 2) := by decide +kernel
theorem dL_asks_225 : decode cL_asks 225 = .ok (.iload 5, 2) := by decide +kernel
theorem dL_asks_227 : decode cL_asks 227 = .ok (.invokestatic 223, 3) := by decide +kernel
theorem dL_asks_230 : decode cL_asks 230 = .ok (.i2l, 1) := by decide +kernel
theorem dL_asks_231 : decode cL_asks 231 = .ok (.ladd, 1) := by decide +kernel
theorem dL_asks_232 : decode cL_asks 232 = .ok (.lstore_n 1, 1) := by decide +kernel
theorem dL_asks_233 : decode cL_asks 233 = .ok (.iinc 5 1, 3) := by decide +kernel
theorem dL_asks_236 : decode cL_asks 236 = .ok (.goto (-26), 3) := by decide +kernel
theorem dL_asks_239 : decode cL_asks 239 = .ok (.iinc 4 1, 3) := by decide +kernel
theorem dL_asks_242 : decode cL_asks 242 = .ok (.goto (-45), 3) := by decide +kernel
theorem dL_asks_245 : decode cL_asks 245 = .ok (.iinc 3 1, 3) := by decide +kernel
theorem dL_asks_248 : decode cL_asks 248 = .ok (.goto (-106), 3) := by decide +kernel
theorem dL_asks_251 : decode cL_asks 251 = .ok (.iconst 0, 1) := by decide +kernel
theorem dL_asks_252 : decode cL_asks 252 = .ok (.istore_n 3, 1) := by decide +kernel
theorem dL_asks_253 : decode cL_asks 253 = .ok (.iload_n 3, 1) := by decide +kernel
theorem dL_asks_254 : decode cL_asks 254 = .ok (.aload_n 0, 1) := by decide +kernel
theorem dL_asks_255 : decode cL_asks 255 = .ok (.iconst 3, 1) := by decide +kernel
theorem dL_asks_256 : decode cL_asks 256 = .ok (.invokestatic 213, 3) := by decide +kernel
theorem dL_asks_259 : decode cL_asks 259 = .ok (.if_icmp .ge 64, 3) := by decide +kernel
theorem dL_asks_262 : decode cL_asks 262 = .ok (.iconst 0, 1) := by decide +kernel
theorem dL_asks_263 : decode cL_asks 263 = .ok (.istore 4, 2) := by decide +kernel
theorem dL_asks_265 : decode cL_asks 265 = .ok (.iload 4, 2) := by decide +kernel
theorem dL_asks_267 : decode cL_asks 267 = .ok (.bipush 6, 2) := by decide +kernel
theorem dL_asks_269 : decode cL_asks 269 = .ok (.if_icmp .ge 24, 3) := by decide +kernel
theorem dL_asks_272 : decode cL_asks 272 = .ok (.ldc2_w 211, 3) := by decide +kernel
theorem dL_asks_275 : decode cL_asks 275 = .ok (.lload_n 1, 1) := by decide +kernel
theorem dL_asks_276 : decode cL_asks 276 = .ok (.lmul, 1) := by decide +kernel
theorem dL_asks_277 : decode cL_asks 277 = .ok (.aload_n 0, 1) := by decide +kernel
theorem dL_asks_278 : decode cL_asks 278 = .ok (.iload_n 3, 1) := by decide +kernel
theorem dL_asks_279 : decode cL_asks 279 = .ok (.iload 4, 2) := by decide +kernel
theorem dL_asks_281 : decode cL_asks 281 = .ok (.invokestatic 226, 3) := by decide +kernel
theorem dL_asks_284 : decode cL_asks 284 = .ok (.i2l, 1) := by decide +kernel
theorem dL_asks_285 : decode cL_asks 285 = .ok (.ladd, 1) := by decide +kernel
theorem dL_asks_286 : decode cL_asks 286 = .ok (.lstore_n 1, 1) := by decide +kernel
theorem dL_asks_287 : decode cL_asks 287 = .ok (.iinc 4 1, 3) := by decide +kernel
theorem dL_asks_290 : decode cL_asks 290 = .ok (.goto (-25), 3) := by decide +kernel
theorem dL_asks_293 : decode cL_asks 293 = .ok (.ldc2_w 211, 3) := by decide +kernel
theorem dL_asks_296 : decode cL_asks 296 = .ok (.ldc2_w 211, 3) := by decide +kernel
theorem dL_asks_299 : decode cL_asks 299 = .ok (.lload_n 1, 1) := by decide +kernel
theorem dL_asks_300 : decode cL_asks 300 = .ok (.lmul, 1) := by decide +kernel
theorem dL_asks_301 : decode cL_asks 301 = .ok (.aload_n 0, 1) := by decide +kernel
theorem dL_asks_302 : decode cL_asks 302 = .ok (.iload_n 3, 1) := by decide +kernel
theorem dL_asks_303 : decode cL_asks 303 = .ok (.invokestatic 228, 3) := by decide +kernel
theorem dL_asks_306 : decode cL_asks 306 = .ok (.i2l, 1) := by decide +kernel
theorem dL_asks_307 : decode cL_asks 307 = .ok (.ladd, 1) := by decide +kernel
theorem dL_asks_308 : decode cL_asks 308 = .ok (.lmul, 1) := by decide +kernel
theorem dL_asks_309 : decode cL_asks 309 = .ok (.aload_n 0, 1) := by decide +kernel
theorem dL_asks_310 : decode cL_asks 310 = .ok (.iload_n 3, 1) := by decide +kernel
theorem dL_asks_311 : decode cL_asks 311 = .ok (.invokestatic 230, 3) := by decide +kernel
theorem dL_asks_314 : decode cL_asks 314 = .ok (.i2l, 1) := by decide +kernel
theorem dL_asks_315 : decode cL_asks 315 = .ok (.ladd, 1) := by decide +kernel
theorem dL_asks_316 : decode cL_asks 316 = .ok (.lstore_n 1, 1) := by decide +kernel
theorem dL_asks_317 : decode cL_asks 317 = .ok (.iinc 3 1, 3) := by decide +kernel
theorem dL_asks_320 : decode cL_asks 320 = .ok (.goto (-67), 3) := by decide +kernel
theorem dL_asks_323 : decode cL_asks 323 = .ok (.iconst 0, 1) := by decide +kernel
theorem dL_asks_324 : decode cL_asks 324 = .ok (.istore_n 3, 1) := by decide +kernel
theorem dL_asks_325 : decode cL_asks 325 = .ok (.iload_n 3, 1) := by decide +kernel
theorem dL_asks_326 : decode cL_asks 326 = .ok (.aload_n 0, 1) := by decide +kernel
theorem dL_asks_327 : decode cL_asks 327 = .ok (.iconst 0, 1) := by decide +kernel
theorem dL_asks_328 : decode cL_asks 328 = .ok (.invokestatic 213, 3) := by decide +kernel
theorem dL_asks_331 : decode cL_asks 331 = .ok (.if_icmp .ge 35, 3) := by decide +kernel
theorem dL_asks_334 : decode cL_asks 334 = .ok (.ldc2_w 211, 3) := by decide +kernel
theorem dL_asks_337 : decode cL_asks 337 = .ok (.ldc2_w 211, 3) := by decide +kernel
theorem dL_asks_340 : decode cL_asks 340 = .ok (.lload_n 1, 1) := by decide +kernel
theorem dL_asks_341 : decode cL_asks 341 = .ok (.lmul, 1) := by decide +kernel
theorem dL_asks_342 : decode cL_asks 342 = .ok (.aload_n 0, 1) := by decide +kernel
theorem dL_asks_343 : decode cL_asks 343 = .ok (.iload_n 3, 1) := by decide +kernel
theorem dL_asks_344 : decode cL_asks 344 = .ok (.iconst 0, 1) := by decide +kernel
theorem dL_asks_345 : decode cL_asks 345 = .ok (.invokestatic 232, 3) := by decide +kernel
theorem dL_asks_348 : decode cL_asks 348 = .ok (.i2l, 1) := by decide +kernel
theorem dL_asks_349 : decode cL_asks 349 = .ok (.ladd, 1) := by decide +kernel
theorem dL_asks_350 : decode cL_asks 350 = .ok (.lmul, 1) := by decide +kernel
theorem dL_asks_351 : decode cL_asks 351 = .ok (.aload_n 0, 1) := by decide +kernel
theorem dL_asks_352 : decode cL_asks 352 = .ok (.iload_n 3, 1) := by decide +kernel
theorem dL_asks_353 : decode cL_asks 353 = .ok (.iconst 3, 1) := by decide +kernel
theorem dL_asks_354 : decode cL_asks 354 = .ok (.invokestatic 234, 3) := by decide +kernel
theorem dL_asks_357 : decode cL_asks 357 = .ok (.i2l, 1) := by decide +kernel
theorem dL_asks_358 : decode cL_asks 358 = .ok (.ladd, 1) := by decide +kernel
theorem dL_asks_359 : decode cL_asks 359 = .ok (.lstore_n 1, 1) := by decide +kernel
theorem dL_asks_360 : decode cL_asks 360 = .ok (.iinc 3 1, 3) := by decide +kernel
theorem dL_asks_363 : decode cL_asks 363 = .ok (.goto (-38), 3) := by decide +kernel
theorem dL_asks_366 : decode cL_asks 366 = .ok (.ldc2_w 211, 3) := by decide +kernel
theorem dL_asks_369 : decode cL_asks 369 = .ok (.ldc2_w 211, 3) := by decide +kernel
theorem dL_asks_372 : decode cL_asks 372 = .ok (.lload_n 1, 1) := by decide +kernel
theorem dL_asks_373 : decode cL_asks 373 = .ok (.lmul, 1) := by decide +kernel
theorem dL_asks_374 : decode cL_asks 374 = .ok (.aload_n 0, 1) := by decide +kernel
theorem dL_asks_375 : decode cL_asks 375 = .ok (.iconst 1, 1) := by decide +kernel
theorem dL_asks_376 : decode cL_asks 376 = .ok (.iconst 4, 1) := by decide +kernel
theorem dL_asks_377 : decode cL_asks 377 = .ok (.aload_n 0, 1) := by decide +kernel
theorem dL_asks_378 : decode cL_asks 378 = .ok (.iconst 0, 1) := by decide +kernel
theorem dL_asks_379 : decode cL_asks 379 = .ok (.invokestatic 213, 3) := by decide +kernel
theorem dL_asks_382 : decode cL_asks 382 = .ok (.invokestatic 236, 3) := by decide +kernel
theorem dL_asks_385 : decode cL_asks 385 = .ok (.ishl, 1) := by decide +kernel
theorem dL_asks_386 : decode cL_asks 386 = .ok (.iconst 1, 1) := by decide +kernel
theorem dL_asks_387 : decode cL_asks 387 = .ok (.isub, 1) := by decide +kernel
theorem dL_asks_388 : decode cL_asks 388 = .ok (.invokestatic 241, 3) := by decide +kernel
theorem dL_asks_391 : decode cL_asks 391 = .ok (.i2l, 1) := by decide +kernel
theorem dL_asks_392 : decode cL_asks 392 = .ok (.ladd, 1) := by decide +kernel
theorem dL_asks_393 : decode cL_asks 393 = .ok (.lmul, 1) := by decide +kernel
theorem dL_asks_394 : decode cL_asks 394 = .ok (.aload_n 0, 1) := by decide +kernel
theorem dL_asks_395 : decode cL_asks 395 = .ok (.iconst 3, 1) := by decide +kernel
theorem dL_asks_396 : decode cL_asks 396 = .ok (.invokestatic 243, 3) := by decide +kernel
theorem dL_asks_399 : decode cL_asks 399 = .ok (.i2l, 1) := by decide +kernel
theorem dL_asks_400 : decode cL_asks 400 = .ok (.ladd, 1) := by decide +kernel
theorem dL_asks_401 : decode cL_asks 401 = .ok (.lreturn, 1) := by decide +kernel
theorem dL_changes_0 : decode cL_changes 0 = .ok (.iload_n 1, 1) := by decide +kernel
theorem dL_changes_1 : decode cL_changes 1 = .ok (.iconst 4, 1) := by decide +kernel
theorem dL_changes_2 : decode cL_changes 2 = .ok (.ishr, 1) := by decide +kernel
theorem dL_changes_3 : decode cL_changes 3 = .ok (.iconst 5, 1) := by decide +kernel
theorem dL_changes_4 : decode cL_changes 4 = .ok (.invokestatic 165, 3) := by decide +kernel
theorem dL_changes_7 : decode cL_changes 7 = .ok (.istore_n 2, 1) := by decide +kernel
theorem dL_changes_8 : decode cL_changes 8 = .ok (.iload_n 1, 1) := by decide +kernel
theorem dL_changes_9 : decode cL_changes 9 = .ok (.bipush 14, 2) := by decide +kernel
theorem dL_changes_11 : decode cL_changes 11 = .ok (.invokestatic 165, 3) := by decide +kernel
theorem dL_changes_14 : decode cL_changes 14 = .ok (.tableswitch 370 0 12 #[66, 87, 108, 168, 188, 188, 218, 238, 238, 260, 282, 321, 341], 66) := by decide +kernel
theorem dL_changes_80 : decode cL_changes 80 = .ok (.aload_n 0, 1) := by decide +kernel
theorem dL_changes_81 : decode cL_changes 81 = .ok (.iload_n 1, 1) := by decide +kernel
theorem dL_changes_82 : decode cL_changes 82 = .ok (.iconst 4, 1) := by decide +kernel
theorem dL_changes_83 : decode cL_changes 83 = .ok (.ishr, 1) := by decide +kernel
theorem dL_changes_84 : decode cL_changes 84 = .ok (.bipush 11, 2) := by decide +kernel
theorem dL_changes_86 : decode cL_changes 86 = .ok (.invokestatic 165, 3) := by decide +kernel
theorem dL_changes_89 : decode cL_changes 89 = .ok (.invokestatic 168, 3) := by decide +kernel
theorem dL_changes_92 : decode cL_changes 92 = .ok (.ifCond .lt 7, 3) := by decide +kernel
theorem dL_changes_95 : decode cL_changes 95 = .ok (.iconst 1, 1) := by decide +kernel
theorem dL_changes_96 : decode cL_changes 96 = .ok (.goto 4, 3) := by decide +kernel
theorem dL_changes_99 : decode cL_changes 99 = .ok (.iconst 0, 1) := by decide +kernel
theorem dL_changes_100 : decode cL_changes 100 = .ok (.ireturn, 1) := by decide +kernel
theorem dL_changes_101 : decode cL_changes 101 = .ok (.aload_n 0, 1) := by decide +kernel
theorem dL_changes_102 : decode cL_changes 102 = .ok (.iload_n 1, 1) := by decide +kernel
theorem dL_changes_103 : decode cL_changes 103 = .ok (.iconst 4, 1) := by decide +kernel
theorem dL_changes_104 : decode cL_changes 104 = .ok (.ishr, 1) := by decide +kernel
theorem dL_changes_105 : decode cL_changes 105 = .ok (.bipush 52, 2) := by decide +kernel
theorem dL_changes_107 : decode cL_changes 107 = .ok (.invokestatic 165, 3) := by decide +kernel
theorem dL_changes_110 : decode cL_changes 110 = .ok (.invokestatic 171, 3) := by decide +kernel
theorem dL_changes_113 : decode cL_changes 113 = .ok (.ifCond .lt 7, 3) := by decide +kernel
theorem dL_changes_116 : decode cL_changes 116 = .ok (.iconst 1, 1) := by decide +kernel
theorem dL_changes_117 : decode cL_changes 117 = .ok (.goto 4, 3) := by decide +kernel
theorem dL_changes_120 : decode cL_changes 120 = .ok (.iconst 0, 1) := by decide +kernel
theorem dL_changes_121 : decode cL_changes 121 = .ok (.ireturn, 1) := by decide +kernel
theorem dL_changes_122 : decode cL_changes 122 = .ok (.aload_n 0, 1) := by decide +kernel
theorem dL_changes_123 : decode cL_changes 123 = .ok (.new 173, 3) := by decide +kernel
theorem dL_changes_126 : decode cL_changes 126 = .ok (.dup, 1) := by decide +kernel
theorem dL_changes_127 : decode cL_changes 127 = .ok (.invokespecial 175, 3) := by decide +kernel
theorem dL_changes_130 : decode cL_changes 130 = .ok (.ldc 245, 2) := by decide +kernel
theorem dL_changes_132 : decode cL_changes 132 = .ok (.invokevirtual 247, 3) := by decide +kernel
theorem dL_changes_135 : decode cL_changes 135 = .ok (.iload_n 1, 1) := by decide +kernel
theorem dL_changes_136 : decode cL_changes 136 = .ok (.iconst 4, 1) := by decide +kernel
theorem dL_changes_137 : decode cL_changes 137 = .ok (.ishr, 1) := by decide +kernel
theorem dL_changes_138 : decode cL_changes 138 = .ok (.bipush 6, 2) := by decide +kernel
theorem dL_changes_140 : decode cL_changes 140 = .ok (.invokestatic 165, 3) := by decide +kernel
theorem dL_changes_143 : decode cL_changes 143 = .ok (.invokevirtual 176, 3) := by decide +kernel
theorem dL_changes_146 : decode cL_changes 146 = .ok (.ldc 250, 2) := by decide +kernel
theorem dL_changes_148 : decode cL_changes 148 = .ok (.invokevirtual 247, 3) := by decide +kernel
theorem dL_changes_151 : decode cL_changes 151 = .ok (.iload_n 1, 1) := by decide +kernel
theorem dL_changes_152 : decode cL_changes 152 = .ok (.iconst 5, 1) := by decide +kernel
theorem dL_changes_153 : decode cL_changes 153 = .ok (.ishr, 1) := by decide +kernel
theorem dL_changes_154 : decode cL_changes 154 = .ok (.bipush 6, 2) := by decide +kernel
theorem dL_changes_156 : decode cL_changes 156 = .ok (.invokestatic 165, 3) := by decide +kernel
theorem dL_changes_159 : decode cL_changes 159 = .ok (.invokevirtual 176, 3) := by decide +kernel
theorem dL_changes_162 : decode cL_changes 162 = .ok (.ldc 252, 2) := by decide +kernel
theorem dL_changes_164 : decode cL_changes 164 = .ok (.invokevirtual 247, 3) := by decide +kernel
theorem dL_changes_167 : decode cL_changes 167 = .ok (.invokevirtual 182, 3) := by decide +kernel
theorem dL_changes_170 : decode cL_changes 170 = .ok (.invokestatic 186, 3) := by decide +kernel
theorem dL_changes_173 : decode cL_changes 173 = .ok (.ifCond .lt 7, 3) := by decide +kernel
theorem dL_changes_176 : decode cL_changes 176 = .ok (.iconst 1, 1) := by decide +kernel
theorem dL_changes_177 : decode cL_changes 177 = .ok (.goto 4, 3) := by decide +kernel
theorem dL_changes_180 : decode cL_changes 180 = .ok (.iconst 0, 1) := by decide +kernel
theorem dL_changes_181 : decode cL_changes 181 = .ok (.ireturn, 1) := by decide +kernel
theorem dL_changes_182 : decode cL_changes 182 = .ok (.aload_n 0, 1) := by decide +kernel
theorem dL_changes_183 : decode cL_changes 183 = .ok (.iload_n 1, 1) := by decide +kernel
theorem dL_changes_184 : decode cL_changes 184 = .ok (.iconst 4, 1) := by decide +kernel
theorem dL_changes_185 : decode cL_changes 185 = .ok (.ishr, 1) := by decide +kernel
theorem dL_changes_186 : decode cL_changes 186 = .ok (.iconst 5, 1) := by decide +kernel
theorem dL_changes_187 : decode cL_changes 187 = .ok (.invokestatic 165, 3) := by decide +kernel
theorem dL_changes_190 : decode cL_changes 190 = .ok (.invokestatic 254, 3) := by decide +kernel
theorem dL_changes_193 : decode cL_changes 193 = .ok (.ifCond .lt 7, 3) := by decide +kernel
theorem dL_changes_196 : decode cL_changes 196 = .ok (.iconst 1, 1) := by decide +kernel
theorem dL_changes_197 : decode cL_changes 197 = .ok (.goto 4, 3) := by decide +kernel
theorem dL_changes_200 : decode cL_changes 200 = .ok (.iconst 0, 1) := by decide +kernel
theorem dL_changes_201 : decode cL_changes 201 = .ok (.ireturn, 1) := by decide +kernel
theorem dL_changes_202 : decode cL_changes 202 = .ok (.aload_n 0, 1) := by decide +kernel
theorem dL_changes_203 : decode cL_changes 203 = .ok (.iload_n 1, 1) := by decide +kernel
theorem dL_changes_204 : decode cL_changes 204 = .ok (.iconst 5, 1) := by decide +kernel
theorem dL_changes_205 : decode cL_changes 205 = .ok (.ishr, 1) := by decide +kernel
theorem dL_changes_206 : decode cL_changes 206 = .ok (.iconst 4, 1) := by decide +kernel
theorem dL_changes_207 : decode cL_changes 207 = .ok (.invokestatic 165, 3) := by decide +kernel
theorem dL_changes_210 : decode cL_changes 210 = .ok (.iload_n 2, 1) := by decide +kernel
theorem dL_changes_211 : decode cL_changes 211 = .ok (.iload_n 1, 1) := by decide +kernel
theorem dL_changes_212 : decode cL_changes 212 = .ok (.iconst 2, 1) := by decide +kernel
theorem dL_changes_213 : decode cL_changes 213 = .ok (.ishr, 1) := by decide +kernel
theorem dL_changes_214 : decode cL_changes 214 = .ok (.ldc_w 256, 3) := by decide +kernel
theorem dL_changes_217 : decode cL_changes 217 = .ok (.invokestatic 165, 3) := by decide +kernel
theorem dL_changes_220 : decode cL_changes 220 = .ok (.invokestatic 257, 3) := by decide +kernel
theorem dL_changes_223 : decode cL_changes 223 = .ok (.ifCond .lt 7, 3) := by decide +kernel
theorem dL_changes_226 : decode cL_changes 226 = .ok (.iconst 1, 1) := by decide +kernel
theorem dL_changes_227 : decode cL_changes 227 = .ok (.goto 4, 3) := by decide +kernel
theorem dL_changes_230 : decode cL_changes 230 = .ok (.iconst 0, 1) := by decide +kernel
theorem dL_changes_231 : decode cL_changes 231 = .ok (.ireturn, 1) := by decide +kernel
theorem dL_changes_232 : decode cL_changes 232 = .ok (.aload_n 0, 1) := by decide +kernel
theorem dL_changes_233 : decode cL_changes 233 = .ok (.iload_n 1, 1) := by decide +kernel
theorem dL_changes_234 : decode cL_changes 234 = .ok (.iconst 4, 1) := by decide +kernel
theorem dL_changes_235 : decode cL_changes 235 = .ok (.ishr, 1) := by decide +kernel
theorem dL_changes_236 : decode cL_changes 236 = .ok (.iconst 4, 1) := by decide +kernel
theorem dL_changes_237 : decode cL_changes 237 = .ok (.invokestatic 165, 3) := by decide +kernel
theorem dL_changes_240 : decode cL_changes 240 = .ok (.invokestatic 259, 3) := by decide +kernel
theorem dL_changes_243 : decode cL_changes 243 = .ok (.ifCond .lt 7, 3) := by decide +kernel
theorem dL_changes_246 : decode cL_changes 246 = .ok (.iconst 1, 1) := by decide +kernel
theorem dL_changes_247 : decode cL_changes 247 = .ok (.goto 4, 3) := by decide +kernel
theorem dL_changes_250 : decode cL_changes 250 = .ok (.iconst 0, 1) := by decide +kernel
theorem dL_changes_251 : decode cL_changes 251 = .ok (.ireturn, 1) := by decide +kernel
theorem dL_changes_252 : decode cL_changes 252 = .ok (.aload_n 0, 1) := by decide +kernel
theorem dL_changes_253 : decode cL_changes 253 = .ok (.iload_n 1, 1) := by decide +kernel
theorem dL_changes_254 : decode cL_changes 254 = .ok (.iconst 3, 1) := by decide +kernel
theorem dL_changes_255 : decode cL_changes 255 = .ok (.ishr, 1) := by decide +kernel
theorem dL_changes_256 : decode cL_changes 256 = .ok (.sipush 300, 3) := by decide +kernel
theorem dL_changes_259 : decode cL_changes 259 = .ok (.invokestatic 165, 3) := by decide +kernel
theorem dL_changes_262 : decode cL_changes 262 = .ok (.invokestatic 261, 3) := by decide +kernel
theorem dL_changes_265 : decode cL_changes 265 = .ok (.ifCond .lt 7, 3) := by decide +kernel
theorem dL_changes_268 : decode cL_changes 268 = .ok (.iconst 1, 1) := by decide +kernel
theorem dL_changes_269 : decode cL_changes 269 = .ok (.goto 4, 3) := by decide +kernel
theorem dL_changes_272 : decode cL_changes 272 = .ok (.iconst 0, 1) := by decide +kernel
theorem dL_changes_273 : decode cL_changes 273 = .ok (.ireturn, 1) := by decide +kernel
theorem dL_changes_274 : decode cL_changes 274 = .ok (.aload_n 0, 1) := by decide +kernel
theorem dL_changes_275 : decode cL_changes 275 = .ok (.iload_n 2, 1) := by decide +kernel
theorem dL_changes_276 : decode cL_changes 276 = .ok (.iload_n 1, 1) := by decide +kernel
theorem dL_changes_277 : decode cL_changes 277 = .ok (.iconst 5, 1) := by decide +kernel
theorem dL_changes_278 : decode cL_changes 278 = .ok (.ishr, 1) := by decide +kernel
theorem dL_changes_279 : decode cL_changes 279 = .ok (.bipush 60, 2) := by decide +kernel
theorem dL_changes_281 : decode cL_changes 281 = .ok (.invokestatic 165, 3) := by decide +kernel
theorem dL_changes_284 : decode cL_changes 284 = .ok (.invokestatic 263, 3) := by decide +kernel
theorem dL_changes_287 : decode cL_changes 287 = .ok (.ifCond .lt 7, 3) := by decide +kernel
theorem dL_changes_290 : decode cL_changes 290 = .ok (.iconst 1, 1) := by decide +kernel
theorem dL_changes_291 : decode cL_changes 291 = .ok (.goto 4, 3) := by decide +kernel
theorem dL_changes_294 : decode cL_changes 294 = .ok (.iconst 0, 1) := by decide +kernel
theorem dL_changes_295 : decode cL_changes 295 = .ok (.ireturn, 1) := by decide +kernel
theorem dL_changes_296 : decode cL_changes 296 = .ok (.aload_n 0, 1) := by decide +kernel
theorem dL_changes_297 : decode cL_changes 297 = .ok (.iload_n 1, 1) := by decide +kernel
theorem dL_changes_298 : decode cL_changes 298 = .ok (.iconst 5, 1) := by decide +kernel
theorem dL_changes_299 : decode cL_changes 299 = .ok (.ishr, 1) := by decide +kernel
theorem dL_changes_300 : decode cL_changes 300 = .ok (.iconst 5, 1) := by decide +kernel
theorem dL_changes_301 : decode cL_changes 301 = .ok (.invokestatic 165, 3) := by decide +kernel
theorem dL_changes_304 : decode cL_changes 304 = .ok (.iload_n 2, 1) := by decide +kernel
theorem dL_changes_305 : decode cL_changes 305 = .ok (.iload_n 1, 1) := by decide +kernel
theorem dL_changes_306 : decode cL_changes 306 = .ok (.bipush 6, 2) := by decide +kernel
theorem dL_changes_308 : decode cL_changes 308 = .ok (.ishr, 1) := by decide +kernel
theorem dL_changes_309 : decode cL_changes 309 = .ok (.bipush 22, 2) := by decide +kernel
theorem dL_changes_311 : decode cL_changes 311 = .ok (.invokestatic 165, 3) := by decide +kernel
theorem dL_changes_314 : decode cL_changes 314 = .ok (.iload_n 1, 1) := by decide +kernel
theorem dL_changes_315 : decode cL_changes 315 = .ok (.bipush 7, 2) := by decide +kernel
theorem dL_changes_317 : decode cL_changes 317 = .ok (.ishr, 1) := by decide +kernel
theorem dL_changes_318 : decode cL_changes 318 = .ok (.bipush 102, 2) := by decide +kernel
theorem dL_changes_320 : decode cL_changes 320 = .ok (.invokestatic 165, 3) := by decide +kernel
theorem dL_changes_323 : decode cL_changes 323 = .ok (.invokestatic 265, 3) := by decide +kernel
theorem dL_changes_326 : decode cL_changes 326 = .ok (.ifCond .lt 7, 3) := by decide +kernel
theorem dL_changes_329 : decode cL_changes 329 = .ok (.iconst 1, 1) := by decide +kernel
theorem dL_changes_330 : decode cL_changes 330 = .ok (.goto 4, 3) := by decide +kernel
theorem dL_changes_333 : decode cL_changes 333 = .ok (.iconst 0, 1) := by decide +kernel
theorem dL_changes_334 : decode cL_changes 334 = .ok (.ireturn, 1) := by decide +kernel
theorem dL_changes_335 : decode cL_changes 335 = .ok (.aload_n 0, 1) := by decide +kernel
theorem dL_changes_336 : decode cL_changes 336 = .ok (.iload_n 1, 1) := by decide +kernel
theorem dL_changes_337 : decode cL_changes 337 = .ok (.iconst 4, 1) := by decide +kernel
theorem dL_changes_338 : decode cL_changes 338 = .ok (.ishr, 1) := by decide +kernel
theorem dL_changes_339 : decode cL_changes 339 = .ok (.iconst 4, 1) := by decide +kernel
theorem dL_changes_340 : decode cL_changes 340 = .ok (.invokestatic 165, 3) := by decide +kernel
theorem dL_changes_343 : decode cL_changes 343 = .ok (.invokestatic 268, 3) := by decide +kernel
theorem dL_changes_346 : decode cL_changes 346 = .ok (.ifCond .lt 7, 3) := by decide +kernel
theorem dL_changes_349 : decode cL_changes 349 = .ok (.iconst 1, 1) := by decide +kernel
theorem dL_changes_350 : decode cL_changes 350 = .ok (.goto 4, 3) := by decide +kernel
theorem dL_changes_353 : decode cL_changes 353 = .ok (.iconst 0, 1) := by decide +kernel
theorem dL_changes_354 : decode cL_changes 354 = .ok (.ireturn, 1) := by decide +kernel
theorem dL_changes_355 : decode cL_changes 355 = .ok (.aload_n 0, 1) := by decide +kernel
theorem dL_changes_356 : decode cL_changes 356 = .ok (.iload_n 1, 1) := by decide +kernel
theorem dL_changes_357 : decode cL_changes 357 = .ok (.iconst 4, 1) := by decide +kernel
theorem dL_changes_358 : decode cL_changes 358 = .ok (.ishr, 1) := by decide +kernel
theorem dL_changes_359 : decode cL_changes 359 = .ok (.iconst 5, 1) := by decide +kernel
theorem dL_changes_360 : decode cL_changes 360 = .ok (.invokestatic 165, 3) := by decide +kernel
theorem dL_changes_363 : decode cL_changes 363 = .ok (.iload_n 1, 1) := by decide +kernel
theorem dL_changes_364 : decode cL_changes 364 = .ok (.iconst 5, 1) := by decide +kernel
theorem dL_changes_365 : decode cL_changes 365 = .ok (.ishr, 1) := by decide +kernel
theorem dL_changes_366 : decode cL_changes 366 = .ok (.sipush 600, 3) := by decide +kernel
theorem dL_changes_369 : decode cL_changes 369 = .ok (.invokestatic 165, 3) := by decide +kernel
theorem dL_changes_372 : decode cL_changes 372 = .ok (.invokestatic 190, 3) := by decide +kernel
theorem dL_changes_375 : decode cL_changes 375 = .ok (.ifCond .lt 7, 3) := by decide +kernel
theorem dL_changes_378 : decode cL_changes 378 = .ok (.iconst 1, 1) := by decide +kernel
theorem dL_changes_379 : decode cL_changes 379 = .ok (.goto 4, 3) := by decide +kernel
theorem dL_changes_382 : decode cL_changes 382 = .ok (.iconst 0, 1) := by decide +kernel
theorem dL_changes_383 : decode cL_changes 383 = .ok (.ireturn, 1) := by decide +kernel
theorem dL_changes_384 : decode cL_changes 384 = .ok (.aload_n 0, 1) := by decide +kernel
theorem dL_changes_385 : decode cL_changes 385 = .ok (.iload_n 1, 1) := by decide +kernel
theorem dL_changes_386 : decode cL_changes 386 = .ok (.bipush 6, 2) := by decide +kernel
theorem dL_changes_388 : decode cL_changes 388 = .ok (.ishr, 1) := by decide +kernel
theorem dL_changes_389 : decode cL_changes 389 = .ok (.iconst 1, 1) := by decide +kernel
theorem dL_changes_390 : decode cL_changes 390 = .ok (.iand, 1) := by decide +kernel
theorem dL_changes_391 : decode cL_changes 391 = .ok (.ifCond .ne 48, 3) := by decide +kernel
theorem dL_changes_394 : decode cL_changes 394 = .ok (.new 173, 3) := by decide +kernel
theorem dL_changes_397 : decode cL_changes 397 = .ok (.dup, 1) := by decide +kernel
theorem dL_changes_398 : decode cL_changes 398 = .ok (.invokespecial 175, 3) := by decide +kernel
theorem dL_changes_401 : decode cL_changes 401 = .ok (.ldc_w 270, 3) := by decide +kernel
theorem dL_changes_404 : decode cL_changes 404 = .ok (.invokevirtual 247, 3) := by decide +kernel
theorem dL_changes_407 : decode cL_changes 407 = .ok (.iload_n 1, 1) := by decide +kernel
theorem dL_changes_408 : decode cL_changes 408 = .ok (.iconst 3, 1) := by decide +kernel
theorem dL_changes_409 : decode cL_changes 409 = .ok (.ishr, 1) := by decide +kernel
theorem dL_changes_410 : decode cL_changes 410 = .ok (.iconst 3, 1) := by decide +kernel
theorem dL_changes_411 : decode cL_changes 411 = .ok (.invokestatic 165, 3) := by decide +kernel
theorem dL_changes_414 : decode cL_changes 414 = .ok (.invokevirtual 176, 3) := by decide +kernel
theorem dL_changes_417 : decode cL_changes 417 = .ok (.iload_n 1, 1) := by decide +kernel
theorem dL_changes_418 : decode cL_changes 418 = .ok (.iconst 5, 1) := by decide +kernel
theorem dL_changes_419 : decode cL_changes 419 = .ok (.ishr, 1) := by decide +kernel
theorem dL_changes_420 : decode cL_changes 420 = .ok (.iconst 4, 1) := by decide +kernel
theorem dL_changes_421 : decode cL_changes 421 = .ok (.invokestatic 165, 3) := by decide +kernel
theorem dL_changes_424 : decode cL_changes 424 = .ok (.invokevirtual 176, 3) := by decide +kernel
theorem dL_changes_427 : decode cL_changes 427 = .ok (.ldc_w 272, 3) := by decide +kernel
theorem dL_changes_430 : decode cL_changes 430 = .ok (.invokevirtual 247, 3) := by decide +kernel
theorem dL_changes_433 : decode cL_changes 433 = .ok (.invokevirtual 182, 3) := by decide +kernel
theorem dL_changes_436 : decode cL_changes 436 = .ok (.goto 29, 3) := by decide +kernel
theorem dL_changes_439 : decode cL_changes 439 = .ok (.new 173, 3) := by decide +kernel
theorem dL_changes_442 : decode cL_changes 442 = .ok (.dup, 1) := by decide +kernel
theorem dL_changes_443 : decode cL_changes 443 = .ok (.invokespecial 175, 3) := by decide +kernel
theorem dL_changes_446 : decode cL_changes 446 = .ok (.ldc_w 274, 3) := by decide +kernel
theorem dL_changes_449 : decode cL_changes 449 = .ok (.invokevirtual 247, 3) := by decide +kernel
theorem dL_changes_452 : decode cL_changes 452 = .ok (.iload_n 1, 1) := by decide +kernel
theorem dL_changes_453 : decode cL_changes 453 = .ok (.iconst 3, 1) := by decide +kernel
theorem dL_changes_454 : decode cL_changes 454 = .ok (.ishr, 1) := by decide +kernel
theorem dL_changes_455 : decode cL_changes 455 = .ok (.iconst 4, 1) := by decide +kernel
theorem dL_changes_456 : decode cL_changes 456 = .ok (.invokestatic 165, 3) := by decide +kernel
theorem dL_changes_459 : decode cL_changes 459 = .ok (.invokevirtual 176, 3) := by decide +kernel
theorem dL_changes_462 : decode cL_changes 462 = .ok (.invokevirtual 182, 3) := by decide +kernel
theorem dL_changes_465 : decode cL_changes 465 = .ok (.invokestatic 276, 3) := by decide +kernel
theorem dL_changes_468 : decode cL_changes 468 = .ok (.ifCond .lt 7, 3) := by decide +kernel
theorem dL_changes_471 : decode cL_changes 471 = .ok (.iconst 1, 1) := by decide +kernel
theorem dL_changes_472 : decode cL_changes 472 = .ok (.goto 4, 3) := by decide +kernel
theorem dL_changes_475 : decode cL_changes 475 = .ok (.iconst 0, 1) := by decide +kernel
theorem dL_changes_476 : decode cL_changes 476 = .ok (.ireturn, 1) := by decide +kernel
theorem dL_refused_0 : decode cL_refused 0 = .ok (.aload_n 0, 1) := by decide +kernel
theorem dL_refused_1 : decode cL_refused 1 = .ok (.invokestatic 279, 3) := by decide +kernel
theorem dL_refused_4 : decode cL_refused 4 = .ok (.lstore_n 1, 1) := by decide +kernel
theorem dL_refused_5 : decode cL_refused 5 = .ok (.aload_n 0, 1) := by decide +kernel
theorem dL_refused_6 : decode cL_refused 6 = .ok (.iconst 0, 1) := by decide +kernel
theorem dL_refused_7 : decode cL_refused 7 = .ok (.invokestatic 213, 3) := by decide +kernel
theorem dL_refused_10 : decode cL_refused 10 = .ok (.istore_n 3, 1) := by decide +kernel
theorem dL_refused_11 : decode cL_refused 11 = .ok (.aload_n 0, 1) := by decide +kernel
theorem dL_refused_12 : decode cL_refused 12 = .ok (.iconst 1, 1) := by decide +kernel
theorem dL_refused_13 : decode cL_refused 13 = .ok (.invokestatic 213, 3) := by decide +kernel
theorem dL_refused_16 : decode cL_refused 16 = .ok (.istore 4, 2) := by decide +kernel
theorem dL_refused_18 : decode cL_refused 18 = .ok (.aload_n 0, 1) := by decide +kernel
theorem dL_refused_19 : decode cL_refused 19 = .ok (.iconst 2, 1) := by decide +kernel
theorem dL_refused_20 : decode cL_refused 20 = .ok (.invokestatic 213, 3) := by decide +kernel
theorem dL_refused_23 : decode cL_refused 23 = .ok (.istore 5, 2) := by decide +kernel
theorem dL_refused_25 : decode cL_refused 25 = .ok (.aload_n 0, 1) := by decide +kernel
theorem dL_refused_26 : decode cL_refused 26 = .ok (.iconst 3, 1) := by decide +kernel
theorem dL_refused_27 : decode cL_refused 27 = .ok (.invokestatic 213, 3) := by decide +kernel
theorem dL_refused_30 : decode cL_refused 30 = .ok (.istore 6, 2) := by decide +kernel
theorem dL_refused_32 : decode cL_refused 32 = .ok (.aload_n 0, 1) := by decide +kernel
theorem dL_refused_33 : decode cL_refused 33 = .ok (.iconst (-1), 1) := by decide +kernel
theorem dL_refused_34 : decode cL_refused 34 = .ok (.invokestatic 168, 3) := by decide +kernel
theorem dL_refused_37 : decode cL_refused 37 = .ok (.sipush (-1001), 3) := by decide +kernel
theorem dL_refused_40 : decode cL_refused 40 = .ok (.if_icmp .ne 235, 3) := by decide +kernel
theorem dL_refused_43 : decode cL_refused 43 = .ok (.aload_n 0, 1) := by decide +kernel
theorem dL_refused_44 : decode cL_refused 44 = .ok (.iconst 0, 1) := by decide +kernel
theorem dL_refused_45 : decode cL_refused 45 = .ok (.iconst 2, 1) := by decide +kernel
theorem dL_refused_46 : decode cL_refused 46 = .ok (.iconst 0, 1) := by decide +kernel
theorem dL_refused_47 : decode cL_refused 47 = .ok (.invokestatic 283, 3) := by decide +kernel
theorem dL_refused_50 : decode cL_refused 50 = .ok (.ifCond .eq 225, 3) := by decide +kernel
theorem dL_refused_53 : decode cL_refused 53 = .ok (.aload_n 0, 1) := by decide +kernel
theorem dL_refused_54 : decode cL_refused 54 = .ok (.bipush 10, 2) := by decide +kernel
theorem dL_refused_56 : decode cL_refused 56 = .ok (.invokestatic 168, 3) := by decide +kernel
theorem dL_refused_59 : decode cL_refused 59 = .ok (.sipush (-1001), 3) := by decide +kernel
theorem dL_refused_62 : decode cL_refused 62 = .ok (.if_icmp .ne 213, 3) := by decide +kernel
theorem dL_refused_65 : decode cL_refused 65 = .ok (.aload_n 0, 1) := by decide +kernel
theorem dL_refused_66 : decode cL_refused 66 = .ok (.iconst 0, 1) := by decide +kernel
theorem dL_refused_67 : decode cL_refused 67 = .ok (.invokestatic 171, 3) := by decide +kernel
theorem dL_refused_70 : decode cL_refused 70 = .ok (.sipush (-1001), 3) := by decide +kernel
theorem dL_refused_73 : decode cL_refused 73 = .ok (.if_icmp .ne 202, 3) := by decide +kernel
theorem dL_refused_76 : decode cL_refused 76 = .ok (.aload_n 0, 1) := by decide +kernel
theorem dL_refused_77 : decode cL_refused 77 = .ok (.bipush 51, 2) := by decide +kernel
theorem dL_refused_79 : decode cL_refused 79 = .ok (.invokestatic 171, 3) := by decide +kernel
theorem dL_refused_82 : decode cL_refused 82 = .ok (.sipush (-1001), 3) := by decide +kernel
theorem dL_refused_85 : decode cL_refused 85 = .ok (.if_icmp .ne 190, 3) := by decide +kernel
theorem dL_refused_88 : decode cL_refused 88 = .ok (.aload_n 0, 1) := by decide +kernel
theorem dL_refused_89 : decode cL_refused 89 = .ok (.iload 5, 2) := by decide +kernel
theorem dL_refused_91 : decode cL_refused 91 = .ok (.invokestatic 254, 3) := by decide +kernel
theorem dL_refused_94 : decode cL_refused 94 = .ok (.sipush (-1001), 3) := by decide +kernel
theorem dL_refused_97 : decode cL_refused 97 = .ok (.if_icmp .ne 178, 3) := by decide +kernel
theorem dL_refused_100 : decode cL_refused 100 = .ok (.aload_n 0, 1) := by decide +kernel
theorem dL_refused_101 : decode cL_refused 101 = .ok (.iconst 0, 1) := by decide +kernel
theorem dL_refused_102 : decode cL_refused 102 = .ok (.iconst 1, 1) := by decide +kernel
theorem dL_refused_103 : decode cL_refused 103 = .ok (.iconst 0, 1) := by decide +kernel
theorem dL_refused_104 : decode cL_refused 104 = .ok (.invokestatic 283, 3) := by decide +kernel
theorem dL_refused_107 : decode cL_refused 107 = .ok (.ifCond .eq 168, 3) := by decide +kernel
theorem dL_refused_110 : decode cL_refused 110 = .ok (.aload_n 0, 1) := by decide +kernel
theorem dL_refused_111 : decode cL_refused 111 = .ok (.iconst (-1), 1) := by decide +kernel
theorem dL_refused_112 : decode cL_refused 112 = .ok (.invokestatic 254, 3) := by decide +kernel
theorem dL_refused_115 : decode cL_refused 115 = .ok (.sipush (-1001), 3) := by decide +kernel
theorem dL_refused_118 : decode cL_refused 118 = .ok (.if_icmp .ne 157, 3) := by decide +kernel
theorem dL_refused_121 : decode cL_refused 121 = .ok (.aload_n 0, 1) := by decide +kernel
theorem dL_refused_122 : decode cL_refused 122 = .ok (.iconst 3, 1) := by decide +kernel
theorem dL_refused_123 : decode cL_refused 123 = .ok (.iconst 0, 1) := by decide +kernel
theorem dL_refused_124 : decode cL_refused 124 = .ok (.iconst 0, 1) := by decide +kernel
theorem dL_refused_125 : decode cL_refused 125 = .ok (.invokestatic 257, 3) := by decide +kernel
theorem dL_refused_128 : decode cL_refused 128 = .ok (.sipush (-1001), 3) := by decide +kernel
theorem dL_refused_131 : decode cL_refused 131 = .ok (.if_icmp .ne 144, 3) := by decide +kernel
theorem dL_refused_134 : decode cL_refused 134 = .ok (.aload_n 0, 1) := by decide +kernel
theorem dL_refused_135 : decode cL_refused 135 = .ok (.iconst 0, 1) := by decide +kernel
theorem dL_refused_136 : decode cL_refused 136 = .ok (.iconst 1, 1) := by decide +kernel
theorem dL_refused_137 : decode cL_refused 137 = .ok (.iconst 0, 1) := by decide +kernel
theorem dL_refused_138 : decode cL_refused 138 = .ok (.invokestatic 283, 3) := by decide +kernel
theorem dL_refused_141 : decode cL_refused 141 = .ok (.ifCond .eq 134, 3) := by decide +kernel
theorem dL_refused_144 : decode cL_refused 144 = .ok (.aload_n 0, 1) := by decide +kernel
theorem dL_refused_145 : decode cL_refused 145 = .ok (.iconst 0, 1) := by decide +kernel
theorem dL_refused_146 : decode cL_refused 146 = .ok (.iload_n 3, 1) := by decide +kernel
theorem dL_refused_147 : decode cL_refused 147 = .ok (.iconst 0, 1) := by decide +kernel
theorem dL_refused_148 : decode cL_refused 148 = .ok (.invokestatic 257, 3) := by decide +kernel
theorem dL_refused_151 : decode cL_refused 151 = .ok (.sipush (-1001), 3) := by decide +kernel
theorem dL_refused_154 : decode cL_refused 154 = .ok (.if_icmp .ne 121, 3) := by decide +kernel
theorem dL_refused_157 : decode cL_refused 157 = .ok (.aload_n 0, 1) := by decide +kernel
theorem dL_refused_158 : decode cL_refused 158 = .ok (.iconst 0, 1) := by decide +kernel
theorem dL_refused_159 : decode cL_refused 159 = .ok (.iconst 1, 1) := by decide +kernel
theorem dL_refused_160 : decode cL_refused 160 = .ok (.iconst 0, 1) := by decide +kernel
theorem dL_refused_161 : decode cL_refused 161 = .ok (.invokestatic 283, 3) := by decide +kernel
theorem dL_refused_164 : decode cL_refused 164 = .ok (.ifCond .eq 111, 3) := by decide +kernel
theorem dL_refused_167 : decode cL_refused 167 = .ok (.aload_n 0, 1) := by decide +kernel
theorem dL_refused_168 : decode cL_refused 168 = .ok (.iconst 0, 1) := by decide +kernel
theorem dL_refused_169 : decode cL_refused 169 = .ok (.iconst 0, 1) := by decide +kernel
theorem dL_refused_170 : decode cL_refused 170 = .ok (.iconst 0, 1) := by decide +kernel
theorem dL_refused_171 : decode cL_refused 171 = .ok (.invokestatic 257, 3) := by decide +kernel
theorem dL_refused_174 : decode cL_refused 174 = .ok (.sipush (-1001), 3) := by decide +kernel
theorem dL_refused_177 : decode cL_refused 177 = .ok (.if_icmp .ne 98, 3) := by decide +kernel
theorem dL_refused_180 : decode cL_refused 180 = .ok (.aload_n 0, 1) := by decide +kernel
theorem dL_refused_181 : decode cL_refused 181 = .ok (.iconst 0, 1) := by decide +kernel
theorem dL_refused_182 : decode cL_refused 182 = .ok (.iconst 2, 1) := by decide +kernel
theorem dL_refused_183 : decode cL_refused 183 = .ok (.iconst 0, 1) := by decide +kernel
theorem dL_refused_184 : decode cL_refused 184 = .ok (.invokestatic 283, 3) := by decide +kernel
theorem dL_refused_187 : decode cL_refused 187 = .ok (.ifCond .eq 88, 3) := by decide +kernel
theorem dL_refused_190 : decode cL_refused 190 = .ok (.aload_n 0, 1) := by decide +kernel
theorem dL_refused_191 : decode cL_refused 191 = .ok (.iconst 0, 1) := by decide +kernel
theorem dL_refused_192 : decode cL_refused 192 = .ok (.iconst 0, 1) := by decide +kernel
theorem dL_refused_193 : decode cL_refused 193 = .ok (.ldc_w 287, 3) := by decide +kernel
theorem dL_refused_196 : decode cL_refused 196 = .ok (.invokestatic 257, 3) := by decide +kernel
theorem dL_refused_199 : decode cL_refused 199 = .ok (.sipush (-1001), 3) := by decide +kernel
theorem dL_refused_202 : decode cL_refused 202 = .ok (.if_icmp .ne 73, 3) := by decide +kernel
theorem dL_refused_205 : decode cL_refused 205 = .ok (.aload_n 0, 1) := by decide +kernel
theorem dL_refused_206 : decode cL_refused 206 = .ok (.iconst 3, 1) := by decide +kernel
theorem dL_refused_207 : decode cL_refused 207 = .ok (.invokestatic 259, 3) := by decide +kernel
theorem dL_refused_210 : decode cL_refused 210 = .ok (.sipush (-1001), 3) := by decide +kernel
theorem dL_refused_213 : decode cL_refused 213 = .ok (.if_icmp .ne 62, 3) := by decide +kernel
theorem dL_refused_216 : decode cL_refused 216 = .ok (.aload_n 0, 1) := by decide +kernel
theorem dL_refused_217 : decode cL_refused 217 = .ok (.iconst 0, 1) := by decide +kernel
theorem dL_refused_218 : decode cL_refused 218 = .ok (.iconst 1, 1) := by decide +kernel
theorem dL_refused_219 : decode cL_refused 219 = .ok (.iconst 0, 1) := by decide +kernel
theorem dL_refused_220 : decode cL_refused 220 = .ok (.invokestatic 283, 3) := by decide +kernel
theorem dL_refused_223 : decode cL_refused 223 = .ok (.ifCond .eq 52, 3) := by decide +kernel
theorem dL_refused_226 : decode cL_refused 226 = .ok (.aload_n 0, 1) := by decide +kernel
theorem dL_refused_227 : decode cL_refused 227 = .ok (.iconst (-1), 1) := by decide +kernel
theorem dL_refused_228 : decode cL_refused 228 = .ok (.invokestatic 259, 3) := by decide +kernel
theorem dL_refused_231 : decode cL_refused 231 = .ok (.sipush (-1001), 3) := by decide +kernel
theorem dL_refused_234 : decode cL_refused 234 = .ok (.if_icmp .ne 41, 3) := by decide +kernel
theorem dL_refused_237 : decode cL_refused 237 = .ok (.aload_n 0, 1) := by decide +kernel
theorem dL_refused_238 : decode cL_refused 238 = .ok (.iconst 0, 1) := by decide +kernel
theorem dL_refused_239 : decode cL_refused 239 = .ok (.invokestatic 261, 3) := by decide +kernel
theorem dL_refused_242 : decode cL_refused 242 = .ok (.sipush (-1001), 3) := by decide +kernel
theorem dL_refused_245 : decode cL_refused 245 = .ok (.if_icmp .ne 30, 3) := by decide +kernel
theorem dL_refused_248 : decode cL_refused 248 = .ok (.aload_n 0, 1) := by decide +kernel
theorem dL_refused_249 : decode cL_refused 249 = .ok (.iconst 0, 1) := by decide +kernel
theorem dL_refused_250 : decode cL_refused 250 = .ok (.iconst 2, 1) := by decide +kernel
theorem dL_refused_251 : decode cL_refused 251 = .ok (.iconst 0, 1) := by decide +kernel
theorem dL_refused_252 : decode cL_refused 252 = .ok (.invokestatic 283, 3) := by decide +kernel
theorem dL_refused_255 : decode cL_refused 255 = .ok (.ifCond .eq 20, 3) := by decide +kernel
theorem dL_refused_258 : decode cL_refused 258 = .ok (.aload_n 0, 1) := by decide +kernel
theorem dL_refused_259 : decode cL_refused 259 = .ok (.sipush 1000, 3) := by decide +kernel
theorem dL_refused_262 : decode cL_refused 262 = .ok (.invokestatic 261, 3) := by decide +kernel
theorem dL_refused_265 : decode cL_refused 265 = .ok (.sipush (-1001), 3) := by decide +kernel
theorem dL_refused_268 : decode cL_refused 268 = .ok (.if_icmp .ne 7, 3) := by decide +kernel
theorem dL_refused_271 : decode cL_refused 271 = .ok (.iconst 1, 1) := by decide +kernel
theorem dL_refused_272 : decode cL_refused 272 = .ok (.goto 4, 3) := by decide +kernel
theorem dL_refused_275 : decode cL_refused 275 = .ok (.iconst 0, 1) := by decide +kernel
theorem dL_refused_276 : decode cL_refused 276 = .ok (.istore 7, 2) := by decide +kernel
theorem dL_refused_278 : decode cL_refused 278 = .ok (.iload 7, 2) := by decide +kernel
theorem dL_refused_280 : decode cL_refused 280 = .ok (.ifCond .eq 327, 3) := by decide +kernel
theorem dL_refused_283 : decode cL_refused 283 = .ok (.aload_n 0, 1) := by decide +kernel
theorem dL_refused_284 : decode cL_refused 284 = .ok (.iload_n 3, 1) := by decide +kernel
theorem dL_refused_285 : decode cL_refused 285 = .ok (.iconst 0, 1) := by decide +kernel
theorem dL_refused_286 : decode cL_refused 286 = .ok (.invokestatic 263, 3) := by decide +kernel
theorem dL_refused_289 : decode cL_refused 289 = .ok (.sipush (-1001), 3) := by decide +kernel
theorem dL_refused_292 : decode cL_refused 292 = .ok (.if_icmp .ne 315, 3) := by decide +kernel
theorem dL_refused_295 : decode cL_refused 295 = .ok (.aload_n 0, 1) := by decide +kernel
theorem dL_refused_296 : decode cL_refused 296 = .ok (.iconst 0, 1) := by decide +kernel
theorem dL_refused_297 : decode cL_refused 297 = .ok (.iconst 1, 1) := by decide +kernel
theorem dL_refused_298 : decode cL_refused 298 = .ok (.iconst 0, 1) := by decide +kernel
theorem dL_refused_299 : decode cL_refused 299 = .ok (.invokestatic 283, 3) := by decide +kernel
theorem dL_refused_302 : decode cL_refused 302 = .ok (.ifCond .eq 305, 3) := by decide +kernel
theorem dL_refused_305 : decode cL_refused 305 = .ok (.aload_n 0, 1) := by decide +kernel
theorem dL_refused_306 : decode cL_refused 306 = .ok (.iconst 0, 1) := by decide +kernel
theorem dL_refused_307 : decode cL_refused 307 = .ok (.iconst 0, 1) := by decide +kernel
theorem dL_refused_308 : decode cL_refused 308 = .ok (.invokestatic 263, 3) := by decide +kernel
theorem dL_refused_311 : decode cL_refused 311 = .ok (.sipush (-1001), 3) := by decide +kernel
theorem dL_refused_314 : decode cL_refused 314 = .ok (.if_icmp .ne 293, 3) := by decide +kernel
theorem dL_refused_317 : decode cL_refused 317 = .ok (.aload_n 0, 1) := by decide +kernel
theorem dL_refused_318 : decode cL_refused 318 = .ok (.iconst 0, 1) := by decide +kernel
theorem dL_refused_319 : decode cL_refused 319 = .ok (.iconst 2, 1) := by decide +kernel
theorem dL_refused_320 : decode cL_refused 320 = .ok (.iconst 0, 1) := by decide +kernel
theorem dL_refused_321 : decode cL_refused 321 = .ok (.invokestatic 283, 3) := by decide +kernel
theorem dL_refused_324 : decode cL_refused 324 = .ok (.ifCond .eq 283, 3) := by decide +kernel
theorem dL_refused_327 : decode cL_refused 327 = .ok (.aload_n 0, 1) := by decide +kernel
theorem dL_refused_328 : decode cL_refused 328 = .ok (.iconst 0, 1) := by decide +kernel
theorem dL_refused_329 : decode cL_refused 329 = .ok (.sipush 201, 3) := by decide +kernel
theorem dL_refused_332 : decode cL_refused 332 = .ok (.invokestatic 263, 3) := by decide +kernel
theorem dL_refused_335 : decode cL_refused 335 = .ok (.sipush (-1001), 3) := by decide +kernel
theorem dL_refused_338 : decode cL_refused 338 = .ok (.if_icmp .ne 269, 3) := by decide +kernel
theorem dL_refused_341 : decode cL_refused 341 = .ok (.aload_n 0, 1) := by decide +kernel
theorem dL_refused_342 : decode cL_refused 342 = .ok (.iconst 0, 1) := by decide +kernel
theorem dL_refused_343 : decode cL_refused 343 = .ok (.iconst 2, 1) := by decide +kernel
theorem dL_refused_344 : decode cL_refused 344 = .ok (.iconst 0, 1) := by decide +kernel
theorem dL_refused_345 : decode cL_refused 345 = .ok (.invokestatic 283, 3) := by decide +kernel
theorem dL_refused_348 : decode cL_refused 348 = .ok (.ifCond .eq 259, 3) := by decide +kernel
theorem dL_refused_351 : decode cL_refused 351 = .ok (.aload_n 0, 1) := by decide +kernel
theorem dL_refused_352 : decode cL_refused 352 = .ok (.iload 4, 2) := by decide +kernel
theorem dL_refused_354 : decode cL_refused 354 = .ok (.iconst 0, 1) := by decide +kernel
theorem dL_refused_355 : decode cL_refused 355 = .ok (.iconst 0, 1) := by decide +kernel
theorem dL_refused_356 : decode cL_refused 356 = .ok (.iconst 0, 1) := by decide +kernel
theorem dL_refused_357 : decode cL_refused 357 = .ok (.invokestatic 265, 3) := by decide +kernel
theorem dL_refused_360 : decode cL_refused 360 = .ok (.sipush (-1001), 3) := by decide +kernel
theorem dL_refused_363 : decode cL_refused 363 = .ok (.if_icmp .ne 244, 3) := by decide +kernel
theorem dL_refused_366 : decode cL_refused 366 = .ok (.aload_n 0, 1) := by decide +kernel
theorem dL_refused_367 : decode cL_refused 367 = .ok (.iconst 0, 1) := by decide +kernel
theorem dL_refused_368 : decode cL_refused 368 = .ok (.iconst 1, 1) := by decide +kernel
theorem dL_refused_369 : decode cL_refused 369 = .ok (.iconst 0, 1) := by decide +kernel
theorem dL_refused_370 : decode cL_refused 370 = .ok (.invokestatic 283, 3) := by decide +kernel
theorem dL_refused_373 : decode cL_refused 373 = .ok (.ifCond .eq 234, 3) := by decide +kernel
theorem dL_refused_376 : decode cL_refused 376 = .ok (.aload_n 0, 1) := by decide +kernel
theorem dL_refused_377 : decode cL_refused 377 = .ok (.iconst 0, 1) := by decide +kernel
theorem dL_refused_378 : decode cL_refused 378 = .ok (.iload_n 3, 1) := by decide +kernel
theorem dL_refused_379 : decode cL_refused 379 = .ok (.iconst 0, 1) := by decide +kernel
theorem dL_refused_380 : decode cL_refused 380 = .ok (.iconst 0, 1) := by decide +kernel
theorem dL_refused_381 : decode cL_refused 381 = .ok (.invokestatic 265, 3) := by decide +kernel
theorem dL_refused_384 : decode cL_refused 384 = .ok (.sipush (-1001), 3) := by decide +kernel
theorem dL_refused_387 : decode cL_refused 387 = .ok (.if_icmp .ne 220, 3) := by decide +kernel
theorem dL_refused_390 : decode cL_refused 390 = .ok (.aload_n 0, 1) := by decide +kernel
theorem dL_refused_391 : decode cL_refused 391 = .ok (.iconst 0, 1) := by decide +kernel
theorem dL_refused_392 : decode cL_refused 392 = .ok (.iconst 1, 1) := by decide +kernel
theorem dL_refused_393 : decode cL_refused 393 = .ok (.iconst 0, 1) := by decide +kernel
theorem dL_refused_394 : decode cL_refused 394 = .ok (.invokestatic 283, 3) := by decide +kernel
theorem dL_refused_397 : decode cL_refused 397 = .ok (.ifCond .eq 210, 3) := by decide +kernel
theorem dL_refused_400 : decode cL_refused 400 = .ok (.aload_n 0, 1) := by decide +kernel
theorem dL_refused_401 : decode cL_refused 401 = .ok (.iconst 0, 1) := by decide +kernel
theorem dL_refused_402 : decode cL_refused 402 = .ok (.iconst 0, 1) := by decide +kernel
theorem dL_refused_403 : decode cL_refused 403 = .ok (.iconst 0, 1) := by decide +kernel
theorem dL_refused_404 : decode cL_refused 404 = .ok (.iconst 0, 1) := by decide +kernel
theorem dL_refused_405 : decode cL_refused 405 = .ok (.invokestatic 265, 3) := by decide +kernel
theorem dL_refused_408 : decode cL_refused 408 = .ok (.sipush (-1001), 3) := by decide +kernel
theorem dL_refused_411 : decode cL_refused 411 = .ok (.if_icmp .ne 196, 3) := by decide +kernel
theorem dL_refused_414 : decode cL_refused 414 = .ok (.aload_n 0, 1) := by decide +kernel
theorem dL_refused_415 : decode cL_refused 415 = .ok (.iconst 0, 1) := by decide +kernel
theorem dL_refused_416 : decode cL_refused 416 = .ok (.iconst 2, 1) := by decide +kernel
theorem dL_refused_417 : decode cL_refused 417 = .ok (.iconst 0, 1) := by decide +kernel
theorem dL_refused_418 : decode cL_refused 418 = .ok (.invokestatic 283, 3) := by decide +kernel
theorem dL_refused_421 : decode cL_refused 421 = .ok (.ifCond .eq 186, 3) := by decide +kernel
theorem dL_refused_424 : decode cL_refused 424 = .ok (.aload_n 0, 1) := by decide +kernel
theorem dL_refused_425 : decode cL_refused 425 = .ok (.iconst 0, 1) := by decide +kernel
theorem dL_refused_426 : decode cL_refused 426 = .ok (.iconst 0, 1) := by decide +kernel
theorem dL_refused_427 : decode cL_refused 427 = .ok (.bipush 21, 2) := by decide +kernel
theorem dL_refused_429 : decode cL_refused 429 = .ok (.iconst 0, 1) := by decide +kernel
theorem dL_refused_430 : decode cL_refused 430 = .ok (.invokestatic 265, 3) := by decide +kernel
theorem dL_refused_433 : decode cL_refused 433 = .ok (.sipush (-1001), 3) := by decide +kernel
theorem dL_refused_436 : decode cL_refused 436 = .ok (.if_icmp .ne 171, 3) := by decide +kernel
theorem dL_refused_439 : decode cL_refused 439 = .ok (.aload_n 0, 1) := by decide +kernel
theorem dL_refused_440 : decode cL_refused 440 = .ok (.iconst 0, 1) := by decide +kernel
theorem dL_refused_441 : decode cL_refused 441 = .ok (.iconst 0, 1) := by decide +kernel
theorem dL_refused_442 : decode cL_refused 442 = .ok (.iconst 1, 1) := by decide +kernel
theorem dL_refused_443 : decode cL_refused 443 = .ok (.iconst (-1), 1) := by decide +kernel
theorem dL_refused_444 : decode cL_refused 444 = .ok (.invokestatic 265, 3) := by decide +kernel
theorem dL_refused_447 : decode cL_refused 447 = .ok (.sipush (-1001), 3) := by decide +kernel
theorem dL_refused_450 : decode cL_refused 450 = .ok (.if_icmp .ne 157, 3) := by decide +kernel
theorem dL_refused_453 : decode cL_refused 453 = .ok (.aload_n 0, 1) := by decide +kernel
theorem dL_refused_454 : decode cL_refused 454 = .ok (.iconst 0, 1) := by decide +kernel
theorem dL_refused_455 : decode cL_refused 455 = .ok (.iconst 0, 1) := by decide +kernel
theorem dL_refused_456 : decode cL_refused 456 = .ok (.iconst 1, 1) := by decide +kernel
theorem dL_refused_457 : decode cL_refused 457 = .ok (.bipush 100, 2) := by decide +kernel
theorem dL_refused_459 : decode cL_refused 459 = .ok (.invokestatic 265, 3) := by decide +kernel
theorem dL_refused_462 : decode cL_refused 462 = .ok (.sipush (-1001), 3) := by decide +kernel
theorem dL_refused_465 : decode cL_refused 465 = .ok (.if_icmp .ne 142, 3) := by decide +kernel
theorem dL_refused_468 : decode cL_refused 468 = .ok (.aload_n 0, 1) := by decide +kernel
theorem dL_refused_469 : decode cL_refused 469 = .ok (.iload 6, 2) := by decide +kernel
theorem dL_refused_471 : decode cL_refused 471 = .ok (.invokestatic 268, 3) := by decide +kernel
theorem dL_refused_474 : decode cL_refused 474 = .ok (.sipush (-1001), 3) := by decide +kernel
theorem dL_refused_477 : decode cL_refused 477 = .ok (.if_icmp .ne 130, 3) := by decide +kernel
theorem dL_refused_480 : decode cL_refused 480 = .ok (.aload_n 0, 1) := by decide +kernel
theorem dL_refused_481 : decode cL_refused 481 = .ok (.iconst 0, 1) := by decide +kernel
theorem dL_refused_482 : decode cL_refused 482 = .ok (.iconst 1, 1) := by decide +kernel
theorem dL_refused_483 : decode cL_refused 483 = .ok (.iconst 0, 1) := by decide +kernel
theorem dL_refused_484 : decode cL_refused 484 = .ok (.invokestatic 283, 3) := by decide +kernel
theorem dL_refused_487 : decode cL_refused 487 = .ok (.ifCond .eq 120, 3) := by decide +kernel
theorem dL_refused_490 : decode cL_refused 490 = .ok (.aload_n 0, 1) := by decide +kernel
theorem dL_refused_491 : decode cL_refused 491 = .ok (.iconst 4, 1) := by decide +kernel
theorem dL_refused_492 : decode cL_refused 492 = .ok (.iconst 0, 1) := by decide +kernel
theorem dL_refused_493 : decode cL_refused 493 = .ok (.invokestatic 190, 3) := by decide +kernel
theorem dL_refused_496 : decode cL_refused 496 = .ok (.sipush (-1001), 3) := by decide +kernel
theorem dL_refused_499 : decode cL_refused 499 = .ok (.if_icmp .ne 108, 3) := by decide +kernel
theorem dL_refused_502 : decode cL_refused 502 = .ok (.aload_n 0, 1) := by decide +kernel
theorem dL_refused_503 : decode cL_refused 503 = .ok (.iconst 0, 1) := by decide +kernel
theorem dL_refused_504 : decode cL_refused 504 = .ok (.iconst 2, 1) := by decide +kernel
theorem dL_refused_505 : decode cL_refused 505 = .ok (.iconst 0, 1) := by decide +kernel
theorem dL_refused_506 : decode cL_refused 506 = .ok (.invokestatic 283, 3) := by decide +kernel
theorem dL_refused_509 : decode cL_refused 509 = .ok (.ifCond .eq 98, 3) := by decide +kernel
theorem dL_refused_512 : decode cL_refused 512 = .ok (.aload_n 0, 1) := by decide +kernel
theorem dL_refused_513 : decode cL_refused 513 = .ok (.iconst (-1), 1) := by decide +kernel
theorem dL_refused_514 : decode cL_refused 514 = .ok (.iconst 0, 1) := by decide +kernel
theorem dL_refused_515 : decode cL_refused 515 = .ok (.invokestatic 190, 3) := by decide +kernel
theorem dL_refused_518 : decode cL_refused 518 = .ok (.sipush (-1001), 3) := by decide +kernel
theorem dL_refused_521 : decode cL_refused 521 = .ok (.if_icmp .ne 86, 3) := by decide +kernel
theorem dL_refused_524 : decode cL_refused 524 = .ok (.aload_n 0, 1) := by decide +kernel
theorem dL_refused_525 : decode cL_refused 525 = .ok (.iconst 0, 1) := by decide +kernel
theorem dL_refused_526 : decode cL_refused 526 = .ok (.bipush 59, 2) := by decide +kernel
theorem dL_refused_528 : decode cL_refused 528 = .ok (.invokestatic 190, 3) := by decide +kernel
theorem dL_refused_531 : decode cL_refused 531 = .ok (.sipush (-1001), 3) := by decide +kernel
theorem dL_refused_534 : decode cL_refused 534 = .ok (.if_icmp .ne 73, 3) := by decide +kernel
theorem dL_refused_537 : decode cL_refused 537 = .ok (.aload_n 0, 1) := by decide +kernel
theorem dL_refused_538 : decode cL_refused 538 = .ok (.iconst 0, 1) := by decide +kernel
theorem dL_refused_539 : decode cL_refused 539 = .ok (.sipush 10000, 3) := by decide +kernel
theorem dL_refused_542 : decode cL_refused 542 = .ok (.invokestatic 190, 3) := by decide +kernel
theorem dL_refused_545 : decode cL_refused 545 = .ok (.sipush (-1001), 3) := by decide +kernel
theorem dL_refused_548 : decode cL_refused 548 = .ok (.if_icmp .ne 59, 3) := by decide +kernel
theorem dL_refused_551 : decode cL_refused 551 = .ok (.aload_n 0, 1) := by decide +kernel
theorem dL_refused_552 : decode cL_refused 552 = .ok (.iconst 1, 1) := by decide +kernel
theorem dL_refused_553 : decode cL_refused 553 = .ok (.sipush 1000, 3) := by decide +kernel
theorem dL_refused_556 : decode cL_refused 556 = .ok (.invokestatic 190, 3) := by decide +kernel
theorem dL_refused_559 : decode cL_refused 559 = .ok (.sipush (-1001), 3) := by decide +kernel
theorem dL_refused_562 : decode cL_refused 562 = .ok (.if_icmp .ne 45, 3) := by decide +kernel
theorem dL_refused_565 : decode cL_refused 565 = .ok (.aload_n 0, 1) := by decide +kernel
theorem dL_refused_566 : decode cL_refused 566 = .ok (.iconst 2, 1) := by decide +kernel
theorem dL_refused_567 : decode cL_refused 567 = .ok (.bipush 6, 2) := by decide +kernel
theorem dL_refused_569 : decode cL_refused 569 = .ok (.invokestatic 190, 3) := by decide +kernel
theorem dL_refused_572 : decode cL_refused 572 = .ok (.sipush (-1001), 3) := by decide +kernel
theorem dL_refused_575 : decode cL_refused 575 = .ok (.if_icmp .ne 32, 3) := by decide +kernel
theorem dL_refused_578 : decode cL_refused 578 = .ok (.aload_n 0, 1) := by decide +kernel
theorem dL_refused_579 : decode cL_refused 579 = .ok (.iconst 3, 1) := by decide +kernel
theorem dL_refused_580 : decode cL_refused 580 = .ok (.bipush 100, 2) := by decide +kernel
theorem dL_refused_582 : decode cL_refused 582 = .ok (.invokestatic 190, 3) := by decide +kernel
theorem dL_refused_585 : decode cL_refused 585 = .ok (.sipush (-1001), 3) := by decide +kernel
theorem dL_refused_588 : decode cL_refused 588 = .ok (.if_icmp .ne 19, 3) := by decide +kernel
theorem dL_refused_591 : decode cL_refused 591 = .ok (.aload_n 0, 1) := by decide +kernel
theorem dL_refused_592 : decode cL_refused 592 = .ok (.iconst 3, 1) := by decide +kernel
theorem dL_refused_593 : decode cL_refused 593 = .ok (.iconst (-1), 1) := by decide +kernel
theorem dL_refused_594 : decode cL_refused 594 = .ok (.invokestatic 190, 3) := by decide +kernel
theorem dL_refused_597 : decode cL_refused 597 = .ok (.sipush (-1001), 3) := by decide +kernel
theorem dL_refused_600 : decode cL_refused 600 = .ok (.if_icmp .ne 7, 3) := by decide +kernel
theorem dL_refused_603 : decode cL_refused 603 = .ok (.iconst 1, 1) := by decide +kernel
theorem dL_refused_604 : decode cL_refused 604 = .ok (.goto 4, 3) := by decide +kernel
theorem dL_refused_607 : decode cL_refused 607 = .ok (.iconst 0, 1) := by decide +kernel
theorem dL_refused_608 : decode cL_refused 608 = .ok (.istore 7, 2) := by decide +kernel
theorem dL_refused_610 : decode cL_refused 610 = .ok (.iload 7, 2) := by decide +kernel
theorem dL_refused_612 : decode cL_refused 612 = .ok (.ifCond .eq 357, 3) := by decide +kernel
theorem dL_refused_615 : decode cL_refused 615 = .ok (.aload_n 0, 1) := by decide +kernel
theorem dL_refused_616 : decode cL_refused 616 = .ok (.iload_n 3, 1) := by decide +kernel
theorem dL_refused_617 : decode cL_refused 617 = .ok (.iconst 0, 1) := by decide +kernel
theorem dL_refused_618 : decode cL_refused 618 = .ok (.invokestatic 232, 3) := by decide +kernel
theorem dL_refused_621 : decode cL_refused 621 = .ok (.sipush (-1001), 3) := by decide +kernel
theorem dL_refused_624 : decode cL_refused 624 = .ok (.if_icmp .ne 345, 3) := by decide +kernel
theorem dL_refused_627 : decode cL_refused 627 = .ok (.aload_n 0, 1) := by decide +kernel
theorem dL_refused_628 : decode cL_refused 628 = .ok (.iconst 0, 1) := by decide +kernel
theorem dL_refused_629 : decode cL_refused 629 = .ok (.iconst (-1), 1) := by decide +kernel
theorem dL_refused_630 : decode cL_refused 630 = .ok (.invokestatic 232, 3) := by decide +kernel
theorem dL_refused_633 : decode cL_refused 633 = .ok (.sipush (-1001), 3) := by decide +kernel
theorem dL_refused_636 : decode cL_refused 636 = .ok (.if_icmp .ne 333, 3) := by decide +kernel
theorem dL_refused_639 : decode cL_refused 639 = .ok (.aload_n 0, 1) := by decide +kernel
theorem dL_refused_640 : decode cL_refused 640 = .ok (.iload_n 3, 1) := by decide +kernel
theorem dL_refused_641 : decode cL_refused 641 = .ok (.iconst 0, 1) := by decide +kernel
theorem dL_refused_642 : decode cL_refused 642 = .ok (.invokestatic 234, 3) := by decide +kernel
theorem dL_refused_645 : decode cL_refused 645 = .ok (.sipush (-1001), 3) := by decide +kernel
theorem dL_refused_648 : decode cL_refused 648 = .ok (.if_icmp .ne 321, 3) := by decide +kernel
theorem dL_refused_651 : decode cL_refused 651 = .ok (.aload_n 0, 1) := by decide +kernel
theorem dL_refused_652 : decode cL_refused 652 = .ok (.iconst 0, 1) := by decide +kernel
theorem dL_refused_653 : decode cL_refused 653 = .ok (.iconst 0, 1) := by decide +kernel
theorem dL_refused_654 : decode cL_refused 654 = .ok (.invokestatic 234, 3) := by decide +kernel
theorem dL_refused_657 : decode cL_refused 657 = .ok (.sipush (-1002), 3) := by decide +kernel
theorem dL_refused_660 : decode cL_refused 660 = .ok (.if_icmp .ne 309, 3) := by decide +kernel
theorem dL_refused_663 : decode cL_refused 663 = .ok (.aload_n 0, 1) := by decide +kernel
theorem dL_refused_664 : decode cL_refused 664 = .ok (.iconst 0, 1) := by decide +kernel
theorem dL_refused_665 : decode cL_refused 665 = .ok (.sipush 201, 3) := by decide +kernel
theorem dL_refused_668 : decode cL_refused 668 = .ok (.invokestatic 234, 3) := by decide +kernel
theorem dL_refused_671 : decode cL_refused 671 = .ok (.sipush (-1002), 3) := by decide +kernel
theorem dL_refused_674 : decode cL_refused 674 = .ok (.if_icmp .ne 295, 3) := by decide +kernel
theorem dL_refused_677 : decode cL_refused 677 = .ok (.aload_n 0, 1) := by decide +kernel
theorem dL_refused_678 : decode cL_refused 678 = .ok (.iconst (-1), 1) := by decide +kernel
theorem dL_refused_679 : decode cL_refused 679 = .ok (.invokestatic 241, 3) := by decide +kernel
theorem dL_refused_682 : decode cL_refused 682 = .ok (.sipush (-1001), 3) := by decide +kernel
theorem dL_refused_685 : decode cL_refused 685 = .ok (.if_icmp .ne 284, 3) := by decide +kernel
theorem dL_refused_688 : decode cL_refused 688 = .ok (.aload_n 0, 1) := by decide +kernel
theorem dL_refused_689 : decode cL_refused 689 = .ok (.iconst 1, 1) := by decide +kernel
theorem dL_refused_690 : decode cL_refused 690 = .ok (.iload_n 3, 1) := by decide +kernel
theorem dL_refused_691 : decode cL_refused 691 = .ok (.ishl, 1) := by decide +kernel
theorem dL_refused_692 : decode cL_refused 692 = .ok (.invokestatic 241, 3) := by decide +kernel
theorem dL_refused_695 : decode cL_refused 695 = .ok (.sipush (-1001), 3) := by decide +kernel
theorem dL_refused_698 : decode cL_refused 698 = .ok (.if_icmp .ne 271, 3) := by decide +kernel
theorem dL_refused_701 : decode cL_refused 701 = .ok (.aload_n 0, 1) := by decide +kernel
theorem dL_refused_702 : decode cL_refused 702 = .ok (.iload 5, 2) := by decide +kernel
theorem dL_refused_704 : decode cL_refused 704 = .ok (.bipush 9, 2) := by decide +kernel
theorem dL_refused_706 : decode cL_refused 706 = .ok (.invokestatic 215, 3) := by decide +kernel
theorem dL_refused_709 : decode cL_refused 709 = .ok (.sipush (-1001), 3) := by decide +kernel
theorem dL_refused_712 : decode cL_refused 712 = .ok (.if_icmp .ne 257, 3) := by decide +kernel
theorem dL_refused_715 : decode cL_refused 715 = .ok (.aload_n 0, 1) := by decide +kernel
theorem dL_refused_716 : decode cL_refused 716 = .ok (.iconst 0, 1) := by decide +kernel
theorem dL_refused_717 : decode cL_refused 717 = .ok (.iconst 5, 1) := by decide +kernel
theorem dL_refused_718 : decode cL_refused 718 = .ok (.invokestatic 215, 3) := by decide +kernel
theorem dL_refused_721 : decode cL_refused 721 = .ok (.sipush (-1002), 3) := by decide +kernel
theorem dL_refused_724 : decode cL_refused 724 = .ok (.if_icmp .ne 245, 3) := by decide +kernel
theorem dL_refused_727 : decode cL_refused 727 = .ok (.aload_n 0, 1) := by decide +kernel
theorem dL_refused_728 : decode cL_refused 728 = .ok (.iconst 0, 1) := by decide +kernel
theorem dL_refused_729 : decode cL_refused 729 = .ok (.iload 4, 2) := by decide +kernel
theorem dL_refused_731 : decode cL_refused 731 = .ok (.invokestatic 288, 3) := by decide +kernel
theorem dL_refused_734 : decode cL_refused 734 = .ok (.sipush (-1001), 3) := by decide +kernel
theorem dL_refused_737 : decode cL_refused 737 = .ok (.if_icmp .ne 232, 3) := by decide +kernel
theorem dL_refused_740 : decode cL_refused 740 = .ok (.aload_n 0, 1) := by decide +kernel
theorem dL_refused_741 : decode cL_refused 741 = .ok (.iload 5, 2) := by decide +kernel
theorem dL_refused_743 : decode cL_refused 743 = .ok (.iconst 0, 1) := by decide +kernel
theorem dL_refused_744 : decode cL_refused 744 = .ok (.invokestatic 288, 3) := by decide +kernel
theorem dL_refused_747 : decode cL_refused 747 = .ok (.sipush (-1001), 3) := by decide +kernel
theorem dL_refused_750 : decode cL_refused 750 = .ok (.if_icmp .ne 219, 3) := by decide +kernel
theorem dL_refused_753 : decode cL_refused 753 = .ok (.aload_n 0, 1) := by decide +kernel
theorem dL_refused_754 : decode cL_refused 754 = .ok (.iload 4, 2) := by decide +kernel
theorem dL_refused_756 : decode cL_refused 756 = .ok (.invokestatic 219, 3) := by decide +kernel
theorem dL_refused_759 : decode cL_refused 759 = .ok (.sipush (-1001), 3) := by decide +kernel
theorem dL_refused_762 : decode cL_refused 762 = .ok (.if_icmp .ne 207, 3) := by decide +kernel
theorem dL_refused_765 : decode cL_refused 765 = .ok (.aload_n 0, 1) := by decide +kernel
theorem dL_refused_766 : decode cL_refused 766 = .ok (.iconst 3, 1) := by decide +kernel
theorem dL_refused_767 : decode cL_refused 767 = .ok (.bipush 9, 2) := by decide +kernel
theorem dL_refused_769 : decode cL_refused 769 = .ok (.invokestatic 217, 3) := by decide +kernel
theorem dL_refused_772 : decode cL_refused 772 = .ok (.sipush (-1001), 3) := by decide +kernel
theorem dL_refused_775 : decode cL_refused 775 = .ok (.if_icmp .ne 194, 3) := by decide +kernel
theorem dL_refused_778 : decode cL_refused 778 = .ok (.aload_n 0, 1) := by decide +kernel
theorem dL_refused_779 : decode cL_refused 779 = .ok (.iconst 0, 1) := by decide +kernel
theorem dL_refused_780 : decode cL_refused 780 = .ok (.iconst 4, 1) := by decide +kernel
theorem dL_refused_781 : decode cL_refused 781 = .ok (.invokestatic 217, 3) := by decide +kernel
theorem dL_refused_784 : decode cL_refused 784 = .ok (.sipush (-1002), 3) := by decide +kernel
theorem dL_refused_787 : decode cL_refused 787 = .ok (.if_icmp .ne 182, 3) := by decide +kernel
theorem dL_refused_790 : decode cL_refused 790 = .ok (.aload_n 0, 1) := by decide +kernel
theorem dL_refused_791 : decode cL_refused 791 = .ok (.iconst 0, 1) := by decide +kernel
theorem dL_refused_792 : decode cL_refused 792 = .ok (.iconst (-1), 1) := by decide +kernel
theorem dL_refused_793 : decode cL_refused 793 = .ok (.invokestatic 217, 3) := by decide +kernel
theorem dL_refused_796 : decode cL_refused 796 = .ok (.sipush (-1002), 3) := by decide +kernel
theorem dL_refused_799 : decode cL_refused 799 = .ok (.if_icmp .ne 170, 3) := by decide +kernel
theorem dL_refused_802 : decode cL_refused 802 = .ok (.aload_n 0, 1) := by decide +kernel
theorem dL_refused_803 : decode cL_refused 803 = .ok (.iload 4, 2) := by decide +kernel
theorem dL_refused_805 : decode cL_refused 805 = .ok (.iconst 0, 1) := by decide +kernel
theorem dL_refused_806 : decode cL_refused 806 = .ok (.iconst 0, 1) := by decide +kernel
theorem dL_refused_807 : decode cL_refused 807 = .ok (.invokestatic 223, 3) := by decide +kernel
theorem dL_refused_810 : decode cL_refused 810 = .ok (.sipush (-1001), 3) := by decide +kernel
theorem dL_refused_813 : decode cL_refused 813 = .ok (.if_icmp .ne 156, 3) := by decide +kernel
theorem dL_refused_816 : decode cL_refused 816 = .ok (.aload_n 0, 1) := by decide +kernel
theorem dL_refused_817 : decode cL_refused 817 = .ok (.iconst 0, 1) := by decide +kernel
theorem dL_refused_818 : decode cL_refused 818 = .ok (.iload_n 3, 1) := by decide +kernel
theorem dL_refused_819 : decode cL_refused 819 = .ok (.bipush 9, 2) := by decide +kernel
theorem dL_refused_821 : decode cL_refused 821 = .ok (.invokestatic 223, 3) := by decide +kernel
theorem dL_refused_824 : decode cL_refused 824 = .ok (.sipush (-1001), 3) := by decide +kernel
theorem dL_refused_827 : decode cL_refused 827 = .ok (.if_icmp .ne 142, 3) := by decide +kernel
theorem dL_refused_830 : decode cL_refused 830 = .ok (.aload_n 0, 1) := by decide +kernel
theorem dL_refused_831 : decode cL_refused 831 = .ok (.iconst 0, 1) := by decide +kernel
theorem dL_refused_832 : decode cL_refused 832 = .ok (.iconst 0, 1) := by decide +kernel
theorem dL_refused_833 : decode cL_refused 833 = .ok (.iconst 3, 1) := by decide +kernel
theorem dL_refused_834 : decode cL_refused 834 = .ok (.invokestatic 223, 3) := by decide +kernel
theorem dL_refused_837 : decode cL_refused 837 = .ok (.sipush (-1002), 3) := by decide +kernel
theorem dL_refused_840 : decode cL_refused 840 = .ok (.if_icmp .ne 129, 3) := by decide +kernel
theorem dL_refused_843 : decode cL_refused 843 = .ok (.aload_n 0, 1) := by decide +kernel
theorem dL_refused_844 : decode cL_refused 844 = .ok (.iload 4, 2) := by decide +kernel
theorem dL_refused_846 : decode cL_refused 846 = .ok (.iconst 0, 1) := by decide +kernel
theorem dL_refused_847 : decode cL_refused 847 = .ok (.invokestatic 221, 3) := by decide +kernel
theorem dL_refused_850 : decode cL_refused 850 = .ok (.sipush (-1001), 3) := by decide +kernel
theorem dL_refused_853 : decode cL_refused 853 = .ok (.if_icmp .ne 116, 3) := by decide +kernel
theorem dL_refused_856 : decode cL_refused 856 = .ok (.aload_n 0, 1) := by decide +kernel
theorem dL_refused_857 : decode cL_refused 857 = .ok (.iconst 0, 1) := by decide +kernel
theorem dL_refused_858 : decode cL_refused 858 = .ok (.iconst 4, 1) := by decide +kernel
theorem dL_refused_859 : decode cL_refused 859 = .ok (.invokestatic 221, 3) := by decide +kernel
theorem dL_refused_862 : decode cL_refused 862 = .ok (.sipush (-1002), 3) := by decide +kernel
theorem dL_refused_865 : decode cL_refused 865 = .ok (.if_icmp .ne 104, 3) := by decide +kernel
theorem dL_refused_868 : decode cL_refused 868 = .ok (.aload_n 0, 1) := by decide +kernel
theorem dL_refused_869 : decode cL_refused 869 = .ok (.iload 6, 2) := by decide +kernel
theorem dL_refused_871 : decode cL_refused 871 = .ok (.bipush 9, 2) := by decide +kernel
theorem dL_refused_873 : decode cL_refused 873 = .ok (.invokestatic 226, 3) := by decide +kernel
theorem dL_refused_876 : decode cL_refused 876 = .ok (.sipush (-1001), 3) := by decide +kernel
theorem dL_refused_879 : decode cL_refused 879 = .ok (.if_icmp .ne 90, 3) := by decide +kernel
theorem dL_refused_882 : decode cL_refused 882 = .ok (.aload_n 0, 1) := by decide +kernel
theorem dL_refused_883 : decode cL_refused 883 = .ok (.iload 6, 2) := by decide +kernel
theorem dL_refused_885 : decode cL_refused 885 = .ok (.invokestatic 228, 3) := by decide +kernel
theorem dL_refused_888 : decode cL_refused 888 = .ok (.sipush (-1001), 3) := by decide +kernel
theorem dL_refused_891 : decode cL_refused 891 = .ok (.if_icmp .ne 78, 3) := by decide +kernel
theorem dL_refused_894 : decode cL_refused 894 = .ok (.aload_n 0, 1) := by decide +kernel
theorem dL_refused_895 : decode cL_refused 895 = .ok (.iload 6, 2) := by decide +kernel
theorem dL_refused_897 : decode cL_refused 897 = .ok (.invokestatic 230, 3) := by decide +kernel
theorem dL_refused_900 : decode cL_refused 900 = .ok (.sipush (-1001), 3) := by decide +kernel
theorem dL_refused_903 : decode cL_refused 903 = .ok (.if_icmp .ne 66, 3) := by decide +kernel
theorem dL_refused_906 : decode cL_refused 906 = .ok (.aload_n 0, 1) := by decide +kernel
theorem dL_refused_907 : decode cL_refused 907 = .ok (.iconst (-1), 1) := by decide +kernel
theorem dL_refused_908 : decode cL_refused 908 = .ok (.invokestatic 243, 3) := by decide +kernel
theorem dL_refused_911 : decode cL_refused 911 = .ok (.sipush (-1001), 3) := by decide +kernel
theorem dL_refused_914 : decode cL_refused 914 = .ok (.if_icmp .ne 55, 3) := by decide +kernel
theorem dL_refused_917 : decode cL_refused 917 = .ok (.aload_n 0, 1) := by decide +kernel
theorem dL_refused_918 : decode cL_refused 918 = .ok (.iconst (-1), 1) := by decide +kernel
theorem dL_refused_919 : decode cL_refused 919 = .ok (.iconst 1, 1) := by decide +kernel
theorem dL_refused_920 : decode cL_refused 920 = .ok (.invokestatic 158, 3) := by decide +kernel
theorem dL_refused_923 : decode cL_refused 923 = .ok (.sipush (-1001), 3) := by decide +kernel
theorem dL_refused_926 : decode cL_refused 926 = .ok (.if_icmp .ne 43, 3) := by decide +kernel
theorem dL_refused_929 : decode cL_refused 929 = .ok (.aload_n 0, 1) := by decide +kernel
theorem dL_refused_930 : decode cL_refused 930 = .ok (.bipush 9, 2) := by decide +kernel
theorem dL_refused_932 : decode cL_refused 932 = .ok (.iconst 1, 1) := by decide +kernel
theorem dL_refused_933 : decode cL_refused 933 = .ok (.invokestatic 158, 3) := by decide +kernel
theorem dL_refused_936 : decode cL_refused 936 = .ok (.sipush (-1002), 3) := by decide +kernel
theorem dL_refused_939 : decode cL_refused 939 = .ok (.if_icmp .ne 30, 3) := by decide +kernel
theorem dL_refused_942 : decode cL_refused 942 = .ok (.aload_n 0, 1) := by decide +kernel
theorem dL_refused_943 : decode cL_refused 943 = .ok (.bipush 19, 2) := by decide +kernel
theorem dL_refused_945 : decode cL_refused 945 = .ok (.invokestatic 213, 3) := by decide +kernel
theorem dL_refused_948 : decode cL_refused 948 = .ok (.sipush (-1001), 3) := by decide +kernel
theorem dL_refused_951 : decode cL_refused 951 = .ok (.if_icmp .ne 18, 3) := by decide +kernel
theorem dL_refused_954 : decode cL_refused 954 = .ok (.aload_n 0, 1) := by decide +kernel
theorem dL_refused_955 : decode cL_refused 955 = .ok (.iconst (-1), 1) := by decide +kernel
theorem dL_refused_956 : decode cL_refused 956 = .ok (.invokestatic 213, 3) := by decide +kernel
theorem dL_refused_959 : decode cL_refused 959 = .ok (.sipush (-1001), 3) := by decide +kernel
theorem dL_refused_962 : decode cL_refused 962 = .ok (.if_icmp .ne 7, 3) := by decide +kernel
theorem dL_refused_965 : decode cL_refused 965 = .ok (.iconst 1, 1) := by decide +kernel
theorem dL_refused_966 : decode cL_refused 966 = .ok (.goto 4, 3) := by decide +kernel
theorem dL_refused_969 : decode cL_refused 969 = .ok (.iconst 0, 1) := by decide +kernel
theorem dL_refused_970 : decode cL_refused 970 = .ok (.istore 7, 2) := by decide +kernel
theorem dL_refused_972 : decode cL_refused 972 = .ok (.iload 7, 2) := by decide +kernel
theorem dL_refused_974 : decode cL_refused 974 = .ok (.ifCond .eq 68, 3) := by decide +kernel
theorem dL_refused_977 : decode cL_refused 977 = .ok (.aload_n 0, 1) := by decide +kernel
theorem dL_refused_978 : decode cL_refused 978 = .ok (.ldc_w 290, 3) := by decide +kernel
theorem dL_refused_981 : decode cL_refused 981 = .ok (.invokestatic 276, 3) := by decide +kernel
theorem dL_refused_984 : decode cL_refused 984 = .ok (.sipush (-1002), 3) := by decide +kernel
theorem dL_refused_987 : decode cL_refused 987 = .ok (.if_icmp .ne 55, 3) := by decide +kernel
theorem dL_refused_990 : decode cL_refused 990 = .ok (.aload_n 0, 1) := by decide +kernel
theorem dL_refused_991 : decode cL_refused 991 = .ok (.ldc_w 292, 3) := by decide +kernel
theorem dL_refused_994 : decode cL_refused 994 = .ok (.invokestatic 276, 3) := by decide +kernel
theorem dL_refused_997 : decode cL_refused 997 = .ok (.sipush (-1001), 3) := by decide +kernel
theorem dL_refused_1000 : decode cL_refused 1000 = .ok (.if_icmp .ne 42, 3) := by decide +kernel
theorem dL_refused_1003 : decode cL_refused 1003 = .ok (.aload_n 0, 1) := by decide +kernel
theorem dL_refused_1004 : decode cL_refused 1004 = .ok (.ldc_w 294, 3) := by decide +kernel
theorem dL_refused_1007 : decode cL_refused 1007 = .ok (.invokestatic 186, 3) := by decide +kernel
theorem dL_refused_1010 : decode cL_refused 1010 = .ok (.sipush (-1002), 3) := by decide +kernel
theorem dL_refused_1013 : decode cL_refused 1013 = .ok (.if_icmp .ne 29, 3) := by decide +kernel
theorem dL_refused_1016 : decode cL_refused 1016 = .ok (.aload_n 0, 1) := by decide +kernel
theorem dL_refused_1017 : decode cL_refused 1017 = .ok (.ldc_w 292, 3) := by decide +kernel
theorem dL_refused_1020 : decode cL_refused 1020 = .ok (.invokestatic 186, 3) := by decide +kernel
theorem dL_refused_1023 : decode cL_refused 1023 = .ok (.sipush (-1001), 3) := by decide +kernel
theorem dL_refused_1026 : decode cL_refused 1026 = .ok (.if_icmp .ne 16, 3) := by decide +kernel
theorem dL_refused_1029 : decode cL_refused 1029 = .ok (.aload_n 0, 1) := by decide +kernel
theorem dL_refused_1030 : decode cL_refused 1030 = .ok (.invokestatic 279, 3) := by decide +kernel
theorem dL_refused_1033 : decode cL_refused 1033 = .ok (.lload_n 1, 1) := by decide +kernel
theorem dL_refused_1034 : decode cL_refused 1034 = .ok (.lcmp, 1) := by decide +kernel
theorem dL_refused_1035 : decode cL_refused 1035 = .ok (.ifCond .ne 7, 3) := by decide +kernel
theorem dL_refused_1038 : decode cL_refused 1038 = .ok (.iconst 1, 1) := by decide +kernel
theorem dL_refused_1039 : decode cL_refused 1039 = .ok (.goto 4, 3) := by decide +kernel
theorem dL_refused_1042 : decode cL_refused 1042 = .ok (.iconst 0, 1) := by decide +kernel
theorem dL_refused_1043 : decode cL_refused 1043 = .ok (.ireturn, 1) := by decide +kernel
theorem dL_law_0 : decode cL_law 0 = .ok (.new 8, 3) := by decide +kernel
theorem dL_law_3 : decode cL_law 3 = .ok (.dup, 1) := by decide +kernel
theorem dL_law_4 : decode cL_law 4 = .ok (.invokespecial 296, 3) := by decide +kernel
theorem dL_law_7 : decode cL_law 7 = .ok (.astore_n 1, 1) := by decide +kernel
theorem dL_law_8 : decode cL_law 8 = .ok (.aload_n 1, 1) := by decide +kernel
theorem dL_law_9 : decode cL_law 9 = .ok (.invokestatic 297, 3) := by decide +kernel
theorem dL_law_12 : decode cL_law 12 = .ok (.sipush (-1001), 3) := by decide +kernel
theorem dL_law_15 : decode cL_law 15 = .ok (.if_icmp .ne 135, 3) := by decide +kernel
theorem dL_law_18 : decode cL_law 18 = .ok (.aload_n 1, 1) := by decide +kernel
theorem dL_law_19 : decode cL_law 19 = .ok (.invokestatic 299, 3) := by decide +kernel
theorem dL_law_22 : decode cL_law 22 = .ok (.sipush (-1001), 3) := by decide +kernel
theorem dL_law_25 : decode cL_law 25 = .ok (.if_icmp .ne 125, 3) := by decide +kernel
theorem dL_law_28 : decode cL_law 28 = .ok (.aload_n 1, 1) := by decide +kernel
theorem dL_law_29 : decode cL_law 29 = .ok (.invokevirtual 301, 3) := by decide +kernel
theorem dL_law_32 : decode cL_law 32 = .ok (.ifCond .ne 118, 3) := by decide +kernel
theorem dL_law_35 : decode cL_law 35 = .ok (.aload_n 1, 1) := by decide +kernel
theorem dL_law_36 : decode cL_law 36 = .ok (.invokestatic 202, 3) := by decide +kernel
theorem dL_law_39 : decode cL_law 39 = .ok (.ldc 120, 2) := by decide +kernel
theorem dL_law_41 : decode cL_law 41 = .ok (.fcmp .l, 1) := by decide +kernel
theorem dL_law_42 : decode cL_law 42 = .ok (.ifCond .ne 108, 3) := by decide +kernel
theorem dL_law_45 : decode cL_law 45 = .ok (.aload_n 1, 1) := by decide +kernel
theorem dL_law_46 : decode cL_law 46 = .ok (.invokestatic 193, 3) := by decide +kernel
theorem dL_law_49 : decode cL_law 49 = .ok (.ldc2_w 125, 3) := by decide +kernel
theorem dL_law_52 : decode cL_law 52 = .ok (.dcmp .l, 1) := by decide +kernel
theorem dL_law_53 : decode cL_law 53 = .ok (.ifCond .ne 97, 3) := by decide +kernel
theorem dL_law_56 : decode cL_law 56 = .ok (.aload_n 1, 1) := by decide +kernel
theorem dL_law_57 : decode cL_law 57 = .ok (.bipush 7, 2) := by decide +kernel
theorem dL_law_59 : decode cL_law 59 = .ok (.invokestatic 213, 3) := by decide +kernel
theorem dL_law_62 : decode cL_law 62 = .ok (.iconst (-1), 1) := by decide +kernel
theorem dL_law_63 : decode cL_law 63 = .ok (.if_icmp .ne 87, 3) := by decide +kernel
theorem dL_law_66 : decode cL_law 66 = .ok (.aload_n 1, 1) := by decide +kernel
theorem dL_law_67 : decode cL_law 67 = .ok (.bipush 8, 2) := by decide +kernel
theorem dL_law_69 : decode cL_law 69 = .ok (.invokestatic 213, 3) := by decide +kernel
theorem dL_law_72 : decode cL_law 72 = .ok (.iconst (-1), 1) := by decide +kernel
theorem dL_law_73 : decode cL_law 73 = .ok (.if_icmp .ne 77, 3) := by decide +kernel
theorem dL_law_76 : decode cL_law 76 = .ok (.aload_n 1, 1) := by decide +kernel
theorem dL_law_77 : decode cL_law 77 = .ok (.bipush 15, 2) := by decide +kernel
theorem dL_law_79 : decode cL_law 79 = .ok (.invokestatic 213, 3) := by decide +kernel
theorem dL_law_82 : decode cL_law 82 = .ok (.sipush 480, 3) := by decide +kernel
theorem dL_law_85 : decode cL_law 85 = .ok (.if_icmp .ne 65, 3) := by decide +kernel
theorem dL_law_88 : decode cL_law 88 = .ok (.aload_n 1, 1) := by decide +kernel
theorem dL_law_89 : decode cL_law 89 = .ok (.bipush 16, 2) := by decide +kernel
theorem dL_law_91 : decode cL_law 91 = .ok (.invokestatic 213, 3) := by decide +kernel
theorem dL_law_94 : decode cL_law 94 = .ok (.bipush 60, 2) := by decide +kernel
theorem dL_law_96 : decode cL_law 96 = .ok (.if_icmp .ne 54, 3) := by decide +kernel
theorem dL_law_99 : decode cL_law 99 = .ok (.aload_n 1, 1) := by decide +kernel
theorem dL_law_100 : decode cL_law 100 = .ok (.bipush 17, 2) := by decide +kernel
theorem dL_law_102 : decode cL_law 102 = .ok (.invokestatic 213, 3) := by decide +kernel
theorem dL_law_105 : decode cL_law 105 = .ok (.iconst 2, 1) := by decide +kernel
theorem dL_law_106 : decode cL_law 106 = .ok (.if_icmp .ne 44, 3) := by decide +kernel
theorem dL_law_109 : decode cL_law 109 = .ok (.aload_n 1, 1) := by decide +kernel
theorem dL_law_110 : decode cL_law 110 = .ok (.bipush 18, 2) := by decide +kernel
theorem dL_law_112 : decode cL_law 112 = .ok (.invokestatic 213, 3) := by decide +kernel
theorem dL_law_115 : decode cL_law 115 = .ok (.bipush 10, 2) := by decide +kernel
theorem dL_law_117 : decode cL_law 117 = .ok (.if_icmp .ne 33, 3) := by decide +kernel
theorem dL_law_120 : decode cL_law 120 = .ok (.aload_n 1, 1) := by decide +kernel
theorem dL_law_121 : decode cL_law 121 = .ok (.iconst 0, 1) := by decide +kernel
theorem dL_law_122 : decode cL_law 122 = .ok (.iconst 0, 1) := by decide +kernel
theorem dL_law_123 : decode cL_law 123 = .ok (.invokestatic 217, 3) := by decide +kernel
theorem dL_law_126 : decode cL_law 126 = .ok (.iconst (-1), 1) := by decide +kernel
theorem dL_law_127 : decode cL_law 127 = .ok (.if_icmp .ne 23, 3) := by decide +kernel
theorem dL_law_130 : decode cL_law 130 = .ok (.aload_n 1, 1) := by decide +kernel
theorem dL_law_131 : decode cL_law 131 = .ok (.iconst 0, 1) := by decide +kernel
theorem dL_law_132 : decode cL_law 132 = .ok (.invokestatic 241, 3) := by decide +kernel
theorem dL_law_135 : decode cL_law 135 = .ok (.ifCond .ne 15, 3) := by decide +kernel
theorem dL_law_138 : decode cL_law 138 = .ok (.aload_n 1, 1) := by decide +kernel
theorem dL_law_139 : decode cL_law 139 = .ok (.iconst 0, 1) := by decide +kernel
theorem dL_law_140 : decode cL_law 140 = .ok (.iconst 0, 1) := by decide +kernel
theorem dL_law_141 : decode cL_law 141 = .ok (.invokestatic 304, 3) := by decide +kernel
theorem dL_law_144 : decode cL_law 144 = .ok (.sipush (-1002), 3) := by decide +kernel
theorem dL_law_147 : decode cL_law 147 = .ok (.if_icmp .eq 5, 3) := by decide +kernel
theorem dL_law_150 : decode cL_law 150 = .ok (.iconst 0, 1) := by decide +kernel
theorem dL_law_151 : decode cL_law 151 = .ok (.ireturn, 1) := by decide +kernel
theorem dL_law_152 : decode cL_law 152 = .ok (.iconst 0, 1) := by decide +kernel
theorem dL_law_153 : decode cL_law 153 = .ok (.istore_n 2, 1) := by decide +kernel
theorem dL_law_154 : decode cL_law 154 = .ok (.iload_n 2, 1) := by decide +kernel
theorem dL_law_155 : decode cL_law 155 = .ok (.bipush 80, 2) := by decide +kernel
theorem dL_law_157 : decode cL_law 157 = .ok (.if_icmp .ge 27, 3) := by decide +kernel
theorem dL_law_160 : decode cL_law 160 = .ok (.aload_n 1, 1) := by decide +kernel
theorem dL_law_161 : decode cL_law 161 = .ok (.sipush 200, 3) := by decide +kernel
theorem dL_law_164 : decode cL_law 164 = .ok (.iload_n 2, 1) := by decide +kernel
theorem dL_law_165 : decode cL_law 165 = .ok (.iadd, 1) := by decide +kernel
theorem dL_law_166 : decode cL_law 166 = .ok (.i2c, 1) := by decide +kernel
theorem dL_law_167 : decode cL_law 167 = .ok (.invokestatic 144, 3) := by decide +kernel
theorem dL_law_170 : decode cL_law 170 = .ok (.iload_n 2, 1) := by decide +kernel
theorem dL_law_171 : decode cL_law 171 = .ok (.iconst 1, 1) := by decide +kernel
theorem dL_law_172 : decode cL_law 172 = .ok (.iadd, 1) := by decide +kernel
theorem dL_law_173 : decode cL_law 173 = .ok (.if_icmp .eq 5, 3) := by decide +kernel
theorem dL_law_176 : decode cL_law 176 = .ok (.iconst 0, 1) := by decide +kernel
theorem dL_law_177 : decode cL_law 177 = .ok (.ireturn, 1) := by decide +kernel
theorem dL_law_178 : decode cL_law 178 = .ok (.iinc 2 1, 3) := by decide +kernel
theorem dL_law_181 : decode cL_law 181 = .ok (.goto (-27), 3) := by decide +kernel
theorem dL_law_184 : decode cL_law 184 = .ok (.aload_n 1, 1) := by decide +kernel
theorem dL_law_185 : decode cL_law 185 = .ok (.bipush 109, 2) := by decide +kernel
theorem dL_law_187 : decode cL_law 187 = .ok (.invokestatic 144, 3) := by decide +kernel
theorem dL_law_190 : decode cL_law 190 = .ok (.sipush (-1001), 3) := by decide +kernel
theorem dL_law_193 : decode cL_law 193 = .ok (.if_icmp .ne 29, 3) := by decide +kernel
theorem dL_law_196 : decode cL_law 196 = .ok (.aload_n 1, 1) := by decide +kernel
theorem dL_law_197 : decode cL_law 197 = .ok (.invokestatic 156, 3) := by decide +kernel
theorem dL_law_200 : decode cL_law 200 = .ok (.sipush (-1001), 3) := by decide +kernel
theorem dL_law_203 : decode cL_law 203 = .ok (.if_icmp .ne 19, 3) := by decide +kernel
theorem dL_law_206 : decode cL_law 206 = .ok (.aload_n 1, 1) := by decide +kernel
theorem dL_law_207 : decode cL_law 207 = .ok (.invokevirtual 306, 3) := by decide +kernel
theorem dL_law_210 : decode cL_law 210 = .ok (.ifCond .ne 12, 3) := by decide +kernel
theorem dL_law_213 : decode cL_law 213 = .ok (.aload_n 1, 1) := by decide +kernel
theorem dL_law_214 : decode cL_law 214 = .ok (.bipush 14, 2) := by decide +kernel
theorem dL_law_216 : decode cL_law 216 = .ok (.invokestatic 213, 3) := by decide +kernel
theorem dL_law_219 : decode cL_law 219 = .ok (.ifCond .eq 5, 3) := by decide +kernel
theorem dL_law_222 : decode cL_law 222 = .ok (.iconst 0, 1) := by decide +kernel
theorem dL_law_223 : decode cL_law 223 = .ok (.ireturn, 1) := by decide +kernel
theorem dL_law_224 : decode cL_law 224 = .ok (.iconst 0, 1) := by decide +kernel
theorem dL_law_225 : decode cL_law 225 = .ok (.istore_n 2, 1) := by decide +kernel
theorem dL_law_226 : decode cL_law 226 = .ok (.iload_n 2, 1) := by decide +kernel
theorem dL_law_227 : decode cL_law 227 = .ok (.bipush 6, 2) := by decide +kernel
theorem dL_law_229 : decode cL_law 229 = .ok (.if_icmp .ge 20, 3) := by decide +kernel
theorem dL_law_232 : decode cL_law 232 = .ok (.aload_n 1, 1) := by decide +kernel
theorem dL_law_233 : decode cL_law 233 = .ok (.iload_n 2, 1) := by decide +kernel
theorem dL_law_234 : decode cL_law 234 = .ok (.invokestatic 168, 3) := by decide +kernel
theorem dL_law_237 : decode cL_law 237 = .ok (.iload_n 2, 1) := by decide +kernel
theorem dL_law_238 : decode cL_law 238 = .ok (.if_icmp .eq 5, 3) := by decide +kernel
theorem dL_law_241 : decode cL_law 241 = .ok (.iconst 0, 1) := by decide +kernel
theorem dL_law_242 : decode cL_law 242 = .ok (.ireturn, 1) := by decide +kernel
theorem dL_law_243 : decode cL_law 243 = .ok (.iinc 2 1, 3) := by decide +kernel
theorem dL_law_246 : decode cL_law 246 = .ok (.goto (-20), 3) := by decide +kernel
theorem dL_law_249 : decode cL_law 249 = .ok (.aload_n 1, 1) := by decide +kernel
theorem dL_law_250 : decode cL_law 250 = .ok (.iconst 0, 1) := by decide +kernel
theorem dL_law_251 : decode cL_law 251 = .ok (.invokestatic 168, 3) := by decide +kernel
theorem dL_law_254 : decode cL_law 254 = .ok (.sipush (-1001), 3) := by decide +kernel
theorem dL_law_257 : decode cL_law 257 = .ok (.if_icmp .ne 21, 3) := by decide +kernel
theorem dL_law_260 : decode cL_law 260 = .ok (.aload_n 1, 1) := by decide +kernel
theorem dL_law_261 : decode cL_law 261 = .ok (.iconst 0, 1) := by decide +kernel
theorem dL_law_262 : decode cL_law 262 = .ok (.iconst 3, 1) := by decide +kernel
theorem dL_law_263 : decode cL_law 263 = .ok (.iconst 0, 1) := by decide +kernel
theorem dL_law_264 : decode cL_law 264 = .ok (.invokestatic 283, 3) := by decide +kernel
theorem dL_law_267 : decode cL_law 267 = .ok (.ifCond .eq 11, 3) := by decide +kernel
theorem dL_law_270 : decode cL_law 270 = .ok (.aload_n 1, 1) := by decide +kernel
theorem dL_law_271 : decode cL_law 271 = .ok (.iconst 1, 1) := by decide +kernel
theorem dL_law_272 : decode cL_law 272 = .ok (.invokestatic 171, 3) := by decide +kernel
theorem dL_law_275 : decode cL_law 275 = .ok (.ifCond .eq 5, 3) := by decide +kernel
theorem dL_law_278 : decode cL_law 278 = .ok (.iconst 0, 1) := by decide +kernel
theorem dL_law_279 : decode cL_law 279 = .ok (.ireturn, 1) := by decide +kernel
theorem dL_law_280 : decode cL_law 280 = .ok (.iconst 0, 1) := by decide +kernel
theorem dL_law_281 : decode cL_law 281 = .ok (.istore_n 2, 1) := by decide +kernel
theorem dL_law_282 : decode cL_law 282 = .ok (.iload_n 2, 1) := by decide +kernel
theorem dL_law_283 : decode cL_law 283 = .ok (.bipush 10, 2) := by decide +kernel
theorem dL_law_285 : decode cL_law 285 = .ok (.if_icmp .ge 26, 3) := by decide +kernel
theorem dL_law_288 : decode cL_law 288 = .ok (.aload_n 1, 1) := by decide +kernel
theorem dL_law_289 : decode cL_law 289 = .ok (.iconst 0, 1) := by decide +kernel
theorem dL_law_290 : decode cL_law 290 = .ok (.iload_n 2, 1) := by decide +kernel
theorem dL_law_291 : decode cL_law 291 = .ok (.bipush 6, 2) := by decide +kernel
theorem dL_law_293 : decode cL_law 293 = .ok (.irem, 1) := by decide +kernel
theorem dL_law_294 : decode cL_law 294 = .ok (.iconst 1, 1) := by decide +kernel
theorem dL_law_295 : decode cL_law 295 = .ok (.iload_n 2, 1) := by decide +kernel
theorem dL_law_296 : decode cL_law 296 = .ok (.invokestatic 265, 3) := by decide +kernel
theorem dL_law_299 : decode cL_law 299 = .ok (.iload_n 2, 1) := by decide +kernel
theorem dL_law_300 : decode cL_law 300 = .ok (.if_icmp .eq 5, 3) := by decide +kernel
theorem dL_law_303 : decode cL_law 303 = .ok (.iconst 0, 1) := by decide +kernel
theorem dL_law_304 : decode cL_law 304 = .ok (.ireturn, 1) := by decide +kernel
theorem dL_law_305 : decode cL_law 305 = .ok (.iinc 2 1, 3) := by decide +kernel
theorem dL_law_308 : decode cL_law 308 = .ok (.goto (-26), 3) := by decide +kernel
theorem dL_law_311 : decode cL_law 311 = .ok (.aload_n 1, 1) := by decide +kernel
theorem dL_law_312 : decode cL_law 312 = .ok (.iconst 0, 1) := by decide +kernel
theorem dL_law_313 : decode cL_law 313 = .ok (.iconst 0, 1) := by decide +kernel
theorem dL_law_314 : decode cL_law 314 = .ok (.iconst 1, 1) := by decide +kernel
theorem dL_law_315 : decode cL_law 315 = .ok (.iconst 0, 1) := by decide +kernel
theorem dL_law_316 : decode cL_law 316 = .ok (.invokestatic 265, 3) := by decide +kernel
theorem dL_law_319 : decode cL_law 319 = .ok (.sipush (-1001), 3) := by decide +kernel
theorem dL_law_322 : decode cL_law 322 = .ok (.if_icmp .ne 85, 3) := by decide +kernel
theorem dL_law_325 : decode cL_law 325 = .ok (.aload_n 1, 1) := by decide +kernel
theorem dL_law_326 : decode cL_law 326 = .ok (.iconst 0, 1) := by decide +kernel
theorem dL_law_327 : decode cL_law 327 = .ok (.iconst 3, 1) := by decide +kernel
theorem dL_law_328 : decode cL_law 328 = .ok (.iconst 0, 1) := by decide +kernel
theorem dL_law_329 : decode cL_law 329 = .ok (.invokestatic 283, 3) := by decide +kernel
theorem dL_law_332 : decode cL_law 332 = .ok (.ifCond .eq 75, 3) := by decide +kernel
theorem dL_law_335 : decode cL_law 335 = .ok (.aload_n 1, 1) := by decide +kernel
theorem dL_law_336 : decode cL_law 336 = .ok (.bipush 13, 2) := by decide +kernel
theorem dL_law_338 : decode cL_law 338 = .ok (.invokestatic 213, 3) := by decide +kernel
theorem dL_law_341 : decode cL_law 341 = .ok (.bipush 8, 2) := by decide +kernel
theorem dL_law_343 : decode cL_law 343 = .ok (.if_icmp .ne 64, 3) := by decide +kernel
theorem dL_law_346 : decode cL_law 346 = .ok (.aload_n 1, 1) := by decide +kernel
theorem dL_law_347 : decode cL_law 347 = .ok (.invokestatic 297, 3) := by decide +kernel
theorem dL_law_350 : decode cL_law 350 = .ok (.bipush 7, 2) := by decide +kernel
theorem dL_law_352 : decode cL_law 352 = .ok (.if_icmp .ne 55, 3) := by decide +kernel
theorem dL_law_355 : decode cL_law 355 = .ok (.aload_n 1, 1) := by decide +kernel
theorem dL_law_356 : decode cL_law 356 = .ok (.iconst 3, 1) := by decide +kernel
theorem dL_law_357 : decode cL_law 357 = .ok (.invokestatic 213, 3) := by decide +kernel
theorem dL_law_360 : decode cL_law 360 = .ok (.bipush 9, 2) := by decide +kernel
theorem dL_law_362 : decode cL_law 362 = .ok (.if_icmp .ne 45, 3) := by decide +kernel
theorem dL_law_365 : decode cL_law 365 = .ok (.aload_n 1, 1) := by decide +kernel
theorem dL_law_366 : decode cL_law 366 = .ok (.iconst 0, 1) := by decide +kernel
theorem dL_law_367 : decode cL_law 367 = .ok (.invokestatic 268, 3) := by decide +kernel
theorem dL_law_370 : decode cL_law 370 = .ok (.bipush 8, 2) := by decide +kernel
theorem dL_law_372 : decode cL_law 372 = .ok (.if_icmp .ne 35, 3) := by decide +kernel
theorem dL_law_375 : decode cL_law 375 = .ok (.aload_n 1, 1) := by decide +kernel
theorem dL_law_376 : decode cL_law 376 = .ok (.iconst 0, 1) := by decide +kernel
theorem dL_law_377 : decode cL_law 377 = .ok (.invokestatic 268, 3) := by decide +kernel
theorem dL_law_380 : decode cL_law 380 = .ok (.sipush (-1001), 3) := by decide +kernel
theorem dL_law_383 : decode cL_law 383 = .ok (.if_icmp .ne 24, 3) := by decide +kernel
theorem dL_law_386 : decode cL_law 386 = .ok (.aload_n 1, 1) := by decide +kernel
theorem dL_law_387 : decode cL_law 387 = .ok (.iconst 0, 1) := by decide +kernel
theorem dL_law_388 : decode cL_law 388 = .ok (.bipush 9, 2) := by decide +kernel
theorem dL_law_390 : decode cL_law 390 = .ok (.iconst 0, 1) := by decide +kernel
theorem dL_law_391 : decode cL_law 391 = .ok (.invokestatic 283, 3) := by decide +kernel
theorem dL_law_394 : decode cL_law 394 = .ok (.ifCond .eq 13, 3) := by decide +kernel
theorem dL_law_397 : decode cL_law 397 = .ok (.aload_n 1, 1) := by decide +kernel
theorem dL_law_398 : decode cL_law 398 = .ok (.iconst 0, 1) := by decide +kernel
theorem dL_law_399 : decode cL_law 399 = .ok (.invokestatic 230, 3) := by decide +kernel
theorem dL_law_402 : decode cL_law 402 = .ok (.bipush 99, 2) := by decide +kernel
theorem dL_law_404 : decode cL_law 404 = .ok (.if_icmp .eq 5, 3) := by decide +kernel
theorem dL_law_407 : decode cL_law 407 = .ok (.iconst 0, 1) := by decide +kernel
theorem dL_law_408 : decode cL_law 408 = .ok (.ireturn, 1) := by decide +kernel
theorem dL_law_409 : decode cL_law 409 = .ok (.aload_n 1, 1) := by decide +kernel
theorem dL_law_410 : decode cL_law 410 = .ok (.sipush 479, 3) := by decide +kernel
theorem dL_law_413 : decode cL_law 413 = .ok (.invokestatic 261, 3) := by decide +kernel
theorem dL_law_416 : decode cL_law 416 = .ok (.ifCond .ne 121, 3) := by decide +kernel
theorem dL_law_419 : decode cL_law 419 = .ok (.aload_n 1, 1) := by decide +kernel
theorem dL_law_420 : decode cL_law 420 = .ok (.iconst 1, 1) := by decide +kernel
theorem dL_law_421 : decode cL_law 421 = .ok (.invokestatic 230, 3) := by decide +kernel
theorem dL_law_424 : decode cL_law 424 = .ok (.bipush 111, 2) := by decide +kernel
theorem dL_law_426 : decode cL_law 426 = .ok (.if_icmp .ne 111, 3) := by decide +kernel
theorem dL_law_429 : decode cL_law 429 = .ok (.aload_n 1, 1) := by decide +kernel
theorem dL_law_430 : decode cL_law 430 = .ok (.iconst 1, 1) := by decide +kernel
theorem dL_law_431 : decode cL_law 431 = .ok (.invokestatic 261, 3) := by decide +kernel
theorem dL_law_434 : decode cL_law 434 = .ok (.iconst 1, 1) := by decide +kernel
theorem dL_law_435 : decode cL_law 435 = .ok (.if_icmp .ne 102, 3) := by decide +kernel
theorem dL_law_438 : decode cL_law 438 = .ok (.aload_n 1, 1) := by decide +kernel
theorem dL_law_439 : decode cL_law 439 = .ok (.iconst 1, 1) := by decide +kernel
theorem dL_law_440 : decode cL_law 440 = .ok (.iconst 5, 1) := by decide +kernel
theorem dL_law_441 : decode cL_law 441 = .ok (.invokestatic 226, 3) := by decide +kernel
theorem dL_law_444 : decode cL_law 444 = .ok (.ifCond .ne 93, 3) := by decide +kernel
theorem dL_law_447 : decode cL_law 447 = .ok (.aload_n 1, 1) := by decide +kernel
theorem dL_law_448 : decode cL_law 448 = .ok (.iconst 0, 1) := by decide +kernel
theorem dL_law_449 : decode cL_law 449 = .ok (.iconst 5, 1) := by decide +kernel
theorem dL_law_450 : decode cL_law 450 = .ok (.invokestatic 226, 3) := by decide +kernel
theorem dL_law_453 : decode cL_law 453 = .ok (.ifCond .ne 84, 3) := by decide +kernel
theorem dL_law_456 : decode cL_law 456 = .ok (.aload_n 1, 1) := by decide +kernel
theorem dL_law_457 : decode cL_law 457 = .ok (.sipush 200, 3) := by decide +kernel
theorem dL_law_460 : decode cL_law 460 = .ok (.invokestatic 261, 3) := by decide +kernel
theorem dL_law_463 : decode cL_law 463 = .ok (.ifCond .ne 74, 3) := by decide +kernel
theorem dL_law_466 : decode cL_law 466 = .ok (.aload_n 1, 1) := by decide +kernel
theorem dL_law_467 : decode cL_law 467 = .ok (.iconst 0, 1) := by decide +kernel
theorem dL_law_468 : decode cL_law 468 = .ok (.bipush 100, 2) := by decide +kernel
theorem dL_law_470 : decode cL_law 470 = .ok (.invokestatic 190, 3) := by decide +kernel
theorem dL_law_473 : decode cL_law 473 = .ok (.sipush 480, 3) := by decide +kernel
theorem dL_law_476 : decode cL_law 476 = .ok (.if_icmp .ne 61, 3) := by decide +kernel
theorem dL_law_479 : decode cL_law 479 = .ok (.aload_n 1, 1) := by decide +kernel
theorem dL_law_480 : decode cL_law 480 = .ok (.iconst 1, 1) := by decide +kernel
theorem dL_law_481 : decode cL_law 481 = .ok (.invokestatic 261, 3) := by decide +kernel
theorem dL_law_484 : decode cL_law 484 = .ok (.iconst 1, 1) := by decide +kernel
theorem dL_law_485 : decode cL_law 485 = .ok (.if_icmp .ne 52, 3) := by decide +kernel
theorem dL_law_488 : decode cL_law 488 = .ok (.aload_n 1, 1) := by decide +kernel
theorem dL_law_489 : decode cL_law 489 = .ok (.iconst 1, 1) := by decide +kernel
theorem dL_law_490 : decode cL_law 490 = .ok (.iconst 5, 1) := by decide +kernel
theorem dL_law_491 : decode cL_law 491 = .ok (.invokestatic 226, 3) := by decide +kernel
theorem dL_law_494 : decode cL_law 494 = .ok (.iconst 1, 1) := by decide +kernel
theorem dL_law_495 : decode cL_law 495 = .ok (.if_icmp .ne 42, 3) := by decide +kernel
theorem dL_law_498 : decode cL_law 498 = .ok (.aload_n 1, 1) := by decide +kernel
theorem dL_law_499 : decode cL_law 499 = .ok (.iconst 1, 1) := by decide +kernel
theorem dL_law_500 : decode cL_law 500 = .ok (.invokestatic 230, 3) := by decide +kernel
theorem dL_law_503 : decode cL_law 503 = .ok (.bipush 108, 2) := by decide +kernel
theorem dL_law_505 : decode cL_law 505 = .ok (.if_icmp .ne 32, 3) := by decide +kernel
theorem dL_law_508 : decode cL_law 508 = .ok (.aload_n 1, 1) := by decide +kernel
theorem dL_law_509 : decode cL_law 509 = .ok (.bipush 99, 2) := by decide +kernel
theorem dL_law_511 : decode cL_law 511 = .ok (.invokestatic 261, 3) := by decide +kernel
theorem dL_law_514 : decode cL_law 514 = .ok (.ifCond .ne 23, 3) := by decide +kernel
theorem dL_law_517 : decode cL_law 517 = .ok (.aload_n 1, 1) := by decide +kernel
theorem dL_law_518 : decode cL_law 518 = .ok (.bipush 101, 2) := by decide +kernel
theorem dL_law_520 : decode cL_law 520 = .ok (.invokestatic 261, 3) := by decide +kernel
theorem dL_law_523 : decode cL_law 523 = .ok (.iconst 2, 1) := by decide +kernel
theorem dL_law_524 : decode cL_law 524 = .ok (.if_icmp .ne 13, 3) := by decide +kernel
theorem dL_law_527 : decode cL_law 527 = .ok (.aload_n 1, 1) := by decide +kernel
theorem dL_law_528 : decode cL_law 528 = .ok (.bipush 6, 2) := by decide +kernel
theorem dL_law_530 : decode cL_law 530 = .ok (.invokestatic 213, 3) := by decide +kernel
theorem dL_law_533 : decode cL_law 533 = .ok (.iconst 4, 1) := by decide +kernel
theorem dL_law_534 : decode cL_law 534 = .ok (.if_icmp .eq 5, 3) := by decide +kernel
theorem dL_law_537 : decode cL_law 537 = .ok (.iconst 0, 1) := by decide +kernel
theorem dL_law_538 : decode cL_law 538 = .ok (.ireturn, 1) := by decide +kernel
theorem dL_law_539 : decode cL_law 539 = .ok (.new 8, 3) := by decide +kernel
theorem dL_law_542 : decode cL_law 542 = .ok (.dup, 1) := by decide +kernel
theorem dL_law_543 : decode cL_law 543 = .ok (.invokespecial 296, 3) := by decide +kernel
theorem dL_law_546 : decode cL_law 546 = .ok (.astore_n 2, 1) := by decide +kernel
theorem dL_law_547 : decode cL_law 547 = .ok (.aload_n 2, 1) := by decide +kernel
theorem dL_law_548 : decode cL_law 548 = .ok (.aload_n 0, 1) := by decide +kernel
theorem dL_law_549 : decode cL_law 549 = .ok (.invokestatic 309, 3) := by decide +kernel
theorem dL_law_552 : decode cL_law 552 = .ok (.ifCond .eq 56, 3) := by decide +kernel
theorem dL_law_555 : decode cL_law 555 = .ok (.aload_n 2, 1) := by decide +kernel
theorem dL_law_556 : decode cL_law 556 = .ok (.iconst 0, 1) := by decide +kernel
theorem dL_law_557 : decode cL_law 557 = .ok (.iconst 0, 1) := by decide +kernel
theorem dL_law_558 : decode cL_law 558 = .ok (.ldc_w 313, 3) := by decide +kernel
theorem dL_law_561 : decode cL_law 561 = .ok (.invokestatic 257, 3) := by decide +kernel
theorem dL_law_564 : decode cL_law 564 = .ok (.ldc_w 313, 3) := by decide +kernel
theorem dL_law_567 : decode cL_law 567 = .ok (.if_icmp .ne 41, 3) := by decide +kernel
theorem dL_law_570 : decode cL_law 570 = .ok (.aload_n 2, 1) := by decide +kernel
theorem dL_law_571 : decode cL_law 571 = .ok (.iconst 0, 1) := by decide +kernel
theorem dL_law_572 : decode cL_law 572 = .ok (.invokestatic 254, 3) := by decide +kernel
theorem dL_law_575 : decode cL_law 575 = .ok (.ifCond .lt 33, 3) := by decide +kernel
theorem dL_law_578 : decode cL_law 578 = .ok (.aload_n 2, 1) := by decide +kernel
theorem dL_law_579 : decode cL_law 579 = .ok (.bipush 99, 2) := by decide +kernel
theorem dL_law_581 : decode cL_law 581 = .ok (.invokestatic 261, 3) := by decide +kernel
theorem dL_law_584 : decode cL_law 584 = .ok (.ifCond .lt 24, 3) := by decide +kernel
theorem dL_law_587 : decode cL_law 587 = .ok (.aload_n 2, 1) := by decide +kernel
theorem dL_law_588 : decode cL_law 588 = .ok (.iconst 0, 1) := by decide +kernel
theorem dL_law_589 : decode cL_law 589 = .ok (.iconst 0, 1) := by decide +kernel
theorem dL_law_590 : decode cL_law 590 = .ok (.iconst 2, 1) := by decide +kernel
theorem dL_law_591 : decode cL_law 591 = .ok (.iconst 1, 1) := by decide +kernel
theorem dL_law_592 : decode cL_law 592 = .ok (.invokestatic 265, 3) := by decide +kernel
theorem dL_law_595 : decode cL_law 595 = .ok (.ifCond .ne 13, 3) := by decide +kernel
theorem dL_law_598 : decode cL_law 598 = .ok (.aload_n 2, 1) := by decide +kernel
theorem dL_law_599 : decode cL_law 599 = .ok (.iconst 0, 1) := by decide +kernel
theorem dL_law_600 : decode cL_law 600 = .ok (.bipush 9, 2) := by decide +kernel
theorem dL_law_602 : decode cL_law 602 = .ok (.invokestatic 263, 3) := by decide +kernel
theorem dL_law_605 : decode cL_law 605 = .ok (.ifCond .eq 5, 3) := by decide +kernel
theorem dL_law_608 : decode cL_law 608 = .ok (.iconst 0, 1) := by decide +kernel
theorem dL_law_609 : decode cL_law 609 = .ok (.ireturn, 1) := by decide +kernel
theorem dL_law_610 : decode cL_law 610 = .ok (.aload_n 2, 1) := by decide +kernel
theorem dL_law_611 : decode cL_law 611 = .ok (.invokestatic 279, 3) := by decide +kernel
theorem dL_law_614 : decode cL_law 614 = .ok (.lstore_n 3, 1) := by decide +kernel
theorem dL_law_615 : decode cL_law 615 = .ok (.aload_n 2, 1) := by decide +kernel
theorem dL_law_616 : decode cL_law 616 = .ok (.invokestatic 279, 3) := by decide +kernel
theorem dL_law_619 : decode cL_law 619 = .ok (.lload_n 3, 1) := by decide +kernel
theorem dL_law_620 : decode cL_law 620 = .ok (.lcmp, 1) := by decide +kernel
theorem dL_law_621 : decode cL_law 621 = .ok (.ifCond .ne 10, 3) := by decide +kernel
theorem dL_law_624 : decode cL_law 624 = .ok (.aload_n 2, 1) := by decide +kernel
theorem dL_law_625 : decode cL_law 625 = .ok (.invokestatic 314, 3) := by decide +kernel
theorem dL_law_628 : decode cL_law 628 = .ok (.ifCond .ne 5, 3) := by decide +kernel
theorem dL_law_631 : decode cL_law 631 = .ok (.iconst 0, 1) := by decide +kernel
theorem dL_law_632 : decode cL_law 632 = .ok (.ireturn, 1) := by decide +kernel
theorem dL_law_633 : decode cL_law 633 = .ok (.aload_n 2, 1) := by decide +kernel
theorem dL_law_634 : decode cL_law 634 = .ok (.invokevirtual 301, 3) := by decide +kernel
theorem dL_law_637 : decode cL_law 637 = .ok (.istore 5, 2) := by decide +kernel
theorem dL_law_639 : decode cL_law 639 = .ok (.iload 5, 2) := by decide +kernel
theorem dL_law_641 : decode cL_law 641 = .ok (.iconst 1, 1) := by decide +kernel
theorem dL_law_642 : decode cL_law 642 = .ok (.if_icmp .ne 12, 3) := by decide +kernel
theorem dL_law_645 : decode cL_law 645 = .ok (.aload_n 2, 1) := by decide +kernel
theorem dL_law_646 : decode cL_law 646 = .ok (.invokestatic 279, 3) := by decide +kernel
theorem dL_law_649 : decode cL_law 649 = .ok (.lload_n 3, 1) := by decide +kernel
theorem dL_law_650 : decode cL_law 650 = .ok (.lcmp, 1) := by decide +kernel
theorem dL_law_651 : decode cL_law 651 = .ok (.ifCond .eq 5, 3) := by decide +kernel
theorem dL_law_654 : decode cL_law 654 = .ok (.iconst 0, 1) := by decide +kernel
theorem dL_law_655 : decode cL_law 655 = .ok (.ireturn, 1) := by decide +kernel
theorem dL_law_656 : decode cL_law 656 = .ok (.bipush 13, 2) := by decide +kernel
theorem dL_law_658 : decode cL_law 658 = .ok (.newarray .long, 2) := by decide +kernel
theorem dL_law_660 : decode cL_law 660 = .ok (.astore 6, 2) := by decide +kernel
theorem dL_law_662 : decode cL_law 662 = .ok (.iconst 0, 1) := by decide +kernel
theorem dL_law_663 : decode cL_law 663 = .ok (.istore 7, 2) := by decide +kernel
theorem dL_law_665 : decode cL_law 665 = .ok (.iconst 0, 1) := by decide +kernel
theorem dL_law_666 : decode cL_law 666 = .ok (.istore 8, 2) := by decide +kernel
theorem dL_law_668 : decode cL_law 668 = .ok (.iload 8, 2) := by decide +kernel
theorem dL_law_670 : decode cL_law 670 = .ok (.bipush 12, 2) := by decide +kernel
theorem dL_law_672 : decode cL_law 672 = .ok (.if_icmp .ge 63, 3) := by decide +kernel
theorem dL_law_675 : decode cL_law 675 = .ok (.aload_n 2, 1) := by decide +kernel
theorem dL_law_676 : decode cL_law 676 = .ok (.invokestatic 279, 3) := by decide +kernel
theorem dL_law_679 : decode cL_law 679 = .ok (.lstore 9, 2) := by decide +kernel
theorem dL_law_681 : decode cL_law 681 = .ok (.aload_n 2, 1) := by decide +kernel
theorem dL_law_682 : decode cL_law 682 = .ok (.aload_n 0, 1) := by decide +kernel
theorem dL_law_683 : decode cL_law 683 = .ok (.bipush 20, 2) := by decide +kernel
theorem dL_law_685 : decode cL_law 685 = .ok (.iload 8, 2) := by decide +kernel
theorem dL_law_687 : decode cL_law 687 = .ok (.iadd, 1) := by decide +kernel
theorem dL_law_688 : decode cL_law 688 = .ok (.invokestatic 161, 3) := by decide +kernel
theorem dL_law_691 : decode cL_law 691 = .ok (.iload 8, 2) := by decide +kernel
theorem dL_law_693 : decode cL_law 693 = .ok (.sipush 977, 3) := by decide +kernel
theorem dL_law_696 : decode cL_law 696 = .ok (.imul, 1) := by decide +kernel
theorem dL_law_697 : decode cL_law 697 = .ok (.ixor, 1) := by decide +kernel
theorem dL_law_698 : decode cL_law 698 = .ok (.invokestatic 318, 3) := by decide +kernel
theorem dL_law_701 : decode cL_law 701 = .ok (.ifCond .eq 16, 3) := by decide +kernel
theorem dL_law_704 : decode cL_law 704 = .ok (.aload 6, 2) := by decide +kernel
theorem dL_law_706 : decode cL_law 706 = .ok (.iload 7, 2) := by decide +kernel
theorem dL_law_708 : decode cL_law 708 = .ok (.iinc 7 1, 3) := by decide +kernel
theorem dL_law_711 : decode cL_law 711 = .ok (.lload 9, 2) := by decide +kernel
theorem dL_law_713 : decode cL_law 713 = .ok (.lastore, 1) := by decide +kernel
theorem dL_law_714 : decode cL_law 714 = .ok (.goto 15, 3) := by decide +kernel
theorem dL_law_717 : decode cL_law 717 = .ok (.aload_n 2, 1) := by decide +kernel
theorem dL_law_718 : decode cL_law 718 = .ok (.invokestatic 279, 3) := by decide +kernel
theorem dL_law_721 : decode cL_law 721 = .ok (.lload 9, 2) := by decide +kernel
theorem dL_law_723 : decode cL_law 723 = .ok (.lcmp, 1) := by decide +kernel
theorem dL_law_724 : decode cL_law 724 = .ok (.ifCond .eq 5, 3) := by decide +kernel
theorem dL_law_727 : decode cL_law 727 = .ok (.iconst 0, 1) := by decide +kernel
theorem dL_law_728 : decode cL_law 728 = .ok (.ireturn, 1) := by decide +kernel
theorem dL_law_729 : decode cL_law 729 = .ok (.iinc 8 1, 3) := by decide +kernel
theorem dL_law_732 : decode cL_law 732 = .ok (.goto (-64), 3) := by decide +kernel
theorem dL_law_735 : decode cL_law 735 = .ok (.bipush 8, 2) := by decide +kernel
theorem dL_law_737 : decode cL_law 737 = .ok (.iload 7, 2) := by decide +kernel
theorem dL_law_739 : decode cL_law 739 = .ok (.invokestatic 236, 3) := by decide +kernel
theorem dL_law_742 : decode cL_law 742 = .ok (.istore 8, 2) := by decide +kernel
theorem dL_law_744 : decode cL_law 744 = .ok (.iconst 1, 1) := by decide +kernel
theorem dL_law_745 : decode cL_law 745 = .ok (.istore 9, 2) := by decide +kernel
theorem dL_law_747 : decode cL_law 747 = .ok (.iload 9, 2) := by decide +kernel
theorem dL_law_749 : decode cL_law 749 = .ok (.iload 8, 2) := by decide +kernel
theorem dL_law_751 : decode cL_law 751 = .ok (.if_icmp .gt 53, 3) := by decide +kernel
theorem dL_law_754 : decode cL_law 754 = .ok (.aload_n 2, 1) := by decide +kernel
theorem dL_law_755 : decode cL_law 755 = .ok (.invokestatic 297, 3) := by decide +kernel
theorem dL_law_758 : decode cL_law 758 = .ok (.istore 10, 2) := by decide +kernel
theorem dL_law_760 : decode cL_law 760 = .ok (.iload 10, 2) := by decide +kernel
theorem dL_law_762 : decode cL_law 762 = .ok (.iload 8, 2) := by decide +kernel
theorem dL_law_764 : decode cL_law 764 = .ok (.iload 9, 2) := by decide +kernel
theorem dL_law_766 : decode cL_law 766 = .ok (.isub, 1) := by decide +kernel
theorem dL_law_767 : decode cL_law 767 = .ok (.if_icmp .lt 29, 3) := by decide +kernel
theorem dL_law_770 : decode cL_law 770 = .ok (.iload 10, 2) := by decide +kernel
theorem dL_law_772 : decode cL_law 772 = .ok (.bipush 8, 2) := by decide +kernel
theorem dL_law_774 : decode cL_law 774 = .ok (.iload 9, 2) := by decide +kernel
theorem dL_law_776 : decode cL_law 776 = .ok (.isub, 1) := by decide +kernel
theorem dL_law_777 : decode cL_law 777 = .ok (.if_icmp .gt 19, 3) := by decide +kernel
theorem dL_law_780 : decode cL_law 780 = .ok (.aload_n 2, 1) := by decide +kernel
theorem dL_law_781 : decode cL_law 781 = .ok (.invokestatic 279, 3) := by decide +kernel
theorem dL_law_784 : decode cL_law 784 = .ok (.aload 6, 2) := by decide +kernel
theorem dL_law_786 : decode cL_law 786 = .ok (.iload 7, 2) := by decide +kernel
theorem dL_law_788 : decode cL_law 788 = .ok (.iload 9, 2) := by decide +kernel
theorem dL_law_790 : decode cL_law 790 = .ok (.isub, 1) := by decide +kernel
theorem dL_law_791 : decode cL_law 791 = .ok (.laload, 1) := by decide +kernel
theorem dL_law_792 : decode cL_law 792 = .ok (.lcmp, 1) := by decide +kernel
theorem dL_law_793 : decode cL_law 793 = .ok (.ifCond .eq 5, 3) := by decide +kernel
theorem dL_law_796 : decode cL_law 796 = .ok (.iconst 0, 1) := by decide +kernel
theorem dL_law_797 : decode cL_law 797 = .ok (.ireturn, 1) := by decide +kernel
theorem dL_law_798 : decode cL_law 798 = .ok (.iinc 9 1, 3) := by decide +kernel
theorem dL_law_801 : decode cL_law 801 = .ok (.goto (-54), 3) := by decide +kernel
theorem dL_law_804 : decode cL_law 804 = .ok (.aload_n 2, 1) := by decide +kernel
theorem dL_law_805 : decode cL_law 805 = .ok (.invokestatic 299, 3) := by decide +kernel
theorem dL_law_808 : decode cL_law 808 = .ok (.iload 5, 2) := by decide +kernel
theorem dL_law_810 : decode cL_law 810 = .ok (.if_icmp .ne 44, 3) := by decide +kernel
theorem dL_law_813 : decode cL_law 813 = .ok (.aload_n 2, 1) := by decide +kernel
theorem dL_law_814 : decode cL_law 814 = .ok (.invokestatic 297, 3) := by decide +kernel
theorem dL_law_817 : decode cL_law 817 = .ok (.sipush (-1001), 3) := by decide +kernel
theorem dL_law_820 : decode cL_law 820 = .ok (.if_icmp .ne 34, 3) := by decide +kernel
theorem dL_law_823 : decode cL_law 823 = .ok (.aload_n 2, 1) := by decide +kernel
theorem dL_law_824 : decode cL_law 824 = .ok (.invokestatic 279, 3) := by decide +kernel
theorem dL_law_827 : decode cL_law 827 = .ok (.lload_n 3, 1) := by decide +kernel
theorem dL_law_828 : decode cL_law 828 = .ok (.lcmp, 1) := by decide +kernel
theorem dL_law_829 : decode cL_law 829 = .ok (.ifCond .ne 25, 3) := by decide +kernel
theorem dL_law_832 : decode cL_law 832 = .ok (.aload_n 2, 1) := by decide +kernel
theorem dL_law_833 : decode cL_law 833 = .ok (.invokestatic 299, 3) := by decide +kernel
theorem dL_law_836 : decode cL_law 836 = .ok (.iload 5, 2) := by decide +kernel
theorem dL_law_838 : decode cL_law 838 = .ok (.if_icmp .ne 16, 3) := by decide +kernel
theorem dL_law_841 : decode cL_law 841 = .ok (.aload_n 2, 1) := by decide +kernel
theorem dL_law_842 : decode cL_law 842 = .ok (.invokestatic 279, 3) := by decide +kernel
theorem dL_law_845 : decode cL_law 845 = .ok (.lload_n 3, 1) := by decide +kernel
theorem dL_law_846 : decode cL_law 846 = .ok (.lcmp, 1) := by decide +kernel
theorem dL_law_847 : decode cL_law 847 = .ok (.ifCond .ne 7, 3) := by decide +kernel
theorem dL_law_850 : decode cL_law 850 = .ok (.iconst 1, 1) := by decide +kernel
theorem dL_law_851 : decode cL_law 851 = .ok (.goto 4, 3) := by decide +kernel
theorem dL_law_854 : decode cL_law 854 = .ok (.iconst 0, 1) := by decide +kernel
theorem dL_law_855 : decode cL_law 855 = .ok (.ireturn, 1) := by decide +kernel
