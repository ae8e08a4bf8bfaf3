theorem dL_column_0 : decode cL_column 0 = .ok (.aload_n 2, 1) := by decide +kernel
theorem dL_column_1 : decode cL_column 1 = .ok (.iconst 0, 1) := by decide +kernel
theorem dL_column_2 : decode cL_column 2 = .ok (.aload_n 0, 1) := by decide +kernel
theorem dL_column_3 : decode cL_column 3 = .ok (.iload_n 1, 1) := by decide +kernel
theorem dL_column_4 : decode cL_column 4 = .ok (.invokevirtual 7, 3) := by decide +kernel
theorem dL_column_7 : decode cL_column 7 = .ok (.i2l, 1) := by decide +kernel
theorem dL_column_8 : decode cL_column 8 = .ok (.lastore, 1) := by decide +kernel
theorem dL_column_9 : decode cL_column 9 = .ok (.goto 9, 3) := by decide +kernel
theorem dL_column_12 : decode cL_column 12 = .ok (.astore_n 3, 1) := by decide +kernel
theorem dL_column_13 : decode cL_column 13 = .ok (.iconst 1, 1) := by decide +kernel
theorem dL_column_14 : decode cL_column 14 = .ok (.ireturn, 1) := by decide +kernel
theorem dL_column_15 : decode cL_column 15 = .ok (.astore_n 3, 1) := by decide +kernel
theorem dL_column_16 : decode cL_column 16 = .ok (.iconst 2, 1) := by decide +kernel
theorem dL_column_17 : decode cL_column 17 = .ok (.ireturn, 1) := by decide +kernel
theorem dL_column_18 : decode cL_column 18 = .ok (.iconst 0, 1) := by decide +kernel
theorem dL_column_19 : decode cL_column 19 = .ok (.ireturn, 1) := by decide +kernel
theorem dL_drop_0 : decode cL_drop 0 = .ok (.aload_n 2, 1) := by decide +kernel
theorem dL_drop_1 : decode cL_drop 1 = .ok (.iconst 0, 1) := by decide +kernel
theorem dL_drop_2 : decode cL_drop 2 = .ok (.aload_n 0, 1) := by decide +kernel
theorem dL_drop_3 : decode cL_drop 3 = .ok (.iload_n 1, 1) := by decide +kernel
theorem dL_drop_4 : decode cL_drop 4 = .ok (.invokevirtual 17, 3) := by decide +kernel
theorem dL_drop_7 : decode cL_drop 7 = .ok (.i2l, 1) := by decide +kernel
theorem dL_drop_8 : decode cL_drop 8 = .ok (.lastore, 1) := by decide +kernel
theorem dL_drop_9 : decode cL_drop 9 = .ok (.goto 6, 3) := by decide +kernel
theorem dL_drop_12 : decode cL_drop 12 = .ok (.astore_n 3, 1) := by decide +kernel
theorem dL_drop_13 : decode cL_drop 13 = .ok (.iconst 1, 1) := by decide +kernel
theorem dL_drop_14 : decode cL_drop 14 = .ok (.ireturn, 1) := by decide +kernel
theorem dL_drop_15 : decode cL_drop 15 = .ok (.iconst 0, 1) := by decide +kernel
theorem dL_drop_16 : decode cL_drop 16 = .ok (.ireturn, 1) := by decide +kernel
theorem dL_rows_0 : decode cL_rows 0 = .ok (.aload_n 2, 1) := by decide +kernel
theorem dL_rows_1 : decode cL_rows 1 = .ok (.iconst 0, 1) := by decide +kernel
theorem dL_rows_2 : decode cL_rows 2 = .ok (.aload_n 0, 1) := by decide +kernel
theorem dL_rows_3 : decode cL_rows 3 = .ok (.iload_n 1, 1) := by decide +kernel
theorem dL_rows_4 : decode cL_rows 4 = .ok (.invokevirtual 22, 3) := by decide +kernel
theorem dL_rows_7 : decode cL_rows 7 = .ok (.i2l, 1) := by decide +kernel
theorem dL_rows_8 : decode cL_rows 8 = .ok (.lastore, 1) := by decide +kernel
theorem dL_rows_9 : decode cL_rows 9 = .ok (.goto 9, 3) := by decide +kernel
theorem dL_rows_12 : decode cL_rows 12 = .ok (.astore_n 3, 1) := by decide +kernel
theorem dL_rows_13 : decode cL_rows 13 = .ok (.iconst 1, 1) := by decide +kernel
theorem dL_rows_14 : decode cL_rows 14 = .ok (.ireturn, 1) := by decide +kernel
theorem dL_rows_15 : decode cL_rows 15 = .ok (.astore_n 3, 1) := by decide +kernel
theorem dL_rows_16 : decode cL_rows 16 = .ok (.iconst 2, 1) := by decide +kernel
theorem dL_rows_17 : decode cL_rows 17 = .ok (.ireturn, 1) := by decide +kernel
theorem dL_rows_18 : decode cL_rows 18 = .ok (.iconst 0, 1) := by decide +kernel
theorem dL_rows_19 : decode cL_rows 19 = .ok (.ireturn, 1) := by decide +kernel
theorem dL_set_0 : decode cL_set 0 = .ok (.aload 5, 2) := by decide +kernel
theorem dL_set_2 : decode cL_set 2 = .ok (.iconst 0, 1) := by decide +kernel
theorem dL_set_3 : decode cL_set 3 = .ok (.aload_n 0, 1) := by decide +kernel
theorem dL_set_4 : decode cL_set 4 = .ok (.iload_n 1, 1) := by decide +kernel
theorem dL_set_5 : decode cL_set 5 = .ok (.iload_n 2, 1) := by decide +kernel
theorem dL_set_6 : decode cL_set 6 = .ok (.lload_n 3, 1) := by decide +kernel
theorem dL_set_7 : decode cL_set 7 = .ok (.invokevirtual 25, 3) := by decide +kernel
theorem dL_set_10 : decode cL_set 10 = .ok (.i2l, 1) := by decide +kernel
theorem dL_set_11 : decode cL_set 11 = .ok (.lastore, 1) := by decide +kernel
theorem dL_set_12 : decode cL_set 12 = .ok (.goto 11, 3) := by decide +kernel
theorem dL_set_15 : decode cL_set 15 = .ok (.astore 6, 2) := by decide +kernel
theorem dL_set_17 : decode cL_set 17 = .ok (.iconst 1, 1) := by decide +kernel
theorem dL_set_18 : decode cL_set 18 = .ok (.ireturn, 1) := by decide +kernel
theorem dL_set_19 : decode cL_set 19 = .ok (.astore 6, 2) := by decide +kernel
theorem dL_set_21 : decode cL_set 21 = .ok (.iconst 2, 1) := by decide +kernel
theorem dL_set_22 : decode cL_set 22 = .ok (.ireturn, 1) := by decide +kernel
theorem dL_set_23 : decode cL_set 23 = .ok (.iconst 0, 1) := by decide +kernel
theorem dL_set_24 : decode cL_set 24 = .ok (.ireturn, 1) := by decide +kernel
theorem dL_clear_0 : decode cL_clear 0 = .ok (.aload_n 3, 1) := by decide +kernel
theorem dL_clear_1 : decode cL_clear 1 = .ok (.iconst 0, 1) := by decide +kernel
theorem dL_clear_2 : decode cL_clear 2 = .ok (.aload_n 0, 1) := by decide +kernel
theorem dL_clear_3 : decode cL_clear 3 = .ok (.iload_n 1, 1) := by decide +kernel
theorem dL_clear_4 : decode cL_clear 4 = .ok (.iload_n 2, 1) := by decide +kernel
theorem dL_clear_5 : decode cL_clear 5 = .ok (.invokevirtual 31, 3) := by decide +kernel
theorem dL_clear_8 : decode cL_clear 8 = .ok (.i2l, 1) := by decide +kernel
theorem dL_clear_9 : decode cL_clear 9 = .ok (.lastore, 1) := by decide +kernel
theorem dL_clear_10 : decode cL_clear 10 = .ok (.goto 7, 3) := by decide +kernel
theorem dL_clear_13 : decode cL_clear 13 = .ok (.astore 4, 2) := by decide +kernel
theorem dL_clear_15 : decode cL_clear 15 = .ok (.iconst 1, 1) := by decide +kernel
theorem dL_clear_16 : decode cL_clear 16 = .ok (.ireturn, 1) := by decide +kernel
theorem dL_clear_17 : decode cL_clear 17 = .ok (.iconst 0, 1) := by decide +kernel
theorem dL_clear_18 : decode cL_clear 18 = .ok (.ireturn, 1) := by decide +kernel
theorem dL_get_0 : decode cL_get 0 = .ok (.aload_n 3, 1) := by decide +kernel
theorem dL_get_1 : decode cL_get 1 = .ok (.iconst 0, 1) := by decide +kernel
theorem dL_get_2 : decode cL_get 2 = .ok (.aload_n 0, 1) := by decide +kernel
theorem dL_get_3 : decode cL_get 3 = .ok (.iload_n 1, 1) := by decide +kernel
theorem dL_get_4 : decode cL_get 4 = .ok (.iload_n 2, 1) := by decide +kernel
theorem dL_get_5 : decode cL_get 5 = .ok (.invokevirtual 35, 3) := by decide +kernel
theorem dL_get_8 : decode cL_get 8 = .ok (.lastore, 1) := by decide +kernel
theorem dL_get_9 : decode cL_get 9 = .ok (.goto 7, 3) := by decide +kernel
theorem dL_get_12 : decode cL_get 12 = .ok (.astore 4, 2) := by decide +kernel
theorem dL_get_14 : decode cL_get 14 = .ok (.iconst 1, 1) := by decide +kernel
theorem dL_get_15 : decode cL_get 15 = .ok (.ireturn, 1) := by decide +kernel
theorem dL_get_16 : decode cL_get 16 = .ok (.iconst 0, 1) := by decide +kernel
theorem dL_get_17 : decode cL_get 17 = .ok (.ireturn, 1) := by decide +kernel
theorem dL_width_0 : decode cL_width 0 = .ok (.aload_n 3, 1) := by decide +kernel
theorem dL_width_1 : decode cL_width 1 = .ok (.iconst 0, 1) := by decide +kernel
theorem dL_width_2 : decode cL_width 2 = .ok (.aload_n 0, 1) := by decide +kernel
theorem dL_width_3 : decode cL_width 3 = .ok (.iload_n 1, 1) := by decide +kernel
theorem dL_width_4 : decode cL_width 4 = .ok (.iload_n 2, 1) := by decide +kernel
theorem dL_width_5 : decode cL_width 5 = .ok (.invokevirtual 39, 3) := by decide +kernel
theorem dL_width_8 : decode cL_width 8 = .ok (.i2l, 1) := by decide +kernel
theorem dL_width_9 : decode cL_width 9 = .ok (.lastore, 1) := by decide +kernel
theorem dL_width_10 : decode cL_width 10 = .ok (.goto 11, 3) := by decide +kernel
theorem dL_width_13 : decode cL_width 13 = .ok (.astore 4, 2) := by decide +kernel
theorem dL_width_15 : decode cL_width 15 = .ok (.iconst 1, 1) := by decide +kernel
theorem dL_width_16 : decode cL_width 16 = .ok (.ireturn, 1) := by decide +kernel
theorem dL_width_17 : decode cL_width 17 = .ok (.astore 4, 2) := by decide +kernel
theorem dL_width_19 : decode cL_width 19 = .ok (.iconst 2, 1) := by decide +kernel
theorem dL_width_20 : decode cL_width 20 = .ok (.ireturn, 1) := by decide +kernel
theorem dL_width_21 : decode cL_width 21 = .ok (.iconst 0, 1) := by decide +kernel
theorem dL_width_22 : decode cL_width 22 = .ok (.ireturn, 1) := by decide +kernel
theorem dL_slice_0 : decode cL_slice 0 = .ok (.aload 4, 2) := by decide +kernel
theorem dL_slice_2 : decode cL_slice 2 = .ok (.iconst 0, 1) := by decide +kernel
theorem dL_slice_3 : decode cL_slice 3 = .ok (.aload_n 0, 1) := by decide +kernel
theorem dL_slice_4 : decode cL_slice 4 = .ok (.iload_n 1, 1) := by decide +kernel
theorem dL_slice_5 : decode cL_slice 5 = .ok (.iload_n 2, 1) := by decide +kernel
theorem dL_slice_6 : decode cL_slice 6 = .ok (.iload_n 3, 1) := by decide +kernel
theorem dL_slice_7 : decode cL_slice 7 = .ok (.invokevirtual 42, 3) := by decide +kernel
theorem dL_slice_10 : decode cL_slice 10 = .ok (.lastore, 1) := by decide +kernel
theorem dL_slice_11 : decode cL_slice 11 = .ok (.goto 7, 3) := by decide +kernel
theorem dL_slice_14 : decode cL_slice 14 = .ok (.astore 5, 2) := by decide +kernel
theorem dL_slice_16 : decode cL_slice 16 = .ok (.iconst 1, 1) := by decide +kernel
theorem dL_slice_17 : decode cL_slice 17 = .ok (.ireturn, 1) := by decide +kernel
theorem dL_slice_18 : decode cL_slice 18 = .ok (.iconst 0, 1) := by decide +kernel
theorem dL_slice_19 : decode cL_slice 19 = .ok (.ireturn, 1) := by decide +kernel
theorem dL_mask_0 : decode cL_mask 0 = .ok (.aload 5, 2) := by decide +kernel
theorem dL_mask_2 : decode cL_mask 2 = .ok (.iconst 0, 1) := by decide +kernel
theorem dL_mask_3 : decode cL_mask 3 = .ok (.aload_n 0, 1) := by decide +kernel
theorem dL_mask_4 : decode cL_mask 4 = .ok (.iload_n 1, 1) := by decide +kernel
theorem dL_mask_5 : decode cL_mask 5 = .ok (.iload_n 2, 1) := by decide +kernel
theorem dL_mask_6 : decode cL_mask 6 = .ok (.iload_n 3, 1) := by decide +kernel
theorem dL_mask_7 : decode cL_mask 7 = .ok (.iload 4, 2) := by decide +kernel
theorem dL_mask_9 : decode cL_mask 9 = .ok (.invokevirtual 46, 3) := by decide +kernel
theorem dL_mask_12 : decode cL_mask 12 = .ok (.i2l, 1) := by decide +kernel
theorem dL_mask_13 : decode cL_mask 13 = .ok (.lastore, 1) := by decide +kernel
theorem dL_mask_14 : decode cL_mask 14 = .ok (.goto 11, 3) := by decide +kernel
theorem dL_mask_17 : decode cL_mask 17 = .ok (.astore 6, 2) := by decide +kernel
theorem dL_mask_19 : decode cL_mask 19 = .ok (.iconst 1, 1) := by decide +kernel
theorem dL_mask_20 : decode cL_mask 20 = .ok (.ireturn, 1) := by decide +kernel
theorem dL_mask_21 : decode cL_mask 21 = .ok (.astore 6, 2) := by decide +kernel
theorem dL_mask_23 : decode cL_mask 23 = .ok (.iconst 2, 1) := by decide +kernel
theorem dL_mask_24 : decode cL_mask 24 = .ok (.ireturn, 1) := by decide +kernel
theorem dL_mask_25 : decode cL_mask 25 = .ok (.iconst 0, 1) := by decide +kernel
theorem dL_mask_26 : decode cL_mask 26 = .ok (.ireturn, 1) := by decide +kernel
theorem dL_bits_0 : decode cL_bits 0 = .ok (.aload 5, 2) := by decide +kernel
theorem dL_bits_2 : decode cL_bits 2 = .ok (.iconst 0, 1) := by decide +kernel
theorem dL_bits_3 : decode cL_bits 3 = .ok (.aload_n 0, 1) := by decide +kernel
theorem dL_bits_4 : decode cL_bits 4 = .ok (.iload_n 1, 1) := by decide +kernel
theorem dL_bits_5 : decode cL_bits 5 = .ok (.iload_n 2, 1) := by decide +kernel
theorem dL_bits_6 : decode cL_bits 6 = .ok (.lload_n 3, 1) := by decide +kernel
theorem dL_bits_7 : decode cL_bits 7 = .ok (.invokevirtual 50, 3) := by decide +kernel
theorem dL_bits_10 : decode cL_bits 10 = .ok (.i2l, 1) := by decide +kernel
theorem dL_bits_11 : decode cL_bits 11 = .ok (.lastore, 1) := by decide +kernel
theorem dL_bits_12 : decode cL_bits 12 = .ok (.goto 7, 3) := by decide +kernel
theorem dL_bits_15 : decode cL_bits 15 = .ok (.astore 6, 2) := by decide +kernel
theorem dL_bits_17 : decode cL_bits 17 = .ok (.iconst 1, 1) := by decide +kernel
theorem dL_bits_18 : decode cL_bits 18 = .ok (.ireturn, 1) := by decide +kernel
theorem dL_bits_19 : decode cL_bits 19 = .ok (.iconst 0, 1) := by decide +kernel
theorem dL_bits_20 : decode cL_bits 20 = .ok (.ireturn, 1) := by decide +kernel
theorem dL_join_0 : decode cL_join 0 = .ok (.aload 5, 2) := by decide +kernel
theorem dL_join_2 : decode cL_join 2 = .ok (.iconst 0, 1) := by decide +kernel
theorem dL_join_3 : decode cL_join 3 = .ok (.aload_n 0, 1) := by decide +kernel
theorem dL_join_4 : decode cL_join 4 = .ok (.iload_n 1, 1) := by decide +kernel
theorem dL_join_5 : decode cL_join 5 = .ok (.iload_n 2, 1) := by decide +kernel
theorem dL_join_6 : decode cL_join 6 = .ok (.iload_n 3, 1) := by decide +kernel
theorem dL_join_7 : decode cL_join 7 = .ok (.iload 4, 2) := by decide +kernel
theorem dL_join_9 : decode cL_join 9 = .ok (.invokevirtual 53, 3) := by decide +kernel
theorem dL_join_12 : decode cL_join 12 = .ok (.i2l, 1) := by decide +kernel
theorem dL_join_13 : decode cL_join 13 = .ok (.lastore, 1) := by decide +kernel
theorem dL_join_14 : decode cL_join 14 = .ok (.goto 11, 3) := by decide +kernel
theorem dL_join_17 : decode cL_join 17 = .ok (.astore 6, 2) := by decide +kernel
theorem dL_join_19 : decode cL_join 19 = .ok (.iconst 1, 1) := by decide +kernel
theorem dL_join_20 : decode cL_join 20 = .ok (.ireturn, 1) := by decide +kernel
theorem dL_join_21 : decode cL_join 21 = .ok (.astore 6, 2) := by decide +kernel
theorem dL_join_23 : decode cL_join 23 = .ok (.iconst 2, 1) := by decide +kernel
theorem dL_join_24 : decode cL_join 24 = .ok (.ireturn, 1) := by decide +kernel
theorem dL_join_25 : decode cL_join 25 = .ok (.iconst 0, 1) := by decide +kernel
theorem dL_join_26 : decode cL_join 26 = .ok (.ireturn, 1) := by decide +kernel
theorem dL_turn_0 : decode cL_turn 0 = .ok (.aload_n 3, 1) := by decide +kernel
theorem dL_turn_1 : decode cL_turn 1 = .ok (.iconst 0, 1) := by decide +kernel
theorem dL_turn_2 : decode cL_turn 2 = .ok (.aload_n 0, 1) := by decide +kernel
theorem dL_turn_3 : decode cL_turn 3 = .ok (.iload_n 1, 1) := by decide +kernel
theorem dL_turn_4 : decode cL_turn 4 = .ok (.iload_n 2, 1) := by decide +kernel
theorem dL_turn_5 : decode cL_turn 5 = .ok (.invokevirtual 56, 3) := by decide +kernel
theorem dL_turn_8 : decode cL_turn 8 = .ok (.i2l, 1) := by decide +kernel
theorem dL_turn_9 : decode cL_turn 9 = .ok (.lastore, 1) := by decide +kernel
theorem dL_turn_10 : decode cL_turn 10 = .ok (.goto 7, 3) := by decide +kernel
theorem dL_turn_13 : decode cL_turn 13 = .ok (.astore 4, 2) := by decide +kernel
theorem dL_turn_15 : decode cL_turn 15 = .ok (.iconst 1, 1) := by decide +kernel
theorem dL_turn_16 : decode cL_turn 16 = .ok (.ireturn, 1) := by decide +kernel
theorem dL_turn_17 : decode cL_turn 17 = .ok (.iconst 0, 1) := by decide +kernel
theorem dL_turn_18 : decode cL_turn 18 = .ok (.ireturn, 1) := by decide +kernel
theorem dL_compare_0 : decode cL_compare 0 = .ok (.aload 7, 2) := by decide +kernel
theorem dL_compare_2 : decode cL_compare 2 = .ok (.iconst 0, 1) := by decide +kernel
theorem dL_compare_3 : decode cL_compare 3 = .ok (.aload_n 0, 1) := by decide +kernel
theorem dL_compare_4 : decode cL_compare 4 = .ok (.iload_n 1, 1) := by decide +kernel
theorem dL_compare_5 : decode cL_compare 5 = .ok (.iload_n 2, 1) := by decide +kernel
theorem dL_compare_6 : decode cL_compare 6 = .ok (.iload_n 3, 1) := by decide +kernel
theorem dL_compare_7 : decode cL_compare 7 = .ok (.lload 4, 2) := by decide +kernel
theorem dL_compare_9 : decode cL_compare 9 = .ok (.iload 6, 2) := by decide +kernel
theorem dL_compare_11 : decode cL_compare 11 = .ok (.invokevirtual 59, 3) := by decide +kernel
theorem dL_compare_14 : decode cL_compare 14 = .ok (.i2l, 1) := by decide +kernel
theorem dL_compare_15 : decode cL_compare 15 = .ok (.lastore, 1) := by decide +kernel
theorem dL_compare_16 : decode cL_compare 16 = .ok (.goto 11, 3) := by decide +kernel
theorem dL_compare_19 : decode cL_compare 19 = .ok (.astore 8, 2) := by decide +kernel
theorem dL_compare_21 : decode cL_compare 21 = .ok (.iconst 1, 1) := by decide +kernel
theorem dL_compare_22 : decode cL_compare 22 = .ok (.ireturn, 1) := by decide +kernel
theorem dL_compare_23 : decode cL_compare 23 = .ok (.astore 8, 2) := by decide +kernel
theorem dL_compare_25 : decode cL_compare 25 = .ok (.iconst 2, 1) := by decide +kernel
theorem dL_compare_26 : decode cL_compare 26 = .ok (.ireturn, 1) := by decide +kernel
theorem dL_compare_27 : decode cL_compare 27 = .ok (.iconst 0, 1) := by decide +kernel
theorem dL_compare_28 : decode cL_compare 28 = .ok (.ireturn, 1) := by decide +kernel
theorem dL_against_0 : decode cL_against 0 = .ok (.aload 6, 2) := by decide +kernel
theorem dL_against_2 : decode cL_against 2 = .ok (.iconst 0, 1) := by decide +kernel
theorem dL_against_3 : decode cL_against 3 = .ok (.aload_n 0, 1) := by decide +kernel
theorem dL_against_4 : decode cL_against 4 = .ok (.iload_n 1, 1) := by decide +kernel
theorem dL_against_5 : decode cL_against 5 = .ok (.iload_n 2, 1) := by decide +kernel
theorem dL_against_6 : decode cL_against 6 = .ok (.iload_n 3, 1) := by decide +kernel
theorem dL_against_7 : decode cL_against 7 = .ok (.iload 4, 2) := by decide +kernel
theorem dL_against_9 : decode cL_against 9 = .ok (.iload 5, 2) := by decide +kernel
theorem dL_against_11 : decode cL_against 11 = .ok (.invokevirtual 63, 3) := by decide +kernel
theorem dL_against_14 : decode cL_against 14 = .ok (.i2l, 1) := by decide +kernel
theorem dL_against_15 : decode cL_against 15 = .ok (.lastore, 1) := by decide +kernel
theorem dL_against_16 : decode cL_against 16 = .ok (.goto 11, 3) := by decide +kernel
theorem dL_against_19 : decode cL_against 19 = .ok (.astore 7, 2) := by decide +kernel
theorem dL_against_21 : decode cL_against 21 = .ok (.iconst 1, 1) := by decide +kernel
theorem dL_against_22 : decode cL_against 22 = .ok (.ireturn, 1) := by decide +kernel
theorem dL_against_23 : decode cL_against 23 = .ok (.astore 7, 2) := by decide +kernel
theorem dL_against_25 : decode cL_against 25 = .ok (.iconst 2, 1) := by decide +kernel
theorem dL_against_26 : decode cL_against 26 = .ok (.ireturn, 1) := by decide +kernel
theorem dL_against_27 : decode cL_against 27 = .ok (.iconst 0, 1) := by decide +kernel
theorem dL_against_28 : decode cL_against 28 = .ok (.ireturn, 1) := by decide +kernel
theorem dL_empty_0 : decode cL_empty 0 = .ok (.aload 4, 2) := by decide +kernel
theorem dL_empty_2 : decode cL_empty 2 = .ok (.iconst 0, 1) := by decide +kernel
theorem dL_empty_3 : decode cL_empty 3 = .ok (.aload_n 0, 1) := by decide +kernel
theorem dL_empty_4 : decode cL_empty 4 = .ok (.iload_n 1, 1) := by decide +kernel
theorem dL_empty_5 : decode cL_empty 5 = .ok (.iload_n 2, 1) := by decide +kernel
theorem dL_empty_6 : decode cL_empty 6 = .ok (.iload_n 3, 1) := by decide +kernel
theorem dL_empty_7 : decode cL_empty 7 = .ok (.invokevirtual 67, 3) := by decide +kernel
theorem dL_empty_10 : decode cL_empty 10 = .ok (.i2l, 1) := by decide +kernel
theorem dL_empty_11 : decode cL_empty 11 = .ok (.lastore, 1) := by decide +kernel
theorem dL_empty_12 : decode cL_empty 12 = .ok (.goto 7, 3) := by decide +kernel
theorem dL_empty_15 : decode cL_empty 15 = .ok (.astore 5, 2) := by decide +kernel
theorem dL_empty_17 : decode cL_empty 17 = .ok (.iconst 1, 1) := by decide +kernel
theorem dL_empty_18 : decode cL_empty 18 = .ok (.ireturn, 1) := by decide +kernel
theorem dL_empty_19 : decode cL_empty 19 = .ok (.iconst 0, 1) := by decide +kernel
theorem dL_empty_20 : decode cL_empty 20 = .ok (.ireturn, 1) := by decide +kernel
theorem dL_top_0 : decode cL_top 0 = .ok (.aload 5, 2) := by decide +kernel
theorem dL_top_2 : decode cL_top 2 = .ok (.iconst 0, 1) := by decide +kernel
theorem dL_top_3 : decode cL_top 3 = .ok (.aload_n 0, 1) := by decide +kernel
theorem dL_top_4 : decode cL_top 4 = .ok (.iload_n 1, 1) := by decide +kernel
theorem dL_top_5 : decode cL_top 5 = .ok (.iload_n 2, 1) := by decide +kernel
theorem dL_top_6 : decode cL_top 6 = .ok (.iload_n 3, 1) := by decide +kernel
theorem dL_top_7 : decode cL_top 7 = .ok (.iload 4, 2) := by decide +kernel
theorem dL_top_9 : decode cL_top 9 = .ok (.invokevirtual 71, 3) := by decide +kernel
theorem dL_top_12 : decode cL_top 12 = .ok (.i2l, 1) := by decide +kernel
theorem dL_top_13 : decode cL_top 13 = .ok (.lastore, 1) := by decide +kernel
theorem dL_top_14 : decode cL_top 14 = .ok (.goto 11, 3) := by decide +kernel
theorem dL_top_17 : decode cL_top 17 = .ok (.astore 6, 2) := by decide +kernel
theorem dL_top_19 : decode cL_top 19 = .ok (.iconst 1, 1) := by decide +kernel
theorem dL_top_20 : decode cL_top 20 = .ok (.ireturn, 1) := by decide +kernel
theorem dL_top_21 : decode cL_top 21 = .ok (.astore 6, 2) := by decide +kernel
theorem dL_top_23 : decode cL_top 23 = .ok (.iconst 2, 1) := by decide +kernel
theorem dL_top_24 : decode cL_top 24 = .ok (.ireturn, 1) := by decide +kernel
theorem dL_top_25 : decode cL_top 25 = .ok (.iconst 0, 1) := by decide +kernel
theorem dL_top_26 : decode cL_top 26 = .ok (.ireturn, 1) := by decide +kernel
theorem dL_field_0 : decode cL_field 0 = .ok (.aload 7, 2) := by decide +kernel
theorem dL_field_2 : decode cL_field 2 = .ok (.iconst 0, 1) := by decide +kernel
theorem dL_field_3 : decode cL_field 3 = .ok (.aload_n 0, 1) := by decide +kernel
theorem dL_field_4 : decode cL_field 4 = .ok (.iload_n 1, 1) := by decide +kernel
theorem dL_field_5 : decode cL_field 5 = .ok (.iload_n 2, 1) := by decide +kernel
theorem dL_field_6 : decode cL_field 6 = .ok (.iload_n 3, 1) := by decide +kernel
theorem dL_field_7 : decode cL_field 7 = .ok (.iload 4, 2) := by decide +kernel
theorem dL_field_9 : decode cL_field 9 = .ok (.iload 5, 2) := by decide +kernel
theorem dL_field_11 : decode cL_field 11 = .ok (.iload 6, 2) := by decide +kernel
theorem dL_field_13 : decode cL_field 13 = .ok (.invokevirtual 74, 3) := by decide +kernel
theorem dL_field_16 : decode cL_field 16 = .ok (.i2l, 1) := by decide +kernel
theorem dL_field_17 : decode cL_field 17 = .ok (.lastore, 1) := by decide +kernel
theorem dL_field_18 : decode cL_field 18 = .ok (.goto 11, 3) := by decide +kernel
theorem dL_field_21 : decode cL_field 21 = .ok (.astore 8, 2) := by decide +kernel
theorem dL_field_23 : decode cL_field 23 = .ok (.iconst 1, 1) := by decide +kernel
theorem dL_field_24 : decode cL_field 24 = .ok (.ireturn, 1) := by decide +kernel
theorem dL_field_25 : decode cL_field 25 = .ok (.astore 8, 2) := by decide +kernel
theorem dL_field_27 : decode cL_field 27 = .ok (.iconst 2, 1) := by decide +kernel
theorem dL_field_28 : decode cL_field 28 = .ok (.ireturn, 1) := by decide +kernel
theorem dL_field_29 : decode cL_field 29 = .ok (.iconst 0, 1) := by decide +kernel
theorem dL_field_30 : decode cL_field 30 = .ok (.ireturn, 1) := by decide +kernel
theorem dL_move_0 : decode cL_move 0 = .ok (.aload 4, 2) := by decide +kernel
theorem dL_move_2 : decode cL_move 2 = .ok (.iconst 0, 1) := by decide +kernel
theorem dL_move_3 : decode cL_move 3 = .ok (.aload_n 0, 1) := by decide +kernel
theorem dL_move_4 : decode cL_move 4 = .ok (.iload_n 1, 1) := by decide +kernel
theorem dL_move_5 : decode cL_move 5 = .ok (.iload_n 2, 1) := by decide +kernel
theorem dL_move_6 : decode cL_move 6 = .ok (.iload_n 3, 1) := by decide +kernel
theorem dL_move_7 : decode cL_move 7 = .ok (.invokevirtual 78, 3) := by decide +kernel
theorem dL_move_10 : decode cL_move 10 = .ok (.i2l, 1) := by decide +kernel
theorem dL_move_11 : decode cL_move 11 = .ok (.lastore, 1) := by decide +kernel
theorem dL_move_12 : decode cL_move 12 = .ok (.goto 11, 3) := by decide +kernel
theorem dL_move_15 : decode cL_move 15 = .ok (.astore 5, 2) := by decide +kernel
theorem dL_move_17 : decode cL_move 17 = .ok (.iconst 1, 1) := by decide +kernel
theorem dL_move_18 : decode cL_move 18 = .ok (.ireturn, 1) := by decide +kernel
theorem dL_move_19 : decode cL_move 19 = .ok (.astore 5, 2) := by decide +kernel
theorem dL_move_21 : decode cL_move 21 = .ok (.iconst 2, 1) := by decide +kernel
theorem dL_move_22 : decode cL_move 22 = .ok (.ireturn, 1) := by decide +kernel
theorem dL_move_23 : decode cL_move 23 = .ok (.iconst 0, 1) := by decide +kernel
theorem dL_move_24 : decode cL_move 24 = .ok (.ireturn, 1) := by decide +kernel
theorem dL_firsts_0 : decode cL_firsts 0 = .ok (.aload_n 3, 1) := by decide +kernel
theorem dL_firsts_1 : decode cL_firsts 1 = .ok (.iconst 0, 1) := by decide +kernel
theorem dL_firsts_2 : decode cL_firsts 2 = .ok (.aload_n 0, 1) := by decide +kernel
theorem dL_firsts_3 : decode cL_firsts 3 = .ok (.iload_n 1, 1) := by decide +kernel
theorem dL_firsts_4 : decode cL_firsts 4 = .ok (.iload_n 2, 1) := by decide +kernel
theorem dL_firsts_5 : decode cL_firsts 5 = .ok (.invokevirtual 81, 3) := by decide +kernel
theorem dL_firsts_8 : decode cL_firsts 8 = .ok (.i2l, 1) := by decide +kernel
theorem dL_firsts_9 : decode cL_firsts 9 = .ok (.lastore, 1) := by decide +kernel
theorem dL_firsts_10 : decode cL_firsts 10 = .ok (.goto 7, 3) := by decide +kernel
theorem dL_firsts_13 : decode cL_firsts 13 = .ok (.astore 4, 2) := by decide +kernel
theorem dL_firsts_15 : decode cL_firsts 15 = .ok (.iconst 1, 1) := by decide +kernel
theorem dL_firsts_16 : decode cL_firsts 16 = .ok (.ireturn, 1) := by decide +kernel
theorem dL_firsts_17 : decode cL_firsts 17 = .ok (.iconst 0, 1) := by decide +kernel
theorem dL_firsts_18 : decode cL_firsts 18 = .ok (.ireturn, 1) := by decide +kernel
theorem dL_runs_0 : decode cL_runs 0 = .ok (.aload_n 3, 1) := by decide +kernel
theorem dL_runs_1 : decode cL_runs 1 = .ok (.iconst 0, 1) := by decide +kernel
theorem dL_runs_2 : decode cL_runs 2 = .ok (.aload_n 0, 1) := by decide +kernel
theorem dL_runs_3 : decode cL_runs 3 = .ok (.iload_n 1, 1) := by decide +kernel
theorem dL_runs_4 : decode cL_runs 4 = .ok (.iload_n 2, 1) := by decide +kernel
theorem dL_runs_5 : decode cL_runs 5 = .ok (.invokevirtual 84, 3) := by decide +kernel
theorem dL_runs_8 : decode cL_runs 8 = .ok (.i2l, 1) := by decide +kernel
theorem dL_runs_9 : decode cL_runs 9 = .ok (.lastore, 1) := by decide +kernel
theorem dL_runs_10 : decode cL_runs 10 = .ok (.goto 11, 3) := by decide +kernel
theorem dL_runs_13 : decode cL_runs 13 = .ok (.astore 4, 2) := by decide +kernel
theorem dL_runs_15 : decode cL_runs 15 = .ok (.iconst 1, 1) := by decide +kernel
theorem dL_runs_16 : decode cL_runs 16 = .ok (.ireturn, 1) := by decide +kernel
theorem dL_runs_17 : decode cL_runs 17 = .ok (.astore 4, 2) := by decide +kernel
theorem dL_runs_19 : decode cL_runs 19 = .ok (.iconst 2, 1) := by decide +kernel
theorem dL_runs_20 : decode cL_runs 20 = .ok (.ireturn, 1) := by decide +kernel
theorem dL_runs_21 : decode cL_runs 21 = .ok (.iconst 0, 1) := by decide +kernel
theorem dL_runs_22 : decode cL_runs 22 = .ok (.ireturn, 1) := by decide +kernel
theorem dL_alike_0 : decode cL_alike 0 = .ok (.aload_n 3, 1) := by decide +kernel
theorem dL_alike_1 : decode cL_alike 1 = .ok (.iconst 0, 1) := by decide +kernel
theorem dL_alike_2 : decode cL_alike 2 = .ok (.aload_n 0, 1) := by decide +kernel
theorem dL_alike_3 : decode cL_alike 3 = .ok (.iload_n 1, 1) := by decide +kernel
theorem dL_alike_4 : decode cL_alike 4 = .ok (.iload_n 2, 1) := by decide +kernel
theorem dL_alike_5 : decode cL_alike 5 = .ok (.invokevirtual 87, 3) := by decide +kernel
theorem dL_alike_8 : decode cL_alike 8 = .ok (.i2l, 1) := by decide +kernel
theorem dL_alike_9 : decode cL_alike 9 = .ok (.lastore, 1) := by decide +kernel
theorem dL_alike_10 : decode cL_alike 10 = .ok (.goto 7, 3) := by decide +kernel
theorem dL_alike_13 : decode cL_alike 13 = .ok (.astore 4, 2) := by decide +kernel
theorem dL_alike_15 : decode cL_alike 15 = .ok (.iconst 1, 1) := by decide +kernel
theorem dL_alike_16 : decode cL_alike 16 = .ok (.ireturn, 1) := by decide +kernel
theorem dL_alike_17 : decode cL_alike 17 = .ok (.iconst 0, 1) := by decide +kernel
theorem dL_alike_18 : decode cL_alike 18 = .ok (.ireturn, 1) := by decide +kernel
theorem dL_row_0 : decode cL_row 0 = .ok (.aload_n 3, 1) := by decide +kernel
theorem dL_row_1 : decode cL_row 1 = .ok (.iconst 0, 1) := by decide +kernel
theorem dL_row_2 : decode cL_row 2 = .ok (.aload_n 0, 1) := by decide +kernel
theorem dL_row_3 : decode cL_row 3 = .ok (.iload_n 1, 1) := by decide +kernel
theorem dL_row_4 : decode cL_row 4 = .ok (.iload_n 2, 1) := by decide +kernel
theorem dL_row_5 : decode cL_row 5 = .ok (.invokevirtual 90, 3) := by decide +kernel
theorem dL_row_8 : decode cL_row 8 = .ok (.i2l, 1) := by decide +kernel
theorem dL_row_9 : decode cL_row 9 = .ok (.lastore, 1) := by decide +kernel
theorem dL_row_10 : decode cL_row 10 = .ok (.goto 7, 3) := by decide +kernel
theorem dL_row_13 : decode cL_row 13 = .ok (.astore 4, 2) := by decide +kernel
theorem dL_row_15 : decode cL_row 15 = .ok (.iconst 1, 1) := by decide +kernel
theorem dL_row_16 : decode cL_row 16 = .ok (.ireturn, 1) := by decide +kernel
theorem dL_row_17 : decode cL_row 17 = .ok (.iconst 0, 1) := by decide +kernel
theorem dL_row_18 : decode cL_row 18 = .ok (.ireturn, 1) := by decide +kernel
theorem dL_word_0 : decode cL_word 0 = .ok (.aload_n 3, 1) := by decide +kernel
theorem dL_word_1 : decode cL_word 1 = .ok (.iconst 0, 1) := by decide +kernel
theorem dL_word_2 : decode cL_word 2 = .ok (.aload_n 0, 1) := by decide +kernel
theorem dL_word_3 : decode cL_word 3 = .ok (.iload_n 1, 1) := by decide +kernel
theorem dL_word_4 : decode cL_word 4 = .ok (.iload_n 2, 1) := by decide +kernel
theorem dL_word_5 : decode cL_word 5 = .ok (.invokevirtual 93, 3) := by decide +kernel
theorem dL_word_8 : decode cL_word 8 = .ok (.lastore, 1) := by decide +kernel
theorem dL_word_9 : decode cL_word 9 = .ok (.goto 7, 3) := by decide +kernel
theorem dL_word_12 : decode cL_word 12 = .ok (.astore 4, 2) := by decide +kernel
theorem dL_word_14 : decode cL_word 14 = .ok (.iconst 1, 1) := by decide +kernel
theorem dL_word_15 : decode cL_word 15 = .ok (.ireturn, 1) := by decide +kernel
theorem dL_word_16 : decode cL_word 16 = .ok (.iconst 0, 1) := by decide +kernel
theorem dL_word_17 : decode cL_word 17 = .ok (.ireturn, 1) := by decide +kernel
theorem dL_count_0 : decode cL_count 0 = .ok (.aload_n 3, 1) := by decide +kernel
theorem dL_count_1 : decode cL_count 1 = .ok (.iconst 0, 1) := by decide +kernel
theorem dL_count_2 : decode cL_count 2 = .ok (.aload_n 0, 1) := by decide +kernel
theorem dL_count_3 : decode cL_count 3 = .ok (.iload_n 1, 1) := by decide +kernel
theorem dL_count_4 : decode cL_count 4 = .ok (.iload_n 2, 1) := by decide +kernel
theorem dL_count_5 : decode cL_count 5 = .ok (.invokevirtual 96, 3) := by decide +kernel
theorem dL_count_8 : decode cL_count 8 = .ok (.i2l, 1) := by decide +kernel
theorem dL_count_9 : decode cL_count 9 = .ok (.lastore, 1) := by decide +kernel
theorem dL_count_10 : decode cL_count 10 = .ok (.goto 7, 3) := by decide +kernel
theorem dL_count_13 : decode cL_count 13 = .ok (.astore 4, 2) := by decide +kernel
theorem dL_count_15 : decode cL_count 15 = .ok (.iconst 1, 1) := by decide +kernel
theorem dL_count_16 : decode cL_count 16 = .ok (.ireturn, 1) := by decide +kernel
theorem dL_count_17 : decode cL_count 17 = .ok (.iconst 0, 1) := by decide +kernel
theorem dL_count_18 : decode cL_count 18 = .ok (.ireturn, 1) := by decide +kernel
theorem dL_sum_0 : decode cL_sum 0 = .ok (.aload_n 3, 1) := by decide +kernel
theorem dL_sum_1 : decode cL_sum 1 = .ok (.iconst 0, 1) := by decide +kernel
theorem dL_sum_2 : decode cL_sum 2 = .ok (.aload_n 0, 1) := by decide +kernel
theorem dL_sum_3 : decode cL_sum 3 = .ok (.iload_n 1, 1) := by decide +kernel
theorem dL_sum_4 : decode cL_sum 4 = .ok (.iload_n 2, 1) := by decide +kernel
theorem dL_sum_5 : decode cL_sum 5 = .ok (.invokevirtual 99, 3) := by decide +kernel
theorem dL_sum_8 : decode cL_sum 8 = .ok (.lastore, 1) := by decide +kernel
theorem dL_sum_9 : decode cL_sum 9 = .ok (.goto 11, 3) := by decide +kernel
theorem dL_sum_12 : decode cL_sum 12 = .ok (.astore 4, 2) := by decide +kernel
theorem dL_sum_14 : decode cL_sum 14 = .ok (.iconst 1, 1) := by decide +kernel
theorem dL_sum_15 : decode cL_sum 15 = .ok (.ireturn, 1) := by decide +kernel
theorem dL_sum_16 : decode cL_sum 16 = .ok (.astore 4, 2) := by decide +kernel
theorem dL_sum_18 : decode cL_sum 18 = .ok (.iconst 2, 1) := by decide +kernel
theorem dL_sum_19 : decode cL_sum 19 = .ok (.ireturn, 1) := by decide +kernel
theorem dL_sum_20 : decode cL_sum 20 = .ok (.iconst 0, 1) := by decide +kernel
theorem dL_sum_21 : decode cL_sum 21 = .ok (.ireturn, 1) := by decide +kernel
theorem dL_mean_0 : decode cL_mean 0 = .ok (.aload 4, 2) := by decide +kernel
theorem dL_mean_2 : decode cL_mean 2 = .ok (.iconst 0, 1) := by decide +kernel
theorem dL_mean_3 : decode cL_mean 3 = .ok (.aload_n 0, 1) := by decide +kernel
theorem dL_mean_4 : decode cL_mean 4 = .ok (.iload_n 1, 1) := by decide +kernel
theorem dL_mean_5 : decode cL_mean 5 = .ok (.iload_n 2, 1) := by decide +kernel
theorem dL_mean_6 : decode cL_mean 6 = .ok (.iload_n 3, 1) := by decide +kernel
theorem dL_mean_7 : decode cL_mean 7 = .ok (.invokevirtual 102, 3) := by decide +kernel
theorem dL_mean_10 : decode cL_mean 10 = .ok (.lastore, 1) := by decide +kernel
theorem dL_mean_11 : decode cL_mean 11 = .ok (.goto 15, 3) := by decide +kernel
theorem dL_mean_14 : decode cL_mean 14 = .ok (.astore 5, 2) := by decide +kernel
theorem dL_mean_16 : decode cL_mean 16 = .ok (.iconst 1, 1) := by decide +kernel
theorem dL_mean_17 : decode cL_mean 17 = .ok (.ireturn, 1) := by decide +kernel
theorem dL_mean_18 : decode cL_mean 18 = .ok (.astore 5, 2) := by decide +kernel
theorem dL_mean_20 : decode cL_mean 20 = .ok (.iconst 2, 1) := by decide +kernel
theorem dL_mean_21 : decode cL_mean 21 = .ok (.ireturn, 1) := by decide +kernel
theorem dL_mean_22 : decode cL_mean 22 = .ok (.astore 5, 2) := by decide +kernel
theorem dL_mean_24 : decode cL_mean 24 = .ok (.iconst 3, 1) := by decide +kernel
theorem dL_mean_25 : decode cL_mean 25 = .ok (.ireturn, 1) := by decide +kernel
theorem dL_mean_26 : decode cL_mean 26 = .ok (.iconst 0, 1) := by decide +kernel
theorem dL_mean_27 : decode cL_mean 27 = .ok (.ireturn, 1) := by decide +kernel
theorem dL_kth_0 : decode cL_kth 0 = .ok (.aload 4, 2) := by decide +kernel
theorem dL_kth_2 : decode cL_kth 2 = .ok (.iconst 0, 1) := by decide +kernel
theorem dL_kth_3 : decode cL_kth 3 = .ok (.aload_n 0, 1) := by decide +kernel
theorem dL_kth_4 : decode cL_kth 4 = .ok (.iload_n 1, 1) := by decide +kernel
theorem dL_kth_5 : decode cL_kth 5 = .ok (.iload_n 2, 1) := by decide +kernel
theorem dL_kth_6 : decode cL_kth 6 = .ok (.iload_n 3, 1) := by decide +kernel
theorem dL_kth_7 : decode cL_kth 7 = .ok (.invokevirtual 105, 3) := by decide +kernel
theorem dL_kth_10 : decode cL_kth 10 = .ok (.lastore, 1) := by decide +kernel
theorem dL_kth_11 : decode cL_kth 11 = .ok (.goto 7, 3) := by decide +kernel
theorem dL_kth_14 : decode cL_kth 14 = .ok (.astore 5, 2) := by decide +kernel
theorem dL_kth_16 : decode cL_kth 16 = .ok (.iconst 1, 1) := by decide +kernel
theorem dL_kth_17 : decode cL_kth 17 = .ok (.ireturn, 1) := by decide +kernel
theorem dL_kth_18 : decode cL_kth 18 = .ok (.iconst 0, 1) := by decide +kernel
theorem dL_kth_19 : decode cL_kth 19 = .ok (.ireturn, 1) := by decide +kernel
theorem dL_share_0 : decode cL_share 0 = .ok (.aload 5, 2) := by decide +kernel
theorem dL_share_2 : decode cL_share 2 = .ok (.iconst 0, 1) := by decide +kernel
theorem dL_share_3 : decode cL_share 3 = .ok (.aload_n 0, 1) := by decide +kernel
theorem dL_share_4 : decode cL_share 4 = .ok (.iload_n 1, 1) := by decide +kernel
theorem dL_share_5 : decode cL_share 5 = .ok (.iload_n 2, 1) := by decide +kernel
theorem dL_share_6 : decode cL_share 6 = .ok (.iload_n 3, 1) := by decide +kernel
theorem dL_share_7 : decode cL_share 7 = .ok (.iload 4, 2) := by decide +kernel
theorem dL_share_9 : decode cL_share 9 = .ok (.invokevirtual 108, 3) := by decide +kernel
theorem dL_share_12 : decode cL_share 12 = .ok (.lastore, 1) := by decide +kernel
theorem dL_share_13 : decode cL_share 13 = .ok (.goto 11, 3) := by decide +kernel
theorem dL_share_16 : decode cL_share 16 = .ok (.astore 6, 2) := by decide +kernel
theorem dL_share_18 : decode cL_share 18 = .ok (.iconst 1, 1) := by decide +kernel
theorem dL_share_19 : decode cL_share 19 = .ok (.ireturn, 1) := by decide +kernel
theorem dL_share_20 : decode cL_share 20 = .ok (.astore 6, 2) := by decide +kernel
theorem dL_share_22 : decode cL_share 22 = .ok (.iconst 2, 1) := by decide +kernel
theorem dL_share_23 : decode cL_share 23 = .ok (.ireturn, 1) := by decide +kernel
theorem dL_share_24 : decode cL_share 24 = .ok (.iconst 0, 1) := by decide +kernel
theorem dL_share_25 : decode cL_share 25 = .ok (.ireturn, 1) := by decide +kernel
theorem dL_upset_0 : decode cL_upset 0 = .ok (.aload_n 3, 1) := by decide +kernel
theorem dL_upset_1 : decode cL_upset 1 = .ok (.iconst 0, 1) := by decide +kernel
theorem dL_upset_2 : decode cL_upset 2 = .ok (.aload_n 0, 1) := by decide +kernel
theorem dL_upset_3 : decode cL_upset 3 = .ok (.iload_n 1, 1) := by decide +kernel
theorem dL_upset_4 : decode cL_upset 4 = .ok (.iload_n 2, 1) := by decide +kernel
theorem dL_upset_5 : decode cL_upset 5 = .ok (.invokevirtual 112, 3) := by decide +kernel
theorem dL_upset_8 : decode cL_upset 8 = .ok (.i2l, 1) := by decide +kernel
theorem dL_upset_9 : decode cL_upset 9 = .ok (.lastore, 1) := by decide +kernel
theorem dL_upset_10 : decode cL_upset 10 = .ok (.goto 7, 3) := by decide +kernel
theorem dL_upset_13 : decode cL_upset 13 = .ok (.astore 4, 2) := by decide +kernel
theorem dL_upset_15 : decode cL_upset 15 = .ok (.iconst 1, 1) := by decide +kernel
theorem dL_upset_16 : decode cL_upset 16 = .ok (.ireturn, 1) := by decide +kernel
theorem dL_upset_17 : decode cL_upset 17 = .ok (.iconst 0, 1) := by decide +kernel
theorem dL_upset_18 : decode cL_upset 18 = .ok (.ireturn, 1) := by decide +kernel
theorem dL_rank_0 : decode cL_rank 0 = .ok (.aload 6, 2) := by decide +kernel
theorem dL_rank_2 : decode cL_rank 2 = .ok (.iconst 0, 1) := by decide +kernel
theorem dL_rank_3 : decode cL_rank 3 = .ok (.aload_n 0, 1) := by decide +kernel
theorem dL_rank_4 : decode cL_rank 4 = .ok (.iload_n 1, 1) := by decide +kernel
theorem dL_rank_5 : decode cL_rank 5 = .ok (.iload_n 2, 1) := by decide +kernel
theorem dL_rank_6 : decode cL_rank 6 = .ok (.lload_n 3, 1) := by decide +kernel
theorem dL_rank_7 : decode cL_rank 7 = .ok (.iload 5, 2) := by decide +kernel
theorem dL_rank_9 : decode cL_rank 9 = .ok (.invokevirtual 115, 3) := by decide +kernel
theorem dL_rank_12 : decode cL_rank 12 = .ok (.i2l, 1) := by decide +kernel
theorem dL_rank_13 : decode cL_rank 13 = .ok (.lastore, 1) := by decide +kernel
theorem dL_rank_14 : decode cL_rank 14 = .ok (.goto 11, 3) := by decide +kernel
theorem dL_rank_17 : decode cL_rank 17 = .ok (.astore 7, 2) := by decide +kernel
theorem dL_rank_19 : decode cL_rank 19 = .ok (.iconst 1, 1) := by decide +kernel
theorem dL_rank_20 : decode cL_rank 20 = .ok (.ireturn, 1) := by decide +kernel
theorem dL_rank_21 : decode cL_rank 21 = .ok (.astore 7, 2) := by decide +kernel
theorem dL_rank_23 : decode cL_rank 23 = .ok (.iconst 2, 1) := by decide +kernel
theorem dL_rank_24 : decode cL_rank 24 = .ok (.ireturn, 1) := by decide +kernel
theorem dL_rank_25 : decode cL_rank 25 = .ok (.iconst 0, 1) := by decide +kernel
theorem dL_rank_26 : decode cL_rank 26 = .ok (.ireturn, 1) := by decide +kernel
theorem dL_unlike_0 : decode cL_unlike 0 = .ok (.aload 4, 2) := by decide +kernel
theorem dL_unlike_2 : decode cL_unlike 2 = .ok (.iconst 0, 1) := by decide +kernel
theorem dL_unlike_3 : decode cL_unlike 3 = .ok (.aload_n 0, 1) := by decide +kernel
theorem dL_unlike_4 : decode cL_unlike 4 = .ok (.iload_n 1, 1) := by decide +kernel
theorem dL_unlike_5 : decode cL_unlike 5 = .ok (.iload_n 2, 1) := by decide +kernel
theorem dL_unlike_6 : decode cL_unlike 6 = .ok (.iload_n 3, 1) := by decide +kernel
theorem dL_unlike_7 : decode cL_unlike 7 = .ok (.invokevirtual 119, 3) := by decide +kernel
theorem dL_unlike_10 : decode cL_unlike 10 = .ok (.lastore, 1) := by decide +kernel
theorem dL_unlike_11 : decode cL_unlike 11 = .ok (.goto 11, 3) := by decide +kernel
theorem dL_unlike_14 : decode cL_unlike 14 = .ok (.astore 5, 2) := by decide +kernel
theorem dL_unlike_16 : decode cL_unlike 16 = .ok (.iconst 1, 1) := by decide +kernel
theorem dL_unlike_17 : decode cL_unlike 17 = .ok (.ireturn, 1) := by decide +kernel
theorem dL_unlike_18 : decode cL_unlike 18 = .ok (.astore 5, 2) := by decide +kernel
theorem dL_unlike_20 : decode cL_unlike 20 = .ok (.iconst 2, 1) := by decide +kernel
theorem dL_unlike_21 : decode cL_unlike 21 = .ok (.ireturn, 1) := by decide +kernel
theorem dL_unlike_22 : decode cL_unlike 22 = .ok (.iconst 0, 1) := by decide +kernel
theorem dL_unlike_23 : decode cL_unlike 23 = .ok (.ireturn, 1) := by decide +kernel
theorem dL_ones_0 : decode cL_ones 0 = .ok (.aload 4, 2) := by decide +kernel
theorem dL_ones_2 : decode cL_ones 2 = .ok (.iconst 0, 1) := by decide +kernel
theorem dL_ones_3 : decode cL_ones 3 = .ok (.aload_n 0, 1) := by decide +kernel
theorem dL_ones_4 : decode cL_ones 4 = .ok (.iload_n 1, 1) := by decide +kernel
theorem dL_ones_5 : decode cL_ones 5 = .ok (.iload_n 2, 1) := by decide +kernel
theorem dL_ones_6 : decode cL_ones 6 = .ok (.iload_n 3, 1) := by decide +kernel
theorem dL_ones_7 : decode cL_ones 7 = .ok (.invokevirtual 122, 3) := by decide +kernel
theorem dL_ones_10 : decode cL_ones 10 = .ok (.i2l, 1) := by decide +kernel
theorem dL_ones_11 : decode cL_ones 11 = .ok (.lastore, 1) := by decide +kernel
theorem dL_ones_12 : decode cL_ones 12 = .ok (.goto 7, 3) := by decide +kernel
theorem dL_ones_15 : decode cL_ones 15 = .ok (.astore 5, 2) := by decide +kernel
theorem dL_ones_17 : decode cL_ones 17 = .ok (.iconst 1, 1) := by decide +kernel
theorem dL_ones_18 : decode cL_ones 18 = .ok (.ireturn, 1) := by decide +kernel
theorem dL_ones_19 : decode cL_ones 19 = .ok (.iconst 0, 1) := by decide +kernel
theorem dL_ones_20 : decode cL_ones 20 = .ok (.ireturn, 1) := by decide +kernel
theorem dL_where_0 : decode cL_where 0 = .ok (.aload 5, 2) := by decide +kernel
theorem dL_where_2 : decode cL_where 2 = .ok (.iconst 0, 1) := by decide +kernel
theorem dL_where_3 : decode cL_where 3 = .ok (.aload_n 0, 1) := by decide +kernel
theorem dL_where_4 : decode cL_where 4 = .ok (.iload_n 1, 1) := by decide +kernel
theorem dL_where_5 : decode cL_where 5 = .ok (.iload_n 2, 1) := by decide +kernel
theorem dL_where_6 : decode cL_where 6 = .ok (.lload_n 3, 1) := by decide +kernel
theorem dL_where_7 : decode cL_where 7 = .ok (.invokevirtual 125, 3) := by decide +kernel
theorem dL_where_10 : decode cL_where 10 = .ok (.i2l, 1) := by decide +kernel
theorem dL_where_11 : decode cL_where 11 = .ok (.lastore, 1) := by decide +kernel
theorem dL_where_12 : decode cL_where 12 = .ok (.goto 7, 3) := by decide +kernel
theorem dL_where_15 : decode cL_where 15 = .ok (.astore 6, 2) := by decide +kernel
theorem dL_where_17 : decode cL_where 17 = .ok (.iconst 1, 1) := by decide +kernel
theorem dL_where_18 : decode cL_where 18 = .ok (.ireturn, 1) := by decide +kernel
theorem dL_where_19 : decode cL_where 19 = .ok (.iconst 0, 1) := by decide +kernel
theorem dL_where_20 : decode cL_where 20 = .ok (.ireturn, 1) := by decide +kernel
theorem dL_dot_0 : decode cL_dot 0 = .ok (.aload 4, 2) := by decide +kernel
theorem dL_dot_2 : decode cL_dot 2 = .ok (.iconst 0, 1) := by decide +kernel
theorem dL_dot_3 : decode cL_dot 3 = .ok (.aload_n 0, 1) := by decide +kernel
theorem dL_dot_4 : decode cL_dot 4 = .ok (.iload_n 1, 1) := by decide +kernel
theorem dL_dot_5 : decode cL_dot 5 = .ok (.iload_n 2, 1) := by decide +kernel
theorem dL_dot_6 : decode cL_dot 6 = .ok (.iload_n 3, 1) := by decide +kernel
theorem dL_dot_7 : decode cL_dot 7 = .ok (.invokevirtual 128, 3) := by decide +kernel
theorem dL_dot_10 : decode cL_dot 10 = .ok (.lastore, 1) := by decide +kernel
theorem dL_dot_11 : decode cL_dot 11 = .ok (.goto 11, 3) := by decide +kernel
theorem dL_dot_14 : decode cL_dot 14 = .ok (.astore 5, 2) := by decide +kernel
theorem dL_dot_16 : decode cL_dot 16 = .ok (.iconst 1, 1) := by decide +kernel
theorem dL_dot_17 : decode cL_dot 17 = .ok (.ireturn, 1) := by decide +kernel
theorem dL_dot_18 : decode cL_dot 18 = .ok (.astore 5, 2) := by decide +kernel
theorem dL_dot_20 : decode cL_dot 20 = .ok (.iconst 2, 1) := by decide +kernel
theorem dL_dot_21 : decode cL_dot 21 = .ok (.ireturn, 1) := by decide +kernel
theorem dL_dot_22 : decode cL_dot 22 = .ok (.iconst 0, 1) := by decide +kernel
theorem dL_dot_23 : decode cL_dot 23 = .ok (.ireturn, 1) := by decide +kernel
theorem dL_steps_0 : decode cL_steps 0 = .ok (.aload_n 3, 1) := by decide +kernel
theorem dL_steps_1 : decode cL_steps 1 = .ok (.iconst 0, 1) := by decide +kernel
theorem dL_steps_2 : decode cL_steps 2 = .ok (.aload_n 0, 1) := by decide +kernel
theorem dL_steps_3 : decode cL_steps 3 = .ok (.iload_n 1, 1) := by decide +kernel
theorem dL_steps_4 : decode cL_steps 4 = .ok (.iload_n 2, 1) := by decide +kernel
theorem dL_steps_5 : decode cL_steps 5 = .ok (.invokevirtual 131, 3) := by decide +kernel
theorem dL_steps_8 : decode cL_steps 8 = .ok (.lastore, 1) := by decide +kernel
theorem dL_steps_9 : decode cL_steps 9 = .ok (.goto 11, 3) := by decide +kernel
theorem dL_steps_12 : decode cL_steps 12 = .ok (.astore 4, 2) := by decide +kernel
theorem dL_steps_14 : decode cL_steps 14 = .ok (.iconst 1, 1) := by decide +kernel
theorem dL_steps_15 : decode cL_steps 15 = .ok (.ireturn, 1) := by decide +kernel
theorem dL_steps_16 : decode cL_steps 16 = .ok (.astore 4, 2) := by decide +kernel
theorem dL_steps_18 : decode cL_steps 18 = .ok (.iconst 2, 1) := by decide +kernel
theorem dL_steps_19 : decode cL_steps 19 = .ok (.ireturn, 1) := by decide +kernel
theorem dL_steps_20 : decode cL_steps 20 = .ok (.iconst 0, 1) := by decide +kernel
theorem dL_steps_21 : decode cL_steps 21 = .ok (.ireturn, 1) := by decide +kernel
theorem dL_upTo_0 : decode cL_upTo 0 = .ok (.aload 4, 2) := by decide +kernel
theorem dL_upTo_2 : decode cL_upTo 2 = .ok (.iconst 0, 1) := by decide +kernel
theorem dL_upTo_3 : decode cL_upTo 3 = .ok (.aload_n 0, 1) := by decide +kernel
theorem dL_upTo_4 : decode cL_upTo 4 = .ok (.iload_n 1, 1) := by decide +kernel
theorem dL_upTo_5 : decode cL_upTo 5 = .ok (.iload_n 2, 1) := by decide +kernel
theorem dL_upTo_6 : decode cL_upTo 6 = .ok (.iload_n 3, 1) := by decide +kernel
theorem dL_upTo_7 : decode cL_upTo 7 = .ok (.invokevirtual 134, 3) := by decide +kernel
theorem dL_upTo_10 : decode cL_upTo 10 = .ok (.lastore, 1) := by decide +kernel
theorem dL_upTo_11 : decode cL_upTo 11 = .ok (.goto 11, 3) := by decide +kernel
theorem dL_upTo_14 : decode cL_upTo 14 = .ok (.astore 5, 2) := by decide +kernel
theorem dL_upTo_16 : decode cL_upTo 16 = .ok (.iconst 1, 1) := by decide +kernel
theorem dL_upTo_17 : decode cL_upTo 17 = .ok (.ireturn, 1) := by decide +kernel
theorem dL_upTo_18 : decode cL_upTo 18 = .ok (.astore 5, 2) := by decide +kernel
theorem dL_upTo_20 : decode cL_upTo 20 = .ok (.iconst 2, 1) := by decide +kernel
theorem dL_upTo_21 : decode cL_upTo 21 = .ok (.ireturn, 1) := by decide +kernel
theorem dL_upTo_22 : decode cL_upTo 22 = .ok (.iconst 0, 1) := by decide +kernel
theorem dL_upTo_23 : decode cL_upTo 23 = .ok (.ireturn, 1) := by decide +kernel
theorem dL_fold_0 : decode cL_fold 0 = .ok (.aload 4, 2) := by decide +kernel
theorem dL_fold_2 : decode cL_fold 2 = .ok (.iconst 0, 1) := by decide +kernel
theorem dL_fold_3 : decode cL_fold 3 = .ok (.aload_n 0, 1) := by decide +kernel
theorem dL_fold_4 : decode cL_fold 4 = .ok (.iload_n 1, 1) := by decide +kernel
theorem dL_fold_5 : decode cL_fold 5 = .ok (.iload_n 2, 1) := by decide +kernel
theorem dL_fold_6 : decode cL_fold 6 = .ok (.iload_n 3, 1) := by decide +kernel
theorem dL_fold_7 : decode cL_fold 7 = .ok (.invokevirtual 137, 3) := by decide +kernel
theorem dL_fold_10 : decode cL_fold 10 = .ok (.lastore, 1) := by decide +kernel
theorem dL_fold_11 : decode cL_fold 11 = .ok (.goto 11, 3) := by decide +kernel
theorem dL_fold_14 : decode cL_fold 14 = .ok (.astore 5, 2) := by decide +kernel
theorem dL_fold_16 : decode cL_fold 16 = .ok (.iconst 1, 1) := by decide +kernel
theorem dL_fold_17 : decode cL_fold 17 = .ok (.ireturn, 1) := by decide +kernel
theorem dL_fold_18 : decode cL_fold 18 = .ok (.astore 5, 2) := by decide +kernel
theorem dL_fold_20 : decode cL_fold 20 = .ok (.iconst 2, 1) := by decide +kernel
theorem dL_fold_21 : decode cL_fold 21 = .ok (.ireturn, 1) := by decide +kernel
theorem dL_fold_22 : decode cL_fold 22 = .ok (.iconst 0, 1) := by decide +kernel
theorem dL_fold_23 : decode cL_fold 23 = .ok (.ireturn, 1) := by decide +kernel
theorem dL_spread_0 : decode cL_spread 0 = .ok (.aload_n 3, 1) := by decide +kernel
theorem dL_spread_1 : decode cL_spread 1 = .ok (.iconst 0, 1) := by decide +kernel
theorem dL_spread_2 : decode cL_spread 2 = .ok (.aload_n 0, 1) := by decide +kernel
theorem dL_spread_3 : decode cL_spread 3 = .ok (.iload_n 1, 1) := by decide +kernel
theorem dL_spread_4 : decode cL_spread 4 = .ok (.iload_n 2, 1) := by decide +kernel
theorem dL_spread_5 : decode cL_spread 5 = .ok (.invokevirtual 140, 3) := by decide +kernel
theorem dL_spread_8 : decode cL_spread 8 = .ok (.lastore, 1) := by decide +kernel
theorem dL_spread_9 : decode cL_spread 9 = .ok (.goto 11, 3) := by decide +kernel
theorem dL_spread_12 : decode cL_spread 12 = .ok (.astore 4, 2) := by decide +kernel
theorem dL_spread_14 : decode cL_spread 14 = .ok (.iconst 1, 1) := by decide +kernel
theorem dL_spread_15 : decode cL_spread 15 = .ok (.ireturn, 1) := by decide +kernel
theorem dL_spread_16 : decode cL_spread 16 = .ok (.astore 4, 2) := by decide +kernel
theorem dL_spread_18 : decode cL_spread 18 = .ok (.iconst 2, 1) := by decide +kernel
theorem dL_spread_19 : decode cL_spread 19 = .ok (.ireturn, 1) := by decide +kernel
theorem dL_spread_20 : decode cL_spread 20 = .ok (.iconst 0, 1) := by decide +kernel
theorem dL_spread_21 : decode cL_spread 21 = .ok (.ireturn, 1) := by decide +kernel
theorem dL_nearest_0 : decode cL_nearest 0 = .ok (.aload 5, 2) := by decide +kernel
theorem dL_nearest_2 : decode cL_nearest 2 = .ok (.iconst 0, 1) := by decide +kernel
theorem dL_nearest_3 : decode cL_nearest 3 = .ok (.aload_n 0, 1) := by decide +kernel
theorem dL_nearest_4 : decode cL_nearest 4 = .ok (.iload_n 1, 1) := by decide +kernel
theorem dL_nearest_5 : decode cL_nearest 5 = .ok (.iload_n 2, 1) := by decide +kernel
theorem dL_nearest_6 : decode cL_nearest 6 = .ok (.lload_n 3, 1) := by decide +kernel
theorem dL_nearest_7 : decode cL_nearest 7 = .ok (.invokevirtual 143, 3) := by decide +kernel
theorem dL_nearest_10 : decode cL_nearest 10 = .ok (.lastore, 1) := by decide +kernel
theorem dL_nearest_11 : decode cL_nearest 11 = .ok (.goto 7, 3) := by decide +kernel
theorem dL_nearest_14 : decode cL_nearest 14 = .ok (.astore 6, 2) := by decide +kernel
theorem dL_nearest_16 : decode cL_nearest 16 = .ok (.iconst 1, 1) := by decide +kernel
theorem dL_nearest_17 : decode cL_nearest 17 = .ok (.ireturn, 1) := by decide +kernel
theorem dL_nearest_18 : decode cL_nearest 18 = .ok (.iconst 0, 1) := by decide +kernel
theorem dL_nearest_19 : decode cL_nearest 19 = .ok (.ireturn, 1) := by decide +kernel
theorem dL_box_0 : decode cL_box 0 = .ok (.aload 8, 2) := by decide +kernel
theorem dL_box_2 : decode cL_box 2 = .ok (.iconst 0, 1) := by decide +kernel
theorem dL_box_3 : decode cL_box 3 = .ok (.aload_n 0, 1) := by decide +kernel
theorem dL_box_4 : decode cL_box 4 = .ok (.iload_n 1, 1) := by decide +kernel
theorem dL_box_5 : decode cL_box 5 = .ok (.iload_n 2, 1) := by decide +kernel
theorem dL_box_6 : decode cL_box 6 = .ok (.lload_n 3, 1) := by decide +kernel
theorem dL_box_7 : decode cL_box 7 = .ok (.lload 5, 2) := by decide +kernel
theorem dL_box_9 : decode cL_box 9 = .ok (.iload 7, 2) := by decide +kernel
theorem dL_box_11 : decode cL_box 11 = .ok (.invokevirtual 147, 3) := by decide +kernel
theorem dL_box_14 : decode cL_box 14 = .ok (.i2l, 1) := by decide +kernel
theorem dL_box_15 : decode cL_box 15 = .ok (.lastore, 1) := by decide +kernel
theorem dL_box_16 : decode cL_box 16 = .ok (.goto 11, 3) := by decide +kernel
theorem dL_box_19 : decode cL_box 19 = .ok (.astore 9, 2) := by decide +kernel
theorem dL_box_21 : decode cL_box 21 = .ok (.iconst 1, 1) := by decide +kernel
theorem dL_box_22 : decode cL_box 22 = .ok (.ireturn, 1) := by decide +kernel
theorem dL_box_23 : decode cL_box 23 = .ok (.astore 9, 2) := by decide +kernel
theorem dL_box_25 : decode cL_box 25 = .ok (.iconst 2, 1) := by decide +kernel
theorem dL_box_26 : decode cL_box 26 = .ok (.ireturn, 1) := by decide +kernel
theorem dL_box_27 : decode cL_box 27 = .ok (.iconst 0, 1) := by decide +kernel
theorem dL_box_28 : decode cL_box 28 = .ok (.ireturn, 1) := by decide +kernel
theorem dL_add_0 : decode cL_add 0 = .ok (.aload 5, 2) := by decide +kernel
theorem dL_add_2 : decode cL_add 2 = .ok (.iconst 0, 1) := by decide +kernel
theorem dL_add_3 : decode cL_add 3 = .ok (.aload_n 0, 1) := by decide +kernel
theorem dL_add_4 : decode cL_add 4 = .ok (.iload_n 1, 1) := by decide +kernel
theorem dL_add_5 : decode cL_add 5 = .ok (.lload_n 2, 1) := by decide +kernel
theorem dL_add_6 : decode cL_add 6 = .ok (.iload 4, 2) := by decide +kernel
theorem dL_add_8 : decode cL_add 8 = .ok (.invokevirtual 151, 3) := by decide +kernel
theorem dL_add_11 : decode cL_add 11 = .ok (.i2l, 1) := by decide +kernel
theorem dL_add_12 : decode cL_add 12 = .ok (.lastore, 1) := by decide +kernel
theorem dL_add_13 : decode cL_add 13 = .ok (.goto 11, 3) := by decide +kernel
theorem dL_add_16 : decode cL_add 16 = .ok (.astore 6, 2) := by decide +kernel
theorem dL_add_18 : decode cL_add 18 = .ok (.iconst 1, 1) := by decide +kernel
theorem dL_add_19 : decode cL_add 19 = .ok (.ireturn, 1) := by decide +kernel
theorem dL_add_20 : decode cL_add 20 = .ok (.astore 6, 2) := by decide +kernel
theorem dL_add_22 : decode cL_add 22 = .ok (.iconst 2, 1) := by decide +kernel
theorem dL_add_23 : decode cL_add 23 = .ok (.ireturn, 1) := by decide +kernel
theorem dL_add_24 : decode cL_add 24 = .ok (.iconst 0, 1) := by decide +kernel
theorem dL_add_25 : decode cL_add 25 = .ok (.ireturn, 1) := by decide +kernel
theorem dL_plus_0 : decode cL_plus 0 = .ok (.aload 5, 2) := by decide +kernel
theorem dL_plus_2 : decode cL_plus 2 = .ok (.iconst 0, 1) := by decide +kernel
theorem dL_plus_3 : decode cL_plus 3 = .ok (.aload_n 0, 1) := by decide +kernel
theorem dL_plus_4 : decode cL_plus 4 = .ok (.iload_n 1, 1) := by decide +kernel
theorem dL_plus_5 : decode cL_plus 5 = .ok (.iload_n 2, 1) := by decide +kernel
theorem dL_plus_6 : decode cL_plus 6 = .ok (.iload_n 3, 1) := by decide +kernel
theorem dL_plus_7 : decode cL_plus 7 = .ok (.iload 4, 2) := by decide +kernel
theorem dL_plus_9 : decode cL_plus 9 = .ok (.invokevirtual 155, 3) := by decide +kernel
theorem dL_plus_12 : decode cL_plus 12 = .ok (.i2l, 1) := by decide +kernel
theorem dL_plus_13 : decode cL_plus 13 = .ok (.lastore, 1) := by decide +kernel
theorem dL_plus_14 : decode cL_plus 14 = .ok (.goto 11, 3) := by decide +kernel
theorem dL_plus_17 : decode cL_plus 17 = .ok (.astore 6, 2) := by decide +kernel
theorem dL_plus_19 : decode cL_plus 19 = .ok (.iconst 1, 1) := by decide +kernel
theorem dL_plus_20 : decode cL_plus 20 = .ok (.ireturn, 1) := by decide +kernel
theorem dL_plus_21 : decode cL_plus 21 = .ok (.astore 6, 2) := by decide +kernel
theorem dL_plus_23 : decode cL_plus 23 = .ok (.iconst 2, 1) := by decide +kernel
theorem dL_plus_24 : decode cL_plus 24 = .ok (.ireturn, 1) := by decide +kernel
theorem dL_plus_25 : decode cL_plus 25 = .ok (.iconst 0, 1) := by decide +kernel
theorem dL_plus_26 : decode cL_plus 26 = .ok (.ireturn, 1) := by decide +kernel
theorem dL_scale_0 : decode cL_scale 0 = .ok (.aload 4, 2) := by decide +kernel
theorem dL_scale_2 : decode cL_scale 2 = .ok (.iconst 0, 1) := by decide +kernel
theorem dL_scale_3 : decode cL_scale 3 = .ok (.aload_n 0, 1) := by decide +kernel
theorem dL_scale_4 : decode cL_scale 4 = .ok (.iload_n 1, 1) := by decide +kernel
theorem dL_scale_5 : decode cL_scale 5 = .ok (.iload_n 2, 1) := by decide +kernel
theorem dL_scale_6 : decode cL_scale 6 = .ok (.iload_n 3, 1) := by decide +kernel
theorem dL_scale_7 : decode cL_scale 7 = .ok (.invokevirtual 159, 3) := by decide +kernel
theorem dL_scale_10 : decode cL_scale 10 = .ok (.i2l, 1) := by decide +kernel
theorem dL_scale_11 : decode cL_scale 11 = .ok (.lastore, 1) := by decide +kernel
theorem dL_scale_12 : decode cL_scale 12 = .ok (.goto 15, 3) := by decide +kernel
theorem dL_scale_15 : decode cL_scale 15 = .ok (.astore 5, 2) := by decide +kernel
theorem dL_scale_17 : decode cL_scale 17 = .ok (.iconst 1, 1) := by decide +kernel
theorem dL_scale_18 : decode cL_scale 18 = .ok (.ireturn, 1) := by decide +kernel
theorem dL_scale_19 : decode cL_scale 19 = .ok (.astore 5, 2) := by decide +kernel
theorem dL_scale_21 : decode cL_scale 21 = .ok (.iconst 2, 1) := by decide +kernel
theorem dL_scale_22 : decode cL_scale 22 = .ok (.ireturn, 1) := by decide +kernel
theorem dL_scale_23 : decode cL_scale 23 = .ok (.astore 5, 2) := by decide +kernel
theorem dL_scale_25 : decode cL_scale 25 = .ok (.iconst 3, 1) := by decide +kernel
theorem dL_scale_26 : decode cL_scale 26 = .ok (.ireturn, 1) := by decide +kernel
theorem dL_scale_27 : decode cL_scale 27 = .ok (.iconst 0, 1) := by decide +kernel
theorem dL_scale_28 : decode cL_scale 28 = .ok (.ireturn, 1) := by decide +kernel
theorem dL_shift_0 : decode cL_shift 0 = .ok (.aload 4, 2) := by decide +kernel
theorem dL_shift_2 : decode cL_shift 2 = .ok (.iconst 0, 1) := by decide +kernel
theorem dL_shift_3 : decode cL_shift 3 = .ok (.aload_n 0, 1) := by decide +kernel
theorem dL_shift_4 : decode cL_shift 4 = .ok (.iload_n 1, 1) := by decide +kernel
theorem dL_shift_5 : decode cL_shift 5 = .ok (.iload_n 2, 1) := by decide +kernel
theorem dL_shift_6 : decode cL_shift 6 = .ok (.iload_n 3, 1) := by decide +kernel
theorem dL_shift_7 : decode cL_shift 7 = .ok (.invokevirtual 162, 3) := by decide +kernel
theorem dL_shift_10 : decode cL_shift 10 = .ok (.i2l, 1) := by decide +kernel
theorem dL_shift_11 : decode cL_shift 11 = .ok (.lastore, 1) := by decide +kernel
theorem dL_shift_12 : decode cL_shift 12 = .ok (.goto 15, 3) := by decide +kernel
theorem dL_shift_15 : decode cL_shift 15 = .ok (.astore 5, 2) := by decide +kernel
theorem dL_shift_17 : decode cL_shift 17 = .ok (.iconst 1, 1) := by decide +kernel
theorem dL_shift_18 : decode cL_shift 18 = .ok (.ireturn, 1) := by decide +kernel
theorem dL_shift_19 : decode cL_shift 19 = .ok (.astore 5, 2) := by decide +kernel
theorem dL_shift_21 : decode cL_shift 21 = .ok (.iconst 2, 1) := by decide +kernel
theorem dL_shift_22 : decode cL_shift 22 = .ok (.ireturn, 1) := by decide +kernel
theorem dL_shift_23 : decode cL_shift 23 = .ok (.astore 5, 2) := by decide +kernel
theorem dL_shift_25 : decode cL_shift 25 = .ok (.iconst 3, 1) := by decide +kernel
theorem dL_shift_26 : decode cL_shift 26 = .ok (.ireturn, 1) := by decide +kernel
theorem dL_shift_27 : decode cL_shift 27 = .ok (.iconst 0, 1) := by decide +kernel
theorem dL_shift_28 : decode cL_shift 28 = .ok (.ireturn, 1) := by decide +kernel
theorem dL_hold_0 : decode cL_hold 0 = .ok (.aload 7, 2) := by decide +kernel
theorem dL_hold_2 : decode cL_hold 2 = .ok (.iconst 0, 1) := by decide +kernel
theorem dL_hold_3 : decode cL_hold 3 = .ok (.aload_n 0, 1) := by decide +kernel
theorem dL_hold_4 : decode cL_hold 4 = .ok (.iload_n 1, 1) := by decide +kernel
theorem dL_hold_5 : decode cL_hold 5 = .ok (.lload_n 2, 1) := by decide +kernel
theorem dL_hold_6 : decode cL_hold 6 = .ok (.lload 4, 2) := by decide +kernel
theorem dL_hold_8 : decode cL_hold 8 = .ok (.iload 6, 2) := by decide +kernel
theorem dL_hold_10 : decode cL_hold 10 = .ok (.invokevirtual 165, 3) := by decide +kernel
theorem dL_hold_13 : decode cL_hold 13 = .ok (.i2l, 1) := by decide +kernel
theorem dL_hold_14 : decode cL_hold 14 = .ok (.lastore, 1) := by decide +kernel
theorem dL_hold_15 : decode cL_hold 15 = .ok (.goto 15, 3) := by decide +kernel
theorem dL_hold_18 : decode cL_hold 18 = .ok (.astore 8, 2) := by decide +kernel
theorem dL_hold_20 : decode cL_hold 20 = .ok (.iconst 1, 1) := by decide +kernel
theorem dL_hold_21 : decode cL_hold 21 = .ok (.ireturn, 1) := by decide +kernel
theorem dL_hold_22 : decode cL_hold 22 = .ok (.astore 8, 2) := by decide +kernel
theorem dL_hold_24 : decode cL_hold 24 = .ok (.iconst 2, 1) := by decide +kernel
theorem dL_hold_25 : decode cL_hold 25 = .ok (.ireturn, 1) := by decide +kernel
theorem dL_hold_26 : decode cL_hold 26 = .ok (.astore 8, 2) := by decide +kernel
theorem dL_hold_28 : decode cL_hold 28 = .ok (.iconst 3, 1) := by decide +kernel
theorem dL_hold_29 : decode cL_hold 29 = .ok (.ireturn, 1) := by decide +kernel
theorem dL_hold_30 : decode cL_hold 30 = .ok (.iconst 0, 1) := by decide +kernel
theorem dL_hold_31 : decode cL_hold 31 = .ok (.ireturn, 1) := by decide +kernel
theorem dL_fill_0 : decode cL_fill 0 = .ok (.aload 5, 2) := by decide +kernel
theorem dL_fill_2 : decode cL_fill 2 = .ok (.iconst 0, 1) := by decide +kernel
theorem dL_fill_3 : decode cL_fill 3 = .ok (.aload_n 0, 1) := by decide +kernel
theorem dL_fill_4 : decode cL_fill 4 = .ok (.iload_n 1, 1) := by decide +kernel
theorem dL_fill_5 : decode cL_fill 5 = .ok (.lload_n 2, 1) := by decide +kernel
theorem dL_fill_6 : decode cL_fill 6 = .ok (.iload 4, 2) := by decide +kernel
theorem dL_fill_8 : decode cL_fill 8 = .ok (.invokevirtual 169, 3) := by decide +kernel
theorem dL_fill_11 : decode cL_fill 11 = .ok (.i2l, 1) := by decide +kernel
theorem dL_fill_12 : decode cL_fill 12 = .ok (.lastore, 1) := by decide +kernel
theorem dL_fill_13 : decode cL_fill 13 = .ok (.goto 11, 3) := by decide +kernel
theorem dL_fill_16 : decode cL_fill 16 = .ok (.astore 6, 2) := by decide +kernel
theorem dL_fill_18 : decode cL_fill 18 = .ok (.iconst 1, 1) := by decide +kernel
theorem dL_fill_19 : decode cL_fill 19 = .ok (.ireturn, 1) := by decide +kernel
theorem dL_fill_20 : decode cL_fill 20 = .ok (.astore 6, 2) := by decide +kernel
theorem dL_fill_22 : decode cL_fill 22 = .ok (.iconst 2, 1) := by decide +kernel
theorem dL_fill_23 : decode cL_fill 23 = .ok (.ireturn, 1) := by decide +kernel
theorem dL_fill_24 : decode cL_fill 24 = .ok (.iconst 0, 1) := by decide +kernel
theorem dL_fill_25 : decode cL_fill 25 = .ok (.ireturn, 1) := by decide +kernel
theorem dL_copy_0 : decode cL_copy 0 = .ok (.aload 4, 2) := by decide +kernel
theorem dL_copy_2 : decode cL_copy 2 = .ok (.iconst 0, 1) := by decide +kernel
theorem dL_copy_3 : decode cL_copy 3 = .ok (.aload_n 0, 1) := by decide +kernel
theorem dL_copy_4 : decode cL_copy 4 = .ok (.iload_n 1, 1) := by decide +kernel
theorem dL_copy_5 : decode cL_copy 5 = .ok (.iload_n 2, 1) := by decide +kernel
theorem dL_copy_6 : decode cL_copy 6 = .ok (.iload_n 3, 1) := by decide +kernel
theorem dL_copy_7 : decode cL_copy 7 = .ok (.invokevirtual 172, 3) := by decide +kernel
theorem dL_copy_10 : decode cL_copy 10 = .ok (.i2l, 1) := by decide +kernel
theorem dL_copy_11 : decode cL_copy 11 = .ok (.lastore, 1) := by decide +kernel
theorem dL_copy_12 : decode cL_copy 12 = .ok (.goto 11, 3) := by decide +kernel
theorem dL_copy_15 : decode cL_copy 15 = .ok (.astore 5, 2) := by decide +kernel
theorem dL_copy_17 : decode cL_copy 17 = .ok (.iconst 1, 1) := by decide +kernel
theorem dL_copy_18 : decode cL_copy 18 = .ok (.ireturn, 1) := by decide +kernel
theorem dL_copy_19 : decode cL_copy 19 = .ok (.astore 5, 2) := by decide +kernel
theorem dL_copy_21 : decode cL_copy 21 = .ok (.iconst 2, 1) := by decide +kernel
theorem dL_copy_22 : decode cL_copy 22 = .ok (.ireturn, 1) := by decide +kernel
theorem dL_copy_23 : decode cL_copy 23 = .ok (.iconst 0, 1) := by decide +kernel
theorem dL_copy_24 : decode cL_copy 24 = .ok (.ireturn, 1) := by decide +kernel
theorem dL_pick_0 : decode cL_pick 0 = .ok (.aload 5, 2) := by decide +kernel
theorem dL_pick_2 : decode cL_pick 2 = .ok (.iconst 0, 1) := by decide +kernel
theorem dL_pick_3 : decode cL_pick 3 = .ok (.aload_n 0, 1) := by decide +kernel
theorem dL_pick_4 : decode cL_pick 4 = .ok (.iload_n 1, 1) := by decide +kernel
theorem dL_pick_5 : decode cL_pick 5 = .ok (.iload_n 2, 1) := by decide +kernel
theorem dL_pick_6 : decode cL_pick 6 = .ok (.iload_n 3, 1) := by decide +kernel
theorem dL_pick_7 : decode cL_pick 7 = .ok (.iload 4, 2) := by decide +kernel
theorem dL_pick_9 : decode cL_pick 9 = .ok (.invokevirtual 175, 3) := by decide +kernel
theorem dL_pick_12 : decode cL_pick 12 = .ok (.i2l, 1) := by decide +kernel
theorem dL_pick_13 : decode cL_pick 13 = .ok (.lastore, 1) := by decide +kernel
theorem dL_pick_14 : decode cL_pick 14 = .ok (.goto 11, 3) := by decide +kernel
theorem dL_pick_17 : decode cL_pick 17 = .ok (.astore 6, 2) := by decide +kernel
theorem dL_pick_19 : decode cL_pick 19 = .ok (.iconst 1, 1) := by decide +kernel
theorem dL_pick_20 : decode cL_pick 20 = .ok (.ireturn, 1) := by decide +kernel
theorem dL_pick_21 : decode cL_pick 21 = .ok (.astore 6, 2) := by decide +kernel
theorem dL_pick_23 : decode cL_pick 23 = .ok (.iconst 2, 1) := by decide +kernel
theorem dL_pick_24 : decode cL_pick 24 = .ok (.ireturn, 1) := by decide +kernel
theorem dL_pick_25 : decode cL_pick 25 = .ok (.iconst 0, 1) := by decide +kernel
theorem dL_pick_26 : decode cL_pick 26 = .ok (.ireturn, 1) := by decide +kernel
theorem dL_wipe_0 : decode cL_wipe 0 = .ok (.aload_n 3, 1) := by decide +kernel
theorem dL_wipe_1 : decode cL_wipe 1 = .ok (.iconst 0, 1) := by decide +kernel
theorem dL_wipe_2 : decode cL_wipe 2 = .ok (.aload_n 0, 1) := by decide +kernel
theorem dL_wipe_3 : decode cL_wipe 3 = .ok (.iload_n 1, 1) := by decide +kernel
theorem dL_wipe_4 : decode cL_wipe 4 = .ok (.iload_n 2, 1) := by decide +kernel
theorem dL_wipe_5 : decode cL_wipe 5 = .ok (.invokevirtual 178, 3) := by decide +kernel
theorem dL_wipe_8 : decode cL_wipe 8 = .ok (.i2l, 1) := by decide +kernel
theorem dL_wipe_9 : decode cL_wipe 9 = .ok (.lastore, 1) := by decide +kernel
theorem dL_wipe_10 : decode cL_wipe 10 = .ok (.goto 7, 3) := by decide +kernel
theorem dL_wipe_13 : decode cL_wipe 13 = .ok (.astore 4, 2) := by decide +kernel
theorem dL_wipe_15 : decode cL_wipe 15 = .ok (.iconst 1, 1) := by decide +kernel
theorem dL_wipe_16 : decode cL_wipe 16 = .ok (.ireturn, 1) := by decide +kernel
theorem dL_wipe_17 : decode cL_wipe 17 = .ok (.iconst 0, 1) := by decide +kernel
theorem dL_wipe_18 : decode cL_wipe 18 = .ok (.ireturn, 1) := by decide +kernel
theorem dL_widen_0 : decode cL_widen 0 = .ok (.aload_n 3, 1) := by decide +kernel
theorem dL_widen_1 : decode cL_widen 1 = .ok (.iconst 0, 1) := by decide +kernel
theorem dL_widen_2 : decode cL_widen 2 = .ok (.aload_n 0, 1) := by decide +kernel
theorem dL_widen_3 : decode cL_widen 3 = .ok (.iload_n 1, 1) := by decide +kernel
theorem dL_widen_4 : decode cL_widen 4 = .ok (.iload_n 2, 1) := by decide +kernel
theorem dL_widen_5 : decode cL_widen 5 = .ok (.invokevirtual 181, 3) := by decide +kernel
theorem dL_widen_8 : decode cL_widen 8 = .ok (.i2l, 1) := by decide +kernel
theorem dL_widen_9 : decode cL_widen 9 = .ok (.lastore, 1) := by decide +kernel
theorem dL_widen_10 : decode cL_widen 10 = .ok (.goto 15, 3) := by decide +kernel
theorem dL_widen_13 : decode cL_widen 13 = .ok (.astore 4, 2) := by decide +kernel
theorem dL_widen_15 : decode cL_widen 15 = .ok (.iconst 1, 1) := by decide +kernel
theorem dL_widen_16 : decode cL_widen 16 = .ok (.ireturn, 1) := by decide +kernel
theorem dL_widen_17 : decode cL_widen 17 = .ok (.astore 4, 2) := by decide +kernel
theorem dL_widen_19 : decode cL_widen 19 = .ok (.iconst 2, 1) := by decide +kernel
theorem dL_widen_20 : decode cL_widen 20 = .ok (.ireturn, 1) := by decide +kernel
theorem dL_widen_21 : decode cL_widen 21 = .ok (.astore 4, 2) := by decide +kernel
theorem dL_widen_23 : decode cL_widen 23 = .ok (.iconst 3, 1) := by decide +kernel
theorem dL_widen_24 : decode cL_widen 24 = .ok (.ireturn, 1) := by decide +kernel
theorem dL_widen_25 : decode cL_widen 25 = .ok (.iconst 0, 1) := by decide +kernel
theorem dL_widen_26 : decode cL_widen 26 = .ok (.ireturn, 1) := by decide +kernel
theorem dL_remove_0 : decode cL_remove 0 = .ok (.aload_n 2, 1) := by decide +kernel
theorem dL_remove_1 : decode cL_remove 1 = .ok (.iconst 0, 1) := by decide +kernel
theorem dL_remove_2 : decode cL_remove 2 = .ok (.aload_n 0, 1) := by decide +kernel
theorem dL_remove_3 : decode cL_remove 3 = .ok (.iload_n 1, 1) := by decide +kernel
theorem dL_remove_4 : decode cL_remove 4 = .ok (.invokevirtual 184, 3) := by decide +kernel
theorem dL_remove_7 : decode cL_remove 7 = .ok (.i2l, 1) := by decide +kernel
theorem dL_remove_8 : decode cL_remove 8 = .ok (.lastore, 1) := by decide +kernel
theorem dL_remove_9 : decode cL_remove 9 = .ok (.goto 6, 3) := by decide +kernel
theorem dL_remove_12 : decode cL_remove 12 = .ok (.astore_n 3, 1) := by decide +kernel
theorem dL_remove_13 : decode cL_remove 13 = .ok (.iconst 1, 1) := by decide +kernel
theorem dL_remove_14 : decode cL_remove 14 = .ok (.ireturn, 1) := by decide +kernel
theorem dL_remove_15 : decode cL_remove 15 = .ok (.iconst 0, 1) := by decide +kernel
theorem dL_remove_16 : decode cL_remove 16 = .ok (.ireturn, 1) := by decide +kernel
theorem dL_first_0 : decode cL_first 0 = .ok (.aload_n 2, 1) := by decide +kernel
theorem dL_first_1 : decode cL_first 1 = .ok (.iconst 0, 1) := by decide +kernel
theorem dL_first_2 : decode cL_first 2 = .ok (.aload_n 0, 1) := by decide +kernel
theorem dL_first_3 : decode cL_first 3 = .ok (.iload_n 1, 1) := by decide +kernel
theorem dL_first_4 : decode cL_first 4 = .ok (.invokevirtual 187, 3) := by decide +kernel
theorem dL_first_7 : decode cL_first 7 = .ok (.i2l, 1) := by decide +kernel
theorem dL_first_8 : decode cL_first 8 = .ok (.lastore, 1) := by decide +kernel
theorem dL_first_9 : decode cL_first 9 = .ok (.goto 6, 3) := by decide +kernel
theorem dL_first_12 : decode cL_first 12 = .ok (.astore_n 3, 1) := by decide +kernel
theorem dL_first_13 : decode cL_first 13 = .ok (.iconst 1, 1) := by decide +kernel
theorem dL_first_14 : decode cL_first 14 = .ok (.ireturn, 1) := by decide +kernel
theorem dL_first_15 : decode cL_first 15 = .ok (.iconst 0, 1) := by decide +kernel
theorem dL_first_16 : decode cL_first 16 = .ok (.ireturn, 1) := by decide +kernel
theorem dL_sort_0 : decode cL_sort 0 = .ok (.aload_n 3, 1) := by decide +kernel
theorem dL_sort_1 : decode cL_sort 1 = .ok (.iconst 0, 1) := by decide +kernel
theorem dL_sort_2 : decode cL_sort 2 = .ok (.aload_n 0, 1) := by decide +kernel
theorem dL_sort_3 : decode cL_sort 3 = .ok (.iload_n 1, 1) := by decide +kernel
theorem dL_sort_4 : decode cL_sort 4 = .ok (.iload_n 2, 1) := by decide +kernel
theorem dL_sort_5 : decode cL_sort 5 = .ok (.invokevirtual 190, 3) := by decide +kernel
theorem dL_sort_8 : decode cL_sort 8 = .ok (.i2l, 1) := by decide +kernel
theorem dL_sort_9 : decode cL_sort 9 = .ok (.lastore, 1) := by decide +kernel
theorem dL_sort_10 : decode cL_sort 10 = .ok (.goto 7, 3) := by decide +kernel
theorem dL_sort_13 : decode cL_sort 13 = .ok (.astore 4, 2) := by decide +kernel
theorem dL_sort_15 : decode cL_sort 15 = .ok (.iconst 1, 1) := by decide +kernel
theorem dL_sort_16 : decode cL_sort 16 = .ok (.ireturn, 1) := by decide +kernel
theorem dL_sort_17 : decode cL_sort 17 = .ok (.iconst 0, 1) := by decide +kernel
theorem dL_sort_18 : decode cL_sort 18 = .ok (.ireturn, 1) := by decide +kernel
theorem dL_swap_0 : decode cL_swap 0 = .ok (.aload_n 3, 1) := by decide +kernel
theorem dL_swap_1 : decode cL_swap 1 = .ok (.iconst 0, 1) := by decide +kernel
theorem dL_swap_2 : decode cL_swap 2 = .ok (.aload_n 0, 1) := by decide +kernel
theorem dL_swap_3 : decode cL_swap 3 = .ok (.iload_n 1, 1) := by decide +kernel
theorem dL_swap_4 : decode cL_swap 4 = .ok (.iload_n 2, 1) := by decide +kernel
theorem dL_swap_5 : decode cL_swap 5 = .ok (.invokevirtual 194, 3) := by decide +kernel
theorem dL_swap_8 : decode cL_swap 8 = .ok (.i2l, 1) := by decide +kernel
theorem dL_swap_9 : decode cL_swap 9 = .ok (.lastore, 1) := by decide +kernel
theorem dL_swap_10 : decode cL_swap 10 = .ok (.goto 7, 3) := by decide +kernel
theorem dL_swap_13 : decode cL_swap 13 = .ok (.astore 4, 2) := by decide +kernel
theorem dL_swap_15 : decode cL_swap 15 = .ok (.iconst 1, 1) := by decide +kernel
theorem dL_swap_16 : decode cL_swap 16 = .ok (.ireturn, 1) := by decide +kernel
theorem dL_swap_17 : decode cL_swap 17 = .ok (.iconst 0, 1) := by decide +kernel
theorem dL_swap_18 : decode cL_swap 18 = .ok (.ireturn, 1) := by decide +kernel
theorem dL_keep_0 : decode cL_keep 0 = .ok (.aload_n 2, 1) := by decide +kernel
theorem dL_keep_1 : decode cL_keep 1 = .ok (.iconst 0, 1) := by decide +kernel
theorem dL_keep_2 : decode cL_keep 2 = .ok (.aload_n 0, 1) := by decide +kernel
theorem dL_keep_3 : decode cL_keep 3 = .ok (.iload_n 1, 1) := by decide +kernel
theorem dL_keep_4 : decode cL_keep 4 = .ok (.invokevirtual 197, 3) := by decide +kernel
theorem dL_keep_7 : decode cL_keep 7 = .ok (.i2l, 1) := by decide +kernel
theorem dL_keep_8 : decode cL_keep 8 = .ok (.lastore, 1) := by decide +kernel
theorem dL_keep_9 : decode cL_keep 9 = .ok (.goto 6, 3) := by decide +kernel
theorem dL_keep_12 : decode cL_keep 12 = .ok (.astore_n 3, 1) := by decide +kernel
theorem dL_keep_13 : decode cL_keep 13 = .ok (.iconst 1, 1) := by decide +kernel
theorem dL_keep_14 : decode cL_keep 14 = .ok (.ireturn, 1) := by decide +kernel
theorem dL_keep_15 : decode cL_keep 15 = .ok (.iconst 0, 1) := by decide +kernel
theorem dL_keep_16 : decode cL_keep 16 = .ok (.ireturn, 1) := by decide +kernel
theorem dL_back_0 : decode cL_back 0 = .ok (.aload_n 2, 1) := by decide +kernel
theorem dL_back_1 : decode cL_back 1 = .ok (.iconst 0, 1) := by decide +kernel
theorem dL_back_2 : decode cL_back 2 = .ok (.aload_n 0, 1) := by decide +kernel
theorem dL_back_3 : decode cL_back 3 = .ok (.iload_n 1, 1) := by decide +kernel
theorem dL_back_4 : decode cL_back 4 = .ok (.invokevirtual 200, 3) := by decide +kernel
theorem dL_back_7 : decode cL_back 7 = .ok (.i2l, 1) := by decide +kernel
theorem dL_back_8 : decode cL_back 8 = .ok (.lastore, 1) := by decide +kernel
theorem dL_back_9 : decode cL_back 9 = .ok (.goto 9, 3) := by decide +kernel
theorem dL_back_12 : decode cL_back 12 = .ok (.astore_n 3, 1) := by decide +kernel
theorem dL_back_13 : decode cL_back 13 = .ok (.iconst 1, 1) := by decide +kernel
theorem dL_back_14 : decode cL_back 14 = .ok (.ireturn, 1) := by decide +kernel
theorem dL_back_15 : decode cL_back 15 = .ok (.astore_n 3, 1) := by decide +kernel
theorem dL_back_16 : decode cL_back 16 = .ok (.iconst 2, 1) := by decide +kernel
theorem dL_back_17 : decode cL_back 17 = .ok (.ireturn, 1) := by decide +kernel
theorem dL_back_18 : decode cL_back 18 = .ok (.iconst 0, 1) := by decide +kernel
theorem dL_back_19 : decode cL_back 19 = .ok (.ireturn, 1) := by decide +kernel
