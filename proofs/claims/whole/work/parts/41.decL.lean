theorem dL_unit_0 : decode cL_unit 0 = .ok (.aload_n 2, 1) := by decide +kernel
theorem dL_unit_1 : decode cL_unit 1 = .ok (.iconst 0, 1) := by decide +kernel
theorem dL_unit_2 : decode cL_unit 2 = .ok (.aload_n 0, 1) := by decide +kernel
theorem dL_unit_3 : decode cL_unit 3 = .ok (.iload_n 1, 1) := by decide +kernel
theorem dL_unit_4 : decode cL_unit 4 = .ok (.invokevirtual 7, 3) := by decide +kernel
theorem dL_unit_7 : decode cL_unit 7 = .ok (.i2l, 1) := by decide +kernel
theorem dL_unit_8 : decode cL_unit 8 = .ok (.lastore, 1) := by decide +kernel
theorem dL_unit_9 : decode cL_unit 9 = .ok (.goto 9, 3) := by decide +kernel
theorem dL_unit_12 : decode cL_unit 12 = .ok (.astore_n 3, 1) := by decide +kernel
theorem dL_unit_13 : decode cL_unit 13 = .ok (.iconst 1, 1) := by decide +kernel
theorem dL_unit_14 : decode cL_unit 14 = .ok (.ireturn, 1) := by decide +kernel
theorem dL_unit_15 : decode cL_unit 15 = .ok (.astore_n 3, 1) := by decide +kernel
theorem dL_unit_16 : decode cL_unit 16 = .ok (.iconst 2, 1) := by decide +kernel
theorem dL_unit_17 : decode cL_unit 17 = .ok (.ireturn, 1) := by decide +kernel
theorem dL_unit_18 : decode cL_unit 18 = .ok (.iconst 0, 1) := by decide +kernel
theorem dL_unit_19 : decode cL_unit 19 = .ok (.ireturn, 1) := by decide +kernel
theorem dL_read_0 : decode cL_read 0 = .ok (.aload_n 1, 1) := by decide +kernel
theorem dL_read_1 : decode cL_read 1 = .ok (.iconst 0, 1) := by decide +kernel
theorem dL_read_2 : decode cL_read 2 = .ok (.aload_n 0, 1) := by decide +kernel
theorem dL_read_3 : decode cL_read 3 = .ok (.invokevirtual 17, 3) := by decide +kernel
theorem dL_read_6 : decode cL_read 6 = .ok (.i2l, 1) := by decide +kernel
theorem dL_read_7 : decode cL_read 7 = .ok (.lastore, 1) := by decide +kernel
theorem dL_read_8 : decode cL_read 8 = .ok (.goto 6, 3) := by decide +kernel
theorem dL_read_11 : decode cL_read 11 = .ok (.astore_n 2, 1) := by decide +kernel
theorem dL_read_12 : decode cL_read 12 = .ok (.iconst 1, 1) := by decide +kernel
theorem dL_read_13 : decode cL_read 13 = .ok (.ireturn, 1) := by decide +kernel
theorem dL_read_14 : decode cL_read 14 = .ok (.iconst 0, 1) := by decide +kernel
theorem dL_read_15 : decode cL_read 15 = .ok (.ireturn, 1) := by decide +kernel
theorem dL_uses_0 : decode cL_uses 0 = .ok (.aload_n 3, 1) := by decide +kernel
theorem dL_uses_1 : decode cL_uses 1 = .ok (.iconst 0, 1) := by decide +kernel
theorem dL_uses_2 : decode cL_uses 2 = .ok (.aload_n 0, 1) := by decide +kernel
theorem dL_uses_3 : decode cL_uses 3 = .ok (.iload_n 1, 1) := by decide +kernel
theorem dL_uses_4 : decode cL_uses 4 = .ok (.iload_n 2, 1) := by decide +kernel
theorem dL_uses_5 : decode cL_uses 5 = .ok (.invokevirtual 21, 3) := by decide +kernel
theorem dL_uses_8 : decode cL_uses 8 = .ok (.i2l, 1) := by decide +kernel
theorem dL_uses_9 : decode cL_uses 9 = .ok (.lastore, 1) := by decide +kernel
theorem dL_uses_10 : decode cL_uses 10 = .ok (.goto 7, 3) := by decide +kernel
theorem dL_uses_13 : decode cL_uses 13 = .ok (.astore 4, 2) := by decide +kernel
theorem dL_uses_15 : decode cL_uses 15 = .ok (.iconst 1, 1) := by decide +kernel
theorem dL_uses_16 : decode cL_uses 16 = .ok (.ireturn, 1) := by decide +kernel
theorem dL_uses_17 : decode cL_uses 17 = .ok (.iconst 0, 1) := by decide +kernel
theorem dL_uses_18 : decode cL_uses 18 = .ok (.ireturn, 1) := by decide +kernel
theorem dL_object_0 : decode cL_object 0 = .ok (.aload_n 1, 1) := by decide +kernel
theorem dL_object_1 : decode cL_object 1 = .ok (.iconst 0, 1) := by decide +kernel
theorem dL_object_2 : decode cL_object 2 = .ok (.aload_n 0, 1) := by decide +kernel
theorem dL_object_3 : decode cL_object 3 = .ok (.invokevirtual 27, 3) := by decide +kernel
theorem dL_object_6 : decode cL_object 6 = .ok (.i2l, 1) := by decide +kernel
theorem dL_object_7 : decode cL_object 7 = .ok (.lastore, 1) := by decide +kernel
theorem dL_object_8 : decode cL_object 8 = .ok (.goto 6, 3) := by decide +kernel
theorem dL_object_11 : decode cL_object 11 = .ok (.astore_n 2, 1) := by decide +kernel
theorem dL_object_12 : decode cL_object 12 = .ok (.iconst 1, 1) := by decide +kernel
theorem dL_object_13 : decode cL_object 13 = .ok (.ireturn, 1) := by decide +kernel
theorem dL_object_14 : decode cL_object 14 = .ok (.iconst 0, 1) := by decide +kernel
theorem dL_object_15 : decode cL_object 15 = .ok (.ireturn, 1) := by decide +kernel
theorem dL_part_0 : decode cL_part 0 = .ok (.aload_n 3, 1) := by decide +kernel
theorem dL_part_1 : decode cL_part 1 = .ok (.iconst 0, 1) := by decide +kernel
theorem dL_part_2 : decode cL_part 2 = .ok (.aload_n 0, 1) := by decide +kernel
theorem dL_part_3 : decode cL_part 3 = .ok (.iload_n 1, 1) := by decide +kernel
theorem dL_part_4 : decode cL_part 4 = .ok (.iload_n 2, 1) := by decide +kernel
theorem dL_part_5 : decode cL_part 5 = .ok (.invokevirtual 30, 3) := by decide +kernel
theorem dL_part_8 : decode cL_part 8 = .ok (.i2l, 1) := by decide +kernel
theorem dL_part_9 : decode cL_part 9 = .ok (.lastore, 1) := by decide +kernel
theorem dL_part_10 : decode cL_part 10 = .ok (.goto 11, 3) := by decide +kernel
theorem dL_part_13 : decode cL_part 13 = .ok (.astore 4, 2) := by decide +kernel
theorem dL_part_15 : decode cL_part 15 = .ok (.iconst 1, 1) := by decide +kernel
theorem dL_part_16 : decode cL_part 16 = .ok (.ireturn, 1) := by decide +kernel
theorem dL_part_17 : decode cL_part 17 = .ok (.astore 4, 2) := by decide +kernel
theorem dL_part_19 : decode cL_part 19 = .ok (.iconst 2, 1) := by decide +kernel
theorem dL_part_20 : decode cL_part 20 = .ok (.ireturn, 1) := by decide +kernel
theorem dL_part_21 : decode cL_part 21 = .ok (.iconst 0, 1) := by decide +kernel
theorem dL_part_22 : decode cL_part 22 = .ok (.ireturn, 1) := by decide +kernel
theorem dL_right_0 : decode cL_right 0 = .ok (.aload 4, 2) := by decide +kernel
theorem dL_right_2 : decode cL_right 2 = .ok (.iconst 0, 1) := by decide +kernel
theorem dL_right_3 : decode cL_right 3 = .ok (.aload_n 0, 1) := by decide +kernel
theorem dL_right_4 : decode cL_right 4 = .ok (.iload_n 1, 1) := by decide +kernel
theorem dL_right_5 : decode cL_right 5 = .ok (.iload_n 2, 1) := by decide +kernel
theorem dL_right_6 : decode cL_right 6 = .ok (.iload_n 3, 1) := by decide +kernel
theorem dL_right_7 : decode cL_right 7 = .ok (.invokevirtual 33, 3) := by decide +kernel
theorem dL_right_10 : decode cL_right 10 = .ok (.ifCond .eq 7, 3) := by decide +kernel
theorem dL_right_13 : decode cL_right 13 = .ok (.lconst 1, 1) := by decide +kernel
theorem dL_right_14 : decode cL_right 14 = .ok (.goto 4, 3) := by decide +kernel
theorem dL_right_17 : decode cL_right 17 = .ok (.lconst 0, 1) := by decide +kernel
theorem dL_right_18 : decode cL_right 18 = .ok (.lastore, 1) := by decide +kernel
theorem dL_right_19 : decode cL_right 19 = .ok (.goto 7, 3) := by decide +kernel
theorem dL_right_22 : decode cL_right 22 = .ok (.astore 5, 2) := by decide +kernel
theorem dL_right_24 : decode cL_right 24 = .ok (.iconst 1, 1) := by decide +kernel
theorem dL_right_25 : decode cL_right 25 = .ok (.ireturn, 1) := by decide +kernel
theorem dL_right_26 : decode cL_right 26 = .ok (.iconst 0, 1) := by decide +kernel
theorem dL_right_27 : decode cL_right 27 = .ok (.ireturn, 1) := by decide +kernel
theorem dL_trial_0 : decode cL_trial 0 = .ok (.aload 4, 2) := by decide +kernel
theorem dL_trial_2 : decode cL_trial 2 = .ok (.iconst 0, 1) := by decide +kernel
theorem dL_trial_3 : decode cL_trial 3 = .ok (.aload_n 0, 1) := by decide +kernel
theorem dL_trial_4 : decode cL_trial 4 = .ok (.iload_n 1, 1) := by decide +kernel
theorem dL_trial_5 : decode cL_trial 5 = .ok (.iload_n 2, 1) := by decide +kernel
theorem dL_trial_6 : decode cL_trial 6 = .ok (.iload_n 3, 1) := by decide +kernel
theorem dL_trial_7 : decode cL_trial 7 = .ok (.invokevirtual 37, 3) := by decide +kernel
theorem dL_trial_10 : decode cL_trial 10 = .ok (.ifCond .eq 7, 3) := by decide +kernel
theorem dL_trial_13 : decode cL_trial 13 = .ok (.lconst 1, 1) := by decide +kernel
theorem dL_trial_14 : decode cL_trial 14 = .ok (.goto 4, 3) := by decide +kernel
theorem dL_trial_17 : decode cL_trial 17 = .ok (.lconst 0, 1) := by decide +kernel
theorem dL_trial_18 : decode cL_trial 18 = .ok (.lastore, 1) := by decide +kernel
theorem dL_trial_19 : decode cL_trial 19 = .ok (.goto 7, 3) := by decide +kernel
theorem dL_trial_22 : decode cL_trial 22 = .ok (.astore 5, 2) := by decide +kernel
theorem dL_trial_24 : decode cL_trial 24 = .ok (.iconst 1, 1) := by decide +kernel
theorem dL_trial_25 : decode cL_trial 25 = .ok (.ireturn, 1) := by decide +kernel
theorem dL_trial_26 : decode cL_trial 26 = .ok (.iconst 0, 1) := by decide +kernel
theorem dL_trial_27 : decode cL_trial 27 = .ok (.ireturn, 1) := by decide +kernel
theorem dL_reason_0 : decode cL_reason 0 = .ok (.aload 5, 2) := by decide +kernel
theorem dL_reason_2 : decode cL_reason 2 = .ok (.iconst 0, 1) := by decide +kernel
theorem dL_reason_3 : decode cL_reason 3 = .ok (.aload_n 0, 1) := by decide +kernel
theorem dL_reason_4 : decode cL_reason 4 = .ok (.iload_n 1, 1) := by decide +kernel
theorem dL_reason_5 : decode cL_reason 5 = .ok (.iload_n 2, 1) := by decide +kernel
theorem dL_reason_6 : decode cL_reason 6 = .ok (.iload_n 3, 1) := by decide +kernel
theorem dL_reason_7 : decode cL_reason 7 = .ok (.iload 4, 2) := by decide +kernel
theorem dL_reason_9 : decode cL_reason 9 = .ok (.invokevirtual 40, 3) := by decide +kernel
theorem dL_reason_12 : decode cL_reason 12 = .ok (.i2l, 1) := by decide +kernel
theorem dL_reason_13 : decode cL_reason 13 = .ok (.lastore, 1) := by decide +kernel
theorem dL_reason_14 : decode cL_reason 14 = .ok (.goto 11, 3) := by decide +kernel
theorem dL_reason_17 : decode cL_reason 17 = .ok (.astore 6, 2) := by decide +kernel
theorem dL_reason_19 : decode cL_reason 19 = .ok (.iconst 1, 1) := by decide +kernel
theorem dL_reason_20 : decode cL_reason 20 = .ok (.ireturn, 1) := by decide +kernel
theorem dL_reason_21 : decode cL_reason 21 = .ok (.astore 6, 2) := by decide +kernel
theorem dL_reason_23 : decode cL_reason 23 = .ok (.iconst 2, 1) := by decide +kernel
theorem dL_reason_24 : decode cL_reason 24 = .ok (.ireturn, 1) := by decide +kernel
theorem dL_reason_25 : decode cL_reason 25 = .ok (.iconst 0, 1) := by decide +kernel
theorem dL_reason_26 : decode cL_reason 26 = .ok (.ireturn, 1) := by decide +kernel
theorem dL_done_0 : decode cL_done 0 = .ok (.aload 6, 2) := by decide +kernel
theorem dL_done_2 : decode cL_done 2 = .ok (.iconst 0, 1) := by decide +kernel
theorem dL_done_3 : decode cL_done 3 = .ok (.aload_n 0, 1) := by decide +kernel
theorem dL_done_4 : decode cL_done 4 = .ok (.iload_n 1, 1) := by decide +kernel
theorem dL_done_5 : decode cL_done 5 = .ok (.iload_n 2, 1) := by decide +kernel
theorem dL_done_6 : decode cL_done 6 = .ok (.iload_n 3, 1) := by decide +kernel
theorem dL_done_7 : decode cL_done 7 = .ok (.iload 4, 2) := by decide +kernel
theorem dL_done_9 : decode cL_done 9 = .ok (.iload 5, 2) := by decide +kernel
theorem dL_done_11 : decode cL_done 11 = .ok (.invokevirtual 44, 3) := by decide +kernel
theorem dL_done_14 : decode cL_done 14 = .ok (.i2l, 1) := by decide +kernel
theorem dL_done_15 : decode cL_done 15 = .ok (.lastore, 1) := by decide +kernel
theorem dL_done_16 : decode cL_done 16 = .ok (.goto 15, 3) := by decide +kernel
theorem dL_done_19 : decode cL_done 19 = .ok (.astore 7, 2) := by decide +kernel
theorem dL_done_21 : decode cL_done 21 = .ok (.iconst 1, 1) := by decide +kernel
theorem dL_done_22 : decode cL_done 22 = .ok (.ireturn, 1) := by decide +kernel
theorem dL_done_23 : decode cL_done 23 = .ok (.astore 7, 2) := by decide +kernel
theorem dL_done_25 : decode cL_done 25 = .ok (.iconst 2, 1) := by decide +kernel
theorem dL_done_26 : decode cL_done 26 = .ok (.ireturn, 1) := by decide +kernel
theorem dL_done_27 : decode cL_done 27 = .ok (.astore 7, 2) := by decide +kernel
theorem dL_done_29 : decode cL_done 29 = .ok (.iconst 3, 1) := by decide +kernel
theorem dL_done_30 : decode cL_done 30 = .ok (.ireturn, 1) := by decide +kernel
theorem dL_done_31 : decode cL_done 31 = .ok (.iconst 0, 1) := by decide +kernel
theorem dL_done_32 : decode cL_done 32 = .ok (.ireturn, 1) := by decide +kernel
theorem dL_row_0 : decode cL_row 0 = .ok (.aload 4, 2) := by decide +kernel
theorem dL_row_2 : decode cL_row 2 = .ok (.iconst 0, 1) := by decide +kernel
theorem dL_row_3 : decode cL_row 3 = .ok (.aload_n 0, 1) := by decide +kernel
theorem dL_row_4 : decode cL_row 4 = .ok (.iload_n 1, 1) := by decide +kernel
theorem dL_row_5 : decode cL_row 5 = .ok (.iload_n 2, 1) := by decide +kernel
theorem dL_row_6 : decode cL_row 6 = .ok (.iload_n 3, 1) := by decide +kernel
theorem dL_row_7 : decode cL_row 7 = .ok (.invokevirtual 48, 3) := by decide +kernel
theorem dL_row_10 : decode cL_row 10 = .ok (.i2l, 1) := by decide +kernel
theorem dL_row_11 : decode cL_row 11 = .ok (.lastore, 1) := by decide +kernel
theorem dL_row_12 : decode cL_row 12 = .ok (.goto 7, 3) := by decide +kernel
theorem dL_row_15 : decode cL_row 15 = .ok (.astore 5, 2) := by decide +kernel
theorem dL_row_17 : decode cL_row 17 = .ok (.iconst 1, 1) := by decide +kernel
theorem dL_row_18 : decode cL_row 18 = .ok (.ireturn, 1) := by decide +kernel
theorem dL_row_19 : decode cL_row 19 = .ok (.iconst 0, 1) := by decide +kernel
theorem dL_row_20 : decode cL_row 20 = .ok (.ireturn, 1) := by decide +kernel
theorem dL_stock_0 : decode cL_stock 0 = .ok (.aload_n 3, 1) := by decide +kernel
theorem dL_stock_1 : decode cL_stock 1 = .ok (.iconst 0, 1) := by decide +kernel
theorem dL_stock_2 : decode cL_stock 2 = .ok (.aload_n 0, 1) := by decide +kernel
theorem dL_stock_3 : decode cL_stock 3 = .ok (.iload_n 1, 1) := by decide +kernel
theorem dL_stock_4 : decode cL_stock 4 = .ok (.iload_n 2, 1) := by decide +kernel
theorem dL_stock_5 : decode cL_stock 5 = .ok (.invokevirtual 52, 3) := by decide +kernel
theorem dL_stock_8 : decode cL_stock 8 = .ok (.i2l, 1) := by decide +kernel
theorem dL_stock_9 : decode cL_stock 9 = .ok (.lastore, 1) := by decide +kernel
theorem dL_stock_10 : decode cL_stock 10 = .ok (.goto 11, 3) := by decide +kernel
theorem dL_stock_13 : decode cL_stock 13 = .ok (.astore 4, 2) := by decide +kernel
theorem dL_stock_15 : decode cL_stock 15 = .ok (.iconst 1, 1) := by decide +kernel
theorem dL_stock_16 : decode cL_stock 16 = .ok (.ireturn, 1) := by decide +kernel
theorem dL_stock_17 : decode cL_stock 17 = .ok (.astore 4, 2) := by decide +kernel
theorem dL_stock_19 : decode cL_stock 19 = .ok (.iconst 2, 1) := by decide +kernel
theorem dL_stock_20 : decode cL_stock 20 = .ok (.ireturn, 1) := by decide +kernel
theorem dL_stock_21 : decode cL_stock 21 = .ok (.iconst 0, 1) := by decide +kernel
theorem dL_stock_22 : decode cL_stock 22 = .ok (.ireturn, 1) := by decide +kernel
theorem dL_about_0 : decode cL_about 0 = .ok (.aload_n 3, 1) := by decide +kernel
theorem dL_about_1 : decode cL_about 1 = .ok (.iconst 0, 1) := by decide +kernel
theorem dL_about_2 : decode cL_about 2 = .ok (.aload_n 0, 1) := by decide +kernel
theorem dL_about_3 : decode cL_about 3 = .ok (.iload_n 1, 1) := by decide +kernel
theorem dL_about_4 : decode cL_about 4 = .ok (.iload_n 2, 1) := by decide +kernel
theorem dL_about_5 : decode cL_about 5 = .ok (.invokevirtual 55, 3) := by decide +kernel
theorem dL_about_8 : decode cL_about 8 = .ok (.lastore, 1) := by decide +kernel
theorem dL_about_9 : decode cL_about 9 = .ok (.goto 7, 3) := by decide +kernel
theorem dL_about_12 : decode cL_about 12 = .ok (.astore 4, 2) := by decide +kernel
theorem dL_about_14 : decode cL_about 14 = .ok (.iconst 1, 1) := by decide +kernel
theorem dL_about_15 : decode cL_about 15 = .ok (.ireturn, 1) := by decide +kernel
theorem dL_about_16 : decode cL_about 16 = .ok (.iconst 0, 1) := by decide +kernel
theorem dL_about_17 : decode cL_about 17 = .ok (.ireturn, 1) := by decide +kernel
theorem dL_apart_0 : decode cL_apart 0 = .ok (.aload_n 3, 1) := by decide +kernel
theorem dL_apart_1 : decode cL_apart 1 = .ok (.iconst 0, 1) := by decide +kernel
theorem dL_apart_2 : decode cL_apart 2 = .ok (.aload_n 0, 1) := by decide +kernel
theorem dL_apart_3 : decode cL_apart 3 = .ok (.iload_n 1, 1) := by decide +kernel
theorem dL_apart_4 : decode cL_apart 4 = .ok (.iload_n 2, 1) := by decide +kernel
theorem dL_apart_5 : decode cL_apart 5 = .ok (.invokevirtual 59, 3) := by decide +kernel
theorem dL_apart_8 : decode cL_apart 8 = .ok (.ifCond .eq 7, 3) := by decide +kernel
theorem dL_apart_11 : decode cL_apart 11 = .ok (.lconst 1, 1) := by decide +kernel
theorem dL_apart_12 : decode cL_apart 12 = .ok (.goto 4, 3) := by decide +kernel
theorem dL_apart_15 : decode cL_apart 15 = .ok (.lconst 0, 1) := by decide +kernel
theorem dL_apart_16 : decode cL_apart 16 = .ok (.lastore, 1) := by decide +kernel
theorem dL_apart_17 : decode cL_apart 17 = .ok (.goto 7, 3) := by decide +kernel
theorem dL_apart_20 : decode cL_apart 20 = .ok (.astore 4, 2) := by decide +kernel
theorem dL_apart_22 : decode cL_apart 22 = .ok (.iconst 1, 1) := by decide +kernel
theorem dL_apart_23 : decode cL_apart 23 = .ok (.ireturn, 1) := by decide +kernel
theorem dL_apart_24 : decode cL_apart 24 = .ok (.iconst 0, 1) := by decide +kernel
theorem dL_apart_25 : decode cL_apart 25 = .ok (.ireturn, 1) := by decide +kernel
theorem dL_put_0 : decode cL_put 0 = .ok (.aload_n 3, 1) := by decide +kernel
theorem dL_put_1 : decode cL_put 1 = .ok (.iconst 0, 1) := by decide +kernel
theorem dL_put_2 : decode cL_put 2 = .ok (.aload_n 0, 1) := by decide +kernel
theorem dL_put_3 : decode cL_put 3 = .ok (.iload_n 1, 1) := by decide +kernel
theorem dL_put_4 : decode cL_put 4 = .ok (.iload_n 2, 1) := by decide +kernel
theorem dL_put_5 : decode cL_put 5 = .ok (.invokevirtual 63, 3) := by decide +kernel
theorem dL_put_8 : decode cL_put 8 = .ok (.i2l, 1) := by decide +kernel
theorem dL_put_9 : decode cL_put 9 = .ok (.lastore, 1) := by decide +kernel
theorem dL_put_10 : decode cL_put 10 = .ok (.goto 7, 3) := by decide +kernel
theorem dL_put_13 : decode cL_put 13 = .ok (.astore 4, 2) := by decide +kernel
theorem dL_put_15 : decode cL_put 15 = .ok (.iconst 1, 1) := by decide +kernel
theorem dL_put_16 : decode cL_put 16 = .ok (.ireturn, 1) := by decide +kernel
theorem dL_put_17 : decode cL_put 17 = .ok (.iconst 0, 1) := by decide +kernel
theorem dL_put_18 : decode cL_put 18 = .ok (.ireturn, 1) := by decide +kernel
theorem dL_plan_0 : decode cL_plan 0 = .ok (.aload_n 3, 1) := by decide +kernel
theorem dL_plan_1 : decode cL_plan 1 = .ok (.iconst 0, 1) := by decide +kernel
theorem dL_plan_2 : decode cL_plan 2 = .ok (.aload_n 0, 1) := by decide +kernel
theorem dL_plan_3 : decode cL_plan 3 = .ok (.iload_n 1, 1) := by decide +kernel
theorem dL_plan_4 : decode cL_plan 4 = .ok (.iload_n 2, 1) := by decide +kernel
theorem dL_plan_5 : decode cL_plan 5 = .ok (.invokevirtual 66, 3) := by decide +kernel
theorem dL_plan_8 : decode cL_plan 8 = .ok (.i2l, 1) := by decide +kernel
theorem dL_plan_9 : decode cL_plan 9 = .ok (.lastore, 1) := by decide +kernel
theorem dL_plan_10 : decode cL_plan 10 = .ok (.goto 7, 3) := by decide +kernel
theorem dL_plan_13 : decode cL_plan 13 = .ok (.astore 4, 2) := by decide +kernel
theorem dL_plan_15 : decode cL_plan 15 = .ok (.iconst 1, 1) := by decide +kernel
theorem dL_plan_16 : decode cL_plan 16 = .ok (.ireturn, 1) := by decide +kernel
theorem dL_plan_17 : decode cL_plan 17 = .ok (.iconst 0, 1) := by decide +kernel
theorem dL_plan_18 : decode cL_plan 18 = .ok (.ireturn, 1) := by decide +kernel
theorem dL_step_0 : decode cL_step 0 = .ok (.aload_n 2, 1) := by decide +kernel
theorem dL_step_1 : decode cL_step 1 = .ok (.iconst 0, 1) := by decide +kernel
theorem dL_step_2 : decode cL_step 2 = .ok (.aload_n 0, 1) := by decide +kernel
theorem dL_step_3 : decode cL_step 3 = .ok (.iload_n 1, 1) := by decide +kernel
theorem dL_step_4 : decode cL_step 4 = .ok (.invokevirtual 69, 3) := by decide +kernel
theorem dL_step_7 : decode cL_step 7 = .ok (.i2l, 1) := by decide +kernel
theorem dL_step_8 : decode cL_step 8 = .ok (.lastore, 1) := by decide +kernel
theorem dL_step_9 : decode cL_step 9 = .ok (.goto 6, 3) := by decide +kernel
theorem dL_step_12 : decode cL_step 12 = .ok (.astore_n 3, 1) := by decide +kernel
theorem dL_step_13 : decode cL_step 13 = .ok (.iconst 1, 1) := by decide +kernel
theorem dL_step_14 : decode cL_step 14 = .ok (.ireturn, 1) := by decide +kernel
theorem dL_step_15 : decode cL_step 15 = .ok (.iconst 0, 1) := by decide +kernel
theorem dL_step_16 : decode cL_step 16 = .ok (.ireturn, 1) := by decide +kernel
theorem dL_count_0 : decode cL_count 0 = .ok (.aload_n 2, 1) := by decide +kernel
theorem dL_count_1 : decode cL_count 1 = .ok (.iconst 0, 1) := by decide +kernel
theorem dL_count_2 : decode cL_count 2 = .ok (.aload_n 0, 1) := by decide +kernel
theorem dL_count_3 : decode cL_count 3 = .ok (.iload_n 1, 1) := by decide +kernel
theorem dL_count_4 : decode cL_count 4 = .ok (.invokevirtual 72, 3) := by decide +kernel
theorem dL_count_7 : decode cL_count 7 = .ok (.i2l, 1) := by decide +kernel
theorem dL_count_8 : decode cL_count 8 = .ok (.lastore, 1) := by decide +kernel
theorem dL_count_9 : decode cL_count 9 = .ok (.goto 6, 3) := by decide +kernel
theorem dL_count_12 : decode cL_count 12 = .ok (.astore_n 3, 1) := by decide +kernel
theorem dL_count_13 : decode cL_count 13 = .ok (.iconst 1, 1) := by decide +kernel
theorem dL_count_14 : decode cL_count 14 = .ok (.ireturn, 1) := by decide +kernel
theorem dL_count_15 : decode cL_count 15 = .ok (.iconst 0, 1) := by decide +kernel
theorem dL_count_16 : decode cL_count 16 = .ok (.ireturn, 1) := by decide +kernel
