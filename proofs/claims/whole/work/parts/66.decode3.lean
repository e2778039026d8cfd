/-! the law: what its bytes say -/
theorem d_Lw_machine_0 : decode b_Lw_machine 0 = .ok (.aload 4, 2) := by decide +kernel
theorem d_Lw_machine_2 : decode b_Lw_machine 2 = .ok (.iconst 0, 1) := by decide +kernel
theorem d_Lw_machine_3 : decode b_Lw_machine 3 = .ok (.aload_n 0, 1) := by decide +kernel
theorem d_Lw_machine_4 : decode b_Lw_machine 4 = .ok (.iload_n 1, 1) := by decide +kernel
theorem d_Lw_machine_5 : decode b_Lw_machine 5 = .ok (.iload_n 2, 1) := by decide +kernel
theorem d_Lw_machine_6 : decode b_Lw_machine 6 = .ok (.iload_n 3, 1) := by decide +kernel
theorem d_Lw_machine_7 : decode b_Lw_machine 7 = .ok (.invokevirtual 7, 3) := by decide +kernel
theorem d_Lw_machine_10 : decode b_Lw_machine 10 = .ok (.i2l, 1) := by decide +kernel
theorem d_Lw_machine_11 : decode b_Lw_machine 11 = .ok (.lastore, 1) := by decide +kernel
theorem d_Lw_machine_12 : decode b_Lw_machine 12 = .ok (.goto 11, 3) := by decide +kernel
theorem d_Lw_machine_15 : decode b_Lw_machine 15 = .ok (.astore 5, 2) := by decide +kernel
theorem d_Lw_machine_17 : decode b_Lw_machine 17 = .ok (.iconst 1, 1) := by decide +kernel
theorem d_Lw_machine_18 : decode b_Lw_machine 18 = .ok (.ireturn, 1) := by decide +kernel
theorem d_Lw_machine_19 : decode b_Lw_machine 19 = .ok (.astore 5, 2) := by decide +kernel
theorem d_Lw_machine_21 : decode b_Lw_machine 21 = .ok (.iconst 2, 1) := by decide +kernel
theorem d_Lw_machine_22 : decode b_Lw_machine 22 = .ok (.ireturn, 1) := by decide +kernel
theorem d_Lw_machine_23 : decode b_Lw_machine 23 = .ok (.iconst 0, 1) := by decide +kernel
theorem d_Lw_machine_24 : decode b_Lw_machine 24 = .ok (.ireturn, 1) := by decide +kernel
theorem d_Lw_row_0 : decode b_Lw_row 0 = .ok (.aload 5, 2) := by decide +kernel
theorem d_Lw_row_2 : decode b_Lw_row 2 = .ok (.iconst 0, 1) := by decide +kernel
theorem d_Lw_row_3 : decode b_Lw_row 3 = .ok (.aload_n 0, 1) := by decide +kernel
theorem d_Lw_row_4 : decode b_Lw_row 4 = .ok (.iload_n 1, 1) := by decide +kernel
theorem d_Lw_row_5 : decode b_Lw_row 5 = .ok (.iload_n 2, 1) := by decide +kernel
theorem d_Lw_row_6 : decode b_Lw_row 6 = .ok (.iload_n 3, 1) := by decide +kernel
theorem d_Lw_row_7 : decode b_Lw_row 7 = .ok (.iload 4, 2) := by decide +kernel
theorem d_Lw_row_9 : decode b_Lw_row 9 = .ok (.invokevirtual 17, 3) := by decide +kernel
theorem d_Lw_row_12 : decode b_Lw_row 12 = .ok (.i2l, 1) := by decide +kernel
theorem d_Lw_row_13 : decode b_Lw_row 13 = .ok (.lastore, 1) := by decide +kernel
theorem d_Lw_row_14 : decode b_Lw_row 14 = .ok (.goto 11, 3) := by decide +kernel
theorem d_Lw_row_17 : decode b_Lw_row 17 = .ok (.astore 6, 2) := by decide +kernel
theorem d_Lw_row_19 : decode b_Lw_row 19 = .ok (.iconst 1, 1) := by decide +kernel
theorem d_Lw_row_20 : decode b_Lw_row 20 = .ok (.ireturn, 1) := by decide +kernel
theorem d_Lw_row_21 : decode b_Lw_row 21 = .ok (.astore 6, 2) := by decide +kernel
theorem d_Lw_row_23 : decode b_Lw_row 23 = .ok (.iconst 2, 1) := by decide +kernel
theorem d_Lw_row_24 : decode b_Lw_row 24 = .ok (.ireturn, 1) := by decide +kernel
theorem d_Lw_row_25 : decode b_Lw_row 25 = .ok (.iconst 0, 1) := by decide +kernel
theorem d_Lw_row_26 : decode b_Lw_row 26 = .ok (.ireturn, 1) := by decide +kernel
theorem d_Lw_hour_0 : decode b_Lw_hour 0 = .ok (.aload 4, 2) := by decide +kernel
theorem d_Lw_hour_2 : decode b_Lw_hour 2 = .ok (.iconst 0, 1) := by decide +kernel
theorem d_Lw_hour_3 : decode b_Lw_hour 3 = .ok (.aload_n 0, 1) := by decide +kernel
theorem d_Lw_hour_4 : decode b_Lw_hour 4 = .ok (.iload_n 1, 1) := by decide +kernel
theorem d_Lw_hour_5 : decode b_Lw_hour 5 = .ok (.iload_n 2, 1) := by decide +kernel
theorem d_Lw_hour_6 : decode b_Lw_hour 6 = .ok (.iload_n 3, 1) := by decide +kernel
theorem d_Lw_hour_7 : decode b_Lw_hour 7 = .ok (.invokevirtual 21, 3) := by decide +kernel
theorem d_Lw_hour_10 : decode b_Lw_hour 10 = .ok (.i2l, 1) := by decide +kernel
theorem d_Lw_hour_11 : decode b_Lw_hour 11 = .ok (.lastore, 1) := by decide +kernel
theorem d_Lw_hour_12 : decode b_Lw_hour 12 = .ok (.goto 11, 3) := by decide +kernel
theorem d_Lw_hour_15 : decode b_Lw_hour 15 = .ok (.astore 5, 2) := by decide +kernel
theorem d_Lw_hour_17 : decode b_Lw_hour 17 = .ok (.iconst 1, 1) := by decide +kernel
theorem d_Lw_hour_18 : decode b_Lw_hour 18 = .ok (.ireturn, 1) := by decide +kernel
theorem d_Lw_hour_19 : decode b_Lw_hour 19 = .ok (.astore 5, 2) := by decide +kernel
theorem d_Lw_hour_21 : decode b_Lw_hour 21 = .ok (.iconst 2, 1) := by decide +kernel
theorem d_Lw_hour_22 : decode b_Lw_hour 22 = .ok (.ireturn, 1) := by decide +kernel
theorem d_Lw_hour_23 : decode b_Lw_hour 23 = .ok (.iconst 0, 1) := by decide +kernel
theorem d_Lw_hour_24 : decode b_Lw_hour 24 = .ok (.ireturn, 1) := by decide +kernel
theorem d_Lw_out_0 : decode b_Lw_out 0 = .ok (.aload 4, 2) := by decide +kernel
theorem d_Lw_out_2 : decode b_Lw_out 2 = .ok (.iconst 0, 1) := by decide +kernel
theorem d_Lw_out_3 : decode b_Lw_out 3 = .ok (.aload_n 0, 1) := by decide +kernel
theorem d_Lw_out_4 : decode b_Lw_out 4 = .ok (.iload_n 1, 1) := by decide +kernel
theorem d_Lw_out_5 : decode b_Lw_out 5 = .ok (.iload_n 2, 1) := by decide +kernel
theorem d_Lw_out_6 : decode b_Lw_out 6 = .ok (.iload_n 3, 1) := by decide +kernel
theorem d_Lw_out_7 : decode b_Lw_out 7 = .ok (.invokevirtual 24, 3) := by decide +kernel
theorem d_Lw_out_10 : decode b_Lw_out 10 = .ok (.ifCond .eq 7, 3) := by decide +kernel
theorem d_Lw_out_13 : decode b_Lw_out 13 = .ok (.lconst 1, 1) := by decide +kernel
theorem d_Lw_out_14 : decode b_Lw_out 14 = .ok (.goto 4, 3) := by decide +kernel
theorem d_Lw_out_17 : decode b_Lw_out 17 = .ok (.lconst 0, 1) := by decide +kernel
theorem d_Lw_out_18 : decode b_Lw_out 18 = .ok (.lastore, 1) := by decide +kernel
theorem d_Lw_out_19 : decode b_Lw_out 19 = .ok (.goto 11, 3) := by decide +kernel
theorem d_Lw_out_22 : decode b_Lw_out 22 = .ok (.astore 5, 2) := by decide +kernel
theorem d_Lw_out_24 : decode b_Lw_out 24 = .ok (.iconst 1, 1) := by decide +kernel
theorem d_Lw_out_25 : decode b_Lw_out 25 = .ok (.ireturn, 1) := by decide +kernel
theorem d_Lw_out_26 : decode b_Lw_out 26 = .ok (.astore 5, 2) := by decide +kernel
theorem d_Lw_out_28 : decode b_Lw_out 28 = .ok (.iconst 2, 1) := by decide +kernel
theorem d_Lw_out_29 : decode b_Lw_out 29 = .ok (.ireturn, 1) := by decide +kernel
theorem d_Lw_out_30 : decode b_Lw_out 30 = .ok (.iconst 0, 1) := by decide +kernel
theorem d_Lw_out_31 : decode b_Lw_out 31 = .ok (.ireturn, 1) := by decide +kernel
theorem d_Lw_gives_0 : decode b_Lw_gives 0 = .ok (.aload 4, 2) := by decide +kernel
theorem d_Lw_gives_2 : decode b_Lw_gives 2 = .ok (.iconst 0, 1) := by decide +kernel
theorem d_Lw_gives_3 : decode b_Lw_gives 3 = .ok (.aload_n 0, 1) := by decide +kernel
theorem d_Lw_gives_4 : decode b_Lw_gives 4 = .ok (.iload_n 1, 1) := by decide +kernel
theorem d_Lw_gives_5 : decode b_Lw_gives 5 = .ok (.iload_n 2, 1) := by decide +kernel
theorem d_Lw_gives_6 : decode b_Lw_gives 6 = .ok (.iload_n 3, 1) := by decide +kernel
theorem d_Lw_gives_7 : decode b_Lw_gives 7 = .ok (.invokevirtual 28, 3) := by decide +kernel
theorem d_Lw_gives_10 : decode b_Lw_gives 10 = .ok (.i2l, 1) := by decide +kernel
theorem d_Lw_gives_11 : decode b_Lw_gives 11 = .ok (.lastore, 1) := by decide +kernel
theorem d_Lw_gives_12 : decode b_Lw_gives 12 = .ok (.goto 7, 3) := by decide +kernel
theorem d_Lw_gives_15 : decode b_Lw_gives 15 = .ok (.astore 5, 2) := by decide +kernel
theorem d_Lw_gives_17 : decode b_Lw_gives 17 = .ok (.iconst 1, 1) := by decide +kernel
theorem d_Lw_gives_18 : decode b_Lw_gives 18 = .ok (.ireturn, 1) := by decide +kernel
theorem d_Lw_gives_19 : decode b_Lw_gives 19 = .ok (.iconst 0, 1) := by decide +kernel
theorem d_Lw_gives_20 : decode b_Lw_gives 20 = .ok (.ireturn, 1) := by decide +kernel
theorem d_Lw_planned_0 : decode b_Lw_planned 0 = .ok (.aload_n 2, 1) := by decide +kernel
theorem d_Lw_planned_1 : decode b_Lw_planned 1 = .ok (.iconst 0, 1) := by decide +kernel
theorem d_Lw_planned_2 : decode b_Lw_planned 2 = .ok (.aload_n 0, 1) := by decide +kernel
theorem d_Lw_planned_3 : decode b_Lw_planned 3 = .ok (.iload_n 1, 1) := by decide +kernel
theorem d_Lw_planned_4 : decode b_Lw_planned 4 = .ok (.invokevirtual 31, 3) := by decide +kernel
theorem d_Lw_planned_7 : decode b_Lw_planned 7 = .ok (.i2l, 1) := by decide +kernel
theorem d_Lw_planned_8 : decode b_Lw_planned 8 = .ok (.lastore, 1) := by decide +kernel
theorem d_Lw_planned_9 : decode b_Lw_planned 9 = .ok (.goto 6, 3) := by decide +kernel
theorem d_Lw_planned_12 : decode b_Lw_planned 12 = .ok (.astore_n 3, 1) := by decide +kernel
theorem d_Lw_planned_13 : decode b_Lw_planned 13 = .ok (.iconst 1, 1) := by decide +kernel
theorem d_Lw_planned_14 : decode b_Lw_planned 14 = .ok (.ireturn, 1) := by decide +kernel
theorem d_Lw_planned_15 : decode b_Lw_planned 15 = .ok (.iconst 0, 1) := by decide +kernel
theorem d_Lw_planned_16 : decode b_Lw_planned 16 = .ok (.ireturn, 1) := by decide +kernel
theorem d_Lw_starts_0 : decode b_Lw_starts 0 = .ok (.aload_n 2, 1) := by decide +kernel
theorem d_Lw_starts_1 : decode b_Lw_starts 1 = .ok (.iconst 0, 1) := by decide +kernel
theorem d_Lw_starts_2 : decode b_Lw_starts 2 = .ok (.aload_n 0, 1) := by decide +kernel
theorem d_Lw_starts_3 : decode b_Lw_starts 3 = .ok (.iload_n 1, 1) := by decide +kernel
theorem d_Lw_starts_4 : decode b_Lw_starts 4 = .ok (.invokevirtual 35, 3) := by decide +kernel
theorem d_Lw_starts_7 : decode b_Lw_starts 7 = .ok (.i2l, 1) := by decide +kernel
theorem d_Lw_starts_8 : decode b_Lw_starts 8 = .ok (.lastore, 1) := by decide +kernel
theorem d_Lw_starts_9 : decode b_Lw_starts 9 = .ok (.goto 6, 3) := by decide +kernel
theorem d_Lw_starts_12 : decode b_Lw_starts 12 = .ok (.astore_n 3, 1) := by decide +kernel
theorem d_Lw_starts_13 : decode b_Lw_starts 13 = .ok (.iconst 1, 1) := by decide +kernel
theorem d_Lw_starts_14 : decode b_Lw_starts 14 = .ok (.ireturn, 1) := by decide +kernel
theorem d_Lw_starts_15 : decode b_Lw_starts 15 = .ok (.iconst 0, 1) := by decide +kernel
theorem d_Lw_starts_16 : decode b_Lw_starts 16 = .ok (.ireturn, 1) := by decide +kernel
theorem d_Lw_run_0 : decode b_Lw_run 0 = .ok (.aload_n 2, 1) := by decide +kernel
theorem d_Lw_run_1 : decode b_Lw_run 1 = .ok (.iconst 0, 1) := by decide +kernel
theorem d_Lw_run_2 : decode b_Lw_run 2 = .ok (.aload_n 0, 1) := by decide +kernel
theorem d_Lw_run_3 : decode b_Lw_run 3 = .ok (.iload_n 1, 1) := by decide +kernel
theorem d_Lw_run_4 : decode b_Lw_run 4 = .ok (.invokevirtual 38, 3) := by decide +kernel
theorem d_Lw_run_7 : decode b_Lw_run 7 = .ok (.i2l, 1) := by decide +kernel
theorem d_Lw_run_8 : decode b_Lw_run 8 = .ok (.lastore, 1) := by decide +kernel
theorem d_Lw_run_9 : decode b_Lw_run 9 = .ok (.goto 6, 3) := by decide +kernel
theorem d_Lw_run_12 : decode b_Lw_run 12 = .ok (.astore_n 3, 1) := by decide +kernel
theorem d_Lw_run_13 : decode b_Lw_run 13 = .ok (.iconst 1, 1) := by decide +kernel
theorem d_Lw_run_14 : decode b_Lw_run 14 = .ok (.ireturn, 1) := by decide +kernel
theorem d_Lw_run_15 : decode b_Lw_run 15 = .ok (.iconst 0, 1) := by decide +kernel
theorem d_Lw_run_16 : decode b_Lw_run 16 = .ok (.ireturn, 1) := by decide +kernel
theorem d_Lw_ran_0 : decode b_Lw_ran 0 = .ok (.aload_n 2, 1) := by decide +kernel
theorem d_Lw_ran_1 : decode b_Lw_ran 1 = .ok (.iconst 0, 1) := by decide +kernel
theorem d_Lw_ran_2 : decode b_Lw_ran 2 = .ok (.aload_n 0, 1) := by decide +kernel
theorem d_Lw_ran_3 : decode b_Lw_ran 3 = .ok (.iload_n 1, 1) := by decide +kernel
theorem d_Lw_ran_4 : decode b_Lw_ran 4 = .ok (.invokevirtual 41, 3) := by decide +kernel
theorem d_Lw_ran_7 : decode b_Lw_ran 7 = .ok (.i2l, 1) := by decide +kernel
theorem d_Lw_ran_8 : decode b_Lw_ran 8 = .ok (.lastore, 1) := by decide +kernel
theorem d_Lw_ran_9 : decode b_Lw_ran 9 = .ok (.goto 6, 3) := by decide +kernel
theorem d_Lw_ran_12 : decode b_Lw_ran 12 = .ok (.astore_n 3, 1) := by decide +kernel
theorem d_Lw_ran_13 : decode b_Lw_ran 13 = .ok (.iconst 1, 1) := by decide +kernel
theorem d_Lw_ran_14 : decode b_Lw_ran 14 = .ok (.ireturn, 1) := by decide +kernel
theorem d_Lw_ran_15 : decode b_Lw_ran 15 = .ok (.iconst 0, 1) := by decide +kernel
theorem d_Lw_ran_16 : decode b_Lw_ran 16 = .ok (.ireturn, 1) := by decide +kernel
theorem d_Lw_told_0 : decode b_Lw_told 0 = .ok (.aload_n 2, 1) := by decide +kernel
theorem d_Lw_told_1 : decode b_Lw_told 1 = .ok (.iconst 0, 1) := by decide +kernel
theorem d_Lw_told_2 : decode b_Lw_told 2 = .ok (.aload_n 0, 1) := by decide +kernel
theorem d_Lw_told_3 : decode b_Lw_told 3 = .ok (.iload_n 1, 1) := by decide +kernel
theorem d_Lw_told_4 : decode b_Lw_told 4 = .ok (.invokevirtual 44, 3) := by decide +kernel
theorem d_Lw_told_7 : decode b_Lw_told 7 = .ok (.lastore, 1) := by decide +kernel
theorem d_Lw_told_8 : decode b_Lw_told 8 = .ok (.goto 6, 3) := by decide +kernel
theorem d_Lw_told_11 : decode b_Lw_told 11 = .ok (.astore_n 3, 1) := by decide +kernel
theorem d_Lw_told_12 : decode b_Lw_told 12 = .ok (.iconst 1, 1) := by decide +kernel
theorem d_Lw_told_13 : decode b_Lw_told 13 = .ok (.ireturn, 1) := by decide +kernel
theorem d_Lw_told_14 : decode b_Lw_told 14 = .ok (.iconst 0, 1) := by decide +kernel
theorem d_Lw_told_15 : decode b_Lw_told 15 = .ok (.ireturn, 1) := by decide +kernel
theorem d_Lw_corner_0 : decode b_Lw_corner 0 = .ok (.aload_n 3, 1) := by decide +kernel
theorem d_Lw_corner_1 : decode b_Lw_corner 1 = .ok (.iconst 0, 1) := by decide +kernel
theorem d_Lw_corner_2 : decode b_Lw_corner 2 = .ok (.aload_n 0, 1) := by decide +kernel
theorem d_Lw_corner_3 : decode b_Lw_corner 3 = .ok (.iload_n 1, 1) := by decide +kernel
theorem d_Lw_corner_4 : decode b_Lw_corner 4 = .ok (.iload_n 2, 1) := by decide +kernel
theorem d_Lw_corner_5 : decode b_Lw_corner 5 = .ok (.invokevirtual 48, 3) := by decide +kernel
theorem d_Lw_corner_8 : decode b_Lw_corner 8 = .ok (.i2l, 1) := by decide +kernel
theorem d_Lw_corner_9 : decode b_Lw_corner 9 = .ok (.lastore, 1) := by decide +kernel
theorem d_Lw_corner_10 : decode b_Lw_corner 10 = .ok (.goto 11, 3) := by decide +kernel
theorem d_Lw_corner_13 : decode b_Lw_corner 13 = .ok (.astore 4, 2) := by decide +kernel
theorem d_Lw_corner_15 : decode b_Lw_corner 15 = .ok (.iconst 1, 1) := by decide +kernel
theorem d_Lw_corner_16 : decode b_Lw_corner 16 = .ok (.ireturn, 1) := by decide +kernel
theorem d_Lw_corner_17 : decode b_Lw_corner 17 = .ok (.astore 4, 2) := by decide +kernel
theorem d_Lw_corner_19 : decode b_Lw_corner 19 = .ok (.iconst 2, 1) := by decide +kernel
theorem d_Lw_corner_20 : decode b_Lw_corner 20 = .ok (.ireturn, 1) := by decide +kernel
theorem d_Lw_corner_21 : decode b_Lw_corner 21 = .ok (.iconst 0, 1) := by decide +kernel
theorem d_Lw_corner_22 : decode b_Lw_corner 22 = .ok (.ireturn, 1) := by decide +kernel
theorem d_Lw_curve_0 : decode b_Lw_curve 0 = .ok (.aload_n 2, 1) := by decide +kernel
theorem d_Lw_curve_1 : decode b_Lw_curve 1 = .ok (.iconst 0, 1) := by decide +kernel
theorem d_Lw_curve_2 : decode b_Lw_curve 2 = .ok (.aload_n 0, 1) := by decide +kernel
theorem d_Lw_curve_3 : decode b_Lw_curve 3 = .ok (.iload_n 1, 1) := by decide +kernel
theorem d_Lw_curve_4 : decode b_Lw_curve 4 = .ok (.invokevirtual 52, 3) := by decide +kernel
theorem d_Lw_curve_7 : decode b_Lw_curve 7 = .ok (.i2l, 1) := by decide +kernel
theorem d_Lw_curve_8 : decode b_Lw_curve 8 = .ok (.lastore, 1) := by decide +kernel
theorem d_Lw_curve_9 : decode b_Lw_curve 9 = .ok (.goto 6, 3) := by decide +kernel
theorem d_Lw_curve_12 : decode b_Lw_curve 12 = .ok (.astore_n 3, 1) := by decide +kernel
theorem d_Lw_curve_13 : decode b_Lw_curve 13 = .ok (.iconst 1, 1) := by decide +kernel
theorem d_Lw_curve_14 : decode b_Lw_curve 14 = .ok (.ireturn, 1) := by decide +kernel
theorem d_Lw_curve_15 : decode b_Lw_curve 15 = .ok (.iconst 0, 1) := by decide +kernel
theorem d_Lw_curve_16 : decode b_Lw_curve 16 = .ok (.ireturn, 1) := by decide +kernel
theorem d_Lw_ground_0 : decode b_Lw_ground 0 = .ok (.aload_n 2, 1) := by decide +kernel
theorem d_Lw_ground_1 : decode b_Lw_ground 1 = .ok (.iconst 0, 1) := by decide +kernel
theorem d_Lw_ground_2 : decode b_Lw_ground 2 = .ok (.aload_n 0, 1) := by decide +kernel
theorem d_Lw_ground_3 : decode b_Lw_ground 3 = .ok (.iload_n 1, 1) := by decide +kernel
theorem d_Lw_ground_4 : decode b_Lw_ground 4 = .ok (.invokevirtual 55, 3) := by decide +kernel
theorem d_Lw_ground_7 : decode b_Lw_ground 7 = .ok (.i2l, 1) := by decide +kernel
theorem d_Lw_ground_8 : decode b_Lw_ground 8 = .ok (.lastore, 1) := by decide +kernel
theorem d_Lw_ground_9 : decode b_Lw_ground 9 = .ok (.goto 9, 3) := by decide +kernel
theorem d_Lw_ground_12 : decode b_Lw_ground 12 = .ok (.astore_n 3, 1) := by decide +kernel
theorem d_Lw_ground_13 : decode b_Lw_ground 13 = .ok (.iconst 1, 1) := by decide +kernel
theorem d_Lw_ground_14 : decode b_Lw_ground 14 = .ok (.ireturn, 1) := by decide +kernel
theorem d_Lw_ground_15 : decode b_Lw_ground 15 = .ok (.astore_n 3, 1) := by decide +kernel
theorem d_Lw_ground_16 : decode b_Lw_ground 16 = .ok (.iconst 2, 1) := by decide +kernel
theorem d_Lw_ground_17 : decode b_Lw_ground 17 = .ok (.ireturn, 1) := by decide +kernel
theorem d_Lw_ground_18 : decode b_Lw_ground 18 = .ok (.iconst 0, 1) := by decide +kernel
theorem d_Lw_ground_19 : decode b_Lw_ground 19 = .ok (.ireturn, 1) := by decide +kernel
theorem d_Lw_load_0 : decode b_Lw_load 0 = .ok (.aload_n 3, 1) := by decide +kernel
theorem d_Lw_load_1 : decode b_Lw_load 1 = .ok (.iconst 0, 1) := by decide +kernel
theorem d_Lw_load_2 : decode b_Lw_load 2 = .ok (.aload_n 0, 1) := by decide +kernel
theorem d_Lw_load_3 : decode b_Lw_load 3 = .ok (.iload_n 1, 1) := by decide +kernel
theorem d_Lw_load_4 : decode b_Lw_load 4 = .ok (.iload_n 2, 1) := by decide +kernel
theorem d_Lw_load_5 : decode b_Lw_load 5 = .ok (.invokevirtual 58, 3) := by decide +kernel
theorem d_Lw_load_8 : decode b_Lw_load 8 = .ok (.i2l, 1) := by decide +kernel
theorem d_Lw_load_9 : decode b_Lw_load 9 = .ok (.lastore, 1) := by decide +kernel
theorem d_Lw_load_10 : decode b_Lw_load 10 = .ok (.goto 7, 3) := by decide +kernel
theorem d_Lw_load_13 : decode b_Lw_load 13 = .ok (.astore 4, 2) := by decide +kernel
theorem d_Lw_load_15 : decode b_Lw_load 15 = .ok (.iconst 1, 1) := by decide +kernel
theorem d_Lw_load_16 : decode b_Lw_load 16 = .ok (.ireturn, 1) := by decide +kernel
theorem d_Lw_load_17 : decode b_Lw_load 17 = .ok (.iconst 0, 1) := by decide +kernel
theorem d_Lw_load_18 : decode b_Lw_load 18 = .ok (.ireturn, 1) := by decide +kernel
theorem d_Lw_fall_0 : decode b_Lw_fall 0 = .ok (.aload_n 2, 1) := by decide +kernel
theorem d_Lw_fall_1 : decode b_Lw_fall 1 = .ok (.iconst 0, 1) := by decide +kernel
theorem d_Lw_fall_2 : decode b_Lw_fall 2 = .ok (.aload_n 0, 1) := by decide +kernel
theorem d_Lw_fall_3 : decode b_Lw_fall 3 = .ok (.iload_n 1, 1) := by decide +kernel
theorem d_Lw_fall_4 : decode b_Lw_fall 4 = .ok (.invokevirtual 61, 3) := by decide +kernel
theorem d_Lw_fall_7 : decode b_Lw_fall 7 = .ok (.lastore, 1) := by decide +kernel
theorem d_Lw_fall_8 : decode b_Lw_fall 8 = .ok (.goto 6, 3) := by decide +kernel
theorem d_Lw_fall_11 : decode b_Lw_fall 11 = .ok (.astore_n 3, 1) := by decide +kernel
theorem d_Lw_fall_12 : decode b_Lw_fall 12 = .ok (.iconst 1, 1) := by decide +kernel
theorem d_Lw_fall_13 : decode b_Lw_fall 13 = .ok (.ireturn, 1) := by decide +kernel
theorem d_Lw_fall_14 : decode b_Lw_fall 14 = .ok (.iconst 0, 1) := by decide +kernel
theorem d_Lw_fall_15 : decode b_Lw_fall 15 = .ok (.ireturn, 1) := by decide +kernel
