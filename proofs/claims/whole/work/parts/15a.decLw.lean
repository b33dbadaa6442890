theorem dL_table_0 : decode cL_table 0 = .ok (.aload_n 1, 1) := by decide +kernel
theorem dL_table_1 : decode cL_table 1 = .ok (.iconst 0, 1) := by decide +kernel
theorem dL_table_2 : decode cL_table 2 = .ok (.aload_n 0, 1) := by decide +kernel
theorem dL_table_3 : decode cL_table 3 = .ok (.invokevirtual 7, 3) := by decide +kernel
theorem dL_table_6 : decode cL_table 6 = .ok (.i2l, 1) := by decide +kernel
theorem dL_table_7 : decode cL_table 7 = .ok (.lastore, 1) := by decide +kernel
theorem dL_table_8 : decode cL_table 8 = .ok (.goto 9, 3) := by decide +kernel
theorem dL_table_11 : decode cL_table 11 = .ok (.astore_n 2, 1) := by decide +kernel
theorem dL_table_12 : decode cL_table 12 = .ok (.iconst 1, 1) := by decide +kernel
theorem dL_table_13 : decode cL_table 13 = .ok (.ireturn, 1) := by decide +kernel
theorem dL_table_14 : decode cL_table 14 = .ok (.astore_n 2, 1) := by decide +kernel
theorem dL_table_15 : decode cL_table 15 = .ok (.iconst 2, 1) := by decide +kernel
theorem dL_table_16 : decode cL_table 16 = .ok (.ireturn, 1) := by decide +kernel
theorem dL_table_17 : decode cL_table 17 = .ok (.iconst 0, 1) := by decide +kernel
theorem dL_table_18 : decode cL_table 18 = .ok (.ireturn, 1) := by decide +kernel
theorem dL_law_0 : decode cL_law 0 = .ok (.aload_n 1, 1) := by decide +kernel
theorem dL_law_1 : decode cL_law 1 = .ok (.iconst 0, 1) := by decide +kernel
theorem dL_law_2 : decode cL_law 2 = .ok (.aload_n 0, 1) := by decide +kernel
theorem dL_law_3 : decode cL_law 3 = .ok (.invokevirtual 17, 3) := by decide +kernel
theorem dL_law_6 : decode cL_law 6 = .ok (.i2l, 1) := by decide +kernel
theorem dL_law_7 : decode cL_law 7 = .ok (.lastore, 1) := by decide +kernel
theorem dL_law_8 : decode cL_law 8 = .ok (.goto 6, 3) := by decide +kernel
theorem dL_law_11 : decode cL_law 11 = .ok (.astore_n 2, 1) := by decide +kernel
theorem dL_law_12 : decode cL_law 12 = .ok (.iconst 1, 1) := by decide +kernel
theorem dL_law_13 : decode cL_law 13 = .ok (.ireturn, 1) := by decide +kernel
theorem dL_law_14 : decode cL_law 14 = .ok (.iconst 0, 1) := by decide +kernel
theorem dL_law_15 : decode cL_law 15 = .ok (.ireturn, 1) := by decide +kernel
theorem dL_diner_0 : decode cL_diner 0 = .ok (.aload_n 3, 1) := by decide +kernel
theorem dL_diner_1 : decode cL_diner 1 = .ok (.iconst 0, 1) := by decide +kernel
theorem dL_diner_2 : decode cL_diner 2 = .ok (.aload_n 0, 1) := by decide +kernel
theorem dL_diner_3 : decode cL_diner 3 = .ok (.iload_n 1, 1) := by decide +kernel
theorem dL_diner_4 : decode cL_diner 4 = .ok (.iload_n 2, 1) := by decide +kernel
theorem dL_diner_5 : decode cL_diner 5 = .ok (.invokevirtual 20, 3) := by decide +kernel
theorem dL_diner_8 : decode cL_diner 8 = .ok (.i2l, 1) := by decide +kernel
theorem dL_diner_9 : decode cL_diner 9 = .ok (.lastore, 1) := by decide +kernel
theorem dL_diner_10 : decode cL_diner 10 = .ok (.goto 11, 3) := by decide +kernel
theorem dL_diner_13 : decode cL_diner 13 = .ok (.astore 4, 2) := by decide +kernel
theorem dL_diner_15 : decode cL_diner 15 = .ok (.iconst 1, 1) := by decide +kernel
theorem dL_diner_16 : decode cL_diner 16 = .ok (.ireturn, 1) := by decide +kernel
theorem dL_diner_17 : decode cL_diner 17 = .ok (.astore 4, 2) := by decide +kernel
theorem dL_diner_19 : decode cL_diner 19 = .ok (.iconst 2, 1) := by decide +kernel
theorem dL_diner_20 : decode cL_diner 20 = .ok (.ireturn, 1) := by decide +kernel
theorem dL_diner_21 : decode cL_diner 21 = .ok (.iconst 0, 1) := by decide +kernel
theorem dL_diner_22 : decode cL_diner 22 = .ok (.ireturn, 1) := by decide +kernel
theorem dL_has_0 : decode cL_has 0 = .ok (.aload_n 3, 1) := by decide +kernel
theorem dL_has_1 : decode cL_has 1 = .ok (.iconst 0, 1) := by decide +kernel
theorem dL_has_2 : decode cL_has 2 = .ok (.aload_n 0, 1) := by decide +kernel
theorem dL_has_3 : decode cL_has 3 = .ok (.iload_n 1, 1) := by decide +kernel
theorem dL_has_4 : decode cL_has 4 = .ok (.iload_n 2, 1) := by decide +kernel
theorem dL_has_5 : decode cL_has 5 = .ok (.invokevirtual 28, 3) := by decide +kernel
theorem dL_has_8 : decode cL_has 8 = .ok (.i2l, 1) := by decide +kernel
theorem dL_has_9 : decode cL_has 9 = .ok (.lastore, 1) := by decide +kernel
theorem dL_has_10 : decode cL_has 10 = .ok (.goto 7, 3) := by decide +kernel
theorem dL_has_13 : decode cL_has 13 = .ok (.astore 4, 2) := by decide +kernel
theorem dL_has_15 : decode cL_has 15 = .ok (.iconst 1, 1) := by decide +kernel
theorem dL_has_16 : decode cL_has 16 = .ok (.ireturn, 1) := by decide +kernel
theorem dL_has_17 : decode cL_has 17 = .ok (.iconst 0, 1) := by decide +kernel
theorem dL_has_18 : decode cL_has 18 = .ok (.ireturn, 1) := by decide +kernel
theorem dL_cellar_0 : decode cL_cellar 0 = .ok (.aload_n 3, 1) := by decide +kernel
theorem dL_cellar_1 : decode cL_cellar 1 = .ok (.iconst 0, 1) := by decide +kernel
theorem dL_cellar_2 : decode cL_cellar 2 = .ok (.aload_n 0, 1) := by decide +kernel
theorem dL_cellar_3 : decode cL_cellar 3 = .ok (.iload_n 1, 1) := by decide +kernel
theorem dL_cellar_4 : decode cL_cellar 4 = .ok (.iload_n 2, 1) := by decide +kernel
theorem dL_cellar_5 : decode cL_cellar 5 = .ok (.invokevirtual 31, 3) := by decide +kernel
theorem dL_cellar_8 : decode cL_cellar 8 = .ok (.i2l, 1) := by decide +kernel
theorem dL_cellar_9 : decode cL_cellar 9 = .ok (.lastore, 1) := by decide +kernel
theorem dL_cellar_10 : decode cL_cellar 10 = .ok (.goto 11, 3) := by decide +kernel
theorem dL_cellar_13 : decode cL_cellar 13 = .ok (.astore 4, 2) := by decide +kernel
theorem dL_cellar_15 : decode cL_cellar 15 = .ok (.iconst 1, 1) := by decide +kernel
theorem dL_cellar_16 : decode cL_cellar 16 = .ok (.ireturn, 1) := by decide +kernel
theorem dL_cellar_17 : decode cL_cellar 17 = .ok (.astore 4, 2) := by decide +kernel
theorem dL_cellar_19 : decode cL_cellar 19 = .ok (.iconst 2, 1) := by decide +kernel
theorem dL_cellar_20 : decode cL_cellar 20 = .ok (.ireturn, 1) := by decide +kernel
theorem dL_cellar_21 : decode cL_cellar 21 = .ok (.iconst 0, 1) := by decide +kernel
theorem dL_cellar_22 : decode cL_cellar 22 = .ok (.ireturn, 1) := by decide +kernel
theorem dL_seat_0 : decode cL_seat 0 = .ok (.aload_n 2, 1) := by decide +kernel
theorem dL_seat_1 : decode cL_seat 1 = .ok (.iconst 0, 1) := by decide +kernel
theorem dL_seat_2 : decode cL_seat 2 = .ok (.aload_n 0, 1) := by decide +kernel
theorem dL_seat_3 : decode cL_seat 3 = .ok (.iload_n 1, 1) := by decide +kernel
theorem dL_seat_4 : decode cL_seat 4 = .ok (.invokevirtual 34, 3) := by decide +kernel
theorem dL_seat_7 : decode cL_seat 7 = .ok (.i2l, 1) := by decide +kernel
theorem dL_seat_8 : decode cL_seat 8 = .ok (.lastore, 1) := by decide +kernel
theorem dL_seat_9 : decode cL_seat 9 = .ok (.goto 6, 3) := by decide +kernel
theorem dL_seat_12 : decode cL_seat 12 = .ok (.astore_n 3, 1) := by decide +kernel
theorem dL_seat_13 : decode cL_seat 13 = .ok (.iconst 1, 1) := by decide +kernel
theorem dL_seat_14 : decode cL_seat 14 = .ok (.ireturn, 1) := by decide +kernel
theorem dL_seat_15 : decode cL_seat 15 = .ok (.iconst 0, 1) := by decide +kernel
theorem dL_seat_16 : decode cL_seat 16 = .ok (.ireturn, 1) := by decide +kernel
theorem dL_pass_0 : decode cL_pass 0 = .ok (.aload_n 3, 1) := by decide +kernel
theorem dL_pass_1 : decode cL_pass 1 = .ok (.iconst 0, 1) := by decide +kernel
theorem dL_pass_2 : decode cL_pass 2 = .ok (.aload_n 0, 1) := by decide +kernel
theorem dL_pass_3 : decode cL_pass 3 = .ok (.iload_n 1, 1) := by decide +kernel
theorem dL_pass_4 : decode cL_pass 4 = .ok (.iload_n 2, 1) := by decide +kernel
theorem dL_pass_5 : decode cL_pass 5 = .ok (.invokevirtual 38, 3) := by decide +kernel
theorem dL_pass_8 : decode cL_pass 8 = .ok (.i2l, 1) := by decide +kernel
theorem dL_pass_9 : decode cL_pass 9 = .ok (.lastore, 1) := by decide +kernel
theorem dL_pass_10 : decode cL_pass 10 = .ok (.goto 7, 3) := by decide +kernel
theorem dL_pass_13 : decode cL_pass 13 = .ok (.astore 4, 2) := by decide +kernel
theorem dL_pass_15 : decode cL_pass 15 = .ok (.iconst 1, 1) := by decide +kernel
theorem dL_pass_16 : decode cL_pass 16 = .ok (.ireturn, 1) := by decide +kernel
theorem dL_pass_17 : decode cL_pass 17 = .ok (.iconst 0, 1) := by decide +kernel
theorem dL_pass_18 : decode cL_pass 18 = .ok (.ireturn, 1) := by decide +kernel
theorem dL_knock_0 : decode cL_knock 0 = .ok (.aload_n 2, 1) := by decide +kernel
theorem dL_knock_1 : decode cL_knock 1 = .ok (.iconst 0, 1) := by decide +kernel
theorem dL_knock_2 : decode cL_knock 2 = .ok (.aload_n 0, 1) := by decide +kernel
theorem dL_knock_3 : decode cL_knock 3 = .ok (.iload_n 1, 1) := by decide +kernel
theorem dL_knock_4 : decode cL_knock 4 = .ok (.invokevirtual 41, 3) := by decide +kernel
theorem dL_knock_7 : decode cL_knock 7 = .ok (.i2l, 1) := by decide +kernel
theorem dL_knock_8 : decode cL_knock 8 = .ok (.lastore, 1) := by decide +kernel
theorem dL_knock_9 : decode cL_knock 9 = .ok (.goto 6, 3) := by decide +kernel
theorem dL_knock_12 : decode cL_knock 12 = .ok (.astore_n 3, 1) := by decide +kernel
theorem dL_knock_13 : decode cL_knock 13 = .ok (.iconst 1, 1) := by decide +kernel
theorem dL_knock_14 : decode cL_knock 14 = .ok (.ireturn, 1) := by decide +kernel
theorem dL_knock_15 : decode cL_knock 15 = .ok (.iconst 0, 1) := by decide +kernel
theorem dL_knock_16 : decode cL_knock 16 = .ok (.ireturn, 1) := by decide +kernel
theorem dL_fill_0 : decode cL_fill 0 = .ok (.aload_n 3, 1) := by decide +kernel
theorem dL_fill_1 : decode cL_fill 1 = .ok (.iconst 0, 1) := by decide +kernel
theorem dL_fill_2 : decode cL_fill 2 = .ok (.aload_n 0, 1) := by decide +kernel
theorem dL_fill_3 : decode cL_fill 3 = .ok (.iload_n 1, 1) := by decide +kernel
theorem dL_fill_4 : decode cL_fill 4 = .ok (.iload_n 2, 1) := by decide +kernel
theorem dL_fill_5 : decode cL_fill 5 = .ok (.invokevirtual 44, 3) := by decide +kernel
theorem dL_fill_8 : decode cL_fill 8 = .ok (.i2l, 1) := by decide +kernel
theorem dL_fill_9 : decode cL_fill 9 = .ok (.lastore, 1) := by decide +kernel
theorem dL_fill_10 : decode cL_fill 10 = .ok (.goto 11, 3) := by decide +kernel
theorem dL_fill_13 : decode cL_fill 13 = .ok (.astore 4, 2) := by decide +kernel
theorem dL_fill_15 : decode cL_fill 15 = .ok (.iconst 1, 1) := by decide +kernel
theorem dL_fill_16 : decode cL_fill 16 = .ok (.ireturn, 1) := by decide +kernel
theorem dL_fill_17 : decode cL_fill 17 = .ok (.astore 4, 2) := by decide +kernel
theorem dL_fill_19 : decode cL_fill 19 = .ok (.iconst 2, 1) := by decide +kernel
theorem dL_fill_20 : decode cL_fill 20 = .ok (.ireturn, 1) := by decide +kernel
theorem dL_fill_21 : decode cL_fill 21 = .ok (.iconst 0, 1) := by decide +kernel
theorem dL_fill_22 : decode cL_fill 22 = .ok (.ireturn, 1) := by decide +kernel
theorem dL_change_0 : decode cL_change 0 = .ok (.aload_n 3, 1) := by decide +kernel
theorem dL_change_1 : decode cL_change 1 = .ok (.iconst 0, 1) := by decide +kernel
theorem dL_change_2 : decode cL_change 2 = .ok (.aload_n 0, 1) := by decide +kernel
theorem dL_change_3 : decode cL_change 3 = .ok (.iload_n 1, 1) := by decide +kernel
theorem dL_change_4 : decode cL_change 4 = .ok (.iload_n 2, 1) := by decide +kernel
theorem dL_change_5 : decode cL_change 5 = .ok (.invokevirtual 47, 3) := by decide +kernel
theorem dL_change_8 : decode cL_change 8 = .ok (.i2l, 1) := by decide +kernel
theorem dL_change_9 : decode cL_change 9 = .ok (.lastore, 1) := by decide +kernel
theorem dL_change_10 : decode cL_change 10 = .ok (.goto 11, 3) := by decide +kernel
theorem dL_change_13 : decode cL_change 13 = .ok (.astore 4, 2) := by decide +kernel
theorem dL_change_15 : decode cL_change 15 = .ok (.iconst 1, 1) := by decide +kernel
theorem dL_change_16 : decode cL_change 16 = .ok (.ireturn, 1) := by decide +kernel
theorem dL_change_17 : decode cL_change 17 = .ok (.astore 4, 2) := by decide +kernel
theorem dL_change_19 : decode cL_change 19 = .ok (.iconst 2, 1) := by decide +kernel
theorem dL_change_20 : decode cL_change 20 = .ok (.ireturn, 1) := by decide +kernel
theorem dL_change_21 : decode cL_change 21 = .ok (.iconst 0, 1) := by decide +kernel
theorem dL_change_22 : decode cL_change 22 = .ok (.ireturn, 1) := by decide +kernel
theorem dL_diet_0 : decode cL_diet 0 = .ok (.aload_n 3, 1) := by decide +kernel
theorem dL_diet_1 : decode cL_diet 1 = .ok (.iconst 0, 1) := by decide +kernel
theorem dL_diet_2 : decode cL_diet 2 = .ok (.aload_n 0, 1) := by decide +kernel
theorem dL_diet_3 : decode cL_diet 3 = .ok (.iload_n 1, 1) := by decide +kernel
theorem dL_diet_4 : decode cL_diet 4 = .ok (.iload_n 2, 1) := by decide +kernel
theorem dL_diet_5 : decode cL_diet 5 = .ok (.invokevirtual 50, 3) := by decide +kernel
theorem dL_diet_8 : decode cL_diet 8 = .ok (.ifCond .eq 7, 3) := by decide +kernel
theorem dL_diet_11 : decode cL_diet 11 = .ok (.lconst 1, 1) := by decide +kernel
theorem dL_diet_12 : decode cL_diet 12 = .ok (.goto 4, 3) := by decide +kernel
theorem dL_diet_15 : decode cL_diet 15 = .ok (.lconst 0, 1) := by decide +kernel
theorem dL_diet_16 : decode cL_diet 16 = .ok (.lastore, 1) := by decide +kernel
theorem dL_diet_17 : decode cL_diet 17 = .ok (.goto 7, 3) := by decide +kernel
theorem dL_diet_20 : decode cL_diet 20 = .ok (.astore 4, 2) := by decide +kernel
theorem dL_diet_22 : decode cL_diet 22 = .ok (.iconst 1, 1) := by decide +kernel
theorem dL_diet_23 : decode cL_diet 23 = .ok (.ireturn, 1) := by decide +kernel
theorem dL_diet_24 : decode cL_diet 24 = .ok (.iconst 0, 1) := by decide +kernel
theorem dL_diet_25 : decode cL_diet 25 = .ok (.ireturn, 1) := by decide +kernel
theorem dL_sweet_0 : decode cL_sweet 0 = .ok (.aload_n 3, 1) := by decide +kernel
theorem dL_sweet_1 : decode cL_sweet 1 = .ok (.iconst 0, 1) := by decide +kernel
theorem dL_sweet_2 : decode cL_sweet 2 = .ok (.aload_n 0, 1) := by decide +kernel
theorem dL_sweet_3 : decode cL_sweet 3 = .ok (.iload_n 1, 1) := by decide +kernel
theorem dL_sweet_4 : decode cL_sweet 4 = .ok (.iload_n 2, 1) := by decide +kernel
theorem dL_sweet_5 : decode cL_sweet 5 = .ok (.invokevirtual 54, 3) := by decide +kernel
theorem dL_sweet_8 : decode cL_sweet 8 = .ok (.ifCond .eq 7, 3) := by decide +kernel
theorem dL_sweet_11 : decode cL_sweet 11 = .ok (.lconst 1, 1) := by decide +kernel
theorem dL_sweet_12 : decode cL_sweet 12 = .ok (.goto 4, 3) := by decide +kernel
theorem dL_sweet_15 : decode cL_sweet 15 = .ok (.lconst 0, 1) := by decide +kernel
theorem dL_sweet_16 : decode cL_sweet 16 = .ok (.lastore, 1) := by decide +kernel
theorem dL_sweet_17 : decode cL_sweet 17 = .ok (.goto 7, 3) := by decide +kernel
theorem dL_sweet_20 : decode cL_sweet 20 = .ok (.astore 4, 2) := by decide +kernel
theorem dL_sweet_22 : decode cL_sweet 22 = .ok (.iconst 1, 1) := by decide +kernel
theorem dL_sweet_23 : decode cL_sweet 23 = .ok (.ireturn, 1) := by decide +kernel
theorem dL_sweet_24 : decode cL_sweet 24 = .ok (.iconst 0, 1) := by decide +kernel
theorem dL_sweet_25 : decode cL_sweet 25 = .ok (.ireturn, 1) := by decide +kernel
theorem dL_courses_0 : decode cL_courses 0 = .ok (.aload_n 2, 1) := by decide +kernel
theorem dL_courses_1 : decode cL_courses 1 = .ok (.iconst 0, 1) := by decide +kernel
theorem dL_courses_2 : decode cL_courses 2 = .ok (.aload_n 0, 1) := by decide +kernel
theorem dL_courses_3 : decode cL_courses 3 = .ok (.iload_n 1, 1) := by decide +kernel
theorem dL_courses_4 : decode cL_courses 4 = .ok (.invokevirtual 57, 3) := by decide +kernel
theorem dL_courses_7 : decode cL_courses 7 = .ok (.i2l, 1) := by decide +kernel
theorem dL_courses_8 : decode cL_courses 8 = .ok (.lastore, 1) := by decide +kernel
theorem dL_courses_9 : decode cL_courses 9 = .ok (.goto 6, 3) := by decide +kernel
theorem dL_courses_12 : decode cL_courses 12 = .ok (.astore_n 3, 1) := by decide +kernel
theorem dL_courses_13 : decode cL_courses 13 = .ok (.iconst 1, 1) := by decide +kernel
theorem dL_courses_14 : decode cL_courses 14 = .ok (.ireturn, 1) := by decide +kernel
theorem dL_courses_15 : decode cL_courses 15 = .ok (.iconst 0, 1) := by decide +kernel
theorem dL_courses_16 : decode cL_courses 16 = .ok (.ireturn, 1) := by decide +kernel
theorem dL_frees_0 : decode cL_frees 0 = .ok (.aload_n 2, 1) := by decide +kernel
theorem dL_frees_1 : decode cL_frees 1 = .ok (.iconst 0, 1) := by decide +kernel
theorem dL_frees_2 : decode cL_frees 2 = .ok (.aload_n 0, 1) := by decide +kernel
theorem dL_frees_3 : decode cL_frees 3 = .ok (.iload_n 1, 1) := by decide +kernel
theorem dL_frees_4 : decode cL_frees 4 = .ok (.invokevirtual 60, 3) := by decide +kernel
theorem dL_frees_7 : decode cL_frees 7 = .ok (.i2l, 1) := by decide +kernel
theorem dL_frees_8 : decode cL_frees 8 = .ok (.lastore, 1) := by decide +kernel
theorem dL_frees_9 : decode cL_frees 9 = .ok (.goto 6, 3) := by decide +kernel
theorem dL_frees_12 : decode cL_frees 12 = .ok (.astore_n 3, 1) := by decide +kernel
theorem dL_frees_13 : decode cL_frees 13 = .ok (.iconst 1, 1) := by decide +kernel
theorem dL_frees_14 : decode cL_frees 14 = .ok (.ireturn, 1) := by decide +kernel
theorem dL_frees_15 : decode cL_frees 15 = .ok (.iconst 0, 1) := by decide +kernel
theorem dL_frees_16 : decode cL_frees 16 = .ok (.ireturn, 1) := by decide +kernel
theorem dL_takes_0 : decode cL_takes 0 = .ok (.aload_n 3, 1) := by decide +kernel
theorem dL_takes_1 : decode cL_takes 1 = .ok (.iconst 0, 1) := by decide +kernel
theorem dL_takes_2 : decode cL_takes 2 = .ok (.aload_n 0, 1) := by decide +kernel
theorem dL_takes_3 : decode cL_takes 3 = .ok (.iload_n 1, 1) := by decide +kernel
theorem dL_takes_4 : decode cL_takes 4 = .ok (.iload_n 2, 1) := by decide +kernel
theorem dL_takes_5 : decode cL_takes 5 = .ok (.invokevirtual 63, 3) := by decide +kernel
theorem dL_takes_8 : decode cL_takes 8 = .ok (.i2l, 1) := by decide +kernel
theorem dL_takes_9 : decode cL_takes 9 = .ok (.lastore, 1) := by decide +kernel
theorem dL_takes_10 : decode cL_takes 10 = .ok (.goto 11, 3) := by decide +kernel
theorem dL_takes_13 : decode cL_takes 13 = .ok (.astore 4, 2) := by decide +kernel
theorem dL_takes_15 : decode cL_takes 15 = .ok (.iconst 1, 1) := by decide +kernel
theorem dL_takes_16 : decode cL_takes 16 = .ok (.ireturn, 1) := by decide +kernel
theorem dL_takes_17 : decode cL_takes 17 = .ok (.astore 4, 2) := by decide +kernel
theorem dL_takes_19 : decode cL_takes 19 = .ok (.iconst 2, 1) := by decide +kernel
theorem dL_takes_20 : decode cL_takes 20 = .ok (.ireturn, 1) := by decide +kernel
theorem dL_takes_21 : decode cL_takes 21 = .ok (.iconst 0, 1) := by decide +kernel
theorem dL_takes_22 : decode cL_takes 22 = .ok (.ireturn, 1) := by decide +kernel
theorem dL_keenest_0 : decode cL_keenest 0 = .ok (.aload_n 2, 1) := by decide +kernel
theorem dL_keenest_1 : decode cL_keenest 1 = .ok (.iconst 0, 1) := by decide +kernel
theorem dL_keenest_2 : decode cL_keenest 2 = .ok (.aload_n 0, 1) := by decide +kernel
theorem dL_keenest_3 : decode cL_keenest 3 = .ok (.iload_n 1, 1) := by decide +kernel
theorem dL_keenest_4 : decode cL_keenest 4 = .ok (.invokevirtual 66, 3) := by decide +kernel
theorem dL_keenest_7 : decode cL_keenest 7 = .ok (.i2l, 1) := by decide +kernel
theorem dL_keenest_8 : decode cL_keenest 8 = .ok (.lastore, 1) := by decide +kernel
theorem dL_keenest_9 : decode cL_keenest 9 = .ok (.goto 6, 3) := by decide +kernel
theorem dL_keenest_12 : decode cL_keenest 12 = .ok (.astore_n 3, 1) := by decide +kernel
theorem dL_keenest_13 : decode cL_keenest 13 = .ok (.iconst 1, 1) := by decide +kernel
theorem dL_keenest_14 : decode cL_keenest 14 = .ok (.ireturn, 1) := by decide +kernel
theorem dL_keenest_15 : decode cL_keenest 15 = .ok (.iconst 0, 1) := by decide +kernel
theorem dL_keenest_16 : decode cL_keenest 16 = .ok (.ireturn, 1) := by decide +kernel
theorem dL_goes_0 : decode cL_goes 0 = .ok (.aload_n 3, 1) := by decide +kernel
theorem dL_goes_1 : decode cL_goes 1 = .ok (.iconst 0, 1) := by decide +kernel
theorem dL_goes_2 : decode cL_goes 2 = .ok (.aload_n 0, 1) := by decide +kernel
theorem dL_goes_3 : decode cL_goes 3 = .ok (.iload_n 1, 1) := by decide +kernel
theorem dL_goes_4 : decode cL_goes 4 = .ok (.iload_n 2, 1) := by decide +kernel
theorem dL_goes_5 : decode cL_goes 5 = .ok (.invokevirtual 69, 3) := by decide +kernel
theorem dL_goes_8 : decode cL_goes 8 = .ok (.i2l, 1) := by decide +kernel
theorem dL_goes_9 : decode cL_goes 9 = .ok (.lastore, 1) := by decide +kernel
theorem dL_goes_10 : decode cL_goes 10 = .ok (.goto 11, 3) := by decide +kernel
theorem dL_goes_13 : decode cL_goes 13 = .ok (.astore 4, 2) := by decide +kernel
theorem dL_goes_15 : decode cL_goes 15 = .ok (.iconst 1, 1) := by decide +kernel
theorem dL_goes_16 : decode cL_goes 16 = .ok (.ireturn, 1) := by decide +kernel
theorem dL_goes_17 : decode cL_goes 17 = .ok (.astore 4, 2) := by decide +kernel
theorem dL_goes_19 : decode cL_goes 19 = .ok (.iconst 2, 1) := by decide +kernel
theorem dL_goes_20 : decode cL_goes 20 = .ok (.ireturn, 1) := by decide +kernel
theorem dL_goes_21 : decode cL_goes 21 = .ok (.iconst 0, 1) := by decide +kernel
theorem dL_goes_22 : decode cL_goes 22 = .ok (.ireturn, 1) := by decide +kernel
theorem dL_ahead_0 : decode cL_ahead 0 = .ok (.aload_n 3, 1) := by decide +kernel
theorem dL_ahead_1 : decode cL_ahead 1 = .ok (.iconst 0, 1) := by decide +kernel
theorem dL_ahead_2 : decode cL_ahead 2 = .ok (.aload_n 0, 1) := by decide +kernel
theorem dL_ahead_3 : decode cL_ahead 3 = .ok (.iload_n 1, 1) := by decide +kernel
theorem dL_ahead_4 : decode cL_ahead 4 = .ok (.iload_n 2, 1) := by decide +kernel
theorem dL_ahead_5 : decode cL_ahead 5 = .ok (.invokevirtual 72, 3) := by decide +kernel
theorem dL_ahead_8 : decode cL_ahead 8 = .ok (.i2l, 1) := by decide +kernel
theorem dL_ahead_9 : decode cL_ahead 9 = .ok (.lastore, 1) := by decide +kernel
theorem dL_ahead_10 : decode cL_ahead 10 = .ok (.goto 11, 3) := by decide +kernel
theorem dL_ahead_13 : decode cL_ahead 13 = .ok (.astore 4, 2) := by decide +kernel
theorem dL_ahead_15 : decode cL_ahead 15 = .ok (.iconst 1, 1) := by decide +kernel
theorem dL_ahead_16 : decode cL_ahead 16 = .ok (.ireturn, 1) := by decide +kernel
theorem dL_ahead_17 : decode cL_ahead 17 = .ok (.astore 4, 2) := by decide +kernel
theorem dL_ahead_19 : decode cL_ahead 19 = .ok (.iconst 2, 1) := by decide +kernel
theorem dL_ahead_20 : decode cL_ahead 20 = .ok (.ireturn, 1) := by decide +kernel
theorem dL_ahead_21 : decode cL_ahead 21 = .ok (.iconst 0, 1) := by decide +kernel
theorem dL_ahead_22 : decode cL_ahead 22 = .ok (.ireturn, 1) := by decide +kernel
theorem dL_fewest_0 : decode cL_fewest 0 = .ok (.aload_n 3, 1) := by decide +kernel
theorem dL_fewest_1 : decode cL_fewest 1 = .ok (.iconst 0, 1) := by decide +kernel
theorem dL_fewest_2 : decode cL_fewest 2 = .ok (.aload_n 0, 1) := by decide +kernel
theorem dL_fewest_3 : decode cL_fewest 3 = .ok (.iload_n 1, 1) := by decide +kernel
theorem dL_fewest_4 : decode cL_fewest 4 = .ok (.iload_n 2, 1) := by decide +kernel
theorem dL_fewest_5 : decode cL_fewest 5 = .ok (.invokevirtual 75, 3) := by decide +kernel
theorem dL_fewest_8 : decode cL_fewest 8 = .ok (.i2l, 1) := by decide +kernel
theorem dL_fewest_9 : decode cL_fewest 9 = .ok (.lastore, 1) := by decide +kernel
theorem dL_fewest_10 : decode cL_fewest 10 = .ok (.goto 11, 3) := by decide +kernel
theorem dL_fewest_13 : decode cL_fewest 13 = .ok (.astore 4, 2) := by decide +kernel
theorem dL_fewest_15 : decode cL_fewest 15 = .ok (.iconst 1, 1) := by decide +kernel
theorem dL_fewest_16 : decode cL_fewest 16 = .ok (.ireturn, 1) := by decide +kernel
theorem dL_fewest_17 : decode cL_fewest 17 = .ok (.astore 4, 2) := by decide +kernel
theorem dL_fewest_19 : decode cL_fewest 19 = .ok (.iconst 2, 1) := by decide +kernel
theorem dL_fewest_20 : decode cL_fewest 20 = .ok (.ireturn, 1) := by decide +kernel
theorem dL_fewest_21 : decode cL_fewest 21 = .ok (.iconst 0, 1) := by decide +kernel
theorem dL_fewest_22 : decode cL_fewest 22 = .ok (.ireturn, 1) := by decide +kernel
theorem dL_bribes_0 : decode cL_bribes 0 = .ok (.aload_n 2, 1) := by decide +kernel
theorem dL_bribes_1 : decode cL_bribes 1 = .ok (.iconst 0, 1) := by decide +kernel
theorem dL_bribes_2 : decode cL_bribes 2 = .ok (.aload_n 0, 1) := by decide +kernel
theorem dL_bribes_3 : decode cL_bribes 3 = .ok (.iload_n 1, 1) := by decide +kernel
theorem dL_bribes_4 : decode cL_bribes 4 = .ok (.invokevirtual 78, 3) := by decide +kernel
theorem dL_bribes_7 : decode cL_bribes 7 = .ok (.i2l, 1) := by decide +kernel
theorem dL_bribes_8 : decode cL_bribes 8 = .ok (.lastore, 1) := by decide +kernel
theorem dL_bribes_9 : decode cL_bribes 9 = .ok (.goto 6, 3) := by decide +kernel
theorem dL_bribes_12 : decode cL_bribes 12 = .ok (.astore_n 3, 1) := by decide +kernel
theorem dL_bribes_13 : decode cL_bribes 13 = .ok (.iconst 1, 1) := by decide +kernel
theorem dL_bribes_14 : decode cL_bribes 14 = .ok (.ireturn, 1) := by decide +kernel
theorem dL_bribes_15 : decode cL_bribes 15 = .ok (.iconst 0, 1) := by decide +kernel
theorem dL_bribes_16 : decode cL_bribes 16 = .ok (.ireturn, 1) := by decide +kernel
theorem dL_ask_0 : decode cL_ask 0 = .ok (.aload_n 2, 1) := by decide +kernel
theorem dL_ask_1 : decode cL_ask 1 = .ok (.iconst 0, 1) := by decide +kernel
theorem dL_ask_2 : decode cL_ask 2 = .ok (.aload_n 0, 1) := by decide +kernel
theorem dL_ask_3 : decode cL_ask 3 = .ok (.iload_n 1, 1) := by decide +kernel
theorem dL_ask_4 : decode cL_ask 4 = .ok (.invokevirtual 82, 3) := by decide +kernel
theorem dL_ask_7 : decode cL_ask 7 = .ok (.i2l, 1) := by decide +kernel
theorem dL_ask_8 : decode cL_ask 8 = .ok (.lastore, 1) := by decide +kernel
theorem dL_ask_9 : decode cL_ask 9 = .ok (.goto 6, 3) := by decide +kernel
theorem dL_ask_12 : decode cL_ask 12 = .ok (.astore_n 3, 1) := by decide +kernel
theorem dL_ask_13 : decode cL_ask 13 = .ok (.iconst 1, 1) := by decide +kernel
theorem dL_ask_14 : decode cL_ask 14 = .ok (.ireturn, 1) := by decide +kernel
theorem dL_ask_15 : decode cL_ask 15 = .ok (.iconst 0, 1) := by decide +kernel
theorem dL_ask_16 : decode cL_ask 16 = .ok (.ireturn, 1) := by decide +kernel
theorem dL_worst_0 : decode cL_worst 0 = .ok (.aload_n 2, 1) := by decide +kernel
theorem dL_worst_1 : decode cL_worst 1 = .ok (.iconst 0, 1) := by decide +kernel
theorem dL_worst_2 : decode cL_worst 2 = .ok (.aload_n 0, 1) := by decide +kernel
theorem dL_worst_3 : decode cL_worst 3 = .ok (.iload_n 1, 1) := by decide +kernel
theorem dL_worst_4 : decode cL_worst 4 = .ok (.invokevirtual 85, 3) := by decide +kernel
theorem dL_worst_7 : decode cL_worst 7 = .ok (.i2l, 1) := by decide +kernel
theorem dL_worst_8 : decode cL_worst 8 = .ok (.lastore, 1) := by decide +kernel
theorem dL_worst_9 : decode cL_worst 9 = .ok (.goto 6, 3) := by decide +kernel
theorem dL_worst_12 : decode cL_worst 12 = .ok (.astore_n 3, 1) := by decide +kernel
theorem dL_worst_13 : decode cL_worst 13 = .ok (.iconst 1, 1) := by decide +kernel
theorem dL_worst_14 : decode cL_worst 14 = .ok (.ireturn, 1) := by decide +kernel
theorem dL_worst_15 : decode cL_worst 15 = .ok (.iconst 0, 1) := by decide +kernel
theorem dL_worst_16 : decode cL_worst 16 = .ok (.ireturn, 1) := by decide +kernel
theorem dL_share_0 : decode cL_share 0 = .ok (.aload_n 3, 1) := by decide +kernel
theorem dL_share_1 : decode cL_share 1 = .ok (.iconst 0, 1) := by decide +kernel
theorem dL_share_2 : decode cL_share 2 = .ok (.aload_n 0, 1) := by decide +kernel
theorem dL_share_3 : decode cL_share 3 = .ok (.iload_n 1, 1) := by decide +kernel
theorem dL_share_4 : decode cL_share 4 = .ok (.iload_n 2, 1) := by decide +kernel
theorem dL_share_5 : decode cL_share 5 = .ok (.invokevirtual 88, 3) := by decide +kernel
theorem dL_share_8 : decode cL_share 8 = .ok (.i2l, 1) := by decide +kernel
theorem dL_share_9 : decode cL_share 9 = .ok (.lastore, 1) := by decide +kernel
theorem dL_share_10 : decode cL_share 10 = .ok (.goto 7, 3) := by decide +kernel
theorem dL_share_13 : decode cL_share 13 = .ok (.astore 4, 2) := by decide +kernel
theorem dL_share_15 : decode cL_share 15 = .ok (.iconst 1, 1) := by decide +kernel
theorem dL_share_16 : decode cL_share 16 = .ok (.ireturn, 1) := by decide +kernel
theorem dL_share_17 : decode cL_share 17 = .ok (.iconst 0, 1) := by decide +kernel
theorem dL_share_18 : decode cL_share 18 = .ok (.ireturn, 1) := by decide +kernel
theorem dL_sentence_0 : decode cL_sentence 0 = .ok (.aload_n 2, 1) := by decide +kernel
theorem dL_sentence_1 : decode cL_sentence 1 = .ok (.iconst 0, 1) := by decide +kernel
theorem dL_sentence_2 : decode cL_sentence 2 = .ok (.aload_n 0, 1) := by decide +kernel
theorem dL_sentence_3 : decode cL_sentence 3 = .ok (.iload_n 1, 1) := by decide +kernel
theorem dL_sentence_4 : decode cL_sentence 4 = .ok (.invokevirtual 91, 3) := by decide +kernel
theorem dL_sentence_7 : decode cL_sentence 7 = .ok (.i2l, 1) := by decide +kernel
theorem dL_sentence_8 : decode cL_sentence 8 = .ok (.lastore, 1) := by decide +kernel
theorem dL_sentence_9 : decode cL_sentence 9 = .ok (.goto 6, 3) := by decide +kernel
theorem dL_sentence_12 : decode cL_sentence 12 = .ok (.astore_n 3, 1) := by decide +kernel
theorem dL_sentence_13 : decode cL_sentence 13 = .ok (.iconst 1, 1) := by decide +kernel
theorem dL_sentence_14 : decode cL_sentence 14 = .ok (.ireturn, 1) := by decide +kernel
theorem dL_sentence_15 : decode cL_sentence 15 = .ok (.iconst 0, 1) := by decide +kernel
theorem dL_sentence_16 : decode cL_sentence 16 = .ok (.ireturn, 1) := by decide +kernel
theorem dL_alone_0 : decode cL_alone 0 = .ok (.aload_n 3, 1) := by decide +kernel
theorem dL_alone_1 : decode cL_alone 1 = .ok (.iconst 0, 1) := by decide +kernel
theorem dL_alone_2 : decode cL_alone 2 = .ok (.aload_n 0, 1) := by decide +kernel
theorem dL_alone_3 : decode cL_alone 3 = .ok (.iload_n 1, 1) := by decide +kernel
theorem dL_alone_4 : decode cL_alone 4 = .ok (.iload_n 2, 1) := by decide +kernel
theorem dL_alone_5 : decode cL_alone 5 = .ok (.invokevirtual 94, 3) := by decide +kernel
theorem dL_alone_8 : decode cL_alone 8 = .ok (.i2l, 1) := by decide +kernel
theorem dL_alone_9 : decode cL_alone 9 = .ok (.lastore, 1) := by decide +kernel
theorem dL_alone_10 : decode cL_alone 10 = .ok (.goto 7, 3) := by decide +kernel
theorem dL_alone_13 : decode cL_alone 13 = .ok (.astore 4, 2) := by decide +kernel
theorem dL_alone_15 : decode cL_alone 15 = .ok (.iconst 1, 1) := by decide +kernel
theorem dL_alone_16 : decode cL_alone 16 = .ok (.ireturn, 1) := by decide +kernel
theorem dL_alone_17 : decode cL_alone 17 = .ok (.iconst 0, 1) := by decide +kernel
theorem dL_alone_18 : decode cL_alone 18 = .ok (.ireturn, 1) := by decide +kernel
theorem dL_game_0 : decode cL_game 0 = .ok (.aload_n 2, 1) := by decide +kernel
theorem dL_game_1 : decode cL_game 1 = .ok (.iconst 0, 1) := by decide +kernel
theorem dL_game_2 : decode cL_game 2 = .ok (.aload_n 0, 1) := by decide +kernel
theorem dL_game_3 : decode cL_game 3 = .ok (.iload_n 1, 1) := by decide +kernel
theorem dL_game_4 : decode cL_game 4 = .ok (.invokevirtual 97, 3) := by decide +kernel
theorem dL_game_7 : decode cL_game 7 = .ok (.i2l, 1) := by decide +kernel
theorem dL_game_8 : decode cL_game 8 = .ok (.lastore, 1) := by decide +kernel
theorem dL_game_9 : decode cL_game 9 = .ok (.goto 6, 3) := by decide +kernel
theorem dL_game_12 : decode cL_game 12 = .ok (.astore_n 3, 1) := by decide +kernel
theorem dL_game_13 : decode cL_game 13 = .ok (.iconst 1, 1) := by decide +kernel
theorem dL_game_14 : decode cL_game 14 = .ok (.ireturn, 1) := by decide +kernel
theorem dL_game_15 : decode cL_game 15 = .ok (.iconst 0, 1) := by decide +kernel
theorem dL_game_16 : decode cL_game 16 = .ok (.ireturn, 1) := by decide +kernel
theorem dL_meets_0 : decode cL_meets 0 = .ok (.aload_n 2, 1) := by decide +kernel
theorem dL_meets_1 : decode cL_meets 1 = .ok (.iconst 0, 1) := by decide +kernel
theorem dL_meets_2 : decode cL_meets 2 = .ok (.aload_n 0, 1) := by decide +kernel
theorem dL_meets_3 : decode cL_meets 3 = .ok (.iload_n 1, 1) := by decide +kernel
theorem dL_meets_4 : decode cL_meets 4 = .ok (.invokevirtual 100, 3) := by decide +kernel
theorem dL_meets_7 : decode cL_meets 7 = .ok (.i2l, 1) := by decide +kernel
theorem dL_meets_8 : decode cL_meets 8 = .ok (.lastore, 1) := by decide +kernel
theorem dL_meets_9 : decode cL_meets 9 = .ok (.goto 6, 3) := by decide +kernel
theorem dL_meets_12 : decode cL_meets 12 = .ok (.astore_n 3, 1) := by decide +kernel
theorem dL_meets_13 : decode cL_meets 13 = .ok (.iconst 1, 1) := by decide +kernel
theorem dL_meets_14 : decode cL_meets 14 = .ok (.ireturn, 1) := by decide +kernel
theorem dL_meets_15 : decode cL_meets 15 = .ok (.iconst 0, 1) := by decide +kernel
theorem dL_meets_16 : decode cL_meets 16 = .ok (.ireturn, 1) := by decide +kernel
theorem dL_least_0 : decode cL_least 0 = .ok (.aload_n 2, 1) := by decide +kernel
theorem dL_least_1 : decode cL_least 1 = .ok (.iconst 0, 1) := by decide +kernel
theorem dL_least_2 : decode cL_least 2 = .ok (.aload_n 0, 1) := by decide +kernel
theorem dL_least_3 : decode cL_least 3 = .ok (.iload_n 1, 1) := by decide +kernel
theorem dL_least_4 : decode cL_least 4 = .ok (.invokevirtual 103, 3) := by decide +kernel
theorem dL_least_7 : decode cL_least 7 = .ok (.i2l, 1) := by decide +kernel
theorem dL_least_8 : decode cL_least 8 = .ok (.lastore, 1) := by decide +kernel
theorem dL_least_9 : decode cL_least 9 = .ok (.goto 6, 3) := by decide +kernel
theorem dL_least_12 : decode cL_least 12 = .ok (.astore_n 3, 1) := by decide +kernel
theorem dL_least_13 : decode cL_least 13 = .ok (.iconst 1, 1) := by decide +kernel
theorem dL_least_14 : decode cL_least 14 = .ok (.ireturn, 1) := by decide +kernel
theorem dL_least_15 : decode cL_least 15 = .ok (.iconst 0, 1) := by decide +kernel
theorem dL_least_16 : decode cL_least 16 = .ok (.ireturn, 1) := by decide +kernel
theorem dL_trial_0 : decode cL_trial 0 = .ok (.aload_n 3, 1) := by decide +kernel
theorem dL_trial_1 : decode cL_trial 1 = .ok (.iconst 0, 1) := by decide +kernel
theorem dL_trial_2 : decode cL_trial 2 = .ok (.aload_n 0, 1) := by decide +kernel
theorem dL_trial_3 : decode cL_trial 3 = .ok (.iload_n 1, 1) := by decide +kernel
theorem dL_trial_4 : decode cL_trial 4 = .ok (.iload_n 2, 1) := by decide +kernel
theorem dL_trial_5 : decode cL_trial 5 = .ok (.invokevirtual 106, 3) := by decide +kernel
theorem dL_trial_8 : decode cL_trial 8 = .ok (.i2l, 1) := by decide +kernel
theorem dL_trial_9 : decode cL_trial 9 = .ok (.lastore, 1) := by decide +kernel
theorem dL_trial_10 : decode cL_trial 10 = .ok (.goto 7, 3) := by decide +kernel
theorem dL_trial_13 : decode cL_trial 13 = .ok (.astore 4, 2) := by decide +kernel
theorem dL_trial_15 : decode cL_trial 15 = .ok (.iconst 1, 1) := by decide +kernel
theorem dL_trial_16 : decode cL_trial 16 = .ok (.ireturn, 1) := by decide +kernel
theorem dL_trial_17 : decode cL_trial 17 = .ok (.iconst 0, 1) := by decide +kernel
theorem dL_trial_18 : decode cL_trial 18 = .ok (.ireturn, 1) := by decide +kernel
theorem dL_span_0 : decode cL_span 0 = .ok (.aload_n 3, 1) := by decide +kernel
theorem dL_span_1 : decode cL_span 1 = .ok (.iconst 0, 1) := by decide +kernel
theorem dL_span_2 : decode cL_span 2 = .ok (.aload_n 0, 1) := by decide +kernel
theorem dL_span_3 : decode cL_span 3 = .ok (.iload_n 1, 1) := by decide +kernel
theorem dL_span_4 : decode cL_span 4 = .ok (.iload_n 2, 1) := by decide +kernel
theorem dL_span_5 : decode cL_span 5 = .ok (.invokevirtual 110, 3) := by decide +kernel
theorem dL_span_8 : decode cL_span 8 = .ok (.i2l, 1) := by decide +kernel
theorem dL_span_9 : decode cL_span 9 = .ok (.lastore, 1) := by decide +kernel
theorem dL_span_10 : decode cL_span 10 = .ok (.goto 7, 3) := by decide +kernel
theorem dL_span_13 : decode cL_span 13 = .ok (.astore 4, 2) := by decide +kernel
theorem dL_span_15 : decode cL_span 15 = .ok (.iconst 1, 1) := by decide +kernel
theorem dL_span_16 : decode cL_span 16 = .ok (.ireturn, 1) := by decide +kernel
theorem dL_span_17 : decode cL_span 17 = .ok (.iconst 0, 1) := by decide +kernel
theorem dL_span_18 : decode cL_span 18 = .ok (.ireturn, 1) := by decide +kernel
theorem dL_led_0 : decode cL_led 0 = .ok (.aload_n 3, 1) := by decide +kernel
theorem dL_led_1 : decode cL_led 1 = .ok (.iconst 0, 1) := by decide +kernel
theorem dL_led_2 : decode cL_led 2 = .ok (.aload_n 0, 1) := by decide +kernel
theorem dL_led_3 : decode cL_led 3 = .ok (.iload_n 1, 1) := by decide +kernel
theorem dL_led_4 : decode cL_led 4 = .ok (.iload_n 2, 1) := by decide +kernel
theorem dL_led_5 : decode cL_led 5 = .ok (.invokevirtual 113, 3) := by decide +kernel
theorem dL_led_8 : decode cL_led 8 = .ok (.i2l, 1) := by decide +kernel
theorem dL_led_9 : decode cL_led 9 = .ok (.lastore, 1) := by decide +kernel
theorem dL_led_10 : decode cL_led 10 = .ok (.goto 7, 3) := by decide +kernel
theorem dL_led_13 : decode cL_led 13 = .ok (.astore 4, 2) := by decide +kernel
theorem dL_led_15 : decode cL_led 15 = .ok (.iconst 1, 1) := by decide +kernel
theorem dL_led_16 : decode cL_led 16 = .ok (.ireturn, 1) := by decide +kernel
theorem dL_led_17 : decode cL_led 17 = .ok (.iconst 0, 1) := by decide +kernel
theorem dL_led_18 : decode cL_led 18 = .ok (.ireturn, 1) := by decide +kernel
theorem dL_log_0 : decode cL_log 0 = .ok (.aload_n 3, 1) := by decide +kernel
theorem dL_log_1 : decode cL_log 1 = .ok (.iconst 0, 1) := by decide +kernel
theorem dL_log_2 : decode cL_log 2 = .ok (.aload_n 0, 1) := by decide +kernel
theorem dL_log_3 : decode cL_log 3 = .ok (.iload_n 1, 1) := by decide +kernel
theorem dL_log_4 : decode cL_log 4 = .ok (.iload_n 2, 1) := by decide +kernel
theorem dL_log_5 : decode cL_log 5 = .ok (.invokevirtual 116, 3) := by decide +kernel
theorem dL_log_8 : decode cL_log 8 = .ok (.i2l, 1) := by decide +kernel
theorem dL_log_9 : decode cL_log 9 = .ok (.lastore, 1) := by decide +kernel
theorem dL_log_10 : decode cL_log 10 = .ok (.goto 7, 3) := by decide +kernel
theorem dL_log_13 : decode cL_log 13 = .ok (.astore 4, 2) := by decide +kernel
theorem dL_log_15 : decode cL_log 15 = .ok (.iconst 1, 1) := by decide +kernel
theorem dL_log_16 : decode cL_log 16 = .ok (.ireturn, 1) := by decide +kernel
theorem dL_log_17 : decode cL_log 17 = .ok (.iconst 0, 1) := by decide +kernel
theorem dL_log_18 : decode cL_log 18 = .ok (.ireturn, 1) := by decide +kernel
