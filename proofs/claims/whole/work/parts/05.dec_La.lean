theorem d_La_cell_0 : decode b_La_cell 0 = .ok (.iload_n 1, 1) := by decide +kernel
theorem d_La_cell_1 : decode b_La_cell 1 = .ok (.aload_n 0, 1) := by decide +kernel
theorem d_La_cell_2 : decode b_La_cell 2 = .ok (.arraylength, 1) := by decide +kernel
theorem d_La_cell_3 : decode b_La_cell 3 = .ok (.if_icmp .ge 9, 3) := by decide +kernel
theorem d_La_cell_6 : decode b_La_cell 6 = .ok (.aload_n 0, 1) := by decide +kernel
theorem d_La_cell_7 : decode b_La_cell 7 = .ok (.iload_n 1, 1) := by decide +kernel
theorem d_La_cell_8 : decode b_La_cell 8 = .ok (.iaload, 1) := by decide +kernel
theorem d_La_cell_9 : decode b_La_cell 9 = .ok (.goto 4, 3) := by decide +kernel
theorem d_La_cell_12 : decode b_La_cell 12 = .ok (.iconst 0, 1) := by decide +kernel
theorem d_La_cell_13 : decode b_La_cell 13 = .ok (.ireturn, 1) := by decide +kernel
theorem d_La_term_0 : decode b_La_term 0 = .ok (.aload 4, 2) := by decide +kernel
theorem d_La_term_2 : decode b_La_term 2 = .ok (.iconst 0, 1) := by decide +kernel
theorem d_La_term_3 : decode b_La_term 3 = .ok (.aload_n 0, 1) := by decide +kernel
theorem d_La_term_4 : decode b_La_term 4 = .ok (.iload_n 1, 1) := by decide +kernel
theorem d_La_term_5 : decode b_La_term 5 = .ok (.iload_n 2, 1) := by decide +kernel
theorem d_La_term_6 : decode b_La_term 6 = .ok (.iload_n 3, 1) := by decide +kernel
theorem d_La_term_7 : decode b_La_term 7 = .ok (.invokevirtual 7, 3) := by decide +kernel
theorem d_La_term_10 : decode b_La_term 10 = .ok (.ifCond .eq 7, 3) := by decide +kernel
theorem d_La_term_13 : decode b_La_term 13 = .ok (.lconst 1, 1) := by decide +kernel
theorem d_La_term_14 : decode b_La_term 14 = .ok (.goto 4, 3) := by decide +kernel
theorem d_La_term_17 : decode b_La_term 17 = .ok (.lconst 0, 1) := by decide +kernel
theorem d_La_term_18 : decode b_La_term 18 = .ok (.lastore, 1) := by decide +kernel
theorem d_La_term_19 : decode b_La_term 19 = .ok (.goto 7, 3) := by decide +kernel
theorem d_La_term_22 : decode b_La_term 22 = .ok (.astore 5, 2) := by decide +kernel
theorem d_La_term_24 : decode b_La_term 24 = .ok (.iconst 1, 1) := by decide +kernel
theorem d_La_term_25 : decode b_La_term 25 = .ok (.ireturn, 1) := by decide +kernel
theorem d_La_term_26 : decode b_La_term 26 = .ok (.iconst 0, 1) := by decide +kernel
theorem d_La_term_27 : decode b_La_term 27 = .ok (.ireturn, 1) := by decide +kernel
theorem d_La_member_0 : decode b_La_member 0 = .ok (.aload_n 3, 1) := by decide +kernel
theorem d_La_member_1 : decode b_La_member 1 = .ok (.iconst 0, 1) := by decide +kernel
theorem d_La_member_2 : decode b_La_member 2 = .ok (.aload_n 0, 1) := by decide +kernel
theorem d_La_member_3 : decode b_La_member 3 = .ok (.iload_n 1, 1) := by decide +kernel
theorem d_La_member_4 : decode b_La_member 4 = .ok (.iload_n 2, 1) := by decide +kernel
theorem d_La_member_5 : decode b_La_member 5 = .ok (.invokevirtual 15, 3) := by decide +kernel
theorem d_La_member_8 : decode b_La_member 8 = .ok (.i2l, 1) := by decide +kernel
theorem d_La_member_9 : decode b_La_member 9 = .ok (.lastore, 1) := by decide +kernel
theorem d_La_member_10 : decode b_La_member 10 = .ok (.goto 11, 3) := by decide +kernel
theorem d_La_member_13 : decode b_La_member 13 = .ok (.astore 4, 2) := by decide +kernel
theorem d_La_member_15 : decode b_La_member 15 = .ok (.iconst 1, 1) := by decide +kernel
theorem d_La_member_16 : decode b_La_member 16 = .ok (.ireturn, 1) := by decide +kernel
theorem d_La_member_17 : decode b_La_member 17 = .ok (.astore 4, 2) := by decide +kernel
theorem d_La_member_19 : decode b_La_member 19 = .ok (.iconst 2, 1) := by decide +kernel
theorem d_La_member_20 : decode b_La_member 20 = .ok (.ireturn, 1) := by decide +kernel
theorem d_La_member_21 : decode b_La_member 21 = .ok (.iconst 0, 1) := by decide +kernel
theorem d_La_member_22 : decode b_La_member 22 = .ok (.ireturn, 1) := by decide +kernel
theorem d_La_put_0 : decode b_La_put 0 = .ok (.aload 4, 2) := by decide +kernel
theorem d_La_put_2 : decode b_La_put 2 = .ok (.iconst 0, 1) := by decide +kernel
theorem d_La_put_3 : decode b_La_put 3 = .ok (.aload_n 0, 1) := by decide +kernel
theorem d_La_put_4 : decode b_La_put 4 = .ok (.iload_n 1, 1) := by decide +kernel
theorem d_La_put_5 : decode b_La_put 5 = .ok (.iload_n 2, 1) := by decide +kernel
theorem d_La_put_6 : decode b_La_put 6 = .ok (.iload_n 3, 1) := by decide +kernel
theorem d_La_put_7 : decode b_La_put 7 = .ok (.invokevirtual 21, 3) := by decide +kernel
theorem d_La_put_10 : decode b_La_put 10 = .ok (.ifCond .eq 7, 3) := by decide +kernel
theorem d_La_put_13 : decode b_La_put 13 = .ok (.lconst 1, 1) := by decide +kernel
theorem d_La_put_14 : decode b_La_put 14 = .ok (.goto 4, 3) := by decide +kernel
theorem d_La_put_17 : decode b_La_put 17 = .ok (.lconst 0, 1) := by decide +kernel
theorem d_La_put_18 : decode b_La_put 18 = .ok (.lastore, 1) := by decide +kernel
theorem d_La_put_19 : decode b_La_put 19 = .ok (.goto 11, 3) := by decide +kernel
theorem d_La_put_22 : decode b_La_put 22 = .ok (.astore 5, 2) := by decide +kernel
theorem d_La_put_24 : decode b_La_put 24 = .ok (.iconst 1, 1) := by decide +kernel
theorem d_La_put_25 : decode b_La_put 25 = .ok (.ireturn, 1) := by decide +kernel
theorem d_La_put_26 : decode b_La_put 26 = .ok (.astore 5, 2) := by decide +kernel
theorem d_La_put_28 : decode b_La_put 28 = .ok (.iconst 2, 1) := by decide +kernel
theorem d_La_put_29 : decode b_La_put 29 = .ok (.ireturn, 1) := by decide +kernel
theorem d_La_put_30 : decode b_La_put 30 = .ok (.iconst 0, 1) := by decide +kernel
theorem d_La_put_31 : decode b_La_put 31 = .ok (.ireturn, 1) := by decide +kernel
theorem d_La_at_0 : decode b_La_at 0 = .ok (.aload_n 3, 1) := by decide +kernel
theorem d_La_at_1 : decode b_La_at 1 = .ok (.iconst 0, 1) := by decide +kernel
theorem d_La_at_2 : decode b_La_at 2 = .ok (.aload_n 0, 1) := by decide +kernel
theorem d_La_at_3 : decode b_La_at 3 = .ok (.iload_n 1, 1) := by decide +kernel
theorem d_La_at_4 : decode b_La_at 4 = .ok (.iload_n 2, 1) := by decide +kernel
theorem d_La_at_5 : decode b_La_at 5 = .ok (.invokevirtual 24, 3) := by decide +kernel
theorem d_La_at_8 : decode b_La_at 8 = .ok (.i2l, 1) := by decide +kernel
theorem d_La_at_9 : decode b_La_at 9 = .ok (.lastore, 1) := by decide +kernel
theorem d_La_at_10 : decode b_La_at 10 = .ok (.goto 7, 3) := by decide +kernel
theorem d_La_at_13 : decode b_La_at 13 = .ok (.astore 4, 2) := by decide +kernel
theorem d_La_at_15 : decode b_La_at 15 = .ok (.iconst 1, 1) := by decide +kernel
theorem d_La_at_16 : decode b_La_at 16 = .ok (.ireturn, 1) := by decide +kernel
theorem d_La_at_17 : decode b_La_at 17 = .ok (.iconst 0, 1) := by decide +kernel
theorem d_La_at_18 : decode b_La_at 18 = .ok (.ireturn, 1) := by decide +kernel
theorem d_La_squares_0 : decode b_La_squares 0 = .ok (.aload_n 1, 1) := by decide +kernel
theorem d_La_squares_1 : decode b_La_squares 1 = .ok (.iconst 0, 1) := by decide +kernel
theorem d_La_squares_2 : decode b_La_squares 2 = .ok (.aload_n 0, 1) := by decide +kernel
theorem d_La_squares_3 : decode b_La_squares 3 = .ok (.invokevirtual 27, 3) := by decide +kernel
theorem d_La_squares_6 : decode b_La_squares 6 = .ok (.i2l, 1) := by decide +kernel
theorem d_La_squares_7 : decode b_La_squares 7 = .ok (.lastore, 1) := by decide +kernel
theorem d_La_squares_8 : decode b_La_squares 8 = .ok (.goto 6, 3) := by decide +kernel
theorem d_La_squares_11 : decode b_La_squares 11 = .ok (.astore_n 2, 1) := by decide +kernel
theorem d_La_squares_12 : decode b_La_squares 12 = .ok (.iconst 1, 1) := by decide +kernel
theorem d_La_squares_13 : decode b_La_squares 13 = .ok (.ireturn, 1) := by decide +kernel
theorem d_La_squares_14 : decode b_La_squares 14 = .ok (.iconst 0, 1) := by decide +kernel
theorem d_La_squares_15 : decode b_La_squares 15 = .ok (.ireturn, 1) := by decide +kernel
theorem d_La_weight_0 : decode b_La_weight 0 = .ok (.aload_n 3, 1) := by decide +kernel
theorem d_La_weight_1 : decode b_La_weight 1 = .ok (.iconst 0, 1) := by decide +kernel
theorem d_La_weight_2 : decode b_La_weight 2 = .ok (.aload_n 0, 1) := by decide +kernel
theorem d_La_weight_3 : decode b_La_weight 3 = .ok (.iload_n 1, 1) := by decide +kernel
theorem d_La_weight_4 : decode b_La_weight 4 = .ok (.iload_n 2, 1) := by decide +kernel
theorem d_La_weight_5 : decode b_La_weight 5 = .ok (.invokevirtual 33, 3) := by decide +kernel
theorem d_La_weight_8 : decode b_La_weight 8 = .ok (.lastore, 1) := by decide +kernel
theorem d_La_weight_9 : decode b_La_weight 9 = .ok (.goto 15, 3) := by decide +kernel
theorem d_La_weight_12 : decode b_La_weight 12 = .ok (.astore 4, 2) := by decide +kernel
theorem d_La_weight_14 : decode b_La_weight 14 = .ok (.iconst 1, 1) := by decide +kernel
theorem d_La_weight_15 : decode b_La_weight 15 = .ok (.ireturn, 1) := by decide +kernel
theorem d_La_weight_16 : decode b_La_weight 16 = .ok (.astore 4, 2) := by decide +kernel
theorem d_La_weight_18 : decode b_La_weight 18 = .ok (.iconst 2, 1) := by decide +kernel
theorem d_La_weight_19 : decode b_La_weight 19 = .ok (.ireturn, 1) := by decide +kernel
theorem d_La_weight_20 : decode b_La_weight 20 = .ok (.astore 4, 2) := by decide +kernel
theorem d_La_weight_22 : decode b_La_weight 22 = .ok (.iconst 3, 1) := by decide +kernel
theorem d_La_weight_23 : decode b_La_weight 23 = .ok (.ireturn, 1) := by decide +kernel
theorem d_La_weight_24 : decode b_La_weight 24 = .ok (.iconst 0, 1) := by decide +kernel
theorem d_La_weight_25 : decode b_La_weight 25 = .ok (.ireturn, 1) := by decide +kernel
theorem d_La_row_0 : decode b_La_row 0 = .ok (.aload 4, 2) := by decide +kernel
theorem d_La_row_2 : decode b_La_row 2 = .ok (.iconst 0, 1) := by decide +kernel
theorem d_La_row_3 : decode b_La_row 3 = .ok (.aload_n 0, 1) := by decide +kernel
theorem d_La_row_4 : decode b_La_row 4 = .ok (.iload_n 1, 1) := by decide +kernel
theorem d_La_row_5 : decode b_La_row 5 = .ok (.iload_n 2, 1) := by decide +kernel
theorem d_La_row_6 : decode b_La_row 6 = .ok (.iload_n 3, 1) := by decide +kernel
theorem d_La_row_7 : decode b_La_row 7 = .ok (.invokevirtual 37, 3) := by decide +kernel
theorem d_La_row_10 : decode b_La_row 10 = .ok (.lastore, 1) := by decide +kernel
theorem d_La_row_11 : decode b_La_row 11 = .ok (.goto 15, 3) := by decide +kernel
theorem d_La_row_14 : decode b_La_row 14 = .ok (.astore 5, 2) := by decide +kernel
theorem d_La_row_16 : decode b_La_row 16 = .ok (.iconst 1, 1) := by decide +kernel
theorem d_La_row_17 : decode b_La_row 17 = .ok (.ireturn, 1) := by decide +kernel
theorem d_La_row_18 : decode b_La_row 18 = .ok (.astore 5, 2) := by decide +kernel
theorem d_La_row_20 : decode b_La_row 20 = .ok (.iconst 2, 1) := by decide +kernel
theorem d_La_row_21 : decode b_La_row 21 = .ok (.ireturn, 1) := by decide +kernel
theorem d_La_row_22 : decode b_La_row 22 = .ok (.astore 5, 2) := by decide +kernel
theorem d_La_row_24 : decode b_La_row 24 = .ok (.iconst 3, 1) := by decide +kernel
theorem d_La_row_25 : decode b_La_row 25 = .ok (.ireturn, 1) := by decide +kernel
theorem d_La_row_26 : decode b_La_row 26 = .ok (.iconst 0, 1) := by decide +kernel
theorem d_La_row_27 : decode b_La_row 27 = .ok (.ireturn, 1) := by decide +kernel
theorem d_La_find_0 : decode b_La_find 0 = .ok (.aload_n 2, 1) := by decide +kernel
theorem d_La_find_1 : decode b_La_find 1 = .ok (.iconst 0, 1) := by decide +kernel
theorem d_La_find_2 : decode b_La_find 2 = .ok (.aload_n 0, 1) := by decide +kernel
theorem d_La_find_3 : decode b_La_find 3 = .ok (.iload_n 1, 1) := by decide +kernel
theorem d_La_find_4 : decode b_La_find 4 = .ok (.invokevirtual 41, 3) := by decide +kernel
theorem d_La_find_7 : decode b_La_find 7 = .ok (.i2l, 1) := by decide +kernel
theorem d_La_find_8 : decode b_La_find 8 = .ok (.lastore, 1) := by decide +kernel
theorem d_La_find_9 : decode b_La_find 9 = .ok (.goto 6, 3) := by decide +kernel
theorem d_La_find_12 : decode b_La_find 12 = .ok (.astore_n 3, 1) := by decide +kernel
theorem d_La_find_13 : decode b_La_find 13 = .ok (.iconst 1, 1) := by decide +kernel
theorem d_La_find_14 : decode b_La_find 14 = .ok (.ireturn, 1) := by decide +kernel
theorem d_La_find_15 : decode b_La_find 15 = .ok (.iconst 0, 1) := by decide +kernel
theorem d_La_find_16 : decode b_La_find 16 = .ok (.ireturn, 1) := by decide +kernel
theorem d_La_value_0 : decode b_La_value 0 = .ok (.aload_n 3, 1) := by decide +kernel
theorem d_La_value_1 : decode b_La_value 1 = .ok (.iconst 0, 1) := by decide +kernel
theorem d_La_value_2 : decode b_La_value 2 = .ok (.aload_n 0, 1) := by decide +kernel
theorem d_La_value_3 : decode b_La_value 3 = .ok (.iload_n 1, 1) := by decide +kernel
theorem d_La_value_4 : decode b_La_value 4 = .ok (.iload_n 2, 1) := by decide +kernel
theorem d_La_value_5 : decode b_La_value 5 = .ok (.invokevirtual 45, 3) := by decide +kernel
theorem d_La_value_8 : decode b_La_value 8 = .ok (.lastore, 1) := by decide +kernel
theorem d_La_value_9 : decode b_La_value 9 = .ok (.goto 7, 3) := by decide +kernel
theorem d_La_value_12 : decode b_La_value 12 = .ok (.astore 4, 2) := by decide +kernel
theorem d_La_value_14 : decode b_La_value 14 = .ok (.iconst 1, 1) := by decide +kernel
theorem d_La_value_15 : decode b_La_value 15 = .ok (.ireturn, 1) := by decide +kernel
theorem d_La_value_16 : decode b_La_value 16 = .ok (.iconst 0, 1) := by decide +kernel
theorem d_La_value_17 : decode b_La_value 17 = .ok (.ireturn, 1) := by decide +kernel
