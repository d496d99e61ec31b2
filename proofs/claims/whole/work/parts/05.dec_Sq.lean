theorem d_Sq_init_0 : decode b_Sq_init 0 = .ok (.aload_n 0, 1) := by decide +kernel
theorem d_Sq_init_1 : decode b_Sq_init 1 = .ok (.invokespecial 1, 3) := by decide +kernel
theorem d_Sq_init_4 : decode b_Sq_init 4 = .ok (.aload_n 0, 1) := by decide +kernel
theorem d_Sq_init_5 : decode b_Sq_init 5 = .ok (.bipush 15, 2) := by decide +kernel
theorem d_Sq_init_7 : decode b_Sq_init 7 = .ok (.newarray .int, 2) := by decide +kernel
theorem d_Sq_init_9 : decode b_Sq_init 9 = .ok (.putfield 9, 3) := by decide +kernel
theorem d_Sq_init_12 : decode b_Sq_init 12 = .ok (.aload_n 0, 1) := by decide +kernel
theorem d_Sq_init_13 : decode b_Sq_init 13 = .ok (.bipush 36, 2) := by decide +kernel
theorem d_Sq_init_15 : decode b_Sq_init 15 = .ok (.newarray .int, 2) := by decide +kernel
theorem d_Sq_init_17 : decode b_Sq_init 17 = .ok (.putfield 13, 3) := by decide +kernel
theorem d_Sq_init_20 : decode b_Sq_init 20 = .ok (.aload_n 0, 1) := by decide +kernel
theorem d_Sq_init_21 : decode b_Sq_init 21 = .ok (.new 16, 3) := by decide +kernel
theorem d_Sq_init_24 : decode b_Sq_init 24 = .ok (.dup, 1) := by decide +kernel
theorem d_Sq_init_25 : decode b_Sq_init 25 = .ok (.invokespecial 18, 3) := by decide +kernel
theorem d_Sq_init_28 : decode b_Sq_init 28 = .ok (.putfield 19, 3) := by decide +kernel
theorem d_Sq_init_31 : decode b_Sq_init 31 = .ok (.aload_n 0, 1) := by decide +kernel
theorem d_Sq_init_32 : decode b_Sq_init 32 = .ok (.new 23, 3) := by decide +kernel
theorem d_Sq_init_35 : decode b_Sq_init 35 = .ok (.dup, 1) := by decide +kernel
theorem d_Sq_init_36 : decode b_Sq_init 36 = .ok (.invokespecial 25, 3) := by decide +kernel
theorem d_Sq_init_39 : decode b_Sq_init 39 = .ok (.putfield 26, 3) := by decide +kernel
theorem d_Sq_init_42 : decode b_Sq_init 42 = .ok (.aload_n 0, 1) := by decide +kernel
theorem d_Sq_init_43 : decode b_Sq_init 43 = .ok (.new 30, 3) := by decide +kernel
theorem d_Sq_init_46 : decode b_Sq_init 46 = .ok (.dup, 1) := by decide +kernel
theorem d_Sq_init_47 : decode b_Sq_init 47 = .ok (.invokespecial 32, 3) := by decide +kernel
theorem d_Sq_init_50 : decode b_Sq_init 50 = .ok (.putfield 33, 3) := by decide +kernel
theorem d_Sq_init_53 : decode b_Sq_init 53 = .ok (.aload_n 0, 1) := by decide +kernel
theorem d_Sq_init_54 : decode b_Sq_init 54 = .ok (.new 37, 3) := by decide +kernel
theorem d_Sq_init_57 : decode b_Sq_init 57 = .ok (.dup, 1) := by decide +kernel
theorem d_Sq_init_58 : decode b_Sq_init 58 = .ok (.invokespecial 39, 3) := by decide +kernel
theorem d_Sq_init_61 : decode b_Sq_init 61 = .ok (.putfield 40, 3) := by decide +kernel
theorem d_Sq_init_64 : decode b_Sq_init 64 = .ok (.aload_n 0, 1) := by decide +kernel
theorem d_Sq_init_65 : decode b_Sq_init 65 = .ok (.iconst 0, 1) := by decide +kernel
theorem d_Sq_init_66 : decode b_Sq_init 66 = .ok (.putfield 44, 3) := by decide +kernel
theorem d_Sq_init_69 : decode b_Sq_init 69 = .ok (.aload_n 0, 1) := by decide +kernel
theorem d_Sq_init_70 : decode b_Sq_init 70 = .ok (.iload_n 1, 1) := by decide +kernel
theorem d_Sq_init_71 : decode b_Sq_init 71 = .ok (.iconst 2, 1) := by decide +kernel
theorem d_Sq_init_72 : decode b_Sq_init 72 = .ok (.if_icmp .ge 7, 3) := by decide +kernel
theorem d_Sq_init_75 : decode b_Sq_init 75 = .ok (.iconst 1, 1) := by decide +kernel
theorem d_Sq_init_76 : decode b_Sq_init 76 = .ok (.goto 4, 3) := by decide +kernel
theorem d_Sq_init_79 : decode b_Sq_init 79 = .ok (.iconst 2, 1) := by decide +kernel
theorem d_Sq_init_80 : decode b_Sq_init 80 = .ok (.putfield 48, 3) := by decide +kernel
theorem d_Sq_init_83 : decode b_Sq_init 83 = .ok (.return_, 1) := by decide +kernel
theorem d_Sq_term_0 : decode b_Sq_term 0 = .ok (.iload_n 1, 1) := by decide +kernel
theorem d_Sq_term_1 : decode b_Sq_term 1 = .ok (.iload_n 2, 1) := by decide +kernel
theorem d_Sq_term_2 : decode b_Sq_term 2 = .ok (.invokestatic 52, 3) := by decide +kernel
theorem d_Sq_term_5 : decode b_Sq_term 5 = .ok (.istore 4, 2) := by decide +kernel
theorem d_Sq_term_7 : decode b_Sq_term 7 = .ok (.iload 4, 2) := by decide +kernel
theorem d_Sq_term_9 : decode b_Sq_term 9 = .ok (.iconst (-1), 1) := by decide +kernel
theorem d_Sq_term_10 : decode b_Sq_term 10 = .ok (.if_icmp .eq 15, 3) := by decide +kernel
theorem d_Sq_term_13 : decode b_Sq_term 13 = .ok (.aload_n 0, 1) := by decide +kernel
theorem d_Sq_term_14 : decode b_Sq_term 14 = .ok (.getfield 48, 3) := by decide +kernel
theorem d_Sq_term_17 : decode b_Sq_term 17 = .ok (.iconst 1, 1) := by decide +kernel
theorem d_Sq_term_18 : decode b_Sq_term 18 = .ok (.if_icmp .ne 17, 3) := by decide +kernel
theorem d_Sq_term_21 : decode b_Sq_term 21 = .ok (.iload_n 2, 1) := by decide +kernel
theorem d_Sq_term_22 : decode b_Sq_term 22 = .ok (.ifCond .eq 13, 3) := by decide +kernel
theorem d_Sq_term_25 : decode b_Sq_term 25 = .ok (.new 56, 3) := by decide +kernel
theorem d_Sq_term_28 : decode b_Sq_term 28 = .ok (.dup, 1) := by decide +kernel
theorem d_Sq_term_29 : decode b_Sq_term 29 = .ok (.ldc 58, 2) := by decide +kernel
theorem d_Sq_term_31 : decode b_Sq_term 31 = .ok (.invokespecial 60, 3) := by decide +kernel
theorem d_Sq_term_34 : decode b_Sq_term 34 = .ok (.athrow, 1) := by decide +kernel
theorem d_Sq_term_35 : decode b_Sq_term 35 = .ok (.iload_n 3, 1) := by decide +kernel
theorem d_Sq_term_36 : decode b_Sq_term 36 = .ok (.bipush 15, 2) := by decide +kernel
theorem d_Sq_term_38 : decode b_Sq_term 38 = .ok (.invokestatic 63, 3) := by decide +kernel
theorem d_Sq_term_41 : decode b_Sq_term 41 = .ok (.ifCond .ne 13, 3) := by decide +kernel
theorem d_Sq_term_44 : decode b_Sq_term 44 = .ok (.new 56, 3) := by decide +kernel
theorem d_Sq_term_47 : decode b_Sq_term 47 = .ok (.dup, 1) := by decide +kernel
theorem d_Sq_term_48 : decode b_Sq_term 48 = .ok (.ldc 67, 2) := by decide +kernel
theorem d_Sq_term_50 : decode b_Sq_term 50 = .ok (.invokespecial 60, 3) := by decide +kernel
theorem d_Sq_term_53 : decode b_Sq_term 53 = .ok (.athrow, 1) := by decide +kernel
theorem d_Sq_term_54 : decode b_Sq_term 54 = .ok (.aload_n 0, 1) := by decide +kernel
theorem d_Sq_term_55 : decode b_Sq_term 55 = .ok (.getfield 9, 3) := by decide +kernel
theorem d_Sq_term_58 : decode b_Sq_term 58 = .ok (.iload 4, 2) := by decide +kernel
theorem d_Sq_term_60 : decode b_Sq_term 60 = .ok (.iaload, 1) := by decide +kernel
theorem d_Sq_term_61 : decode b_Sq_term 61 = .ok (.iload_n 3, 1) := by decide +kernel
theorem d_Sq_term_62 : decode b_Sq_term 62 = .ok (.if_icmp .ne 5, 3) := by decide +kernel
theorem d_Sq_term_65 : decode b_Sq_term 65 = .ok (.iconst 0, 1) := by decide +kernel
theorem d_Sq_term_66 : decode b_Sq_term 66 = .ok (.ireturn, 1) := by decide +kernel
theorem d_Sq_term_67 : decode b_Sq_term 67 = .ok (.aload_n 0, 1) := by decide +kernel
theorem d_Sq_term_68 : decode b_Sq_term 68 = .ok (.getfield 9, 3) := by decide +kernel
theorem d_Sq_term_71 : decode b_Sq_term 71 = .ok (.iload 4, 2) := by decide +kernel
theorem d_Sq_term_73 : decode b_Sq_term 73 = .ok (.iload_n 3, 1) := by decide +kernel
theorem d_Sq_term_74 : decode b_Sq_term 74 = .ok (.iastore, 1) := by decide +kernel
theorem d_Sq_term_75 : decode b_Sq_term 75 = .ok (.aload_n 0, 1) := by decide +kernel
theorem d_Sq_term_76 : decode b_Sq_term 76 = .ok (.invokevirtual 69, 3) := by decide +kernel
theorem d_Sq_term_79 : decode b_Sq_term 79 = .ok (.iconst 1, 1) := by decide +kernel
theorem d_Sq_term_80 : decode b_Sq_term 80 = .ok (.ireturn, 1) := by decide +kernel
theorem d_Sq_basis_0 : decode b_Sq_basis 0 = .ok (.aload_n 0, 1) := by decide +kernel
theorem d_Sq_basis_1 : decode b_Sq_basis 1 = .ok (.getfield 19, 3) := by decide +kernel
theorem d_Sq_basis_4 : decode b_Sq_basis 4 = .ok (.aload_n 0, 1) := by decide +kernel
theorem d_Sq_basis_5 : decode b_Sq_basis 5 = .ok (.getfield 9, 3) := by decide +kernel
theorem d_Sq_basis_8 : decode b_Sq_basis 8 = .ok (.invokevirtual 72, 3) := by decide +kernel
theorem d_Sq_basis_11 : decode b_Sq_basis 11 = .ok (.ifCond .eq 7, 3) := by decide +kernel
theorem d_Sq_basis_14 : decode b_Sq_basis 14 = .ok (.iconst (-1), 1) := by decide +kernel
theorem d_Sq_basis_15 : decode b_Sq_basis 15 = .ok (.goto 10, 3) := by decide +kernel
theorem d_Sq_basis_18 : decode b_Sq_basis 18 = .ok (.aload_n 0, 1) := by decide +kernel
theorem d_Sq_basis_19 : decode b_Sq_basis 19 = .ok (.getfield 19, 3) := by decide +kernel
theorem d_Sq_basis_22 : decode b_Sq_basis 22 = .ok (.getfield 76, 3) := by decide +kernel
theorem d_Sq_basis_25 : decode b_Sq_basis 25 = .ok (.ireturn, 1) := by decide +kernel
theorem d_Sq_member_0 : decode b_Sq_member 0 = .ok (.aload_n 0, 1) := by decide +kernel
theorem d_Sq_member_1 : decode b_Sq_member 1 = .ok (.iload_n 1, 1) := by decide +kernel
theorem d_Sq_member_2 : decode b_Sq_member 2 = .ok (.invokevirtual 79, 3) := by decide +kernel
theorem d_Sq_member_5 : decode b_Sq_member 5 = .ok (.ifCond .ne 13, 3) := by decide +kernel
theorem d_Sq_member_8 : decode b_Sq_member 8 = .ok (.new 83, 3) := by decide +kernel
theorem d_Sq_member_11 : decode b_Sq_member 11 = .ok (.dup, 1) := by decide +kernel
theorem d_Sq_member_12 : decode b_Sq_member 12 = .ok (.ldc 85, 2) := by decide +kernel
theorem d_Sq_member_14 : decode b_Sq_member 14 = .ok (.invokespecial 87, 3) := by decide +kernel
theorem d_Sq_member_17 : decode b_Sq_member 17 = .ok (.athrow, 1) := by decide +kernel
theorem d_Sq_member_18 : decode b_Sq_member 18 = .ok (.iload_n 2, 1) := by decide +kernel
theorem d_Sq_member_19 : decode b_Sq_member 19 = .ok (.ifCond .eq 18, 3) := by decide +kernel
theorem d_Sq_member_22 : decode b_Sq_member 22 = .ok (.iload_n 2, 1) := by decide +kernel
theorem d_Sq_member_23 : decode b_Sq_member 23 = .ok (.iconst 1, 1) := by decide +kernel
theorem d_Sq_member_24 : decode b_Sq_member 24 = .ok (.if_icmp .eq 13, 3) := by decide +kernel
theorem d_Sq_member_27 : decode b_Sq_member 27 = .ok (.new 56, 3) := by decide +kernel
theorem d_Sq_member_30 : decode b_Sq_member 30 = .ok (.dup, 1) := by decide +kernel
theorem d_Sq_member_31 : decode b_Sq_member 31 = .ok (.ldc 88, 2) := by decide +kernel
theorem d_Sq_member_33 : decode b_Sq_member 33 = .ok (.invokespecial 60, 3) := by decide +kernel
theorem d_Sq_member_36 : decode b_Sq_member 36 = .ok (.athrow, 1) := by decide +kernel
theorem d_Sq_member_37 : decode b_Sq_member 37 = .ok (.aload_n 0, 1) := by decide +kernel
theorem d_Sq_member_38 : decode b_Sq_member 38 = .ok (.getfield 19, 3) := by decide +kernel
theorem d_Sq_member_41 : decode b_Sq_member 41 = .ok (.getfield 90, 3) := by decide +kernel
theorem d_Sq_member_44 : decode b_Sq_member 44 = .ok (.iload_n 1, 1) := by decide +kernel
theorem d_Sq_member_45 : decode b_Sq_member 45 = .ok (.iaload, 1) := by decide +kernel
theorem d_Sq_member_46 : decode b_Sq_member 46 = .ok (.istore_n 3, 1) := by decide +kernel
theorem d_Sq_member_47 : decode b_Sq_member 47 = .ok (.iload_n 2, 1) := by decide +kernel
theorem d_Sq_member_48 : decode b_Sq_member 48 = .ok (.ifCond .ne 11, 3) := by decide +kernel
theorem d_Sq_member_51 : decode b_Sq_member 51 = .ok (.getstatic 93, 3) := by decide +kernel
theorem d_Sq_member_54 : decode b_Sq_member 54 = .ok (.iload_n 3, 1) := by decide +kernel
theorem d_Sq_member_55 : decode b_Sq_member 55 = .ok (.iaload, 1) := by decide +kernel
theorem d_Sq_member_56 : decode b_Sq_member 56 = .ok (.goto 8, 3) := by decide +kernel
theorem d_Sq_member_59 : decode b_Sq_member 59 = .ok (.getstatic 96, 3) := by decide +kernel
theorem d_Sq_member_62 : decode b_Sq_member 62 = .ok (.iload_n 3, 1) := by decide +kernel
theorem d_Sq_member_63 : decode b_Sq_member 63 = .ok (.iaload, 1) := by decide +kernel
theorem d_Sq_member_64 : decode b_Sq_member 64 = .ok (.ireturn, 1) := by decide +kernel
theorem d_Sq_put_0 : decode b_Sq_put 0 = .ok (.aload_n 0, 1) := by decide +kernel
theorem d_Sq_put_1 : decode b_Sq_put 1 = .ok (.iload_n 1, 1) := by decide +kernel
theorem d_Sq_put_2 : decode b_Sq_put 2 = .ok (.invokevirtual 79, 3) := by decide +kernel
theorem d_Sq_put_5 : decode b_Sq_put 5 = .ok (.ifCond .eq 11, 3) := by decide +kernel
theorem d_Sq_put_8 : decode b_Sq_put 8 = .ok (.aload_n 0, 1) := by decide +kernel
theorem d_Sq_put_9 : decode b_Sq_put 9 = .ok (.iload_n 2, 1) := by decide +kernel
theorem d_Sq_put_10 : decode b_Sq_put 10 = .ok (.invokevirtual 79, 3) := by decide +kernel
theorem d_Sq_put_13 : decode b_Sq_put 13 = .ok (.ifCond .ne 13, 3) := by decide +kernel
theorem d_Sq_put_16 : decode b_Sq_put 16 = .ok (.new 83, 3) := by decide +kernel
theorem d_Sq_put_19 : decode b_Sq_put 19 = .ok (.dup, 1) := by decide +kernel
theorem d_Sq_put_20 : decode b_Sq_put 20 = .ok (.ldc 85, 2) := by decide +kernel
theorem d_Sq_put_22 : decode b_Sq_put 22 = .ok (.invokespecial 87, 3) := by decide +kernel
theorem d_Sq_put_25 : decode b_Sq_put 25 = .ok (.athrow, 1) := by decide +kernel
theorem d_Sq_put_26 : decode b_Sq_put 26 = .ok (.iload_n 3, 1) := by decide +kernel
theorem d_Sq_put_27 : decode b_Sq_put 27 = .ok (.bipush 30, 2) := by decide +kernel
theorem d_Sq_put_29 : decode b_Sq_put 29 = .ok (.invokestatic 63, 3) := by decide +kernel
theorem d_Sq_put_32 : decode b_Sq_put 32 = .ok (.ifCond .ne 13, 3) := by decide +kernel
theorem d_Sq_put_35 : decode b_Sq_put 35 = .ok (.new 56, 3) := by decide +kernel
theorem d_Sq_put_38 : decode b_Sq_put 38 = .ok (.dup, 1) := by decide +kernel
theorem d_Sq_put_39 : decode b_Sq_put 39 = .ok (.ldc 99, 2) := by decide +kernel
theorem d_Sq_put_41 : decode b_Sq_put 41 = .ok (.invokespecial 60, 3) := by decide +kernel
theorem d_Sq_put_44 : decode b_Sq_put 44 = .ok (.athrow, 1) := by decide +kernel
theorem d_Sq_put_45 : decode b_Sq_put 45 = .ok (.iload_n 1, 1) := by decide +kernel
theorem d_Sq_put_46 : decode b_Sq_put 46 = .ok (.iload_n 2, 1) := by decide +kernel
theorem d_Sq_put_47 : decode b_Sq_put 47 = .ok (.invokestatic 101, 3) := by decide +kernel
theorem d_Sq_put_50 : decode b_Sq_put 50 = .ok (.istore 4, 2) := by decide +kernel
theorem d_Sq_put_52 : decode b_Sq_put 52 = .ok (.aload_n 0, 1) := by decide +kernel
theorem d_Sq_put_53 : decode b_Sq_put 53 = .ok (.getfield 13, 3) := by decide +kernel
theorem d_Sq_put_56 : decode b_Sq_put 56 = .ok (.iload 4, 2) := by decide +kernel
theorem d_Sq_put_58 : decode b_Sq_put 58 = .ok (.iaload, 1) := by decide +kernel
theorem d_Sq_put_59 : decode b_Sq_put 59 = .ok (.iload_n 3, 1) := by decide +kernel
theorem d_Sq_put_60 : decode b_Sq_put 60 = .ok (.if_icmp .ne 5, 3) := by decide +kernel
theorem d_Sq_put_63 : decode b_Sq_put 63 = .ok (.iconst 0, 1) := by decide +kernel
theorem d_Sq_put_64 : decode b_Sq_put 64 = .ok (.ireturn, 1) := by decide +kernel
theorem d_Sq_put_65 : decode b_Sq_put 65 = .ok (.aload_n 0, 1) := by decide +kernel
theorem d_Sq_put_66 : decode b_Sq_put 66 = .ok (.getfield 13, 3) := by decide +kernel
theorem d_Sq_put_69 : decode b_Sq_put 69 = .ok (.iload 4, 2) := by decide +kernel
theorem d_Sq_put_71 : decode b_Sq_put 71 = .ok (.iload_n 3, 1) := by decide +kernel
theorem d_Sq_put_72 : decode b_Sq_put 72 = .ok (.iastore, 1) := by decide +kernel
theorem d_Sq_put_73 : decode b_Sq_put 73 = .ok (.aload_n 0, 1) := by decide +kernel
theorem d_Sq_put_74 : decode b_Sq_put 74 = .ok (.iconst 0, 1) := by decide +kernel
theorem d_Sq_put_75 : decode b_Sq_put 75 = .ok (.putfield 44, 3) := by decide +kernel
theorem d_Sq_put_78 : decode b_Sq_put 78 = .ok (.iconst 1, 1) := by decide +kernel
theorem d_Sq_put_79 : decode b_Sq_put 79 = .ok (.ireturn, 1) := by decide +kernel
theorem d_Sq_at_0 : decode b_Sq_at 0 = .ok (.aload_n 0, 1) := by decide +kernel
theorem d_Sq_at_1 : decode b_Sq_at 1 = .ok (.iload_n 1, 1) := by decide +kernel
theorem d_Sq_at_2 : decode b_Sq_at 2 = .ok (.invokevirtual 79, 3) := by decide +kernel
theorem d_Sq_at_5 : decode b_Sq_at 5 = .ok (.ifCond .eq 11, 3) := by decide +kernel
theorem d_Sq_at_8 : decode b_Sq_at 8 = .ok (.aload_n 0, 1) := by decide +kernel
theorem d_Sq_at_9 : decode b_Sq_at 9 = .ok (.iload_n 2, 1) := by decide +kernel
theorem d_Sq_at_10 : decode b_Sq_at 10 = .ok (.invokevirtual 79, 3) := by decide +kernel
theorem d_Sq_at_13 : decode b_Sq_at 13 = .ok (.ifCond .ne 13, 3) := by decide +kernel
theorem d_Sq_at_16 : decode b_Sq_at 16 = .ok (.new 83, 3) := by decide +kernel
theorem d_Sq_at_19 : decode b_Sq_at 19 = .ok (.dup, 1) := by decide +kernel
theorem d_Sq_at_20 : decode b_Sq_at 20 = .ok (.ldc 85, 2) := by decide +kernel
theorem d_Sq_at_22 : decode b_Sq_at 22 = .ok (.invokespecial 87, 3) := by decide +kernel
theorem d_Sq_at_25 : decode b_Sq_at 25 = .ok (.athrow, 1) := by decide +kernel
theorem d_Sq_at_26 : decode b_Sq_at 26 = .ok (.aload_n 0, 1) := by decide +kernel
theorem d_Sq_at_27 : decode b_Sq_at 27 = .ok (.getfield 13, 3) := by decide +kernel
theorem d_Sq_at_30 : decode b_Sq_at 30 = .ok (.iload_n 1, 1) := by decide +kernel
theorem d_Sq_at_31 : decode b_Sq_at 31 = .ok (.iload_n 2, 1) := by decide +kernel
theorem d_Sq_at_32 : decode b_Sq_at 32 = .ok (.invokestatic 101, 3) := by decide +kernel
theorem d_Sq_at_35 : decode b_Sq_at 35 = .ok (.iaload, 1) := by decide +kernel
theorem d_Sq_at_36 : decode b_Sq_at 36 = .ok (.ireturn, 1) := by decide +kernel
theorem d_Sq_check_0 : decode b_Sq_check 0 = .ok (.aload_n 0, 1) := by decide +kernel
theorem d_Sq_check_1 : decode b_Sq_check 1 = .ok (.iconst 0, 1) := by decide +kernel
theorem d_Sq_check_2 : decode b_Sq_check 2 = .ok (.putfield 44, 3) := by decide +kernel
theorem d_Sq_check_5 : decode b_Sq_check 5 = .ok (.aload_n 0, 1) := by decide +kernel
theorem d_Sq_check_6 : decode b_Sq_check 6 = .ok (.getfield 26, 3) := by decide +kernel
theorem d_Sq_check_9 : decode b_Sq_check 9 = .ok (.aload_n 0, 1) := by decide +kernel
theorem d_Sq_check_10 : decode b_Sq_check 10 = .ok (.getfield 13, 3) := by decide +kernel
theorem d_Sq_check_13 : decode b_Sq_check 13 = .ok (.aload_n 0, 1) := by decide +kernel
theorem d_Sq_check_14 : decode b_Sq_check 14 = .ok (.getfield 9, 3) := by decide +kernel
theorem d_Sq_check_17 : decode b_Sq_check 17 = .ok (.invokevirtual 104, 3) := by decide +kernel
theorem d_Sq_check_20 : decode b_Sq_check 20 = .ok (.ifCond .ne 5, 3) := by decide +kernel
theorem d_Sq_check_23 : decode b_Sq_check 23 = .ok (.iconst 1, 1) := by decide +kernel
theorem d_Sq_check_24 : decode b_Sq_check 24 = .ok (.ireturn, 1) := by decide +kernel
theorem d_Sq_check_25 : decode b_Sq_check 25 = .ok (.aload_n 0, 1) := by decide +kernel
theorem d_Sq_check_26 : decode b_Sq_check 26 = .ok (.getfield 33, 3) := by decide +kernel
theorem d_Sq_check_29 : decode b_Sq_check 29 = .ok (.aload_n 0, 1) := by decide +kernel
theorem d_Sq_check_30 : decode b_Sq_check 30 = .ok (.getfield 13, 3) := by decide +kernel
theorem d_Sq_check_33 : decode b_Sq_check 33 = .ok (.aload_n 0, 1) := by decide +kernel
theorem d_Sq_check_34 : decode b_Sq_check 34 = .ok (.getfield 19, 3) := by decide +kernel
theorem d_Sq_check_37 : decode b_Sq_check 37 = .ok (.getfield 76, 3) := by decide +kernel
theorem d_Sq_check_40 : decode b_Sq_check 40 = .ok (.invokevirtual 108, 3) := by decide +kernel
theorem d_Sq_check_43 : decode b_Sq_check 43 = .ok (.iconst (-1), 1) := by decide +kernel
theorem d_Sq_check_44 : decode b_Sq_check 44 = .ok (.if_icmp .eq 5, 3) := by decide +kernel
theorem d_Sq_check_47 : decode b_Sq_check 47 = .ok (.iconst 2, 1) := by decide +kernel
theorem d_Sq_check_48 : decode b_Sq_check 48 = .ok (.ireturn, 1) := by decide +kernel
theorem d_Sq_check_49 : decode b_Sq_check 49 = .ok (.aload_n 0, 1) := by decide +kernel
theorem d_Sq_check_50 : decode b_Sq_check 50 = .ok (.iconst 1, 1) := by decide +kernel
theorem d_Sq_check_51 : decode b_Sq_check 51 = .ok (.putfield 44, 3) := by decide +kernel
theorem d_Sq_check_54 : decode b_Sq_check 54 = .ok (.iconst 0, 1) := by decide +kernel
theorem d_Sq_check_55 : decode b_Sq_check 55 = .ok (.ireturn, 1) := by decide +kernel
theorem d_Sq_squares_0 : decode b_Sq_squares 0 = .ok (.aload_n 0, 1) := by decide +kernel
theorem d_Sq_squares_1 : decode b_Sq_squares 1 = .ok (.getfield 44, 3) := by decide +kernel
theorem d_Sq_squares_4 : decode b_Sq_squares 4 = .ok (.ifCond .ne 13, 3) := by decide +kernel
theorem d_Sq_squares_7 : decode b_Sq_squares 7 = .ok (.new 112, 3) := by decide +kernel
theorem d_Sq_squares_10 : decode b_Sq_squares 10 = .ok (.dup, 1) := by decide +kernel
theorem d_Sq_squares_11 : decode b_Sq_squares 11 = .ok (.ldc 114, 2) := by decide +kernel
theorem d_Sq_squares_13 : decode b_Sq_squares 13 = .ok (.invokespecial 116, 3) := by decide +kernel
theorem d_Sq_squares_16 : decode b_Sq_squares 16 = .ok (.athrow, 1) := by decide +kernel
theorem d_Sq_squares_17 : decode b_Sq_squares 17 = .ok (.aload_n 0, 1) := by decide +kernel
theorem d_Sq_squares_18 : decode b_Sq_squares 18 = .ok (.getfield 33, 3) := by decide +kernel
theorem d_Sq_squares_21 : decode b_Sq_squares 21 = .ok (.getfield 117, 3) := by decide +kernel
theorem d_Sq_squares_24 : decode b_Sq_squares 24 = .ok (.ireturn, 1) := by decide +kernel
theorem d_Sq_weight_0 : decode b_Sq_weight 0 = .ok (.aload_n 0, 1) := by decide +kernel
theorem d_Sq_weight_1 : decode b_Sq_weight 1 = .ok (.getfield 44, 3) := by decide +kernel
theorem d_Sq_weight_4 : decode b_Sq_weight 4 = .ok (.ifCond .ne 13, 3) := by decide +kernel
theorem d_Sq_weight_7 : decode b_Sq_weight 7 = .ok (.new 112, 3) := by decide +kernel
theorem d_Sq_weight_10 : decode b_Sq_weight 10 = .ok (.dup, 1) := by decide +kernel
theorem d_Sq_weight_11 : decode b_Sq_weight 11 = .ok (.ldc 114, 2) := by decide +kernel
theorem d_Sq_weight_13 : decode b_Sq_weight 13 = .ok (.invokespecial 116, 3) := by decide +kernel
theorem d_Sq_weight_16 : decode b_Sq_weight 16 = .ok (.athrow, 1) := by decide +kernel
theorem d_Sq_weight_17 : decode b_Sq_weight 17 = .ok (.aload_n 0, 1) := by decide +kernel
theorem d_Sq_weight_18 : decode b_Sq_weight 18 = .ok (.iload_n 1, 1) := by decide +kernel
theorem d_Sq_weight_19 : decode b_Sq_weight 19 = .ok (.invokevirtual 118, 3) := by decide +kernel
theorem d_Sq_weight_22 : decode b_Sq_weight 22 = .ok (.ifCond .ne 13, 3) := by decide +kernel
theorem d_Sq_weight_25 : decode b_Sq_weight 25 = .ok (.new 83, 3) := by decide +kernel
theorem d_Sq_weight_28 : decode b_Sq_weight 28 = .ok (.dup, 1) := by decide +kernel
theorem d_Sq_weight_29 : decode b_Sq_weight 29 = .ok (.ldc 121, 2) := by decide +kernel
theorem d_Sq_weight_31 : decode b_Sq_weight 31 = .ok (.invokespecial 87, 3) := by decide +kernel
theorem d_Sq_weight_34 : decode b_Sq_weight 34 = .ok (.athrow, 1) := by decide +kernel
theorem d_Sq_weight_35 : decode b_Sq_weight 35 = .ok (.iload_n 2, 1) := by decide +kernel
theorem d_Sq_weight_36 : decode b_Sq_weight 36 = .ok (.invokestatic 123, 3) := by decide +kernel
theorem d_Sq_weight_39 : decode b_Sq_weight 39 = .ok (.ifCond .ne 13, 3) := by decide +kernel
theorem d_Sq_weight_42 : decode b_Sq_weight 42 = .ok (.new 56, 3) := by decide +kernel
theorem d_Sq_weight_45 : decode b_Sq_weight 45 = .ok (.dup, 1) := by decide +kernel
theorem d_Sq_weight_46 : decode b_Sq_weight 46 = .ok (.ldc 126, 2) := by decide +kernel
theorem d_Sq_weight_48 : decode b_Sq_weight 48 = .ok (.invokespecial 60, 3) := by decide +kernel
theorem d_Sq_weight_51 : decode b_Sq_weight 51 = .ok (.athrow, 1) := by decide +kernel
theorem d_Sq_weight_52 : decode b_Sq_weight 52 = .ok (.aload_n 0, 1) := by decide +kernel
theorem d_Sq_weight_53 : decode b_Sq_weight 53 = .ok (.getfield 33, 3) := by decide +kernel
theorem d_Sq_weight_56 : decode b_Sq_weight 56 = .ok (.iload_n 1, 1) := by decide +kernel
theorem d_Sq_weight_57 : decode b_Sq_weight 57 = .ok (.invokevirtual 128, 3) := by decide +kernel
theorem d_Sq_weight_60 : decode b_Sq_weight 60 = .ok (.aload_n 0, 1) := by decide +kernel
theorem d_Sq_weight_61 : decode b_Sq_weight 61 = .ok (.getfield 33, 3) := by decide +kernel
theorem d_Sq_weight_64 : decode b_Sq_weight 64 = .ok (.iload_n 1, 1) := by decide +kernel
theorem d_Sq_weight_65 : decode b_Sq_weight 65 = .ok (.invokevirtual 132, 3) := by decide +kernel
theorem d_Sq_weight_68 : decode b_Sq_weight 68 = .ok (.iload_n 2, 1) := by decide +kernel
theorem d_Sq_weight_69 : decode b_Sq_weight 69 = .ok (.invokestatic 135, 3) := by decide +kernel
theorem d_Sq_weight_72 : decode b_Sq_weight 72 = .ok (.lreturn, 1) := by decide +kernel
theorem d_Sq_row_0 : decode b_Sq_row 0 = .ok (.aload_n 0, 1) := by decide +kernel
theorem d_Sq_row_1 : decode b_Sq_row 1 = .ok (.getfield 44, 3) := by decide +kernel
theorem d_Sq_row_4 : decode b_Sq_row 4 = .ok (.ifCond .ne 13, 3) := by decide +kernel
theorem d_Sq_row_7 : decode b_Sq_row 7 = .ok (.new 112, 3) := by decide +kernel
theorem d_Sq_row_10 : decode b_Sq_row 10 = .ok (.dup, 1) := by decide +kernel
theorem d_Sq_row_11 : decode b_Sq_row 11 = .ok (.ldc 114, 2) := by decide +kernel
theorem d_Sq_row_13 : decode b_Sq_row 13 = .ok (.invokespecial 116, 3) := by decide +kernel
theorem d_Sq_row_16 : decode b_Sq_row 16 = .ok (.athrow, 1) := by decide +kernel
theorem d_Sq_row_17 : decode b_Sq_row 17 = .ok (.aload_n 0, 1) := by decide +kernel
theorem d_Sq_row_18 : decode b_Sq_row 18 = .ok (.iload_n 1, 1) := by decide +kernel
theorem d_Sq_row_19 : decode b_Sq_row 19 = .ok (.invokevirtual 118, 3) := by decide +kernel
theorem d_Sq_row_22 : decode b_Sq_row 22 = .ok (.ifCond .eq 11, 3) := by decide +kernel
theorem d_Sq_row_25 : decode b_Sq_row 25 = .ok (.aload_n 0, 1) := by decide +kernel
theorem d_Sq_row_26 : decode b_Sq_row 26 = .ok (.iload_n 2, 1) := by decide +kernel
theorem d_Sq_row_27 : decode b_Sq_row 27 = .ok (.invokevirtual 79, 3) := by decide +kernel
theorem d_Sq_row_30 : decode b_Sq_row 30 = .ok (.ifCond .ne 13, 3) := by decide +kernel
theorem d_Sq_row_33 : decode b_Sq_row 33 = .ok (.new 83, 3) := by decide +kernel
theorem d_Sq_row_36 : decode b_Sq_row 36 = .ok (.dup, 1) := by decide +kernel
theorem d_Sq_row_37 : decode b_Sq_row 37 = .ok (.ldc 139, 2) := by decide +kernel
theorem d_Sq_row_39 : decode b_Sq_row 39 = .ok (.invokespecial 87, 3) := by decide +kernel
theorem d_Sq_row_42 : decode b_Sq_row 42 = .ok (.athrow, 1) := by decide +kernel
theorem d_Sq_row_43 : decode b_Sq_row 43 = .ok (.iload_n 3, 1) := by decide +kernel
theorem d_Sq_row_44 : decode b_Sq_row 44 = .ok (.invokestatic 123, 3) := by decide +kernel
theorem d_Sq_row_47 : decode b_Sq_row 47 = .ok (.ifCond .ne 13, 3) := by decide +kernel
theorem d_Sq_row_50 : decode b_Sq_row 50 = .ok (.new 56, 3) := by decide +kernel
theorem d_Sq_row_53 : decode b_Sq_row 53 = .ok (.dup, 1) := by decide +kernel
theorem d_Sq_row_54 : decode b_Sq_row 54 = .ok (.ldc 126, 2) := by decide +kernel
theorem d_Sq_row_56 : decode b_Sq_row 56 = .ok (.invokespecial 60, 3) := by decide +kernel
theorem d_Sq_row_59 : decode b_Sq_row 59 = .ok (.athrow, 1) := by decide +kernel
theorem d_Sq_row_60 : decode b_Sq_row 60 = .ok (.aload_n 0, 1) := by decide +kernel
theorem d_Sq_row_61 : decode b_Sq_row 61 = .ok (.getfield 33, 3) := by decide +kernel
theorem d_Sq_row_64 : decode b_Sq_row 64 = .ok (.iload_n 1, 1) := by decide +kernel
theorem d_Sq_row_65 : decode b_Sq_row 65 = .ok (.iload_n 2, 1) := by decide +kernel
theorem d_Sq_row_66 : decode b_Sq_row 66 = .ok (.invokevirtual 141, 3) := by decide +kernel
theorem d_Sq_row_69 : decode b_Sq_row 69 = .ok (.aload_n 0, 1) := by decide +kernel
theorem d_Sq_row_70 : decode b_Sq_row 70 = .ok (.getfield 33, 3) := by decide +kernel
theorem d_Sq_row_73 : decode b_Sq_row 73 = .ok (.iload_n 1, 1) := by decide +kernel
theorem d_Sq_row_74 : decode b_Sq_row 74 = .ok (.invokevirtual 145, 3) := by decide +kernel
theorem d_Sq_row_77 : decode b_Sq_row 77 = .ok (.iload_n 3, 1) := by decide +kernel
theorem d_Sq_row_78 : decode b_Sq_row 78 = .ok (.invokestatic 135, 3) := by decide +kernel
theorem d_Sq_row_81 : decode b_Sq_row 81 = .ok (.lreturn, 1) := by decide +kernel
theorem d_Sq_free_0 : decode b_Sq_free 0 = .ok (.aload_n 0, 1) := by decide +kernel
theorem d_Sq_free_1 : decode b_Sq_free 1 = .ok (.getfield 26, 3) := by decide +kernel
theorem d_Sq_free_4 : decode b_Sq_free 4 = .ok (.getfield 148, 3) := by decide +kernel
theorem d_Sq_free_7 : decode b_Sq_free 7 = .ok (.ireturn, 1) := by decide +kernel
theorem d_Sq_find_0 : decode b_Sq_find 0 = .ok (.iload_n 1, 1) := by decide +kernel
theorem d_Sq_find_1 : decode b_Sq_find 1 = .ok (.ifCond .lt 8, 3) := by decide +kernel
theorem d_Sq_find_4 : decode b_Sq_find 4 = .ok (.iload_n 1, 1) := by decide +kernel
theorem d_Sq_find_5 : decode b_Sq_find 5 = .ok (.iconst 2, 1) := by decide +kernel
theorem d_Sq_find_6 : decode b_Sq_find 6 = .ok (.if_icmp .le 13, 3) := by decide +kernel
theorem d_Sq_find_9 : decode b_Sq_find 9 = .ok (.new 56, 3) := by decide +kernel
theorem d_Sq_find_12 : decode b_Sq_find 12 = .ok (.dup, 1) := by decide +kernel
theorem d_Sq_find_13 : decode b_Sq_find 13 = .ok (.ldc 151, 2) := by decide +kernel
theorem d_Sq_find_15 : decode b_Sq_find 15 = .ok (.invokespecial 60, 3) := by decide +kernel
theorem d_Sq_find_18 : decode b_Sq_find 18 = .ok (.athrow, 1) := by decide +kernel
theorem d_Sq_find_19 : decode b_Sq_find 19 = .ok (.aload_n 0, 1) := by decide +kernel
theorem d_Sq_find_20 : decode b_Sq_find 20 = .ok (.getfield 40, 3) := by decide +kernel
theorem d_Sq_find_23 : decode b_Sq_find 23 = .ok (.aload_n 0, 1) := by decide +kernel
theorem d_Sq_find_24 : decode b_Sq_find 24 = .ok (.getfield 26, 3) := by decide +kernel
theorem d_Sq_find_27 : decode b_Sq_find 27 = .ok (.aload_n 0, 1) := by decide +kernel
theorem d_Sq_find_28 : decode b_Sq_find 28 = .ok (.getfield 9, 3) := by decide +kernel
theorem d_Sq_find_31 : decode b_Sq_find 31 = .ok (.aload_n 0, 1) := by decide +kernel
theorem d_Sq_find_32 : decode b_Sq_find 32 = .ok (.getfield 19, 3) := by decide +kernel
theorem d_Sq_find_35 : decode b_Sq_find 35 = .ok (.getfield 76, 3) := by decide +kernel
theorem d_Sq_find_38 : decode b_Sq_find 38 = .ok (.iload_n 1, 1) := by decide +kernel
theorem d_Sq_find_39 : decode b_Sq_find 39 = .ok (.invokevirtual 153, 3) := by decide +kernel
theorem d_Sq_find_42 : decode b_Sq_find 42 = .ok (.istore_n 2, 1) := by decide +kernel
theorem d_Sq_find_43 : decode b_Sq_find 43 = .ok (.iload_n 2, 1) := by decide +kernel
theorem d_Sq_find_44 : decode b_Sq_find 44 = .ok (.iconst (-1), 1) := by decide +kernel
theorem d_Sq_find_45 : decode b_Sq_find 45 = .ok (.if_icmp .eq 52, 3) := by decide +kernel
theorem d_Sq_find_48 : decode b_Sq_find 48 = .ok (.aload_n 0, 1) := by decide +kernel
theorem d_Sq_find_49 : decode b_Sq_find 49 = .ok (.getfield 40, 3) := by decide +kernel
theorem d_Sq_find_52 : decode b_Sq_find 52 = .ok (.getfield 157, 3) := by decide +kernel
theorem d_Sq_find_55 : decode b_Sq_find 55 = .ok (.iconst 0, 1) := by decide +kernel
theorem d_Sq_find_56 : decode b_Sq_find 56 = .ok (.aload_n 0, 1) := by decide +kernel
theorem d_Sq_find_57 : decode b_Sq_find 57 = .ok (.getfield 13, 3) := by decide +kernel
theorem d_Sq_find_60 : decode b_Sq_find 60 = .ok (.iconst 0, 1) := by decide +kernel
theorem d_Sq_find_61 : decode b_Sq_find 61 = .ok (.bipush 36, 2) := by decide +kernel
theorem d_Sq_find_63 : decode b_Sq_find 63 = .ok (.invokestatic 158, 3) := by decide +kernel
theorem d_Sq_find_66 : decode b_Sq_find 66 = .ok (.aload_n 0, 1) := by decide +kernel
theorem d_Sq_find_67 : decode b_Sq_find 67 = .ok (.aload_n 0, 1) := by decide +kernel
theorem d_Sq_find_68 : decode b_Sq_find 68 = .ok (.getfield 33, 3) := by decide +kernel
theorem d_Sq_find_71 : decode b_Sq_find 71 = .ok (.aload_n 0, 1) := by decide +kernel
theorem d_Sq_find_72 : decode b_Sq_find 72 = .ok (.getfield 13, 3) := by decide +kernel
theorem d_Sq_find_75 : decode b_Sq_find 75 = .ok (.aload_n 0, 1) := by decide +kernel
theorem d_Sq_find_76 : decode b_Sq_find 76 = .ok (.getfield 19, 3) := by decide +kernel
theorem d_Sq_find_79 : decode b_Sq_find 79 = .ok (.getfield 76, 3) := by decide +kernel
theorem d_Sq_find_82 : decode b_Sq_find 82 = .ok (.invokevirtual 108, 3) := by decide +kernel
theorem d_Sq_find_85 : decode b_Sq_find 85 = .ok (.iconst (-1), 1) := by decide +kernel
theorem d_Sq_find_86 : decode b_Sq_find 86 = .ok (.if_icmp .ne 7, 3) := by decide +kernel
theorem d_Sq_find_89 : decode b_Sq_find 89 = .ok (.iconst 1, 1) := by decide +kernel
theorem d_Sq_find_90 : decode b_Sq_find 90 = .ok (.goto 4, 3) := by decide +kernel
theorem d_Sq_find_93 : decode b_Sq_find 93 = .ok (.iconst 0, 1) := by decide +kernel
theorem d_Sq_find_94 : decode b_Sq_find 94 = .ok (.putfield 44, 3) := by decide +kernel
theorem d_Sq_find_97 : decode b_Sq_find 97 = .ok (.iload_n 2, 1) := by decide +kernel
theorem d_Sq_find_98 : decode b_Sq_find 98 = .ok (.ireturn, 1) := by decide +kernel
theorem d_Sq_value_0 : decode b_Sq_value 0 = .ok (.iload_n 1, 1) := by decide +kernel
theorem d_Sq_value_1 : decode b_Sq_value 1 = .ok (.bipush 100, 2) := by decide +kernel
theorem d_Sq_value_3 : decode b_Sq_value 3 = .ok (.invokestatic 63, 3) := by decide +kernel
theorem d_Sq_value_6 : decode b_Sq_value 6 = .ok (.ifCond .eq 20, 3) := by decide +kernel
theorem d_Sq_value_9 : decode b_Sq_value 9 = .ok (.aload_n 0, 1) := by decide +kernel
theorem d_Sq_value_10 : decode b_Sq_value 10 = .ok (.getfield 48, 3) := by decide +kernel
theorem d_Sq_value_13 : decode b_Sq_value 13 = .ok (.iconst 2, 1) := by decide +kernel
theorem d_Sq_value_14 : decode b_Sq_value 14 = .ok (.if_icmp .ne 22, 3) := by decide +kernel
theorem d_Sq_value_17 : decode b_Sq_value 17 = .ok (.iload_n 2, 1) := by decide +kernel
theorem d_Sq_value_18 : decode b_Sq_value 18 = .ok (.bipush 100, 2) := by decide +kernel
theorem d_Sq_value_20 : decode b_Sq_value 20 = .ok (.invokestatic 63, 3) := by decide +kernel
theorem d_Sq_value_23 : decode b_Sq_value 23 = .ok (.ifCond .ne 13, 3) := by decide +kernel
theorem d_Sq_value_26 : decode b_Sq_value 26 = .ok (.new 56, 3) := by decide +kernel
theorem d_Sq_value_29 : decode b_Sq_value 29 = .ok (.dup, 1) := by decide +kernel
theorem d_Sq_value_30 : decode b_Sq_value 30 = .ok (.ldc 164, 2) := by decide +kernel
theorem d_Sq_value_32 : decode b_Sq_value 32 = .ok (.invokespecial 60, 3) := by decide +kernel
theorem d_Sq_value_35 : decode b_Sq_value 35 = .ok (.athrow, 1) := by decide +kernel
theorem d_Sq_value_36 : decode b_Sq_value 36 = .ok (.lconst 0, 1) := by decide +kernel
theorem d_Sq_value_37 : decode b_Sq_value 37 = .ok (.lstore_n 3, 1) := by decide +kernel
theorem d_Sq_value_38 : decode b_Sq_value 38 = .ok (.iconst 0, 1) := by decide +kernel
theorem d_Sq_value_39 : decode b_Sq_value 39 = .ok (.istore 5, 2) := by decide +kernel
theorem d_Sq_value_41 : decode b_Sq_value 41 = .ok (.iload 5, 2) := by decide +kernel
theorem d_Sq_value_43 : decode b_Sq_value 43 = .ok (.bipush 15, 2) := by decide +kernel
theorem d_Sq_value_45 : decode b_Sq_value 45 = .ok (.if_icmp .ge 42, 3) := by decide +kernel
theorem d_Sq_value_48 : decode b_Sq_value 48 = .ok (.lload_n 3, 1) := by decide +kernel
theorem d_Sq_value_49 : decode b_Sq_value 49 = .ok (.aload_n 0, 1) := by decide +kernel
theorem d_Sq_value_50 : decode b_Sq_value 50 = .ok (.getfield 9, 3) := by decide +kernel
theorem d_Sq_value_53 : decode b_Sq_value 53 = .ok (.iload 5, 2) := by decide +kernel
theorem d_Sq_value_55 : decode b_Sq_value 55 = .ok (.iaload, 1) := by decide +kernel
theorem d_Sq_value_56 : decode b_Sq_value 56 = .ok (.i2l, 1) := by decide +kernel
theorem d_Sq_value_57 : decode b_Sq_value 57 = .ok (.iload_n 1, 1) := by decide +kernel
theorem d_Sq_value_58 : decode b_Sq_value 58 = .ok (.getstatic 93, 3) := by decide +kernel
theorem d_Sq_value_61 : decode b_Sq_value 61 = .ok (.iload 5, 2) := by decide +kernel
theorem d_Sq_value_63 : decode b_Sq_value 63 = .ok (.iaload, 1) := by decide +kernel
theorem d_Sq_value_64 : decode b_Sq_value 64 = .ok (.invokestatic 166, 3) := by decide +kernel
theorem d_Sq_value_67 : decode b_Sq_value 67 = .ok (.lmul, 1) := by decide +kernel
theorem d_Sq_value_68 : decode b_Sq_value 68 = .ok (.iload_n 2, 1) := by decide +kernel
theorem d_Sq_value_69 : decode b_Sq_value 69 = .ok (.getstatic 96, 3) := by decide +kernel
theorem d_Sq_value_72 : decode b_Sq_value 72 = .ok (.iload 5, 2) := by decide +kernel
theorem d_Sq_value_74 : decode b_Sq_value 74 = .ok (.iaload, 1) := by decide +kernel
theorem d_Sq_value_75 : decode b_Sq_value 75 = .ok (.invokestatic 166, 3) := by decide +kernel
theorem d_Sq_value_78 : decode b_Sq_value 78 = .ok (.lmul, 1) := by decide +kernel
theorem d_Sq_value_79 : decode b_Sq_value 79 = .ok (.ladd, 1) := by decide +kernel
theorem d_Sq_value_80 : decode b_Sq_value 80 = .ok (.lstore_n 3, 1) := by decide +kernel
theorem d_Sq_value_81 : decode b_Sq_value 81 = .ok (.iinc 5 1, 3) := by decide +kernel
theorem d_Sq_value_84 : decode b_Sq_value 84 = .ok (.goto (-43), 3) := by decide +kernel
theorem d_Sq_value_87 : decode b_Sq_value 87 = .ok (.lload_n 3, 1) := by decide +kernel
theorem d_Sq_value_88 : decode b_Sq_value 88 = .ok (.lreturn, 1) := by decide +kernel
theorem d_Sq_count_0 : decode b_Sq_count 0 = .ok (.iload_n 1, 1) := by decide +kernel
theorem d_Sq_count_1 : decode b_Sq_count 1 = .ok (.tableswitch 45 0 2 #[27, 32, 37], 27) := by decide +kernel
theorem d_Sq_count_28 : decode b_Sq_count 28 = .ok (.aload_n 0, 1) := by decide +kernel
theorem d_Sq_count_29 : decode b_Sq_count 29 = .ok (.invokevirtual 169, 3) := by decide +kernel
theorem d_Sq_count_32 : decode b_Sq_count 32 = .ok (.ireturn, 1) := by decide +kernel
theorem d_Sq_count_33 : decode b_Sq_count 33 = .ok (.aload_n 0, 1) := by decide +kernel
theorem d_Sq_count_34 : decode b_Sq_count 34 = .ok (.getfield 48, 3) := by decide +kernel
theorem d_Sq_count_37 : decode b_Sq_count 37 = .ok (.ireturn, 1) := by decide +kernel
theorem d_Sq_count_38 : decode b_Sq_count 38 = .ok (.aload_n 0, 1) := by decide +kernel
theorem d_Sq_count_39 : decode b_Sq_count 39 = .ok (.getfield 19, 3) := by decide +kernel
theorem d_Sq_count_42 : decode b_Sq_count 42 = .ok (.invokevirtual 173, 3) := by decide +kernel
theorem d_Sq_count_45 : decode b_Sq_count 45 = .ok (.ireturn, 1) := by decide +kernel
theorem d_Sq_count_46 : decode b_Sq_count 46 = .ok (.iconst (-1), 1) := by decide +kernel
theorem d_Sq_count_47 : decode b_Sq_count 47 = .ok (.ireturn, 1) := by decide +kernel
theorem d_Sq_clear_0 : decode b_Sq_clear 0 = .ok (.aload_n 0, 1) := by decide +kernel
theorem d_Sq_clear_1 : decode b_Sq_clear 1 = .ok (.getfield 9, 3) := by decide +kernel
theorem d_Sq_clear_4 : decode b_Sq_clear 4 = .ok (.iconst 0, 1) := by decide +kernel
theorem d_Sq_clear_5 : decode b_Sq_clear 5 = .ok (.invokestatic 176, 3) := by decide +kernel
theorem d_Sq_clear_8 : decode b_Sq_clear 8 = .ok (.aload_n 0, 1) := by decide +kernel
theorem d_Sq_clear_9 : decode b_Sq_clear 9 = .ok (.invokevirtual 69, 3) := by decide +kernel
theorem d_Sq_clear_12 : decode b_Sq_clear 12 = .ok (.return_, 1) := by decide +kernel
theorem d_Sq_startAnew_0 : decode b_Sq_startAnew 0 = .ok (.aload_n 0, 1) := by decide +kernel
theorem d_Sq_startAnew_1 : decode b_Sq_startAnew 1 = .ok (.getfield 13, 3) := by decide +kernel
theorem d_Sq_startAnew_4 : decode b_Sq_startAnew 4 = .ok (.iconst 0, 1) := by decide +kernel
theorem d_Sq_startAnew_5 : decode b_Sq_startAnew 5 = .ok (.invokestatic 176, 3) := by decide +kernel
theorem d_Sq_startAnew_8 : decode b_Sq_startAnew 8 = .ok (.aload_n 0, 1) := by decide +kernel
theorem d_Sq_startAnew_9 : decode b_Sq_startAnew 9 = .ok (.iconst 0, 1) := by decide +kernel
theorem d_Sq_startAnew_10 : decode b_Sq_startAnew 10 = .ok (.putfield 44, 3) := by decide +kernel
theorem d_Sq_startAnew_13 : decode b_Sq_startAnew 13 = .ok (.aload_n 0, 1) := by decide +kernel
theorem d_Sq_startAnew_14 : decode b_Sq_startAnew 14 = .ok (.getfield 19, 3) := by decide +kernel
theorem d_Sq_startAnew_17 : decode b_Sq_startAnew 17 = .ok (.aload_n 0, 1) := by decide +kernel
theorem d_Sq_startAnew_18 : decode b_Sq_startAnew 18 = .ok (.getfield 9, 3) := by decide +kernel
theorem d_Sq_startAnew_21 : decode b_Sq_startAnew 21 = .ok (.invokevirtual 182, 3) := by decide +kernel
theorem d_Sq_startAnew_24 : decode b_Sq_startAnew 24 = .ok (.aload_n 0, 1) := by decide +kernel
theorem d_Sq_startAnew_25 : decode b_Sq_startAnew 25 = .ok (.getfield 26, 3) := by decide +kernel
theorem d_Sq_startAnew_28 : decode b_Sq_startAnew 28 = .ok (.aload_n 0, 1) := by decide +kernel
theorem d_Sq_startAnew_29 : decode b_Sq_startAnew 29 = .ok (.getfield 19, 3) := by decide +kernel
theorem d_Sq_startAnew_32 : decode b_Sq_startAnew 32 = .ok (.invokevirtual 186, 3) := by decide +kernel
theorem d_Sq_startAnew_35 : decode b_Sq_startAnew 35 = .ok (.return_, 1) := by decide +kernel
theorem d_Sq_isMember_0 : decode b_Sq_isMember 0 = .ok (.iload_n 1, 1) := by decide +kernel
theorem d_Sq_isMember_1 : decode b_Sq_isMember 1 = .ok (.ifCond .lt 18, 3) := by decide +kernel
theorem d_Sq_isMember_4 : decode b_Sq_isMember 4 = .ok (.iload_n 1, 1) := by decide +kernel
theorem d_Sq_isMember_5 : decode b_Sq_isMember 5 = .ok (.aload_n 0, 1) := by decide +kernel
theorem d_Sq_isMember_6 : decode b_Sq_isMember 6 = .ok (.getfield 19, 3) := by decide +kernel
theorem d_Sq_isMember_9 : decode b_Sq_isMember 9 = .ok (.getfield 76, 3) := by decide +kernel
theorem d_Sq_isMember_12 : decode b_Sq_isMember 12 = .ok (.if_icmp .ge 7, 3) := by decide +kernel
theorem d_Sq_isMember_15 : decode b_Sq_isMember 15 = .ok (.iconst 1, 1) := by decide +kernel
theorem d_Sq_isMember_16 : decode b_Sq_isMember 16 = .ok (.goto 4, 3) := by decide +kernel
theorem d_Sq_isMember_19 : decode b_Sq_isMember 19 = .ok (.iconst 0, 1) := by decide +kernel
theorem d_Sq_isMember_20 : decode b_Sq_isMember 20 = .ok (.ireturn, 1) := by decide +kernel
theorem d_Sq_isSquare_0 : decode b_Sq_isSquare 0 = .ok (.iload_n 1, 1) := by decide +kernel
theorem d_Sq_isSquare_1 : decode b_Sq_isSquare 1 = .ok (.ifCond .lt 18, 3) := by decide +kernel
theorem d_Sq_isSquare_4 : decode b_Sq_isSquare 4 = .ok (.iload_n 1, 1) := by decide +kernel
theorem d_Sq_isSquare_5 : decode b_Sq_isSquare 5 = .ok (.aload_n 0, 1) := by decide +kernel
theorem d_Sq_isSquare_6 : decode b_Sq_isSquare 6 = .ok (.getfield 33, 3) := by decide +kernel
theorem d_Sq_isSquare_9 : decode b_Sq_isSquare 9 = .ok (.getfield 117, 3) := by decide +kernel
theorem d_Sq_isSquare_12 : decode b_Sq_isSquare 12 = .ok (.if_icmp .ge 7, 3) := by decide +kernel
theorem d_Sq_isSquare_15 : decode b_Sq_isSquare 15 = .ok (.iconst 1, 1) := by decide +kernel
theorem d_Sq_isSquare_16 : decode b_Sq_isSquare 16 = .ok (.goto 4, 3) := by decide +kernel
theorem d_Sq_isSquare_19 : decode b_Sq_isSquare 19 = .ok (.iconst 0, 1) := by decide +kernel
theorem d_Sq_isSquare_20 : decode b_Sq_isSquare 20 = .ok (.ireturn, 1) := by decide +kernel
theorem d_Sq_termCount_0 : decode b_Sq_termCount 0 = .ok (.iconst 0, 1) := by decide +kernel
theorem d_Sq_termCount_1 : decode b_Sq_termCount 1 = .ok (.istore_n 1, 1) := by decide +kernel
theorem d_Sq_termCount_2 : decode b_Sq_termCount 2 = .ok (.iconst 0, 1) := by decide +kernel
theorem d_Sq_termCount_3 : decode b_Sq_termCount 3 = .ok (.istore_n 2, 1) := by decide +kernel
theorem d_Sq_termCount_4 : decode b_Sq_termCount 4 = .ok (.iload_n 2, 1) := by decide +kernel
theorem d_Sq_termCount_5 : decode b_Sq_termCount 5 = .ok (.bipush 15, 2) := by decide +kernel
theorem d_Sq_termCount_7 : decode b_Sq_termCount 7 = .ok (.if_icmp .ge 21, 3) := by decide +kernel
theorem d_Sq_termCount_10 : decode b_Sq_termCount 10 = .ok (.aload_n 0, 1) := by decide +kernel
theorem d_Sq_termCount_11 : decode b_Sq_termCount 11 = .ok (.getfield 9, 3) := by decide +kernel
theorem d_Sq_termCount_14 : decode b_Sq_termCount 14 = .ok (.iload_n 2, 1) := by decide +kernel
theorem d_Sq_termCount_15 : decode b_Sq_termCount 15 = .ok (.iaload, 1) := by decide +kernel
theorem d_Sq_termCount_16 : decode b_Sq_termCount 16 = .ok (.ifCond .eq 6, 3) := by decide +kernel
theorem d_Sq_termCount_19 : decode b_Sq_termCount 19 = .ok (.iinc 1 1, 3) := by decide +kernel
theorem d_Sq_termCount_22 : decode b_Sq_termCount 22 = .ok (.iinc 2 1, 3) := by decide +kernel
theorem d_Sq_termCount_25 : decode b_Sq_termCount 25 = .ok (.goto (-21), 3) := by decide +kernel
theorem d_Sq_termCount_28 : decode b_Sq_termCount 28 = .ok (.iload_n 1, 1) := by decide +kernel
theorem d_Sq_termCount_29 : decode b_Sq_termCount 29 = .ok (.ireturn, 1) := by decide +kernel
theorem d_Sq_isPart_0 : decode b_Sq_isPart 0 = .ok (.iload_n 0, 1) := by decide +kernel
theorem d_Sq_isPart_1 : decode b_Sq_isPart 1 = .ok (.ifCond .eq 8, 3) := by decide +kernel
theorem d_Sq_isPart_4 : decode b_Sq_isPart 4 = .ok (.iload_n 0, 1) := by decide +kernel
theorem d_Sq_isPart_5 : decode b_Sq_isPart 5 = .ok (.iconst 1, 1) := by decide +kernel
theorem d_Sq_isPart_6 : decode b_Sq_isPart 6 = .ok (.if_icmp .ne 7, 3) := by decide +kernel
theorem d_Sq_isPart_9 : decode b_Sq_isPart 9 = .ok (.iconst 1, 1) := by decide +kernel
theorem d_Sq_isPart_10 : decode b_Sq_isPart 10 = .ok (.goto 4, 3) := by decide +kernel
theorem d_Sq_isPart_13 : decode b_Sq_isPart 13 = .ok (.iconst 0, 1) := by decide +kernel
theorem d_Sq_isPart_14 : decode b_Sq_isPart 14 = .ok (.ireturn, 1) := by decide +kernel
theorem d_Sq_within_0 : decode b_Sq_within 0 = .ok (.iload_n 0, 1) := by decide +kernel
theorem d_Sq_within_1 : decode b_Sq_within 1 = .ok (.iload_n 1, 1) := by decide +kernel
theorem d_Sq_within_2 : decode b_Sq_within 2 = .ok (.ineg, 1) := by decide +kernel
theorem d_Sq_within_3 : decode b_Sq_within 3 = .ok (.if_icmp .lt 12, 3) := by decide +kernel
theorem d_Sq_within_6 : decode b_Sq_within 6 = .ok (.iload_n 0, 1) := by decide +kernel
theorem d_Sq_within_7 : decode b_Sq_within 7 = .ok (.iload_n 1, 1) := by decide +kernel
theorem d_Sq_within_8 : decode b_Sq_within 8 = .ok (.if_icmp .gt 7, 3) := by decide +kernel
theorem d_Sq_within_11 : decode b_Sq_within 11 = .ok (.iconst 1, 1) := by decide +kernel
theorem d_Sq_within_12 : decode b_Sq_within 12 = .ok (.goto 4, 3) := by decide +kernel
theorem d_Sq_within_15 : decode b_Sq_within 15 = .ok (.iconst 0, 1) := by decide +kernel
theorem d_Sq_within_16 : decode b_Sq_within 16 = .ok (.ireturn, 1) := by decide +kernel
theorem d_Sq_powerAt_0 : decode b_Sq_powerAt 0 = .ok (.iload_n 0, 1) := by decide +kernel
theorem d_Sq_powerAt_1 : decode b_Sq_powerAt 1 = .ok (.ifCond .lt 24, 3) := by decide +kernel
theorem d_Sq_powerAt_4 : decode b_Sq_powerAt 4 = .ok (.iload_n 1, 1) := by decide +kernel
theorem d_Sq_powerAt_5 : decode b_Sq_powerAt 5 = .ok (.ifCond .lt 20, 3) := by decide +kernel
theorem d_Sq_powerAt_8 : decode b_Sq_powerAt 8 = .ok (.iload_n 0, 1) := by decide +kernel
theorem d_Sq_powerAt_9 : decode b_Sq_powerAt 9 = .ok (.iconst 4, 1) := by decide +kernel
theorem d_Sq_powerAt_10 : decode b_Sq_powerAt 10 = .ok (.if_icmp .gt 15, 3) := by decide +kernel
theorem d_Sq_powerAt_13 : decode b_Sq_powerAt 13 = .ok (.iload_n 1, 1) := by decide +kernel
theorem d_Sq_powerAt_14 : decode b_Sq_powerAt 14 = .ok (.iconst 4, 1) := by decide +kernel
theorem d_Sq_powerAt_15 : decode b_Sq_powerAt 15 = .ok (.if_icmp .gt 10, 3) := by decide +kernel
theorem d_Sq_powerAt_18 : decode b_Sq_powerAt 18 = .ok (.iload_n 0, 1) := by decide +kernel
theorem d_Sq_powerAt_19 : decode b_Sq_powerAt 19 = .ok (.iload_n 1, 1) := by decide +kernel
theorem d_Sq_powerAt_20 : decode b_Sq_powerAt 20 = .ok (.iadd, 1) := by decide +kernel
theorem d_Sq_powerAt_21 : decode b_Sq_powerAt 21 = .ok (.iconst 4, 1) := by decide +kernel
theorem d_Sq_powerAt_22 : decode b_Sq_powerAt 22 = .ok (.if_icmp .le 5, 3) := by decide +kernel
theorem d_Sq_powerAt_25 : decode b_Sq_powerAt 25 = .ok (.iconst (-1), 1) := by decide +kernel
theorem d_Sq_powerAt_26 : decode b_Sq_powerAt 26 = .ok (.ireturn, 1) := by decide +kernel
theorem d_Sq_powerAt_27 : decode b_Sq_powerAt 27 = .ok (.iload_n 0, 1) := by decide +kernel
theorem d_Sq_powerAt_28 : decode b_Sq_powerAt 28 = .ok (.iload_n 1, 1) := by decide +kernel
theorem d_Sq_powerAt_29 : decode b_Sq_powerAt 29 = .ok (.iadd, 1) := by decide +kernel
theorem d_Sq_powerAt_30 : decode b_Sq_powerAt 30 = .ok (.istore_n 2, 1) := by decide +kernel
theorem d_Sq_powerAt_31 : decode b_Sq_powerAt 31 = .ok (.iload_n 2, 1) := by decide +kernel
theorem d_Sq_powerAt_32 : decode b_Sq_powerAt 32 = .ok (.iload_n 2, 1) := by decide +kernel
theorem d_Sq_powerAt_33 : decode b_Sq_powerAt 33 = .ok (.iconst 1, 1) := by decide +kernel
theorem d_Sq_powerAt_34 : decode b_Sq_powerAt 34 = .ok (.iadd, 1) := by decide +kernel
theorem d_Sq_powerAt_35 : decode b_Sq_powerAt 35 = .ok (.imul, 1) := by decide +kernel
theorem d_Sq_powerAt_36 : decode b_Sq_powerAt 36 = .ok (.iconst 2, 1) := by decide +kernel
theorem d_Sq_powerAt_37 : decode b_Sq_powerAt 37 = .ok (.idiv, 1) := by decide +kernel
theorem d_Sq_powerAt_38 : decode b_Sq_powerAt 38 = .ok (.iload_n 1, 1) := by decide +kernel
theorem d_Sq_powerAt_39 : decode b_Sq_powerAt 39 = .ok (.iadd, 1) := by decide +kernel
theorem d_Sq_powerAt_40 : decode b_Sq_powerAt 40 = .ok (.ireturn, 1) := by decide +kernel
theorem d_Sq_cellOf_0 : decode b_Sq_cellOf 0 = .ok (.iload_n 0, 1) := by decide +kernel
theorem d_Sq_cellOf_1 : decode b_Sq_cellOf 1 = .ok (.iload_n 1, 1) := by decide +kernel
theorem d_Sq_cellOf_2 : decode b_Sq_cellOf 2 = .ok (.if_icmp .gt 12, 3) := by decide +kernel
theorem d_Sq_cellOf_5 : decode b_Sq_cellOf 5 = .ok (.iload_n 0, 1) := by decide +kernel
theorem d_Sq_cellOf_6 : decode b_Sq_cellOf 6 = .ok (.bipush 6, 2) := by decide +kernel
theorem d_Sq_cellOf_8 : decode b_Sq_cellOf 8 = .ok (.imul, 1) := by decide +kernel
theorem d_Sq_cellOf_9 : decode b_Sq_cellOf 9 = .ok (.iload_n 1, 1) := by decide +kernel
theorem d_Sq_cellOf_10 : decode b_Sq_cellOf 10 = .ok (.iadd, 1) := by decide +kernel
theorem d_Sq_cellOf_11 : decode b_Sq_cellOf 11 = .ok (.goto 9, 3) := by decide +kernel
theorem d_Sq_cellOf_14 : decode b_Sq_cellOf 14 = .ok (.iload_n 1, 1) := by decide +kernel
theorem d_Sq_cellOf_15 : decode b_Sq_cellOf 15 = .ok (.bipush 6, 2) := by decide +kernel
theorem d_Sq_cellOf_17 : decode b_Sq_cellOf 17 = .ok (.imul, 1) := by decide +kernel
theorem d_Sq_cellOf_18 : decode b_Sq_cellOf 18 = .ok (.iload_n 0, 1) := by decide +kernel
theorem d_Sq_cellOf_19 : decode b_Sq_cellOf 19 = .ok (.iadd, 1) := by decide +kernel
theorem d_Sq_cellOf_20 : decode b_Sq_cellOf 20 = .ok (.ireturn, 1) := by decide +kernel
theorem d_Sq_raised_0 : decode b_Sq_raised 0 = .ok (.lconst 1, 1) := by decide +kernel
theorem d_Sq_raised_1 : decode b_Sq_raised 1 = .ok (.lstore_n 2, 1) := by decide +kernel
theorem d_Sq_raised_2 : decode b_Sq_raised 2 = .ok (.iconst 0, 1) := by decide +kernel
theorem d_Sq_raised_3 : decode b_Sq_raised 3 = .ok (.istore 4, 2) := by decide +kernel
theorem d_Sq_raised_5 : decode b_Sq_raised 5 = .ok (.iload 4, 2) := by decide +kernel
theorem d_Sq_raised_7 : decode b_Sq_raised 7 = .ok (.iload_n 1, 1) := by decide +kernel
theorem d_Sq_raised_8 : decode b_Sq_raised 8 = .ok (.if_icmp .ge 14, 3) := by decide +kernel
theorem d_Sq_raised_11 : decode b_Sq_raised 11 = .ok (.lload_n 2, 1) := by decide +kernel
theorem d_Sq_raised_12 : decode b_Sq_raised 12 = .ok (.iload_n 0, 1) := by decide +kernel
theorem d_Sq_raised_13 : decode b_Sq_raised 13 = .ok (.i2l, 1) := by decide +kernel
theorem d_Sq_raised_14 : decode b_Sq_raised 14 = .ok (.lmul, 1) := by decide +kernel
theorem d_Sq_raised_15 : decode b_Sq_raised 15 = .ok (.lstore_n 2, 1) := by decide +kernel
theorem d_Sq_raised_16 : decode b_Sq_raised 16 = .ok (.iinc 4 1, 3) := by decide +kernel
theorem d_Sq_raised_19 : decode b_Sq_raised 19 = .ok (.goto (-14), 3) := by decide +kernel
theorem d_Sq_raised_22 : decode b_Sq_raised 22 = .ok (.lload_n 2, 1) := by decide +kernel
theorem d_Sq_raised_23 : decode b_Sq_raised 23 = .ok (.lreturn, 1) := by decide +kernel
theorem d_Sq_partOf_0 : decode b_Sq_partOf 0 = .ok (.lload_n 0, 1) := by decide +kernel
theorem d_Sq_partOf_1 : decode b_Sq_partOf 1 = .ok (.invokestatic 190, 3) := by decide +kernel
theorem d_Sq_partOf_4 : decode b_Sq_partOf 4 = .ok (.lload_n 2, 1) := by decide +kernel
theorem d_Sq_partOf_5 : decode b_Sq_partOf 5 = .ok (.invokestatic 196, 3) := by decide +kernel
theorem d_Sq_partOf_8 : decode b_Sq_partOf 8 = .ok (.lstore 5, 2) := by decide +kernel
theorem d_Sq_partOf_10 : decode b_Sq_partOf 10 = .ok (.iload 4, 2) := by decide +kernel
theorem d_Sq_partOf_12 : decode b_Sq_partOf 12 = .ok (.ifCond .ne 7, 3) := by decide +kernel
theorem d_Sq_partOf_15 : decode b_Sq_partOf 15 = .ok (.lload_n 0, 1) := by decide +kernel
theorem d_Sq_partOf_16 : decode b_Sq_partOf 16 = .ok (.goto 4, 3) := by decide +kernel
theorem d_Sq_partOf_19 : decode b_Sq_partOf 19 = .ok (.lload_n 2, 1) := by decide +kernel
theorem d_Sq_partOf_20 : decode b_Sq_partOf 20 = .ok (.lload 5, 2) := by decide +kernel
theorem d_Sq_partOf_22 : decode b_Sq_partOf 22 = .ok (.ldiv, 1) := by decide +kernel
theorem d_Sq_partOf_23 : decode b_Sq_partOf 23 = .ok (.lreturn, 1) := by decide +kernel
theorem d_Sq_commonDivisor_0 : decode b_Sq_commonDivisor 0 = .ok (.lload_n 0, 1) := by decide +kernel
theorem d_Sq_commonDivisor_1 : decode b_Sq_commonDivisor 1 = .ok (.lstore 4, 2) := by decide +kernel
theorem d_Sq_commonDivisor_3 : decode b_Sq_commonDivisor 3 = .ok (.lload_n 2, 1) := by decide +kernel
theorem d_Sq_commonDivisor_4 : decode b_Sq_commonDivisor 4 = .ok (.lstore 6, 2) := by decide +kernel
theorem d_Sq_commonDivisor_6 : decode b_Sq_commonDivisor 6 = .ok (.iconst 0, 1) := by decide +kernel
theorem d_Sq_commonDivisor_7 : decode b_Sq_commonDivisor 7 = .ok (.istore 8, 2) := by decide +kernel
theorem d_Sq_commonDivisor_9 : decode b_Sq_commonDivisor 9 = .ok (.iload 8, 2) := by decide +kernel
theorem d_Sq_commonDivisor_11 : decode b_Sq_commonDivisor 11 = .ok (.bipush 100, 2) := by decide +kernel
theorem d_Sq_commonDivisor_13 : decode b_Sq_commonDivisor 13 = .ok (.if_icmp .ge 31, 3) := by decide +kernel
theorem d_Sq_commonDivisor_16 : decode b_Sq_commonDivisor 16 = .ok (.lload 6, 2) := by decide +kernel
theorem d_Sq_commonDivisor_18 : decode b_Sq_commonDivisor 18 = .ok (.lconst 0, 1) := by decide +kernel
theorem d_Sq_commonDivisor_19 : decode b_Sq_commonDivisor 19 = .ok (.lcmp, 1) := by decide +kernel
theorem d_Sq_commonDivisor_20 : decode b_Sq_commonDivisor 20 = .ok (.ifCond .eq 24, 3) := by decide +kernel
theorem d_Sq_commonDivisor_23 : decode b_Sq_commonDivisor 23 = .ok (.lload 4, 2) := by decide +kernel
theorem d_Sq_commonDivisor_25 : decode b_Sq_commonDivisor 25 = .ok (.lload 6, 2) := by decide +kernel
theorem d_Sq_commonDivisor_27 : decode b_Sq_commonDivisor 27 = .ok (.lrem, 1) := by decide +kernel
theorem d_Sq_commonDivisor_28 : decode b_Sq_commonDivisor 28 = .ok (.lstore 9, 2) := by decide +kernel
theorem d_Sq_commonDivisor_30 : decode b_Sq_commonDivisor 30 = .ok (.lload 6, 2) := by decide +kernel
theorem d_Sq_commonDivisor_32 : decode b_Sq_commonDivisor 32 = .ok (.lstore 4, 2) := by decide +kernel
theorem d_Sq_commonDivisor_34 : decode b_Sq_commonDivisor 34 = .ok (.lload 9, 2) := by decide +kernel
theorem d_Sq_commonDivisor_36 : decode b_Sq_commonDivisor 36 = .ok (.lstore 6, 2) := by decide +kernel
theorem d_Sq_commonDivisor_38 : decode b_Sq_commonDivisor 38 = .ok (.iinc 8 1, 3) := by decide +kernel
theorem d_Sq_commonDivisor_41 : decode b_Sq_commonDivisor 41 = .ok (.goto (-32), 3) := by decide +kernel
theorem d_Sq_commonDivisor_44 : decode b_Sq_commonDivisor 44 = .ok (.lload 4, 2) := by decide +kernel
theorem d_Sq_commonDivisor_46 : decode b_Sq_commonDivisor 46 = .ok (.lconst 1, 1) := by decide +kernel
theorem d_Sq_commonDivisor_47 : decode b_Sq_commonDivisor 47 = .ok (.invokestatic 200, 3) := by decide +kernel
theorem d_Sq_commonDivisor_50 : decode b_Sq_commonDivisor 50 = .ok (.lreturn, 1) := by decide +kernel
