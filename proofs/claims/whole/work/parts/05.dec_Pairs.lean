theorem d_Pairs_init_0 : decode b_Pairs_init 0 = .ok (.aload_n 0, 1) := by decide +kernel
theorem d_Pairs_init_1 : decode b_Pairs_init 1 = .ok (.invokespecial 3, 3) := by decide +kernel
theorem d_Pairs_init_4 : decode b_Pairs_init 4 = .ok (.aload_n 0, 1) := by decide +kernel
theorem d_Pairs_init_5 : decode b_Pairs_init 5 = .ok (.bipush 21, 2) := by decide +kernel
theorem d_Pairs_init_7 : decode b_Pairs_init 7 = .ok (.newarray .int, 2) := by decide +kernel
theorem d_Pairs_init_9 : decode b_Pairs_init 9 = .ok (.putfield 9, 3) := by decide +kernel
theorem d_Pairs_init_12 : decode b_Pairs_init 12 = .ok (.aload_n 0, 1) := by decide +kernel
theorem d_Pairs_init_13 : decode b_Pairs_init 13 = .ok (.bipush 21, 2) := by decide +kernel
theorem d_Pairs_init_15 : decode b_Pairs_init 15 = .ok (.newarray .int, 2) := by decide +kernel
theorem d_Pairs_init_17 : decode b_Pairs_init 17 = .ok (.putfield 15, 3) := by decide +kernel
theorem d_Pairs_init_20 : decode b_Pairs_init 20 = .ok (.aload_n 0, 1) := by decide +kernel
theorem d_Pairs_init_21 : decode b_Pairs_init 21 = .ok (.bipush 21, 2) := by decide +kernel
theorem d_Pairs_init_23 : decode b_Pairs_init 23 = .ok (.newarray .int, 2) := by decide +kernel
theorem d_Pairs_init_25 : decode b_Pairs_init 25 = .ok (.putfield 18, 3) := by decide +kernel
theorem d_Pairs_init_28 : decode b_Pairs_init 28 = .ok (.aload_n 0, 1) := by decide +kernel
theorem d_Pairs_init_29 : decode b_Pairs_init 29 = .ok (.bipush 21, 2) := by decide +kernel
theorem d_Pairs_init_31 : decode b_Pairs_init 31 = .ok (.newarray .int, 2) := by decide +kernel
theorem d_Pairs_init_33 : decode b_Pairs_init 33 = .ok (.putfield 21, 3) := by decide +kernel
theorem d_Pairs_init_36 : decode b_Pairs_init 36 = .ok (.aload_n 0, 1) := by decide +kernel
theorem d_Pairs_init_37 : decode b_Pairs_init 37 = .ok (.bipush 15, 2) := by decide +kernel
theorem d_Pairs_init_39 : decode b_Pairs_init 39 = .ok (.newarray .int, 2) := by decide +kernel
theorem d_Pairs_init_41 : decode b_Pairs_init 41 = .ok (.putfield 24, 3) := by decide +kernel
theorem d_Pairs_init_44 : decode b_Pairs_init 44 = .ok (.aload_n 0, 1) := by decide +kernel
theorem d_Pairs_init_45 : decode b_Pairs_init 45 = .ok (.bipush 21, 2) := by decide +kernel
theorem d_Pairs_init_47 : decode b_Pairs_init 47 = .ok (.newarray .int, 2) := by decide +kernel
theorem d_Pairs_init_49 : decode b_Pairs_init 49 = .ok (.putfield 27, 3) := by decide +kernel
theorem d_Pairs_init_52 : decode b_Pairs_init 52 = .ok (.aload_n 0, 1) := by decide +kernel
theorem d_Pairs_init_53 : decode b_Pairs_init 53 = .ok (.bipush 15, 2) := by decide +kernel
theorem d_Pairs_init_55 : decode b_Pairs_init 55 = .ok (.newarray .int, 2) := by decide +kernel
theorem d_Pairs_init_57 : decode b_Pairs_init 57 = .ok (.putfield 30, 3) := by decide +kernel
theorem d_Pairs_init_60 : decode b_Pairs_init 60 = .ok (.aload_n 0, 1) := by decide +kernel
theorem d_Pairs_init_61 : decode b_Pairs_init 61 = .ok (.iconst 0, 1) := by decide +kernel
theorem d_Pairs_init_62 : decode b_Pairs_init 62 = .ok (.putfield 33, 3) := by decide +kernel
theorem d_Pairs_init_65 : decode b_Pairs_init 65 = .ok (.aload_n 0, 1) := by decide +kernel
theorem d_Pairs_init_66 : decode b_Pairs_init 66 = .ok (.iconst 0, 1) := by decide +kernel
theorem d_Pairs_init_67 : decode b_Pairs_init 67 = .ok (.putfield 37, 3) := by decide +kernel
theorem d_Pairs_init_70 : decode b_Pairs_init 70 = .ok (.aload_n 0, 1) := by decide +kernel
theorem d_Pairs_init_71 : decode b_Pairs_init 71 = .ok (.getfield 24, 3) := by decide +kernel
theorem d_Pairs_init_74 : decode b_Pairs_init 74 = .ok (.iconst (-1), 1) := by decide +kernel
theorem d_Pairs_init_75 : decode b_Pairs_init 75 = .ok (.invokestatic 40, 3) := by decide +kernel
theorem d_Pairs_init_78 : decode b_Pairs_init 78 = .ok (.return_, 1) := by decide +kernel
theorem d_Pairs_arrange_0 : decode b_Pairs_arrange 0 = .ok (.aload_n 0, 1) := by decide +kernel
theorem d_Pairs_arrange_1 : decode b_Pairs_arrange 1 = .ok (.getfield 24, 3) := by decide +kernel
theorem d_Pairs_arrange_4 : decode b_Pairs_arrange 4 = .ok (.iconst (-1), 1) := by decide +kernel
theorem d_Pairs_arrange_5 : decode b_Pairs_arrange 5 = .ok (.invokestatic 40, 3) := by decide +kernel
theorem d_Pairs_arrange_8 : decode b_Pairs_arrange 8 = .ok (.aload_n 0, 1) := by decide +kernel
theorem d_Pairs_arrange_9 : decode b_Pairs_arrange 9 = .ok (.iconst 0, 1) := by decide +kernel
theorem d_Pairs_arrange_10 : decode b_Pairs_arrange 10 = .ok (.putfield 33, 3) := by decide +kernel
theorem d_Pairs_arrange_13 : decode b_Pairs_arrange 13 = .ok (.iconst 0, 1) := by decide +kernel
theorem d_Pairs_arrange_14 : decode b_Pairs_arrange 14 = .ok (.istore_n 2, 1) := by decide +kernel
theorem d_Pairs_arrange_15 : decode b_Pairs_arrange 15 = .ok (.iload_n 2, 1) := by decide +kernel
theorem d_Pairs_arrange_16 : decode b_Pairs_arrange 16 = .ok (.aload_n 1, 1) := by decide +kernel
theorem d_Pairs_arrange_17 : decode b_Pairs_arrange 17 = .ok (.getfield 46, 3) := by decide +kernel
theorem d_Pairs_arrange_20 : decode b_Pairs_arrange 20 = .ok (.if_icmp .ge 56, 3) := by decide +kernel
theorem d_Pairs_arrange_23 : decode b_Pairs_arrange 23 = .ok (.iload_n 2, 1) := by decide +kernel
theorem d_Pairs_arrange_24 : decode b_Pairs_arrange 24 = .ok (.istore_n 3, 1) := by decide +kernel
theorem d_Pairs_arrange_25 : decode b_Pairs_arrange 25 = .ok (.iload_n 3, 1) := by decide +kernel
theorem d_Pairs_arrange_26 : decode b_Pairs_arrange 26 = .ok (.aload_n 1, 1) := by decide +kernel
theorem d_Pairs_arrange_27 : decode b_Pairs_arrange 27 = .ok (.getfield 46, 3) := by decide +kernel
theorem d_Pairs_arrange_30 : decode b_Pairs_arrange 30 = .ok (.if_icmp .ge 40, 3) := by decide +kernel
theorem d_Pairs_arrange_33 : decode b_Pairs_arrange 33 = .ok (.aload_n 1, 1) := by decide +kernel
theorem d_Pairs_arrange_34 : decode b_Pairs_arrange 34 = .ok (.getfield 49, 3) := by decide +kernel
theorem d_Pairs_arrange_37 : decode b_Pairs_arrange 37 = .ok (.iload_n 2, 1) := by decide +kernel
theorem d_Pairs_arrange_38 : decode b_Pairs_arrange 38 = .ok (.iaload, 1) := by decide +kernel
theorem d_Pairs_arrange_39 : decode b_Pairs_arrange 39 = .ok (.aload_n 1, 1) := by decide +kernel
theorem d_Pairs_arrange_40 : decode b_Pairs_arrange 40 = .ok (.getfield 49, 3) := by decide +kernel
theorem d_Pairs_arrange_43 : decode b_Pairs_arrange 43 = .ok (.iload_n 3, 1) := by decide +kernel
theorem d_Pairs_arrange_44 : decode b_Pairs_arrange 44 = .ok (.iaload, 1) := by decide +kernel
theorem d_Pairs_arrange_45 : decode b_Pairs_arrange 45 = .ok (.invokestatic 52, 3) := by decide +kernel
theorem d_Pairs_arrange_48 : decode b_Pairs_arrange 48 = .ok (.istore 4, 2) := by decide +kernel
theorem d_Pairs_arrange_50 : decode b_Pairs_arrange 50 = .ok (.iload 4, 2) := by decide +kernel
theorem d_Pairs_arrange_52 : decode b_Pairs_arrange 52 = .ok (.iconst (-1), 1) := by decide +kernel
theorem d_Pairs_arrange_53 : decode b_Pairs_arrange 53 = .ok (.if_icmp .eq 11, 3) := by decide +kernel
theorem d_Pairs_arrange_56 : decode b_Pairs_arrange 56 = .ok (.aload_n 0, 1) := by decide +kernel
theorem d_Pairs_arrange_57 : decode b_Pairs_arrange 57 = .ok (.iload_n 2, 1) := by decide +kernel
theorem d_Pairs_arrange_58 : decode b_Pairs_arrange 58 = .ok (.iload_n 3, 1) := by decide +kernel
theorem d_Pairs_arrange_59 : decode b_Pairs_arrange 59 = .ok (.iload 4, 2) := by decide +kernel
theorem d_Pairs_arrange_61 : decode b_Pairs_arrange 61 = .ok (.invokevirtual 56, 3) := by decide +kernel
theorem d_Pairs_arrange_64 : decode b_Pairs_arrange 64 = .ok (.iinc 3 1, 3) := by decide +kernel
theorem d_Pairs_arrange_67 : decode b_Pairs_arrange 67 = .ok (.goto (-42), 3) := by decide +kernel
theorem d_Pairs_arrange_70 : decode b_Pairs_arrange 70 = .ok (.iinc 2 1, 3) := by decide +kernel
theorem d_Pairs_arrange_73 : decode b_Pairs_arrange 73 = .ok (.goto (-58), 3) := by decide +kernel
theorem d_Pairs_arrange_76 : decode b_Pairs_arrange 76 = .ok (.aload_n 0, 1) := by decide +kernel
theorem d_Pairs_arrange_77 : decode b_Pairs_arrange 77 = .ok (.invokevirtual 60, 3) := by decide +kernel
theorem d_Pairs_arrange_80 : decode b_Pairs_arrange 80 = .ok (.return_, 1) := by decide +kernel
theorem d_Pairs_productOf_0 : decode b_Pairs_productOf 0 = .ok (.getstatic 63, 3) := by decide +kernel
theorem d_Pairs_productOf_3 : decode b_Pairs_productOf 3 = .ok (.iload_n 0, 1) := by decide +kernel
theorem d_Pairs_productOf_4 : decode b_Pairs_productOf 4 = .ok (.iaload, 1) := by decide +kernel
theorem d_Pairs_productOf_5 : decode b_Pairs_productOf 5 = .ok (.getstatic 63, 3) := by decide +kernel
theorem d_Pairs_productOf_8 : decode b_Pairs_productOf 8 = .ok (.iload_n 1, 1) := by decide +kernel
theorem d_Pairs_productOf_9 : decode b_Pairs_productOf 9 = .ok (.iaload, 1) := by decide +kernel
theorem d_Pairs_productOf_10 : decode b_Pairs_productOf 10 = .ok (.iadd, 1) := by decide +kernel
theorem d_Pairs_productOf_11 : decode b_Pairs_productOf 11 = .ok (.getstatic 66, 3) := by decide +kernel
theorem d_Pairs_productOf_14 : decode b_Pairs_productOf 14 = .ok (.iload_n 0, 1) := by decide +kernel
theorem d_Pairs_productOf_15 : decode b_Pairs_productOf 15 = .ok (.iaload, 1) := by decide +kernel
theorem d_Pairs_productOf_16 : decode b_Pairs_productOf 16 = .ok (.getstatic 66, 3) := by decide +kernel
theorem d_Pairs_productOf_19 : decode b_Pairs_productOf 19 = .ok (.iload_n 1, 1) := by decide +kernel
theorem d_Pairs_productOf_20 : decode b_Pairs_productOf 20 = .ok (.iaload, 1) := by decide +kernel
theorem d_Pairs_productOf_21 : decode b_Pairs_productOf 21 = .ok (.iadd, 1) := by decide +kernel
theorem d_Pairs_productOf_22 : decode b_Pairs_productOf 22 = .ok (.invokestatic 69, 3) := by decide +kernel
theorem d_Pairs_productOf_25 : decode b_Pairs_productOf 25 = .ok (.ireturn, 1) := by decide +kernel
theorem d_Pairs_add_0 : decode b_Pairs_add 0 = .ok (.aload_n 0, 1) := by decide +kernel
theorem d_Pairs_add_1 : decode b_Pairs_add 1 = .ok (.getfield 9, 3) := by decide +kernel
theorem d_Pairs_add_4 : decode b_Pairs_add 4 = .ok (.aload_n 0, 1) := by decide +kernel
theorem d_Pairs_add_5 : decode b_Pairs_add 5 = .ok (.getfield 33, 3) := by decide +kernel
theorem d_Pairs_add_8 : decode b_Pairs_add 8 = .ok (.iload_n 2, 1) := by decide +kernel
theorem d_Pairs_add_9 : decode b_Pairs_add 9 = .ok (.iastore, 1) := by decide +kernel
theorem d_Pairs_add_10 : decode b_Pairs_add 10 = .ok (.aload_n 0, 1) := by decide +kernel
theorem d_Pairs_add_11 : decode b_Pairs_add 11 = .ok (.getfield 15, 3) := by decide +kernel
theorem d_Pairs_add_14 : decode b_Pairs_add 14 = .ok (.aload_n 0, 1) := by decide +kernel
theorem d_Pairs_add_15 : decode b_Pairs_add 15 = .ok (.getfield 33, 3) := by decide +kernel
theorem d_Pairs_add_18 : decode b_Pairs_add 18 = .ok (.iload_n 1, 1) := by decide +kernel
theorem d_Pairs_add_19 : decode b_Pairs_add 19 = .ok (.iload_n 2, 1) := by decide +kernel
theorem d_Pairs_add_20 : decode b_Pairs_add 20 = .ok (.invokestatic 72, 3) := by decide +kernel
theorem d_Pairs_add_23 : decode b_Pairs_add 23 = .ok (.iastore, 1) := by decide +kernel
theorem d_Pairs_add_24 : decode b_Pairs_add 24 = .ok (.aload_n 0, 1) := by decide +kernel
theorem d_Pairs_add_25 : decode b_Pairs_add 25 = .ok (.getfield 18, 3) := by decide +kernel
theorem d_Pairs_add_28 : decode b_Pairs_add 28 = .ok (.aload_n 0, 1) := by decide +kernel
theorem d_Pairs_add_29 : decode b_Pairs_add 29 = .ok (.getfield 33, 3) := by decide +kernel
theorem d_Pairs_add_32 : decode b_Pairs_add 32 = .ok (.iload_n 3, 1) := by decide +kernel
theorem d_Pairs_add_33 : decode b_Pairs_add 33 = .ok (.iastore, 1) := by decide +kernel
theorem d_Pairs_add_34 : decode b_Pairs_add 34 = .ok (.aload_n 0, 1) := by decide +kernel
theorem d_Pairs_add_35 : decode b_Pairs_add 35 = .ok (.getfield 21, 3) := by decide +kernel
theorem d_Pairs_add_38 : decode b_Pairs_add 38 = .ok (.aload_n 0, 1) := by decide +kernel
theorem d_Pairs_add_39 : decode b_Pairs_add 39 = .ok (.getfield 33, 3) := by decide +kernel
theorem d_Pairs_add_42 : decode b_Pairs_add 42 = .ok (.iload_n 1, 1) := by decide +kernel
theorem d_Pairs_add_43 : decode b_Pairs_add 43 = .ok (.iload_n 2, 1) := by decide +kernel
theorem d_Pairs_add_44 : decode b_Pairs_add 44 = .ok (.if_icmp .ne 7, 3) := by decide +kernel
theorem d_Pairs_add_47 : decode b_Pairs_add 47 = .ok (.iconst 1, 1) := by decide +kernel
theorem d_Pairs_add_48 : decode b_Pairs_add 48 = .ok (.goto 4, 3) := by decide +kernel
theorem d_Pairs_add_51 : decode b_Pairs_add 51 = .ok (.iconst 2, 1) := by decide +kernel
theorem d_Pairs_add_52 : decode b_Pairs_add 52 = .ok (.iastore, 1) := by decide +kernel
theorem d_Pairs_add_53 : decode b_Pairs_add 53 = .ok (.aload_n 0, 1) := by decide +kernel
theorem d_Pairs_add_54 : decode b_Pairs_add 54 = .ok (.getfield 24, 3) := by decide +kernel
theorem d_Pairs_add_57 : decode b_Pairs_add 57 = .ok (.iload_n 3, 1) := by decide +kernel
theorem d_Pairs_add_58 : decode b_Pairs_add 58 = .ok (.iaload, 1) := by decide +kernel
theorem d_Pairs_add_59 : decode b_Pairs_add 59 = .ok (.iconst (-1), 1) := by decide +kernel
theorem d_Pairs_add_60 : decode b_Pairs_add 60 = .ok (.if_icmp .eq 8, 3) := by decide +kernel
theorem d_Pairs_add_63 : decode b_Pairs_add 63 = .ok (.iload_n 1, 1) := by decide +kernel
theorem d_Pairs_add_64 : decode b_Pairs_add 64 = .ok (.iload_n 2, 1) := by decide +kernel
theorem d_Pairs_add_65 : decode b_Pairs_add 65 = .ok (.if_icmp .ne 13, 3) := by decide +kernel
theorem d_Pairs_add_68 : decode b_Pairs_add 68 = .ok (.aload_n 0, 1) := by decide +kernel
theorem d_Pairs_add_69 : decode b_Pairs_add 69 = .ok (.getfield 24, 3) := by decide +kernel
theorem d_Pairs_add_72 : decode b_Pairs_add 72 = .ok (.iload_n 3, 1) := by decide +kernel
theorem d_Pairs_add_73 : decode b_Pairs_add 73 = .ok (.aload_n 0, 1) := by decide +kernel
theorem d_Pairs_add_74 : decode b_Pairs_add 74 = .ok (.getfield 33, 3) := by decide +kernel
theorem d_Pairs_add_77 : decode b_Pairs_add 77 = .ok (.iastore, 1) := by decide +kernel
theorem d_Pairs_add_78 : decode b_Pairs_add 78 = .ok (.aload_n 0, 1) := by decide +kernel
theorem d_Pairs_add_79 : decode b_Pairs_add 79 = .ok (.dup, 1) := by decide +kernel
theorem d_Pairs_add_80 : decode b_Pairs_add 80 = .ok (.getfield 33, 3) := by decide +kernel
theorem d_Pairs_add_83 : decode b_Pairs_add 83 = .ok (.iconst 1, 1) := by decide +kernel
theorem d_Pairs_add_84 : decode b_Pairs_add 84 = .ok (.iadd, 1) := by decide +kernel
theorem d_Pairs_add_85 : decode b_Pairs_add 85 = .ok (.putfield 33, 3) := by decide +kernel
theorem d_Pairs_add_88 : decode b_Pairs_add 88 = .ok (.return_, 1) := by decide +kernel
theorem d_Pairs_gatherFree_0 : decode b_Pairs_gatherFree 0 = .ok (.aload_n 0, 1) := by decide +kernel
theorem d_Pairs_gatherFree_1 : decode b_Pairs_gatherFree 1 = .ok (.iconst 0, 1) := by decide +kernel
theorem d_Pairs_gatherFree_2 : decode b_Pairs_gatherFree 2 = .ok (.putfield 37, 3) := by decide +kernel
theorem d_Pairs_gatherFree_5 : decode b_Pairs_gatherFree 5 = .ok (.iconst 0, 1) := by decide +kernel
theorem d_Pairs_gatherFree_6 : decode b_Pairs_gatherFree 6 = .ok (.istore_n 1, 1) := by decide +kernel
theorem d_Pairs_gatherFree_7 : decode b_Pairs_gatherFree 7 = .ok (.iload_n 1, 1) := by decide +kernel
theorem d_Pairs_gatherFree_8 : decode b_Pairs_gatherFree 8 = .ok (.aload_n 0, 1) := by decide +kernel
theorem d_Pairs_gatherFree_9 : decode b_Pairs_gatherFree 9 = .ok (.getfield 33, 3) := by decide +kernel
theorem d_Pairs_gatherFree_12 : decode b_Pairs_gatherFree 12 = .ok (.if_icmp .ge 44, 3) := by decide +kernel
theorem d_Pairs_gatherFree_15 : decode b_Pairs_gatherFree 15 = .ok (.aload_n 0, 1) := by decide +kernel
theorem d_Pairs_gatherFree_16 : decode b_Pairs_gatherFree 16 = .ok (.getfield 24, 3) := by decide +kernel
theorem d_Pairs_gatherFree_19 : decode b_Pairs_gatherFree 19 = .ok (.aload_n 0, 1) := by decide +kernel
theorem d_Pairs_gatherFree_20 : decode b_Pairs_gatherFree 20 = .ok (.getfield 18, 3) := by decide +kernel
theorem d_Pairs_gatherFree_23 : decode b_Pairs_gatherFree 23 = .ok (.iload_n 1, 1) := by decide +kernel
theorem d_Pairs_gatherFree_24 : decode b_Pairs_gatherFree 24 = .ok (.iaload, 1) := by decide +kernel
theorem d_Pairs_gatherFree_25 : decode b_Pairs_gatherFree 25 = .ok (.iaload, 1) := by decide +kernel
theorem d_Pairs_gatherFree_26 : decode b_Pairs_gatherFree 26 = .ok (.iload_n 1, 1) := by decide +kernel
theorem d_Pairs_gatherFree_27 : decode b_Pairs_gatherFree 27 = .ok (.if_icmp .eq 23, 3) := by decide +kernel
theorem d_Pairs_gatherFree_30 : decode b_Pairs_gatherFree 30 = .ok (.aload_n 0, 1) := by decide +kernel
theorem d_Pairs_gatherFree_31 : decode b_Pairs_gatherFree 31 = .ok (.getfield 27, 3) := by decide +kernel
theorem d_Pairs_gatherFree_34 : decode b_Pairs_gatherFree 34 = .ok (.aload_n 0, 1) := by decide +kernel
theorem d_Pairs_gatherFree_35 : decode b_Pairs_gatherFree 35 = .ok (.getfield 37, 3) := by decide +kernel
theorem d_Pairs_gatherFree_38 : decode b_Pairs_gatherFree 38 = .ok (.iload_n 1, 1) := by decide +kernel
theorem d_Pairs_gatherFree_39 : decode b_Pairs_gatherFree 39 = .ok (.iastore, 1) := by decide +kernel
theorem d_Pairs_gatherFree_40 : decode b_Pairs_gatherFree 40 = .ok (.aload_n 0, 1) := by decide +kernel
theorem d_Pairs_gatherFree_41 : decode b_Pairs_gatherFree 41 = .ok (.dup, 1) := by decide +kernel
theorem d_Pairs_gatherFree_42 : decode b_Pairs_gatherFree 42 = .ok (.getfield 37, 3) := by decide +kernel
theorem d_Pairs_gatherFree_45 : decode b_Pairs_gatherFree 45 = .ok (.iconst 1, 1) := by decide +kernel
theorem d_Pairs_gatherFree_46 : decode b_Pairs_gatherFree 46 = .ok (.iadd, 1) := by decide +kernel
theorem d_Pairs_gatherFree_47 : decode b_Pairs_gatherFree 47 = .ok (.putfield 37, 3) := by decide +kernel
theorem d_Pairs_gatherFree_50 : decode b_Pairs_gatherFree 50 = .ok (.iinc 1 1, 3) := by decide +kernel
theorem d_Pairs_gatherFree_53 : decode b_Pairs_gatherFree 53 = .ok (.goto (-46), 3) := by decide +kernel
theorem d_Pairs_gatherFree_56 : decode b_Pairs_gatherFree 56 = .ok (.return_, 1) := by decide +kernel
theorem d_Pairs_make_0 : decode b_Pairs_make 0 = .ok (.aload_n 0, 1) := by decide +kernel
theorem d_Pairs_make_1 : decode b_Pairs_make 1 = .ok (.getfield 30, 3) := by decide +kernel
theorem d_Pairs_make_4 : decode b_Pairs_make 4 = .ok (.aload_n 2, 1) := by decide +kernel
theorem d_Pairs_make_5 : decode b_Pairs_make 5 = .ok (.invokestatic 75, 3) := by decide +kernel
theorem d_Pairs_make_8 : decode b_Pairs_make 8 = .ok (.iconst 0, 1) := by decide +kernel
theorem d_Pairs_make_9 : decode b_Pairs_make 9 = .ok (.istore_n 3, 1) := by decide +kernel
theorem d_Pairs_make_10 : decode b_Pairs_make 10 = .ok (.iload_n 3, 1) := by decide +kernel
theorem d_Pairs_make_11 : decode b_Pairs_make 11 = .ok (.aload_n 0, 1) := by decide +kernel
theorem d_Pairs_make_12 : decode b_Pairs_make 12 = .ok (.getfield 33, 3) := by decide +kernel
theorem d_Pairs_make_15 : decode b_Pairs_make 15 = .ok (.if_icmp .ge 38, 3) := by decide +kernel
theorem d_Pairs_make_18 : decode b_Pairs_make 18 = .ok (.aload_n 0, 1) := by decide +kernel
theorem d_Pairs_make_19 : decode b_Pairs_make 19 = .ok (.getfield 30, 3) := by decide +kernel
theorem d_Pairs_make_22 : decode b_Pairs_make 22 = .ok (.aload_n 0, 1) := by decide +kernel
theorem d_Pairs_make_23 : decode b_Pairs_make 23 = .ok (.getfield 18, 3) := by decide +kernel
theorem d_Pairs_make_26 : decode b_Pairs_make 26 = .ok (.iload_n 3, 1) := by decide +kernel
theorem d_Pairs_make_27 : decode b_Pairs_make 27 = .ok (.iaload, 1) := by decide +kernel
theorem d_Pairs_make_28 : decode b_Pairs_make 28 = .ok (.dup2, 1) := by decide +kernel
theorem d_Pairs_make_29 : decode b_Pairs_make 29 = .ok (.iaload, 1) := by decide +kernel
theorem d_Pairs_make_30 : decode b_Pairs_make 30 = .ok (.aload_n 0, 1) := by decide +kernel
theorem d_Pairs_make_31 : decode b_Pairs_make 31 = .ok (.getfield 21, 3) := by decide +kernel
theorem d_Pairs_make_34 : decode b_Pairs_make 34 = .ok (.iload_n 3, 1) := by decide +kernel
theorem d_Pairs_make_35 : decode b_Pairs_make 35 = .ok (.iaload, 1) := by decide +kernel
theorem d_Pairs_make_36 : decode b_Pairs_make 36 = .ok (.aload_n 1, 1) := by decide +kernel
theorem d_Pairs_make_37 : decode b_Pairs_make 37 = .ok (.aload_n 0, 1) := by decide +kernel
theorem d_Pairs_make_38 : decode b_Pairs_make 38 = .ok (.getfield 15, 3) := by decide +kernel
theorem d_Pairs_make_41 : decode b_Pairs_make 41 = .ok (.iload_n 3, 1) := by decide +kernel
theorem d_Pairs_make_42 : decode b_Pairs_make 42 = .ok (.iaload, 1) := by decide +kernel
theorem d_Pairs_make_43 : decode b_Pairs_make 43 = .ok (.iaload, 1) := by decide +kernel
theorem d_Pairs_make_44 : decode b_Pairs_make 44 = .ok (.imul, 1) := by decide +kernel
theorem d_Pairs_make_45 : decode b_Pairs_make 45 = .ok (.isub, 1) := by decide +kernel
theorem d_Pairs_make_46 : decode b_Pairs_make 46 = .ok (.iastore, 1) := by decide +kernel
theorem d_Pairs_make_47 : decode b_Pairs_make 47 = .ok (.iinc 3 1, 3) := by decide +kernel
theorem d_Pairs_make_50 : decode b_Pairs_make 50 = .ok (.goto (-40), 3) := by decide +kernel
theorem d_Pairs_make_53 : decode b_Pairs_make 53 = .ok (.iconst 0, 1) := by decide +kernel
theorem d_Pairs_make_54 : decode b_Pairs_make 54 = .ok (.istore_n 3, 1) := by decide +kernel
theorem d_Pairs_make_55 : decode b_Pairs_make 55 = .ok (.iload_n 3, 1) := by decide +kernel
theorem d_Pairs_make_56 : decode b_Pairs_make 56 = .ok (.bipush 15, 2) := by decide +kernel
theorem d_Pairs_make_58 : decode b_Pairs_make 58 = .ok (.if_icmp .ge 20, 3) := by decide +kernel
theorem d_Pairs_make_61 : decode b_Pairs_make 61 = .ok (.aload_n 0, 1) := by decide +kernel
theorem d_Pairs_make_62 : decode b_Pairs_make 62 = .ok (.getfield 30, 3) := by decide +kernel
theorem d_Pairs_make_65 : decode b_Pairs_make 65 = .ok (.iload_n 3, 1) := by decide +kernel
theorem d_Pairs_make_66 : decode b_Pairs_make 66 = .ok (.iaload, 1) := by decide +kernel
theorem d_Pairs_make_67 : decode b_Pairs_make 67 = .ok (.ifCond .eq 5, 3) := by decide +kernel
theorem d_Pairs_make_70 : decode b_Pairs_make 70 = .ok (.iconst 0, 1) := by decide +kernel
theorem d_Pairs_make_71 : decode b_Pairs_make 71 = .ok (.ireturn, 1) := by decide +kernel
theorem d_Pairs_make_72 : decode b_Pairs_make 72 = .ok (.iinc 3 1, 3) := by decide +kernel
theorem d_Pairs_make_75 : decode b_Pairs_make 75 = .ok (.goto (-20), 3) := by decide +kernel
theorem d_Pairs_make_78 : decode b_Pairs_make 78 = .ok (.iconst 1, 1) := by decide +kernel
theorem d_Pairs_make_79 : decode b_Pairs_make 79 = .ok (.ireturn, 1) := by decide +kernel
theorem d_Pairs_haveAllTerms_0 : decode b_Pairs_haveAllTerms 0 = .ok (.iconst 0, 1) := by decide +kernel
theorem d_Pairs_haveAllTerms_1 : decode b_Pairs_haveAllTerms 1 = .ok (.istore_n 2, 1) := by decide +kernel
theorem d_Pairs_haveAllTerms_2 : decode b_Pairs_haveAllTerms 2 = .ok (.iload_n 2, 1) := by decide +kernel
theorem d_Pairs_haveAllTerms_3 : decode b_Pairs_haveAllTerms 3 = .ok (.bipush 15, 2) := by decide +kernel
theorem d_Pairs_haveAllTerms_5 : decode b_Pairs_haveAllTerms 5 = .ok (.if_icmp .ge 27, 3) := by decide +kernel
theorem d_Pairs_haveAllTerms_8 : decode b_Pairs_haveAllTerms 8 = .ok (.aload_n 1, 1) := by decide +kernel
theorem d_Pairs_haveAllTerms_9 : decode b_Pairs_haveAllTerms 9 = .ok (.iload_n 2, 1) := by decide +kernel
theorem d_Pairs_haveAllTerms_10 : decode b_Pairs_haveAllTerms 10 = .ok (.iaload, 1) := by decide +kernel
theorem d_Pairs_haveAllTerms_11 : decode b_Pairs_haveAllTerms 11 = .ok (.ifCond .eq 15, 3) := by decide +kernel
theorem d_Pairs_haveAllTerms_14 : decode b_Pairs_haveAllTerms 14 = .ok (.aload_n 0, 1) := by decide +kernel
theorem d_Pairs_haveAllTerms_15 : decode b_Pairs_haveAllTerms 15 = .ok (.getfield 24, 3) := by decide +kernel
theorem d_Pairs_haveAllTerms_18 : decode b_Pairs_haveAllTerms 18 = .ok (.iload_n 2, 1) := by decide +kernel
theorem d_Pairs_haveAllTerms_19 : decode b_Pairs_haveAllTerms 19 = .ok (.iaload, 1) := by decide +kernel
theorem d_Pairs_haveAllTerms_20 : decode b_Pairs_haveAllTerms 20 = .ok (.iconst (-1), 1) := by decide +kernel
theorem d_Pairs_haveAllTerms_21 : decode b_Pairs_haveAllTerms 21 = .ok (.if_icmp .ne 5, 3) := by decide +kernel
theorem d_Pairs_haveAllTerms_24 : decode b_Pairs_haveAllTerms 24 = .ok (.iconst 0, 1) := by decide +kernel
theorem d_Pairs_haveAllTerms_25 : decode b_Pairs_haveAllTerms 25 = .ok (.ireturn, 1) := by decide +kernel
theorem d_Pairs_haveAllTerms_26 : decode b_Pairs_haveAllTerms 26 = .ok (.iinc 2 1, 3) := by decide +kernel
theorem d_Pairs_haveAllTerms_29 : decode b_Pairs_haveAllTerms 29 = .ok (.goto (-27), 3) := by decide +kernel
theorem d_Pairs_haveAllTerms_32 : decode b_Pairs_haveAllTerms 32 = .ok (.iconst 1, 1) := by decide +kernel
theorem d_Pairs_haveAllTerms_33 : decode b_Pairs_haveAllTerms 33 = .ok (.ireturn, 1) := by decide +kernel
theorem d_Pairs_doubleInto_0 : decode b_Pairs_doubleInto 0 = .ok (.iconst 0, 1) := by decide +kernel
theorem d_Pairs_doubleInto_1 : decode b_Pairs_doubleInto 1 = .ok (.istore_n 2, 1) := by decide +kernel
theorem d_Pairs_doubleInto_2 : decode b_Pairs_doubleInto 2 = .ok (.iload_n 2, 1) := by decide +kernel
theorem d_Pairs_doubleInto_3 : decode b_Pairs_doubleInto 3 = .ok (.bipush 15, 2) := by decide +kernel
theorem d_Pairs_doubleInto_5 : decode b_Pairs_doubleInto 5 = .ok (.if_icmp .ge 17, 3) := by decide +kernel
theorem d_Pairs_doubleInto_8 : decode b_Pairs_doubleInto 8 = .ok (.aload_n 0, 1) := by decide +kernel
theorem d_Pairs_doubleInto_9 : decode b_Pairs_doubleInto 9 = .ok (.iload_n 2, 1) := by decide +kernel
theorem d_Pairs_doubleInto_10 : decode b_Pairs_doubleInto 10 = .ok (.iconst 2, 1) := by decide +kernel
theorem d_Pairs_doubleInto_11 : decode b_Pairs_doubleInto 11 = .ok (.aload_n 1, 1) := by decide +kernel
theorem d_Pairs_doubleInto_12 : decode b_Pairs_doubleInto 12 = .ok (.iload_n 2, 1) := by decide +kernel
theorem d_Pairs_doubleInto_13 : decode b_Pairs_doubleInto 13 = .ok (.iaload, 1) := by decide +kernel
theorem d_Pairs_doubleInto_14 : decode b_Pairs_doubleInto 14 = .ok (.imul, 1) := by decide +kernel
theorem d_Pairs_doubleInto_15 : decode b_Pairs_doubleInto 15 = .ok (.iastore, 1) := by decide +kernel
theorem d_Pairs_doubleInto_16 : decode b_Pairs_doubleInto 16 = .ok (.iinc 2 1, 3) := by decide +kernel
theorem d_Pairs_doubleInto_19 : decode b_Pairs_doubleInto 19 = .ok (.goto (-17), 3) := by decide +kernel
theorem d_Pairs_doubleInto_22 : decode b_Pairs_doubleInto 22 = .ok (.return_, 1) := by decide +kernel
