theorem d_Search_init_0 : decode b_Search_init 0 = .ok (.aload_n 0, 1) := by decide +kernel
theorem d_Search_init_1 : decode b_Search_init 1 = .ok (.invokespecial 3, 3) := by decide +kernel
theorem d_Search_init_4 : decode b_Search_init 4 = .ok (.aload_n 0, 1) := by decide +kernel
theorem d_Search_init_5 : decode b_Search_init 5 = .ok (.bipush 36, 2) := by decide +kernel
theorem d_Search_init_7 : decode b_Search_init 7 = .ok (.newarray .int, 2) := by decide +kernel
theorem d_Search_init_9 : decode b_Search_init 9 = .ok (.putfield 9, 3) := by decide +kernel
theorem d_Search_init_12 : decode b_Search_init 12 = .ok (.aload_n 0, 1) := by decide +kernel
theorem d_Search_init_13 : decode b_Search_init 13 = .ok (.bipush 15, 2) := by decide +kernel
theorem d_Search_init_15 : decode b_Search_init 15 = .ok (.newarray .int, 2) := by decide +kernel
theorem d_Search_init_17 : decode b_Search_init 17 = .ok (.putfield 15, 3) := by decide +kernel
theorem d_Search_init_20 : decode b_Search_init 20 = .ok (.aload_n 0, 1) := by decide +kernel
theorem d_Search_init_21 : decode b_Search_init 21 = .ok (.bipush 21, 2) := by decide +kernel
theorem d_Search_init_23 : decode b_Search_init 23 = .ok (.newarray .int, 2) := by decide +kernel
theorem d_Search_init_25 : decode b_Search_init 25 = .ok (.putfield 18, 3) := by decide +kernel
theorem d_Search_init_28 : decode b_Search_init 28 = .ok (.aload_n 0, 1) := by decide +kernel
theorem d_Search_init_29 : decode b_Search_init 29 = .ok (.bipush 6, 2) := by decide +kernel
theorem d_Search_init_31 : decode b_Search_init 31 = .ok (.newarray .int, 2) := by decide +kernel
theorem d_Search_init_33 : decode b_Search_init 33 = .ok (.putfield 21, 3) := by decide +kernel
theorem d_Search_init_36 : decode b_Search_init 36 = .ok (.aload_n 0, 1) := by decide +kernel
theorem d_Search_init_37 : decode b_Search_init 37 = .ok (.new 24, 3) := by decide +kernel
theorem d_Search_init_40 : decode b_Search_init 40 = .ok (.dup, 1) := by decide +kernel
theorem d_Search_init_41 : decode b_Search_init 41 = .ok (.invokespecial 26, 3) := by decide +kernel
theorem d_Search_init_44 : decode b_Search_init 44 = .ok (.putfield 27, 3) := by decide +kernel
theorem d_Search_init_47 : decode b_Search_init 47 = .ok (.return_, 1) := by decide +kernel
theorem d_Search_triedAhead_0 : decode b_Search_triedAhead 0 = .ok (.aload_n 1, 1) := by decide +kernel
theorem d_Search_triedAhead_1 : decode b_Search_triedAhead 1 = .ok (.aload_n 2, 1) := by decide +kernel
theorem d_Search_triedAhead_2 : decode b_Search_triedAhead 2 = .ok (.invokevirtual 31, 3) := by decide +kernel
theorem d_Search_triedAhead_5 : decode b_Search_triedAhead 5 = .ok (.ifCond .ne 5, 3) := by decide +kernel
theorem d_Search_triedAhead_8 : decode b_Search_triedAhead 8 = .ok (.iconst (-1), 1) := by decide +kernel
theorem d_Search_triedAhead_9 : decode b_Search_triedAhead 9 = .ok (.ireturn, 1) := by decide +kernel
theorem d_Search_triedAhead_10 : decode b_Search_triedAhead 10 = .ok (.aload_n 0, 1) := by decide +kernel
theorem d_Search_triedAhead_11 : decode b_Search_triedAhead 11 = .ok (.getfield 9, 3) := by decide +kernel
theorem d_Search_triedAhead_14 : decode b_Search_triedAhead 14 = .ok (.iconst 0, 1) := by decide +kernel
theorem d_Search_triedAhead_15 : decode b_Search_triedAhead 15 = .ok (.invokestatic 37, 3) := by decide +kernel
theorem d_Search_triedAhead_18 : decode b_Search_triedAhead 18 = .ok (.aload_n 0, 1) := by decide +kernel
theorem d_Search_triedAhead_19 : decode b_Search_triedAhead 19 = .ok (.iconst (-1), 1) := by decide +kernel
theorem d_Search_triedAhead_20 : decode b_Search_triedAhead 20 = .ok (.iload 4, 2) := by decide +kernel
theorem d_Search_triedAhead_22 : decode b_Search_triedAhead 22 = .ok (.invokevirtual 43, 3) := by decide +kernel
theorem d_Search_triedAhead_25 : decode b_Search_triedAhead 25 = .ok (.aload_n 0, 1) := by decide +kernel
theorem d_Search_triedAhead_26 : decode b_Search_triedAhead 26 = .ok (.aload_n 1, 1) := by decide +kernel
theorem d_Search_triedAhead_27 : decode b_Search_triedAhead 27 = .ok (.invokevirtual 47, 3) := by decide +kernel
theorem d_Search_triedAhead_30 : decode b_Search_triedAhead 30 = .ok (.iconst 0, 1) := by decide +kernel
theorem d_Search_triedAhead_31 : decode b_Search_triedAhead 31 = .ok (.istore 5, 2) := by decide +kernel
theorem d_Search_triedAhead_33 : decode b_Search_triedAhead 33 = .ok (.iload 5, 2) := by decide +kernel
theorem d_Search_triedAhead_35 : decode b_Search_triedAhead 35 = .ok (.sipush 15625, 3) := by decide +kernel
theorem d_Search_triedAhead_38 : decode b_Search_triedAhead 38 = .ok (.if_icmp .ge 53, 3) := by decide +kernel
theorem d_Search_triedAhead_41 : decode b_Search_triedAhead 41 = .ok (.aload_n 0, 1) := by decide +kernel
theorem d_Search_triedAhead_42 : decode b_Search_triedAhead 42 = .ok (.aload_n 1, 1) := by decide +kernel
theorem d_Search_triedAhead_43 : decode b_Search_triedAhead 43 = .ok (.aload_n 2, 1) := by decide +kernel
theorem d_Search_triedAhead_44 : decode b_Search_triedAhead 44 = .ok (.iload_n 3, 1) := by decide +kernel
theorem d_Search_triedAhead_45 : decode b_Search_triedAhead 45 = .ok (.invokevirtual 51, 3) := by decide +kernel
theorem d_Search_triedAhead_48 : decode b_Search_triedAhead 48 = .ok (.istore 6, 2) := by decide +kernel
theorem d_Search_triedAhead_50 : decode b_Search_triedAhead 50 = .ok (.iload 6, 2) := by decide +kernel
theorem d_Search_triedAhead_52 : decode b_Search_triedAhead 52 = .ok (.iconst (-1), 1) := by decide +kernel
theorem d_Search_triedAhead_53 : decode b_Search_triedAhead 53 = .ok (.if_icmp .ne 14, 3) := by decide +kernel
theorem d_Search_triedAhead_56 : decode b_Search_triedAhead 56 = .ok (.aload_n 0, 1) := by decide +kernel
theorem d_Search_triedAhead_57 : decode b_Search_triedAhead 57 = .ok (.aload_n 1, 1) := by decide +kernel
theorem d_Search_triedAhead_58 : decode b_Search_triedAhead 58 = .ok (.getfield 55, 3) := by decide +kernel
theorem d_Search_triedAhead_61 : decode b_Search_triedAhead 61 = .ok (.iload 4, 2) := by decide +kernel
theorem d_Search_triedAhead_63 : decode b_Search_triedAhead 63 = .ok (.invokevirtual 59, 3) := by decide +kernel
theorem d_Search_triedAhead_66 : decode b_Search_triedAhead 66 = .ok (.ireturn, 1) := by decide +kernel
theorem d_Search_triedAhead_67 : decode b_Search_triedAhead 67 = .ok (.aload_n 0, 1) := by decide +kernel
theorem d_Search_triedAhead_68 : decode b_Search_triedAhead 68 = .ok (.aload_n 0, 1) := by decide +kernel
theorem d_Search_triedAhead_69 : decode b_Search_triedAhead 69 = .ok (.getfield 21, 3) := by decide +kernel
theorem d_Search_triedAhead_72 : decode b_Search_triedAhead 72 = .ok (.iload 6, 2) := by decide +kernel
theorem d_Search_triedAhead_74 : decode b_Search_triedAhead 74 = .ok (.iaload, 1) := by decide +kernel
theorem d_Search_triedAhead_75 : decode b_Search_triedAhead 75 = .ok (.iload 4, 2) := by decide +kernel
theorem d_Search_triedAhead_77 : decode b_Search_triedAhead 77 = .ok (.invokevirtual 63, 3) := by decide +kernel
theorem d_Search_triedAhead_80 : decode b_Search_triedAhead 80 = .ok (.ifCond .ne 5, 3) := by decide +kernel
theorem d_Search_triedAhead_83 : decode b_Search_triedAhead 83 = .ok (.iconst (-1), 1) := by decide +kernel
theorem d_Search_triedAhead_84 : decode b_Search_triedAhead 84 = .ok (.ireturn, 1) := by decide +kernel
theorem d_Search_triedAhead_85 : decode b_Search_triedAhead 85 = .ok (.iinc 5 1, 3) := by decide +kernel
theorem d_Search_triedAhead_88 : decode b_Search_triedAhead 88 = .ok (.goto (-55), 3) := by decide +kernel
theorem d_Search_triedAhead_91 : decode b_Search_triedAhead 91 = .ok (.iconst (-1), 1) := by decide +kernel
theorem d_Search_triedAhead_92 : decode b_Search_triedAhead 92 = .ok (.ireturn, 1) := by decide +kernel
theorem d_Search_findLastFree_0 : decode b_Search_findLastFree 0 = .ok (.aload_n 0, 1) := by decide +kernel
theorem d_Search_findLastFree_1 : decode b_Search_findLastFree 1 = .ok (.getfield 21, 3) := by decide +kernel
theorem d_Search_findLastFree_4 : decode b_Search_findLastFree 4 = .ok (.iconst (-1), 1) := by decide +kernel
theorem d_Search_findLastFree_5 : decode b_Search_findLastFree 5 = .ok (.invokestatic 37, 3) := by decide +kernel
theorem d_Search_findLastFree_8 : decode b_Search_findLastFree 8 = .ok (.iconst 0, 1) := by decide +kernel
theorem d_Search_findLastFree_9 : decode b_Search_findLastFree 9 = .ok (.istore_n 2, 1) := by decide +kernel
theorem d_Search_findLastFree_10 : decode b_Search_findLastFree 10 = .ok (.iload_n 2, 1) := by decide +kernel
theorem d_Search_findLastFree_11 : decode b_Search_findLastFree 11 = .ok (.aload_n 1, 1) := by decide +kernel
theorem d_Search_findLastFree_12 : decode b_Search_findLastFree 12 = .ok (.getfield 55, 3) := by decide +kernel
theorem d_Search_findLastFree_15 : decode b_Search_findLastFree 15 = .ok (.if_icmp .ge 62, 3) := by decide +kernel
theorem d_Search_findLastFree_18 : decode b_Search_findLastFree 18 = .ok (.aload_n 1, 1) := by decide +kernel
theorem d_Search_findLastFree_19 : decode b_Search_findLastFree 19 = .ok (.getfield 67, 3) := by decide +kernel
theorem d_Search_findLastFree_22 : decode b_Search_findLastFree 22 = .ok (.aload_n 1, 1) := by decide +kernel
theorem d_Search_findLastFree_23 : decode b_Search_findLastFree 23 = .ok (.getfield 70, 3) := by decide +kernel
theorem d_Search_findLastFree_26 : decode b_Search_findLastFree 26 = .ok (.iload_n 2, 1) := by decide +kernel
theorem d_Search_findLastFree_27 : decode b_Search_findLastFree 27 = .ok (.iaload, 1) := by decide +kernel
theorem d_Search_findLastFree_28 : decode b_Search_findLastFree 28 = .ok (.iaload, 1) := by decide +kernel
theorem d_Search_findLastFree_29 : decode b_Search_findLastFree 29 = .ok (.istore_n 3, 1) := by decide +kernel
theorem d_Search_findLastFree_30 : decode b_Search_findLastFree 30 = .ok (.iconst 0, 1) := by decide +kernel
theorem d_Search_findLastFree_31 : decode b_Search_findLastFree 31 = .ok (.istore 4, 2) := by decide +kernel
theorem d_Search_findLastFree_33 : decode b_Search_findLastFree 33 = .ok (.iload 4, 2) := by decide +kernel
theorem d_Search_findLastFree_35 : decode b_Search_findLastFree 35 = .ok (.aload_n 1, 1) := by decide +kernel
theorem d_Search_findLastFree_36 : decode b_Search_findLastFree 36 = .ok (.getfield 73, 3) := by decide +kernel
theorem d_Search_findLastFree_39 : decode b_Search_findLastFree 39 = .ok (.if_icmp .ge 32, 3) := by decide +kernel
theorem d_Search_findLastFree_42 : decode b_Search_findLastFree 42 = .ok (.aload_n 1, 1) := by decide +kernel
theorem d_Search_findLastFree_43 : decode b_Search_findLastFree 43 = .ok (.getfield 67, 3) := by decide +kernel
theorem d_Search_findLastFree_46 : decode b_Search_findLastFree 46 = .ok (.iload 4, 2) := by decide +kernel
theorem d_Search_findLastFree_48 : decode b_Search_findLastFree 48 = .ok (.iaload, 1) := by decide +kernel
theorem d_Search_findLastFree_49 : decode b_Search_findLastFree 49 = .ok (.iload_n 3, 1) := by decide +kernel
theorem d_Search_findLastFree_50 : decode b_Search_findLastFree 50 = .ok (.if_icmp .ne 15, 3) := by decide +kernel
theorem d_Search_findLastFree_53 : decode b_Search_findLastFree 53 = .ok (.aload_n 0, 1) := by decide +kernel
theorem d_Search_findLastFree_54 : decode b_Search_findLastFree 54 = .ok (.aload_n 1, 1) := by decide +kernel
theorem d_Search_findLastFree_55 : decode b_Search_findLastFree 55 = .ok (.getfield 76, 3) := by decide +kernel
theorem d_Search_findLastFree_58 : decode b_Search_findLastFree 58 = .ok (.iload 4, 2) := by decide +kernel
theorem d_Search_findLastFree_60 : decode b_Search_findLastFree 60 = .ok (.iaload, 1) := by decide +kernel
theorem d_Search_findLastFree_61 : decode b_Search_findLastFree 61 = .ok (.iload_n 2, 1) := by decide +kernel
theorem d_Search_findLastFree_62 : decode b_Search_findLastFree 62 = .ok (.invokevirtual 79, 3) := by decide +kernel
theorem d_Search_findLastFree_65 : decode b_Search_findLastFree 65 = .ok (.iinc 4 1, 3) := by decide +kernel
theorem d_Search_findLastFree_68 : decode b_Search_findLastFree 68 = .ok (.goto (-35), 3) := by decide +kernel
theorem d_Search_findLastFree_71 : decode b_Search_findLastFree 71 = .ok (.iinc 2 1, 3) := by decide +kernel
theorem d_Search_findLastFree_74 : decode b_Search_findLastFree 74 = .ok (.goto (-64), 3) := by decide +kernel
theorem d_Search_findLastFree_77 : decode b_Search_findLastFree 77 = .ok (.return_, 1) := by decide +kernel
theorem d_Search_markFrom_0 : decode b_Search_markFrom 0 = .ok (.iload_n 1, 1) := by decide +kernel
theorem d_Search_markFrom_1 : decode b_Search_markFrom 1 = .ok (.istore_n 3, 1) := by decide +kernel
theorem d_Search_markFrom_2 : decode b_Search_markFrom 2 = .ok (.iload_n 3, 1) := by decide +kernel
theorem d_Search_markFrom_3 : decode b_Search_markFrom 3 = .ok (.bipush 6, 2) := by decide +kernel
theorem d_Search_markFrom_5 : decode b_Search_markFrom 5 = .ok (.if_icmp .ge 16, 3) := by decide +kernel
theorem d_Search_markFrom_8 : decode b_Search_markFrom 8 = .ok (.aload_n 0, 1) := by decide +kernel
theorem d_Search_markFrom_9 : decode b_Search_markFrom 9 = .ok (.getfield 21, 3) := by decide +kernel
theorem d_Search_markFrom_12 : decode b_Search_markFrom 12 = .ok (.iload_n 3, 1) := by decide +kernel
theorem d_Search_markFrom_13 : decode b_Search_markFrom 13 = .ok (.iload_n 2, 1) := by decide +kernel
theorem d_Search_markFrom_14 : decode b_Search_markFrom 14 = .ok (.iastore, 1) := by decide +kernel
theorem d_Search_markFrom_15 : decode b_Search_markFrom 15 = .ok (.iinc 3 1, 3) := by decide +kernel
theorem d_Search_markFrom_18 : decode b_Search_markFrom 18 = .ok (.goto (-16), 3) := by decide +kernel
theorem d_Search_markFrom_21 : decode b_Search_markFrom 21 = .ok (.return_, 1) := by decide +kernel
theorem d_Search_wrongMember_0 : decode b_Search_wrongMember 0 = .ok (.aload_n 0, 1) := by decide +kernel
theorem d_Search_wrongMember_1 : decode b_Search_wrongMember 1 = .ok (.getfield 15, 3) := by decide +kernel
theorem d_Search_wrongMember_4 : decode b_Search_wrongMember 4 = .ok (.aload_n 2, 1) := by decide +kernel
theorem d_Search_wrongMember_5 : decode b_Search_wrongMember 5 = .ok (.invokestatic 82, 3) := by decide +kernel
theorem d_Search_wrongMember_8 : decode b_Search_wrongMember 8 = .ok (.iconst 0, 1) := by decide +kernel
theorem d_Search_wrongMember_9 : decode b_Search_wrongMember 9 = .ok (.istore 4, 2) := by decide +kernel
theorem d_Search_wrongMember_11 : decode b_Search_wrongMember 11 = .ok (.iload 4, 2) := by decide +kernel
theorem d_Search_wrongMember_13 : decode b_Search_wrongMember 13 = .ok (.aload_n 1, 1) := by decide +kernel
theorem d_Search_wrongMember_14 : decode b_Search_wrongMember 14 = .ok (.getfield 55, 3) := by decide +kernel
theorem d_Search_wrongMember_17 : decode b_Search_wrongMember 17 = .ok (.if_icmp .ge 67, 3) := by decide +kernel
theorem d_Search_wrongMember_20 : decode b_Search_wrongMember 20 = .ok (.aload_n 1, 1) := by decide +kernel
theorem d_Search_wrongMember_21 : decode b_Search_wrongMember 21 = .ok (.getfield 70, 3) := by decide +kernel
theorem d_Search_wrongMember_24 : decode b_Search_wrongMember 24 = .ok (.iload 4, 2) := by decide +kernel
theorem d_Search_wrongMember_26 : decode b_Search_wrongMember 26 = .ok (.iaload, 1) := by decide +kernel
theorem d_Search_wrongMember_27 : decode b_Search_wrongMember 27 = .ok (.istore 5, 2) := by decide +kernel
theorem d_Search_wrongMember_29 : decode b_Search_wrongMember 29 = .ok (.aload_n 0, 1) := by decide +kernel
theorem d_Search_wrongMember_30 : decode b_Search_wrongMember 30 = .ok (.getfield 15, 3) := by decide +kernel
theorem d_Search_wrongMember_33 : decode b_Search_wrongMember 33 = .ok (.aload_n 1, 1) := by decide +kernel
theorem d_Search_wrongMember_34 : decode b_Search_wrongMember 34 = .ok (.getfield 67, 3) := by decide +kernel
theorem d_Search_wrongMember_37 : decode b_Search_wrongMember 37 = .ok (.iload 5, 2) := by decide +kernel
theorem d_Search_wrongMember_39 : decode b_Search_wrongMember 39 = .ok (.iaload, 1) := by decide +kernel
theorem d_Search_wrongMember_40 : decode b_Search_wrongMember 40 = .ok (.dup2, 1) := by decide +kernel
theorem d_Search_wrongMember_41 : decode b_Search_wrongMember 41 = .ok (.iaload, 1) := by decide +kernel
theorem d_Search_wrongMember_42 : decode b_Search_wrongMember 42 = .ok (.aload_n 1, 1) := by decide +kernel
theorem d_Search_wrongMember_43 : decode b_Search_wrongMember 43 = .ok (.getfield 86, 3) := by decide +kernel
theorem d_Search_wrongMember_46 : decode b_Search_wrongMember 46 = .ok (.iload 5, 2) := by decide +kernel
theorem d_Search_wrongMember_48 : decode b_Search_wrongMember 48 = .ok (.iaload, 1) := by decide +kernel
theorem d_Search_wrongMember_49 : decode b_Search_wrongMember 49 = .ok (.aload_n 0, 1) := by decide +kernel
theorem d_Search_wrongMember_50 : decode b_Search_wrongMember 50 = .ok (.getfield 18, 3) := by decide +kernel
theorem d_Search_wrongMember_53 : decode b_Search_wrongMember 53 = .ok (.iload 4, 2) := by decide +kernel
theorem d_Search_wrongMember_55 : decode b_Search_wrongMember 55 = .ok (.iaload, 1) := by decide +kernel
theorem d_Search_wrongMember_56 : decode b_Search_wrongMember 56 = .ok (.imul, 1) := by decide +kernel
theorem d_Search_wrongMember_57 : decode b_Search_wrongMember 57 = .ok (.isub, 1) := by decide +kernel
theorem d_Search_wrongMember_58 : decode b_Search_wrongMember 58 = .ok (.iastore, 1) := by decide +kernel
theorem d_Search_wrongMember_59 : decode b_Search_wrongMember 59 = .ok (.aload_n 0, 1) := by decide +kernel
theorem d_Search_wrongMember_60 : decode b_Search_wrongMember 60 = .ok (.getfield 9, 3) := by decide +kernel
theorem d_Search_wrongMember_63 : decode b_Search_wrongMember 63 = .ok (.aload_n 1, 1) := by decide +kernel
theorem d_Search_wrongMember_64 : decode b_Search_wrongMember 64 = .ok (.getfield 89, 3) := by decide +kernel
theorem d_Search_wrongMember_67 : decode b_Search_wrongMember 67 = .ok (.iload 5, 2) := by decide +kernel
theorem d_Search_wrongMember_69 : decode b_Search_wrongMember 69 = .ok (.iaload, 1) := by decide +kernel
theorem d_Search_wrongMember_70 : decode b_Search_wrongMember 70 = .ok (.aload_n 0, 1) := by decide +kernel
theorem d_Search_wrongMember_71 : decode b_Search_wrongMember 71 = .ok (.getfield 18, 3) := by decide +kernel
theorem d_Search_wrongMember_74 : decode b_Search_wrongMember 74 = .ok (.iload 4, 2) := by decide +kernel
theorem d_Search_wrongMember_76 : decode b_Search_wrongMember 76 = .ok (.iaload, 1) := by decide +kernel
theorem d_Search_wrongMember_77 : decode b_Search_wrongMember 77 = .ok (.iastore, 1) := by decide +kernel
theorem d_Search_wrongMember_78 : decode b_Search_wrongMember 78 = .ok (.iinc 4 1, 3) := by decide +kernel
theorem d_Search_wrongMember_81 : decode b_Search_wrongMember 81 = .ok (.goto (-70), 3) := by decide +kernel
theorem d_Search_wrongMember_84 : decode b_Search_wrongMember 84 = .ok (.iconst 0, 1) := by decide +kernel
theorem d_Search_wrongMember_85 : decode b_Search_wrongMember 85 = .ok (.istore 4, 2) := by decide +kernel
theorem d_Search_wrongMember_87 : decode b_Search_wrongMember 87 = .ok (.iload 4, 2) := by decide +kernel
theorem d_Search_wrongMember_89 : decode b_Search_wrongMember 89 = .ok (.bipush 15, 2) := by decide +kernel
theorem d_Search_wrongMember_91 : decode b_Search_wrongMember 91 = .ok (.if_icmp .ge 91, 3) := by decide +kernel
theorem d_Search_wrongMember_94 : decode b_Search_wrongMember 94 = .ok (.aload_n 1, 1) := by decide +kernel
theorem d_Search_wrongMember_95 : decode b_Search_wrongMember 95 = .ok (.getfield 92, 3) := by decide +kernel
theorem d_Search_wrongMember_98 : decode b_Search_wrongMember 98 = .ok (.iload 4, 2) := by decide +kernel
theorem d_Search_wrongMember_100 : decode b_Search_wrongMember 100 = .ok (.iaload, 1) := by decide +kernel
theorem d_Search_wrongMember_101 : decode b_Search_wrongMember 101 = .ok (.istore 5, 2) := by decide +kernel
theorem d_Search_wrongMember_103 : decode b_Search_wrongMember 103 = .ok (.iload 5, 2) := by decide +kernel
theorem d_Search_wrongMember_105 : decode b_Search_wrongMember 105 = .ok (.iconst (-1), 1) := by decide +kernel
theorem d_Search_wrongMember_106 : decode b_Search_wrongMember 106 = .ok (.if_icmp .ne 6, 3) := by decide +kernel
theorem d_Search_wrongMember_109 : decode b_Search_wrongMember 109 = .ok (.goto 67, 3) := by decide +kernel
theorem d_Search_wrongMember_112 : decode b_Search_wrongMember 112 = .ok (.aload_n 1, 1) := by decide +kernel
theorem d_Search_wrongMember_113 : decode b_Search_wrongMember 113 = .ok (.getfield 86, 3) := by decide +kernel
theorem d_Search_wrongMember_116 : decode b_Search_wrongMember 116 = .ok (.iload 5, 2) := by decide +kernel
theorem d_Search_wrongMember_118 : decode b_Search_wrongMember 118 = .ok (.iaload, 1) := by decide +kernel
theorem d_Search_wrongMember_119 : decode b_Search_wrongMember 119 = .ok (.iconst 1, 1) := by decide +kernel
theorem d_Search_wrongMember_120 : decode b_Search_wrongMember 120 = .ok (.if_icmp .ne 13, 3) := by decide +kernel
theorem d_Search_wrongMember_123 : decode b_Search_wrongMember 123 = .ok (.aload_n 0, 1) := by decide +kernel
theorem d_Search_wrongMember_124 : decode b_Search_wrongMember 124 = .ok (.getfield 15, 3) := by decide +kernel
theorem d_Search_wrongMember_127 : decode b_Search_wrongMember 127 = .ok (.iload 4, 2) := by decide +kernel
theorem d_Search_wrongMember_129 : decode b_Search_wrongMember 129 = .ok (.iaload, 1) := by decide +kernel
theorem d_Search_wrongMember_130 : decode b_Search_wrongMember 130 = .ok (.goto 12, 3) := by decide +kernel
theorem d_Search_wrongMember_133 : decode b_Search_wrongMember 133 = .ok (.aload_n 0, 1) := by decide +kernel
theorem d_Search_wrongMember_134 : decode b_Search_wrongMember 134 = .ok (.getfield 15, 3) := by decide +kernel
theorem d_Search_wrongMember_137 : decode b_Search_wrongMember 137 = .ok (.iload 4, 2) := by decide +kernel
theorem d_Search_wrongMember_139 : decode b_Search_wrongMember 139 = .ok (.iaload, 1) := by decide +kernel
theorem d_Search_wrongMember_140 : decode b_Search_wrongMember 140 = .ok (.iconst 2, 1) := by decide +kernel
theorem d_Search_wrongMember_141 : decode b_Search_wrongMember 141 = .ok (.idiv, 1) := by decide +kernel
theorem d_Search_wrongMember_142 : decode b_Search_wrongMember 142 = .ok (.istore 6, 2) := by decide +kernel
theorem d_Search_wrongMember_144 : decode b_Search_wrongMember 144 = .ok (.iload 6, 2) := by decide +kernel
theorem d_Search_wrongMember_146 : decode b_Search_wrongMember 146 = .ok (.bipush 30, 2) := by decide +kernel
theorem d_Search_wrongMember_148 : decode b_Search_wrongMember 148 = .ok (.invokestatic 95, 3) := by decide +kernel
theorem d_Search_wrongMember_151 : decode b_Search_wrongMember 151 = .ok (.ifCond .ne 11, 3) := by decide +kernel
theorem d_Search_wrongMember_154 : decode b_Search_wrongMember 154 = .ok (.aload_n 1, 1) := by decide +kernel
theorem d_Search_wrongMember_155 : decode b_Search_wrongMember 155 = .ok (.getfield 76, 3) := by decide +kernel
theorem d_Search_wrongMember_158 : decode b_Search_wrongMember 158 = .ok (.iload 5, 2) := by decide +kernel
theorem d_Search_wrongMember_160 : decode b_Search_wrongMember 160 = .ok (.iaload, 1) := by decide +kernel
theorem d_Search_wrongMember_161 : decode b_Search_wrongMember 161 = .ok (.ireturn, 1) := by decide +kernel
theorem d_Search_wrongMember_162 : decode b_Search_wrongMember 162 = .ok (.aload_n 0, 1) := by decide +kernel
theorem d_Search_wrongMember_163 : decode b_Search_wrongMember 163 = .ok (.getfield 9, 3) := by decide +kernel
theorem d_Search_wrongMember_166 : decode b_Search_wrongMember 166 = .ok (.aload_n 1, 1) := by decide +kernel
theorem d_Search_wrongMember_167 : decode b_Search_wrongMember 167 = .ok (.getfield 89, 3) := by decide +kernel
theorem d_Search_wrongMember_170 : decode b_Search_wrongMember 170 = .ok (.iload 5, 2) := by decide +kernel
theorem d_Search_wrongMember_172 : decode b_Search_wrongMember 172 = .ok (.iaload, 1) := by decide +kernel
theorem d_Search_wrongMember_173 : decode b_Search_wrongMember 173 = .ok (.iload 6, 2) := by decide +kernel
theorem d_Search_wrongMember_175 : decode b_Search_wrongMember 175 = .ok (.iastore, 1) := by decide +kernel
theorem d_Search_wrongMember_176 : decode b_Search_wrongMember 176 = .ok (.iinc 4 1, 3) := by decide +kernel
theorem d_Search_wrongMember_179 : decode b_Search_wrongMember 179 = .ok (.goto (-92), 3) := by decide +kernel
theorem d_Search_wrongMember_182 : decode b_Search_wrongMember 182 = .ok (.aload_n 0, 1) := by decide +kernel
theorem d_Search_wrongMember_183 : decode b_Search_wrongMember 183 = .ok (.getfield 27, 3) := by decide +kernel
theorem d_Search_wrongMember_186 : decode b_Search_wrongMember 186 = .ok (.aload_n 0, 1) := by decide +kernel
theorem d_Search_wrongMember_187 : decode b_Search_wrongMember 187 = .ok (.getfield 9, 3) := by decide +kernel
theorem d_Search_wrongMember_190 : decode b_Search_wrongMember 190 = .ok (.iload_n 3, 1) := by decide +kernel
theorem d_Search_wrongMember_191 : decode b_Search_wrongMember 191 = .ok (.invokevirtual 98, 3) := by decide +kernel
theorem d_Search_wrongMember_194 : decode b_Search_wrongMember 194 = .ok (.ireturn, 1) := by decide +kernel
theorem d_Search_goOn_0 : decode b_Search_goOn 0 = .ok (.iload_n 1, 1) := by decide +kernel
theorem d_Search_goOn_1 : decode b_Search_goOn 1 = .ok (.istore_n 3, 1) := by decide +kernel
theorem d_Search_goOn_2 : decode b_Search_goOn 2 = .ok (.iload_n 3, 1) := by decide +kernel
theorem d_Search_goOn_3 : decode b_Search_goOn 3 = .ok (.ifCond .lt 37, 3) := by decide +kernel
theorem d_Search_goOn_6 : decode b_Search_goOn 6 = .ok (.aload_n 0, 1) := by decide +kernel
theorem d_Search_goOn_7 : decode b_Search_goOn 7 = .ok (.getfield 18, 3) := by decide +kernel
theorem d_Search_goOn_10 : decode b_Search_goOn 10 = .ok (.iload_n 3, 1) := by decide +kernel
theorem d_Search_goOn_11 : decode b_Search_goOn 11 = .ok (.iaload, 1) := by decide +kernel
theorem d_Search_goOn_12 : decode b_Search_goOn 12 = .ok (.iload_n 2, 1) := by decide +kernel
theorem d_Search_goOn_13 : decode b_Search_goOn 13 = .ok (.if_icmp .ge 21, 3) := by decide +kernel
theorem d_Search_goOn_16 : decode b_Search_goOn 16 = .ok (.aload_n 0, 1) := by decide +kernel
theorem d_Search_goOn_17 : decode b_Search_goOn 17 = .ok (.getfield 18, 3) := by decide +kernel
theorem d_Search_goOn_20 : decode b_Search_goOn 20 = .ok (.iload_n 3, 1) := by decide +kernel
theorem d_Search_goOn_21 : decode b_Search_goOn 21 = .ok (.dup2, 1) := by decide +kernel
theorem d_Search_goOn_22 : decode b_Search_goOn 22 = .ok (.iaload, 1) := by decide +kernel
theorem d_Search_goOn_23 : decode b_Search_goOn 23 = .ok (.iconst 1, 1) := by decide +kernel
theorem d_Search_goOn_24 : decode b_Search_goOn 24 = .ok (.iadd, 1) := by decide +kernel
theorem d_Search_goOn_25 : decode b_Search_goOn 25 = .ok (.iastore, 1) := by decide +kernel
theorem d_Search_goOn_26 : decode b_Search_goOn 26 = .ok (.aload_n 0, 1) := by decide +kernel
theorem d_Search_goOn_27 : decode b_Search_goOn 27 = .ok (.iload_n 3, 1) := by decide +kernel
theorem d_Search_goOn_28 : decode b_Search_goOn 28 = .ok (.iload_n 2, 1) := by decide +kernel
theorem d_Search_goOn_29 : decode b_Search_goOn 29 = .ok (.invokevirtual 43, 3) := by decide +kernel
theorem d_Search_goOn_32 : decode b_Search_goOn 32 = .ok (.iconst 1, 1) := by decide +kernel
theorem d_Search_goOn_33 : decode b_Search_goOn 33 = .ok (.ireturn, 1) := by decide +kernel
theorem d_Search_goOn_34 : decode b_Search_goOn 34 = .ok (.iinc 3 (-1), 3) := by decide +kernel
theorem d_Search_goOn_37 : decode b_Search_goOn 37 = .ok (.goto (-35), 3) := by decide +kernel
theorem d_Search_goOn_40 : decode b_Search_goOn 40 = .ok (.iconst 0, 1) := by decide +kernel
theorem d_Search_goOn_41 : decode b_Search_goOn 41 = .ok (.ireturn, 1) := by decide +kernel
theorem d_Search_startBehind_0 : decode b_Search_startBehind 0 = .ok (.iload_n 1, 1) := by decide +kernel
theorem d_Search_startBehind_1 : decode b_Search_startBehind 1 = .ok (.iconst 1, 1) := by decide +kernel
theorem d_Search_startBehind_2 : decode b_Search_startBehind 2 = .ok (.iadd, 1) := by decide +kernel
theorem d_Search_startBehind_3 : decode b_Search_startBehind 3 = .ok (.istore_n 3, 1) := by decide +kernel
theorem d_Search_startBehind_4 : decode b_Search_startBehind 4 = .ok (.iload_n 3, 1) := by decide +kernel
theorem d_Search_startBehind_5 : decode b_Search_startBehind 5 = .ok (.bipush 21, 2) := by decide +kernel
theorem d_Search_startBehind_7 : decode b_Search_startBehind 7 = .ok (.if_icmp .ge 17, 3) := by decide +kernel
theorem d_Search_startBehind_10 : decode b_Search_startBehind 10 = .ok (.aload_n 0, 1) := by decide +kernel
theorem d_Search_startBehind_11 : decode b_Search_startBehind 11 = .ok (.getfield 18, 3) := by decide +kernel
theorem d_Search_startBehind_14 : decode b_Search_startBehind 14 = .ok (.iload_n 3, 1) := by decide +kernel
theorem d_Search_startBehind_15 : decode b_Search_startBehind 15 = .ok (.iload_n 2, 1) := by decide +kernel
theorem d_Search_startBehind_16 : decode b_Search_startBehind 16 = .ok (.ineg, 1) := by decide +kernel
theorem d_Search_startBehind_17 : decode b_Search_startBehind 17 = .ok (.iastore, 1) := by decide +kernel
theorem d_Search_startBehind_18 : decode b_Search_startBehind 18 = .ok (.iinc 3 1, 3) := by decide +kernel
theorem d_Search_startBehind_21 : decode b_Search_startBehind 21 = .ok (.goto (-17), 3) := by decide +kernel
theorem d_Search_startBehind_24 : decode b_Search_startBehind 24 = .ok (.return_, 1) := by decide +kernel
theorem d_Search_placeOfChosen_0 : decode b_Search_placeOfChosen 0 = .ok (.iconst 0, 1) := by decide +kernel
theorem d_Search_placeOfChosen_1 : decode b_Search_placeOfChosen 1 = .ok (.istore_n 3, 1) := by decide +kernel
theorem d_Search_placeOfChosen_2 : decode b_Search_placeOfChosen 2 = .ok (.iconst 0, 1) := by decide +kernel
theorem d_Search_placeOfChosen_3 : decode b_Search_placeOfChosen 3 = .ok (.istore 4, 2) := by decide +kernel
theorem d_Search_placeOfChosen_5 : decode b_Search_placeOfChosen 5 = .ok (.iload 4, 2) := by decide +kernel
theorem d_Search_placeOfChosen_7 : decode b_Search_placeOfChosen 7 = .ok (.iload_n 1, 1) := by decide +kernel
theorem d_Search_placeOfChosen_8 : decode b_Search_placeOfChosen 8 = .ok (.if_icmp .ge 27, 3) := by decide +kernel
theorem d_Search_placeOfChosen_11 : decode b_Search_placeOfChosen 11 = .ok (.iload_n 3, 1) := by decide +kernel
theorem d_Search_placeOfChosen_12 : decode b_Search_placeOfChosen 12 = .ok (.iconst 2, 1) := by decide +kernel
theorem d_Search_placeOfChosen_13 : decode b_Search_placeOfChosen 13 = .ok (.iload_n 2, 1) := by decide +kernel
theorem d_Search_placeOfChosen_14 : decode b_Search_placeOfChosen 14 = .ok (.imul, 1) := by decide +kernel
theorem d_Search_placeOfChosen_15 : decode b_Search_placeOfChosen 15 = .ok (.iconst 1, 1) := by decide +kernel
theorem d_Search_placeOfChosen_16 : decode b_Search_placeOfChosen 16 = .ok (.iadd, 1) := by decide +kernel
theorem d_Search_placeOfChosen_17 : decode b_Search_placeOfChosen 17 = .ok (.imul, 1) := by decide +kernel
theorem d_Search_placeOfChosen_18 : decode b_Search_placeOfChosen 18 = .ok (.aload_n 0, 1) := by decide +kernel
theorem d_Search_placeOfChosen_19 : decode b_Search_placeOfChosen 19 = .ok (.getfield 18, 3) := by decide +kernel
theorem d_Search_placeOfChosen_22 : decode b_Search_placeOfChosen 22 = .ok (.iload 4, 2) := by decide +kernel
theorem d_Search_placeOfChosen_24 : decode b_Search_placeOfChosen 24 = .ok (.iaload, 1) := by decide +kernel
theorem d_Search_placeOfChosen_25 : decode b_Search_placeOfChosen 25 = .ok (.iadd, 1) := by decide +kernel
theorem d_Search_placeOfChosen_26 : decode b_Search_placeOfChosen 26 = .ok (.iload_n 2, 1) := by decide +kernel
theorem d_Search_placeOfChosen_27 : decode b_Search_placeOfChosen 27 = .ok (.iadd, 1) := by decide +kernel
theorem d_Search_placeOfChosen_28 : decode b_Search_placeOfChosen 28 = .ok (.istore_n 3, 1) := by decide +kernel
theorem d_Search_placeOfChosen_29 : decode b_Search_placeOfChosen 29 = .ok (.iinc 4 1, 3) := by decide +kernel
theorem d_Search_placeOfChosen_32 : decode b_Search_placeOfChosen 32 = .ok (.goto (-27), 3) := by decide +kernel
theorem d_Search_placeOfChosen_35 : decode b_Search_placeOfChosen 35 = .ok (.iload_n 3, 1) := by decide +kernel
theorem d_Search_placeOfChosen_36 : decode b_Search_placeOfChosen 36 = .ok (.ireturn, 1) := by decide +kernel
