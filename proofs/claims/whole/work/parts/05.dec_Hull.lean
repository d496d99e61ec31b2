theorem d_Hull_init_0 : decode b_Hull_init 0 = .ok (.aload_n 0, 1) := by decide +kernel
theorem d_Hull_init_1 : decode b_Hull_init 1 = .ok (.invokespecial 3, 3) := by decide +kernel
theorem d_Hull_init_4 : decode b_Hull_init 4 = .ok (.aload_n 0, 1) := by decide +kernel
theorem d_Hull_init_5 : decode b_Hull_init 5 = .ok (.bipush 15, 2) := by decide +kernel
theorem d_Hull_init_7 : decode b_Hull_init 7 = .ok (.newarray .boolean, 2) := by decide +kernel
theorem d_Hull_init_9 : decode b_Hull_init 9 = .ok (.putfield 9, 3) := by decide +kernel
theorem d_Hull_init_12 : decode b_Hull_init 12 = .ok (.aload_n 0, 1) := by decide +kernel
theorem d_Hull_init_13 : decode b_Hull_init 13 = .ok (.bipush 6, 2) := by decide +kernel
theorem d_Hull_init_15 : decode b_Hull_init 15 = .ok (.newarray .boolean, 2) := by decide +kernel
theorem d_Hull_init_17 : decode b_Hull_init 17 = .ok (.putfield 15, 3) := by decide +kernel
theorem d_Hull_init_20 : decode b_Hull_init 20 = .ok (.aload_n 0, 1) := by decide +kernel
theorem d_Hull_init_21 : decode b_Hull_init 21 = .ok (.bipush 6, 2) := by decide +kernel
theorem d_Hull_init_23 : decode b_Hull_init 23 = .ok (.newarray .int, 2) := by decide +kernel
theorem d_Hull_init_25 : decode b_Hull_init 25 = .ok (.putfield 18, 3) := by decide +kernel
theorem d_Hull_init_28 : decode b_Hull_init 28 = .ok (.aload_n 0, 1) := by decide +kernel
theorem d_Hull_init_29 : decode b_Hull_init 29 = .ok (.iconst 0, 1) := by decide +kernel
theorem d_Hull_init_30 : decode b_Hull_init 30 = .ok (.putfield 22, 3) := by decide +kernel
theorem d_Hull_init_33 : decode b_Hull_init 33 = .ok (.return_, 1) := by decide +kernel
theorem d_Hull_span_0 : decode b_Hull_span 0 = .ok (.aload_n 0, 1) := by decide +kernel
theorem d_Hull_span_1 : decode b_Hull_span 1 = .ok (.invokevirtual 26, 3) := by decide +kernel
theorem d_Hull_span_4 : decode b_Hull_span 4 = .ok (.bipush (-4), 2) := by decide +kernel
theorem d_Hull_span_6 : decode b_Hull_span 6 = .ok (.istore_n 2, 1) := by decide +kernel
theorem d_Hull_span_7 : decode b_Hull_span 7 = .ok (.iload_n 2, 1) := by decide +kernel
theorem d_Hull_span_8 : decode b_Hull_span 8 = .ok (.iconst 4, 1) := by decide +kernel
theorem d_Hull_span_9 : decode b_Hull_span 9 = .ok (.if_icmp .gt 30, 3) := by decide +kernel
theorem d_Hull_span_12 : decode b_Hull_span 12 = .ok (.bipush (-4), 2) := by decide +kernel
theorem d_Hull_span_14 : decode b_Hull_span 14 = .ok (.istore_n 3, 1) := by decide +kernel
theorem d_Hull_span_15 : decode b_Hull_span 15 = .ok (.iload_n 3, 1) := by decide +kernel
theorem d_Hull_span_16 : decode b_Hull_span 16 = .ok (.iconst 4, 1) := by decide +kernel
theorem d_Hull_span_17 : decode b_Hull_span 17 = .ok (.if_icmp .gt 16, 3) := by decide +kernel
theorem d_Hull_span_20 : decode b_Hull_span 20 = .ok (.aload_n 0, 1) := by decide +kernel
theorem d_Hull_span_21 : decode b_Hull_span 21 = .ok (.iload_n 2, 1) := by decide +kernel
theorem d_Hull_span_22 : decode b_Hull_span 22 = .ok (.iload_n 3, 1) := by decide +kernel
theorem d_Hull_span_23 : decode b_Hull_span 23 = .ok (.aload_n 1, 1) := by decide +kernel
theorem d_Hull_span_24 : decode b_Hull_span 24 = .ok (.invokevirtual 29, 3) := by decide +kernel
theorem d_Hull_span_27 : decode b_Hull_span 27 = .ok (.iinc 3 1, 3) := by decide +kernel
theorem d_Hull_span_30 : decode b_Hull_span 30 = .ok (.goto (-15), 3) := by decide +kernel
theorem d_Hull_span_33 : decode b_Hull_span 33 = .ok (.iinc 2 1, 3) := by decide +kernel
theorem d_Hull_span_36 : decode b_Hull_span 36 = .ok (.goto (-29), 3) := by decide +kernel
theorem d_Hull_span_39 : decode b_Hull_span 39 = .ok (.aload_n 0, 1) := by decide +kernel
theorem d_Hull_span_40 : decode b_Hull_span 40 = .ok (.invokevirtual 33, 3) := by decide +kernel
theorem d_Hull_span_43 : decode b_Hull_span 43 = .ok (.return_, 1) := by decide +kernel
theorem d_Hull_forget_0 : decode b_Hull_forget 0 = .ok (.iconst 0, 1) := by decide +kernel
theorem d_Hull_forget_1 : decode b_Hull_forget 1 = .ok (.istore_n 1, 1) := by decide +kernel
theorem d_Hull_forget_2 : decode b_Hull_forget 2 = .ok (.iload_n 1, 1) := by decide +kernel
theorem d_Hull_forget_3 : decode b_Hull_forget 3 = .ok (.bipush 15, 2) := by decide +kernel
theorem d_Hull_forget_5 : decode b_Hull_forget 5 = .ok (.if_icmp .ge 16, 3) := by decide +kernel
theorem d_Hull_forget_8 : decode b_Hull_forget 8 = .ok (.aload_n 0, 1) := by decide +kernel
theorem d_Hull_forget_9 : decode b_Hull_forget 9 = .ok (.getfield 9, 3) := by decide +kernel
theorem d_Hull_forget_12 : decode b_Hull_forget 12 = .ok (.iload_n 1, 1) := by decide +kernel
theorem d_Hull_forget_13 : decode b_Hull_forget 13 = .ok (.iconst 0, 1) := by decide +kernel
theorem d_Hull_forget_14 : decode b_Hull_forget 14 = .ok (.bastore, 1) := by decide +kernel
theorem d_Hull_forget_15 : decode b_Hull_forget 15 = .ok (.iinc 1 1, 3) := by decide +kernel
theorem d_Hull_forget_18 : decode b_Hull_forget 18 = .ok (.goto (-16), 3) := by decide +kernel
theorem d_Hull_forget_21 : decode b_Hull_forget 21 = .ok (.iconst 0, 1) := by decide +kernel
theorem d_Hull_forget_22 : decode b_Hull_forget 22 = .ok (.istore_n 1, 1) := by decide +kernel
theorem d_Hull_forget_23 : decode b_Hull_forget 23 = .ok (.iload_n 1, 1) := by decide +kernel
theorem d_Hull_forget_24 : decode b_Hull_forget 24 = .ok (.bipush 6, 2) := by decide +kernel
theorem d_Hull_forget_26 : decode b_Hull_forget 26 = .ok (.if_icmp .ge 16, 3) := by decide +kernel
theorem d_Hull_forget_29 : decode b_Hull_forget 29 = .ok (.aload_n 0, 1) := by decide +kernel
theorem d_Hull_forget_30 : decode b_Hull_forget 30 = .ok (.getfield 15, 3) := by decide +kernel
theorem d_Hull_forget_33 : decode b_Hull_forget 33 = .ok (.iload_n 1, 1) := by decide +kernel
theorem d_Hull_forget_34 : decode b_Hull_forget 34 = .ok (.iconst 0, 1) := by decide +kernel
theorem d_Hull_forget_35 : decode b_Hull_forget 35 = .ok (.bastore, 1) := by decide +kernel
theorem d_Hull_forget_36 : decode b_Hull_forget 36 = .ok (.iinc 1 1, 3) := by decide +kernel
theorem d_Hull_forget_39 : decode b_Hull_forget 39 = .ok (.goto (-16), 3) := by decide +kernel
theorem d_Hull_forget_42 : decode b_Hull_forget 42 = .ok (.return_, 1) := by decide +kernel
theorem d_Hull_lookAlong_0 : decode b_Hull_lookAlong 0 = .ok (.iconst (-1), 1) := by decide +kernel
theorem d_Hull_lookAlong_1 : decode b_Hull_lookAlong 1 = .ok (.istore 4, 2) := by decide +kernel
theorem d_Hull_lookAlong_3 : decode b_Hull_lookAlong 3 = .ok (.iconst 0, 1) := by decide +kernel
theorem d_Hull_lookAlong_4 : decode b_Hull_lookAlong 4 = .ok (.istore 5, 2) := by decide +kernel
theorem d_Hull_lookAlong_6 : decode b_Hull_lookAlong 6 = .ok (.iconst 0, 1) := by decide +kernel
theorem d_Hull_lookAlong_7 : decode b_Hull_lookAlong 7 = .ok (.istore 6, 2) := by decide +kernel
theorem d_Hull_lookAlong_9 : decode b_Hull_lookAlong 9 = .ok (.iconst 0, 1) := by decide +kernel
theorem d_Hull_lookAlong_10 : decode b_Hull_lookAlong 10 = .ok (.istore 7, 2) := by decide +kernel
theorem d_Hull_lookAlong_12 : decode b_Hull_lookAlong 12 = .ok (.iload 7, 2) := by decide +kernel
theorem d_Hull_lookAlong_14 : decode b_Hull_lookAlong 14 = .ok (.bipush 15, 2) := by decide +kernel
theorem d_Hull_lookAlong_16 : decode b_Hull_lookAlong 16 = .ok (.if_icmp .ge 75, 3) := by decide +kernel
theorem d_Hull_lookAlong_19 : decode b_Hull_lookAlong 19 = .ok (.aload_n 3, 1) := by decide +kernel
theorem d_Hull_lookAlong_20 : decode b_Hull_lookAlong 20 = .ok (.iload 7, 2) := by decide +kernel
theorem d_Hull_lookAlong_22 : decode b_Hull_lookAlong 22 = .ok (.iaload, 1) := by decide +kernel
theorem d_Hull_lookAlong_23 : decode b_Hull_lookAlong 23 = .ok (.ifCond .ne 6, 3) := by decide +kernel
theorem d_Hull_lookAlong_26 : decode b_Hull_lookAlong 26 = .ok (.goto 59, 3) := by decide +kernel
theorem d_Hull_lookAlong_29 : decode b_Hull_lookAlong 29 = .ok (.iload_n 1, 1) := by decide +kernel
theorem d_Hull_lookAlong_30 : decode b_Hull_lookAlong 30 = .ok (.getstatic 36, 3) := by decide +kernel
theorem d_Hull_lookAlong_33 : decode b_Hull_lookAlong 33 = .ok (.iload 7, 2) := by decide +kernel
theorem d_Hull_lookAlong_35 : decode b_Hull_lookAlong 35 = .ok (.iaload, 1) := by decide +kernel
theorem d_Hull_lookAlong_36 : decode b_Hull_lookAlong 36 = .ok (.imul, 1) := by decide +kernel
theorem d_Hull_lookAlong_37 : decode b_Hull_lookAlong 37 = .ok (.iload_n 2, 1) := by decide +kernel
theorem d_Hull_lookAlong_38 : decode b_Hull_lookAlong 38 = .ok (.getstatic 39, 3) := by decide +kernel
theorem d_Hull_lookAlong_41 : decode b_Hull_lookAlong 41 = .ok (.iload 7, 2) := by decide +kernel
theorem d_Hull_lookAlong_43 : decode b_Hull_lookAlong 43 = .ok (.iaload, 1) := by decide +kernel
theorem d_Hull_lookAlong_44 : decode b_Hull_lookAlong 44 = .ok (.imul, 1) := by decide +kernel
theorem d_Hull_lookAlong_45 : decode b_Hull_lookAlong 45 = .ok (.iadd, 1) := by decide +kernel
theorem d_Hull_lookAlong_46 : decode b_Hull_lookAlong 46 = .ok (.istore 8, 2) := by decide +kernel
theorem d_Hull_lookAlong_48 : decode b_Hull_lookAlong 48 = .ok (.iload 4, 2) := by decide +kernel
theorem d_Hull_lookAlong_50 : decode b_Hull_lookAlong 50 = .ok (.iconst (-1), 1) := by decide +kernel
theorem d_Hull_lookAlong_51 : decode b_Hull_lookAlong 51 = .ok (.if_icmp .eq 10, 3) := by decide +kernel
theorem d_Hull_lookAlong_54 : decode b_Hull_lookAlong 54 = .ok (.iload 8, 2) := by decide +kernel
theorem d_Hull_lookAlong_56 : decode b_Hull_lookAlong 56 = .ok (.iload 5, 2) := by decide +kernel
theorem d_Hull_lookAlong_58 : decode b_Hull_lookAlong 58 = .ok (.if_icmp .le 17, 3) := by decide +kernel
theorem d_Hull_lookAlong_61 : decode b_Hull_lookAlong 61 = .ok (.iload 7, 2) := by decide +kernel
theorem d_Hull_lookAlong_63 : decode b_Hull_lookAlong 63 = .ok (.istore 4, 2) := by decide +kernel
theorem d_Hull_lookAlong_65 : decode b_Hull_lookAlong 65 = .ok (.iload 8, 2) := by decide +kernel
theorem d_Hull_lookAlong_67 : decode b_Hull_lookAlong 67 = .ok (.istore 5, 2) := by decide +kernel
theorem d_Hull_lookAlong_69 : decode b_Hull_lookAlong 69 = .ok (.iconst 1, 1) := by decide +kernel
theorem d_Hull_lookAlong_70 : decode b_Hull_lookAlong 70 = .ok (.istore 6, 2) := by decide +kernel
theorem d_Hull_lookAlong_72 : decode b_Hull_lookAlong 72 = .ok (.goto 13, 3) := by decide +kernel
theorem d_Hull_lookAlong_75 : decode b_Hull_lookAlong 75 = .ok (.iload 8, 2) := by decide +kernel
theorem d_Hull_lookAlong_77 : decode b_Hull_lookAlong 77 = .ok (.iload 5, 2) := by decide +kernel
theorem d_Hull_lookAlong_79 : decode b_Hull_lookAlong 79 = .ok (.if_icmp .ne 6, 3) := by decide +kernel
theorem d_Hull_lookAlong_82 : decode b_Hull_lookAlong 82 = .ok (.iconst 0, 1) := by decide +kernel
theorem d_Hull_lookAlong_83 : decode b_Hull_lookAlong 83 = .ok (.istore 6, 2) := by decide +kernel
theorem d_Hull_lookAlong_85 : decode b_Hull_lookAlong 85 = .ok (.iinc 7 1, 3) := by decide +kernel
theorem d_Hull_lookAlong_88 : decode b_Hull_lookAlong 88 = .ok (.goto (-76), 3) := by decide +kernel
theorem d_Hull_lookAlong_91 : decode b_Hull_lookAlong 91 = .ok (.iload 6, 2) := by decide +kernel
theorem d_Hull_lookAlong_93 : decode b_Hull_lookAlong 93 = .ok (.ifCond .eq 11, 3) := by decide +kernel
theorem d_Hull_lookAlong_96 : decode b_Hull_lookAlong 96 = .ok (.aload_n 0, 1) := by decide +kernel
theorem d_Hull_lookAlong_97 : decode b_Hull_lookAlong 97 = .ok (.getfield 9, 3) := by decide +kernel
theorem d_Hull_lookAlong_100 : decode b_Hull_lookAlong 100 = .ok (.iload 4, 2) := by decide +kernel
theorem d_Hull_lookAlong_102 : decode b_Hull_lookAlong 102 = .ok (.iconst 1, 1) := by decide +kernel
theorem d_Hull_lookAlong_103 : decode b_Hull_lookAlong 103 = .ok (.bastore, 1) := by decide +kernel
theorem d_Hull_lookAlong_104 : decode b_Hull_lookAlong 104 = .ok (.iconst 0, 1) := by decide +kernel
theorem d_Hull_lookAlong_105 : decode b_Hull_lookAlong 105 = .ok (.istore 7, 2) := by decide +kernel
theorem d_Hull_lookAlong_107 : decode b_Hull_lookAlong 107 = .ok (.iload 7, 2) := by decide +kernel
theorem d_Hull_lookAlong_109 : decode b_Hull_lookAlong 109 = .ok (.bipush 6, 2) := by decide +kernel
theorem d_Hull_lookAlong_111 : decode b_Hull_lookAlong 111 = .ok (.if_icmp .ge 47, 3) := by decide +kernel
theorem d_Hull_lookAlong_114 : decode b_Hull_lookAlong 114 = .ok (.iload 4, 2) := by decide +kernel
theorem d_Hull_lookAlong_116 : decode b_Hull_lookAlong 116 = .ok (.iconst (-1), 1) := by decide +kernel
theorem d_Hull_lookAlong_117 : decode b_Hull_lookAlong 117 = .ok (.if_icmp .eq 27, 3) := by decide +kernel
theorem d_Hull_lookAlong_120 : decode b_Hull_lookAlong 120 = .ok (.iconst 2, 1) := by decide +kernel
theorem d_Hull_lookAlong_121 : decode b_Hull_lookAlong 121 = .ok (.iload_n 1, 1) := by decide +kernel
theorem d_Hull_lookAlong_122 : decode b_Hull_lookAlong 122 = .ok (.getstatic 36, 3) := by decide +kernel
theorem d_Hull_lookAlong_125 : decode b_Hull_lookAlong 125 = .ok (.iload 7, 2) := by decide +kernel
theorem d_Hull_lookAlong_127 : decode b_Hull_lookAlong 127 = .ok (.iaload, 1) := by decide +kernel
theorem d_Hull_lookAlong_128 : decode b_Hull_lookAlong 128 = .ok (.imul, 1) := by decide +kernel
theorem d_Hull_lookAlong_129 : decode b_Hull_lookAlong 129 = .ok (.iload_n 2, 1) := by decide +kernel
theorem d_Hull_lookAlong_130 : decode b_Hull_lookAlong 130 = .ok (.getstatic 39, 3) := by decide +kernel
theorem d_Hull_lookAlong_133 : decode b_Hull_lookAlong 133 = .ok (.iload 7, 2) := by decide +kernel
theorem d_Hull_lookAlong_135 : decode b_Hull_lookAlong 135 = .ok (.iaload, 1) := by decide +kernel
theorem d_Hull_lookAlong_136 : decode b_Hull_lookAlong 136 = .ok (.imul, 1) := by decide +kernel
theorem d_Hull_lookAlong_137 : decode b_Hull_lookAlong 137 = .ok (.iadd, 1) := by decide +kernel
theorem d_Hull_lookAlong_138 : decode b_Hull_lookAlong 138 = .ok (.imul, 1) := by decide +kernel
theorem d_Hull_lookAlong_139 : decode b_Hull_lookAlong 139 = .ok (.iload 5, 2) := by decide +kernel
theorem d_Hull_lookAlong_141 : decode b_Hull_lookAlong 141 = .ok (.if_icmp .le 11, 3) := by decide +kernel
theorem d_Hull_lookAlong_144 : decode b_Hull_lookAlong 144 = .ok (.aload_n 0, 1) := by decide +kernel
theorem d_Hull_lookAlong_145 : decode b_Hull_lookAlong 145 = .ok (.getfield 15, 3) := by decide +kernel
theorem d_Hull_lookAlong_148 : decode b_Hull_lookAlong 148 = .ok (.iload 7, 2) := by decide +kernel
theorem d_Hull_lookAlong_150 : decode b_Hull_lookAlong 150 = .ok (.iconst 1, 1) := by decide +kernel
theorem d_Hull_lookAlong_151 : decode b_Hull_lookAlong 151 = .ok (.bastore, 1) := by decide +kernel
theorem d_Hull_lookAlong_152 : decode b_Hull_lookAlong 152 = .ok (.iinc 7 1, 3) := by decide +kernel
theorem d_Hull_lookAlong_155 : decode b_Hull_lookAlong 155 = .ok (.goto (-48), 3) := by decide +kernel
theorem d_Hull_lookAlong_158 : decode b_Hull_lookAlong 158 = .ok (.return_, 1) := by decide +kernel
theorem d_Hull_gatherMembers_0 : decode b_Hull_gatherMembers 0 = .ok (.aload_n 0, 1) := by decide +kernel
theorem d_Hull_gatherMembers_1 : decode b_Hull_gatherMembers 1 = .ok (.iconst 0, 1) := by decide +kernel
theorem d_Hull_gatherMembers_2 : decode b_Hull_gatherMembers 2 = .ok (.putfield 22, 3) := by decide +kernel
theorem d_Hull_gatherMembers_5 : decode b_Hull_gatherMembers 5 = .ok (.iconst 0, 1) := by decide +kernel
theorem d_Hull_gatherMembers_6 : decode b_Hull_gatherMembers 6 = .ok (.istore_n 1, 1) := by decide +kernel
theorem d_Hull_gatherMembers_7 : decode b_Hull_gatherMembers 7 = .ok (.iload_n 1, 1) := by decide +kernel
theorem d_Hull_gatherMembers_8 : decode b_Hull_gatherMembers 8 = .ok (.bipush 6, 2) := by decide +kernel
theorem d_Hull_gatherMembers_10 : decode b_Hull_gatherMembers 10 = .ok (.if_icmp .ge 38, 3) := by decide +kernel
theorem d_Hull_gatherMembers_13 : decode b_Hull_gatherMembers 13 = .ok (.aload_n 0, 1) := by decide +kernel
theorem d_Hull_gatherMembers_14 : decode b_Hull_gatherMembers 14 = .ok (.getfield 15, 3) := by decide +kernel
theorem d_Hull_gatherMembers_17 : decode b_Hull_gatherMembers 17 = .ok (.iload_n 1, 1) := by decide +kernel
theorem d_Hull_gatherMembers_18 : decode b_Hull_gatherMembers 18 = .ok (.baload, 1) := by decide +kernel
theorem d_Hull_gatherMembers_19 : decode b_Hull_gatherMembers 19 = .ok (.ifCond .ne 23, 3) := by decide +kernel
theorem d_Hull_gatherMembers_22 : decode b_Hull_gatherMembers 22 = .ok (.aload_n 0, 1) := by decide +kernel
theorem d_Hull_gatherMembers_23 : decode b_Hull_gatherMembers 23 = .ok (.getfield 18, 3) := by decide +kernel
theorem d_Hull_gatherMembers_26 : decode b_Hull_gatherMembers 26 = .ok (.aload_n 0, 1) := by decide +kernel
theorem d_Hull_gatherMembers_27 : decode b_Hull_gatherMembers 27 = .ok (.getfield 22, 3) := by decide +kernel
theorem d_Hull_gatherMembers_30 : decode b_Hull_gatherMembers 30 = .ok (.iload_n 1, 1) := by decide +kernel
theorem d_Hull_gatherMembers_31 : decode b_Hull_gatherMembers 31 = .ok (.iastore, 1) := by decide +kernel
theorem d_Hull_gatherMembers_32 : decode b_Hull_gatherMembers 32 = .ok (.aload_n 0, 1) := by decide +kernel
theorem d_Hull_gatherMembers_33 : decode b_Hull_gatherMembers 33 = .ok (.dup, 1) := by decide +kernel
theorem d_Hull_gatherMembers_34 : decode b_Hull_gatherMembers 34 = .ok (.getfield 22, 3) := by decide +kernel
theorem d_Hull_gatherMembers_37 : decode b_Hull_gatherMembers 37 = .ok (.iconst 1, 1) := by decide +kernel
theorem d_Hull_gatherMembers_38 : decode b_Hull_gatherMembers 38 = .ok (.iadd, 1) := by decide +kernel
theorem d_Hull_gatherMembers_39 : decode b_Hull_gatherMembers 39 = .ok (.putfield 22, 3) := by decide +kernel
theorem d_Hull_gatherMembers_42 : decode b_Hull_gatherMembers 42 = .ok (.iinc 1 1, 3) := by decide +kernel
theorem d_Hull_gatherMembers_45 : decode b_Hull_gatherMembers 45 = .ok (.goto (-38), 3) := by decide +kernel
theorem d_Hull_gatherMembers_48 : decode b_Hull_gatherMembers 48 = .ok (.return_, 1) := by decide +kernel
theorem d_Hull_hasBarredCorner_0 : decode b_Hull_hasBarredCorner 0 = .ok (.iconst 0, 1) := by decide +kernel
theorem d_Hull_hasBarredCorner_1 : decode b_Hull_hasBarredCorner 1 = .ok (.istore_n 2, 1) := by decide +kernel
theorem d_Hull_hasBarredCorner_2 : decode b_Hull_hasBarredCorner 2 = .ok (.iload_n 2, 1) := by decide +kernel
theorem d_Hull_hasBarredCorner_3 : decode b_Hull_hasBarredCorner 3 = .ok (.bipush 15, 2) := by decide +kernel
theorem d_Hull_hasBarredCorner_5 : decode b_Hull_hasBarredCorner 5 = .ok (.if_icmp .ge 56, 3) := by decide +kernel
theorem d_Hull_hasBarredCorner_8 : decode b_Hull_hasBarredCorner 8 = .ok (.getstatic 36, 3) := by decide +kernel
theorem d_Hull_hasBarredCorner_11 : decode b_Hull_hasBarredCorner 11 = .ok (.iload_n 2, 1) := by decide +kernel
theorem d_Hull_hasBarredCorner_12 : decode b_Hull_hasBarredCorner 12 = .ok (.iaload, 1) := by decide +kernel
theorem d_Hull_hasBarredCorner_13 : decode b_Hull_hasBarredCorner 13 = .ok (.iconst 2, 1) := by decide +kernel
theorem d_Hull_hasBarredCorner_14 : decode b_Hull_hasBarredCorner 14 = .ok (.irem, 1) := by decide +kernel
theorem d_Hull_hasBarredCorner_15 : decode b_Hull_hasBarredCorner 15 = .ok (.ifCond .ne 13, 3) := by decide +kernel
theorem d_Hull_hasBarredCorner_18 : decode b_Hull_hasBarredCorner 18 = .ok (.getstatic 39, 3) := by decide +kernel
theorem d_Hull_hasBarredCorner_21 : decode b_Hull_hasBarredCorner 21 = .ok (.iload_n 2, 1) := by decide +kernel
theorem d_Hull_hasBarredCorner_22 : decode b_Hull_hasBarredCorner 22 = .ok (.iaload, 1) := by decide +kernel
theorem d_Hull_hasBarredCorner_23 : decode b_Hull_hasBarredCorner 23 = .ok (.iconst 2, 1) := by decide +kernel
theorem d_Hull_hasBarredCorner_24 : decode b_Hull_hasBarredCorner 24 = .ok (.irem, 1) := by decide +kernel
theorem d_Hull_hasBarredCorner_25 : decode b_Hull_hasBarredCorner 25 = .ok (.ifCond .eq 7, 3) := by decide +kernel
theorem d_Hull_hasBarredCorner_28 : decode b_Hull_hasBarredCorner 28 = .ok (.iconst 1, 1) := by decide +kernel
theorem d_Hull_hasBarredCorner_29 : decode b_Hull_hasBarredCorner 29 = .ok (.goto 4, 3) := by decide +kernel
theorem d_Hull_hasBarredCorner_32 : decode b_Hull_hasBarredCorner 32 = .ok (.iconst 0, 1) := by decide +kernel
theorem d_Hull_hasBarredCorner_33 : decode b_Hull_hasBarredCorner 33 = .ok (.istore_n 3, 1) := by decide +kernel
theorem d_Hull_hasBarredCorner_34 : decode b_Hull_hasBarredCorner 34 = .ok (.aload_n 0, 1) := by decide +kernel
theorem d_Hull_hasBarredCorner_35 : decode b_Hull_hasBarredCorner 35 = .ok (.getfield 9, 3) := by decide +kernel
theorem d_Hull_hasBarredCorner_38 : decode b_Hull_hasBarredCorner 38 = .ok (.iload_n 2, 1) := by decide +kernel
theorem d_Hull_hasBarredCorner_39 : decode b_Hull_hasBarredCorner 39 = .ok (.baload, 1) := by decide +kernel
theorem d_Hull_hasBarredCorner_40 : decode b_Hull_hasBarredCorner 40 = .ok (.ifCond .eq 15, 3) := by decide +kernel
theorem d_Hull_hasBarredCorner_43 : decode b_Hull_hasBarredCorner 43 = .ok (.iload_n 3, 1) := by decide +kernel
theorem d_Hull_hasBarredCorner_44 : decode b_Hull_hasBarredCorner 44 = .ok (.ifCond .ne 9, 3) := by decide +kernel
theorem d_Hull_hasBarredCorner_47 : decode b_Hull_hasBarredCorner 47 = .ok (.aload_n 1, 1) := by decide +kernel
theorem d_Hull_hasBarredCorner_48 : decode b_Hull_hasBarredCorner 48 = .ok (.iload_n 2, 1) := by decide +kernel
theorem d_Hull_hasBarredCorner_49 : decode b_Hull_hasBarredCorner 49 = .ok (.iaload, 1) := by decide +kernel
theorem d_Hull_hasBarredCorner_50 : decode b_Hull_hasBarredCorner 50 = .ok (.ifCond .ge 5, 3) := by decide +kernel
theorem d_Hull_hasBarredCorner_53 : decode b_Hull_hasBarredCorner 53 = .ok (.iconst 1, 1) := by decide +kernel
theorem d_Hull_hasBarredCorner_54 : decode b_Hull_hasBarredCorner 54 = .ok (.ireturn, 1) := by decide +kernel
theorem d_Hull_hasBarredCorner_55 : decode b_Hull_hasBarredCorner 55 = .ok (.iinc 2 1, 3) := by decide +kernel
theorem d_Hull_hasBarredCorner_58 : decode b_Hull_hasBarredCorner 58 = .ok (.goto (-56), 3) := by decide +kernel
theorem d_Hull_hasBarredCorner_61 : decode b_Hull_hasBarredCorner 61 = .ok (.iconst 0, 1) := by decide +kernel
theorem d_Hull_hasBarredCorner_62 : decode b_Hull_hasBarredCorner 62 = .ok (.ireturn, 1) := by decide +kernel
theorem d_Hull_cornerCount_0 : decode b_Hull_cornerCount 0 = .ok (.iconst 0, 1) := by decide +kernel
theorem d_Hull_cornerCount_1 : decode b_Hull_cornerCount 1 = .ok (.istore_n 1, 1) := by decide +kernel
theorem d_Hull_cornerCount_2 : decode b_Hull_cornerCount 2 = .ok (.iconst 0, 1) := by decide +kernel
theorem d_Hull_cornerCount_3 : decode b_Hull_cornerCount 3 = .ok (.istore_n 2, 1) := by decide +kernel
theorem d_Hull_cornerCount_4 : decode b_Hull_cornerCount 4 = .ok (.iload_n 2, 1) := by decide +kernel
theorem d_Hull_cornerCount_5 : decode b_Hull_cornerCount 5 = .ok (.bipush 15, 2) := by decide +kernel
theorem d_Hull_cornerCount_7 : decode b_Hull_cornerCount 7 = .ok (.if_icmp .ge 21, 3) := by decide +kernel
theorem d_Hull_cornerCount_10 : decode b_Hull_cornerCount 10 = .ok (.aload_n 0, 1) := by decide +kernel
theorem d_Hull_cornerCount_11 : decode b_Hull_cornerCount 11 = .ok (.getfield 9, 3) := by decide +kernel
theorem d_Hull_cornerCount_14 : decode b_Hull_cornerCount 14 = .ok (.iload_n 2, 1) := by decide +kernel
theorem d_Hull_cornerCount_15 : decode b_Hull_cornerCount 15 = .ok (.baload, 1) := by decide +kernel
theorem d_Hull_cornerCount_16 : decode b_Hull_cornerCount 16 = .ok (.ifCond .eq 6, 3) := by decide +kernel
theorem d_Hull_cornerCount_19 : decode b_Hull_cornerCount 19 = .ok (.iinc 1 1, 3) := by decide +kernel
theorem d_Hull_cornerCount_22 : decode b_Hull_cornerCount 22 = .ok (.iinc 2 1, 3) := by decide +kernel
theorem d_Hull_cornerCount_25 : decode b_Hull_cornerCount 25 = .ok (.goto (-21), 3) := by decide +kernel
theorem d_Hull_cornerCount_28 : decode b_Hull_cornerCount 28 = .ok (.iload_n 1, 1) := by decide +kernel
theorem d_Hull_cornerCount_29 : decode b_Hull_cornerCount 29 = .ok (.ireturn, 1) := by decide +kernel
