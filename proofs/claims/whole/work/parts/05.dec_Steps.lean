theorem d_Steps_init_0 : decode b_Steps_init 0 = .ok (.aload_n 0, 1) := by decide +kernel
theorem d_Steps_init_1 : decode b_Steps_init 1 = .ok (.invokespecial 3, 3) := by decide +kernel
theorem d_Steps_init_4 : decode b_Steps_init 4 = .ok (.aload_n 0, 1) := by decide +kernel
theorem d_Steps_init_5 : decode b_Steps_init 5 = .ok (.bipush 36, 2) := by decide +kernel
theorem d_Steps_init_7 : decode b_Steps_init 7 = .ok (.newarray .long, 2) := by decide +kernel
theorem d_Steps_init_9 : decode b_Steps_init 9 = .ok (.putfield 9, 3) := by decide +kernel
theorem d_Steps_init_12 : decode b_Steps_init 12 = .ok (.aload_n 0, 1) := by decide +kernel
theorem d_Steps_init_13 : decode b_Steps_init 13 = .ok (.bipush 6, 2) := by decide +kernel
theorem d_Steps_init_15 : decode b_Steps_init 15 = .ok (.newarray .int, 2) := by decide +kernel
theorem d_Steps_init_17 : decode b_Steps_init 17 = .ok (.putfield 15, 3) := by decide +kernel
theorem d_Steps_init_20 : decode b_Steps_init 20 = .ok (.aload_n 0, 1) := by decide +kernel
theorem d_Steps_init_21 : decode b_Steps_init 21 = .ok (.iconst 0, 1) := by decide +kernel
theorem d_Steps_init_22 : decode b_Steps_init 22 = .ok (.putfield 19, 3) := by decide +kernel
theorem d_Steps_init_25 : decode b_Steps_init 25 = .ok (.return_, 1) := by decide +kernel
theorem d_Steps_failingMember_0 : decode b_Steps_failingMember 0 = .ok (.iconst 0, 1) := by decide +kernel
theorem d_Steps_failingMember_1 : decode b_Steps_failingMember 1 = .ok (.istore_n 3, 1) := by decide +kernel
theorem d_Steps_failingMember_2 : decode b_Steps_failingMember 2 = .ok (.iload_n 3, 1) := by decide +kernel
theorem d_Steps_failingMember_3 : decode b_Steps_failingMember 3 = .ok (.bipush 36, 2) := by decide +kernel
theorem d_Steps_failingMember_5 : decode b_Steps_failingMember 5 = .ok (.if_icmp .ge 19, 3) := by decide +kernel
theorem d_Steps_failingMember_8 : decode b_Steps_failingMember 8 = .ok (.aload_n 0, 1) := by decide +kernel
theorem d_Steps_failingMember_9 : decode b_Steps_failingMember 9 = .ok (.getfield 9, 3) := by decide +kernel
theorem d_Steps_failingMember_12 : decode b_Steps_failingMember 12 = .ok (.iload_n 3, 1) := by decide +kernel
theorem d_Steps_failingMember_13 : decode b_Steps_failingMember 13 = .ok (.aload_n 1, 1) := by decide +kernel
theorem d_Steps_failingMember_14 : decode b_Steps_failingMember 14 = .ok (.iload_n 3, 1) := by decide +kernel
theorem d_Steps_failingMember_15 : decode b_Steps_failingMember 15 = .ok (.iaload, 1) := by decide +kernel
theorem d_Steps_failingMember_16 : decode b_Steps_failingMember 16 = .ok (.i2l, 1) := by decide +kernel
theorem d_Steps_failingMember_17 : decode b_Steps_failingMember 17 = .ok (.lastore, 1) := by decide +kernel
theorem d_Steps_failingMember_18 : decode b_Steps_failingMember 18 = .ok (.iinc 3 1, 3) := by decide +kernel
theorem d_Steps_failingMember_21 : decode b_Steps_failingMember 21 = .ok (.goto (-19), 3) := by decide +kernel
theorem d_Steps_failingMember_24 : decode b_Steps_failingMember 24 = .ok (.aload_n 0, 1) := by decide +kernel
theorem d_Steps_failingMember_25 : decode b_Steps_failingMember 25 = .ok (.iconst 0, 1) := by decide +kernel
theorem d_Steps_failingMember_26 : decode b_Steps_failingMember 26 = .ok (.putfield 19, 3) := by decide +kernel
theorem d_Steps_failingMember_29 : decode b_Steps_failingMember 29 = .ok (.lconst 1, 1) := by decide +kernel
theorem d_Steps_failingMember_30 : decode b_Steps_failingMember 30 = .ok (.lstore_n 3, 1) := by decide +kernel
theorem d_Steps_failingMember_31 : decode b_Steps_failingMember 31 = .ok (.iconst 0, 1) := by decide +kernel
theorem d_Steps_failingMember_32 : decode b_Steps_failingMember 32 = .ok (.istore 5, 2) := by decide +kernel
theorem d_Steps_failingMember_34 : decode b_Steps_failingMember 34 = .ok (.iload 5, 2) := by decide +kernel
theorem d_Steps_failingMember_36 : decode b_Steps_failingMember 36 = .ok (.iload_n 2, 1) := by decide +kernel
theorem d_Steps_failingMember_37 : decode b_Steps_failingMember 37 = .ok (.if_icmp .ge 93, 3) := by decide +kernel
theorem d_Steps_failingMember_40 : decode b_Steps_failingMember 40 = .ok (.aload_n 0, 1) := by decide +kernel
theorem d_Steps_failingMember_41 : decode b_Steps_failingMember 41 = .ok (.getfield 9, 3) := by decide +kernel
theorem d_Steps_failingMember_44 : decode b_Steps_failingMember 44 = .ok (.iload 5, 2) := by decide +kernel
theorem d_Steps_failingMember_46 : decode b_Steps_failingMember 46 = .ok (.iload 5, 2) := by decide +kernel
theorem d_Steps_failingMember_48 : decode b_Steps_failingMember 48 = .ok (.invokestatic 23, 3) := by decide +kernel
theorem d_Steps_failingMember_51 : decode b_Steps_failingMember 51 = .ok (.laload, 1) := by decide +kernel
theorem d_Steps_failingMember_52 : decode b_Steps_failingMember 52 = .ok (.lstore 6, 2) := by decide +kernel
theorem d_Steps_failingMember_54 : decode b_Steps_failingMember 54 = .ok (.lload 6, 2) := by decide +kernel
theorem d_Steps_failingMember_56 : decode b_Steps_failingMember 56 = .ok (.lconst 0, 1) := by decide +kernel
theorem d_Steps_failingMember_57 : decode b_Steps_failingMember 57 = .ok (.lcmp, 1) := by decide +kernel
theorem d_Steps_failingMember_58 : decode b_Steps_failingMember 58 = .ok (.ifCond .ge 6, 3) := by decide +kernel
theorem d_Steps_failingMember_61 : decode b_Steps_failingMember 61 = .ok (.iload 5, 2) := by decide +kernel
theorem d_Steps_failingMember_63 : decode b_Steps_failingMember 63 = .ok (.ireturn, 1) := by decide +kernel
theorem d_Steps_failingMember_64 : decode b_Steps_failingMember 64 = .ok (.lload 6, 2) := by decide +kernel
theorem d_Steps_failingMember_66 : decode b_Steps_failingMember 66 = .ok (.lconst 0, 1) := by decide +kernel
theorem d_Steps_failingMember_67 : decode b_Steps_failingMember 67 = .ok (.lcmp, 1) := by decide +kernel
theorem d_Steps_failingMember_68 : decode b_Steps_failingMember 68 = .ok (.ifCond .ne 24, 3) := by decide +kernel
theorem d_Steps_failingMember_71 : decode b_Steps_failingMember 71 = .ok (.aload_n 0, 1) := by decide +kernel
theorem d_Steps_failingMember_72 : decode b_Steps_failingMember 72 = .ok (.iload 5, 2) := by decide +kernel
theorem d_Steps_failingMember_74 : decode b_Steps_failingMember 74 = .ok (.iload_n 2, 1) := by decide +kernel
theorem d_Steps_failingMember_75 : decode b_Steps_failingMember 75 = .ok (.invokevirtual 27, 3) := by decide +kernel
theorem d_Steps_failingMember_78 : decode b_Steps_failingMember 78 = .ok (.istore 8, 2) := by decide +kernel
theorem d_Steps_failingMember_80 : decode b_Steps_failingMember 80 = .ok (.iload 8, 2) := by decide +kernel
theorem d_Steps_failingMember_82 : decode b_Steps_failingMember 82 = .ok (.iconst (-1), 1) := by decide +kernel
theorem d_Steps_failingMember_83 : decode b_Steps_failingMember 83 = .ok (.if_icmp .eq 6, 3) := by decide +kernel
theorem d_Steps_failingMember_86 : decode b_Steps_failingMember 86 = .ok (.iload 8, 2) := by decide +kernel
theorem d_Steps_failingMember_88 : decode b_Steps_failingMember 88 = .ok (.ireturn, 1) := by decide +kernel
theorem d_Steps_failingMember_89 : decode b_Steps_failingMember 89 = .ok (.goto 35, 3) := by decide +kernel
theorem d_Steps_failingMember_92 : decode b_Steps_failingMember 92 = .ok (.aload_n 0, 1) := by decide +kernel
theorem d_Steps_failingMember_93 : decode b_Steps_failingMember 93 = .ok (.iload 5, 2) := by decide +kernel
theorem d_Steps_failingMember_95 : decode b_Steps_failingMember 95 = .ok (.iload_n 2, 1) := by decide +kernel
theorem d_Steps_failingMember_96 : decode b_Steps_failingMember 96 = .ok (.lload_n 3, 1) := by decide +kernel
theorem d_Steps_failingMember_97 : decode b_Steps_failingMember 97 = .ok (.invokevirtual 30, 3) := by decide +kernel
theorem d_Steps_failingMember_100 : decode b_Steps_failingMember 100 = .ok (.aload_n 0, 1) := by decide +kernel
theorem d_Steps_failingMember_101 : decode b_Steps_failingMember 101 = .ok (.getfield 15, 3) := by decide +kernel
theorem d_Steps_failingMember_104 : decode b_Steps_failingMember 104 = .ok (.aload_n 0, 1) := by decide +kernel
theorem d_Steps_failingMember_105 : decode b_Steps_failingMember 105 = .ok (.getfield 19, 3) := by decide +kernel
theorem d_Steps_failingMember_108 : decode b_Steps_failingMember 108 = .ok (.iload 5, 2) := by decide +kernel
theorem d_Steps_failingMember_110 : decode b_Steps_failingMember 110 = .ok (.iastore, 1) := by decide +kernel
theorem d_Steps_failingMember_111 : decode b_Steps_failingMember 111 = .ok (.aload_n 0, 1) := by decide +kernel
theorem d_Steps_failingMember_112 : decode b_Steps_failingMember 112 = .ok (.dup, 1) := by decide +kernel
theorem d_Steps_failingMember_113 : decode b_Steps_failingMember 113 = .ok (.getfield 19, 3) := by decide +kernel
theorem d_Steps_failingMember_116 : decode b_Steps_failingMember 116 = .ok (.iconst 1, 1) := by decide +kernel
theorem d_Steps_failingMember_117 : decode b_Steps_failingMember 117 = .ok (.iadd, 1) := by decide +kernel
theorem d_Steps_failingMember_118 : decode b_Steps_failingMember 118 = .ok (.putfield 19, 3) := by decide +kernel
theorem d_Steps_failingMember_121 : decode b_Steps_failingMember 121 = .ok (.lload 6, 2) := by decide +kernel
theorem d_Steps_failingMember_123 : decode b_Steps_failingMember 123 = .ok (.lstore_n 3, 1) := by decide +kernel
theorem d_Steps_failingMember_124 : decode b_Steps_failingMember 124 = .ok (.iinc 5 1, 3) := by decide +kernel
theorem d_Steps_failingMember_127 : decode b_Steps_failingMember 127 = .ok (.goto (-93), 3) := by decide +kernel
theorem d_Steps_failingMember_130 : decode b_Steps_failingMember 130 = .ok (.iconst (-1), 1) := by decide +kernel
theorem d_Steps_failingMember_131 : decode b_Steps_failingMember 131 = .ok (.ireturn, 1) := by decide +kernel
theorem d_Steps_firstNotZeroBehind_0 : decode b_Steps_firstNotZeroBehind 0 = .ok (.iload_n 1, 1) := by decide +kernel
theorem d_Steps_firstNotZeroBehind_1 : decode b_Steps_firstNotZeroBehind 1 = .ok (.iconst 1, 1) := by decide +kernel
theorem d_Steps_firstNotZeroBehind_2 : decode b_Steps_firstNotZeroBehind 2 = .ok (.iadd, 1) := by decide +kernel
theorem d_Steps_firstNotZeroBehind_3 : decode b_Steps_firstNotZeroBehind 3 = .ok (.istore_n 3, 1) := by decide +kernel
theorem d_Steps_firstNotZeroBehind_4 : decode b_Steps_firstNotZeroBehind 4 = .ok (.iload_n 3, 1) := by decide +kernel
theorem d_Steps_firstNotZeroBehind_5 : decode b_Steps_firstNotZeroBehind 5 = .ok (.iload_n 2, 1) := by decide +kernel
theorem d_Steps_firstNotZeroBehind_6 : decode b_Steps_firstNotZeroBehind 6 = .ok (.if_icmp .ge 26, 3) := by decide +kernel
theorem d_Steps_firstNotZeroBehind_9 : decode b_Steps_firstNotZeroBehind 9 = .ok (.aload_n 0, 1) := by decide +kernel
theorem d_Steps_firstNotZeroBehind_10 : decode b_Steps_firstNotZeroBehind 10 = .ok (.getfield 9, 3) := by decide +kernel
theorem d_Steps_firstNotZeroBehind_13 : decode b_Steps_firstNotZeroBehind 13 = .ok (.iload_n 1, 1) := by decide +kernel
theorem d_Steps_firstNotZeroBehind_14 : decode b_Steps_firstNotZeroBehind 14 = .ok (.iload_n 3, 1) := by decide +kernel
theorem d_Steps_firstNotZeroBehind_15 : decode b_Steps_firstNotZeroBehind 15 = .ok (.invokestatic 23, 3) := by decide +kernel
theorem d_Steps_firstNotZeroBehind_18 : decode b_Steps_firstNotZeroBehind 18 = .ok (.laload, 1) := by decide +kernel
theorem d_Steps_firstNotZeroBehind_19 : decode b_Steps_firstNotZeroBehind 19 = .ok (.lconst 0, 1) := by decide +kernel
theorem d_Steps_firstNotZeroBehind_20 : decode b_Steps_firstNotZeroBehind 20 = .ok (.lcmp, 1) := by decide +kernel
theorem d_Steps_firstNotZeroBehind_21 : decode b_Steps_firstNotZeroBehind 21 = .ok (.ifCond .eq 5, 3) := by decide +kernel
theorem d_Steps_firstNotZeroBehind_24 : decode b_Steps_firstNotZeroBehind 24 = .ok (.iload_n 3, 1) := by decide +kernel
theorem d_Steps_firstNotZeroBehind_25 : decode b_Steps_firstNotZeroBehind 25 = .ok (.ireturn, 1) := by decide +kernel
theorem d_Steps_firstNotZeroBehind_26 : decode b_Steps_firstNotZeroBehind 26 = .ok (.iinc 3 1, 3) := by decide +kernel
theorem d_Steps_firstNotZeroBehind_29 : decode b_Steps_firstNotZeroBehind 29 = .ok (.goto (-25), 3) := by decide +kernel
theorem d_Steps_firstNotZeroBehind_32 : decode b_Steps_firstNotZeroBehind 32 = .ok (.iconst (-1), 1) := by decide +kernel
theorem d_Steps_firstNotZeroBehind_33 : decode b_Steps_firstNotZeroBehind 33 = .ok (.ireturn, 1) := by decide +kernel
theorem d_Steps_takeOffSquare_0 : decode b_Steps_takeOffSquare 0 = .ok (.lload_n 3, 1) := by decide +kernel
theorem d_Steps_takeOffSquare_1 : decode b_Steps_takeOffSquare 1 = .ok (.lconst 0, 1) := by decide +kernel
theorem d_Steps_takeOffSquare_2 : decode b_Steps_takeOffSquare 2 = .ok (.lcmp, 1) := by decide +kernel
theorem d_Steps_takeOffSquare_3 : decode b_Steps_takeOffSquare 3 = .ok (.ifCond .gt 4, 3) := by decide +kernel
theorem d_Steps_takeOffSquare_6 : decode b_Steps_takeOffSquare 6 = .ok (.return_, 1) := by decide +kernel
theorem d_Steps_takeOffSquare_7 : decode b_Steps_takeOffSquare 7 = .ok (.iload_n 1, 1) := by decide +kernel
theorem d_Steps_takeOffSquare_8 : decode b_Steps_takeOffSquare 8 = .ok (.bipush 6, 2) := by decide +kernel
theorem d_Steps_takeOffSquare_10 : decode b_Steps_takeOffSquare 10 = .ok (.imul, 1) := by decide +kernel
theorem d_Steps_takeOffSquare_11 : decode b_Steps_takeOffSquare 11 = .ok (.istore 5, 2) := by decide +kernel
theorem d_Steps_takeOffSquare_13 : decode b_Steps_takeOffSquare 13 = .ok (.aload_n 0, 1) := by decide +kernel
theorem d_Steps_takeOffSquare_14 : decode b_Steps_takeOffSquare 14 = .ok (.getfield 9, 3) := by decide +kernel
theorem d_Steps_takeOffSquare_17 : decode b_Steps_takeOffSquare 17 = .ok (.iload 5, 2) := by decide +kernel
theorem d_Steps_takeOffSquare_19 : decode b_Steps_takeOffSquare 19 = .ok (.iload_n 1, 1) := by decide +kernel
theorem d_Steps_takeOffSquare_20 : decode b_Steps_takeOffSquare 20 = .ok (.iadd, 1) := by decide +kernel
theorem d_Steps_takeOffSquare_21 : decode b_Steps_takeOffSquare 21 = .ok (.laload, 1) := by decide +kernel
theorem d_Steps_takeOffSquare_22 : decode b_Steps_takeOffSquare 22 = .ok (.lstore 6, 2) := by decide +kernel
theorem d_Steps_takeOffSquare_24 : decode b_Steps_takeOffSquare 24 = .ok (.iload_n 1, 1) := by decide +kernel
theorem d_Steps_takeOffSquare_25 : decode b_Steps_takeOffSquare 25 = .ok (.iconst 1, 1) := by decide +kernel
theorem d_Steps_takeOffSquare_26 : decode b_Steps_takeOffSquare 26 = .ok (.iadd, 1) := by decide +kernel
theorem d_Steps_takeOffSquare_27 : decode b_Steps_takeOffSquare 27 = .ok (.istore 8, 2) := by decide +kernel
theorem d_Steps_takeOffSquare_29 : decode b_Steps_takeOffSquare 29 = .ok (.iload 8, 2) := by decide +kernel
theorem d_Steps_takeOffSquare_31 : decode b_Steps_takeOffSquare 31 = .ok (.iload_n 2, 1) := by decide +kernel
theorem d_Steps_takeOffSquare_32 : decode b_Steps_takeOffSquare 32 = .ok (.if_icmp .ge 83, 3) := by decide +kernel
theorem d_Steps_takeOffSquare_35 : decode b_Steps_takeOffSquare 35 = .ok (.iload 8, 2) := by decide +kernel
theorem d_Steps_takeOffSquare_37 : decode b_Steps_takeOffSquare 37 = .ok (.bipush 6, 2) := by decide +kernel
theorem d_Steps_takeOffSquare_39 : decode b_Steps_takeOffSquare 39 = .ok (.imul, 1) := by decide +kernel
theorem d_Steps_takeOffSquare_40 : decode b_Steps_takeOffSquare 40 = .ok (.istore 9, 2) := by decide +kernel
theorem d_Steps_takeOffSquare_42 : decode b_Steps_takeOffSquare 42 = .ok (.aload_n 0, 1) := by decide +kernel
theorem d_Steps_takeOffSquare_43 : decode b_Steps_takeOffSquare 43 = .ok (.getfield 9, 3) := by decide +kernel
theorem d_Steps_takeOffSquare_46 : decode b_Steps_takeOffSquare 46 = .ok (.iload 5, 2) := by decide +kernel
theorem d_Steps_takeOffSquare_48 : decode b_Steps_takeOffSquare 48 = .ok (.iload 8, 2) := by decide +kernel
theorem d_Steps_takeOffSquare_50 : decode b_Steps_takeOffSquare 50 = .ok (.iadd, 1) := by decide +kernel
theorem d_Steps_takeOffSquare_51 : decode b_Steps_takeOffSquare 51 = .ok (.laload, 1) := by decide +kernel
theorem d_Steps_takeOffSquare_52 : decode b_Steps_takeOffSquare 52 = .ok (.lstore 10, 2) := by decide +kernel
theorem d_Steps_takeOffSquare_54 : decode b_Steps_takeOffSquare 54 = .ok (.iload 8, 2) := by decide +kernel
theorem d_Steps_takeOffSquare_56 : decode b_Steps_takeOffSquare 56 = .ok (.istore 12, 2) := by decide +kernel
theorem d_Steps_takeOffSquare_58 : decode b_Steps_takeOffSquare 58 = .ok (.iload 12, 2) := by decide +kernel
theorem d_Steps_takeOffSquare_60 : decode b_Steps_takeOffSquare 60 = .ok (.iload_n 2, 1) := by decide +kernel
theorem d_Steps_takeOffSquare_61 : decode b_Steps_takeOffSquare 61 = .ok (.if_icmp .ge 48, 3) := by decide +kernel
theorem d_Steps_takeOffSquare_64 : decode b_Steps_takeOffSquare 64 = .ok (.aload_n 0, 1) := by decide +kernel
theorem d_Steps_takeOffSquare_65 : decode b_Steps_takeOffSquare 65 = .ok (.getfield 9, 3) := by decide +kernel
theorem d_Steps_takeOffSquare_68 : decode b_Steps_takeOffSquare 68 = .ok (.iload 9, 2) := by decide +kernel
theorem d_Steps_takeOffSquare_70 : decode b_Steps_takeOffSquare 70 = .ok (.iload 12, 2) := by decide +kernel
theorem d_Steps_takeOffSquare_72 : decode b_Steps_takeOffSquare 72 = .ok (.iadd, 1) := by decide +kernel
theorem d_Steps_takeOffSquare_73 : decode b_Steps_takeOffSquare 73 = .ok (.lload 6, 2) := by decide +kernel
theorem d_Steps_takeOffSquare_75 : decode b_Steps_takeOffSquare 75 = .ok (.aload_n 0, 1) := by decide +kernel
theorem d_Steps_takeOffSquare_76 : decode b_Steps_takeOffSquare 76 = .ok (.getfield 9, 3) := by decide +kernel
theorem d_Steps_takeOffSquare_79 : decode b_Steps_takeOffSquare 79 = .ok (.iload 9, 2) := by decide +kernel
theorem d_Steps_takeOffSquare_81 : decode b_Steps_takeOffSquare 81 = .ok (.iload 12, 2) := by decide +kernel
theorem d_Steps_takeOffSquare_83 : decode b_Steps_takeOffSquare 83 = .ok (.iadd, 1) := by decide +kernel
theorem d_Steps_takeOffSquare_84 : decode b_Steps_takeOffSquare 84 = .ok (.laload, 1) := by decide +kernel
theorem d_Steps_takeOffSquare_85 : decode b_Steps_takeOffSquare 85 = .ok (.lmul, 1) := by decide +kernel
theorem d_Steps_takeOffSquare_86 : decode b_Steps_takeOffSquare 86 = .ok (.lload 10, 2) := by decide +kernel
theorem d_Steps_takeOffSquare_88 : decode b_Steps_takeOffSquare 88 = .ok (.aload_n 0, 1) := by decide +kernel
theorem d_Steps_takeOffSquare_89 : decode b_Steps_takeOffSquare 89 = .ok (.getfield 9, 3) := by decide +kernel
theorem d_Steps_takeOffSquare_92 : decode b_Steps_takeOffSquare 92 = .ok (.iload 5, 2) := by decide +kernel
theorem d_Steps_takeOffSquare_94 : decode b_Steps_takeOffSquare 94 = .ok (.iload 12, 2) := by decide +kernel
theorem d_Steps_takeOffSquare_96 : decode b_Steps_takeOffSquare 96 = .ok (.iadd, 1) := by decide +kernel
theorem d_Steps_takeOffSquare_97 : decode b_Steps_takeOffSquare 97 = .ok (.laload, 1) := by decide +kernel
theorem d_Steps_takeOffSquare_98 : decode b_Steps_takeOffSquare 98 = .ok (.lmul, 1) := by decide +kernel
theorem d_Steps_takeOffSquare_99 : decode b_Steps_takeOffSquare 99 = .ok (.lsub, 1) := by decide +kernel
theorem d_Steps_takeOffSquare_100 : decode b_Steps_takeOffSquare 100 = .ok (.lload_n 3, 1) := by decide +kernel
theorem d_Steps_takeOffSquare_101 : decode b_Steps_takeOffSquare 101 = .ok (.ldiv, 1) := by decide +kernel
theorem d_Steps_takeOffSquare_102 : decode b_Steps_takeOffSquare 102 = .ok (.lastore, 1) := by decide +kernel
theorem d_Steps_takeOffSquare_103 : decode b_Steps_takeOffSquare 103 = .ok (.iinc 12 1, 3) := by decide +kernel
theorem d_Steps_takeOffSquare_106 : decode b_Steps_takeOffSquare 106 = .ok (.goto (-48), 3) := by decide +kernel
theorem d_Steps_takeOffSquare_109 : decode b_Steps_takeOffSquare 109 = .ok (.iinc 8 1, 3) := by decide +kernel
theorem d_Steps_takeOffSquare_112 : decode b_Steps_takeOffSquare 112 = .ok (.goto (-83), 3) := by decide +kernel
theorem d_Steps_takeOffSquare_115 : decode b_Steps_takeOffSquare 115 = .ok (.return_, 1) := by decide +kernel
theorem d_Steps_pivot_0 : decode b_Steps_pivot 0 = .ok (.aload_n 0, 1) := by decide +kernel
theorem d_Steps_pivot_1 : decode b_Steps_pivot 1 = .ok (.getfield 9, 3) := by decide +kernel
theorem d_Steps_pivot_4 : decode b_Steps_pivot 4 = .ok (.aload_n 0, 1) := by decide +kernel
theorem d_Steps_pivot_5 : decode b_Steps_pivot 5 = .ok (.getfield 15, 3) := by decide +kernel
theorem d_Steps_pivot_8 : decode b_Steps_pivot 8 = .ok (.iload_n 1, 1) := by decide +kernel
theorem d_Steps_pivot_9 : decode b_Steps_pivot 9 = .ok (.iaload, 1) := by decide +kernel
theorem d_Steps_pivot_10 : decode b_Steps_pivot 10 = .ok (.aload_n 0, 1) := by decide +kernel
theorem d_Steps_pivot_11 : decode b_Steps_pivot 11 = .ok (.getfield 15, 3) := by decide +kernel
theorem d_Steps_pivot_14 : decode b_Steps_pivot 14 = .ok (.iload_n 1, 1) := by decide +kernel
theorem d_Steps_pivot_15 : decode b_Steps_pivot 15 = .ok (.iaload, 1) := by decide +kernel
theorem d_Steps_pivot_16 : decode b_Steps_pivot 16 = .ok (.invokestatic 23, 3) := by decide +kernel
theorem d_Steps_pivot_19 : decode b_Steps_pivot 19 = .ok (.laload, 1) := by decide +kernel
theorem d_Steps_pivot_20 : decode b_Steps_pivot 20 = .ok (.lreturn, 1) := by decide +kernel
theorem d_Steps_weightAbove_0 : decode b_Steps_weightAbove 0 = .ok (.aload_n 0, 1) := by decide +kernel
theorem d_Steps_weightAbove_1 : decode b_Steps_weightAbove 1 = .ok (.iload_n 1, 1) := by decide +kernel
theorem d_Steps_weightAbove_2 : decode b_Steps_weightAbove 2 = .ok (.invokevirtual 34, 3) := by decide +kernel
theorem d_Steps_weightAbove_5 : decode b_Steps_weightAbove 5 = .ok (.lreturn, 1) := by decide +kernel
theorem d_Steps_weightBelow_0 : decode b_Steps_weightBelow 0 = .ok (.ldc2_w 38, 3) := by decide +kernel
theorem d_Steps_weightBelow_3 : decode b_Steps_weightBelow 3 = .ok (.iload_n 1, 1) := by decide +kernel
theorem d_Steps_weightBelow_4 : decode b_Steps_weightBelow 4 = .ok (.ifCond .ne 7, 3) := by decide +kernel
theorem d_Steps_weightBelow_7 : decode b_Steps_weightBelow 7 = .ok (.lconst 1, 1) := by decide +kernel
theorem d_Steps_weightBelow_8 : decode b_Steps_weightBelow 8 = .ok (.goto 10, 3) := by decide +kernel
theorem d_Steps_weightBelow_11 : decode b_Steps_weightBelow 11 = .ok (.aload_n 0, 1) := by decide +kernel
theorem d_Steps_weightBelow_12 : decode b_Steps_weightBelow 12 = .ok (.iload_n 1, 1) := by decide +kernel
theorem d_Steps_weightBelow_13 : decode b_Steps_weightBelow 13 = .ok (.iconst 1, 1) := by decide +kernel
theorem d_Steps_weightBelow_14 : decode b_Steps_weightBelow 14 = .ok (.isub, 1) := by decide +kernel
theorem d_Steps_weightBelow_15 : decode b_Steps_weightBelow 15 = .ok (.invokevirtual 34, 3) := by decide +kernel
theorem d_Steps_weightBelow_18 : decode b_Steps_weightBelow 18 = .ok (.lmul, 1) := by decide +kernel
theorem d_Steps_weightBelow_19 : decode b_Steps_weightBelow 19 = .ok (.lreturn, 1) := by decide +kernel
theorem d_Steps_rowAbove_0 : decode b_Steps_rowAbove 0 = .ok (.iload_n 2, 1) := by decide +kernel
theorem d_Steps_rowAbove_1 : decode b_Steps_rowAbove 1 = .ok (.aload_n 0, 1) := by decide +kernel
theorem d_Steps_rowAbove_2 : decode b_Steps_rowAbove 2 = .ok (.getfield 15, 3) := by decide +kernel
theorem d_Steps_rowAbove_5 : decode b_Steps_rowAbove 5 = .ok (.iload_n 1, 1) := by decide +kernel
theorem d_Steps_rowAbove_6 : decode b_Steps_rowAbove 6 = .ok (.iaload, 1) := by decide +kernel
theorem d_Steps_rowAbove_7 : decode b_Steps_rowAbove 7 = .ok (.if_icmp .ge 7, 3) := by decide +kernel
theorem d_Steps_rowAbove_10 : decode b_Steps_rowAbove 10 = .ok (.lconst 0, 1) := by decide +kernel
theorem d_Steps_rowAbove_11 : decode b_Steps_rowAbove 11 = .ok (.goto 18, 3) := by decide +kernel
theorem d_Steps_rowAbove_14 : decode b_Steps_rowAbove 14 = .ok (.aload_n 0, 1) := by decide +kernel
theorem d_Steps_rowAbove_15 : decode b_Steps_rowAbove 15 = .ok (.getfield 9, 3) := by decide +kernel
theorem d_Steps_rowAbove_18 : decode b_Steps_rowAbove 18 = .ok (.aload_n 0, 1) := by decide +kernel
theorem d_Steps_rowAbove_19 : decode b_Steps_rowAbove 19 = .ok (.getfield 15, 3) := by decide +kernel
theorem d_Steps_rowAbove_22 : decode b_Steps_rowAbove 22 = .ok (.iload_n 1, 1) := by decide +kernel
theorem d_Steps_rowAbove_23 : decode b_Steps_rowAbove 23 = .ok (.iaload, 1) := by decide +kernel
theorem d_Steps_rowAbove_24 : decode b_Steps_rowAbove 24 = .ok (.iload_n 2, 1) := by decide +kernel
theorem d_Steps_rowAbove_25 : decode b_Steps_rowAbove 25 = .ok (.invokestatic 23, 3) := by decide +kernel
theorem d_Steps_rowAbove_28 : decode b_Steps_rowAbove 28 = .ok (.laload, 1) := by decide +kernel
theorem d_Steps_rowAbove_29 : decode b_Steps_rowAbove 29 = .ok (.lreturn, 1) := by decide +kernel
theorem d_Steps_rowBelow_0 : decode b_Steps_rowBelow 0 = .ok (.aload_n 0, 1) := by decide +kernel
theorem d_Steps_rowBelow_1 : decode b_Steps_rowBelow 1 = .ok (.iload_n 1, 1) := by decide +kernel
theorem d_Steps_rowBelow_2 : decode b_Steps_rowBelow 2 = .ok (.invokevirtual 34, 3) := by decide +kernel
theorem d_Steps_rowBelow_5 : decode b_Steps_rowBelow 5 = .ok (.lreturn, 1) := by decide +kernel
