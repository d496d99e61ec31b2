theorem d_Mo_init_0 : decode b_Mo_init 0 = .ok (.aload_n 0, 1) := by decide +kernel
theorem d_Mo_init_1 : decode b_Mo_init 1 = .ok (.invokespecial 1, 3) := by decide +kernel
theorem d_Mo_init_4 : decode b_Mo_init 4 = .ok (.aload_n 0, 1) := by decide +kernel
theorem d_Mo_init_5 : decode b_Mo_init 5 = .ok (.bipush 15, 2) := by decide +kernel
theorem d_Mo_init_7 : decode b_Mo_init 7 = .ok (.newarray .int, 2) := by decide +kernel
theorem d_Mo_init_9 : decode b_Mo_init 9 = .ok (.putfield 7, 3) := by decide +kernel
theorem d_Mo_init_12 : decode b_Mo_init 12 = .ok (.aload_n 0, 1) := by decide +kernel
theorem d_Mo_init_13 : decode b_Mo_init 13 = .ok (.bipush 15, 2) := by decide +kernel
theorem d_Mo_init_15 : decode b_Mo_init 15 = .ok (.newarray .int, 2) := by decide +kernel
theorem d_Mo_init_17 : decode b_Mo_init 17 = .ok (.putfield 13, 3) := by decide +kernel
theorem d_Mo_init_20 : decode b_Mo_init 20 = .ok (.aload_n 0, 1) := by decide +kernel
theorem d_Mo_init_21 : decode b_Mo_init 21 = .ok (.bipush 15, 2) := by decide +kernel
theorem d_Mo_init_23 : decode b_Mo_init 23 = .ok (.newarray .int, 2) := by decide +kernel
theorem d_Mo_init_25 : decode b_Mo_init 25 = .ok (.putfield 16, 3) := by decide +kernel
theorem d_Mo_init_28 : decode b_Mo_init 28 = .ok (.aload_n 0, 1) := by decide +kernel
theorem d_Mo_init_29 : decode b_Mo_init 29 = .ok (.bipush 6, 2) := by decide +kernel
theorem d_Mo_init_31 : decode b_Mo_init 31 = .ok (.newarray .int, 2) := by decide +kernel
theorem d_Mo_init_33 : decode b_Mo_init 33 = .ok (.putfield 19, 3) := by decide +kernel
theorem d_Mo_init_36 : decode b_Mo_init 36 = .ok (.aload_n 0, 1) := by decide +kernel
theorem d_Mo_init_37 : decode b_Mo_init 37 = .ok (.bipush 36, 2) := by decide +kernel
theorem d_Mo_init_39 : decode b_Mo_init 39 = .ok (.newarray .int, 2) := by decide +kernel
theorem d_Mo_init_41 : decode b_Mo_init 41 = .ok (.putfield 22, 3) := by decide +kernel
theorem d_Mo_init_44 : decode b_Mo_init 44 = .ok (.aload_n 0, 1) := by decide +kernel
theorem d_Mo_init_45 : decode b_Mo_init 45 = .ok (.bipush 6, 2) := by decide +kernel
theorem d_Mo_init_47 : decode b_Mo_init 47 = .ok (.newarray .long, 2) := by decide +kernel
theorem d_Mo_init_49 : decode b_Mo_init 49 = .ok (.putfield 25, 3) := by decide +kernel
theorem d_Mo_init_52 : decode b_Mo_init 52 = .ok (.aload_n 0, 1) := by decide +kernel
theorem d_Mo_init_53 : decode b_Mo_init 53 = .ok (.bipush 6, 2) := by decide +kernel
theorem d_Mo_init_55 : decode b_Mo_init 55 = .ok (.newarray .long, 2) := by decide +kernel
theorem d_Mo_init_57 : decode b_Mo_init 57 = .ok (.putfield 29, 3) := by decide +kernel
theorem d_Mo_init_60 : decode b_Mo_init 60 = .ok (.aload_n 0, 1) := by decide +kernel
theorem d_Mo_init_61 : decode b_Mo_init 61 = .ok (.bipush 36, 2) := by decide +kernel
theorem d_Mo_init_63 : decode b_Mo_init 63 = .ok (.newarray .long, 2) := by decide +kernel
theorem d_Mo_init_65 : decode b_Mo_init 65 = .ok (.putfield 32, 3) := by decide +kernel
theorem d_Mo_init_68 : decode b_Mo_init 68 = .ok (.aload_n 0, 1) := by decide +kernel
theorem d_Mo_init_69 : decode b_Mo_init 69 = .ok (.bipush 36, 2) := by decide +kernel
theorem d_Mo_init_71 : decode b_Mo_init 71 = .ok (.newarray .long, 2) := by decide +kernel
theorem d_Mo_init_73 : decode b_Mo_init 73 = .ok (.putfield 35, 3) := by decide +kernel
theorem d_Mo_init_76 : decode b_Mo_init 76 = .ok (.aload_n 0, 1) := by decide +kernel
theorem d_Mo_init_77 : decode b_Mo_init 77 = .ok (.bipush 36, 2) := by decide +kernel
theorem d_Mo_init_79 : decode b_Mo_init 79 = .ok (.newarray .long, 2) := by decide +kernel
theorem d_Mo_init_81 : decode b_Mo_init 81 = .ok (.putfield 38, 3) := by decide +kernel
theorem d_Mo_init_84 : decode b_Mo_init 84 = .ok (.aload_n 0, 1) := by decide +kernel
theorem d_Mo_init_85 : decode b_Mo_init 85 = .ok (.bipush 42, 2) := by decide +kernel
theorem d_Mo_init_87 : decode b_Mo_init 87 = .ok (.newarray .long, 2) := by decide +kernel
theorem d_Mo_init_89 : decode b_Mo_init 89 = .ok (.putfield 41, 3) := by decide +kernel
theorem d_Mo_init_92 : decode b_Mo_init 92 = .ok (.aload_n 0, 1) := by decide +kernel
theorem d_Mo_init_93 : decode b_Mo_init 93 = .ok (.bipush 42, 2) := by decide +kernel
theorem d_Mo_init_95 : decode b_Mo_init 95 = .ok (.newarray .long, 2) := by decide +kernel
theorem d_Mo_init_97 : decode b_Mo_init 97 = .ok (.putfield 44, 3) := by decide +kernel
theorem d_Mo_init_100 : decode b_Mo_init 100 = .ok (.aload_n 0, 1) := by decide +kernel
theorem d_Mo_init_101 : decode b_Mo_init 101 = .ok (.bipush 21, 2) := by decide +kernel
theorem d_Mo_init_103 : decode b_Mo_init 103 = .ok (.newarray .int, 2) := by decide +kernel
theorem d_Mo_init_105 : decode b_Mo_init 105 = .ok (.putfield 47, 3) := by decide +kernel
theorem d_Mo_init_108 : decode b_Mo_init 108 = .ok (.aload_n 0, 1) := by decide +kernel
theorem d_Mo_init_109 : decode b_Mo_init 109 = .ok (.bipush 21, 2) := by decide +kernel
theorem d_Mo_init_111 : decode b_Mo_init 111 = .ok (.newarray .int, 2) := by decide +kernel
theorem d_Mo_init_113 : decode b_Mo_init 113 = .ok (.putfield 50, 3) := by decide +kernel
theorem d_Mo_init_116 : decode b_Mo_init 116 = .ok (.aload_n 0, 1) := by decide +kernel
theorem d_Mo_init_117 : decode b_Mo_init 117 = .ok (.bipush 15, 2) := by decide +kernel
theorem d_Mo_init_119 : decode b_Mo_init 119 = .ok (.newarray .int, 2) := by decide +kernel
theorem d_Mo_init_121 : decode b_Mo_init 121 = .ok (.putfield 53, 3) := by decide +kernel
theorem d_Mo_init_124 : decode b_Mo_init 124 = .ok (.aload_n 0, 1) := by decide +kernel
theorem d_Mo_init_125 : decode b_Mo_init 125 = .ok (.bipush 15, 2) := by decide +kernel
theorem d_Mo_init_127 : decode b_Mo_init 127 = .ok (.newarray .int, 2) := by decide +kernel
theorem d_Mo_init_129 : decode b_Mo_init 129 = .ok (.putfield 56, 3) := by decide +kernel
theorem d_Mo_init_132 : decode b_Mo_init 132 = .ok (.aload_n 0, 1) := by decide +kernel
theorem d_Mo_init_133 : decode b_Mo_init 133 = .ok (.bipush 36, 2) := by decide +kernel
theorem d_Mo_init_135 : decode b_Mo_init 135 = .ok (.newarray .int, 2) := by decide +kernel
theorem d_Mo_init_137 : decode b_Mo_init 137 = .ok (.putfield 59, 3) := by decide +kernel
theorem d_Mo_init_140 : decode b_Mo_init 140 = .ok (.aload_n 0, 1) := by decide +kernel
theorem d_Mo_init_141 : decode b_Mo_init 141 = .ok (.bipush 21, 2) := by decide +kernel
theorem d_Mo_init_143 : decode b_Mo_init 143 = .ok (.newarray .int, 2) := by decide +kernel
theorem d_Mo_init_145 : decode b_Mo_init 145 = .ok (.putfield 62, 3) := by decide +kernel
theorem d_Mo_init_148 : decode b_Mo_init 148 = .ok (.aload_n 0, 1) := by decide +kernel
theorem d_Mo_init_149 : decode b_Mo_init 149 = .ok (.iload_n 1, 1) := by decide +kernel
theorem d_Mo_init_150 : decode b_Mo_init 150 = .ok (.iconst 2, 1) := by decide +kernel
theorem d_Mo_init_151 : decode b_Mo_init 151 = .ok (.if_icmp .ge 7, 3) := by decide +kernel
theorem d_Mo_init_154 : decode b_Mo_init 154 = .ok (.iconst 1, 1) := by decide +kernel
theorem d_Mo_init_155 : decode b_Mo_init 155 = .ok (.goto 4, 3) := by decide +kernel
theorem d_Mo_init_158 : decode b_Mo_init 158 = .ok (.iconst 2, 1) := by decide +kernel
theorem d_Mo_init_159 : decode b_Mo_init 159 = .ok (.putfield 65, 3) := by decide +kernel
theorem d_Mo_init_162 : decode b_Mo_init 162 = .ok (.iconst 0, 1) := by decide +kernel
theorem d_Mo_init_163 : decode b_Mo_init 163 = .ok (.istore_n 2, 1) := by decide +kernel
theorem d_Mo_init_164 : decode b_Mo_init 164 = .ok (.iload_n 2, 1) := by decide +kernel
theorem d_Mo_init_165 : decode b_Mo_init 165 = .ok (.iconst 5, 1) := by decide +kernel
theorem d_Mo_init_166 : decode b_Mo_init 166 = .ok (.if_icmp .ge 66, 3) := by decide +kernel
theorem d_Mo_init_169 : decode b_Mo_init 169 = .ok (.iload_n 2, 1) := by decide +kernel
theorem d_Mo_init_170 : decode b_Mo_init 170 = .ok (.istore_n 3, 1) := by decide +kernel
theorem d_Mo_init_171 : decode b_Mo_init 171 = .ok (.iload_n 3, 1) := by decide +kernel
theorem d_Mo_init_172 : decode b_Mo_init 172 = .ok (.ifCond .lt 54, 3) := by decide +kernel
theorem d_Mo_init_175 : decode b_Mo_init 175 = .ok (.aload_n 0, 1) := by decide +kernel
theorem d_Mo_init_176 : decode b_Mo_init 176 = .ok (.getfield 65, 3) := by decide +kernel
theorem d_Mo_init_179 : decode b_Mo_init 179 = .ok (.iconst 2, 1) := by decide +kernel
theorem d_Mo_init_180 : decode b_Mo_init 180 = .ok (.if_icmp .eq 8, 3) := by decide +kernel
theorem d_Mo_init_183 : decode b_Mo_init 183 = .ok (.iload_n 3, 1) := by decide +kernel
theorem d_Mo_init_184 : decode b_Mo_init 184 = .ok (.iload_n 2, 1) := by decide +kernel
theorem d_Mo_init_185 : decode b_Mo_init 185 = .ok (.if_icmp .ne 35, 3) := by decide +kernel
theorem d_Mo_init_188 : decode b_Mo_init 188 = .ok (.aload_n 0, 1) := by decide +kernel
theorem d_Mo_init_189 : decode b_Mo_init 189 = .ok (.getfield 7, 3) := by decide +kernel
theorem d_Mo_init_192 : decode b_Mo_init 192 = .ok (.aload_n 0, 1) := by decide +kernel
theorem d_Mo_init_193 : decode b_Mo_init 193 = .ok (.getfield 69, 3) := by decide +kernel
theorem d_Mo_init_196 : decode b_Mo_init 196 = .ok (.iload_n 3, 1) := by decide +kernel
theorem d_Mo_init_197 : decode b_Mo_init 197 = .ok (.iastore, 1) := by decide +kernel
theorem d_Mo_init_198 : decode b_Mo_init 198 = .ok (.aload_n 0, 1) := by decide +kernel
theorem d_Mo_init_199 : decode b_Mo_init 199 = .ok (.getfield 13, 3) := by decide +kernel
theorem d_Mo_init_202 : decode b_Mo_init 202 = .ok (.aload_n 0, 1) := by decide +kernel
theorem d_Mo_init_203 : decode b_Mo_init 203 = .ok (.getfield 69, 3) := by decide +kernel
theorem d_Mo_init_206 : decode b_Mo_init 206 = .ok (.iload_n 2, 1) := by decide +kernel
theorem d_Mo_init_207 : decode b_Mo_init 207 = .ok (.iload_n 3, 1) := by decide +kernel
theorem d_Mo_init_208 : decode b_Mo_init 208 = .ok (.isub, 1) := by decide +kernel
theorem d_Mo_init_209 : decode b_Mo_init 209 = .ok (.iastore, 1) := by decide +kernel
theorem d_Mo_init_210 : decode b_Mo_init 210 = .ok (.aload_n 0, 1) := by decide +kernel
theorem d_Mo_init_211 : decode b_Mo_init 211 = .ok (.dup, 1) := by decide +kernel
theorem d_Mo_init_212 : decode b_Mo_init 212 = .ok (.getfield 69, 3) := by decide +kernel
theorem d_Mo_init_215 : decode b_Mo_init 215 = .ok (.iconst 1, 1) := by decide +kernel
theorem d_Mo_init_216 : decode b_Mo_init 216 = .ok (.iadd, 1) := by decide +kernel
theorem d_Mo_init_217 : decode b_Mo_init 217 = .ok (.putfield 69, 3) := by decide +kernel
theorem d_Mo_init_220 : decode b_Mo_init 220 = .ok (.iinc 3 (-1), 3) := by decide +kernel
theorem d_Mo_init_223 : decode b_Mo_init 223 = .ok (.goto (-52), 3) := by decide +kernel
theorem d_Mo_init_226 : decode b_Mo_init 226 = .ok (.iinc 2 1, 3) := by decide +kernel
theorem d_Mo_init_229 : decode b_Mo_init 229 = .ok (.goto (-65), 3) := by decide +kernel
theorem d_Mo_init_232 : decode b_Mo_init 232 = .ok (.return_, 1) := by decide +kernel
theorem d_Mo_thrown_0 : decode b_Mo_thrown 0 = .ok (.aload_n 0, 1) := by decide +kernel
theorem d_Mo_thrown_1 : decode b_Mo_thrown 1 = .ok (.getfield 72, 3) := by decide +kernel
theorem d_Mo_thrown_4 : decode b_Mo_thrown 4 = .ok (.ireturn, 1) := by decide +kernel
theorem d_Mo_refuses_0 : decode b_Mo_refuses 0 = .ok (.aload_n 0, 1) := by decide +kernel
theorem d_Mo_refuses_1 : decode b_Mo_refuses 1 = .ok (.iload_n 1, 1) := by decide +kernel
theorem d_Mo_refuses_2 : decode b_Mo_refuses 2 = .ok (.ifCond .eq 7, 3) := by decide +kernel
theorem d_Mo_refuses_5 : decode b_Mo_refuses 5 = .ok (.iconst 1, 1) := by decide +kernel
theorem d_Mo_refuses_6 : decode b_Mo_refuses 6 = .ok (.goto 20, 3) := by decide +kernel
theorem d_Mo_refuses_9 : decode b_Mo_refuses 9 = .ok (.iload_n 2, 1) := by decide +kernel
theorem d_Mo_refuses_10 : decode b_Mo_refuses 10 = .ok (.ifCond .eq 7, 3) := by decide +kernel
theorem d_Mo_refuses_13 : decode b_Mo_refuses 13 = .ok (.iconst 2, 1) := by decide +kernel
theorem d_Mo_refuses_14 : decode b_Mo_refuses 14 = .ok (.goto 12, 3) := by decide +kernel
theorem d_Mo_refuses_17 : decode b_Mo_refuses 17 = .ok (.iload_n 3, 1) := by decide +kernel
theorem d_Mo_refuses_18 : decode b_Mo_refuses 18 = .ok (.ifCond .eq 7, 3) := by decide +kernel
theorem d_Mo_refuses_21 : decode b_Mo_refuses 21 = .ok (.iconst 3, 1) := by decide +kernel
theorem d_Mo_refuses_22 : decode b_Mo_refuses 22 = .ok (.goto 4, 3) := by decide +kernel
theorem d_Mo_refuses_25 : decode b_Mo_refuses 25 = .ok (.iconst 0, 1) := by decide +kernel
theorem d_Mo_refuses_26 : decode b_Mo_refuses 26 = .ok (.putfield 72, 3) := by decide +kernel
theorem d_Mo_refuses_29 : decode b_Mo_refuses 29 = .ok (.aload_n 0, 1) := by decide +kernel
theorem d_Mo_refuses_30 : decode b_Mo_refuses 30 = .ok (.getfield 72, 3) := by decide +kernel
theorem d_Mo_refuses_33 : decode b_Mo_refuses 33 = .ok (.ifCond .le 7, 3) := by decide +kernel
theorem d_Mo_refuses_36 : decode b_Mo_refuses 36 = .ok (.iconst 1, 1) := by decide +kernel
theorem d_Mo_refuses_37 : decode b_Mo_refuses 37 = .ok (.goto 4, 3) := by decide +kernel
theorem d_Mo_refuses_40 : decode b_Mo_refuses 40 = .ok (.iconst 0, 1) := by decide +kernel
theorem d_Mo_refuses_41 : decode b_Mo_refuses 41 = .ok (.ireturn, 1) := by decide +kernel
theorem d_Mo_powerOf_0 : decode b_Mo_powerOf 0 = .ok (.iconst 0, 1) := by decide +kernel
theorem d_Mo_powerOf_1 : decode b_Mo_powerOf 1 = .ok (.istore_n 3, 1) := by decide +kernel
theorem d_Mo_powerOf_2 : decode b_Mo_powerOf 2 = .ok (.iload_n 3, 1) := by decide +kernel
theorem d_Mo_powerOf_3 : decode b_Mo_powerOf 3 = .ok (.aload_n 0, 1) := by decide +kernel
theorem d_Mo_powerOf_4 : decode b_Mo_powerOf 4 = .ok (.getfield 69, 3) := by decide +kernel
theorem d_Mo_powerOf_7 : decode b_Mo_powerOf 7 = .ok (.if_icmp .ge 31, 3) := by decide +kernel
theorem d_Mo_powerOf_10 : decode b_Mo_powerOf 10 = .ok (.aload_n 0, 1) := by decide +kernel
theorem d_Mo_powerOf_11 : decode b_Mo_powerOf 11 = .ok (.getfield 7, 3) := by decide +kernel
theorem d_Mo_powerOf_14 : decode b_Mo_powerOf 14 = .ok (.iload_n 3, 1) := by decide +kernel
theorem d_Mo_powerOf_15 : decode b_Mo_powerOf 15 = .ok (.iaload, 1) := by decide +kernel
theorem d_Mo_powerOf_16 : decode b_Mo_powerOf 16 = .ok (.iload_n 1, 1) := by decide +kernel
theorem d_Mo_powerOf_17 : decode b_Mo_powerOf 17 = .ok (.if_icmp .ne 15, 3) := by decide +kernel
theorem d_Mo_powerOf_20 : decode b_Mo_powerOf 20 = .ok (.aload_n 0, 1) := by decide +kernel
theorem d_Mo_powerOf_21 : decode b_Mo_powerOf 21 = .ok (.getfield 13, 3) := by decide +kernel
theorem d_Mo_powerOf_24 : decode b_Mo_powerOf 24 = .ok (.iload_n 3, 1) := by decide +kernel
theorem d_Mo_powerOf_25 : decode b_Mo_powerOf 25 = .ok (.iaload, 1) := by decide +kernel
theorem d_Mo_powerOf_26 : decode b_Mo_powerOf 26 = .ok (.iload_n 2, 1) := by decide +kernel
theorem d_Mo_powerOf_27 : decode b_Mo_powerOf 27 = .ok (.if_icmp .ne 5, 3) := by decide +kernel
theorem d_Mo_powerOf_30 : decode b_Mo_powerOf 30 = .ok (.iload_n 3, 1) := by decide +kernel
theorem d_Mo_powerOf_31 : decode b_Mo_powerOf 31 = .ok (.ireturn, 1) := by decide +kernel
theorem d_Mo_powerOf_32 : decode b_Mo_powerOf 32 = .ok (.iinc 3 1, 3) := by decide +kernel
theorem d_Mo_powerOf_35 : decode b_Mo_powerOf 35 = .ok (.goto (-33), 3) := by decide +kernel
theorem d_Mo_powerOf_38 : decode b_Mo_powerOf 38 = .ok (.iconst (-1), 1) := by decide +kernel
theorem d_Mo_powerOf_39 : decode b_Mo_powerOf 39 = .ok (.ireturn, 1) := by decide +kernel
theorem d_Mo_isTerm_0 : decode b_Mo_isTerm 0 = .ok (.iload_n 1, 1) := by decide +kernel
theorem d_Mo_isTerm_1 : decode b_Mo_isTerm 1 = .ok (.iload_n 2, 1) := by decide +kernel
theorem d_Mo_isTerm_2 : decode b_Mo_isTerm 2 = .ok (.if_icmp .eq 16, 3) := by decide +kernel
theorem d_Mo_isTerm_5 : decode b_Mo_isTerm 5 = .ok (.aload_n 0, 1) := by decide +kernel
theorem d_Mo_isTerm_6 : decode b_Mo_isTerm 6 = .ok (.getfield 16, 3) := by decide +kernel
theorem d_Mo_isTerm_9 : decode b_Mo_isTerm 9 = .ok (.iload_n 1, 1) := by decide +kernel
theorem d_Mo_isTerm_10 : decode b_Mo_isTerm 10 = .ok (.iaload, 1) := by decide +kernel
theorem d_Mo_isTerm_11 : decode b_Mo_isTerm 11 = .ok (.ifCond .eq 7, 3) := by decide +kernel
theorem d_Mo_isTerm_14 : decode b_Mo_isTerm 14 = .ok (.iconst 1, 1) := by decide +kernel
theorem d_Mo_isTerm_15 : decode b_Mo_isTerm 15 = .ok (.goto 4, 3) := by decide +kernel
theorem d_Mo_isTerm_18 : decode b_Mo_isTerm 18 = .ok (.iconst 0, 1) := by decide +kernel
theorem d_Mo_isTerm_19 : decode b_Mo_isTerm 19 = .ok (.ireturn, 1) := by decide +kernel
theorem d_Mo_area_0 : decode b_Mo_area 0 = .ok (.aload_n 0, 1) := by decide +kernel
theorem d_Mo_area_1 : decode b_Mo_area 1 = .ok (.getfield 7, 3) := by decide +kernel
theorem d_Mo_area_4 : decode b_Mo_area 4 = .ok (.iload_n 2, 1) := by decide +kernel
theorem d_Mo_area_5 : decode b_Mo_area 5 = .ok (.iaload, 1) := by decide +kernel
theorem d_Mo_area_6 : decode b_Mo_area 6 = .ok (.aload_n 0, 1) := by decide +kernel
theorem d_Mo_area_7 : decode b_Mo_area 7 = .ok (.getfield 7, 3) := by decide +kernel
theorem d_Mo_area_10 : decode b_Mo_area 10 = .ok (.iload_n 1, 1) := by decide +kernel
theorem d_Mo_area_11 : decode b_Mo_area 11 = .ok (.iaload, 1) := by decide +kernel
theorem d_Mo_area_12 : decode b_Mo_area 12 = .ok (.isub, 1) := by decide +kernel
theorem d_Mo_area_13 : decode b_Mo_area 13 = .ok (.iload 4, 2) := by decide +kernel
theorem d_Mo_area_15 : decode b_Mo_area 15 = .ok (.aload_n 0, 1) := by decide +kernel
theorem d_Mo_area_16 : decode b_Mo_area 16 = .ok (.getfield 13, 3) := by decide +kernel
theorem d_Mo_area_19 : decode b_Mo_area 19 = .ok (.iload_n 1, 1) := by decide +kernel
theorem d_Mo_area_20 : decode b_Mo_area 20 = .ok (.iaload, 1) := by decide +kernel
theorem d_Mo_area_21 : decode b_Mo_area 21 = .ok (.isub, 1) := by decide +kernel
theorem d_Mo_area_22 : decode b_Mo_area 22 = .ok (.imul, 1) := by decide +kernel
theorem d_Mo_area_23 : decode b_Mo_area 23 = .ok (.aload_n 0, 1) := by decide +kernel
theorem d_Mo_area_24 : decode b_Mo_area 24 = .ok (.getfield 13, 3) := by decide +kernel
theorem d_Mo_area_27 : decode b_Mo_area 27 = .ok (.iload_n 2, 1) := by decide +kernel
theorem d_Mo_area_28 : decode b_Mo_area 28 = .ok (.iaload, 1) := by decide +kernel
theorem d_Mo_area_29 : decode b_Mo_area 29 = .ok (.aload_n 0, 1) := by decide +kernel
theorem d_Mo_area_30 : decode b_Mo_area 30 = .ok (.getfield 13, 3) := by decide +kernel
theorem d_Mo_area_33 : decode b_Mo_area 33 = .ok (.iload_n 1, 1) := by decide +kernel
theorem d_Mo_area_34 : decode b_Mo_area 34 = .ok (.iaload, 1) := by decide +kernel
theorem d_Mo_area_35 : decode b_Mo_area 35 = .ok (.isub, 1) := by decide +kernel
theorem d_Mo_area_36 : decode b_Mo_area 36 = .ok (.iload_n 3, 1) := by decide +kernel
theorem d_Mo_area_37 : decode b_Mo_area 37 = .ok (.aload_n 0, 1) := by decide +kernel
theorem d_Mo_area_38 : decode b_Mo_area 38 = .ok (.getfield 7, 3) := by decide +kernel
theorem d_Mo_area_41 : decode b_Mo_area 41 = .ok (.iload_n 1, 1) := by decide +kernel
theorem d_Mo_area_42 : decode b_Mo_area 42 = .ok (.iaload, 1) := by decide +kernel
theorem d_Mo_area_43 : decode b_Mo_area 43 = .ok (.isub, 1) := by decide +kernel
theorem d_Mo_area_44 : decode b_Mo_area 44 = .ok (.imul, 1) := by decide +kernel
theorem d_Mo_area_45 : decode b_Mo_area 45 = .ok (.isub, 1) := by decide +kernel
theorem d_Mo_area_46 : decode b_Mo_area 46 = .ok (.ireturn, 1) := by decide +kernel
theorem d_Mo_isBetween_0 : decode b_Mo_isBetween 0 = .ok (.iload_n 3, 1) := by decide +kernel
theorem d_Mo_isBetween_1 : decode b_Mo_isBetween 1 = .ok (.aload_n 0, 1) := by decide +kernel
theorem d_Mo_isBetween_2 : decode b_Mo_isBetween 2 = .ok (.getfield 7, 3) := by decide +kernel
theorem d_Mo_isBetween_5 : decode b_Mo_isBetween 5 = .ok (.iload_n 1, 1) := by decide +kernel
theorem d_Mo_isBetween_6 : decode b_Mo_isBetween 6 = .ok (.iaload, 1) := by decide +kernel
theorem d_Mo_isBetween_7 : decode b_Mo_isBetween 7 = .ok (.if_icmp .lt 13, 3) := by decide +kernel
theorem d_Mo_isBetween_10 : decode b_Mo_isBetween 10 = .ok (.iload_n 3, 1) := by decide +kernel
theorem d_Mo_isBetween_11 : decode b_Mo_isBetween 11 = .ok (.aload_n 0, 1) := by decide +kernel
theorem d_Mo_isBetween_12 : decode b_Mo_isBetween 12 = .ok (.getfield 7, 3) := by decide +kernel
theorem d_Mo_isBetween_15 : decode b_Mo_isBetween 15 = .ok (.iload_n 2, 1) := by decide +kernel
theorem d_Mo_isBetween_16 : decode b_Mo_isBetween 16 = .ok (.iaload, 1) := by decide +kernel
theorem d_Mo_isBetween_17 : decode b_Mo_isBetween 17 = .ok (.if_icmp .le 23, 3) := by decide +kernel
theorem d_Mo_isBetween_20 : decode b_Mo_isBetween 20 = .ok (.iload_n 3, 1) := by decide +kernel
theorem d_Mo_isBetween_21 : decode b_Mo_isBetween 21 = .ok (.aload_n 0, 1) := by decide +kernel
theorem d_Mo_isBetween_22 : decode b_Mo_isBetween 22 = .ok (.getfield 7, 3) := by decide +kernel
theorem d_Mo_isBetween_25 : decode b_Mo_isBetween 25 = .ok (.iload_n 2, 1) := by decide +kernel
theorem d_Mo_isBetween_26 : decode b_Mo_isBetween 26 = .ok (.iaload, 1) := by decide +kernel
theorem d_Mo_isBetween_27 : decode b_Mo_isBetween 27 = .ok (.if_icmp .lt 17, 3) := by decide +kernel
theorem d_Mo_isBetween_30 : decode b_Mo_isBetween 30 = .ok (.iload_n 3, 1) := by decide +kernel
theorem d_Mo_isBetween_31 : decode b_Mo_isBetween 31 = .ok (.aload_n 0, 1) := by decide +kernel
theorem d_Mo_isBetween_32 : decode b_Mo_isBetween 32 = .ok (.getfield 7, 3) := by decide +kernel
theorem d_Mo_isBetween_35 : decode b_Mo_isBetween 35 = .ok (.iload_n 1, 1) := by decide +kernel
theorem d_Mo_isBetween_36 : decode b_Mo_isBetween 36 = .ok (.iaload, 1) := by decide +kernel
theorem d_Mo_isBetween_37 : decode b_Mo_isBetween 37 = .ok (.if_icmp .gt 7, 3) := by decide +kernel
theorem d_Mo_isBetween_40 : decode b_Mo_isBetween 40 = .ok (.iconst 1, 1) := by decide +kernel
theorem d_Mo_isBetween_41 : decode b_Mo_isBetween 41 = .ok (.goto 4, 3) := by decide +kernel
theorem d_Mo_isBetween_44 : decode b_Mo_isBetween 44 = .ok (.iconst 0, 1) := by decide +kernel
theorem d_Mo_isBetween_45 : decode b_Mo_isBetween 45 = .ok (.istore 5, 2) := by decide +kernel
theorem d_Mo_isBetween_47 : decode b_Mo_isBetween 47 = .ok (.iload 4, 2) := by decide +kernel
theorem d_Mo_isBetween_49 : decode b_Mo_isBetween 49 = .ok (.aload_n 0, 1) := by decide +kernel
theorem d_Mo_isBetween_50 : decode b_Mo_isBetween 50 = .ok (.getfield 13, 3) := by decide +kernel
theorem d_Mo_isBetween_53 : decode b_Mo_isBetween 53 = .ok (.iload_n 1, 1) := by decide +kernel
theorem d_Mo_isBetween_54 : decode b_Mo_isBetween 54 = .ok (.iaload, 1) := by decide +kernel
theorem d_Mo_isBetween_55 : decode b_Mo_isBetween 55 = .ok (.if_icmp .lt 14, 3) := by decide +kernel
theorem d_Mo_isBetween_58 : decode b_Mo_isBetween 58 = .ok (.iload 4, 2) := by decide +kernel
theorem d_Mo_isBetween_60 : decode b_Mo_isBetween 60 = .ok (.aload_n 0, 1) := by decide +kernel
theorem d_Mo_isBetween_61 : decode b_Mo_isBetween 61 = .ok (.getfield 13, 3) := by decide +kernel
theorem d_Mo_isBetween_64 : decode b_Mo_isBetween 64 = .ok (.iload_n 2, 1) := by decide +kernel
theorem d_Mo_isBetween_65 : decode b_Mo_isBetween 65 = .ok (.iaload, 1) := by decide +kernel
theorem d_Mo_isBetween_66 : decode b_Mo_isBetween 66 = .ok (.if_icmp .le 25, 3) := by decide +kernel
theorem d_Mo_isBetween_69 : decode b_Mo_isBetween 69 = .ok (.iload 4, 2) := by decide +kernel
theorem d_Mo_isBetween_71 : decode b_Mo_isBetween 71 = .ok (.aload_n 0, 1) := by decide +kernel
theorem d_Mo_isBetween_72 : decode b_Mo_isBetween 72 = .ok (.getfield 13, 3) := by decide +kernel
theorem d_Mo_isBetween_75 : decode b_Mo_isBetween 75 = .ok (.iload_n 2, 1) := by decide +kernel
theorem d_Mo_isBetween_76 : decode b_Mo_isBetween 76 = .ok (.iaload, 1) := by decide +kernel
theorem d_Mo_isBetween_77 : decode b_Mo_isBetween 77 = .ok (.if_icmp .lt 18, 3) := by decide +kernel
theorem d_Mo_isBetween_80 : decode b_Mo_isBetween 80 = .ok (.iload 4, 2) := by decide +kernel
theorem d_Mo_isBetween_82 : decode b_Mo_isBetween 82 = .ok (.aload_n 0, 1) := by decide +kernel
theorem d_Mo_isBetween_83 : decode b_Mo_isBetween 83 = .ok (.getfield 13, 3) := by decide +kernel
theorem d_Mo_isBetween_86 : decode b_Mo_isBetween 86 = .ok (.iload_n 1, 1) := by decide +kernel
theorem d_Mo_isBetween_87 : decode b_Mo_isBetween 87 = .ok (.iaload, 1) := by decide +kernel
theorem d_Mo_isBetween_88 : decode b_Mo_isBetween 88 = .ok (.if_icmp .gt 7, 3) := by decide +kernel
theorem d_Mo_isBetween_91 : decode b_Mo_isBetween 91 = .ok (.iconst 1, 1) := by decide +kernel
theorem d_Mo_isBetween_92 : decode b_Mo_isBetween 92 = .ok (.goto 4, 3) := by decide +kernel
theorem d_Mo_isBetween_95 : decode b_Mo_isBetween 95 = .ok (.iconst 0, 1) := by decide +kernel
theorem d_Mo_isBetween_96 : decode b_Mo_isBetween 96 = .ok (.istore 6, 2) := by decide +kernel
theorem d_Mo_isBetween_98 : decode b_Mo_isBetween 98 = .ok (.iload 5, 2) := by decide +kernel
theorem d_Mo_isBetween_100 : decode b_Mo_isBetween 100 = .ok (.ifCond .eq 24, 3) := by decide +kernel
theorem d_Mo_isBetween_103 : decode b_Mo_isBetween 103 = .ok (.iload 6, 2) := by decide +kernel
theorem d_Mo_isBetween_105 : decode b_Mo_isBetween 105 = .ok (.ifCond .eq 19, 3) := by decide +kernel
theorem d_Mo_isBetween_108 : decode b_Mo_isBetween 108 = .ok (.aload_n 0, 1) := by decide +kernel
theorem d_Mo_isBetween_109 : decode b_Mo_isBetween 109 = .ok (.iload_n 1, 1) := by decide +kernel
theorem d_Mo_isBetween_110 : decode b_Mo_isBetween 110 = .ok (.iload_n 2, 1) := by decide +kernel
theorem d_Mo_isBetween_111 : decode b_Mo_isBetween 111 = .ok (.iload_n 3, 1) := by decide +kernel
theorem d_Mo_isBetween_112 : decode b_Mo_isBetween 112 = .ok (.iload 4, 2) := by decide +kernel
theorem d_Mo_isBetween_114 : decode b_Mo_isBetween 114 = .ok (.invokevirtual 75, 3) := by decide +kernel
theorem d_Mo_isBetween_117 : decode b_Mo_isBetween 117 = .ok (.ifCond .ne 7, 3) := by decide +kernel
theorem d_Mo_isBetween_120 : decode b_Mo_isBetween 120 = .ok (.iconst 1, 1) := by decide +kernel
theorem d_Mo_isBetween_121 : decode b_Mo_isBetween 121 = .ok (.goto 4, 3) := by decide +kernel
theorem d_Mo_isBetween_124 : decode b_Mo_isBetween 124 = .ok (.iconst 0, 1) := by decide +kernel
theorem d_Mo_isBetween_125 : decode b_Mo_isBetween 125 = .ok (.ireturn, 1) := by decide +kernel
theorem d_Mo_covers_0 : decode b_Mo_covers 0 = .ok (.aload_n 0, 1) := by decide +kernel
theorem d_Mo_covers_1 : decode b_Mo_covers 1 = .ok (.iload_n 1, 1) := by decide +kernel
theorem d_Mo_covers_2 : decode b_Mo_covers 2 = .ok (.iload_n 2, 1) := by decide +kernel
theorem d_Mo_covers_3 : decode b_Mo_covers 3 = .ok (.iload 4, 2) := by decide +kernel
theorem d_Mo_covers_5 : decode b_Mo_covers 5 = .ok (.iload 5, 2) := by decide +kernel
theorem d_Mo_covers_7 : decode b_Mo_covers 7 = .ok (.invokevirtual 79, 3) := by decide +kernel
theorem d_Mo_covers_10 : decode b_Mo_covers 10 = .ok (.ifCond .ne 29, 3) := by decide +kernel
theorem d_Mo_covers_13 : decode b_Mo_covers 13 = .ok (.aload_n 0, 1) := by decide +kernel
theorem d_Mo_covers_14 : decode b_Mo_covers 14 = .ok (.iload_n 2, 1) := by decide +kernel
theorem d_Mo_covers_15 : decode b_Mo_covers 15 = .ok (.iload_n 3, 1) := by decide +kernel
theorem d_Mo_covers_16 : decode b_Mo_covers 16 = .ok (.iload 4, 2) := by decide +kernel
theorem d_Mo_covers_18 : decode b_Mo_covers 18 = .ok (.iload 5, 2) := by decide +kernel
theorem d_Mo_covers_20 : decode b_Mo_covers 20 = .ok (.invokevirtual 79, 3) := by decide +kernel
theorem d_Mo_covers_23 : decode b_Mo_covers 23 = .ok (.ifCond .ne 16, 3) := by decide +kernel
theorem d_Mo_covers_26 : decode b_Mo_covers 26 = .ok (.aload_n 0, 1) := by decide +kernel
theorem d_Mo_covers_27 : decode b_Mo_covers 27 = .ok (.iload_n 1, 1) := by decide +kernel
theorem d_Mo_covers_28 : decode b_Mo_covers 28 = .ok (.iload_n 3, 1) := by decide +kernel
theorem d_Mo_covers_29 : decode b_Mo_covers 29 = .ok (.iload 4, 2) := by decide +kernel
theorem d_Mo_covers_31 : decode b_Mo_covers 31 = .ok (.iload 5, 2) := by decide +kernel
theorem d_Mo_covers_33 : decode b_Mo_covers 33 = .ok (.invokevirtual 79, 3) := by decide +kernel
theorem d_Mo_covers_36 : decode b_Mo_covers 36 = .ok (.ifCond .eq 5, 3) := by decide +kernel
theorem d_Mo_covers_39 : decode b_Mo_covers 39 = .ok (.iconst 1, 1) := by decide +kernel
theorem d_Mo_covers_40 : decode b_Mo_covers 40 = .ok (.ireturn, 1) := by decide +kernel
theorem d_Mo_covers_41 : decode b_Mo_covers 41 = .ok (.aload_n 0, 1) := by decide +kernel
theorem d_Mo_covers_42 : decode b_Mo_covers 42 = .ok (.iload_n 1, 1) := by decide +kernel
theorem d_Mo_covers_43 : decode b_Mo_covers 43 = .ok (.iload_n 2, 1) := by decide +kernel
theorem d_Mo_covers_44 : decode b_Mo_covers 44 = .ok (.iload 4, 2) := by decide +kernel
theorem d_Mo_covers_46 : decode b_Mo_covers 46 = .ok (.iload 5, 2) := by decide +kernel
theorem d_Mo_covers_48 : decode b_Mo_covers 48 = .ok (.invokevirtual 75, 3) := by decide +kernel
theorem d_Mo_covers_51 : decode b_Mo_covers 51 = .ok (.istore 6, 2) := by decide +kernel
theorem d_Mo_covers_53 : decode b_Mo_covers 53 = .ok (.aload_n 0, 1) := by decide +kernel
theorem d_Mo_covers_54 : decode b_Mo_covers 54 = .ok (.iload_n 2, 1) := by decide +kernel
theorem d_Mo_covers_55 : decode b_Mo_covers 55 = .ok (.iload_n 3, 1) := by decide +kernel
theorem d_Mo_covers_56 : decode b_Mo_covers 56 = .ok (.iload 4, 2) := by decide +kernel
theorem d_Mo_covers_58 : decode b_Mo_covers 58 = .ok (.iload 5, 2) := by decide +kernel
theorem d_Mo_covers_60 : decode b_Mo_covers 60 = .ok (.invokevirtual 75, 3) := by decide +kernel
theorem d_Mo_covers_63 : decode b_Mo_covers 63 = .ok (.istore 7, 2) := by decide +kernel
theorem d_Mo_covers_65 : decode b_Mo_covers 65 = .ok (.aload_n 0, 1) := by decide +kernel
theorem d_Mo_covers_66 : decode b_Mo_covers 66 = .ok (.iload_n 3, 1) := by decide +kernel
theorem d_Mo_covers_67 : decode b_Mo_covers 67 = .ok (.iload_n 1, 1) := by decide +kernel
theorem d_Mo_covers_68 : decode b_Mo_covers 68 = .ok (.iload 4, 2) := by decide +kernel
theorem d_Mo_covers_70 : decode b_Mo_covers 70 = .ok (.iload 5, 2) := by decide +kernel
theorem d_Mo_covers_72 : decode b_Mo_covers 72 = .ok (.invokevirtual 75, 3) := by decide +kernel
theorem d_Mo_covers_75 : decode b_Mo_covers 75 = .ok (.istore 8, 2) := by decide +kernel
theorem d_Mo_covers_77 : decode b_Mo_covers 77 = .ok (.iload 6, 2) := by decide +kernel
theorem d_Mo_covers_79 : decode b_Mo_covers 79 = .ok (.ifCond .le 13, 3) := by decide +kernel
theorem d_Mo_covers_82 : decode b_Mo_covers 82 = .ok (.iload 7, 2) := by decide +kernel
theorem d_Mo_covers_84 : decode b_Mo_covers 84 = .ok (.ifCond .le 8, 3) := by decide +kernel
theorem d_Mo_covers_87 : decode b_Mo_covers 87 = .ok (.iload 8, 2) := by decide +kernel
theorem d_Mo_covers_89 : decode b_Mo_covers 89 = .ok (.ifCond .gt 18, 3) := by decide +kernel
theorem d_Mo_covers_92 : decode b_Mo_covers 92 = .ok (.iload 6, 2) := by decide +kernel
theorem d_Mo_covers_94 : decode b_Mo_covers 94 = .ok (.ifCond .ge 17, 3) := by decide +kernel
theorem d_Mo_covers_97 : decode b_Mo_covers 97 = .ok (.iload 7, 2) := by decide +kernel
theorem d_Mo_covers_99 : decode b_Mo_covers 99 = .ok (.ifCond .ge 12, 3) := by decide +kernel
theorem d_Mo_covers_102 : decode b_Mo_covers 102 = .ok (.iload 8, 2) := by decide +kernel
theorem d_Mo_covers_104 : decode b_Mo_covers 104 = .ok (.ifCond .ge 7, 3) := by decide +kernel
theorem d_Mo_covers_107 : decode b_Mo_covers 107 = .ok (.iconst 1, 1) := by decide +kernel
theorem d_Mo_covers_108 : decode b_Mo_covers 108 = .ok (.goto 4, 3) := by decide +kernel
theorem d_Mo_covers_111 : decode b_Mo_covers 111 = .ok (.iconst 0, 1) := by decide +kernel
theorem d_Mo_covers_112 : decode b_Mo_covers 112 = .ok (.ireturn, 1) := by decide +kernel
theorem d_Mo_isCovered_0 : decode b_Mo_isCovered 0 = .ok (.iconst 0, 1) := by decide +kernel
theorem d_Mo_isCovered_1 : decode b_Mo_isCovered 1 = .ok (.istore 4, 2) := by decide +kernel
theorem d_Mo_isCovered_3 : decode b_Mo_isCovered 3 = .ok (.iconst 0, 1) := by decide +kernel
theorem d_Mo_isCovered_4 : decode b_Mo_isCovered 4 = .ok (.istore 5, 2) := by decide +kernel
theorem d_Mo_isCovered_6 : decode b_Mo_isCovered 6 = .ok (.iload 5, 2) := by decide +kernel
theorem d_Mo_isCovered_8 : decode b_Mo_isCovered 8 = .ok (.aload_n 0, 1) := by decide +kernel
theorem d_Mo_isCovered_9 : decode b_Mo_isCovered 9 = .ok (.getfield 69, 3) := by decide +kernel
theorem d_Mo_isCovered_12 : decode b_Mo_isCovered 12 = .ok (.if_icmp .ge 103, 3) := by decide +kernel
theorem d_Mo_isCovered_15 : decode b_Mo_isCovered 15 = .ok (.iconst 0, 1) := by decide +kernel
theorem d_Mo_isCovered_16 : decode b_Mo_isCovered 16 = .ok (.istore 6, 2) := by decide +kernel
theorem d_Mo_isCovered_18 : decode b_Mo_isCovered 18 = .ok (.iload 6, 2) := by decide +kernel
theorem d_Mo_isCovered_20 : decode b_Mo_isCovered 20 = .ok (.iload 5, 2) := by decide +kernel
theorem d_Mo_isCovered_22 : decode b_Mo_isCovered 22 = .ok (.if_icmp .gt 87, 3) := by decide +kernel
theorem d_Mo_isCovered_25 : decode b_Mo_isCovered 25 = .ok (.aload_n 0, 1) := by decide +kernel
theorem d_Mo_isCovered_26 : decode b_Mo_isCovered 26 = .ok (.iload 5, 2) := by decide +kernel
theorem d_Mo_isCovered_28 : decode b_Mo_isCovered 28 = .ok (.iload_n 3, 1) := by decide +kernel
theorem d_Mo_isCovered_29 : decode b_Mo_isCovered 29 = .ok (.invokevirtual 83, 3) := by decide +kernel
theorem d_Mo_isCovered_32 : decode b_Mo_isCovered 32 = .ok (.ifCond .eq 77, 3) := by decide +kernel
theorem d_Mo_isCovered_35 : decode b_Mo_isCovered 35 = .ok (.iload 4, 2) := by decide +kernel
theorem d_Mo_isCovered_37 : decode b_Mo_isCovered 37 = .ok (.ifCond .ne 72, 3) := by decide +kernel
theorem d_Mo_isCovered_40 : decode b_Mo_isCovered 40 = .ok (.iconst 0, 1) := by decide +kernel
theorem d_Mo_isCovered_41 : decode b_Mo_isCovered 41 = .ok (.istore 7, 2) := by decide +kernel
theorem d_Mo_isCovered_43 : decode b_Mo_isCovered 43 = .ok (.iload 7, 2) := by decide +kernel
theorem d_Mo_isCovered_45 : decode b_Mo_isCovered 45 = .ok (.iload 6, 2) := by decide +kernel
theorem d_Mo_isCovered_47 : decode b_Mo_isCovered 47 = .ok (.if_icmp .gt 56, 3) := by decide +kernel
theorem d_Mo_isCovered_50 : decode b_Mo_isCovered 50 = .ok (.aload_n 0, 1) := by decide +kernel
theorem d_Mo_isCovered_51 : decode b_Mo_isCovered 51 = .ok (.iload 6, 2) := by decide +kernel
theorem d_Mo_isCovered_53 : decode b_Mo_isCovered 53 = .ok (.iload_n 3, 1) := by decide +kernel
theorem d_Mo_isCovered_54 : decode b_Mo_isCovered 54 = .ok (.invokevirtual 83, 3) := by decide +kernel
theorem d_Mo_isCovered_57 : decode b_Mo_isCovered 57 = .ok (.ifCond .eq 46, 3) := by decide +kernel
theorem d_Mo_isCovered_60 : decode b_Mo_isCovered 60 = .ok (.iload 4, 2) := by decide +kernel
theorem d_Mo_isCovered_62 : decode b_Mo_isCovered 62 = .ok (.ifCond .ne 41, 3) := by decide +kernel
theorem d_Mo_isCovered_65 : decode b_Mo_isCovered 65 = .ok (.aload_n 0, 1) := by decide +kernel
theorem d_Mo_isCovered_66 : decode b_Mo_isCovered 66 = .ok (.iload 7, 2) := by decide +kernel
theorem d_Mo_isCovered_68 : decode b_Mo_isCovered 68 = .ok (.iload_n 3, 1) := by decide +kernel
theorem d_Mo_isCovered_69 : decode b_Mo_isCovered 69 = .ok (.invokevirtual 83, 3) := by decide +kernel
theorem d_Mo_isCovered_72 : decode b_Mo_isCovered 72 = .ok (.ifCond .eq 22, 3) := by decide +kernel
theorem d_Mo_isCovered_75 : decode b_Mo_isCovered 75 = .ok (.aload_n 0, 1) := by decide +kernel
theorem d_Mo_isCovered_76 : decode b_Mo_isCovered 76 = .ok (.iload 5, 2) := by decide +kernel
theorem d_Mo_isCovered_78 : decode b_Mo_isCovered 78 = .ok (.iload 6, 2) := by decide +kernel
theorem d_Mo_isCovered_80 : decode b_Mo_isCovered 80 = .ok (.iload 7, 2) := by decide +kernel
theorem d_Mo_isCovered_82 : decode b_Mo_isCovered 82 = .ok (.iload_n 1, 1) := by decide +kernel
theorem d_Mo_isCovered_83 : decode b_Mo_isCovered 83 = .ok (.iload_n 2, 1) := by decide +kernel
theorem d_Mo_isCovered_84 : decode b_Mo_isCovered 84 = .ok (.invokevirtual 87, 3) := by decide +kernel
theorem d_Mo_isCovered_87 : decode b_Mo_isCovered 87 = .ok (.ifCond .eq 7, 3) := by decide +kernel
theorem d_Mo_isCovered_90 : decode b_Mo_isCovered 90 = .ok (.iconst 1, 1) := by decide +kernel
theorem d_Mo_isCovered_91 : decode b_Mo_isCovered 91 = .ok (.goto 4, 3) := by decide +kernel
theorem d_Mo_isCovered_94 : decode b_Mo_isCovered 94 = .ok (.iconst 0, 1) := by decide +kernel
theorem d_Mo_isCovered_95 : decode b_Mo_isCovered 95 = .ok (.istore 4, 2) := by decide +kernel
theorem d_Mo_isCovered_97 : decode b_Mo_isCovered 97 = .ok (.iinc 7 1, 3) := by decide +kernel
theorem d_Mo_isCovered_100 : decode b_Mo_isCovered 100 = .ok (.goto (-57), 3) := by decide +kernel
theorem d_Mo_isCovered_103 : decode b_Mo_isCovered 103 = .ok (.iinc 6 1, 3) := by decide +kernel
theorem d_Mo_isCovered_106 : decode b_Mo_isCovered 106 = .ok (.goto (-88), 3) := by decide +kernel
theorem d_Mo_isCovered_109 : decode b_Mo_isCovered 109 = .ok (.iinc 5 1, 3) := by decide +kernel
theorem d_Mo_isCovered_112 : decode b_Mo_isCovered 112 = .ok (.goto (-106), 3) := by decide +kernel
theorem d_Mo_isCovered_115 : decode b_Mo_isCovered 115 = .ok (.iload 4, 2) := by decide +kernel
theorem d_Mo_isCovered_117 : decode b_Mo_isCovered 117 = .ok (.ireturn, 1) := by decide +kernel
theorem d_Mo_isCorner_0 : decode b_Mo_isCorner 0 = .ok (.aload_n 0, 1) := by decide +kernel
theorem d_Mo_isCorner_1 : decode b_Mo_isCorner 1 = .ok (.getfield 16, 3) := by decide +kernel
theorem d_Mo_isCorner_4 : decode b_Mo_isCorner 4 = .ok (.iload_n 1, 1) := by decide +kernel
theorem d_Mo_isCorner_5 : decode b_Mo_isCorner 5 = .ok (.iaload, 1) := by decide +kernel
theorem d_Mo_isCorner_6 : decode b_Mo_isCorner 6 = .ok (.ifCond .eq 27, 3) := by decide +kernel
theorem d_Mo_isCorner_9 : decode b_Mo_isCorner 9 = .ok (.aload_n 0, 1) := by decide +kernel
theorem d_Mo_isCorner_10 : decode b_Mo_isCorner 10 = .ok (.aload_n 0, 1) := by decide +kernel
theorem d_Mo_isCorner_11 : decode b_Mo_isCorner 11 = .ok (.getfield 7, 3) := by decide +kernel
theorem d_Mo_isCorner_14 : decode b_Mo_isCorner 14 = .ok (.iload_n 1, 1) := by decide +kernel
theorem d_Mo_isCorner_15 : decode b_Mo_isCorner 15 = .ok (.iaload, 1) := by decide +kernel
theorem d_Mo_isCorner_16 : decode b_Mo_isCorner 16 = .ok (.aload_n 0, 1) := by decide +kernel
theorem d_Mo_isCorner_17 : decode b_Mo_isCorner 17 = .ok (.getfield 13, 3) := by decide +kernel
theorem d_Mo_isCorner_20 : decode b_Mo_isCorner 20 = .ok (.iload_n 1, 1) := by decide +kernel
theorem d_Mo_isCorner_21 : decode b_Mo_isCorner 21 = .ok (.iaload, 1) := by decide +kernel
theorem d_Mo_isCorner_22 : decode b_Mo_isCorner 22 = .ok (.iload_n 1, 1) := by decide +kernel
theorem d_Mo_isCorner_23 : decode b_Mo_isCorner 23 = .ok (.invokevirtual 91, 3) := by decide +kernel
theorem d_Mo_isCorner_26 : decode b_Mo_isCorner 26 = .ok (.ifCond .ne 7, 3) := by decide +kernel
theorem d_Mo_isCorner_29 : decode b_Mo_isCorner 29 = .ok (.iconst 1, 1) := by decide +kernel
theorem d_Mo_isCorner_30 : decode b_Mo_isCorner 30 = .ok (.goto 4, 3) := by decide +kernel
theorem d_Mo_isCorner_33 : decode b_Mo_isCorner 33 = .ok (.iconst 0, 1) := by decide +kernel
theorem d_Mo_isCorner_34 : decode b_Mo_isCorner 34 = .ok (.ireturn, 1) := by decide +kernel
theorem d_Mo_findBasis_0 : decode b_Mo_findBasis 0 = .ok (.aload_n 0, 1) := by decide +kernel
theorem d_Mo_findBasis_1 : decode b_Mo_findBasis 1 = .ok (.iconst 0, 1) := by decide +kernel
theorem d_Mo_findBasis_2 : decode b_Mo_findBasis 2 = .ok (.putfield 95, 3) := by decide +kernel
theorem d_Mo_findBasis_5 : decode b_Mo_findBasis 5 = .ok (.iconst 0, 1) := by decide +kernel
theorem d_Mo_findBasis_6 : decode b_Mo_findBasis 6 = .ok (.istore_n 1, 1) := by decide +kernel
theorem d_Mo_findBasis_7 : decode b_Mo_findBasis 7 = .ok (.iload_n 1, 1) := by decide +kernel
theorem d_Mo_findBasis_8 : decode b_Mo_findBasis 8 = .ok (.aload_n 0, 1) := by decide +kernel
theorem d_Mo_findBasis_9 : decode b_Mo_findBasis 9 = .ok (.getfield 69, 3) := by decide +kernel
theorem d_Mo_findBasis_12 : decode b_Mo_findBasis 12 = .ok (.if_icmp .ge 53, 3) := by decide +kernel
theorem d_Mo_findBasis_15 : decode b_Mo_findBasis 15 = .ok (.aload_n 0, 1) := by decide +kernel
theorem d_Mo_findBasis_16 : decode b_Mo_findBasis 16 = .ok (.iconst 2, 1) := by decide +kernel
theorem d_Mo_findBasis_17 : decode b_Mo_findBasis 17 = .ok (.aload_n 0, 1) := by decide +kernel
theorem d_Mo_findBasis_18 : decode b_Mo_findBasis 18 = .ok (.getfield 7, 3) := by decide +kernel
theorem d_Mo_findBasis_21 : decode b_Mo_findBasis 21 = .ok (.iload_n 1, 1) := by decide +kernel
theorem d_Mo_findBasis_22 : decode b_Mo_findBasis 22 = .ok (.iaload, 1) := by decide +kernel
theorem d_Mo_findBasis_23 : decode b_Mo_findBasis 23 = .ok (.imul, 1) := by decide +kernel
theorem d_Mo_findBasis_24 : decode b_Mo_findBasis 24 = .ok (.iconst 2, 1) := by decide +kernel
theorem d_Mo_findBasis_25 : decode b_Mo_findBasis 25 = .ok (.aload_n 0, 1) := by decide +kernel
theorem d_Mo_findBasis_26 : decode b_Mo_findBasis 26 = .ok (.getfield 13, 3) := by decide +kernel
theorem d_Mo_findBasis_29 : decode b_Mo_findBasis 29 = .ok (.iload_n 1, 1) := by decide +kernel
theorem d_Mo_findBasis_30 : decode b_Mo_findBasis 30 = .ok (.iaload, 1) := by decide +kernel
theorem d_Mo_findBasis_31 : decode b_Mo_findBasis 31 = .ok (.imul, 1) := by decide +kernel
theorem d_Mo_findBasis_32 : decode b_Mo_findBasis 32 = .ok (.iconst (-1), 1) := by decide +kernel
theorem d_Mo_findBasis_33 : decode b_Mo_findBasis 33 = .ok (.invokevirtual 91, 3) := by decide +kernel
theorem d_Mo_findBasis_36 : decode b_Mo_findBasis 36 = .ok (.ifCond .eq 23, 3) := by decide +kernel
theorem d_Mo_findBasis_39 : decode b_Mo_findBasis 39 = .ok (.aload_n 0, 1) := by decide +kernel
theorem d_Mo_findBasis_40 : decode b_Mo_findBasis 40 = .ok (.getfield 19, 3) := by decide +kernel
theorem d_Mo_findBasis_43 : decode b_Mo_findBasis 43 = .ok (.aload_n 0, 1) := by decide +kernel
theorem d_Mo_findBasis_44 : decode b_Mo_findBasis 44 = .ok (.getfield 95, 3) := by decide +kernel
theorem d_Mo_findBasis_47 : decode b_Mo_findBasis 47 = .ok (.iload_n 1, 1) := by decide +kernel
theorem d_Mo_findBasis_48 : decode b_Mo_findBasis 48 = .ok (.iastore, 1) := by decide +kernel
theorem d_Mo_findBasis_49 : decode b_Mo_findBasis 49 = .ok (.aload_n 0, 1) := by decide +kernel
theorem d_Mo_findBasis_50 : decode b_Mo_findBasis 50 = .ok (.dup, 1) := by decide +kernel
theorem d_Mo_findBasis_51 : decode b_Mo_findBasis 51 = .ok (.getfield 95, 3) := by decide +kernel
theorem d_Mo_findBasis_54 : decode b_Mo_findBasis 54 = .ok (.iconst 1, 1) := by decide +kernel
theorem d_Mo_findBasis_55 : decode b_Mo_findBasis 55 = .ok (.iadd, 1) := by decide +kernel
theorem d_Mo_findBasis_56 : decode b_Mo_findBasis 56 = .ok (.putfield 95, 3) := by decide +kernel
theorem d_Mo_findBasis_59 : decode b_Mo_findBasis 59 = .ok (.iinc 1 1, 3) := by decide +kernel
theorem d_Mo_findBasis_62 : decode b_Mo_findBasis 62 = .ok (.goto (-55), 3) := by decide +kernel
theorem d_Mo_findBasis_65 : decode b_Mo_findBasis 65 = .ok (.return_, 1) := by decide +kernel
theorem d_Mo_begin_0 : decode b_Mo_begin 0 = .ok (.aload_n 0, 1) := by decide +kernel
theorem d_Mo_begin_1 : decode b_Mo_begin 1 = .ok (.invokevirtual 98, 3) := by decide +kernel
theorem d_Mo_begin_4 : decode b_Mo_begin 4 = .ok (.iconst 0, 1) := by decide +kernel
theorem d_Mo_begin_5 : decode b_Mo_begin 5 = .ok (.istore_n 1, 1) := by decide +kernel
theorem d_Mo_begin_6 : decode b_Mo_begin 6 = .ok (.iload_n 1, 1) := by decide +kernel
theorem d_Mo_begin_7 : decode b_Mo_begin 7 = .ok (.bipush 36, 2) := by decide +kernel
theorem d_Mo_begin_9 : decode b_Mo_begin 9 = .ok (.if_icmp .ge 16, 3) := by decide +kernel
theorem d_Mo_begin_12 : decode b_Mo_begin 12 = .ok (.aload_n 0, 1) := by decide +kernel
theorem d_Mo_begin_13 : decode b_Mo_begin 13 = .ok (.getfield 22, 3) := by decide +kernel
theorem d_Mo_begin_16 : decode b_Mo_begin 16 = .ok (.iload_n 1, 1) := by decide +kernel
theorem d_Mo_begin_17 : decode b_Mo_begin 17 = .ok (.iconst 0, 1) := by decide +kernel
theorem d_Mo_begin_18 : decode b_Mo_begin 18 = .ok (.iastore, 1) := by decide +kernel
theorem d_Mo_begin_19 : decode b_Mo_begin 19 = .ok (.iinc 1 1, 3) := by decide +kernel
theorem d_Mo_begin_22 : decode b_Mo_begin 22 = .ok (.goto (-16), 3) := by decide +kernel
theorem d_Mo_begin_25 : decode b_Mo_begin 25 = .ok (.aload_n 0, 1) := by decide +kernel
theorem d_Mo_begin_26 : decode b_Mo_begin 26 = .ok (.iconst 0, 1) := by decide +kernel
theorem d_Mo_begin_27 : decode b_Mo_begin 27 = .ok (.putfield 101, 3) := by decide +kernel
theorem d_Mo_begin_30 : decode b_Mo_begin 30 = .ok (.return_, 1) := by decide +kernel
theorem d_Mo_term_0 : decode b_Mo_term 0 = .ok (.aload_n 0, 1) := by decide +kernel
theorem d_Mo_term_1 : decode b_Mo_term 1 = .ok (.iload_n 1, 1) := by decide +kernel
theorem d_Mo_term_2 : decode b_Mo_term 2 = .ok (.iload_n 2, 1) := by decide +kernel
theorem d_Mo_term_3 : decode b_Mo_term 3 = .ok (.invokevirtual 105, 3) := by decide +kernel
theorem d_Mo_term_6 : decode b_Mo_term 6 = .ok (.istore 4, 2) := by decide +kernel
theorem d_Mo_term_8 : decode b_Mo_term 8 = .ok (.aload_n 0, 1) := by decide +kernel
theorem d_Mo_term_9 : decode b_Mo_term 9 = .ok (.iload 4, 2) := by decide +kernel
theorem d_Mo_term_11 : decode b_Mo_term 11 = .ok (.ifCond .lt 15, 3) := by decide +kernel
theorem d_Mo_term_14 : decode b_Mo_term 14 = .ok (.iload_n 3, 1) := by decide +kernel
theorem d_Mo_term_15 : decode b_Mo_term 15 = .ok (.bipush (-15), 2) := by decide +kernel
theorem d_Mo_term_17 : decode b_Mo_term 17 = .ok (.if_icmp .lt 9, 3) := by decide +kernel
theorem d_Mo_term_20 : decode b_Mo_term 20 = .ok (.iload_n 3, 1) := by decide +kernel
theorem d_Mo_term_21 : decode b_Mo_term 21 = .ok (.bipush 15, 2) := by decide +kernel
theorem d_Mo_term_23 : decode b_Mo_term 23 = .ok (.if_icmp .le 7, 3) := by decide +kernel
theorem d_Mo_term_26 : decode b_Mo_term 26 = .ok (.iconst 1, 1) := by decide +kernel
theorem d_Mo_term_27 : decode b_Mo_term 27 = .ok (.goto 4, 3) := by decide +kernel
theorem d_Mo_term_30 : decode b_Mo_term 30 = .ok (.iconst 0, 1) := by decide +kernel
theorem d_Mo_term_31 : decode b_Mo_term 31 = .ok (.iconst 0, 1) := by decide +kernel
theorem d_Mo_term_32 : decode b_Mo_term 32 = .ok (.iconst 0, 1) := by decide +kernel
theorem d_Mo_term_33 : decode b_Mo_term 33 = .ok (.invokevirtual 109, 3) := by decide +kernel
theorem d_Mo_term_36 : decode b_Mo_term 36 = .ok (.ifCond .eq 5, 3) := by decide +kernel
theorem d_Mo_term_39 : decode b_Mo_term 39 = .ok (.iconst 0, 1) := by decide +kernel
theorem d_Mo_term_40 : decode b_Mo_term 40 = .ok (.ireturn, 1) := by decide +kernel
theorem d_Mo_term_41 : decode b_Mo_term 41 = .ok (.aload_n 0, 1) := by decide +kernel
theorem d_Mo_term_42 : decode b_Mo_term 42 = .ok (.getfield 16, 3) := by decide +kernel
theorem d_Mo_term_45 : decode b_Mo_term 45 = .ok (.iload 4, 2) := by decide +kernel
theorem d_Mo_term_47 : decode b_Mo_term 47 = .ok (.iaload, 1) := by decide +kernel
theorem d_Mo_term_48 : decode b_Mo_term 48 = .ok (.iload_n 3, 1) := by decide +kernel
theorem d_Mo_term_49 : decode b_Mo_term 49 = .ok (.if_icmp .ne 5, 3) := by decide +kernel
theorem d_Mo_term_52 : decode b_Mo_term 52 = .ok (.iconst 0, 1) := by decide +kernel
theorem d_Mo_term_53 : decode b_Mo_term 53 = .ok (.ireturn, 1) := by decide +kernel
theorem d_Mo_term_54 : decode b_Mo_term 54 = .ok (.aload_n 0, 1) := by decide +kernel
theorem d_Mo_term_55 : decode b_Mo_term 55 = .ok (.getfield 16, 3) := by decide +kernel
theorem d_Mo_term_58 : decode b_Mo_term 58 = .ok (.iload 4, 2) := by decide +kernel
theorem d_Mo_term_60 : decode b_Mo_term 60 = .ok (.iload_n 3, 1) := by decide +kernel
theorem d_Mo_term_61 : decode b_Mo_term 61 = .ok (.iastore, 1) := by decide +kernel
theorem d_Mo_term_62 : decode b_Mo_term 62 = .ok (.aload_n 0, 1) := by decide +kernel
theorem d_Mo_term_63 : decode b_Mo_term 63 = .ok (.invokevirtual 113, 3) := by decide +kernel
theorem d_Mo_term_66 : decode b_Mo_term 66 = .ok (.iconst 1, 1) := by decide +kernel
theorem d_Mo_term_67 : decode b_Mo_term 67 = .ok (.ireturn, 1) := by decide +kernel
theorem d_Mo_clear_0 : decode b_Mo_clear 0 = .ok (.aload_n 0, 1) := by decide +kernel
theorem d_Mo_clear_1 : decode b_Mo_clear 1 = .ok (.iconst 0, 1) := by decide +kernel
theorem d_Mo_clear_2 : decode b_Mo_clear 2 = .ok (.putfield 72, 3) := by decide +kernel
theorem d_Mo_clear_5 : decode b_Mo_clear 5 = .ok (.iconst 0, 1) := by decide +kernel
theorem d_Mo_clear_6 : decode b_Mo_clear 6 = .ok (.istore_n 1, 1) := by decide +kernel
theorem d_Mo_clear_7 : decode b_Mo_clear 7 = .ok (.iload_n 1, 1) := by decide +kernel
theorem d_Mo_clear_8 : decode b_Mo_clear 8 = .ok (.bipush 15, 2) := by decide +kernel
theorem d_Mo_clear_10 : decode b_Mo_clear 10 = .ok (.if_icmp .ge 16, 3) := by decide +kernel
theorem d_Mo_clear_13 : decode b_Mo_clear 13 = .ok (.aload_n 0, 1) := by decide +kernel
theorem d_Mo_clear_14 : decode b_Mo_clear 14 = .ok (.getfield 16, 3) := by decide +kernel
theorem d_Mo_clear_17 : decode b_Mo_clear 17 = .ok (.iload_n 1, 1) := by decide +kernel
theorem d_Mo_clear_18 : decode b_Mo_clear 18 = .ok (.iconst 0, 1) := by decide +kernel
theorem d_Mo_clear_19 : decode b_Mo_clear 19 = .ok (.iastore, 1) := by decide +kernel
theorem d_Mo_clear_20 : decode b_Mo_clear 20 = .ok (.iinc 1 1, 3) := by decide +kernel
theorem d_Mo_clear_23 : decode b_Mo_clear 23 = .ok (.goto (-16), 3) := by decide +kernel
theorem d_Mo_clear_26 : decode b_Mo_clear 26 = .ok (.aload_n 0, 1) := by decide +kernel
theorem d_Mo_clear_27 : decode b_Mo_clear 27 = .ok (.invokevirtual 113, 3) := by decide +kernel
theorem d_Mo_clear_30 : decode b_Mo_clear 30 = .ok (.return_, 1) := by decide +kernel
theorem d_Mo_basis_0 : decode b_Mo_basis 0 = .ok (.aload_n 0, 1) := by decide +kernel
theorem d_Mo_basis_1 : decode b_Mo_basis 1 = .ok (.iconst 0, 1) := by decide +kernel
theorem d_Mo_basis_2 : decode b_Mo_basis 2 = .ok (.putfield 72, 3) := by decide +kernel
theorem d_Mo_basis_5 : decode b_Mo_basis 5 = .ok (.iconst 0, 1) := by decide +kernel
theorem d_Mo_basis_6 : decode b_Mo_basis 6 = .ok (.istore_n 1, 1) := by decide +kernel
theorem d_Mo_basis_7 : decode b_Mo_basis 7 = .ok (.iload_n 1, 1) := by decide +kernel
theorem d_Mo_basis_8 : decode b_Mo_basis 8 = .ok (.aload_n 0, 1) := by decide +kernel
theorem d_Mo_basis_9 : decode b_Mo_basis 9 = .ok (.getfield 69, 3) := by decide +kernel
theorem d_Mo_basis_12 : decode b_Mo_basis 12 = .ok (.if_icmp .ge 52, 3) := by decide +kernel
theorem d_Mo_basis_15 : decode b_Mo_basis 15 = .ok (.aload_n 0, 1) := by decide +kernel
theorem d_Mo_basis_16 : decode b_Mo_basis 16 = .ok (.iload_n 1, 1) := by decide +kernel
theorem d_Mo_basis_17 : decode b_Mo_basis 17 = .ok (.invokevirtual 116, 3) := by decide +kernel
theorem d_Mo_basis_20 : decode b_Mo_basis 20 = .ok (.ifCond .eq 38, 3) := by decide +kernel
theorem d_Mo_basis_23 : decode b_Mo_basis 23 = .ok (.aload_n 0, 1) := by decide +kernel
theorem d_Mo_basis_24 : decode b_Mo_basis 24 = .ok (.getfield 7, 3) := by decide +kernel
theorem d_Mo_basis_27 : decode b_Mo_basis 27 = .ok (.iload_n 1, 1) := by decide +kernel
theorem d_Mo_basis_28 : decode b_Mo_basis 28 = .ok (.iaload, 1) := by decide +kernel
theorem d_Mo_basis_29 : decode b_Mo_basis 29 = .ok (.iconst 2, 1) := by decide +kernel
theorem d_Mo_basis_30 : decode b_Mo_basis 30 = .ok (.irem, 1) := by decide +kernel
theorem d_Mo_basis_31 : decode b_Mo_basis 31 = .ok (.iconst 1, 1) := by decide +kernel
theorem d_Mo_basis_32 : decode b_Mo_basis 32 = .ok (.if_icmp .eq 24, 3) := by decide +kernel
theorem d_Mo_basis_35 : decode b_Mo_basis 35 = .ok (.aload_n 0, 1) := by decide +kernel
theorem d_Mo_basis_36 : decode b_Mo_basis 36 = .ok (.getfield 13, 3) := by decide +kernel
theorem d_Mo_basis_39 : decode b_Mo_basis 39 = .ok (.iload_n 1, 1) := by decide +kernel
theorem d_Mo_basis_40 : decode b_Mo_basis 40 = .ok (.iaload, 1) := by decide +kernel
theorem d_Mo_basis_41 : decode b_Mo_basis 41 = .ok (.iconst 2, 1) := by decide +kernel
theorem d_Mo_basis_42 : decode b_Mo_basis 42 = .ok (.irem, 1) := by decide +kernel
theorem d_Mo_basis_43 : decode b_Mo_basis 43 = .ok (.iconst 1, 1) := by decide +kernel
theorem d_Mo_basis_44 : decode b_Mo_basis 44 = .ok (.if_icmp .eq 12, 3) := by decide +kernel
theorem d_Mo_basis_47 : decode b_Mo_basis 47 = .ok (.aload_n 0, 1) := by decide +kernel
theorem d_Mo_basis_48 : decode b_Mo_basis 48 = .ok (.getfield 16, 3) := by decide +kernel
theorem d_Mo_basis_51 : decode b_Mo_basis 51 = .ok (.iload_n 1, 1) := by decide +kernel
theorem d_Mo_basis_52 : decode b_Mo_basis 52 = .ok (.iaload, 1) := by decide +kernel
theorem d_Mo_basis_53 : decode b_Mo_basis 53 = .ok (.ifCond .ge 5, 3) := by decide +kernel
theorem d_Mo_basis_56 : decode b_Mo_basis 56 = .ok (.iconst (-1), 1) := by decide +kernel
theorem d_Mo_basis_57 : decode b_Mo_basis 57 = .ok (.ireturn, 1) := by decide +kernel
theorem d_Mo_basis_58 : decode b_Mo_basis 58 = .ok (.iinc 1 1, 3) := by decide +kernel
theorem d_Mo_basis_61 : decode b_Mo_basis 61 = .ok (.goto (-54), 3) := by decide +kernel
theorem d_Mo_basis_64 : decode b_Mo_basis 64 = .ok (.aload_n 0, 1) := by decide +kernel
theorem d_Mo_basis_65 : decode b_Mo_basis 65 = .ok (.getfield 95, 3) := by decide +kernel
theorem d_Mo_basis_68 : decode b_Mo_basis 68 = .ok (.ireturn, 1) := by decide +kernel
theorem d_Mo_isOut_0 : decode b_Mo_isOut 0 = .ok (.iload_n 1, 1) := by decide +kernel
theorem d_Mo_isOut_1 : decode b_Mo_isOut 1 = .ok (.ifCond .lt 11, 3) := by decide +kernel
theorem d_Mo_isOut_4 : decode b_Mo_isOut 4 = .ok (.iload_n 1, 1) := by decide +kernel
theorem d_Mo_isOut_5 : decode b_Mo_isOut 5 = .ok (.aload_n 0, 1) := by decide +kernel
theorem d_Mo_isOut_6 : decode b_Mo_isOut 6 = .ok (.getfield 95, 3) := by decide +kernel
theorem d_Mo_isOut_9 : decode b_Mo_isOut 9 = .ok (.if_icmp .lt 7, 3) := by decide +kernel
theorem d_Mo_isOut_12 : decode b_Mo_isOut 12 = .ok (.iconst 1, 1) := by decide +kernel
theorem d_Mo_isOut_13 : decode b_Mo_isOut 13 = .ok (.goto 4, 3) := by decide +kernel
theorem d_Mo_isOut_16 : decode b_Mo_isOut 16 = .ok (.iconst 0, 1) := by decide +kernel
theorem d_Mo_isOut_17 : decode b_Mo_isOut 17 = .ok (.ireturn, 1) := by decide +kernel
theorem d_Mo_member_0 : decode b_Mo_member 0 = .ok (.aload_n 0, 1) := by decide +kernel
theorem d_Mo_member_1 : decode b_Mo_member 1 = .ok (.aload_n 0, 1) := by decide +kernel
theorem d_Mo_member_2 : decode b_Mo_member 2 = .ok (.iload_n 1, 1) := by decide +kernel
theorem d_Mo_member_3 : decode b_Mo_member 3 = .ok (.invokevirtual 120, 3) := by decide +kernel
theorem d_Mo_member_6 : decode b_Mo_member 6 = .ok (.iload_n 2, 1) := by decide +kernel
theorem d_Mo_member_7 : decode b_Mo_member 7 = .ok (.ifCond .lt 8, 3) := by decide +kernel
theorem d_Mo_member_10 : decode b_Mo_member 10 = .ok (.iload_n 2, 1) := by decide +kernel
theorem d_Mo_member_11 : decode b_Mo_member 11 = .ok (.iconst 1, 1) := by decide +kernel
theorem d_Mo_member_12 : decode b_Mo_member 12 = .ok (.if_icmp .le 7, 3) := by decide +kernel
theorem d_Mo_member_15 : decode b_Mo_member 15 = .ok (.iconst 1, 1) := by decide +kernel
theorem d_Mo_member_16 : decode b_Mo_member 16 = .ok (.goto 4, 3) := by decide +kernel
theorem d_Mo_member_19 : decode b_Mo_member 19 = .ok (.iconst 0, 1) := by decide +kernel
theorem d_Mo_member_20 : decode b_Mo_member 20 = .ok (.iconst 0, 1) := by decide +kernel
theorem d_Mo_member_21 : decode b_Mo_member 21 = .ok (.invokevirtual 109, 3) := by decide +kernel
theorem d_Mo_member_24 : decode b_Mo_member 24 = .ok (.ifCond .eq 5, 3) := by decide +kernel
theorem d_Mo_member_27 : decode b_Mo_member 27 = .ok (.iconst 0, 1) := by decide +kernel
theorem d_Mo_member_28 : decode b_Mo_member 28 = .ok (.ireturn, 1) := by decide +kernel
theorem d_Mo_member_29 : decode b_Mo_member 29 = .ok (.iload_n 2, 1) := by decide +kernel
theorem d_Mo_member_30 : decode b_Mo_member 30 = .ok (.ifCond .ne 17, 3) := by decide +kernel
theorem d_Mo_member_33 : decode b_Mo_member 33 = .ok (.aload_n 0, 1) := by decide +kernel
theorem d_Mo_member_34 : decode b_Mo_member 34 = .ok (.getfield 7, 3) := by decide +kernel
theorem d_Mo_member_37 : decode b_Mo_member 37 = .ok (.aload_n 0, 1) := by decide +kernel
theorem d_Mo_member_38 : decode b_Mo_member 38 = .ok (.getfield 19, 3) := by decide +kernel
theorem d_Mo_member_41 : decode b_Mo_member 41 = .ok (.iload_n 1, 1) := by decide +kernel
theorem d_Mo_member_42 : decode b_Mo_member 42 = .ok (.iaload, 1) := by decide +kernel
theorem d_Mo_member_43 : decode b_Mo_member 43 = .ok (.iaload, 1) := by decide +kernel
theorem d_Mo_member_44 : decode b_Mo_member 44 = .ok (.goto 14, 3) := by decide +kernel
theorem d_Mo_member_47 : decode b_Mo_member 47 = .ok (.aload_n 0, 1) := by decide +kernel
theorem d_Mo_member_48 : decode b_Mo_member 48 = .ok (.getfield 13, 3) := by decide +kernel
theorem d_Mo_member_51 : decode b_Mo_member 51 = .ok (.aload_n 0, 1) := by decide +kernel
theorem d_Mo_member_52 : decode b_Mo_member 52 = .ok (.getfield 19, 3) := by decide +kernel
theorem d_Mo_member_55 : decode b_Mo_member 55 = .ok (.iload_n 1, 1) := by decide +kernel
theorem d_Mo_member_56 : decode b_Mo_member 56 = .ok (.iaload, 1) := by decide +kernel
theorem d_Mo_member_57 : decode b_Mo_member 57 = .ok (.iaload, 1) := by decide +kernel
theorem d_Mo_member_58 : decode b_Mo_member 58 = .ok (.ireturn, 1) := by decide +kernel
theorem d_Mo_raised_0 : decode b_Mo_raised 0 = .ok (.lconst 1, 1) := by decide +kernel
theorem d_Mo_raised_1 : decode b_Mo_raised 1 = .ok (.lstore_n 2, 1) := by decide +kernel
theorem d_Mo_raised_2 : decode b_Mo_raised 2 = .ok (.iconst 0, 1) := by decide +kernel
theorem d_Mo_raised_3 : decode b_Mo_raised 3 = .ok (.istore 4, 2) := by decide +kernel
theorem d_Mo_raised_5 : decode b_Mo_raised 5 = .ok (.iload 4, 2) := by decide +kernel
theorem d_Mo_raised_7 : decode b_Mo_raised 7 = .ok (.iload_n 1, 1) := by decide +kernel
theorem d_Mo_raised_8 : decode b_Mo_raised 8 = .ok (.if_icmp .ge 14, 3) := by decide +kernel
theorem d_Mo_raised_11 : decode b_Mo_raised 11 = .ok (.lload_n 2, 1) := by decide +kernel
theorem d_Mo_raised_12 : decode b_Mo_raised 12 = .ok (.iload_n 0, 1) := by decide +kernel
theorem d_Mo_raised_13 : decode b_Mo_raised 13 = .ok (.i2l, 1) := by decide +kernel
theorem d_Mo_raised_14 : decode b_Mo_raised 14 = .ok (.lmul, 1) := by decide +kernel
theorem d_Mo_raised_15 : decode b_Mo_raised 15 = .ok (.lstore_n 2, 1) := by decide +kernel
theorem d_Mo_raised_16 : decode b_Mo_raised 16 = .ok (.iinc 4 1, 3) := by decide +kernel
theorem d_Mo_raised_19 : decode b_Mo_raised 19 = .ok (.goto (-14), 3) := by decide +kernel
theorem d_Mo_raised_22 : decode b_Mo_raised 22 = .ok (.lload_n 2, 1) := by decide +kernel
theorem d_Mo_raised_23 : decode b_Mo_raised 23 = .ok (.lreturn, 1) := by decide +kernel
theorem d_Mo_isFar_0 : decode b_Mo_isFar 0 = .ok (.iload_n 0, 1) := by decide +kernel
theorem d_Mo_isFar_1 : decode b_Mo_isFar 1 = .ok (.bipush (-100), 2) := by decide +kernel
theorem d_Mo_isFar_3 : decode b_Mo_isFar 3 = .ok (.if_icmp .lt 9, 3) := by decide +kernel
theorem d_Mo_isFar_6 : decode b_Mo_isFar 6 = .ok (.iload_n 0, 1) := by decide +kernel
theorem d_Mo_isFar_7 : decode b_Mo_isFar 7 = .ok (.bipush 100, 2) := by decide +kernel
theorem d_Mo_isFar_9 : decode b_Mo_isFar 9 = .ok (.if_icmp .le 7, 3) := by decide +kernel
theorem d_Mo_isFar_12 : decode b_Mo_isFar 12 = .ok (.iconst 1, 1) := by decide +kernel
theorem d_Mo_isFar_13 : decode b_Mo_isFar 13 = .ok (.goto 4, 3) := by decide +kernel
theorem d_Mo_isFar_16 : decode b_Mo_isFar 16 = .ok (.iconst 0, 1) := by decide +kernel
theorem d_Mo_isFar_17 : decode b_Mo_isFar 17 = .ok (.ireturn, 1) := by decide +kernel
theorem d_Mo_value_0 : decode b_Mo_value 0 = .ok (.aload_n 0, 1) := by decide +kernel
theorem d_Mo_value_1 : decode b_Mo_value 1 = .ok (.iload_n 1, 1) := by decide +kernel
theorem d_Mo_value_2 : decode b_Mo_value 2 = .ok (.invokestatic 123, 3) := by decide +kernel
theorem d_Mo_value_5 : decode b_Mo_value 5 = .ok (.ifCond .ne 18, 3) := by decide +kernel
theorem d_Mo_value_8 : decode b_Mo_value 8 = .ok (.aload_n 0, 1) := by decide +kernel
theorem d_Mo_value_9 : decode b_Mo_value 9 = .ok (.getfield 65, 3) := by decide +kernel
theorem d_Mo_value_12 : decode b_Mo_value 12 = .ok (.iconst 2, 1) := by decide +kernel
theorem d_Mo_value_13 : decode b_Mo_value 13 = .ok (.if_icmp .ne 14, 3) := by decide +kernel
theorem d_Mo_value_16 : decode b_Mo_value 16 = .ok (.iload_n 2, 1) := by decide +kernel
theorem d_Mo_value_17 : decode b_Mo_value 17 = .ok (.invokestatic 123, 3) := by decide +kernel
theorem d_Mo_value_20 : decode b_Mo_value 20 = .ok (.ifCond .eq 7, 3) := by decide +kernel
theorem d_Mo_value_23 : decode b_Mo_value 23 = .ok (.iconst 1, 1) := by decide +kernel
theorem d_Mo_value_24 : decode b_Mo_value 24 = .ok (.goto 4, 3) := by decide +kernel
theorem d_Mo_value_27 : decode b_Mo_value 27 = .ok (.iconst 0, 1) := by decide +kernel
theorem d_Mo_value_28 : decode b_Mo_value 28 = .ok (.iconst 0, 1) := by decide +kernel
theorem d_Mo_value_29 : decode b_Mo_value 29 = .ok (.iconst 0, 1) := by decide +kernel
theorem d_Mo_value_30 : decode b_Mo_value 30 = .ok (.invokevirtual 109, 3) := by decide +kernel
theorem d_Mo_value_33 : decode b_Mo_value 33 = .ok (.ifCond .eq 5, 3) := by decide +kernel
theorem d_Mo_value_36 : decode b_Mo_value 36 = .ok (.lconst 0, 1) := by decide +kernel
theorem d_Mo_value_37 : decode b_Mo_value 37 = .ok (.lreturn, 1) := by decide +kernel
theorem d_Mo_value_38 : decode b_Mo_value 38 = .ok (.lconst 0, 1) := by decide +kernel
theorem d_Mo_value_39 : decode b_Mo_value 39 = .ok (.lstore_n 3, 1) := by decide +kernel
theorem d_Mo_value_40 : decode b_Mo_value 40 = .ok (.iconst 0, 1) := by decide +kernel
theorem d_Mo_value_41 : decode b_Mo_value 41 = .ok (.istore 5, 2) := by decide +kernel
theorem d_Mo_value_43 : decode b_Mo_value 43 = .ok (.iload 5, 2) := by decide +kernel
theorem d_Mo_value_45 : decode b_Mo_value 45 = .ok (.aload_n 0, 1) := by decide +kernel
theorem d_Mo_value_46 : decode b_Mo_value 46 = .ok (.getfield 69, 3) := by decide +kernel
theorem d_Mo_value_49 : decode b_Mo_value 49 = .ok (.if_icmp .ge 56, 3) := by decide +kernel
theorem d_Mo_value_52 : decode b_Mo_value 52 = .ok (.lload_n 3, 1) := by decide +kernel
theorem d_Mo_value_53 : decode b_Mo_value 53 = .ok (.aload_n 0, 1) := by decide +kernel
theorem d_Mo_value_54 : decode b_Mo_value 54 = .ok (.getfield 16, 3) := by decide +kernel
theorem d_Mo_value_57 : decode b_Mo_value 57 = .ok (.iload 5, 2) := by decide +kernel
theorem d_Mo_value_59 : decode b_Mo_value 59 = .ok (.iaload, 1) := by decide +kernel
theorem d_Mo_value_60 : decode b_Mo_value 60 = .ok (.i2l, 1) := by decide +kernel
theorem d_Mo_value_61 : decode b_Mo_value 61 = .ok (.iload_n 1, 1) := by decide +kernel
theorem d_Mo_value_62 : decode b_Mo_value 62 = .ok (.aload_n 0, 1) := by decide +kernel
theorem d_Mo_value_63 : decode b_Mo_value 63 = .ok (.getfield 7, 3) := by decide +kernel
theorem d_Mo_value_66 : decode b_Mo_value 66 = .ok (.iload 5, 2) := by decide +kernel
theorem d_Mo_value_68 : decode b_Mo_value 68 = .ok (.iaload, 1) := by decide +kernel
theorem d_Mo_value_69 : decode b_Mo_value 69 = .ok (.invokestatic 126, 3) := by decide +kernel
theorem d_Mo_value_72 : decode b_Mo_value 72 = .ok (.lmul, 1) := by decide +kernel
theorem d_Mo_value_73 : decode b_Mo_value 73 = .ok (.aload_n 0, 1) := by decide +kernel
theorem d_Mo_value_74 : decode b_Mo_value 74 = .ok (.getfield 65, 3) := by decide +kernel
theorem d_Mo_value_77 : decode b_Mo_value 77 = .ok (.iconst 2, 1) := by decide +kernel
theorem d_Mo_value_78 : decode b_Mo_value 78 = .ok (.if_icmp .ne 7, 3) := by decide +kernel
theorem d_Mo_value_81 : decode b_Mo_value 81 = .ok (.iload_n 2, 1) := by decide +kernel
theorem d_Mo_value_82 : decode b_Mo_value 82 = .ok (.goto 4, 3) := by decide +kernel
theorem d_Mo_value_85 : decode b_Mo_value 85 = .ok (.iconst 1, 1) := by decide +kernel
theorem d_Mo_value_86 : decode b_Mo_value 86 = .ok (.aload_n 0, 1) := by decide +kernel
theorem d_Mo_value_87 : decode b_Mo_value 87 = .ok (.getfield 13, 3) := by decide +kernel
theorem d_Mo_value_90 : decode b_Mo_value 90 = .ok (.iload 5, 2) := by decide +kernel
theorem d_Mo_value_92 : decode b_Mo_value 92 = .ok (.iaload, 1) := by decide +kernel
theorem d_Mo_value_93 : decode b_Mo_value 93 = .ok (.invokestatic 126, 3) := by decide +kernel
theorem d_Mo_value_96 : decode b_Mo_value 96 = .ok (.lmul, 1) := by decide +kernel
theorem d_Mo_value_97 : decode b_Mo_value 97 = .ok (.ladd, 1) := by decide +kernel
theorem d_Mo_value_98 : decode b_Mo_value 98 = .ok (.lstore_n 3, 1) := by decide +kernel
theorem d_Mo_value_99 : decode b_Mo_value 99 = .ok (.iinc 5 1, 3) := by decide +kernel
theorem d_Mo_value_102 : decode b_Mo_value 102 = .ok (.goto (-59), 3) := by decide +kernel
theorem d_Mo_value_105 : decode b_Mo_value 105 = .ok (.lload_n 3, 1) := by decide +kernel
theorem d_Mo_value_106 : decode b_Mo_value 106 = .ok (.lreturn, 1) := by decide +kernel
theorem d_Mo_count_0 : decode b_Mo_count 0 = .ok (.aload_n 0, 1) := by decide +kernel
theorem d_Mo_count_1 : decode b_Mo_count 1 = .ok (.iconst 0, 1) := by decide +kernel
theorem d_Mo_count_2 : decode b_Mo_count 2 = .ok (.putfield 72, 3) := by decide +kernel
theorem d_Mo_count_5 : decode b_Mo_count 5 = .ok (.iconst 0, 1) := by decide +kernel
theorem d_Mo_count_6 : decode b_Mo_count 6 = .ok (.istore_n 2, 1) := by decide +kernel
theorem d_Mo_count_7 : decode b_Mo_count 7 = .ok (.iconst 0, 1) := by decide +kernel
theorem d_Mo_count_8 : decode b_Mo_count 8 = .ok (.istore_n 3, 1) := by decide +kernel
theorem d_Mo_count_9 : decode b_Mo_count 9 = .ok (.iconst 0, 1) := by decide +kernel
theorem d_Mo_count_10 : decode b_Mo_count 10 = .ok (.istore 4, 2) := by decide +kernel
theorem d_Mo_count_12 : decode b_Mo_count 12 = .ok (.iload 4, 2) := by decide +kernel
theorem d_Mo_count_14 : decode b_Mo_count 14 = .ok (.aload_n 0, 1) := by decide +kernel
theorem d_Mo_count_15 : decode b_Mo_count 15 = .ok (.getfield 69, 3) := by decide +kernel
theorem d_Mo_count_18 : decode b_Mo_count 18 = .ok (.if_icmp .ge 44, 3) := by decide +kernel
theorem d_Mo_count_21 : decode b_Mo_count 21 = .ok (.iload_n 2, 1) := by decide +kernel
theorem d_Mo_count_22 : decode b_Mo_count 22 = .ok (.aload_n 0, 1) := by decide +kernel
theorem d_Mo_count_23 : decode b_Mo_count 23 = .ok (.getfield 16, 3) := by decide +kernel
theorem d_Mo_count_26 : decode b_Mo_count 26 = .ok (.iload 4, 2) := by decide +kernel
theorem d_Mo_count_28 : decode b_Mo_count 28 = .ok (.iaload, 1) := by decide +kernel
theorem d_Mo_count_29 : decode b_Mo_count 29 = .ok (.ifCond .eq 7, 3) := by decide +kernel
theorem d_Mo_count_32 : decode b_Mo_count 32 = .ok (.iconst 1, 1) := by decide +kernel
theorem d_Mo_count_33 : decode b_Mo_count 33 = .ok (.goto 4, 3) := by decide +kernel
theorem d_Mo_count_36 : decode b_Mo_count 36 = .ok (.iconst 0, 1) := by decide +kernel
theorem d_Mo_count_37 : decode b_Mo_count 37 = .ok (.iadd, 1) := by decide +kernel
theorem d_Mo_count_38 : decode b_Mo_count 38 = .ok (.istore_n 2, 1) := by decide +kernel
theorem d_Mo_count_39 : decode b_Mo_count 39 = .ok (.iload_n 3, 1) := by decide +kernel
theorem d_Mo_count_40 : decode b_Mo_count 40 = .ok (.aload_n 0, 1) := by decide +kernel
theorem d_Mo_count_41 : decode b_Mo_count 41 = .ok (.iload 4, 2) := by decide +kernel
theorem d_Mo_count_43 : decode b_Mo_count 43 = .ok (.invokevirtual 116, 3) := by decide +kernel
theorem d_Mo_count_46 : decode b_Mo_count 46 = .ok (.ifCond .eq 7, 3) := by decide +kernel
theorem d_Mo_count_49 : decode b_Mo_count 49 = .ok (.iconst 1, 1) := by decide +kernel
theorem d_Mo_count_50 : decode b_Mo_count 50 = .ok (.goto 4, 3) := by decide +kernel
theorem d_Mo_count_53 : decode b_Mo_count 53 = .ok (.iconst 0, 1) := by decide +kernel
theorem d_Mo_count_54 : decode b_Mo_count 54 = .ok (.iadd, 1) := by decide +kernel
theorem d_Mo_count_55 : decode b_Mo_count 55 = .ok (.istore_n 3, 1) := by decide +kernel
theorem d_Mo_count_56 : decode b_Mo_count 56 = .ok (.iinc 4 1, 3) := by decide +kernel
theorem d_Mo_count_59 : decode b_Mo_count 59 = .ok (.goto (-47), 3) := by decide +kernel
theorem d_Mo_count_62 : decode b_Mo_count 62 = .ok (.iload_n 1, 1) := by decide +kernel
theorem d_Mo_count_63 : decode b_Mo_count 63 = .ok (.ifCond .ne 7, 3) := by decide +kernel
theorem d_Mo_count_66 : decode b_Mo_count 66 = .ok (.iload_n 2, 1) := by decide +kernel
theorem d_Mo_count_67 : decode b_Mo_count 67 = .ok (.goto 25, 3) := by decide +kernel
theorem d_Mo_count_70 : decode b_Mo_count 70 = .ok (.iload_n 1, 1) := by decide +kernel
theorem d_Mo_count_71 : decode b_Mo_count 71 = .ok (.iconst 1, 1) := by decide +kernel
theorem d_Mo_count_72 : decode b_Mo_count 72 = .ok (.if_icmp .ne 10, 3) := by decide +kernel
theorem d_Mo_count_75 : decode b_Mo_count 75 = .ok (.aload_n 0, 1) := by decide +kernel
theorem d_Mo_count_76 : decode b_Mo_count 76 = .ok (.getfield 65, 3) := by decide +kernel
theorem d_Mo_count_79 : decode b_Mo_count 79 = .ok (.goto 13, 3) := by decide +kernel
theorem d_Mo_count_82 : decode b_Mo_count 82 = .ok (.iload_n 1, 1) := by decide +kernel
theorem d_Mo_count_83 : decode b_Mo_count 83 = .ok (.iconst 2, 1) := by decide +kernel
theorem d_Mo_count_84 : decode b_Mo_count 84 = .ok (.if_icmp .ne 7, 3) := by decide +kernel
theorem d_Mo_count_87 : decode b_Mo_count 87 = .ok (.iload_n 3, 1) := by decide +kernel
theorem d_Mo_count_88 : decode b_Mo_count 88 = .ok (.goto 4, 3) := by decide +kernel
theorem d_Mo_count_91 : decode b_Mo_count 91 = .ok (.iconst (-1), 1) := by decide +kernel
theorem d_Mo_count_92 : decode b_Mo_count 92 = .ok (.ireturn, 1) := by decide +kernel
theorem d_Mo_put_0 : decode b_Mo_put 0 = .ok (.aload_n 0, 1) := by decide +kernel
theorem d_Mo_put_1 : decode b_Mo_put 1 = .ok (.aload_n 0, 1) := by decide +kernel
theorem d_Mo_put_2 : decode b_Mo_put 2 = .ok (.iload_n 1, 1) := by decide +kernel
theorem d_Mo_put_3 : decode b_Mo_put 3 = .ok (.invokevirtual 120, 3) := by decide +kernel
theorem d_Mo_put_6 : decode b_Mo_put 6 = .ok (.ifCond .ne 11, 3) := by decide +kernel
theorem d_Mo_put_9 : decode b_Mo_put 9 = .ok (.aload_n 0, 1) := by decide +kernel
theorem d_Mo_put_10 : decode b_Mo_put 10 = .ok (.iload_n 2, 1) := by decide +kernel
theorem d_Mo_put_11 : decode b_Mo_put 11 = .ok (.invokevirtual 120, 3) := by decide +kernel
theorem d_Mo_put_14 : decode b_Mo_put 14 = .ok (.ifCond .eq 7, 3) := by decide +kernel
theorem d_Mo_put_17 : decode b_Mo_put 17 = .ok (.iconst 1, 1) := by decide +kernel
theorem d_Mo_put_18 : decode b_Mo_put 18 = .ok (.goto 4, 3) := by decide +kernel
theorem d_Mo_put_21 : decode b_Mo_put 21 = .ok (.iconst 0, 1) := by decide +kernel
theorem d_Mo_put_22 : decode b_Mo_put 22 = .ok (.iload_n 3, 1) := by decide +kernel
theorem d_Mo_put_23 : decode b_Mo_put 23 = .ok (.bipush (-30), 2) := by decide +kernel
theorem d_Mo_put_25 : decode b_Mo_put 25 = .ok (.if_icmp .lt 9, 3) := by decide +kernel
theorem d_Mo_put_28 : decode b_Mo_put 28 = .ok (.iload_n 3, 1) := by decide +kernel
theorem d_Mo_put_29 : decode b_Mo_put 29 = .ok (.bipush 30, 2) := by decide +kernel
theorem d_Mo_put_31 : decode b_Mo_put 31 = .ok (.if_icmp .le 7, 3) := by decide +kernel
theorem d_Mo_put_34 : decode b_Mo_put 34 = .ok (.iconst 1, 1) := by decide +kernel
theorem d_Mo_put_35 : decode b_Mo_put 35 = .ok (.goto 4, 3) := by decide +kernel
theorem d_Mo_put_38 : decode b_Mo_put 38 = .ok (.iconst 0, 1) := by decide +kernel
theorem d_Mo_put_39 : decode b_Mo_put 39 = .ok (.iconst 0, 1) := by decide +kernel
theorem d_Mo_put_40 : decode b_Mo_put 40 = .ok (.invokevirtual 109, 3) := by decide +kernel
theorem d_Mo_put_43 : decode b_Mo_put 43 = .ok (.ifCond .eq 5, 3) := by decide +kernel
theorem d_Mo_put_46 : decode b_Mo_put 46 = .ok (.iconst 0, 1) := by decide +kernel
theorem d_Mo_put_47 : decode b_Mo_put 47 = .ok (.ireturn, 1) := by decide +kernel
theorem d_Mo_put_48 : decode b_Mo_put 48 = .ok (.aload_n 0, 1) := by decide +kernel
theorem d_Mo_put_49 : decode b_Mo_put 49 = .ok (.getfield 22, 3) := by decide +kernel
theorem d_Mo_put_52 : decode b_Mo_put 52 = .ok (.bipush 6, 2) := by decide +kernel
theorem d_Mo_put_54 : decode b_Mo_put 54 = .ok (.iload_n 1, 1) := by decide +kernel
theorem d_Mo_put_55 : decode b_Mo_put 55 = .ok (.imul, 1) := by decide +kernel
theorem d_Mo_put_56 : decode b_Mo_put 56 = .ok (.iload_n 2, 1) := by decide +kernel
theorem d_Mo_put_57 : decode b_Mo_put 57 = .ok (.iadd, 1) := by decide +kernel
theorem d_Mo_put_58 : decode b_Mo_put 58 = .ok (.iaload, 1) := by decide +kernel
theorem d_Mo_put_59 : decode b_Mo_put 59 = .ok (.iload_n 3, 1) := by decide +kernel
theorem d_Mo_put_60 : decode b_Mo_put 60 = .ok (.if_icmp .ne 5, 3) := by decide +kernel
theorem d_Mo_put_63 : decode b_Mo_put 63 = .ok (.iconst 0, 1) := by decide +kernel
theorem d_Mo_put_64 : decode b_Mo_put 64 = .ok (.ireturn, 1) := by decide +kernel
theorem d_Mo_put_65 : decode b_Mo_put 65 = .ok (.aload_n 0, 1) := by decide +kernel
theorem d_Mo_put_66 : decode b_Mo_put 66 = .ok (.getfield 22, 3) := by decide +kernel
theorem d_Mo_put_69 : decode b_Mo_put 69 = .ok (.bipush 6, 2) := by decide +kernel
theorem d_Mo_put_71 : decode b_Mo_put 71 = .ok (.iload_n 1, 1) := by decide +kernel
theorem d_Mo_put_72 : decode b_Mo_put 72 = .ok (.imul, 1) := by decide +kernel
theorem d_Mo_put_73 : decode b_Mo_put 73 = .ok (.iload_n 2, 1) := by decide +kernel
theorem d_Mo_put_74 : decode b_Mo_put 74 = .ok (.iadd, 1) := by decide +kernel
theorem d_Mo_put_75 : decode b_Mo_put 75 = .ok (.iload_n 3, 1) := by decide +kernel
theorem d_Mo_put_76 : decode b_Mo_put 76 = .ok (.iastore, 1) := by decide +kernel
theorem d_Mo_put_77 : decode b_Mo_put 77 = .ok (.aload_n 0, 1) := by decide +kernel
theorem d_Mo_put_78 : decode b_Mo_put 78 = .ok (.getfield 22, 3) := by decide +kernel
theorem d_Mo_put_81 : decode b_Mo_put 81 = .ok (.bipush 6, 2) := by decide +kernel
theorem d_Mo_put_83 : decode b_Mo_put 83 = .ok (.iload_n 2, 1) := by decide +kernel
theorem d_Mo_put_84 : decode b_Mo_put 84 = .ok (.imul, 1) := by decide +kernel
theorem d_Mo_put_85 : decode b_Mo_put 85 = .ok (.iload_n 1, 1) := by decide +kernel
theorem d_Mo_put_86 : decode b_Mo_put 86 = .ok (.iadd, 1) := by decide +kernel
theorem d_Mo_put_87 : decode b_Mo_put 87 = .ok (.iload_n 3, 1) := by decide +kernel
theorem d_Mo_put_88 : decode b_Mo_put 88 = .ok (.iastore, 1) := by decide +kernel
theorem d_Mo_put_89 : decode b_Mo_put 89 = .ok (.aload_n 0, 1) := by decide +kernel
theorem d_Mo_put_90 : decode b_Mo_put 90 = .ok (.iconst 0, 1) := by decide +kernel
theorem d_Mo_put_91 : decode b_Mo_put 91 = .ok (.putfield 101, 3) := by decide +kernel
theorem d_Mo_put_94 : decode b_Mo_put 94 = .ok (.iconst 1, 1) := by decide +kernel
theorem d_Mo_put_95 : decode b_Mo_put 95 = .ok (.ireturn, 1) := by decide +kernel
theorem d_Mo_at_0 : decode b_Mo_at 0 = .ok (.aload_n 0, 1) := by decide +kernel
theorem d_Mo_at_1 : decode b_Mo_at 1 = .ok (.aload_n 0, 1) := by decide +kernel
theorem d_Mo_at_2 : decode b_Mo_at 2 = .ok (.iload_n 1, 1) := by decide +kernel
theorem d_Mo_at_3 : decode b_Mo_at 3 = .ok (.invokevirtual 120, 3) := by decide +kernel
theorem d_Mo_at_6 : decode b_Mo_at 6 = .ok (.ifCond .ne 11, 3) := by decide +kernel
theorem d_Mo_at_9 : decode b_Mo_at 9 = .ok (.aload_n 0, 1) := by decide +kernel
theorem d_Mo_at_10 : decode b_Mo_at 10 = .ok (.iload_n 2, 1) := by decide +kernel
theorem d_Mo_at_11 : decode b_Mo_at 11 = .ok (.invokevirtual 120, 3) := by decide +kernel
theorem d_Mo_at_14 : decode b_Mo_at 14 = .ok (.ifCond .eq 7, 3) := by decide +kernel
theorem d_Mo_at_17 : decode b_Mo_at 17 = .ok (.iconst 1, 1) := by decide +kernel
theorem d_Mo_at_18 : decode b_Mo_at 18 = .ok (.goto 4, 3) := by decide +kernel
theorem d_Mo_at_21 : decode b_Mo_at 21 = .ok (.iconst 0, 1) := by decide +kernel
theorem d_Mo_at_22 : decode b_Mo_at 22 = .ok (.iconst 0, 1) := by decide +kernel
theorem d_Mo_at_23 : decode b_Mo_at 23 = .ok (.iconst 0, 1) := by decide +kernel
theorem d_Mo_at_24 : decode b_Mo_at 24 = .ok (.invokevirtual 109, 3) := by decide +kernel
theorem d_Mo_at_27 : decode b_Mo_at 27 = .ok (.ifCond .eq 7, 3) := by decide +kernel
theorem d_Mo_at_30 : decode b_Mo_at 30 = .ok (.iconst 0, 1) := by decide +kernel
theorem d_Mo_at_31 : decode b_Mo_at 31 = .ok (.goto 14, 3) := by decide +kernel
theorem d_Mo_at_34 : decode b_Mo_at 34 = .ok (.aload_n 0, 1) := by decide +kernel
theorem d_Mo_at_35 : decode b_Mo_at 35 = .ok (.getfield 22, 3) := by decide +kernel
theorem d_Mo_at_38 : decode b_Mo_at 38 = .ok (.bipush 6, 2) := by decide +kernel
theorem d_Mo_at_40 : decode b_Mo_at 40 = .ok (.iload_n 1, 1) := by decide +kernel
theorem d_Mo_at_41 : decode b_Mo_at 41 = .ok (.imul, 1) := by decide +kernel
theorem d_Mo_at_42 : decode b_Mo_at 42 = .ok (.iload_n 2, 1) := by decide +kernel
theorem d_Mo_at_43 : decode b_Mo_at 43 = .ok (.iadd, 1) := by decide +kernel
theorem d_Mo_at_44 : decode b_Mo_at 44 = .ok (.iaload, 1) := by decide +kernel
theorem d_Mo_at_45 : decode b_Mo_at 45 = .ok (.ireturn, 1) := by decide +kernel
theorem d_Mo_product_0 : decode b_Mo_product 0 = .ok (.aload_n 0, 1) := by decide +kernel
theorem d_Mo_product_1 : decode b_Mo_product 1 = .ok (.aload_n 0, 1) := by decide +kernel
theorem d_Mo_product_2 : decode b_Mo_product 2 = .ok (.getfield 7, 3) := by decide +kernel
theorem d_Mo_product_5 : decode b_Mo_product 5 = .ok (.aload_n 0, 1) := by decide +kernel
theorem d_Mo_product_6 : decode b_Mo_product 6 = .ok (.getfield 19, 3) := by decide +kernel
theorem d_Mo_product_9 : decode b_Mo_product 9 = .ok (.iload_n 1, 1) := by decide +kernel
theorem d_Mo_product_10 : decode b_Mo_product 10 = .ok (.iaload, 1) := by decide +kernel
theorem d_Mo_product_11 : decode b_Mo_product 11 = .ok (.iaload, 1) := by decide +kernel
theorem d_Mo_product_12 : decode b_Mo_product 12 = .ok (.aload_n 0, 1) := by decide +kernel
theorem d_Mo_product_13 : decode b_Mo_product 13 = .ok (.getfield 7, 3) := by decide +kernel
theorem d_Mo_product_16 : decode b_Mo_product 16 = .ok (.aload_n 0, 1) := by decide +kernel
theorem d_Mo_product_17 : decode b_Mo_product 17 = .ok (.getfield 19, 3) := by decide +kernel
theorem d_Mo_product_20 : decode b_Mo_product 20 = .ok (.iload_n 2, 1) := by decide +kernel
theorem d_Mo_product_21 : decode b_Mo_product 21 = .ok (.iaload, 1) := by decide +kernel
theorem d_Mo_product_22 : decode b_Mo_product 22 = .ok (.iaload, 1) := by decide +kernel
theorem d_Mo_product_23 : decode b_Mo_product 23 = .ok (.iadd, 1) := by decide +kernel
theorem d_Mo_product_24 : decode b_Mo_product 24 = .ok (.aload_n 0, 1) := by decide +kernel
theorem d_Mo_product_25 : decode b_Mo_product 25 = .ok (.getfield 13, 3) := by decide +kernel
theorem d_Mo_product_28 : decode b_Mo_product 28 = .ok (.aload_n 0, 1) := by decide +kernel
theorem d_Mo_product_29 : decode b_Mo_product 29 = .ok (.getfield 19, 3) := by decide +kernel
theorem d_Mo_product_32 : decode b_Mo_product 32 = .ok (.iload_n 1, 1) := by decide +kernel
theorem d_Mo_product_33 : decode b_Mo_product 33 = .ok (.iaload, 1) := by decide +kernel
theorem d_Mo_product_34 : decode b_Mo_product 34 = .ok (.iaload, 1) := by decide +kernel
theorem d_Mo_product_35 : decode b_Mo_product 35 = .ok (.aload_n 0, 1) := by decide +kernel
theorem d_Mo_product_36 : decode b_Mo_product 36 = .ok (.getfield 13, 3) := by decide +kernel
theorem d_Mo_product_39 : decode b_Mo_product 39 = .ok (.aload_n 0, 1) := by decide +kernel
theorem d_Mo_product_40 : decode b_Mo_product 40 = .ok (.getfield 19, 3) := by decide +kernel
theorem d_Mo_product_43 : decode b_Mo_product 43 = .ok (.iload_n 2, 1) := by decide +kernel
theorem d_Mo_product_44 : decode b_Mo_product 44 = .ok (.iaload, 1) := by decide +kernel
theorem d_Mo_product_45 : decode b_Mo_product 45 = .ok (.iaload, 1) := by decide +kernel
theorem d_Mo_product_46 : decode b_Mo_product 46 = .ok (.iadd, 1) := by decide +kernel
theorem d_Mo_product_47 : decode b_Mo_product 47 = .ok (.invokevirtual 105, 3) := by decide +kernel
theorem d_Mo_product_50 : decode b_Mo_product 50 = .ok (.ireturn, 1) := by decide +kernel
theorem d_Mo_makes_0 : decode b_Mo_makes 0 = .ok (.iconst 1, 1) := by decide +kernel
theorem d_Mo_makes_1 : decode b_Mo_makes 1 = .ok (.istore_n 2, 1) := by decide +kernel
theorem d_Mo_makes_2 : decode b_Mo_makes 2 = .ok (.iconst 0, 1) := by decide +kernel
theorem d_Mo_makes_3 : decode b_Mo_makes 3 = .ok (.istore_n 3, 1) := by decide +kernel
theorem d_Mo_makes_4 : decode b_Mo_makes 4 = .ok (.iload_n 3, 1) := by decide +kernel
theorem d_Mo_makes_5 : decode b_Mo_makes 5 = .ok (.aload_n 0, 1) := by decide +kernel
theorem d_Mo_makes_6 : decode b_Mo_makes 6 = .ok (.getfield 69, 3) := by decide +kernel
theorem d_Mo_makes_9 : decode b_Mo_makes 9 = .ok (.if_icmp .ge 102, 3) := by decide +kernel
theorem d_Mo_makes_12 : decode b_Mo_makes 12 = .ok (.iconst 0, 1) := by decide +kernel
theorem d_Mo_makes_13 : decode b_Mo_makes 13 = .ok (.istore 4, 2) := by decide +kernel
theorem d_Mo_makes_15 : decode b_Mo_makes 15 = .ok (.iconst 0, 1) := by decide +kernel
theorem d_Mo_makes_16 : decode b_Mo_makes 16 = .ok (.istore 5, 2) := by decide +kernel
theorem d_Mo_makes_18 : decode b_Mo_makes 18 = .ok (.iload 5, 2) := by decide +kernel
theorem d_Mo_makes_20 : decode b_Mo_makes 20 = .ok (.aload_n 0, 1) := by decide +kernel
theorem d_Mo_makes_21 : decode b_Mo_makes 21 = .ok (.getfield 95, 3) := by decide +kernel
theorem d_Mo_makes_24 : decode b_Mo_makes 24 = .ok (.if_icmp .ge 58, 3) := by decide +kernel
theorem d_Mo_makes_27 : decode b_Mo_makes 27 = .ok (.iconst 0, 1) := by decide +kernel
theorem d_Mo_makes_28 : decode b_Mo_makes 28 = .ok (.istore 6, 2) := by decide +kernel
theorem d_Mo_makes_30 : decode b_Mo_makes 30 = .ok (.iload 6, 2) := by decide +kernel
theorem d_Mo_makes_32 : decode b_Mo_makes 32 = .ok (.aload_n 0, 1) := by decide +kernel
theorem d_Mo_makes_33 : decode b_Mo_makes 33 = .ok (.getfield 95, 3) := by decide +kernel
theorem d_Mo_makes_36 : decode b_Mo_makes 36 = .ok (.if_icmp .ge 40, 3) := by decide +kernel
theorem d_Mo_makes_39 : decode b_Mo_makes 39 = .ok (.iload 4, 2) := by decide +kernel
theorem d_Mo_makes_41 : decode b_Mo_makes 41 = .ok (.aload_n 0, 1) := by decide +kernel
theorem d_Mo_makes_42 : decode b_Mo_makes 42 = .ok (.iload 5, 2) := by decide +kernel
theorem d_Mo_makes_44 : decode b_Mo_makes 44 = .ok (.iload 6, 2) := by decide +kernel
theorem d_Mo_makes_46 : decode b_Mo_makes 46 = .ok (.invokevirtual 130, 3) := by decide +kernel
theorem d_Mo_makes_49 : decode b_Mo_makes 49 = .ok (.iload_n 3, 1) := by decide +kernel
theorem d_Mo_makes_50 : decode b_Mo_makes 50 = .ok (.if_icmp .ne 16, 3) := by decide +kernel
theorem d_Mo_makes_53 : decode b_Mo_makes 53 = .ok (.aload_n 1, 1) := by decide +kernel
theorem d_Mo_makes_54 : decode b_Mo_makes 54 = .ok (.bipush 6, 2) := by decide +kernel
theorem d_Mo_makes_56 : decode b_Mo_makes 56 = .ok (.iload 5, 2) := by decide +kernel
theorem d_Mo_makes_58 : decode b_Mo_makes 58 = .ok (.imul, 1) := by decide +kernel
theorem d_Mo_makes_59 : decode b_Mo_makes 59 = .ok (.iload 6, 2) := by decide +kernel
theorem d_Mo_makes_61 : decode b_Mo_makes 61 = .ok (.iadd, 1) := by decide +kernel
theorem d_Mo_makes_62 : decode b_Mo_makes 62 = .ok (.iaload, 1) := by decide +kernel
theorem d_Mo_makes_63 : decode b_Mo_makes 63 = .ok (.goto 4, 3) := by decide +kernel
theorem d_Mo_makes_66 : decode b_Mo_makes 66 = .ok (.iconst 0, 1) := by decide +kernel
theorem d_Mo_makes_67 : decode b_Mo_makes 67 = .ok (.iadd, 1) := by decide +kernel
theorem d_Mo_makes_68 : decode b_Mo_makes 68 = .ok (.istore 4, 2) := by decide +kernel
theorem d_Mo_makes_70 : decode b_Mo_makes 70 = .ok (.iinc 6 1, 3) := by decide +kernel
theorem d_Mo_makes_73 : decode b_Mo_makes 73 = .ok (.goto (-43), 3) := by decide +kernel
theorem d_Mo_makes_76 : decode b_Mo_makes 76 = .ok (.iinc 5 1, 3) := by decide +kernel
theorem d_Mo_makes_79 : decode b_Mo_makes 79 = .ok (.goto (-61), 3) := by decide +kernel
theorem d_Mo_makes_82 : decode b_Mo_makes 82 = .ok (.iload_n 2, 1) := by decide +kernel
theorem d_Mo_makes_83 : decode b_Mo_makes 83 = .ok (.ifCond .eq 20, 3) := by decide +kernel
theorem d_Mo_makes_86 : decode b_Mo_makes 86 = .ok (.iload 4, 2) := by decide +kernel
theorem d_Mo_makes_88 : decode b_Mo_makes 88 = .ok (.iconst 2, 1) := by decide +kernel
theorem d_Mo_makes_89 : decode b_Mo_makes 89 = .ok (.aload_n 0, 1) := by decide +kernel
theorem d_Mo_makes_90 : decode b_Mo_makes 90 = .ok (.getfield 16, 3) := by decide +kernel
theorem d_Mo_makes_93 : decode b_Mo_makes 93 = .ok (.iload_n 3, 1) := by decide +kernel
theorem d_Mo_makes_94 : decode b_Mo_makes 94 = .ok (.iaload, 1) := by decide +kernel
theorem d_Mo_makes_95 : decode b_Mo_makes 95 = .ok (.imul, 1) := by decide +kernel
theorem d_Mo_makes_96 : decode b_Mo_makes 96 = .ok (.if_icmp .ne 7, 3) := by decide +kernel
theorem d_Mo_makes_99 : decode b_Mo_makes 99 = .ok (.iconst 1, 1) := by decide +kernel
theorem d_Mo_makes_100 : decode b_Mo_makes 100 = .ok (.goto 4, 3) := by decide +kernel
theorem d_Mo_makes_103 : decode b_Mo_makes 103 = .ok (.iconst 0, 1) := by decide +kernel
theorem d_Mo_makes_104 : decode b_Mo_makes 104 = .ok (.istore_n 2, 1) := by decide +kernel
theorem d_Mo_makes_105 : decode b_Mo_makes 105 = .ok (.iinc 3 1, 3) := by decide +kernel
theorem d_Mo_makes_108 : decode b_Mo_makes 108 = .ok (.goto (-104), 3) := by decide +kernel
theorem d_Mo_makes_111 : decode b_Mo_makes 111 = .ok (.iload_n 2, 1) := by decide +kernel
theorem d_Mo_makes_112 : decode b_Mo_makes 112 = .ok (.ireturn, 1) := by decide +kernel
theorem d_Mo_divisor_0 : decode b_Mo_divisor 0 = .ok (.lload_n 0, 1) := by decide +kernel
theorem d_Mo_divisor_1 : decode b_Mo_divisor 1 = .ok (.lconst 0, 1) := by decide +kernel
theorem d_Mo_divisor_2 : decode b_Mo_divisor 2 = .ok (.lcmp, 1) := by decide +kernel
theorem d_Mo_divisor_3 : decode b_Mo_divisor 3 = .ok (.ifCond .ge 8, 3) := by decide +kernel
theorem d_Mo_divisor_6 : decode b_Mo_divisor 6 = .ok (.lload_n 0, 1) := by decide +kernel
theorem d_Mo_divisor_7 : decode b_Mo_divisor 7 = .ok (.lneg, 1) := by decide +kernel
theorem d_Mo_divisor_8 : decode b_Mo_divisor 8 = .ok (.goto 4, 3) := by decide +kernel
theorem d_Mo_divisor_11 : decode b_Mo_divisor 11 = .ok (.lload_n 0, 1) := by decide +kernel
theorem d_Mo_divisor_12 : decode b_Mo_divisor 12 = .ok (.lstore 4, 2) := by decide +kernel
theorem d_Mo_divisor_14 : decode b_Mo_divisor 14 = .ok (.lload_n 2, 1) := by decide +kernel
theorem d_Mo_divisor_15 : decode b_Mo_divisor 15 = .ok (.lconst 0, 1) := by decide +kernel
theorem d_Mo_divisor_16 : decode b_Mo_divisor 16 = .ok (.lcmp, 1) := by decide +kernel
theorem d_Mo_divisor_17 : decode b_Mo_divisor 17 = .ok (.ifCond .ge 8, 3) := by decide +kernel
theorem d_Mo_divisor_20 : decode b_Mo_divisor 20 = .ok (.lload_n 2, 1) := by decide +kernel
theorem d_Mo_divisor_21 : decode b_Mo_divisor 21 = .ok (.lneg, 1) := by decide +kernel
theorem d_Mo_divisor_22 : decode b_Mo_divisor 22 = .ok (.goto 4, 3) := by decide +kernel
theorem d_Mo_divisor_25 : decode b_Mo_divisor 25 = .ok (.lload_n 2, 1) := by decide +kernel
theorem d_Mo_divisor_26 : decode b_Mo_divisor 26 = .ok (.lstore 6, 2) := by decide +kernel
theorem d_Mo_divisor_28 : decode b_Mo_divisor 28 = .ok (.lload 6, 2) := by decide +kernel
theorem d_Mo_divisor_30 : decode b_Mo_divisor 30 = .ok (.lconst 0, 1) := by decide +kernel
theorem d_Mo_divisor_31 : decode b_Mo_divisor 31 = .ok (.lcmp, 1) := by decide +kernel
theorem d_Mo_divisor_32 : decode b_Mo_divisor 32 = .ok (.ifCond .eq 21, 3) := by decide +kernel
theorem d_Mo_divisor_35 : decode b_Mo_divisor 35 = .ok (.lload 4, 2) := by decide +kernel
theorem d_Mo_divisor_37 : decode b_Mo_divisor 37 = .ok (.lload 6, 2) := by decide +kernel
theorem d_Mo_divisor_39 : decode b_Mo_divisor 39 = .ok (.lrem, 1) := by decide +kernel
theorem d_Mo_divisor_40 : decode b_Mo_divisor 40 = .ok (.lstore 8, 2) := by decide +kernel
theorem d_Mo_divisor_42 : decode b_Mo_divisor 42 = .ok (.lload 6, 2) := by decide +kernel
theorem d_Mo_divisor_44 : decode b_Mo_divisor 44 = .ok (.lstore 4, 2) := by decide +kernel
theorem d_Mo_divisor_46 : decode b_Mo_divisor 46 = .ok (.lload 8, 2) := by decide +kernel
theorem d_Mo_divisor_48 : decode b_Mo_divisor 48 = .ok (.lstore 6, 2) := by decide +kernel
theorem d_Mo_divisor_50 : decode b_Mo_divisor 50 = .ok (.goto (-22), 3) := by decide +kernel
theorem d_Mo_divisor_53 : decode b_Mo_divisor 53 = .ok (.lload 4, 2) := by decide +kernel
theorem d_Mo_divisor_55 : decode b_Mo_divisor 55 = .ok (.lreturn, 1) := by decide +kernel
theorem d_Mo_tell_0 : decode b_Mo_tell 0 = .ok (.lload_n 2, 1) := by decide +kernel
theorem d_Mo_tell_1 : decode b_Mo_tell 1 = .ok (.lload 4, 2) := by decide +kernel
theorem d_Mo_tell_3 : decode b_Mo_tell 3 = .ok (.invokestatic 133, 3) := by decide +kernel
theorem d_Mo_tell_6 : decode b_Mo_tell 6 = .ok (.lstore 6, 2) := by decide +kernel
theorem d_Mo_tell_8 : decode b_Mo_tell 8 = .ok (.aload_n 0, 1) := by decide +kernel
theorem d_Mo_tell_9 : decode b_Mo_tell 9 = .ok (.getfield 41, 3) := by decide +kernel
theorem d_Mo_tell_12 : decode b_Mo_tell 12 = .ok (.iload_n 1, 1) := by decide +kernel
theorem d_Mo_tell_13 : decode b_Mo_tell 13 = .ok (.lload_n 2, 1) := by decide +kernel
theorem d_Mo_tell_14 : decode b_Mo_tell 14 = .ok (.lload 6, 2) := by decide +kernel
theorem d_Mo_tell_16 : decode b_Mo_tell 16 = .ok (.ldiv, 1) := by decide +kernel
theorem d_Mo_tell_17 : decode b_Mo_tell 17 = .ok (.lastore, 1) := by decide +kernel
theorem d_Mo_tell_18 : decode b_Mo_tell 18 = .ok (.aload_n 0, 1) := by decide +kernel
theorem d_Mo_tell_19 : decode b_Mo_tell 19 = .ok (.getfield 44, 3) := by decide +kernel
theorem d_Mo_tell_22 : decode b_Mo_tell 22 = .ok (.iload_n 1, 1) := by decide +kernel
theorem d_Mo_tell_23 : decode b_Mo_tell 23 = .ok (.lload 4, 2) := by decide +kernel
theorem d_Mo_tell_25 : decode b_Mo_tell 25 = .ok (.lload 6, 2) := by decide +kernel
theorem d_Mo_tell_27 : decode b_Mo_tell 27 = .ok (.ldiv, 1) := by decide +kernel
theorem d_Mo_tell_28 : decode b_Mo_tell 28 = .ok (.lastore, 1) := by decide +kernel
theorem d_Mo_tell_29 : decode b_Mo_tell 29 = .ok (.return_, 1) := by decide +kernel
theorem d_Mo_steps_0 : decode b_Mo_steps 0 = .ok (.iconst 0, 1) := by decide +kernel
theorem d_Mo_steps_1 : decode b_Mo_steps 1 = .ok (.istore_n 2, 1) := by decide +kernel
theorem d_Mo_steps_2 : decode b_Mo_steps 2 = .ok (.iload_n 2, 1) := by decide +kernel
theorem d_Mo_steps_3 : decode b_Mo_steps 3 = .ok (.bipush 36, 2) := by decide +kernel
theorem d_Mo_steps_5 : decode b_Mo_steps 5 = .ok (.if_icmp .ge 19, 3) := by decide +kernel
theorem d_Mo_steps_8 : decode b_Mo_steps 8 = .ok (.aload_n 0, 1) := by decide +kernel
theorem d_Mo_steps_9 : decode b_Mo_steps 9 = .ok (.getfield 38, 3) := by decide +kernel
theorem d_Mo_steps_12 : decode b_Mo_steps 12 = .ok (.iload_n 2, 1) := by decide +kernel
theorem d_Mo_steps_13 : decode b_Mo_steps 13 = .ok (.aload_n 1, 1) := by decide +kernel
theorem d_Mo_steps_14 : decode b_Mo_steps 14 = .ok (.iload_n 2, 1) := by decide +kernel
theorem d_Mo_steps_15 : decode b_Mo_steps 15 = .ok (.iaload, 1) := by decide +kernel
theorem d_Mo_steps_16 : decode b_Mo_steps 16 = .ok (.i2l, 1) := by decide +kernel
theorem d_Mo_steps_17 : decode b_Mo_steps 17 = .ok (.lastore, 1) := by decide +kernel
theorem d_Mo_steps_18 : decode b_Mo_steps 18 = .ok (.iinc 2 1, 3) := by decide +kernel
theorem d_Mo_steps_21 : decode b_Mo_steps 21 = .ok (.goto (-19), 3) := by decide +kernel
theorem d_Mo_steps_24 : decode b_Mo_steps 24 = .ok (.aload_n 0, 1) := by decide +kernel
theorem d_Mo_steps_25 : decode b_Mo_steps 25 = .ok (.iconst 0, 1) := by decide +kernel
theorem d_Mo_steps_26 : decode b_Mo_steps 26 = .ok (.putfield 137, 3) := by decide +kernel
theorem d_Mo_steps_29 : decode b_Mo_steps 29 = .ok (.lconst 1, 1) := by decide +kernel
theorem d_Mo_steps_30 : decode b_Mo_steps 30 = .ok (.lstore_n 2, 1) := by decide +kernel
theorem d_Mo_steps_31 : decode b_Mo_steps 31 = .ok (.iconst 0, 1) := by decide +kernel
theorem d_Mo_steps_32 : decode b_Mo_steps 32 = .ok (.istore 4, 2) := by decide +kernel
theorem d_Mo_steps_34 : decode b_Mo_steps 34 = .ok (.iload 4, 2) := by decide +kernel
theorem d_Mo_steps_36 : decode b_Mo_steps 36 = .ok (.aload_n 0, 1) := by decide +kernel
theorem d_Mo_steps_37 : decode b_Mo_steps 37 = .ok (.getfield 95, 3) := by decide +kernel
theorem d_Mo_steps_40 : decode b_Mo_steps 40 = .ok (.if_icmp .ge 274, 3) := by decide +kernel
theorem d_Mo_steps_43 : decode b_Mo_steps 43 = .ok (.aload_n 0, 1) := by decide +kernel
theorem d_Mo_steps_44 : decode b_Mo_steps 44 = .ok (.getfield 38, 3) := by decide +kernel
theorem d_Mo_steps_47 : decode b_Mo_steps 47 = .ok (.bipush 6, 2) := by decide +kernel
theorem d_Mo_steps_49 : decode b_Mo_steps 49 = .ok (.iload 4, 2) := by decide +kernel
theorem d_Mo_steps_51 : decode b_Mo_steps 51 = .ok (.imul, 1) := by decide +kernel
theorem d_Mo_steps_52 : decode b_Mo_steps 52 = .ok (.iload 4, 2) := by decide +kernel
theorem d_Mo_steps_54 : decode b_Mo_steps 54 = .ok (.iadd, 1) := by decide +kernel
theorem d_Mo_steps_55 : decode b_Mo_steps 55 = .ok (.laload, 1) := by decide +kernel
theorem d_Mo_steps_56 : decode b_Mo_steps 56 = .ok (.lstore 5, 2) := by decide +kernel
theorem d_Mo_steps_58 : decode b_Mo_steps 58 = .ok (.lload 5, 2) := by decide +kernel
theorem d_Mo_steps_60 : decode b_Mo_steps 60 = .ok (.lconst 0, 1) := by decide +kernel
theorem d_Mo_steps_61 : decode b_Mo_steps 61 = .ok (.lcmp, 1) := by decide +kernel
theorem d_Mo_steps_62 : decode b_Mo_steps 62 = .ok (.ifCond .ge 5, 3) := by decide +kernel
theorem d_Mo_steps_65 : decode b_Mo_steps 65 = .ok (.iconst 0, 1) := by decide +kernel
theorem d_Mo_steps_66 : decode b_Mo_steps 66 = .ok (.ireturn, 1) := by decide +kernel
theorem d_Mo_steps_67 : decode b_Mo_steps 67 = .ok (.lload 5, 2) := by decide +kernel
theorem d_Mo_steps_69 : decode b_Mo_steps 69 = .ok (.lconst 0, 1) := by decide +kernel
theorem d_Mo_steps_70 : decode b_Mo_steps 70 = .ok (.lcmp, 1) := by decide +kernel
theorem d_Mo_steps_71 : decode b_Mo_steps 71 = .ok (.ifCond .ne 47, 3) := by decide +kernel
theorem d_Mo_steps_74 : decode b_Mo_steps 74 = .ok (.iload 4, 2) := by decide +kernel
theorem d_Mo_steps_76 : decode b_Mo_steps 76 = .ok (.iconst 1, 1) := by decide +kernel
theorem d_Mo_steps_77 : decode b_Mo_steps 77 = .ok (.iadd, 1) := by decide +kernel
theorem d_Mo_steps_78 : decode b_Mo_steps 78 = .ok (.istore 7, 2) := by decide +kernel
theorem d_Mo_steps_80 : decode b_Mo_steps 80 = .ok (.iload 7, 2) := by decide +kernel
theorem d_Mo_steps_82 : decode b_Mo_steps 82 = .ok (.aload_n 0, 1) := by decide +kernel
theorem d_Mo_steps_83 : decode b_Mo_steps 83 = .ok (.getfield 95, 3) := by decide +kernel
theorem d_Mo_steps_86 : decode b_Mo_steps 86 = .ok (.if_icmp .ge 29, 3) := by decide +kernel
theorem d_Mo_steps_89 : decode b_Mo_steps 89 = .ok (.aload_n 0, 1) := by decide +kernel
theorem d_Mo_steps_90 : decode b_Mo_steps 90 = .ok (.getfield 38, 3) := by decide +kernel
theorem d_Mo_steps_93 : decode b_Mo_steps 93 = .ok (.bipush 6, 2) := by decide +kernel
theorem d_Mo_steps_95 : decode b_Mo_steps 95 = .ok (.iload 4, 2) := by decide +kernel
theorem d_Mo_steps_97 : decode b_Mo_steps 97 = .ok (.imul, 1) := by decide +kernel
theorem d_Mo_steps_98 : decode b_Mo_steps 98 = .ok (.iload 7, 2) := by decide +kernel
theorem d_Mo_steps_100 : decode b_Mo_steps 100 = .ok (.iadd, 1) := by decide +kernel
theorem d_Mo_steps_101 : decode b_Mo_steps 101 = .ok (.laload, 1) := by decide +kernel
theorem d_Mo_steps_102 : decode b_Mo_steps 102 = .ok (.lconst 0, 1) := by decide +kernel
theorem d_Mo_steps_103 : decode b_Mo_steps 103 = .ok (.lcmp, 1) := by decide +kernel
theorem d_Mo_steps_104 : decode b_Mo_steps 104 = .ok (.ifCond .eq 5, 3) := by decide +kernel
theorem d_Mo_steps_107 : decode b_Mo_steps 107 = .ok (.iconst 0, 1) := by decide +kernel
theorem d_Mo_steps_108 : decode b_Mo_steps 108 = .ok (.ireturn, 1) := by decide +kernel
theorem d_Mo_steps_109 : decode b_Mo_steps 109 = .ok (.iinc 7 1, 3) := by decide +kernel
theorem d_Mo_steps_112 : decode b_Mo_steps 112 = .ok (.goto (-32), 3) := by decide +kernel
theorem d_Mo_steps_115 : decode b_Mo_steps 115 = .ok (.goto 193, 3) := by decide +kernel
theorem d_Mo_steps_118 : decode b_Mo_steps 118 = .ok (.aload_n 0, 1) := by decide +kernel
theorem d_Mo_steps_119 : decode b_Mo_steps 119 = .ok (.bipush 36, 2) := by decide +kernel
theorem d_Mo_steps_121 : decode b_Mo_steps 121 = .ok (.aload_n 0, 1) := by decide +kernel
theorem d_Mo_steps_122 : decode b_Mo_steps 122 = .ok (.getfield 137, 3) := by decide +kernel
theorem d_Mo_steps_125 : decode b_Mo_steps 125 = .ok (.iadd, 1) := by decide +kernel
theorem d_Mo_steps_126 : decode b_Mo_steps 126 = .ok (.lload 5, 2) := by decide +kernel
theorem d_Mo_steps_128 : decode b_Mo_steps 128 = .ok (.ldc2_w 140, 3) := by decide +kernel
theorem d_Mo_steps_131 : decode b_Mo_steps 131 = .ok (.lload_n 2, 1) := by decide +kernel
theorem d_Mo_steps_132 : decode b_Mo_steps 132 = .ok (.lmul, 1) := by decide +kernel
theorem d_Mo_steps_133 : decode b_Mo_steps 133 = .ok (.invokevirtual 142, 3) := by decide +kernel
theorem d_Mo_steps_136 : decode b_Mo_steps 136 = .ok (.iconst 0, 1) := by decide +kernel
theorem d_Mo_steps_137 : decode b_Mo_steps 137 = .ok (.istore 7, 2) := by decide +kernel
theorem d_Mo_steps_139 : decode b_Mo_steps 139 = .ok (.iload 7, 2) := by decide +kernel
theorem d_Mo_steps_141 : decode b_Mo_steps 141 = .ok (.aload_n 0, 1) := by decide +kernel
theorem d_Mo_steps_142 : decode b_Mo_steps 142 = .ok (.getfield 95, 3) := by decide +kernel
theorem d_Mo_steps_145 : decode b_Mo_steps 145 = .ok (.if_icmp .ge 49, 3) := by decide +kernel
theorem d_Mo_steps_148 : decode b_Mo_steps 148 = .ok (.aload_n 0, 1) := by decide +kernel
theorem d_Mo_steps_149 : decode b_Mo_steps 149 = .ok (.bipush 6, 2) := by decide +kernel
theorem d_Mo_steps_151 : decode b_Mo_steps 151 = .ok (.aload_n 0, 1) := by decide +kernel
theorem d_Mo_steps_152 : decode b_Mo_steps 152 = .ok (.getfield 137, 3) := by decide +kernel
theorem d_Mo_steps_155 : decode b_Mo_steps 155 = .ok (.imul, 1) := by decide +kernel
theorem d_Mo_steps_156 : decode b_Mo_steps 156 = .ok (.iload 7, 2) := by decide +kernel
theorem d_Mo_steps_158 : decode b_Mo_steps 158 = .ok (.iadd, 1) := by decide +kernel
theorem d_Mo_steps_159 : decode b_Mo_steps 159 = .ok (.iload 7, 2) := by decide +kernel
theorem d_Mo_steps_161 : decode b_Mo_steps 161 = .ok (.iload 4, 2) := by decide +kernel
theorem d_Mo_steps_163 : decode b_Mo_steps 163 = .ok (.if_icmp .ge 7, 3) := by decide +kernel
theorem d_Mo_steps_166 : decode b_Mo_steps 166 = .ok (.lconst 0, 1) := by decide +kernel
theorem d_Mo_steps_167 : decode b_Mo_steps 167 = .ok (.goto 16, 3) := by decide +kernel
theorem d_Mo_steps_170 : decode b_Mo_steps 170 = .ok (.aload_n 0, 1) := by decide +kernel
theorem d_Mo_steps_171 : decode b_Mo_steps 171 = .ok (.getfield 38, 3) := by decide +kernel
theorem d_Mo_steps_174 : decode b_Mo_steps 174 = .ok (.bipush 6, 2) := by decide +kernel
theorem d_Mo_steps_176 : decode b_Mo_steps 176 = .ok (.iload 4, 2) := by decide +kernel
theorem d_Mo_steps_178 : decode b_Mo_steps 178 = .ok (.imul, 1) := by decide +kernel
theorem d_Mo_steps_179 : decode b_Mo_steps 179 = .ok (.iload 7, 2) := by decide +kernel
theorem d_Mo_steps_181 : decode b_Mo_steps 181 = .ok (.iadd, 1) := by decide +kernel
theorem d_Mo_steps_182 : decode b_Mo_steps 182 = .ok (.laload, 1) := by decide +kernel
theorem d_Mo_steps_183 : decode b_Mo_steps 183 = .ok (.lload 5, 2) := by decide +kernel
theorem d_Mo_steps_185 : decode b_Mo_steps 185 = .ok (.invokevirtual 142, 3) := by decide +kernel
theorem d_Mo_steps_188 : decode b_Mo_steps 188 = .ok (.iinc 7 1, 3) := by decide +kernel
theorem d_Mo_steps_191 : decode b_Mo_steps 191 = .ok (.goto (-52), 3) := by decide +kernel
theorem d_Mo_steps_194 : decode b_Mo_steps 194 = .ok (.aload_n 0, 1) := by decide +kernel
theorem d_Mo_steps_195 : decode b_Mo_steps 195 = .ok (.dup, 1) := by decide +kernel
theorem d_Mo_steps_196 : decode b_Mo_steps 196 = .ok (.getfield 137, 3) := by decide +kernel
theorem d_Mo_steps_199 : decode b_Mo_steps 199 = .ok (.iconst 1, 1) := by decide +kernel
theorem d_Mo_steps_200 : decode b_Mo_steps 200 = .ok (.iadd, 1) := by decide +kernel
theorem d_Mo_steps_201 : decode b_Mo_steps 201 = .ok (.putfield 137, 3) := by decide +kernel
theorem d_Mo_steps_204 : decode b_Mo_steps 204 = .ok (.iload 4, 2) := by decide +kernel
theorem d_Mo_steps_206 : decode b_Mo_steps 206 = .ok (.iconst 1, 1) := by decide +kernel
theorem d_Mo_steps_207 : decode b_Mo_steps 207 = .ok (.iadd, 1) := by decide +kernel
theorem d_Mo_steps_208 : decode b_Mo_steps 208 = .ok (.istore 7, 2) := by decide +kernel
theorem d_Mo_steps_210 : decode b_Mo_steps 210 = .ok (.iload 7, 2) := by decide +kernel
theorem d_Mo_steps_212 : decode b_Mo_steps 212 = .ok (.aload_n 0, 1) := by decide +kernel
theorem d_Mo_steps_213 : decode b_Mo_steps 213 = .ok (.getfield 95, 3) := by decide +kernel
theorem d_Mo_steps_216 : decode b_Mo_steps 216 = .ok (.if_icmp .ge 89, 3) := by decide +kernel
theorem d_Mo_steps_219 : decode b_Mo_steps 219 = .ok (.iload 4, 2) := by decide +kernel
theorem d_Mo_steps_221 : decode b_Mo_steps 221 = .ok (.iconst 1, 1) := by decide +kernel
theorem d_Mo_steps_222 : decode b_Mo_steps 222 = .ok (.iadd, 1) := by decide +kernel
theorem d_Mo_steps_223 : decode b_Mo_steps 223 = .ok (.istore 8, 2) := by decide +kernel
theorem d_Mo_steps_225 : decode b_Mo_steps 225 = .ok (.iload 8, 2) := by decide +kernel
theorem d_Mo_steps_227 : decode b_Mo_steps 227 = .ok (.aload_n 0, 1) := by decide +kernel
theorem d_Mo_steps_228 : decode b_Mo_steps 228 = .ok (.getfield 95, 3) := by decide +kernel
theorem d_Mo_steps_231 : decode b_Mo_steps 231 = .ok (.if_icmp .ge 68, 3) := by decide +kernel
theorem d_Mo_steps_234 : decode b_Mo_steps 234 = .ok (.aload_n 0, 1) := by decide +kernel
theorem d_Mo_steps_235 : decode b_Mo_steps 235 = .ok (.getfield 38, 3) := by decide +kernel
theorem d_Mo_steps_238 : decode b_Mo_steps 238 = .ok (.bipush 6, 2) := by decide +kernel
theorem d_Mo_steps_240 : decode b_Mo_steps 240 = .ok (.iload 7, 2) := by decide +kernel
theorem d_Mo_steps_242 : decode b_Mo_steps 242 = .ok (.imul, 1) := by decide +kernel
theorem d_Mo_steps_243 : decode b_Mo_steps 243 = .ok (.iload 8, 2) := by decide +kernel
theorem d_Mo_steps_245 : decode b_Mo_steps 245 = .ok (.iadd, 1) := by decide +kernel
theorem d_Mo_steps_246 : decode b_Mo_steps 246 = .ok (.lload 5, 2) := by decide +kernel
theorem d_Mo_steps_248 : decode b_Mo_steps 248 = .ok (.aload_n 0, 1) := by decide +kernel
theorem d_Mo_steps_249 : decode b_Mo_steps 249 = .ok (.getfield 38, 3) := by decide +kernel
theorem d_Mo_steps_252 : decode b_Mo_steps 252 = .ok (.bipush 6, 2) := by decide +kernel
theorem d_Mo_steps_254 : decode b_Mo_steps 254 = .ok (.iload 7, 2) := by decide +kernel
theorem d_Mo_steps_256 : decode b_Mo_steps 256 = .ok (.imul, 1) := by decide +kernel
theorem d_Mo_steps_257 : decode b_Mo_steps 257 = .ok (.iload 8, 2) := by decide +kernel
theorem d_Mo_steps_259 : decode b_Mo_steps 259 = .ok (.iadd, 1) := by decide +kernel
theorem d_Mo_steps_260 : decode b_Mo_steps 260 = .ok (.laload, 1) := by decide +kernel
theorem d_Mo_steps_261 : decode b_Mo_steps 261 = .ok (.lmul, 1) := by decide +kernel
theorem d_Mo_steps_262 : decode b_Mo_steps 262 = .ok (.aload_n 0, 1) := by decide +kernel
theorem d_Mo_steps_263 : decode b_Mo_steps 263 = .ok (.getfield 38, 3) := by decide +kernel
theorem d_Mo_steps_266 : decode b_Mo_steps 266 = .ok (.bipush 6, 2) := by decide +kernel
theorem d_Mo_steps_268 : decode b_Mo_steps 268 = .ok (.iload 4, 2) := by decide +kernel
theorem d_Mo_steps_270 : decode b_Mo_steps 270 = .ok (.imul, 1) := by decide +kernel
theorem d_Mo_steps_271 : decode b_Mo_steps 271 = .ok (.iload 7, 2) := by decide +kernel
theorem d_Mo_steps_273 : decode b_Mo_steps 273 = .ok (.iadd, 1) := by decide +kernel
theorem d_Mo_steps_274 : decode b_Mo_steps 274 = .ok (.laload, 1) := by decide +kernel
theorem d_Mo_steps_275 : decode b_Mo_steps 275 = .ok (.aload_n 0, 1) := by decide +kernel
theorem d_Mo_steps_276 : decode b_Mo_steps 276 = .ok (.getfield 38, 3) := by decide +kernel
theorem d_Mo_steps_279 : decode b_Mo_steps 279 = .ok (.bipush 6, 2) := by decide +kernel
theorem d_Mo_steps_281 : decode b_Mo_steps 281 = .ok (.iload 4, 2) := by decide +kernel
theorem d_Mo_steps_283 : decode b_Mo_steps 283 = .ok (.imul, 1) := by decide +kernel
theorem d_Mo_steps_284 : decode b_Mo_steps 284 = .ok (.iload 8, 2) := by decide +kernel
theorem d_Mo_steps_286 : decode b_Mo_steps 286 = .ok (.iadd, 1) := by decide +kernel
theorem d_Mo_steps_287 : decode b_Mo_steps 287 = .ok (.laload, 1) := by decide +kernel
theorem d_Mo_steps_288 : decode b_Mo_steps 288 = .ok (.lmul, 1) := by decide +kernel
theorem d_Mo_steps_289 : decode b_Mo_steps 289 = .ok (.lsub, 1) := by decide +kernel
theorem d_Mo_steps_290 : decode b_Mo_steps 290 = .ok (.lload_n 2, 1) := by decide +kernel
theorem d_Mo_steps_291 : decode b_Mo_steps 291 = .ok (.ldiv, 1) := by decide +kernel
theorem d_Mo_steps_292 : decode b_Mo_steps 292 = .ok (.lastore, 1) := by decide +kernel
theorem d_Mo_steps_293 : decode b_Mo_steps 293 = .ok (.iinc 8 1, 3) := by decide +kernel
theorem d_Mo_steps_296 : decode b_Mo_steps 296 = .ok (.goto (-71), 3) := by decide +kernel
theorem d_Mo_steps_299 : decode b_Mo_steps 299 = .ok (.iinc 7 1, 3) := by decide +kernel
theorem d_Mo_steps_302 : decode b_Mo_steps 302 = .ok (.goto (-92), 3) := by decide +kernel
theorem d_Mo_steps_305 : decode b_Mo_steps 305 = .ok (.lload 5, 2) := by decide +kernel
theorem d_Mo_steps_307 : decode b_Mo_steps 307 = .ok (.lstore_n 2, 1) := by decide +kernel
theorem d_Mo_steps_308 : decode b_Mo_steps 308 = .ok (.iinc 4 1, 3) := by decide +kernel
theorem d_Mo_steps_311 : decode b_Mo_steps 311 = .ok (.goto (-277), 3) := by decide +kernel
theorem d_Mo_steps_314 : decode b_Mo_steps 314 = .ok (.iconst 1, 1) := by decide +kernel
theorem d_Mo_steps_315 : decode b_Mo_steps 315 = .ok (.ireturn, 1) := by decide +kernel
theorem d_Mo_keep_0 : decode b_Mo_keep 0 = .ok (.aload_n 0, 1) := by decide +kernel
theorem d_Mo_keep_1 : decode b_Mo_keep 1 = .ok (.iconst 1, 1) := by decide +kernel
theorem d_Mo_keep_2 : decode b_Mo_keep 2 = .ok (.putfield 101, 3) := by decide +kernel
theorem d_Mo_keep_5 : decode b_Mo_keep 5 = .ok (.aload_n 0, 1) := by decide +kernel
theorem d_Mo_keep_6 : decode b_Mo_keep 6 = .ok (.aload_n 0, 1) := by decide +kernel
theorem d_Mo_keep_7 : decode b_Mo_keep 7 = .ok (.getfield 137, 3) := by decide +kernel
theorem d_Mo_keep_10 : decode b_Mo_keep 10 = .ok (.putfield 146, 3) := by decide +kernel
theorem d_Mo_keep_13 : decode b_Mo_keep 13 = .ok (.iconst 0, 1) := by decide +kernel
theorem d_Mo_keep_14 : decode b_Mo_keep 14 = .ok (.istore_n 1, 1) := by decide +kernel
theorem d_Mo_keep_15 : decode b_Mo_keep 15 = .ok (.iload_n 1, 1) := by decide +kernel
theorem d_Mo_keep_16 : decode b_Mo_keep 16 = .ok (.bipush 36, 2) := by decide +kernel
theorem d_Mo_keep_18 : decode b_Mo_keep 18 = .ok (.if_icmp .ge 33, 3) := by decide +kernel
theorem d_Mo_keep_21 : decode b_Mo_keep 21 = .ok (.aload_n 0, 1) := by decide +kernel
theorem d_Mo_keep_22 : decode b_Mo_keep 22 = .ok (.getfield 32, 3) := by decide +kernel
theorem d_Mo_keep_25 : decode b_Mo_keep 25 = .ok (.iload_n 1, 1) := by decide +kernel
theorem d_Mo_keep_26 : decode b_Mo_keep 26 = .ok (.aload_n 0, 1) := by decide +kernel
theorem d_Mo_keep_27 : decode b_Mo_keep 27 = .ok (.getfield 41, 3) := by decide +kernel
theorem d_Mo_keep_30 : decode b_Mo_keep 30 = .ok (.iload_n 1, 1) := by decide +kernel
theorem d_Mo_keep_31 : decode b_Mo_keep 31 = .ok (.laload, 1) := by decide +kernel
theorem d_Mo_keep_32 : decode b_Mo_keep 32 = .ok (.lastore, 1) := by decide +kernel
theorem d_Mo_keep_33 : decode b_Mo_keep 33 = .ok (.aload_n 0, 1) := by decide +kernel
theorem d_Mo_keep_34 : decode b_Mo_keep 34 = .ok (.getfield 35, 3) := by decide +kernel
theorem d_Mo_keep_37 : decode b_Mo_keep 37 = .ok (.iload_n 1, 1) := by decide +kernel
theorem d_Mo_keep_38 : decode b_Mo_keep 38 = .ok (.aload_n 0, 1) := by decide +kernel
theorem d_Mo_keep_39 : decode b_Mo_keep 39 = .ok (.getfield 44, 3) := by decide +kernel
theorem d_Mo_keep_42 : decode b_Mo_keep 42 = .ok (.iload_n 1, 1) := by decide +kernel
theorem d_Mo_keep_43 : decode b_Mo_keep 43 = .ok (.laload, 1) := by decide +kernel
theorem d_Mo_keep_44 : decode b_Mo_keep 44 = .ok (.lastore, 1) := by decide +kernel
theorem d_Mo_keep_45 : decode b_Mo_keep 45 = .ok (.iinc 1 1, 3) := by decide +kernel
theorem d_Mo_keep_48 : decode b_Mo_keep 48 = .ok (.goto (-33), 3) := by decide +kernel
theorem d_Mo_keep_51 : decode b_Mo_keep 51 = .ok (.iconst 0, 1) := by decide +kernel
theorem d_Mo_keep_52 : decode b_Mo_keep 52 = .ok (.istore_n 1, 1) := by decide +kernel
theorem d_Mo_keep_53 : decode b_Mo_keep 53 = .ok (.iload_n 1, 1) := by decide +kernel
theorem d_Mo_keep_54 : decode b_Mo_keep 54 = .ok (.bipush 6, 2) := by decide +kernel
theorem d_Mo_keep_56 : decode b_Mo_keep 56 = .ok (.if_icmp .ge 39, 3) := by decide +kernel
theorem d_Mo_keep_59 : decode b_Mo_keep 59 = .ok (.aload_n 0, 1) := by decide +kernel
theorem d_Mo_keep_60 : decode b_Mo_keep 60 = .ok (.getfield 25, 3) := by decide +kernel
theorem d_Mo_keep_63 : decode b_Mo_keep 63 = .ok (.iload_n 1, 1) := by decide +kernel
theorem d_Mo_keep_64 : decode b_Mo_keep 64 = .ok (.aload_n 0, 1) := by decide +kernel
theorem d_Mo_keep_65 : decode b_Mo_keep 65 = .ok (.getfield 41, 3) := by decide +kernel
theorem d_Mo_keep_68 : decode b_Mo_keep 68 = .ok (.bipush 36, 2) := by decide +kernel
theorem d_Mo_keep_70 : decode b_Mo_keep 70 = .ok (.iload_n 1, 1) := by decide +kernel
theorem d_Mo_keep_71 : decode b_Mo_keep 71 = .ok (.iadd, 1) := by decide +kernel
theorem d_Mo_keep_72 : decode b_Mo_keep 72 = .ok (.laload, 1) := by decide +kernel
theorem d_Mo_keep_73 : decode b_Mo_keep 73 = .ok (.lastore, 1) := by decide +kernel
theorem d_Mo_keep_74 : decode b_Mo_keep 74 = .ok (.aload_n 0, 1) := by decide +kernel
theorem d_Mo_keep_75 : decode b_Mo_keep 75 = .ok (.getfield 29, 3) := by decide +kernel
theorem d_Mo_keep_78 : decode b_Mo_keep 78 = .ok (.iload_n 1, 1) := by decide +kernel
theorem d_Mo_keep_79 : decode b_Mo_keep 79 = .ok (.aload_n 0, 1) := by decide +kernel
theorem d_Mo_keep_80 : decode b_Mo_keep 80 = .ok (.getfield 44, 3) := by decide +kernel
theorem d_Mo_keep_83 : decode b_Mo_keep 83 = .ok (.bipush 36, 2) := by decide +kernel
theorem d_Mo_keep_85 : decode b_Mo_keep 85 = .ok (.iload_n 1, 1) := by decide +kernel
theorem d_Mo_keep_86 : decode b_Mo_keep 86 = .ok (.iadd, 1) := by decide +kernel
theorem d_Mo_keep_87 : decode b_Mo_keep 87 = .ok (.laload, 1) := by decide +kernel
theorem d_Mo_keep_88 : decode b_Mo_keep 88 = .ok (.lastore, 1) := by decide +kernel
theorem d_Mo_keep_89 : decode b_Mo_keep 89 = .ok (.iinc 1 1, 3) := by decide +kernel
theorem d_Mo_keep_92 : decode b_Mo_keep 92 = .ok (.goto (-39), 3) := by decide +kernel
theorem d_Mo_keep_95 : decode b_Mo_keep 95 = .ok (.return_, 1) := by decide +kernel
theorem d_Mo_check_0 : decode b_Mo_check 0 = .ok (.aload_n 0, 1) := by decide +kernel
theorem d_Mo_check_1 : decode b_Mo_check 1 = .ok (.iconst 0, 1) := by decide +kernel
theorem d_Mo_check_2 : decode b_Mo_check 2 = .ok (.putfield 72, 3) := by decide +kernel
theorem d_Mo_check_5 : decode b_Mo_check 5 = .ok (.aload_n 0, 1) := by decide +kernel
theorem d_Mo_check_6 : decode b_Mo_check 6 = .ok (.iconst 0, 1) := by decide +kernel
theorem d_Mo_check_7 : decode b_Mo_check 7 = .ok (.putfield 101, 3) := by decide +kernel
theorem d_Mo_check_10 : decode b_Mo_check 10 = .ok (.aload_n 0, 1) := by decide +kernel
theorem d_Mo_check_11 : decode b_Mo_check 11 = .ok (.aload_n 0, 1) := by decide +kernel
theorem d_Mo_check_12 : decode b_Mo_check 12 = .ok (.getfield 22, 3) := by decide +kernel
theorem d_Mo_check_15 : decode b_Mo_check 15 = .ok (.invokevirtual 149, 3) := by decide +kernel
theorem d_Mo_check_18 : decode b_Mo_check 18 = .ok (.ifCond .ne 5, 3) := by decide +kernel
theorem d_Mo_check_21 : decode b_Mo_check 21 = .ok (.iconst 1, 1) := by decide +kernel
theorem d_Mo_check_22 : decode b_Mo_check 22 = .ok (.ireturn, 1) := by decide +kernel
theorem d_Mo_check_23 : decode b_Mo_check 23 = .ok (.aload_n 0, 1) := by decide +kernel
theorem d_Mo_check_24 : decode b_Mo_check 24 = .ok (.aload_n 0, 1) := by decide +kernel
theorem d_Mo_check_25 : decode b_Mo_check 25 = .ok (.getfield 22, 3) := by decide +kernel
theorem d_Mo_check_28 : decode b_Mo_check 28 = .ok (.invokevirtual 153, 3) := by decide +kernel
theorem d_Mo_check_31 : decode b_Mo_check 31 = .ok (.ifCond .ne 5, 3) := by decide +kernel
theorem d_Mo_check_34 : decode b_Mo_check 34 = .ok (.iconst 2, 1) := by decide +kernel
theorem d_Mo_check_35 : decode b_Mo_check 35 = .ok (.ireturn, 1) := by decide +kernel
theorem d_Mo_check_36 : decode b_Mo_check 36 = .ok (.aload_n 0, 1) := by decide +kernel
theorem d_Mo_check_37 : decode b_Mo_check 37 = .ok (.invokevirtual 156, 3) := by decide +kernel
theorem d_Mo_check_40 : decode b_Mo_check 40 = .ok (.iconst 0, 1) := by decide +kernel
theorem d_Mo_check_41 : decode b_Mo_check 41 = .ok (.ireturn, 1) := by decide +kernel
theorem d_Mo_squares_0 : decode b_Mo_squares 0 = .ok (.aload_n 0, 1) := by decide +kernel
theorem d_Mo_squares_1 : decode b_Mo_squares 1 = .ok (.aload_n 0, 1) := by decide +kernel
theorem d_Mo_squares_2 : decode b_Mo_squares 2 = .ok (.getfield 101, 3) := by decide +kernel
theorem d_Mo_squares_5 : decode b_Mo_squares 5 = .ok (.ifCond .ne 7, 3) := by decide +kernel
theorem d_Mo_squares_8 : decode b_Mo_squares 8 = .ok (.iconst 1, 1) := by decide +kernel
theorem d_Mo_squares_9 : decode b_Mo_squares 9 = .ok (.goto 4, 3) := by decide +kernel
theorem d_Mo_squares_12 : decode b_Mo_squares 12 = .ok (.iconst 0, 1) := by decide +kernel
theorem d_Mo_squares_13 : decode b_Mo_squares 13 = .ok (.iconst 0, 1) := by decide +kernel
theorem d_Mo_squares_14 : decode b_Mo_squares 14 = .ok (.iconst 0, 1) := by decide +kernel
theorem d_Mo_squares_15 : decode b_Mo_squares 15 = .ok (.invokevirtual 109, 3) := by decide +kernel
theorem d_Mo_squares_18 : decode b_Mo_squares 18 = .ok (.ifCond .eq 7, 3) := by decide +kernel
theorem d_Mo_squares_21 : decode b_Mo_squares 21 = .ok (.iconst 0, 1) := by decide +kernel
theorem d_Mo_squares_22 : decode b_Mo_squares 22 = .ok (.goto 7, 3) := by decide +kernel
theorem d_Mo_squares_25 : decode b_Mo_squares 25 = .ok (.aload_n 0, 1) := by decide +kernel
theorem d_Mo_squares_26 : decode b_Mo_squares 26 = .ok (.getfield 146, 3) := by decide +kernel
theorem d_Mo_squares_29 : decode b_Mo_squares 29 = .ok (.ireturn, 1) := by decide +kernel
theorem d_Mo_isNoSquare_0 : decode b_Mo_isNoSquare 0 = .ok (.iload_n 1, 1) := by decide +kernel
theorem d_Mo_isNoSquare_1 : decode b_Mo_isNoSquare 1 = .ok (.ifCond .lt 11, 3) := by decide +kernel
theorem d_Mo_isNoSquare_4 : decode b_Mo_isNoSquare 4 = .ok (.iload_n 1, 1) := by decide +kernel
theorem d_Mo_isNoSquare_5 : decode b_Mo_isNoSquare 5 = .ok (.aload_n 0, 1) := by decide +kernel
theorem d_Mo_isNoSquare_6 : decode b_Mo_isNoSquare 6 = .ok (.getfield 146, 3) := by decide +kernel
theorem d_Mo_isNoSquare_9 : decode b_Mo_isNoSquare 9 = .ok (.if_icmp .lt 7, 3) := by decide +kernel
theorem d_Mo_isNoSquare_12 : decode b_Mo_isNoSquare 12 = .ok (.iconst 1, 1) := by decide +kernel
theorem d_Mo_isNoSquare_13 : decode b_Mo_isNoSquare 13 = .ok (.goto 4, 3) := by decide +kernel
theorem d_Mo_isNoSquare_16 : decode b_Mo_isNoSquare 16 = .ok (.iconst 0, 1) := by decide +kernel
theorem d_Mo_isNoSquare_17 : decode b_Mo_isNoSquare 17 = .ok (.ireturn, 1) := by decide +kernel
theorem d_Mo_weight_0 : decode b_Mo_weight 0 = .ok (.aload_n 0, 1) := by decide +kernel
theorem d_Mo_weight_1 : decode b_Mo_weight 1 = .ok (.aload_n 0, 1) := by decide +kernel
theorem d_Mo_weight_2 : decode b_Mo_weight 2 = .ok (.getfield 101, 3) := by decide +kernel
theorem d_Mo_weight_5 : decode b_Mo_weight 5 = .ok (.ifCond .ne 7, 3) := by decide +kernel
theorem d_Mo_weight_8 : decode b_Mo_weight 8 = .ok (.iconst 1, 1) := by decide +kernel
theorem d_Mo_weight_9 : decode b_Mo_weight 9 = .ok (.goto 4, 3) := by decide +kernel
theorem d_Mo_weight_12 : decode b_Mo_weight 12 = .ok (.iconst 0, 1) := by decide +kernel
theorem d_Mo_weight_13 : decode b_Mo_weight 13 = .ok (.aload_n 0, 1) := by decide +kernel
theorem d_Mo_weight_14 : decode b_Mo_weight 14 = .ok (.iload_n 1, 1) := by decide +kernel
theorem d_Mo_weight_15 : decode b_Mo_weight 15 = .ok (.invokevirtual 159, 3) := by decide +kernel
theorem d_Mo_weight_18 : decode b_Mo_weight 18 = .ok (.iload_n 2, 1) := by decide +kernel
theorem d_Mo_weight_19 : decode b_Mo_weight 19 = .ok (.ifCond .lt 8, 3) := by decide +kernel
theorem d_Mo_weight_22 : decode b_Mo_weight 22 = .ok (.iload_n 2, 1) := by decide +kernel
theorem d_Mo_weight_23 : decode b_Mo_weight 23 = .ok (.iconst 1, 1) := by decide +kernel
theorem d_Mo_weight_24 : decode b_Mo_weight 24 = .ok (.if_icmp .le 7, 3) := by decide +kernel
theorem d_Mo_weight_27 : decode b_Mo_weight 27 = .ok (.iconst 1, 1) := by decide +kernel
theorem d_Mo_weight_28 : decode b_Mo_weight 28 = .ok (.goto 4, 3) := by decide +kernel
theorem d_Mo_weight_31 : decode b_Mo_weight 31 = .ok (.iconst 0, 1) := by decide +kernel
theorem d_Mo_weight_32 : decode b_Mo_weight 32 = .ok (.invokevirtual 109, 3) := by decide +kernel
theorem d_Mo_weight_35 : decode b_Mo_weight 35 = .ok (.ifCond .eq 5, 3) := by decide +kernel
theorem d_Mo_weight_38 : decode b_Mo_weight 38 = .ok (.lconst 0, 1) := by decide +kernel
theorem d_Mo_weight_39 : decode b_Mo_weight 39 = .ok (.lreturn, 1) := by decide +kernel
theorem d_Mo_weight_40 : decode b_Mo_weight 40 = .ok (.iload_n 2, 1) := by decide +kernel
theorem d_Mo_weight_41 : decode b_Mo_weight 41 = .ok (.ifCond .ne 12, 3) := by decide +kernel
theorem d_Mo_weight_44 : decode b_Mo_weight 44 = .ok (.aload_n 0, 1) := by decide +kernel
theorem d_Mo_weight_45 : decode b_Mo_weight 45 = .ok (.getfield 25, 3) := by decide +kernel
theorem d_Mo_weight_48 : decode b_Mo_weight 48 = .ok (.iload_n 1, 1) := by decide +kernel
theorem d_Mo_weight_49 : decode b_Mo_weight 49 = .ok (.laload, 1) := by decide +kernel
theorem d_Mo_weight_50 : decode b_Mo_weight 50 = .ok (.goto 9, 3) := by decide +kernel
theorem d_Mo_weight_53 : decode b_Mo_weight 53 = .ok (.aload_n 0, 1) := by decide +kernel
theorem d_Mo_weight_54 : decode b_Mo_weight 54 = .ok (.getfield 29, 3) := by decide +kernel
theorem d_Mo_weight_57 : decode b_Mo_weight 57 = .ok (.iload_n 1, 1) := by decide +kernel
theorem d_Mo_weight_58 : decode b_Mo_weight 58 = .ok (.laload, 1) := by decide +kernel
theorem d_Mo_weight_59 : decode b_Mo_weight 59 = .ok (.lreturn, 1) := by decide +kernel
theorem d_Mo_row_0 : decode b_Mo_row 0 = .ok (.aload_n 0, 1) := by decide +kernel
theorem d_Mo_row_1 : decode b_Mo_row 1 = .ok (.aload_n 0, 1) := by decide +kernel
theorem d_Mo_row_2 : decode b_Mo_row 2 = .ok (.getfield 101, 3) := by decide +kernel
theorem d_Mo_row_5 : decode b_Mo_row 5 = .ok (.ifCond .ne 7, 3) := by decide +kernel
theorem d_Mo_row_8 : decode b_Mo_row 8 = .ok (.iconst 1, 1) := by decide +kernel
theorem d_Mo_row_9 : decode b_Mo_row 9 = .ok (.goto 4, 3) := by decide +kernel
theorem d_Mo_row_12 : decode b_Mo_row 12 = .ok (.iconst 0, 1) := by decide +kernel
theorem d_Mo_row_13 : decode b_Mo_row 13 = .ok (.aload_n 0, 1) := by decide +kernel
theorem d_Mo_row_14 : decode b_Mo_row 14 = .ok (.iload_n 1, 1) := by decide +kernel
theorem d_Mo_row_15 : decode b_Mo_row 15 = .ok (.invokevirtual 159, 3) := by decide +kernel
theorem d_Mo_row_18 : decode b_Mo_row 18 = .ok (.ifCond .ne 11, 3) := by decide +kernel
theorem d_Mo_row_21 : decode b_Mo_row 21 = .ok (.aload_n 0, 1) := by decide +kernel
theorem d_Mo_row_22 : decode b_Mo_row 22 = .ok (.iload_n 2, 1) := by decide +kernel
theorem d_Mo_row_23 : decode b_Mo_row 23 = .ok (.invokevirtual 120, 3) := by decide +kernel
theorem d_Mo_row_26 : decode b_Mo_row 26 = .ok (.ifCond .eq 7, 3) := by decide +kernel
theorem d_Mo_row_29 : decode b_Mo_row 29 = .ok (.iconst 1, 1) := by decide +kernel
theorem d_Mo_row_30 : decode b_Mo_row 30 = .ok (.goto 4, 3) := by decide +kernel
theorem d_Mo_row_33 : decode b_Mo_row 33 = .ok (.iconst 0, 1) := by decide +kernel
theorem d_Mo_row_34 : decode b_Mo_row 34 = .ok (.iload_n 3, 1) := by decide +kernel
theorem d_Mo_row_35 : decode b_Mo_row 35 = .ok (.ifCond .lt 8, 3) := by decide +kernel
theorem d_Mo_row_38 : decode b_Mo_row 38 = .ok (.iload_n 3, 1) := by decide +kernel
theorem d_Mo_row_39 : decode b_Mo_row 39 = .ok (.iconst 1, 1) := by decide +kernel
theorem d_Mo_row_40 : decode b_Mo_row 40 = .ok (.if_icmp .le 7, 3) := by decide +kernel
theorem d_Mo_row_43 : decode b_Mo_row 43 = .ok (.iconst 1, 1) := by decide +kernel
theorem d_Mo_row_44 : decode b_Mo_row 44 = .ok (.goto 4, 3) := by decide +kernel
theorem d_Mo_row_47 : decode b_Mo_row 47 = .ok (.iconst 0, 1) := by decide +kernel
theorem d_Mo_row_48 : decode b_Mo_row 48 = .ok (.invokevirtual 109, 3) := by decide +kernel
theorem d_Mo_row_51 : decode b_Mo_row 51 = .ok (.ifCond .eq 5, 3) := by decide +kernel
theorem d_Mo_row_54 : decode b_Mo_row 54 = .ok (.lconst 0, 1) := by decide +kernel
theorem d_Mo_row_55 : decode b_Mo_row 55 = .ok (.lreturn, 1) := by decide +kernel
theorem d_Mo_row_56 : decode b_Mo_row 56 = .ok (.iload_n 3, 1) := by decide +kernel
theorem d_Mo_row_57 : decode b_Mo_row 57 = .ok (.ifCond .ne 17, 3) := by decide +kernel
theorem d_Mo_row_60 : decode b_Mo_row 60 = .ok (.aload_n 0, 1) := by decide +kernel
theorem d_Mo_row_61 : decode b_Mo_row 61 = .ok (.getfield 32, 3) := by decide +kernel
theorem d_Mo_row_64 : decode b_Mo_row 64 = .ok (.bipush 6, 2) := by decide +kernel
theorem d_Mo_row_66 : decode b_Mo_row 66 = .ok (.iload_n 1, 1) := by decide +kernel
theorem d_Mo_row_67 : decode b_Mo_row 67 = .ok (.imul, 1) := by decide +kernel
theorem d_Mo_row_68 : decode b_Mo_row 68 = .ok (.iload_n 2, 1) := by decide +kernel
theorem d_Mo_row_69 : decode b_Mo_row 69 = .ok (.iadd, 1) := by decide +kernel
theorem d_Mo_row_70 : decode b_Mo_row 70 = .ok (.laload, 1) := by decide +kernel
theorem d_Mo_row_71 : decode b_Mo_row 71 = .ok (.goto 14, 3) := by decide +kernel
theorem d_Mo_row_74 : decode b_Mo_row 74 = .ok (.aload_n 0, 1) := by decide +kernel
theorem d_Mo_row_75 : decode b_Mo_row 75 = .ok (.getfield 35, 3) := by decide +kernel
theorem d_Mo_row_78 : decode b_Mo_row 78 = .ok (.bipush 6, 2) := by decide +kernel
theorem d_Mo_row_80 : decode b_Mo_row 80 = .ok (.iload_n 1, 1) := by decide +kernel
theorem d_Mo_row_81 : decode b_Mo_row 81 = .ok (.imul, 1) := by decide +kernel
theorem d_Mo_row_82 : decode b_Mo_row 82 = .ok (.iload_n 2, 1) := by decide +kernel
theorem d_Mo_row_83 : decode b_Mo_row 83 = .ok (.iadd, 1) := by decide +kernel
theorem d_Mo_row_84 : decode b_Mo_row 84 = .ok (.laload, 1) := by decide +kernel
theorem d_Mo_row_85 : decode b_Mo_row 85 = .ok (.lreturn, 1) := by decide +kernel
theorem d_Mo_pairs_0 : decode b_Mo_pairs 0 = .ok (.iconst 0, 1) := by decide +kernel
theorem d_Mo_pairs_1 : decode b_Mo_pairs 1 = .ok (.istore_n 1, 1) := by decide +kernel
theorem d_Mo_pairs_2 : decode b_Mo_pairs 2 = .ok (.iload_n 1, 1) := by decide +kernel
theorem d_Mo_pairs_3 : decode b_Mo_pairs 3 = .ok (.aload_n 0, 1) := by decide +kernel
theorem d_Mo_pairs_4 : decode b_Mo_pairs 4 = .ok (.getfield 69, 3) := by decide +kernel
theorem d_Mo_pairs_7 : decode b_Mo_pairs 7 = .ok (.if_icmp .ge 121, 3) := by decide +kernel
theorem d_Mo_pairs_10 : decode b_Mo_pairs 10 = .ok (.aload_n 0, 1) := by decide +kernel
theorem d_Mo_pairs_11 : decode b_Mo_pairs 11 = .ok (.getfield 53, 3) := by decide +kernel
theorem d_Mo_pairs_14 : decode b_Mo_pairs 14 = .ok (.iload_n 1, 1) := by decide +kernel
theorem d_Mo_pairs_15 : decode b_Mo_pairs 15 = .ok (.iconst (-1), 1) := by decide +kernel
theorem d_Mo_pairs_16 : decode b_Mo_pairs 16 = .ok (.iastore, 1) := by decide +kernel
theorem d_Mo_pairs_17 : decode b_Mo_pairs 17 = .ok (.iconst 0, 1) := by decide +kernel
theorem d_Mo_pairs_18 : decode b_Mo_pairs 18 = .ok (.istore_n 2, 1) := by decide +kernel
theorem d_Mo_pairs_19 : decode b_Mo_pairs 19 = .ok (.iload_n 2, 1) := by decide +kernel
theorem d_Mo_pairs_20 : decode b_Mo_pairs 20 = .ok (.aload_n 0, 1) := by decide +kernel
theorem d_Mo_pairs_21 : decode b_Mo_pairs 21 = .ok (.getfield 95, 3) := by decide +kernel
theorem d_Mo_pairs_24 : decode b_Mo_pairs 24 = .ok (.if_icmp .ge 98, 3) := by decide +kernel
theorem d_Mo_pairs_27 : decode b_Mo_pairs 27 = .ok (.iload_n 2, 1) := by decide +kernel
theorem d_Mo_pairs_28 : decode b_Mo_pairs 28 = .ok (.istore_n 3, 1) := by decide +kernel
theorem d_Mo_pairs_29 : decode b_Mo_pairs 29 = .ok (.iload_n 3, 1) := by decide +kernel
theorem d_Mo_pairs_30 : decode b_Mo_pairs 30 = .ok (.aload_n 0, 1) := by decide +kernel
theorem d_Mo_pairs_31 : decode b_Mo_pairs 31 = .ok (.getfield 95, 3) := by decide +kernel
theorem d_Mo_pairs_34 : decode b_Mo_pairs 34 = .ok (.if_icmp .ge 82, 3) := by decide +kernel
theorem d_Mo_pairs_37 : decode b_Mo_pairs 37 = .ok (.aload_n 0, 1) := by decide +kernel
theorem d_Mo_pairs_38 : decode b_Mo_pairs 38 = .ok (.iload_n 2, 1) := by decide +kernel
theorem d_Mo_pairs_39 : decode b_Mo_pairs 39 = .ok (.iload_n 3, 1) := by decide +kernel
theorem d_Mo_pairs_40 : decode b_Mo_pairs 40 = .ok (.invokevirtual 130, 3) := by decide +kernel
theorem d_Mo_pairs_43 : decode b_Mo_pairs 43 = .ok (.iload_n 1, 1) := by decide +kernel
theorem d_Mo_pairs_44 : decode b_Mo_pairs 44 = .ok (.if_icmp .ne 21, 3) := by decide +kernel
theorem d_Mo_pairs_47 : decode b_Mo_pairs 47 = .ok (.aload_n 0, 1) := by decide +kernel
theorem d_Mo_pairs_48 : decode b_Mo_pairs 48 = .ok (.getfield 53, 3) := by decide +kernel
theorem d_Mo_pairs_51 : decode b_Mo_pairs 51 = .ok (.iload_n 1, 1) := by decide +kernel
theorem d_Mo_pairs_52 : decode b_Mo_pairs 52 = .ok (.iaload, 1) := by decide +kernel
theorem d_Mo_pairs_53 : decode b_Mo_pairs 53 = .ok (.ifCond .lt 8, 3) := by decide +kernel
theorem d_Mo_pairs_56 : decode b_Mo_pairs 56 = .ok (.iload_n 2, 1) := by decide +kernel
theorem d_Mo_pairs_57 : decode b_Mo_pairs 57 = .ok (.iload_n 3, 1) := by decide +kernel
theorem d_Mo_pairs_58 : decode b_Mo_pairs 58 = .ok (.if_icmp .ne 7, 3) := by decide +kernel
theorem d_Mo_pairs_61 : decode b_Mo_pairs 61 = .ok (.iconst 1, 1) := by decide +kernel
theorem d_Mo_pairs_62 : decode b_Mo_pairs 62 = .ok (.goto 4, 3) := by decide +kernel
theorem d_Mo_pairs_65 : decode b_Mo_pairs 65 = .ok (.iconst 0, 1) := by decide +kernel
theorem d_Mo_pairs_66 : decode b_Mo_pairs 66 = .ok (.istore 4, 2) := by decide +kernel
theorem d_Mo_pairs_68 : decode b_Mo_pairs 68 = .ok (.aload_n 0, 1) := by decide +kernel
theorem d_Mo_pairs_69 : decode b_Mo_pairs 69 = .ok (.getfield 53, 3) := by decide +kernel
theorem d_Mo_pairs_72 : decode b_Mo_pairs 72 = .ok (.iload_n 1, 1) := by decide +kernel
theorem d_Mo_pairs_73 : decode b_Mo_pairs 73 = .ok (.iload 4, 2) := by decide +kernel
theorem d_Mo_pairs_75 : decode b_Mo_pairs 75 = .ok (.ifCond .eq 7, 3) := by decide +kernel
theorem d_Mo_pairs_78 : decode b_Mo_pairs 78 = .ok (.iload_n 2, 1) := by decide +kernel
theorem d_Mo_pairs_79 : decode b_Mo_pairs 79 = .ok (.goto 9, 3) := by decide +kernel
theorem d_Mo_pairs_82 : decode b_Mo_pairs 82 = .ok (.aload_n 0, 1) := by decide +kernel
theorem d_Mo_pairs_83 : decode b_Mo_pairs 83 = .ok (.getfield 53, 3) := by decide +kernel
theorem d_Mo_pairs_86 : decode b_Mo_pairs 86 = .ok (.iload_n 1, 1) := by decide +kernel
theorem d_Mo_pairs_87 : decode b_Mo_pairs 87 = .ok (.iaload, 1) := by decide +kernel
theorem d_Mo_pairs_88 : decode b_Mo_pairs 88 = .ok (.iastore, 1) := by decide +kernel
theorem d_Mo_pairs_89 : decode b_Mo_pairs 89 = .ok (.aload_n 0, 1) := by decide +kernel
theorem d_Mo_pairs_90 : decode b_Mo_pairs 90 = .ok (.getfield 56, 3) := by decide +kernel
theorem d_Mo_pairs_93 : decode b_Mo_pairs 93 = .ok (.iload_n 1, 1) := by decide +kernel
theorem d_Mo_pairs_94 : decode b_Mo_pairs 94 = .ok (.iload 4, 2) := by decide +kernel
theorem d_Mo_pairs_96 : decode b_Mo_pairs 96 = .ok (.ifCond .eq 7, 3) := by decide +kernel
theorem d_Mo_pairs_99 : decode b_Mo_pairs 99 = .ok (.iload_n 3, 1) := by decide +kernel
theorem d_Mo_pairs_100 : decode b_Mo_pairs 100 = .ok (.goto 9, 3) := by decide +kernel
theorem d_Mo_pairs_103 : decode b_Mo_pairs 103 = .ok (.aload_n 0, 1) := by decide +kernel
theorem d_Mo_pairs_104 : decode b_Mo_pairs 104 = .ok (.getfield 56, 3) := by decide +kernel
theorem d_Mo_pairs_107 : decode b_Mo_pairs 107 = .ok (.iload_n 1, 1) := by decide +kernel
theorem d_Mo_pairs_108 : decode b_Mo_pairs 108 = .ok (.iaload, 1) := by decide +kernel
theorem d_Mo_pairs_109 : decode b_Mo_pairs 109 = .ok (.iastore, 1) := by decide +kernel
theorem d_Mo_pairs_110 : decode b_Mo_pairs 110 = .ok (.iinc 3 1, 3) := by decide +kernel
theorem d_Mo_pairs_113 : decode b_Mo_pairs 113 = .ok (.goto (-84), 3) := by decide +kernel
theorem d_Mo_pairs_116 : decode b_Mo_pairs 116 = .ok (.iinc 2 1, 3) := by decide +kernel
theorem d_Mo_pairs_119 : decode b_Mo_pairs 119 = .ok (.goto (-100), 3) := by decide +kernel
theorem d_Mo_pairs_122 : decode b_Mo_pairs 122 = .ok (.iinc 1 1, 3) := by decide +kernel
theorem d_Mo_pairs_125 : decode b_Mo_pairs 125 = .ok (.goto (-123), 3) := by decide +kernel
theorem d_Mo_pairs_128 : decode b_Mo_pairs 128 = .ok (.aload_n 0, 1) := by decide +kernel
theorem d_Mo_pairs_129 : decode b_Mo_pairs 129 = .ok (.iconst 0, 1) := by decide +kernel
theorem d_Mo_pairs_130 : decode b_Mo_pairs 130 = .ok (.putfield 162, 3) := by decide +kernel
theorem d_Mo_pairs_133 : decode b_Mo_pairs 133 = .ok (.iconst 0, 1) := by decide +kernel
theorem d_Mo_pairs_134 : decode b_Mo_pairs 134 = .ok (.istore_n 1, 1) := by decide +kernel
theorem d_Mo_pairs_135 : decode b_Mo_pairs 135 = .ok (.iload_n 1, 1) := by decide +kernel
theorem d_Mo_pairs_136 : decode b_Mo_pairs 136 = .ok (.aload_n 0, 1) := by decide +kernel
theorem d_Mo_pairs_137 : decode b_Mo_pairs 137 = .ok (.getfield 95, 3) := by decide +kernel
theorem d_Mo_pairs_140 : decode b_Mo_pairs 140 = .ok (.if_icmp .ge 82, 3) := by decide +kernel
theorem d_Mo_pairs_143 : decode b_Mo_pairs 143 = .ok (.iload_n 1, 1) := by decide +kernel
theorem d_Mo_pairs_144 : decode b_Mo_pairs 144 = .ok (.istore_n 2, 1) := by decide +kernel
theorem d_Mo_pairs_145 : decode b_Mo_pairs 145 = .ok (.iload_n 2, 1) := by decide +kernel
theorem d_Mo_pairs_146 : decode b_Mo_pairs 146 = .ok (.aload_n 0, 1) := by decide +kernel
theorem d_Mo_pairs_147 : decode b_Mo_pairs 147 = .ok (.getfield 95, 3) := by decide +kernel
theorem d_Mo_pairs_150 : decode b_Mo_pairs 150 = .ok (.if_icmp .ge 66, 3) := by decide +kernel
theorem d_Mo_pairs_153 : decode b_Mo_pairs 153 = .ok (.aload_n 0, 1) := by decide +kernel
theorem d_Mo_pairs_154 : decode b_Mo_pairs 154 = .ok (.iload_n 1, 1) := by decide +kernel
theorem d_Mo_pairs_155 : decode b_Mo_pairs 155 = .ok (.iload_n 2, 1) := by decide +kernel
theorem d_Mo_pairs_156 : decode b_Mo_pairs 156 = .ok (.invokevirtual 130, 3) := by decide +kernel
theorem d_Mo_pairs_159 : decode b_Mo_pairs 159 = .ok (.istore_n 3, 1) := by decide +kernel
theorem d_Mo_pairs_160 : decode b_Mo_pairs 160 = .ok (.aload_n 0, 1) := by decide +kernel
theorem d_Mo_pairs_161 : decode b_Mo_pairs 161 = .ok (.getfield 53, 3) := by decide +kernel
theorem d_Mo_pairs_164 : decode b_Mo_pairs 164 = .ok (.iload_n 3, 1) := by decide +kernel
theorem d_Mo_pairs_165 : decode b_Mo_pairs 165 = .ok (.iaload, 1) := by decide +kernel
theorem d_Mo_pairs_166 : decode b_Mo_pairs 166 = .ok (.iload_n 1, 1) := by decide +kernel
theorem d_Mo_pairs_167 : decode b_Mo_pairs 167 = .ok (.if_icmp .ne 13, 3) := by decide +kernel
theorem d_Mo_pairs_170 : decode b_Mo_pairs 170 = .ok (.aload_n 0, 1) := by decide +kernel
theorem d_Mo_pairs_171 : decode b_Mo_pairs 171 = .ok (.getfield 56, 3) := by decide +kernel
theorem d_Mo_pairs_174 : decode b_Mo_pairs 174 = .ok (.iload_n 3, 1) := by decide +kernel
theorem d_Mo_pairs_175 : decode b_Mo_pairs 175 = .ok (.iaload, 1) := by decide +kernel
theorem d_Mo_pairs_176 : decode b_Mo_pairs 176 = .ok (.iload_n 2, 1) := by decide +kernel
theorem d_Mo_pairs_177 : decode b_Mo_pairs 177 = .ok (.if_icmp .eq 33, 3) := by decide +kernel
theorem d_Mo_pairs_180 : decode b_Mo_pairs 180 = .ok (.aload_n 0, 1) := by decide +kernel
theorem d_Mo_pairs_181 : decode b_Mo_pairs 181 = .ok (.getfield 47, 3) := by decide +kernel
theorem d_Mo_pairs_184 : decode b_Mo_pairs 184 = .ok (.aload_n 0, 1) := by decide +kernel
theorem d_Mo_pairs_185 : decode b_Mo_pairs 185 = .ok (.getfield 162, 3) := by decide +kernel
theorem d_Mo_pairs_188 : decode b_Mo_pairs 188 = .ok (.iload_n 1, 1) := by decide +kernel
theorem d_Mo_pairs_189 : decode b_Mo_pairs 189 = .ok (.iastore, 1) := by decide +kernel
theorem d_Mo_pairs_190 : decode b_Mo_pairs 190 = .ok (.aload_n 0, 1) := by decide +kernel
theorem d_Mo_pairs_191 : decode b_Mo_pairs 191 = .ok (.getfield 50, 3) := by decide +kernel
theorem d_Mo_pairs_194 : decode b_Mo_pairs 194 = .ok (.aload_n 0, 1) := by decide +kernel
theorem d_Mo_pairs_195 : decode b_Mo_pairs 195 = .ok (.getfield 162, 3) := by decide +kernel
theorem d_Mo_pairs_198 : decode b_Mo_pairs 198 = .ok (.iload_n 2, 1) := by decide +kernel
theorem d_Mo_pairs_199 : decode b_Mo_pairs 199 = .ok (.iastore, 1) := by decide +kernel
theorem d_Mo_pairs_200 : decode b_Mo_pairs 200 = .ok (.aload_n 0, 1) := by decide +kernel
theorem d_Mo_pairs_201 : decode b_Mo_pairs 201 = .ok (.dup, 1) := by decide +kernel
theorem d_Mo_pairs_202 : decode b_Mo_pairs 202 = .ok (.getfield 162, 3) := by decide +kernel
theorem d_Mo_pairs_205 : decode b_Mo_pairs 205 = .ok (.iconst 1, 1) := by decide +kernel
theorem d_Mo_pairs_206 : decode b_Mo_pairs 206 = .ok (.iadd, 1) := by decide +kernel
theorem d_Mo_pairs_207 : decode b_Mo_pairs 207 = .ok (.putfield 162, 3) := by decide +kernel
theorem d_Mo_pairs_210 : decode b_Mo_pairs 210 = .ok (.iinc 2 1, 3) := by decide +kernel
theorem d_Mo_pairs_213 : decode b_Mo_pairs 213 = .ok (.goto (-68), 3) := by decide +kernel
theorem d_Mo_pairs_216 : decode b_Mo_pairs 216 = .ok (.iinc 1 1, 3) := by decide +kernel
theorem d_Mo_pairs_219 : decode b_Mo_pairs 219 = .ok (.goto (-84), 3) := by decide +kernel
theorem d_Mo_pairs_222 : decode b_Mo_pairs 222 = .ok (.return_, 1) := by decide +kernel
theorem d_Mo_free_0 : decode b_Mo_free 0 = .ok (.aload_n 0, 1) := by decide +kernel
theorem d_Mo_free_1 : decode b_Mo_free 1 = .ok (.iconst 0, 1) := by decide +kernel
theorem d_Mo_free_2 : decode b_Mo_free 2 = .ok (.putfield 72, 3) := by decide +kernel
theorem d_Mo_free_5 : decode b_Mo_free 5 = .ok (.aload_n 0, 1) := by decide +kernel
theorem d_Mo_free_6 : decode b_Mo_free 6 = .ok (.invokevirtual 165, 3) := by decide +kernel
theorem d_Mo_free_9 : decode b_Mo_free 9 = .ok (.aload_n 0, 1) := by decide +kernel
theorem d_Mo_free_10 : decode b_Mo_free 10 = .ok (.getfield 162, 3) := by decide +kernel
theorem d_Mo_free_13 : decode b_Mo_free 13 = .ok (.ireturn, 1) := by decide +kernel
theorem d_Mo_hangs_0 : decode b_Mo_hangs 0 = .ok (.iconst 0, 1) := by decide +kernel
theorem d_Mo_hangs_1 : decode b_Mo_hangs 1 = .ok (.istore_n 1, 1) := by decide +kernel
theorem d_Mo_hangs_2 : decode b_Mo_hangs 2 = .ok (.iload_n 1, 1) := by decide +kernel
theorem d_Mo_hangs_3 : decode b_Mo_hangs 3 = .ok (.bipush 36, 2) := by decide +kernel
theorem d_Mo_hangs_5 : decode b_Mo_hangs 5 = .ok (.if_icmp .ge 16, 3) := by decide +kernel
theorem d_Mo_hangs_8 : decode b_Mo_hangs 8 = .ok (.aload_n 0, 1) := by decide +kernel
theorem d_Mo_hangs_9 : decode b_Mo_hangs 9 = .ok (.getfield 59, 3) := by decide +kernel
theorem d_Mo_hangs_12 : decode b_Mo_hangs 12 = .ok (.iload_n 1, 1) := by decide +kernel
theorem d_Mo_hangs_13 : decode b_Mo_hangs 13 = .ok (.iconst 0, 1) := by decide +kernel
theorem d_Mo_hangs_14 : decode b_Mo_hangs 14 = .ok (.iastore, 1) := by decide +kernel
theorem d_Mo_hangs_15 : decode b_Mo_hangs 15 = .ok (.iinc 1 1, 3) := by decide +kernel
theorem d_Mo_hangs_18 : decode b_Mo_hangs 18 = .ok (.goto (-16), 3) := by decide +kernel
theorem d_Mo_hangs_21 : decode b_Mo_hangs 21 = .ok (.iconst 0, 1) := by decide +kernel
theorem d_Mo_hangs_22 : decode b_Mo_hangs 22 = .ok (.istore_n 1, 1) := by decide +kernel
theorem d_Mo_hangs_23 : decode b_Mo_hangs 23 = .ok (.iload_n 1, 1) := by decide +kernel
theorem d_Mo_hangs_24 : decode b_Mo_hangs 24 = .ok (.aload_n 0, 1) := by decide +kernel
theorem d_Mo_hangs_25 : decode b_Mo_hangs 25 = .ok (.getfield 162, 3) := by decide +kernel
theorem d_Mo_hangs_28 : decode b_Mo_hangs 28 = .ok (.if_icmp .ge 63, 3) := by decide +kernel
theorem d_Mo_hangs_31 : decode b_Mo_hangs 31 = .ok (.aload_n 0, 1) := by decide +kernel
theorem d_Mo_hangs_32 : decode b_Mo_hangs 32 = .ok (.getfield 59, 3) := by decide +kernel
theorem d_Mo_hangs_35 : decode b_Mo_hangs 35 = .ok (.bipush 6, 2) := by decide +kernel
theorem d_Mo_hangs_37 : decode b_Mo_hangs 37 = .ok (.aload_n 0, 1) := by decide +kernel
theorem d_Mo_hangs_38 : decode b_Mo_hangs 38 = .ok (.getfield 47, 3) := by decide +kernel
theorem d_Mo_hangs_41 : decode b_Mo_hangs 41 = .ok (.iload_n 1, 1) := by decide +kernel
theorem d_Mo_hangs_42 : decode b_Mo_hangs 42 = .ok (.iaload, 1) := by decide +kernel
theorem d_Mo_hangs_43 : decode b_Mo_hangs 43 = .ok (.imul, 1) := by decide +kernel
theorem d_Mo_hangs_44 : decode b_Mo_hangs 44 = .ok (.aload_n 0, 1) := by decide +kernel
theorem d_Mo_hangs_45 : decode b_Mo_hangs 45 = .ok (.getfield 50, 3) := by decide +kernel
theorem d_Mo_hangs_48 : decode b_Mo_hangs 48 = .ok (.iload_n 1, 1) := by decide +kernel
theorem d_Mo_hangs_49 : decode b_Mo_hangs 49 = .ok (.iaload, 1) := by decide +kernel
theorem d_Mo_hangs_50 : decode b_Mo_hangs 50 = .ok (.iadd, 1) := by decide +kernel
theorem d_Mo_hangs_51 : decode b_Mo_hangs 51 = .ok (.aload_n 0, 1) := by decide +kernel
theorem d_Mo_hangs_52 : decode b_Mo_hangs 52 = .ok (.getfield 62, 3) := by decide +kernel
theorem d_Mo_hangs_55 : decode b_Mo_hangs 55 = .ok (.iload_n 1, 1) := by decide +kernel
theorem d_Mo_hangs_56 : decode b_Mo_hangs 56 = .ok (.iaload, 1) := by decide +kernel
theorem d_Mo_hangs_57 : decode b_Mo_hangs 57 = .ok (.iastore, 1) := by decide +kernel
theorem d_Mo_hangs_58 : decode b_Mo_hangs 58 = .ok (.aload_n 0, 1) := by decide +kernel
theorem d_Mo_hangs_59 : decode b_Mo_hangs 59 = .ok (.getfield 59, 3) := by decide +kernel
theorem d_Mo_hangs_62 : decode b_Mo_hangs 62 = .ok (.bipush 6, 2) := by decide +kernel
theorem d_Mo_hangs_64 : decode b_Mo_hangs 64 = .ok (.aload_n 0, 1) := by decide +kernel
theorem d_Mo_hangs_65 : decode b_Mo_hangs 65 = .ok (.getfield 50, 3) := by decide +kernel
theorem d_Mo_hangs_68 : decode b_Mo_hangs 68 = .ok (.iload_n 1, 1) := by decide +kernel
theorem d_Mo_hangs_69 : decode b_Mo_hangs 69 = .ok (.iaload, 1) := by decide +kernel
theorem d_Mo_hangs_70 : decode b_Mo_hangs 70 = .ok (.imul, 1) := by decide +kernel
theorem d_Mo_hangs_71 : decode b_Mo_hangs 71 = .ok (.aload_n 0, 1) := by decide +kernel
theorem d_Mo_hangs_72 : decode b_Mo_hangs 72 = .ok (.getfield 47, 3) := by decide +kernel
theorem d_Mo_hangs_75 : decode b_Mo_hangs 75 = .ok (.iload_n 1, 1) := by decide +kernel
theorem d_Mo_hangs_76 : decode b_Mo_hangs 76 = .ok (.iaload, 1) := by decide +kernel
theorem d_Mo_hangs_77 : decode b_Mo_hangs 77 = .ok (.iadd, 1) := by decide +kernel
theorem d_Mo_hangs_78 : decode b_Mo_hangs 78 = .ok (.aload_n 0, 1) := by decide +kernel
theorem d_Mo_hangs_79 : decode b_Mo_hangs 79 = .ok (.getfield 62, 3) := by decide +kernel
theorem d_Mo_hangs_82 : decode b_Mo_hangs 82 = .ok (.iload_n 1, 1) := by decide +kernel
theorem d_Mo_hangs_83 : decode b_Mo_hangs 83 = .ok (.iaload, 1) := by decide +kernel
theorem d_Mo_hangs_84 : decode b_Mo_hangs 84 = .ok (.iastore, 1) := by decide +kernel
theorem d_Mo_hangs_85 : decode b_Mo_hangs 85 = .ok (.iinc 1 1, 3) := by decide +kernel
theorem d_Mo_hangs_88 : decode b_Mo_hangs 88 = .ok (.goto (-65), 3) := by decide +kernel
theorem d_Mo_hangs_91 : decode b_Mo_hangs 91 = .ok (.iconst 1, 1) := by decide +kernel
theorem d_Mo_hangs_92 : decode b_Mo_hangs 92 = .ok (.istore_n 1, 1) := by decide +kernel
theorem d_Mo_hangs_93 : decode b_Mo_hangs 93 = .ok (.iconst 0, 1) := by decide +kernel
theorem d_Mo_hangs_94 : decode b_Mo_hangs 94 = .ok (.istore_n 2, 1) := by decide +kernel
theorem d_Mo_hangs_95 : decode b_Mo_hangs 95 = .ok (.iload_n 2, 1) := by decide +kernel
theorem d_Mo_hangs_96 : decode b_Mo_hangs 96 = .ok (.aload_n 0, 1) := by decide +kernel
theorem d_Mo_hangs_97 : decode b_Mo_hangs 97 = .ok (.getfield 69, 3) := by decide +kernel
theorem d_Mo_hangs_100 : decode b_Mo_hangs 100 = .ok (.if_icmp .ge 195, 3) := by decide +kernel
theorem d_Mo_hangs_103 : decode b_Mo_hangs 103 = .ok (.aload_n 0, 1) := by decide +kernel
theorem d_Mo_hangs_104 : decode b_Mo_hangs 104 = .ok (.getfield 53, 3) := by decide +kernel
theorem d_Mo_hangs_107 : decode b_Mo_hangs 107 = .ok (.iload_n 2, 1) := by decide +kernel
theorem d_Mo_hangs_108 : decode b_Mo_hangs 108 = .ok (.iaload, 1) := by decide +kernel
theorem d_Mo_hangs_109 : decode b_Mo_hangs 109 = .ok (.ifCond .ge 25, 3) := by decide +kernel
theorem d_Mo_hangs_112 : decode b_Mo_hangs 112 = .ok (.iload_n 1, 1) := by decide +kernel
theorem d_Mo_hangs_113 : decode b_Mo_hangs 113 = .ok (.ifCond .eq 16, 3) := by decide +kernel
theorem d_Mo_hangs_116 : decode b_Mo_hangs 116 = .ok (.aload_n 0, 1) := by decide +kernel
theorem d_Mo_hangs_117 : decode b_Mo_hangs 117 = .ok (.getfield 16, 3) := by decide +kernel
theorem d_Mo_hangs_120 : decode b_Mo_hangs 120 = .ok (.iload_n 2, 1) := by decide +kernel
theorem d_Mo_hangs_121 : decode b_Mo_hangs 121 = .ok (.iaload, 1) := by decide +kernel
theorem d_Mo_hangs_122 : decode b_Mo_hangs 122 = .ok (.ifCond .ne 7, 3) := by decide +kernel
theorem d_Mo_hangs_125 : decode b_Mo_hangs 125 = .ok (.iconst 1, 1) := by decide +kernel
theorem d_Mo_hangs_126 : decode b_Mo_hangs 126 = .ok (.goto 4, 3) := by decide +kernel
theorem d_Mo_hangs_129 : decode b_Mo_hangs 129 = .ok (.iconst 0, 1) := by decide +kernel
theorem d_Mo_hangs_130 : decode b_Mo_hangs 130 = .ok (.istore_n 1, 1) := by decide +kernel
theorem d_Mo_hangs_131 : decode b_Mo_hangs 131 = .ok (.goto 158, 3) := by decide +kernel
theorem d_Mo_hangs_134 : decode b_Mo_hangs 134 = .ok (.aload_n 0, 1) := by decide +kernel
theorem d_Mo_hangs_135 : decode b_Mo_hangs 135 = .ok (.getfield 16, 3) := by decide +kernel
theorem d_Mo_hangs_138 : decode b_Mo_hangs 138 = .ok (.iload_n 2, 1) := by decide +kernel
theorem d_Mo_hangs_139 : decode b_Mo_hangs 139 = .ok (.iaload, 1) := by decide +kernel
theorem d_Mo_hangs_140 : decode b_Mo_hangs 140 = .ok (.istore_n 3, 1) := by decide +kernel
theorem d_Mo_hangs_141 : decode b_Mo_hangs 141 = .ok (.iconst 0, 1) := by decide +kernel
theorem d_Mo_hangs_142 : decode b_Mo_hangs 142 = .ok (.istore 4, 2) := by decide +kernel
theorem d_Mo_hangs_144 : decode b_Mo_hangs 144 = .ok (.iload 4, 2) := by decide +kernel
theorem d_Mo_hangs_146 : decode b_Mo_hangs 146 = .ok (.aload_n 0, 1) := by decide +kernel
theorem d_Mo_hangs_147 : decode b_Mo_hangs 147 = .ok (.getfield 162, 3) := by decide +kernel
theorem d_Mo_hangs_150 : decode b_Mo_hangs 150 = .ok (.if_icmp .ge 45, 3) := by decide +kernel
theorem d_Mo_hangs_153 : decode b_Mo_hangs 153 = .ok (.iload_n 3, 1) := by decide +kernel
theorem d_Mo_hangs_154 : decode b_Mo_hangs 154 = .ok (.aload_n 0, 1) := by decide +kernel
theorem d_Mo_hangs_155 : decode b_Mo_hangs 155 = .ok (.aload_n 0, 1) := by decide +kernel
theorem d_Mo_hangs_156 : decode b_Mo_hangs 156 = .ok (.getfield 47, 3) := by decide +kernel
theorem d_Mo_hangs_159 : decode b_Mo_hangs 159 = .ok (.iload 4, 2) := by decide +kernel
theorem d_Mo_hangs_161 : decode b_Mo_hangs 161 = .ok (.iaload, 1) := by decide +kernel
theorem d_Mo_hangs_162 : decode b_Mo_hangs 162 = .ok (.aload_n 0, 1) := by decide +kernel
theorem d_Mo_hangs_163 : decode b_Mo_hangs 163 = .ok (.getfield 50, 3) := by decide +kernel
theorem d_Mo_hangs_166 : decode b_Mo_hangs 166 = .ok (.iload 4, 2) := by decide +kernel
theorem d_Mo_hangs_168 : decode b_Mo_hangs 168 = .ok (.iaload, 1) := by decide +kernel
theorem d_Mo_hangs_169 : decode b_Mo_hangs 169 = .ok (.invokevirtual 130, 3) := by decide +kernel
theorem d_Mo_hangs_172 : decode b_Mo_hangs 172 = .ok (.iload_n 2, 1) := by decide +kernel
theorem d_Mo_hangs_173 : decode b_Mo_hangs 173 = .ok (.if_icmp .ne 13, 3) := by decide +kernel
theorem d_Mo_hangs_176 : decode b_Mo_hangs 176 = .ok (.aload_n 0, 1) := by decide +kernel
theorem d_Mo_hangs_177 : decode b_Mo_hangs 177 = .ok (.getfield 62, 3) := by decide +kernel
theorem d_Mo_hangs_180 : decode b_Mo_hangs 180 = .ok (.iload 4, 2) := by decide +kernel
theorem d_Mo_hangs_182 : decode b_Mo_hangs 182 = .ok (.iaload, 1) := by decide +kernel
theorem d_Mo_hangs_183 : decode b_Mo_hangs 183 = .ok (.goto 4, 3) := by decide +kernel
theorem d_Mo_hangs_186 : decode b_Mo_hangs 186 = .ok (.iconst 0, 1) := by decide +kernel
theorem d_Mo_hangs_187 : decode b_Mo_hangs 187 = .ok (.isub, 1) := by decide +kernel
theorem d_Mo_hangs_188 : decode b_Mo_hangs 188 = .ok (.istore_n 3, 1) := by decide +kernel
theorem d_Mo_hangs_189 : decode b_Mo_hangs 189 = .ok (.iinc 4 1, 3) := by decide +kernel
theorem d_Mo_hangs_192 : decode b_Mo_hangs 192 = .ok (.goto (-48), 3) := by decide +kernel
theorem d_Mo_hangs_195 : decode b_Mo_hangs 195 = .ok (.aload_n 0, 1) := by decide +kernel
theorem d_Mo_hangs_196 : decode b_Mo_hangs 196 = .ok (.getfield 53, 3) := by decide +kernel
theorem d_Mo_hangs_199 : decode b_Mo_hangs 199 = .ok (.iload_n 2, 1) := by decide +kernel
theorem d_Mo_hangs_200 : decode b_Mo_hangs 200 = .ok (.iaload, 1) := by decide +kernel
theorem d_Mo_hangs_201 : decode b_Mo_hangs 201 = .ok (.aload_n 0, 1) := by decide +kernel
theorem d_Mo_hangs_202 : decode b_Mo_hangs 202 = .ok (.getfield 56, 3) := by decide +kernel
theorem d_Mo_hangs_205 : decode b_Mo_hangs 205 = .ok (.iload_n 2, 1) := by decide +kernel
theorem d_Mo_hangs_206 : decode b_Mo_hangs 206 = .ok (.iaload, 1) := by decide +kernel
theorem d_Mo_hangs_207 : decode b_Mo_hangs 207 = .ok (.if_icmp .ne 9, 3) := by decide +kernel
theorem d_Mo_hangs_210 : decode b_Mo_hangs 210 = .ok (.iconst 2, 1) := by decide +kernel
theorem d_Mo_hangs_211 : decode b_Mo_hangs 211 = .ok (.iload_n 3, 1) := by decide +kernel
theorem d_Mo_hangs_212 : decode b_Mo_hangs 212 = .ok (.imul, 1) := by decide +kernel
theorem d_Mo_hangs_213 : decode b_Mo_hangs 213 = .ok (.goto 4, 3) := by decide +kernel
theorem d_Mo_hangs_216 : decode b_Mo_hangs 216 = .ok (.iload_n 3, 1) := by decide +kernel
theorem d_Mo_hangs_217 : decode b_Mo_hangs 217 = .ok (.istore 4, 2) := by decide +kernel
theorem d_Mo_hangs_219 : decode b_Mo_hangs 219 = .ok (.iload_n 1, 1) := by decide +kernel
theorem d_Mo_hangs_220 : decode b_Mo_hangs 220 = .ok (.ifCond .eq 21, 3) := by decide +kernel
theorem d_Mo_hangs_223 : decode b_Mo_hangs 223 = .ok (.iload 4, 2) := by decide +kernel
theorem d_Mo_hangs_225 : decode b_Mo_hangs 225 = .ok (.bipush (-30), 2) := by decide +kernel
theorem d_Mo_hangs_227 : decode b_Mo_hangs 227 = .ok (.if_icmp .lt 14, 3) := by decide +kernel
theorem d_Mo_hangs_230 : decode b_Mo_hangs 230 = .ok (.iload 4, 2) := by decide +kernel
theorem d_Mo_hangs_232 : decode b_Mo_hangs 232 = .ok (.bipush 30, 2) := by decide +kernel
theorem d_Mo_hangs_234 : decode b_Mo_hangs 234 = .ok (.if_icmp .gt 7, 3) := by decide +kernel
theorem d_Mo_hangs_237 : decode b_Mo_hangs 237 = .ok (.iconst 1, 1) := by decide +kernel
theorem d_Mo_hangs_238 : decode b_Mo_hangs 238 = .ok (.goto 4, 3) := by decide +kernel
theorem d_Mo_hangs_241 : decode b_Mo_hangs 241 = .ok (.iconst 0, 1) := by decide +kernel
theorem d_Mo_hangs_242 : decode b_Mo_hangs 242 = .ok (.istore_n 1, 1) := by decide +kernel
theorem d_Mo_hangs_243 : decode b_Mo_hangs 243 = .ok (.aload_n 0, 1) := by decide +kernel
theorem d_Mo_hangs_244 : decode b_Mo_hangs 244 = .ok (.getfield 59, 3) := by decide +kernel
theorem d_Mo_hangs_247 : decode b_Mo_hangs 247 = .ok (.bipush 6, 2) := by decide +kernel
theorem d_Mo_hangs_249 : decode b_Mo_hangs 249 = .ok (.aload_n 0, 1) := by decide +kernel
theorem d_Mo_hangs_250 : decode b_Mo_hangs 250 = .ok (.getfield 53, 3) := by decide +kernel
theorem d_Mo_hangs_253 : decode b_Mo_hangs 253 = .ok (.iload_n 2, 1) := by decide +kernel
theorem d_Mo_hangs_254 : decode b_Mo_hangs 254 = .ok (.iaload, 1) := by decide +kernel
theorem d_Mo_hangs_255 : decode b_Mo_hangs 255 = .ok (.imul, 1) := by decide +kernel
theorem d_Mo_hangs_256 : decode b_Mo_hangs 256 = .ok (.aload_n 0, 1) := by decide +kernel
theorem d_Mo_hangs_257 : decode b_Mo_hangs 257 = .ok (.getfield 56, 3) := by decide +kernel
theorem d_Mo_hangs_260 : decode b_Mo_hangs 260 = .ok (.iload_n 2, 1) := by decide +kernel
theorem d_Mo_hangs_261 : decode b_Mo_hangs 261 = .ok (.iaload, 1) := by decide +kernel
theorem d_Mo_hangs_262 : decode b_Mo_hangs 262 = .ok (.iadd, 1) := by decide +kernel
theorem d_Mo_hangs_263 : decode b_Mo_hangs 263 = .ok (.iload 4, 2) := by decide +kernel
theorem d_Mo_hangs_265 : decode b_Mo_hangs 265 = .ok (.iastore, 1) := by decide +kernel
theorem d_Mo_hangs_266 : decode b_Mo_hangs 266 = .ok (.aload_n 0, 1) := by decide +kernel
theorem d_Mo_hangs_267 : decode b_Mo_hangs 267 = .ok (.getfield 59, 3) := by decide +kernel
theorem d_Mo_hangs_270 : decode b_Mo_hangs 270 = .ok (.bipush 6, 2) := by decide +kernel
theorem d_Mo_hangs_272 : decode b_Mo_hangs 272 = .ok (.aload_n 0, 1) := by decide +kernel
theorem d_Mo_hangs_273 : decode b_Mo_hangs 273 = .ok (.getfield 56, 3) := by decide +kernel
theorem d_Mo_hangs_276 : decode b_Mo_hangs 276 = .ok (.iload_n 2, 1) := by decide +kernel
theorem d_Mo_hangs_277 : decode b_Mo_hangs 277 = .ok (.iaload, 1) := by decide +kernel
theorem d_Mo_hangs_278 : decode b_Mo_hangs 278 = .ok (.imul, 1) := by decide +kernel
theorem d_Mo_hangs_279 : decode b_Mo_hangs 279 = .ok (.aload_n 0, 1) := by decide +kernel
theorem d_Mo_hangs_280 : decode b_Mo_hangs 280 = .ok (.getfield 53, 3) := by decide +kernel
theorem d_Mo_hangs_283 : decode b_Mo_hangs 283 = .ok (.iload_n 2, 1) := by decide +kernel
theorem d_Mo_hangs_284 : decode b_Mo_hangs 284 = .ok (.iaload, 1) := by decide +kernel
theorem d_Mo_hangs_285 : decode b_Mo_hangs 285 = .ok (.iadd, 1) := by decide +kernel
theorem d_Mo_hangs_286 : decode b_Mo_hangs 286 = .ok (.iload 4, 2) := by decide +kernel
theorem d_Mo_hangs_288 : decode b_Mo_hangs 288 = .ok (.iastore, 1) := by decide +kernel
theorem d_Mo_hangs_289 : decode b_Mo_hangs 289 = .ok (.iinc 2 1, 3) := by decide +kernel
theorem d_Mo_hangs_292 : decode b_Mo_hangs 292 = .ok (.goto (-197), 3) := by decide +kernel
theorem d_Mo_hangs_295 : decode b_Mo_hangs 295 = .ok (.iload_n 1, 1) := by decide +kernel
theorem d_Mo_hangs_296 : decode b_Mo_hangs 296 = .ok (.ireturn, 1) := by decide +kernel
theorem d_Mo_goesOn_0 : decode b_Mo_goesOn 0 = .ok (.aload_n 0, 1) := by decide +kernel
theorem d_Mo_goesOn_1 : decode b_Mo_goesOn 1 = .ok (.getfield 162, 3) := by decide +kernel
theorem d_Mo_goesOn_4 : decode b_Mo_goesOn 4 = .ok (.iconst 1, 1) := by decide +kernel
theorem d_Mo_goesOn_5 : decode b_Mo_goesOn 5 = .ok (.isub, 1) := by decide +kernel
theorem d_Mo_goesOn_6 : decode b_Mo_goesOn 6 = .ok (.istore_n 2, 1) := by decide +kernel
theorem d_Mo_goesOn_7 : decode b_Mo_goesOn 7 = .ok (.iload_n 2, 1) := by decide +kernel
theorem d_Mo_goesOn_8 : decode b_Mo_goesOn 8 = .ok (.ifCond .lt 27, 3) := by decide +kernel
theorem d_Mo_goesOn_11 : decode b_Mo_goesOn 11 = .ok (.aload_n 0, 1) := by decide +kernel
theorem d_Mo_goesOn_12 : decode b_Mo_goesOn 12 = .ok (.getfield 62, 3) := by decide +kernel
theorem d_Mo_goesOn_15 : decode b_Mo_goesOn 15 = .ok (.iload_n 2, 1) := by decide +kernel
theorem d_Mo_goesOn_16 : decode b_Mo_goesOn 16 = .ok (.iaload, 1) := by decide +kernel
theorem d_Mo_goesOn_17 : decode b_Mo_goesOn 17 = .ok (.iload_n 1, 1) := by decide +kernel
theorem d_Mo_goesOn_18 : decode b_Mo_goesOn 18 = .ok (.if_icmp .ne 17, 3) := by decide +kernel
theorem d_Mo_goesOn_21 : decode b_Mo_goesOn 21 = .ok (.aload_n 0, 1) := by decide +kernel
theorem d_Mo_goesOn_22 : decode b_Mo_goesOn 22 = .ok (.getfield 62, 3) := by decide +kernel
theorem d_Mo_goesOn_25 : decode b_Mo_goesOn 25 = .ok (.iload_n 2, 1) := by decide +kernel
theorem d_Mo_goesOn_26 : decode b_Mo_goesOn 26 = .ok (.iload_n 1, 1) := by decide +kernel
theorem d_Mo_goesOn_27 : decode b_Mo_goesOn 27 = .ok (.ineg, 1) := by decide +kernel
theorem d_Mo_goesOn_28 : decode b_Mo_goesOn 28 = .ok (.iastore, 1) := by decide +kernel
theorem d_Mo_goesOn_29 : decode b_Mo_goesOn 29 = .ok (.iinc 2 (-1), 3) := by decide +kernel
theorem d_Mo_goesOn_32 : decode b_Mo_goesOn 32 = .ok (.goto (-25), 3) := by decide +kernel
theorem d_Mo_goesOn_35 : decode b_Mo_goesOn 35 = .ok (.iload_n 2, 1) := by decide +kernel
theorem d_Mo_goesOn_36 : decode b_Mo_goesOn 36 = .ok (.ifCond .ge 5, 3) := by decide +kernel
theorem d_Mo_goesOn_39 : decode b_Mo_goesOn 39 = .ok (.iconst 0, 1) := by decide +kernel
theorem d_Mo_goesOn_40 : decode b_Mo_goesOn 40 = .ok (.ireturn, 1) := by decide +kernel
theorem d_Mo_goesOn_41 : decode b_Mo_goesOn 41 = .ok (.aload_n 0, 1) := by decide +kernel
theorem d_Mo_goesOn_42 : decode b_Mo_goesOn 42 = .ok (.getfield 62, 3) := by decide +kernel
theorem d_Mo_goesOn_45 : decode b_Mo_goesOn 45 = .ok (.iload_n 2, 1) := by decide +kernel
theorem d_Mo_goesOn_46 : decode b_Mo_goesOn 46 = .ok (.dup2, 1) := by decide +kernel
theorem d_Mo_goesOn_47 : decode b_Mo_goesOn 47 = .ok (.iaload, 1) := by decide +kernel
theorem d_Mo_goesOn_48 : decode b_Mo_goesOn 48 = .ok (.iconst 1, 1) := by decide +kernel
theorem d_Mo_goesOn_49 : decode b_Mo_goesOn 49 = .ok (.iadd, 1) := by decide +kernel
theorem d_Mo_goesOn_50 : decode b_Mo_goesOn 50 = .ok (.iastore, 1) := by decide +kernel
theorem d_Mo_goesOn_51 : decode b_Mo_goesOn 51 = .ok (.iconst 1, 1) := by decide +kernel
theorem d_Mo_goesOn_52 : decode b_Mo_goesOn 52 = .ok (.ireturn, 1) := by decide +kernel
theorem d_Mo_find_0 : decode b_Mo_find 0 = .ok (.aload_n 0, 1) := by decide +kernel
theorem d_Mo_find_1 : decode b_Mo_find 1 = .ok (.iload_n 1, 1) := by decide +kernel
theorem d_Mo_find_2 : decode b_Mo_find 2 = .ok (.ifCond .lt 8, 3) := by decide +kernel
theorem d_Mo_find_5 : decode b_Mo_find 5 = .ok (.iload_n 1, 1) := by decide +kernel
theorem d_Mo_find_6 : decode b_Mo_find 6 = .ok (.iconst 2, 1) := by decide +kernel
theorem d_Mo_find_7 : decode b_Mo_find 7 = .ok (.if_icmp .le 7, 3) := by decide +kernel
theorem d_Mo_find_10 : decode b_Mo_find 10 = .ok (.iconst 1, 1) := by decide +kernel
theorem d_Mo_find_11 : decode b_Mo_find 11 = .ok (.goto 4, 3) := by decide +kernel
theorem d_Mo_find_14 : decode b_Mo_find 14 = .ok (.iconst 0, 1) := by decide +kernel
theorem d_Mo_find_15 : decode b_Mo_find 15 = .ok (.iconst 0, 1) := by decide +kernel
theorem d_Mo_find_16 : decode b_Mo_find 16 = .ok (.iconst 0, 1) := by decide +kernel
theorem d_Mo_find_17 : decode b_Mo_find 17 = .ok (.invokevirtual 109, 3) := by decide +kernel
theorem d_Mo_find_20 : decode b_Mo_find 20 = .ok (.ifCond .eq 5, 3) := by decide +kernel
theorem d_Mo_find_23 : decode b_Mo_find 23 = .ok (.iconst 0, 1) := by decide +kernel
theorem d_Mo_find_24 : decode b_Mo_find 24 = .ok (.ireturn, 1) := by decide +kernel
theorem d_Mo_find_25 : decode b_Mo_find 25 = .ok (.aload_n 0, 1) := by decide +kernel
theorem d_Mo_find_26 : decode b_Mo_find 26 = .ok (.invokevirtual 165, 3) := by decide +kernel
theorem d_Mo_find_29 : decode b_Mo_find 29 = .ok (.iconst 0, 1) := by decide +kernel
theorem d_Mo_find_30 : decode b_Mo_find 30 = .ok (.istore_n 2, 1) := by decide +kernel
theorem d_Mo_find_31 : decode b_Mo_find 31 = .ok (.iload_n 2, 1) := by decide +kernel
theorem d_Mo_find_32 : decode b_Mo_find 32 = .ok (.aload_n 0, 1) := by decide +kernel
theorem d_Mo_find_33 : decode b_Mo_find 33 = .ok (.getfield 162, 3) := by decide +kernel
theorem d_Mo_find_36 : decode b_Mo_find 36 = .ok (.if_icmp .ge 17, 3) := by decide +kernel
theorem d_Mo_find_39 : decode b_Mo_find 39 = .ok (.aload_n 0, 1) := by decide +kernel
theorem d_Mo_find_40 : decode b_Mo_find 40 = .ok (.getfield 62, 3) := by decide +kernel
theorem d_Mo_find_43 : decode b_Mo_find 43 = .ok (.iload_n 2, 1) := by decide +kernel
theorem d_Mo_find_44 : decode b_Mo_find 44 = .ok (.iload_n 1, 1) := by decide +kernel
theorem d_Mo_find_45 : decode b_Mo_find 45 = .ok (.ineg, 1) := by decide +kernel
theorem d_Mo_find_46 : decode b_Mo_find 46 = .ok (.iastore, 1) := by decide +kernel
theorem d_Mo_find_47 : decode b_Mo_find 47 = .ok (.iinc 2 1, 3) := by decide +kernel
theorem d_Mo_find_50 : decode b_Mo_find 50 = .ok (.goto (-19), 3) := by decide +kernel
theorem d_Mo_find_53 : decode b_Mo_find 53 = .ok (.iconst 0, 1) := by decide +kernel
theorem d_Mo_find_54 : decode b_Mo_find 54 = .ok (.istore_n 2, 1) := by decide +kernel
theorem d_Mo_find_55 : decode b_Mo_find 55 = .ok (.iconst 1, 1) := by decide +kernel
theorem d_Mo_find_56 : decode b_Mo_find 56 = .ok (.istore_n 3, 1) := by decide +kernel
theorem d_Mo_find_57 : decode b_Mo_find 57 = .ok (.iload_n 3, 1) := by decide +kernel
theorem d_Mo_find_58 : decode b_Mo_find 58 = .ok (.ifCond .eq 80, 3) := by decide +kernel
theorem d_Mo_find_61 : decode b_Mo_find 61 = .ok (.aload_n 0, 1) := by decide +kernel
theorem d_Mo_find_62 : decode b_Mo_find 62 = .ok (.invokevirtual 168, 3) := by decide +kernel
theorem d_Mo_find_65 : decode b_Mo_find 65 = .ok (.ifCond .eq 61, 3) := by decide +kernel
theorem d_Mo_find_68 : decode b_Mo_find 68 = .ok (.aload_n 0, 1) := by decide +kernel
theorem d_Mo_find_69 : decode b_Mo_find 69 = .ok (.aload_n 0, 1) := by decide +kernel
theorem d_Mo_find_70 : decode b_Mo_find 70 = .ok (.getfield 59, 3) := by decide +kernel
theorem d_Mo_find_73 : decode b_Mo_find 73 = .ok (.invokevirtual 149, 3) := by decide +kernel
theorem d_Mo_find_76 : decode b_Mo_find 76 = .ok (.ifCond .eq 50, 3) := by decide +kernel
theorem d_Mo_find_79 : decode b_Mo_find 79 = .ok (.aload_n 0, 1) := by decide +kernel
theorem d_Mo_find_80 : decode b_Mo_find 80 = .ok (.aload_n 0, 1) := by decide +kernel
theorem d_Mo_find_81 : decode b_Mo_find 81 = .ok (.getfield 59, 3) := by decide +kernel
theorem d_Mo_find_84 : decode b_Mo_find 84 = .ok (.invokevirtual 153, 3) := by decide +kernel
theorem d_Mo_find_87 : decode b_Mo_find 87 = .ok (.ifCond .eq 39, 3) := by decide +kernel
theorem d_Mo_find_90 : decode b_Mo_find 90 = .ok (.iconst 0, 1) := by decide +kernel
theorem d_Mo_find_91 : decode b_Mo_find 91 = .ok (.istore 4, 2) := by decide +kernel
theorem d_Mo_find_93 : decode b_Mo_find 93 = .ok (.iload 4, 2) := by decide +kernel
theorem d_Mo_find_95 : decode b_Mo_find 95 = .ok (.bipush 36, 2) := by decide +kernel
theorem d_Mo_find_97 : decode b_Mo_find 97 = .ok (.if_icmp .ge 23, 3) := by decide +kernel
theorem d_Mo_find_100 : decode b_Mo_find 100 = .ok (.aload_n 0, 1) := by decide +kernel
theorem d_Mo_find_101 : decode b_Mo_find 101 = .ok (.getfield 22, 3) := by decide +kernel
theorem d_Mo_find_104 : decode b_Mo_find 104 = .ok (.iload 4, 2) := by decide +kernel
theorem d_Mo_find_106 : decode b_Mo_find 106 = .ok (.aload_n 0, 1) := by decide +kernel
theorem d_Mo_find_107 : decode b_Mo_find 107 = .ok (.getfield 59, 3) := by decide +kernel
theorem d_Mo_find_110 : decode b_Mo_find 110 = .ok (.iload 4, 2) := by decide +kernel
theorem d_Mo_find_112 : decode b_Mo_find 112 = .ok (.iaload, 1) := by decide +kernel
theorem d_Mo_find_113 : decode b_Mo_find 113 = .ok (.iastore, 1) := by decide +kernel
theorem d_Mo_find_114 : decode b_Mo_find 114 = .ok (.iinc 4 1, 3) := by decide +kernel
theorem d_Mo_find_117 : decode b_Mo_find 117 = .ok (.goto (-24), 3) := by decide +kernel
theorem d_Mo_find_120 : decode b_Mo_find 120 = .ok (.aload_n 0, 1) := by decide +kernel
theorem d_Mo_find_121 : decode b_Mo_find 121 = .ok (.invokevirtual 156, 3) := by decide +kernel
theorem d_Mo_find_124 : decode b_Mo_find 124 = .ok (.iload_n 2, 1) := by decide +kernel
theorem d_Mo_find_125 : decode b_Mo_find 125 = .ok (.ireturn, 1) := by decide +kernel
theorem d_Mo_find_126 : decode b_Mo_find 126 = .ok (.iinc 2 1, 3) := by decide +kernel
theorem d_Mo_find_129 : decode b_Mo_find 129 = .ok (.aload_n 0, 1) := by decide +kernel
theorem d_Mo_find_130 : decode b_Mo_find 130 = .ok (.iload_n 1, 1) := by decide +kernel
theorem d_Mo_find_131 : decode b_Mo_find 131 = .ok (.invokevirtual 172, 3) := by decide +kernel
theorem d_Mo_find_134 : decode b_Mo_find 134 = .ok (.istore_n 3, 1) := by decide +kernel
theorem d_Mo_find_135 : decode b_Mo_find 135 = .ok (.goto (-78), 3) := by decide +kernel
theorem d_Mo_find_138 : decode b_Mo_find 138 = .ok (.iconst (-1), 1) := by decide +kernel
theorem d_Mo_find_139 : decode b_Mo_find 139 = .ok (.ireturn, 1) := by decide +kernel
