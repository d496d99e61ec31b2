theorem d_La_law_0 : decode b_La_law 0 = .ok (.new 8, 3) := by decide +kernel
theorem d_La_law_3 : decode b_La_law 3 = .ok (.dup, 1) := by decide +kernel
theorem d_La_law_4 : decode b_La_law 4 = .ok (.aload_n 0, 1) := by decide +kernel
theorem d_La_law_5 : decode b_La_law 5 = .ok (.iconst 0, 1) := by decide +kernel
theorem d_La_law_6 : decode b_La_law 6 = .ok (.invokestatic 48, 3) := by decide +kernel
theorem d_La_law_9 : decode b_La_law 9 = .ok (.invokespecial 54, 3) := by decide +kernel
theorem d_La_law_12 : decode b_La_law 12 = .ok (.astore_n 1, 1) := by decide +kernel
theorem d_La_law_13 : decode b_La_law 13 = .ok (.new 57, 3) := by decide +kernel
theorem d_La_law_16 : decode b_La_law 16 = .ok (.dup, 1) := by decide +kernel
theorem d_La_law_17 : decode b_La_law 17 = .ok (.aload_n 0, 1) := by decide +kernel
theorem d_La_law_18 : decode b_La_law 18 = .ok (.iconst 0, 1) := by decide +kernel
theorem d_La_law_19 : decode b_La_law 19 = .ok (.invokestatic 48, 3) := by decide +kernel
theorem d_La_law_22 : decode b_La_law 22 = .ok (.invokespecial 59, 3) := by decide +kernel
theorem d_La_law_25 : decode b_La_law 25 = .ok (.astore_n 2, 1) := by decide +kernel
theorem d_La_law_26 : decode b_La_law 26 = .ok (.iconst 1, 1) := by decide +kernel
theorem d_La_law_27 : decode b_La_law 27 = .ok (.newarray .long, 2) := by decide +kernel
theorem d_La_law_29 : decode b_La_law 29 = .ok (.astore_n 3, 1) := by decide +kernel
theorem d_La_law_30 : decode b_La_law 30 = .ok (.iconst 1, 1) := by decide +kernel
theorem d_La_law_31 : decode b_La_law 31 = .ok (.istore 4, 2) := by decide +kernel
theorem d_La_law_33 : decode b_La_law 33 = .ok (.iload 4, 2) := by decide +kernel
theorem d_La_law_35 : decode b_La_law 35 = .ok (.aload_n 0, 1) := by decide +kernel
theorem d_La_law_36 : decode b_La_law 36 = .ok (.arraylength, 1) := by decide +kernel
theorem d_La_law_37 : decode b_La_law 37 = .ok (.iconst 4, 1) := by decide +kernel
theorem d_La_law_38 : decode b_La_law 38 = .ok (.isub, 1) := by decide +kernel
theorem d_La_law_39 : decode b_La_law 39 = .ok (.if_icmp .gt 785, 3) := by decide +kernel
theorem d_La_law_42 : decode b_La_law 42 = .ok (.aload_n 0, 1) := by decide +kernel
theorem d_La_law_43 : decode b_La_law 43 = .ok (.iload 4, 2) := by decide +kernel
theorem d_La_law_45 : decode b_La_law 45 = .ok (.iaload, 1) := by decide +kernel
theorem d_La_law_46 : decode b_La_law 46 = .ok (.bipush 15, 2) := by decide +kernel
theorem d_La_law_48 : decode b_La_law 48 = .ok (.iand, 1) := by decide +kernel
theorem d_La_law_49 : decode b_La_law 49 = .ok (.tableswitch 769 0 13 #[71, 158, 171, 239, 326, 394, 407, 451, 518, 597, 610, 666, 733, 758], 71) := by decide +kernel
theorem d_La_law_120 : decode b_La_law 120 = .ok (.aload_n 1, 1) := by decide +kernel
theorem d_La_law_121 : decode b_La_law 121 = .ok (.aload_n 0, 1) := by decide +kernel
theorem d_La_law_122 : decode b_La_law 122 = .ok (.iload 4, 2) := by decide +kernel
theorem d_La_law_124 : decode b_La_law 124 = .ok (.iconst 1, 1) := by decide +kernel
theorem d_La_law_125 : decode b_La_law 125 = .ok (.iadd, 1) := by decide +kernel
theorem d_La_law_126 : decode b_La_law 126 = .ok (.iaload, 1) := by decide +kernel
theorem d_La_law_127 : decode b_La_law 127 = .ok (.aload_n 0, 1) := by decide +kernel
theorem d_La_law_128 : decode b_La_law 128 = .ok (.iload 4, 2) := by decide +kernel
theorem d_La_law_130 : decode b_La_law 130 = .ok (.iconst 2, 1) := by decide +kernel
theorem d_La_law_131 : decode b_La_law 131 = .ok (.iadd, 1) := by decide +kernel
theorem d_La_law_132 : decode b_La_law 132 = .ok (.iaload, 1) := by decide +kernel
theorem d_La_law_133 : decode b_La_law 133 = .ok (.aload_n 0, 1) := by decide +kernel
theorem d_La_law_134 : decode b_La_law 134 = .ok (.iload 4, 2) := by decide +kernel
theorem d_La_law_136 : decode b_La_law 136 = .ok (.iconst 3, 1) := by decide +kernel
theorem d_La_law_137 : decode b_La_law 137 = .ok (.iadd, 1) := by decide +kernel
theorem d_La_law_138 : decode b_La_law 138 = .ok (.iaload, 1) := by decide +kernel
theorem d_La_law_139 : decode b_La_law 139 = .ok (.aload_n 3, 1) := by decide +kernel
theorem d_La_law_140 : decode b_La_law 140 = .ok (.invokestatic 60, 3) := by decide +kernel
theorem d_La_law_143 : decode b_La_law 143 = .ok (.istore 5, 2) := by decide +kernel
theorem d_La_law_145 : decode b_La_law 145 = .ok (.aload_n 2, 1) := by decide +kernel
theorem d_La_law_146 : decode b_La_law 146 = .ok (.aload_n 0, 1) := by decide +kernel
theorem d_La_law_147 : decode b_La_law 147 = .ok (.iload 4, 2) := by decide +kernel
theorem d_La_law_149 : decode b_La_law 149 = .ok (.iconst 1, 1) := by decide +kernel
theorem d_La_law_150 : decode b_La_law 150 = .ok (.iadd, 1) := by decide +kernel
theorem d_La_law_151 : decode b_La_law 151 = .ok (.iaload, 1) := by decide +kernel
theorem d_La_law_152 : decode b_La_law 152 = .ok (.aload_n 0, 1) := by decide +kernel
theorem d_La_law_153 : decode b_La_law 153 = .ok (.iload 4, 2) := by decide +kernel
theorem d_La_law_155 : decode b_La_law 155 = .ok (.iconst 2, 1) := by decide +kernel
theorem d_La_law_156 : decode b_La_law 156 = .ok (.iadd, 1) := by decide +kernel
theorem d_La_law_157 : decode b_La_law 157 = .ok (.iaload, 1) := by decide +kernel
theorem d_La_law_158 : decode b_La_law 158 = .ok (.aload_n 0, 1) := by decide +kernel
theorem d_La_law_159 : decode b_La_law 159 = .ok (.iload 4, 2) := by decide +kernel
theorem d_La_law_161 : decode b_La_law 161 = .ok (.iconst 3, 1) := by decide +kernel
theorem d_La_law_162 : decode b_La_law 162 = .ok (.iadd, 1) := by decide +kernel
theorem d_La_law_163 : decode b_La_law 163 = .ok (.iaload, 1) := by decide +kernel
theorem d_La_law_164 : decode b_La_law 164 = .ok (.invokevirtual 63, 3) := by decide +kernel
theorem d_La_law_167 : decode b_La_law 167 = .ok (.istore 6, 2) := by decide +kernel
theorem d_La_law_169 : decode b_La_law 169 = .ok (.aload_n 2, 1) := by decide +kernel
theorem d_La_law_170 : decode b_La_law 170 = .ok (.invokevirtual 64, 3) := by decide +kernel
theorem d_La_law_173 : decode b_La_law 173 = .ok (.iload 5, 2) := by decide +kernel
theorem d_La_law_175 : decode b_La_law 175 = .ok (.if_icmp .eq 5, 3) := by decide +kernel
theorem d_La_law_178 : decode b_La_law 178 = .ok (.iconst 0, 1) := by decide +kernel
theorem d_La_law_179 : decode b_La_law 179 = .ok (.ireturn, 1) := by decide +kernel
theorem d_La_law_180 : decode b_La_law 180 = .ok (.iload 5, 2) := by decide +kernel
theorem d_La_law_182 : decode b_La_law 182 = .ok (.ifCond .ne 22, 3) := by decide +kernel
theorem d_La_law_185 : decode b_La_law 185 = .ok (.aload_n 3, 1) := by decide +kernel
theorem d_La_law_186 : decode b_La_law 186 = .ok (.iconst 0, 1) := by decide +kernel
theorem d_La_law_187 : decode b_La_law 187 = .ok (.laload, 1) := by decide +kernel
theorem d_La_law_188 : decode b_La_law 188 = .ok (.iload 6, 2) := by decide +kernel
theorem d_La_law_190 : decode b_La_law 190 = .ok (.ifCond .eq 7, 3) := by decide +kernel
theorem d_La_law_193 : decode b_La_law 193 = .ok (.lconst 1, 1) := by decide +kernel
theorem d_La_law_194 : decode b_La_law 194 = .ok (.goto 4, 3) := by decide +kernel
theorem d_La_law_197 : decode b_La_law 197 = .ok (.lconst 0, 1) := by decide +kernel
theorem d_La_law_198 : decode b_La_law 198 = .ok (.lcmp, 1) := by decide +kernel
theorem d_La_law_199 : decode b_La_law 199 = .ok (.ifCond .eq 5, 3) := by decide +kernel
theorem d_La_law_202 : decode b_La_law 202 = .ok (.iconst 0, 1) := by decide +kernel
theorem d_La_law_203 : decode b_La_law 203 = .ok (.ireturn, 1) := by decide +kernel
theorem d_La_law_204 : decode b_La_law 204 = .ok (.goto 614, 3) := by decide +kernel
theorem d_La_law_207 : decode b_La_law 207 = .ok (.aload_n 1, 1) := by decide +kernel
theorem d_La_law_208 : decode b_La_law 208 = .ok (.invokevirtual 67, 3) := by decide +kernel
theorem d_La_law_211 : decode b_La_law 211 = .ok (.aload_n 2, 1) := by decide +kernel
theorem d_La_law_212 : decode b_La_law 212 = .ok (.invokevirtual 70, 3) := by decide +kernel
theorem d_La_law_215 : decode b_La_law 215 = .ok (.if_icmp .eq 603, 3) := by decide +kernel
theorem d_La_law_218 : decode b_La_law 218 = .ok (.iconst 0, 1) := by decide +kernel
theorem d_La_law_219 : decode b_La_law 219 = .ok (.ireturn, 1) := by decide +kernel
theorem d_La_law_220 : decode b_La_law 220 = .ok (.aload_n 1, 1) := by decide +kernel
theorem d_La_law_221 : decode b_La_law 221 = .ok (.aload_n 0, 1) := by decide +kernel
theorem d_La_law_222 : decode b_La_law 222 = .ok (.iload 4, 2) := by decide +kernel
theorem d_La_law_224 : decode b_La_law 224 = .ok (.iconst 1, 1) := by decide +kernel
theorem d_La_law_225 : decode b_La_law 225 = .ok (.iadd, 1) := by decide +kernel
theorem d_La_law_226 : decode b_La_law 226 = .ok (.iaload, 1) := by decide +kernel
theorem d_La_law_227 : decode b_La_law 227 = .ok (.aload_n 0, 1) := by decide +kernel
theorem d_La_law_228 : decode b_La_law 228 = .ok (.iload 4, 2) := by decide +kernel
theorem d_La_law_230 : decode b_La_law 230 = .ok (.iconst 2, 1) := by decide +kernel
theorem d_La_law_231 : decode b_La_law 231 = .ok (.iadd, 1) := by decide +kernel
theorem d_La_law_232 : decode b_La_law 232 = .ok (.iaload, 1) := by decide +kernel
theorem d_La_law_233 : decode b_La_law 233 = .ok (.aload_n 3, 1) := by decide +kernel
theorem d_La_law_234 : decode b_La_law 234 = .ok (.invokestatic 71, 3) := by decide +kernel
theorem d_La_law_237 : decode b_La_law 237 = .ok (.istore 5, 2) := by decide +kernel
theorem d_La_law_239 : decode b_La_law 239 = .ok (.aload_n 2, 1) := by decide +kernel
theorem d_La_law_240 : decode b_La_law 240 = .ok (.aload_n 0, 1) := by decide +kernel
theorem d_La_law_241 : decode b_La_law 241 = .ok (.iload 4, 2) := by decide +kernel
theorem d_La_law_243 : decode b_La_law 243 = .ok (.iconst 1, 1) := by decide +kernel
theorem d_La_law_244 : decode b_La_law 244 = .ok (.iadd, 1) := by decide +kernel
theorem d_La_law_245 : decode b_La_law 245 = .ok (.iaload, 1) := by decide +kernel
theorem d_La_law_246 : decode b_La_law 246 = .ok (.aload_n 0, 1) := by decide +kernel
theorem d_La_law_247 : decode b_La_law 247 = .ok (.iload 4, 2) := by decide +kernel
theorem d_La_law_249 : decode b_La_law 249 = .ok (.iconst 2, 1) := by decide +kernel
theorem d_La_law_250 : decode b_La_law 250 = .ok (.iadd, 1) := by decide +kernel
theorem d_La_law_251 : decode b_La_law 251 = .ok (.iaload, 1) := by decide +kernel
theorem d_La_law_252 : decode b_La_law 252 = .ok (.invokevirtual 74, 3) := by decide +kernel
theorem d_La_law_255 : decode b_La_law 255 = .ok (.istore 6, 2) := by decide +kernel
theorem d_La_law_257 : decode b_La_law 257 = .ok (.aload_n 2, 1) := by decide +kernel
theorem d_La_law_258 : decode b_La_law 258 = .ok (.invokevirtual 64, 3) := by decide +kernel
