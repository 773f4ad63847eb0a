theorem dX6_takes_0 : decode cX6_takes 0 = .ok (.aload_n 0, 1) := by decide +kernel
theorem dX6_takes_1 : decode cX6_takes 1 = .ok (.invokevirtual 62, 3) := by decide +kernel
theorem dX6_takes_4 : decode cX6_takes 4 = .ok (.iload_n 1, 1) := by decide +kernel
theorem dX6_takes_5 : decode cX6_takes 5 = .ok (.if_icmp .eq 5, 3) := by decide +kernel
theorem dX6_takes_8 : decode cX6_takes 8 = .ok (.iconst 0, 1) := by decide +kernel
theorem dX6_takes_9 : decode cX6_takes 9 = .ok (.ireturn, 1) := by decide +kernel
theorem dX6_takes_10 : decode cX6_takes 10 = .ok (.aload_n 0, 1) := by decide +kernel
theorem dX6_takes_11 : decode cX6_takes 11 = .ok (.dup, 1) := by decide +kernel
theorem dX6_takes_12 : decode cX6_takes 12 = .ok (.getfield 53, 3) := by decide +kernel
theorem dX6_takes_15 : decode cX6_takes 15 = .ok (.iconst 1, 1) := by decide +kernel
theorem dX6_takes_16 : decode cX6_takes 16 = .ok (.iadd, 1) := by decide +kernel
theorem dX6_takes_17 : decode cX6_takes 17 = .ok (.putfield 53, 3) := by decide +kernel
theorem dX6_takes_20 : decode cX6_takes 20 = .ok (.iconst 1, 1) := by decide +kernel
theorem dX6_takes_21 : decode cX6_takes 21 = .ok (.ireturn, 1) := by decide +kernel
theorem dX6_readsStatement_0 : decode cX6_readsStatement 0 = .ok (.aload_n 0, 1) := by decide +kernel
theorem dX6_readsStatement_1 : decode cX6_readsStatement 1 = .ok (.invokevirtual 62, 3) := by decide +kernel
theorem dX6_readsStatement_4 : decode cX6_readsStatement 4 = .ok (.istore_n 1, 1) := by decide +kernel
theorem dX6_readsStatement_5 : decode cX6_readsStatement 5 = .ok (.aload_n 0, 1) := by decide +kernel
theorem dX6_readsStatement_6 : decode cX6_readsStatement 6 = .ok (.iconst 0, 1) := by decide +kernel
theorem dX6_readsStatement_7 : decode cX6_readsStatement 7 = .ok (.putfield 74, 3) := by decide +kernel
theorem dX6_readsStatement_10 : decode cX6_readsStatement 10 = .ok (.iconst 0, 1) := by decide +kernel
theorem dX6_readsStatement_11 : decode cX6_readsStatement 11 = .ok (.istore_n 2, 1) := by decide +kernel
theorem dX6_readsStatement_12 : decode cX6_readsStatement 12 = .ok (.aload_n 0, 1) := by decide +kernel
theorem dX6_readsStatement_13 : decode cX6_readsStatement 13 = .ok (.dup, 1) := by decide +kernel
theorem dX6_readsStatement_14 : decode cX6_readsStatement 14 = .ok (.getfield 53, 3) := by decide +kernel
theorem dX6_readsStatement_17 : decode cX6_readsStatement 17 = .ok (.iconst 1, 1) := by decide +kernel
theorem dX6_readsStatement_18 : decode cX6_readsStatement 18 = .ok (.iadd, 1) := by decide +kernel
theorem dX6_readsStatement_19 : decode cX6_readsStatement 19 = .ok (.putfield 53, 3) := by decide +kernel
theorem dX6_readsStatement_22 : decode cX6_readsStatement 22 = .ok (.iload_n 1, 1) := by decide +kernel
theorem dX6_readsStatement_23 : decode cX6_readsStatement 23 = .ok (.lookupswitch 228 #[(97, 175), (100, 133), (112, 57), (115, 90), (118, 124), (121, 142)], 57) := by decide +kernel
theorem dX6_readsStatement_80 : decode cX6_readsStatement 80 = .ok (.aload_n 0, 1) := by decide +kernel
theorem dX6_readsStatement_81 : decode cX6_readsStatement 81 = .ok (.iconst 1, 1) := by decide +kernel
theorem dX6_readsStatement_82 : decode cX6_readsStatement 82 = .ok (.invokevirtual 77, 3) := by decide +kernel
theorem dX6_readsStatement_85 : decode cX6_readsStatement 85 = .ok (.ifCond .eq 23, 3) := by decide +kernel
theorem dX6_readsStatement_88 : decode cX6_readsStatement 88 = .ok (.aload_n 0, 1) := by decide +kernel
theorem dX6_readsStatement_89 : decode cX6_readsStatement 89 = .ok (.iconst 1, 1) := by decide +kernel
theorem dX6_readsStatement_90 : decode cX6_readsStatement 90 = .ok (.invokevirtual 77, 3) := by decide +kernel
theorem dX6_readsStatement_93 : decode cX6_readsStatement 93 = .ok (.ifCond .eq 15, 3) := by decide +kernel
theorem dX6_readsStatement_96 : decode cX6_readsStatement 96 = .ok (.aload_n 0, 1) := by decide +kernel
theorem dX6_readsStatement_97 : decode cX6_readsStatement 97 = .ok (.iconst 3, 1) := by decide +kernel
theorem dX6_readsStatement_98 : decode cX6_readsStatement 98 = .ok (.invokevirtual 77, 3) := by decide +kernel
theorem dX6_readsStatement_101 : decode cX6_readsStatement 101 = .ok (.ifCond .eq 7, 3) := by decide +kernel
theorem dX6_readsStatement_104 : decode cX6_readsStatement 104 = .ok (.iconst 1, 1) := by decide +kernel
theorem dX6_readsStatement_105 : decode cX6_readsStatement 105 = .ok (.goto 4, 3) := by decide +kernel
theorem dX6_readsStatement_108 : decode cX6_readsStatement 108 = .ok (.iconst 0, 1) := by decide +kernel
theorem dX6_readsStatement_109 : decode cX6_readsStatement 109 = .ok (.istore_n 2, 1) := by decide +kernel
theorem dX6_readsStatement_110 : decode cX6_readsStatement 110 = .ok (.goto 153, 3) := by decide +kernel
theorem dX6_readsStatement_113 : decode cX6_readsStatement 113 = .ok (.aload_n 0, 1) := by decide +kernel
theorem dX6_readsStatement_114 : decode cX6_readsStatement 114 = .ok (.iconst 3, 1) := by decide +kernel
theorem dX6_readsStatement_115 : decode cX6_readsStatement 115 = .ok (.invokevirtual 77, 3) := by decide +kernel
theorem dX6_readsStatement_118 : decode cX6_readsStatement 118 = .ok (.ifCond .eq 24, 3) := by decide +kernel
theorem dX6_readsStatement_121 : decode cX6_readsStatement 121 = .ok (.aload_n 0, 1) := by decide +kernel
theorem dX6_readsStatement_122 : decode cX6_readsStatement 122 = .ok (.bipush 32, 2) := by decide +kernel
theorem dX6_readsStatement_124 : decode cX6_readsStatement 124 = .ok (.invokevirtual 81, 3) := by decide +kernel
theorem dX6_readsStatement_127 : decode cX6_readsStatement 127 = .ok (.ifCond .eq 15, 3) := by decide +kernel
theorem dX6_readsStatement_130 : decode cX6_readsStatement 130 = .ok (.aload_n 0, 1) := by decide +kernel
theorem dX6_readsStatement_131 : decode cX6_readsStatement 131 = .ok (.iconst 3, 1) := by decide +kernel
theorem dX6_readsStatement_132 : decode cX6_readsStatement 132 = .ok (.invokevirtual 77, 3) := by decide +kernel
theorem dX6_readsStatement_135 : decode cX6_readsStatement 135 = .ok (.ifCond .eq 7, 3) := by decide +kernel
theorem dX6_readsStatement_138 : decode cX6_readsStatement 138 = .ok (.iconst 1, 1) := by decide +kernel
theorem dX6_readsStatement_139 : decode cX6_readsStatement 139 = .ok (.goto 4, 3) := by decide +kernel
theorem dX6_readsStatement_142 : decode cX6_readsStatement 142 = .ok (.iconst 0, 1) := by decide +kernel
theorem dX6_readsStatement_143 : decode cX6_readsStatement 143 = .ok (.istore_n 2, 1) := by decide +kernel
theorem dX6_readsStatement_144 : decode cX6_readsStatement 144 = .ok (.goto 119, 3) := by decide +kernel
theorem dX6_readsStatement_147 : decode cX6_readsStatement 147 = .ok (.aload_n 0, 1) := by decide +kernel
theorem dX6_readsStatement_148 : decode cX6_readsStatement 148 = .ok (.iconst 1, 1) := by decide +kernel
theorem dX6_readsStatement_149 : decode cX6_readsStatement 149 = .ok (.invokevirtual 77, 3) := by decide +kernel
theorem dX6_readsStatement_152 : decode cX6_readsStatement 152 = .ok (.istore_n 2, 1) := by decide +kernel
theorem dX6_readsStatement_153 : decode cX6_readsStatement 153 = .ok (.goto 110, 3) := by decide +kernel
theorem dX6_readsStatement_156 : decode cX6_readsStatement 156 = .ok (.aload_n 0, 1) := by decide +kernel
theorem dX6_readsStatement_157 : decode cX6_readsStatement 157 = .ok (.iconst 3, 1) := by decide +kernel
theorem dX6_readsStatement_158 : decode cX6_readsStatement 158 = .ok (.invokevirtual 77, 3) := by decide +kernel
theorem dX6_readsStatement_161 : decode cX6_readsStatement 161 = .ok (.istore_n 2, 1) := by decide +kernel
theorem dX6_readsStatement_162 : decode cX6_readsStatement 162 = .ok (.goto 101, 3) := by decide +kernel
theorem dX6_readsStatement_165 : decode cX6_readsStatement 165 = .ok (.aload_n 0, 1) := by decide +kernel
theorem dX6_readsStatement_166 : decode cX6_readsStatement 166 = .ok (.iconst 1, 1) := by decide +kernel
theorem dX6_readsStatement_167 : decode cX6_readsStatement 167 = .ok (.invokevirtual 77, 3) := by decide +kernel
theorem dX6_readsStatement_170 : decode cX6_readsStatement 170 = .ok (.ifCond .eq 23, 3) := by decide +kernel
theorem dX6_readsStatement_173 : decode cX6_readsStatement 173 = .ok (.aload_n 0, 1) := by decide +kernel
theorem dX6_readsStatement_174 : decode cX6_readsStatement 174 = .ok (.iconst 1, 1) := by decide +kernel
theorem dX6_readsStatement_175 : decode cX6_readsStatement 175 = .ok (.invokevirtual 77, 3) := by decide +kernel
theorem dX6_readsStatement_178 : decode cX6_readsStatement 178 = .ok (.ifCond .eq 15, 3) := by decide +kernel
theorem dX6_readsStatement_181 : decode cX6_readsStatement 181 = .ok (.aload_n 0, 1) := by decide +kernel
theorem dX6_readsStatement_182 : decode cX6_readsStatement 182 = .ok (.iconst 1, 1) := by decide +kernel
theorem dX6_readsStatement_183 : decode cX6_readsStatement 183 = .ok (.invokevirtual 77, 3) := by decide +kernel
theorem dX6_readsStatement_186 : decode cX6_readsStatement 186 = .ok (.ifCond .eq 7, 3) := by decide +kernel
theorem dX6_readsStatement_189 : decode cX6_readsStatement 189 = .ok (.iconst 1, 1) := by decide +kernel
theorem dX6_readsStatement_190 : decode cX6_readsStatement 190 = .ok (.goto 4, 3) := by decide +kernel
theorem dX6_readsStatement_193 : decode cX6_readsStatement 193 = .ok (.iconst 0, 1) := by decide +kernel
theorem dX6_readsStatement_194 : decode cX6_readsStatement 194 = .ok (.istore_n 2, 1) := by decide +kernel
theorem dX6_readsStatement_195 : decode cX6_readsStatement 195 = .ok (.goto 68, 3) := by decide +kernel
theorem dX6_readsStatement_198 : decode cX6_readsStatement 198 = .ok (.aload_n 0, 1) := by decide +kernel
theorem dX6_readsStatement_199 : decode cX6_readsStatement 199 = .ok (.aload_n 0, 1) := by decide +kernel
theorem dX6_readsStatement_200 : decode cX6_readsStatement 200 = .ok (.invokevirtual 62, 3) := by decide +kernel
theorem dX6_readsStatement_203 : decode cX6_readsStatement 203 = .ok (.bipush 45, 2) := by decide +kernel
theorem dX6_readsStatement_205 : decode cX6_readsStatement 205 = .ok (.if_icmp .ne 7, 3) := by decide +kernel
theorem dX6_readsStatement_208 : decode cX6_readsStatement 208 = .ok (.iconst 1, 1) := by decide +kernel
theorem dX6_readsStatement_209 : decode cX6_readsStatement 209 = .ok (.goto 4, 3) := by decide +kernel
theorem dX6_readsStatement_212 : decode cX6_readsStatement 212 = .ok (.iconst 0, 1) := by decide +kernel
theorem dX6_readsStatement_213 : decode cX6_readsStatement 213 = .ok (.putfield 84, 3) := by decide +kernel
theorem dX6_readsStatement_216 : decode cX6_readsStatement 216 = .ok (.aload_n 0, 1) := by decide +kernel
theorem dX6_readsStatement_217 : decode cX6_readsStatement 217 = .ok (.bipush 43, 2) := by decide +kernel
theorem dX6_readsStatement_219 : decode cX6_readsStatement 219 = .ok (.invokevirtual 81, 3) := by decide +kernel
theorem dX6_readsStatement_222 : decode cX6_readsStatement 222 = .ok (.ifCond .ne 12, 3) := by decide +kernel
theorem dX6_readsStatement_225 : decode cX6_readsStatement 225 = .ok (.aload_n 0, 1) := by decide +kernel
theorem dX6_readsStatement_226 : decode cX6_readsStatement 226 = .ok (.bipush 45, 2) := by decide +kernel
theorem dX6_readsStatement_228 : decode cX6_readsStatement 228 = .ok (.invokevirtual 81, 3) := by decide +kernel
theorem dX6_readsStatement_231 : decode cX6_readsStatement 231 = .ok (.ifCond .eq 15, 3) := by decide +kernel
theorem dX6_readsStatement_234 : decode cX6_readsStatement 234 = .ok (.aload_n 0, 1) := by decide +kernel
theorem dX6_readsStatement_235 : decode cX6_readsStatement 235 = .ok (.iconst 3, 1) := by decide +kernel
theorem dX6_readsStatement_236 : decode cX6_readsStatement 236 = .ok (.invokevirtual 77, 3) := by decide +kernel
theorem dX6_readsStatement_239 : decode cX6_readsStatement 239 = .ok (.ifCond .eq 7, 3) := by decide +kernel
theorem dX6_readsStatement_242 : decode cX6_readsStatement 242 = .ok (.iconst 1, 1) := by decide +kernel
theorem dX6_readsStatement_243 : decode cX6_readsStatement 243 = .ok (.goto 4, 3) := by decide +kernel
theorem dX6_readsStatement_246 : decode cX6_readsStatement 246 = .ok (.iconst 0, 1) := by decide +kernel
theorem dX6_readsStatement_247 : decode cX6_readsStatement 247 = .ok (.istore_n 2, 1) := by decide +kernel
theorem dX6_readsStatement_248 : decode cX6_readsStatement 248 = .ok (.goto 15, 3) := by decide +kernel
theorem dX6_readsStatement_251 : decode cX6_readsStatement 251 = .ok (.aload_n 0, 1) := by decide +kernel
theorem dX6_readsStatement_252 : decode cX6_readsStatement 252 = .ok (.dup, 1) := by decide +kernel
theorem dX6_readsStatement_253 : decode cX6_readsStatement 253 = .ok (.getfield 53, 3) := by decide +kernel
theorem dX6_readsStatement_256 : decode cX6_readsStatement 256 = .ok (.iconst 1, 1) := by decide +kernel
theorem dX6_readsStatement_257 : decode cX6_readsStatement 257 = .ok (.isub, 1) := by decide +kernel
theorem dX6_readsStatement_258 : decode cX6_readsStatement 258 = .ok (.putfield 53, 3) := by decide +kernel
theorem dX6_readsStatement_261 : decode cX6_readsStatement 261 = .ok (.iconst 0, 1) := by decide +kernel
theorem dX6_readsStatement_262 : decode cX6_readsStatement 262 = .ok (.ireturn, 1) := by decide +kernel
theorem dX6_readsStatement_263 : decode cX6_readsStatement 263 = .ok (.iload_n 2, 1) := by decide +kernel
theorem dX6_readsStatement_264 : decode cX6_readsStatement 264 = .ok (.ifCond .eq 16, 3) := by decide +kernel
theorem dX6_readsStatement_267 : decode cX6_readsStatement 267 = .ok (.aload_n 0, 1) := by decide +kernel
theorem dX6_readsStatement_268 : decode cX6_readsStatement 268 = .ok (.bipush 59, 2) := by decide +kernel
theorem dX6_readsStatement_270 : decode cX6_readsStatement 270 = .ok (.invokevirtual 81, 3) := by decide +kernel
theorem dX6_readsStatement_273 : decode cX6_readsStatement 273 = .ok (.ifCond .eq 7, 3) := by decide +kernel
theorem dX6_readsStatement_276 : decode cX6_readsStatement 276 = .ok (.iconst 1, 1) := by decide +kernel
theorem dX6_readsStatement_277 : decode cX6_readsStatement 277 = .ok (.goto 4, 3) := by decide +kernel
theorem dX6_readsStatement_280 : decode cX6_readsStatement 280 = .ok (.iconst 0, 1) := by decide +kernel
theorem dX6_readsStatement_281 : decode cX6_readsStatement 281 = .ok (.ireturn, 1) := by decide +kernel
theorem dX6_isShelf_0 : decode cX6_isShelf 0 = .ok (.iload_n 0, 1) := by decide +kernel
theorem dX6_isShelf_1 : decode cX6_isShelf 1 = .ok (.i2l, 1) := by decide +kernel
theorem dX6_isShelf_2 : decode cX6_isShelf 2 = .ok (.lconst 0, 1) := by decide +kernel
theorem dX6_isShelf_3 : decode cX6_isShelf 3 = .ok (.ldc2_w 51, 3) := by decide +kernel
theorem dX6_isShelf_6 : decode cX6_isShelf 6 = .ok (.invokestatic 47, 3) := by decide +kernel
theorem dX6_isShelf_9 : decode cX6_isShelf 9 = .ok (.ireturn, 1) := by decide +kernel
theorem dX6_wrongRow_0 : decode cX6_wrongRow 0 = .ok (.iload_n 1, 1) := by decide +kernel
theorem dX6_wrongRow_1 : decode cX6_wrongRow 1 = .ok (.invokestatic 94, 3) := by decide +kernel
theorem dX6_wrongRow_4 : decode cX6_wrongRow 4 = .ok (.ifCond .ne 7, 3) := by decide +kernel
theorem dX6_wrongRow_7 : decode cX6_wrongRow 7 = .ok (.iconst (-1), 1) := by decide +kernel
theorem dX6_wrongRow_8 : decode cX6_wrongRow 8 = .ok (.goto 47, 3) := by decide +kernel
theorem dX6_wrongRow_11 : decode cX6_wrongRow 11 = .ok (.aload_n 0, 1) := by decide +kernel
theorem dX6_wrongRow_12 : decode cX6_wrongRow 12 = .ok (.getfield 22, 3) := by decide +kernel
theorem dX6_wrongRow_15 : decode cX6_wrongRow 15 = .ok (.iload_n 1, 1) := by decide +kernel
theorem dX6_wrongRow_16 : decode cX6_wrongRow 16 = .ok (.iaload, 1) := by decide +kernel
theorem dX6_wrongRow_17 : decode cX6_wrongRow 17 = .ok (.ifCond .ne 8, 3) := by decide +kernel
theorem dX6_wrongRow_20 : decode cX6_wrongRow 20 = .ok (.bipush (-11), 2) := by decide +kernel
theorem dX6_wrongRow_22 : decode cX6_wrongRow 22 = .ok (.goto 33, 3) := by decide +kernel
theorem dX6_wrongRow_25 : decode cX6_wrongRow 25 = .ok (.aload_n 0, 1) := by decide +kernel
theorem dX6_wrongRow_26 : decode cX6_wrongRow 26 = .ok (.getfield 22, 3) := by decide +kernel
theorem dX6_wrongRow_29 : decode cX6_wrongRow 29 = .ok (.iload_n 1, 1) := by decide +kernel
theorem dX6_wrongRow_30 : decode cX6_wrongRow 30 = .ok (.iaload, 1) := by decide +kernel
theorem dX6_wrongRow_31 : decode cX6_wrongRow 31 = .ok (.iconst 2, 1) := by decide +kernel
theorem dX6_wrongRow_32 : decode cX6_wrongRow 32 = .ok (.if_icmp .ne 17, 3) := by decide +kernel
theorem dX6_wrongRow_35 : decode cX6_wrongRow 35 = .ok (.iload_n 2, 1) := by decide +kernel
theorem dX6_wrongRow_36 : decode cX6_wrongRow 36 = .ok (.ifCond .lt 18, 3) := by decide +kernel
theorem dX6_wrongRow_39 : decode cX6_wrongRow 39 = .ok (.aload_n 0, 1) := by decide +kernel
theorem dX6_wrongRow_40 : decode cX6_wrongRow 40 = .ok (.getfield 25, 3) := by decide +kernel
theorem dX6_wrongRow_43 : decode cX6_wrongRow 43 = .ok (.iload_n 1, 1) := by decide +kernel
theorem dX6_wrongRow_44 : decode cX6_wrongRow 44 = .ok (.iaload, 1) := by decide +kernel
theorem dX6_wrongRow_45 : decode cX6_wrongRow 45 = .ok (.iload_n 2, 1) := by decide +kernel
theorem dX6_wrongRow_46 : decode cX6_wrongRow 46 = .ok (.if_icmp .eq 8, 3) := by decide +kernel
theorem dX6_wrongRow_49 : decode cX6_wrongRow 49 = .ok (.bipush (-12), 2) := by decide +kernel
theorem dX6_wrongRow_51 : decode cX6_wrongRow 51 = .ok (.goto 4, 3) := by decide +kernel
theorem dX6_wrongRow_54 : decode cX6_wrongRow 54 = .ok (.iconst 0, 1) := by decide +kernel
theorem dX6_wrongRow_55 : decode cX6_wrongRow 55 = .ok (.ireturn, 1) := by decide +kernel
theorem dX6_tow_0 : decode cX6_tow 0 = .ok (.aload_n 0, 1) := by decide +kernel
theorem dX6_tow_1 : decode cX6_tow 1 = .ok (.iload_n 1, 1) := by decide +kernel
theorem dX6_tow_2 : decode cX6_tow 2 = .ok (.iconst 0, 1) := by decide +kernel
theorem dX6_tow_3 : decode cX6_tow 3 = .ok (.invokevirtual 97, 3) := by decide +kernel
theorem dX6_tow_6 : decode cX6_tow 6 = .ok (.istore_n 2, 1) := by decide +kernel
theorem dX6_tow_7 : decode cX6_tow 7 = .ok (.iload_n 2, 1) := by decide +kernel
theorem dX6_tow_8 : decode cX6_tow 8 = .ok (.ifCond .eq 5, 3) := by decide +kernel
theorem dX6_tow_11 : decode cX6_tow 11 = .ok (.iload_n 2, 1) := by decide +kernel
theorem dX6_tow_12 : decode cX6_tow 12 = .ok (.ireturn, 1) := by decide +kernel
theorem dX6_tow_13 : decode cX6_tow 13 = .ok (.aload_n 0, 1) := by decide +kernel
theorem dX6_tow_14 : decode cX6_tow 14 = .ok (.bipush 100, 2) := by decide +kernel
theorem dX6_tow_16 : decode cX6_tow 16 = .ok (.iload_n 1, 1) := by decide +kernel
theorem dX6_tow_17 : decode cX6_tow 17 = .ok (.imul, 1) := by decide +kernel
theorem dX6_tow_18 : decode cX6_tow 18 = .ok (.putfield 59, 3) := by decide +kernel
theorem dX6_tow_21 : decode cX6_tow 21 = .ok (.aload_n 0, 1) := by decide +kernel
theorem dX6_tow_22 : decode cX6_tow 22 = .ok (.aload_n 0, 1) := by decide +kernel
theorem dX6_tow_23 : decode cX6_tow 23 = .ok (.getfield 28, 3) := by decide +kernel
theorem dX6_tow_26 : decode cX6_tow 26 = .ok (.iload_n 1, 1) := by decide +kernel
theorem dX6_tow_27 : decode cX6_tow 27 = .ok (.iaload, 1) := by decide +kernel
theorem dX6_tow_28 : decode cX6_tow 28 = .ok (.putfield 56, 3) := by decide +kernel
theorem dX6_tow_31 : decode cX6_tow 31 = .ok (.aload_n 0, 1) := by decide +kernel
theorem dX6_tow_32 : decode cX6_tow 32 = .ok (.iconst 0, 1) := by decide +kernel
theorem dX6_tow_33 : decode cX6_tow 33 = .ok (.putfield 53, 3) := by decide +kernel
theorem dX6_tow_36 : decode cX6_tow 36 = .ok (.iconst 0, 1) := by decide +kernel
theorem dX6_tow_37 : decode cX6_tow 37 = .ok (.istore_n 3, 1) := by decide +kernel
theorem dX6_tow_38 : decode cX6_tow 38 = .ok (.aload_n 0, 1) := by decide +kernel
theorem dX6_tow_39 : decode cX6_tow 39 = .ok (.invokevirtual 101, 3) := by decide +kernel
theorem dX6_tow_42 : decode cX6_tow 42 = .ok (.ifCond .ne 12, 3) := by decide +kernel
theorem dX6_tow_45 : decode cX6_tow 45 = .ok (.sipush (-1000), 3) := by decide +kernel
theorem dX6_tow_48 : decode cX6_tow 48 = .ok (.aload_n 0, 1) := by decide +kernel
theorem dX6_tow_49 : decode cX6_tow 49 = .ok (.getfield 53, 3) := by decide +kernel
theorem dX6_tow_52 : decode cX6_tow 52 = .ok (.isub, 1) := by decide +kernel
theorem dX6_tow_53 : decode cX6_tow 53 = .ok (.ireturn, 1) := by decide +kernel
theorem dX6_tow_54 : decode cX6_tow 54 = .ok (.iinc 3 1, 3) := by decide +kernel
theorem dX6_tow_57 : decode cX6_tow 57 = .ok (.aload_n 0, 1) := by decide +kernel
theorem dX6_tow_58 : decode cX6_tow 58 = .ok (.getfield 53, 3) := by decide +kernel
theorem dX6_tow_61 : decode cX6_tow 61 = .ok (.aload_n 0, 1) := by decide +kernel
theorem dX6_tow_62 : decode cX6_tow 62 = .ok (.getfield 56, 3) := by decide +kernel
theorem dX6_tow_65 : decode cX6_tow 65 = .ok (.if_icmp .lt (-27), 3) := by decide +kernel
theorem dX6_tow_68 : decode cX6_tow 68 = .ok (.aload_n 0, 1) := by decide +kernel
theorem dX6_tow_69 : decode cX6_tow 69 = .ok (.getfield 9, 3) := by decide +kernel
theorem dX6_tow_72 : decode cX6_tow 72 = .ok (.aload_n 0, 1) := by decide +kernel
theorem dX6_tow_73 : decode cX6_tow 73 = .ok (.getfield 16, 3) := by decide +kernel
theorem dX6_tow_76 : decode cX6_tow 76 = .ok (.invokestatic 104, 3) := by decide +kernel
theorem dX6_tow_79 : decode cX6_tow 79 = .ok (.aload_n 0, 1) := by decide +kernel
theorem dX6_tow_80 : decode cX6_tow 80 = .ok (.iconst 0, 1) := by decide +kernel
theorem dX6_tow_81 : decode cX6_tow 81 = .ok (.putfield 53, 3) := by decide +kernel
theorem dX6_tow_84 : decode cX6_tow 84 = .ok (.aload_n 0, 1) := by decide +kernel
theorem dX6_tow_85 : decode cX6_tow 85 = .ok (.getfield 53, 3) := by decide +kernel
theorem dX6_tow_88 : decode cX6_tow 88 = .ok (.aload_n 0, 1) := by decide +kernel
theorem dX6_tow_89 : decode cX6_tow 89 = .ok (.getfield 56, 3) := by decide +kernel
theorem dX6_tow_92 : decode cX6_tow 92 = .ok (.if_icmp .ge 40, 3) := by decide +kernel
theorem dX6_tow_95 : decode cX6_tow 95 = .ok (.aload_n 0, 1) := by decide +kernel
theorem dX6_tow_96 : decode cX6_tow 96 = .ok (.getfield 53, 3) := by decide +kernel
theorem dX6_tow_99 : decode cX6_tow 99 = .ok (.istore 4, 2) := by decide +kernel
theorem dX6_tow_101 : decode cX6_tow 101 = .ok (.aload_n 0, 1) := by decide +kernel
theorem dX6_tow_102 : decode cX6_tow 102 = .ok (.invokevirtual 62, 3) := by decide +kernel
theorem dX6_tow_105 : decode cX6_tow 105 = .ok (.istore 5, 2) := by decide +kernel
theorem dX6_tow_107 : decode cX6_tow 107 = .ok (.aload_n 0, 1) := by decide +kernel
theorem dX6_tow_108 : decode cX6_tow 108 = .ok (.invokevirtual 101, 3) := by decide +kernel
theorem dX6_tow_111 : decode cX6_tow 111 = .ok (.istore 6, 2) := by decide +kernel
theorem dX6_tow_113 : decode cX6_tow 113 = .ok (.aload_n 0, 1) := by decide +kernel
theorem dX6_tow_114 : decode cX6_tow 114 = .ok (.iload 5, 2) := by decide +kernel
theorem dX6_tow_116 : decode cX6_tow 116 = .ok (.invokevirtual 108, 3) := by decide +kernel
theorem dX6_tow_119 : decode cX6_tow 119 = .ok (.ifCond .ne 10, 3) := by decide +kernel
theorem dX6_tow_122 : decode cX6_tow 122 = .ok (.sipush (-2000), 3) := by decide +kernel
theorem dX6_tow_125 : decode cX6_tow 125 = .ok (.iload 4, 2) := by decide +kernel
theorem dX6_tow_127 : decode cX6_tow 127 = .ok (.isub, 1) := by decide +kernel
theorem dX6_tow_128 : decode cX6_tow 128 = .ok (.ireturn, 1) := by decide +kernel
theorem dX6_tow_129 : decode cX6_tow 129 = .ok (.goto (-45), 3) := by decide +kernel
theorem dX6_tow_132 : decode cX6_tow 132 = .ok (.aload_n 0, 1) := by decide +kernel
theorem dX6_tow_133 : decode cX6_tow 133 = .ok (.getfield 16, 3) := by decide +kernel
theorem dX6_tow_136 : decode cX6_tow 136 = .ok (.aload_n 0, 1) := by decide +kernel
theorem dX6_tow_137 : decode cX6_tow 137 = .ok (.getfield 9, 3) := by decide +kernel
theorem dX6_tow_140 : decode cX6_tow 140 = .ok (.invokestatic 104, 3) := by decide +kernel
theorem dX6_tow_143 : decode cX6_tow 143 = .ok (.iload_n 3, 1) := by decide +kernel
theorem dX6_tow_144 : decode cX6_tow 144 = .ok (.ireturn, 1) := by decide +kernel
theorem dX4_has_0 : decode cX4_has 0 = .ok (.iload_n 1, 1) := by decide +kernel
theorem dX4_has_1 : decode cX4_has 1 = .ok (.ifCond .lt 15, 3) := by decide +kernel
theorem dX4_has_4 : decode cX4_has 4 = .ok (.iload_n 1, 1) := by decide +kernel
theorem dX4_has_5 : decode cX4_has 5 = .ok (.aload_n 0, 1) := by decide +kernel
theorem dX4_has_6 : decode cX4_has 6 = .ok (.getfield 17, 3) := by decide +kernel
theorem dX4_has_9 : decode cX4_has 9 = .ok (.if_icmp .ge 7, 3) := by decide +kernel
theorem dX4_has_12 : decode cX4_has 12 = .ok (.iconst 1, 1) := by decide +kernel
theorem dX4_has_13 : decode cX4_has 13 = .ok (.goto 4, 3) := by decide +kernel
theorem dX4_has_16 : decode cX4_has 16 = .ok (.iconst 0, 1) := by decide +kernel
theorem dX4_has_17 : decode cX4_has 17 = .ok (.ireturn, 1) := by decide +kernel
theorem dX5_piece_0 : decode cX5_piece 0 = .ok (.aload_n 0, 1) := by decide +kernel
theorem dX5_piece_1 : decode cX5_piece 1 = .ok (.getfield 10, 3) := by decide +kernel
theorem dX5_piece_4 : decode cX5_piece 4 = .ok (.iload_n 1, 1) := by decide +kernel
theorem dX5_piece_5 : decode cX5_piece 5 = .ok (.invokevirtual 66, 3) := by decide +kernel
theorem dX5_piece_8 : decode cX5_piece 8 = .ok (.ifCond .ne 5, 3) := by decide +kernel
theorem dX5_piece_11 : decode cX5_piece 11 = .ok (.iconst (-1), 1) := by decide +kernel
theorem dX5_piece_12 : decode cX5_piece 12 = .ok (.ireturn, 1) := by decide +kernel
theorem dX5_piece_13 : decode cX5_piece 13 = .ok (.aload_n 0, 1) := by decide +kernel
theorem dX5_piece_14 : decode cX5_piece 14 = .ok (.getfield 10, 3) := by decide +kernel
theorem dX5_piece_17 : decode cX5_piece 17 = .ok (.getfield 70, 3) := by decide +kernel
theorem dX5_piece_20 : decode cX5_piece 20 = .ok (.iload_n 1, 1) := by decide +kernel
theorem dX5_piece_21 : decode cX5_piece 21 = .ok (.aaload, 1) := by decide +kernel
theorem dX5_piece_22 : decode cX5_piece 22 = .ok (.astore_n 3, 1) := by decide +kernel
theorem dX5_piece_23 : decode cX5_piece 23 = .ok (.iload_n 2, 1) := by decide +kernel
theorem dX5_piece_24 : decode cX5_piece 24 = .ok (.tableswitch 109 0 8 #[52, 57, 62, 67, 72, 77, 82, 87, 92], 52) := by decide +kernel
theorem dX5_piece_76 : decode cX5_piece 76 = .ok (.aload_n 3, 1) := by decide +kernel
theorem dX5_piece_77 : decode cX5_piece 77 = .ok (.getfield 74, 3) := by decide +kernel
theorem dX5_piece_80 : decode cX5_piece 80 = .ok (.ireturn, 1) := by decide +kernel
theorem dX5_piece_81 : decode cX5_piece 81 = .ok (.aload_n 3, 1) := by decide +kernel
theorem dX5_piece_82 : decode cX5_piece 82 = .ok (.getfield 78, 3) := by decide +kernel
theorem dX5_piece_85 : decode cX5_piece 85 = .ok (.ireturn, 1) := by decide +kernel
theorem dX5_piece_86 : decode cX5_piece 86 = .ok (.aload_n 3, 1) := by decide +kernel
theorem dX5_piece_87 : decode cX5_piece 87 = .ok (.getfield 81, 3) := by decide +kernel
theorem dX5_piece_90 : decode cX5_piece 90 = .ok (.ireturn, 1) := by decide +kernel
theorem dX5_piece_91 : decode cX5_piece 91 = .ok (.aload_n 3, 1) := by decide +kernel
theorem dX5_piece_92 : decode cX5_piece 92 = .ok (.getfield 84, 3) := by decide +kernel
theorem dX5_piece_95 : decode cX5_piece 95 = .ok (.ireturn, 1) := by decide +kernel
theorem dX5_piece_96 : decode cX5_piece 96 = .ok (.aload_n 3, 1) := by decide +kernel
theorem dX5_piece_97 : decode cX5_piece 97 = .ok (.getfield 87, 3) := by decide +kernel
theorem dX5_piece_100 : decode cX5_piece 100 = .ok (.ireturn, 1) := by decide +kernel
theorem dX5_piece_101 : decode cX5_piece 101 = .ok (.aload_n 3, 1) := by decide +kernel
theorem dX5_piece_102 : decode cX5_piece 102 = .ok (.getfield 90, 3) := by decide +kernel
theorem dX5_piece_105 : decode cX5_piece 105 = .ok (.ireturn, 1) := by decide +kernel
theorem dX5_piece_106 : decode cX5_piece 106 = .ok (.aload_n 3, 1) := by decide +kernel
theorem dX5_piece_107 : decode cX5_piece 107 = .ok (.getfield 93, 3) := by decide +kernel
theorem dX5_piece_110 : decode cX5_piece 110 = .ok (.ireturn, 1) := by decide +kernel
theorem dX5_piece_111 : decode cX5_piece 111 = .ok (.aload_n 3, 1) := by decide +kernel
theorem dX5_piece_112 : decode cX5_piece 112 = .ok (.getfield 96, 3) := by decide +kernel
theorem dX5_piece_115 : decode cX5_piece 115 = .ok (.ireturn, 1) := by decide +kernel
theorem dX5_piece_116 : decode cX5_piece 116 = .ok (.aload_n 0, 1) := by decide +kernel
theorem dX5_piece_117 : decode cX5_piece 117 = .ok (.getfield 10, 3) := by decide +kernel
theorem dX5_piece_120 : decode cX5_piece 120 = .ok (.getfield 99, 3) := by decide +kernel
theorem dX5_piece_123 : decode cX5_piece 123 = .ok (.iload_n 1, 1) := by decide +kernel
theorem dX5_piece_124 : decode cX5_piece 124 = .ok (.if_icmp .ne 7, 3) := by decide +kernel
theorem dX5_piece_127 : decode cX5_piece 127 = .ok (.iconst 1, 1) := by decide +kernel
theorem dX5_piece_128 : decode cX5_piece 128 = .ok (.goto 4, 3) := by decide +kernel
theorem dX5_piece_131 : decode cX5_piece 131 = .ok (.iconst 0, 1) := by decide +kernel
theorem dX5_piece_132 : decode cX5_piece 132 = .ok (.ireturn, 1) := by decide +kernel
theorem dX5_piece_133 : decode cX5_piece 133 = .ok (.iconst (-1), 1) := by decide +kernel
theorem dX5_piece_134 : decode cX5_piece 134 = .ok (.ireturn, 1) := by decide +kernel
theorem dX6_get_0 : decode cX6_get 0 = .ok (.aload_n 0, 1) := by decide +kernel
theorem dX6_get_1 : decode cX6_get 1 = .ok (.getfield 9, 3) := by decide +kernel
theorem dX6_get_4 : decode cX6_get 4 = .ok (.bipush 12, 2) := by decide +kernel
theorem dX6_get_6 : decode cX6_get 6 = .ok (.bipush 6, 2) := by decide +kernel
theorem dX6_get_8 : decode cX6_get 8 = .ok (.iload_n 1, 1) := by decide +kernel
theorem dX6_get_9 : decode cX6_get 9 = .ok (.imul, 1) := by decide +kernel
theorem dX6_get_10 : decode cX6_get 10 = .ok (.iadd, 1) := by decide +kernel
theorem dX6_get_11 : decode cX6_get 11 = .ok (.iload_n 2, 1) := by decide +kernel
theorem dX6_get_12 : decode cX6_get 12 = .ok (.iadd, 1) := by decide +kernel
theorem dX6_get_13 : decode cX6_get 13 = .ok (.iaload, 1) := by decide +kernel
theorem dX6_get_14 : decode cX6_get 14 = .ok (.ireturn, 1) := by decide +kernel
theorem dX6_giveBy_0 : decode cX6_giveBy 0 = .ok (.iload_n 0, 1) := by decide +kernel
theorem dX6_giveBy_1 : decode cX6_giveBy 1 = .ok (.tableswitch 68 1 7 #[43, 45, 47, 43, 43, 52, 59], 43) := by decide +kernel
theorem dX6_giveBy_44 : decode cX6_giveBy 44 = .ok (.iconst 2, 1) := by decide +kernel
theorem dX6_giveBy_45 : decode cX6_giveBy 45 = .ok (.ireturn, 1) := by decide +kernel
theorem dX6_giveBy_46 : decode cX6_giveBy 46 = .ok (.iconst 1, 1) := by decide +kernel
theorem dX6_giveBy_47 : decode cX6_giveBy 47 = .ok (.ireturn, 1) := by decide +kernel
theorem dX6_giveBy_48 : decode cX6_giveBy 48 = .ok (.bipush 40, 2) := by decide +kernel
theorem dX6_giveBy_50 : decode cX6_giveBy 50 = .ok (.iload_n 1, 1) := by decide +kernel
theorem dX6_giveBy_51 : decode cX6_giveBy 51 = .ok (.iadd, 1) := by decide +kernel
theorem dX6_giveBy_52 : decode cX6_giveBy 52 = .ok (.ireturn, 1) := by decide +kernel
theorem dX6_giveBy_53 : decode cX6_giveBy 53 = .ok (.bipush 40, 2) := by decide +kernel
theorem dX6_giveBy_55 : decode cX6_giveBy 55 = .ok (.iload_n 1, 1) := by decide +kernel
theorem dX6_giveBy_56 : decode cX6_giveBy 56 = .ok (.iadd, 1) := by decide +kernel
theorem dX6_giveBy_57 : decode cX6_giveBy 57 = .ok (.iconst 2, 1) := by decide +kernel
theorem dX6_giveBy_58 : decode cX6_giveBy 58 = .ok (.idiv, 1) := by decide +kernel
theorem dX6_giveBy_59 : decode cX6_giveBy 59 = .ok (.ireturn, 1) := by decide +kernel
theorem dX6_giveBy_60 : decode cX6_giveBy 60 = .ok (.bipush 40, 2) := by decide +kernel
theorem dX6_giveBy_62 : decode cX6_giveBy 62 = .ok (.iload_n 1, 1) := by decide +kernel
theorem dX6_giveBy_63 : decode cX6_giveBy 63 = .ok (.iadd, 1) := by decide +kernel
theorem dX6_giveBy_64 : decode cX6_giveBy 64 = .ok (.iconst 2, 1) := by decide +kernel
theorem dX6_giveBy_65 : decode cX6_giveBy 65 = .ok (.idiv, 1) := by decide +kernel
theorem dX6_giveBy_66 : decode cX6_giveBy 66 = .ok (.iconst 5, 1) := by decide +kernel
theorem dX6_giveBy_67 : decode cX6_giveBy 67 = .ok (.isub, 1) := by decide +kernel
theorem dX6_giveBy_68 : decode cX6_giveBy 68 = .ok (.ireturn, 1) := by decide +kernel
theorem dX6_giveBy_69 : decode cX6_giveBy 69 = .ok (.iconst 4, 1) := by decide +kernel
theorem dX6_giveBy_70 : decode cX6_giveBy 70 = .ok (.ireturn, 1) := by decide +kernel
theorem dX6_heftBy_0 : decode cX6_heftBy 0 = .ok (.iload_n 0, 1) := by decide +kernel
theorem dX6_heftBy_1 : decode cX6_heftBy 1 = .ok (.tableswitch 48 1 5 #[35, 37, 42, 35, 44], 35) := by decide +kernel
theorem dX6_heftBy_36 : decode cX6_heftBy 36 = .ok (.iconst 4, 1) := by decide +kernel
theorem dX6_heftBy_37 : decode cX6_heftBy 37 = .ok (.ireturn, 1) := by decide +kernel
theorem dX6_heftBy_38 : decode cX6_heftBy 38 = .ok (.bipush 6, 2) := by decide +kernel
theorem dX6_heftBy_40 : decode cX6_heftBy 40 = .ok (.iload_n 1, 1) := by decide +kernel
theorem dX6_heftBy_41 : decode cX6_heftBy 41 = .ok (.iadd, 1) := by decide +kernel
theorem dX6_heftBy_42 : decode cX6_heftBy 42 = .ok (.ireturn, 1) := by decide +kernel
theorem dX6_heftBy_43 : decode cX6_heftBy 43 = .ok (.iconst 1, 1) := by decide +kernel
theorem dX6_heftBy_44 : decode cX6_heftBy 44 = .ok (.ireturn, 1) := by decide +kernel
theorem dX6_heftBy_45 : decode cX6_heftBy 45 = .ok (.iconst 5, 1) := by decide +kernel
theorem dX6_heftBy_46 : decode cX6_heftBy 46 = .ok (.iload_n 1, 1) := by decide +kernel
theorem dX6_heftBy_47 : decode cX6_heftBy 47 = .ok (.iadd, 1) := by decide +kernel
theorem dX6_heftBy_48 : decode cX6_heftBy 48 = .ok (.ireturn, 1) := by decide +kernel
theorem dX6_heftBy_49 : decode cX6_heftBy 49 = .ok (.iconst 2, 1) := by decide +kernel
theorem dX6_heftBy_50 : decode cX6_heftBy 50 = .ok (.ireturn, 1) := by decide +kernel
theorem dX6_isPiece_0 : decode cX6_isPiece 0 = .ok (.iload_n 1, 1) := by decide +kernel
theorem dX6_isPiece_1 : decode cX6_isPiece 1 = .ok (.i2l, 1) := by decide +kernel
theorem dX6_isPiece_2 : decode cX6_isPiece 2 = .ok (.lconst 0, 1) := by decide +kernel
theorem dX6_isPiece_3 : decode cX6_isPiece 3 = .ok (.aload_n 0, 1) := by decide +kernel
theorem dX6_isPiece_4 : decode cX6_isPiece 4 = .ok (.getfield 9, 3) := by decide +kernel
theorem dX6_isPiece_7 : decode cX6_isPiece 7 = .ok (.iconst 0, 1) := by decide +kernel
theorem dX6_isPiece_8 : decode cX6_isPiece 8 = .ok (.iaload, 1) := by decide +kernel
theorem dX6_isPiece_9 : decode cX6_isPiece 9 = .ok (.iconst 1, 1) := by decide +kernel
theorem dX6_isPiece_10 : decode cX6_isPiece 10 = .ok (.isub, 1) := by decide +kernel
theorem dX6_isPiece_11 : decode cX6_isPiece 11 = .ok (.i2l, 1) := by decide +kernel
theorem dX6_isPiece_12 : decode cX6_isPiece 12 = .ok (.invokestatic 47, 3) := by decide +kernel
theorem dX6_isPiece_15 : decode cX6_isPiece 15 = .ok (.ireturn, 1) := by decide +kernel
theorem dX6_strengthBy_0 : decode cX6_strengthBy 0 = .ok (.iload_n 0, 1) := by decide +kernel
theorem dX6_strengthBy_1 : decode cX6_strengthBy 1 = .ok (.tableswitch 91 1 7 #[43, 47, 51, 55, 64, 73, 81], 43) := by decide +kernel
theorem dX6_strengthBy_44 : decode cX6_strengthBy 44 = .ok (.sipush 500, 3) := by decide +kernel
theorem dX6_strengthBy_47 : decode cX6_strengthBy 47 = .ok (.ireturn, 1) := by decide +kernel
theorem dX6_strengthBy_48 : decode cX6_strengthBy 48 = .ok (.sipush 600, 3) := by decide +kernel
theorem dX6_strengthBy_51 : decode cX6_strengthBy 51 = .ok (.ireturn, 1) := by decide +kernel
theorem dX6_strengthBy_52 : decode cX6_strengthBy 52 = .ok (.sipush 250, 3) := by decide +kernel
theorem dX6_strengthBy_55 : decode cX6_strengthBy 55 = .ok (.ireturn, 1) := by decide +kernel
theorem dX6_strengthBy_56 : decode cX6_strengthBy 56 = .ok (.sipush 500, 3) := by decide +kernel
theorem dX6_strengthBy_59 : decode cX6_strengthBy 59 = .ok (.bipush 20, 2) := by decide +kernel
theorem dX6_strengthBy_61 : decode cX6_strengthBy 61 = .ok (.iload_n 1, 1) := by decide +kernel
theorem dX6_strengthBy_62 : decode cX6_strengthBy 62 = .ok (.imul, 1) := by decide +kernel
theorem dX6_strengthBy_63 : decode cX6_strengthBy 63 = .ok (.isub, 1) := by decide +kernel
theorem dX6_strengthBy_64 : decode cX6_strengthBy 64 = .ok (.ireturn, 1) := by decide +kernel
theorem dX6_strengthBy_65 : decode cX6_strengthBy 65 = .ok (.sipush 600, 3) := by decide +kernel
theorem dX6_strengthBy_68 : decode cX6_strengthBy 68 = .ok (.bipush 10, 2) := by decide +kernel
theorem dX6_strengthBy_70 : decode cX6_strengthBy 70 = .ok (.iload_n 1, 1) := by decide +kernel
theorem dX6_strengthBy_71 : decode cX6_strengthBy 71 = .ok (.imul, 1) := by decide +kernel
theorem dX6_strengthBy_72 : decode cX6_strengthBy 72 = .ok (.isub, 1) := by decide +kernel
theorem dX6_strengthBy_73 : decode cX6_strengthBy 73 = .ok (.ireturn, 1) := by decide +kernel
theorem dX6_strengthBy_74 : decode cX6_strengthBy 74 = .ok (.sipush 250, 3) := by decide +kernel
theorem dX6_strengthBy_77 : decode cX6_strengthBy 77 = .ok (.iconst 5, 1) := by decide +kernel
theorem dX6_strengthBy_78 : decode cX6_strengthBy 78 = .ok (.iload_n 1, 1) := by decide +kernel
theorem dX6_strengthBy_79 : decode cX6_strengthBy 79 = .ok (.imul, 1) := by decide +kernel
theorem dX6_strengthBy_80 : decode cX6_strengthBy 80 = .ok (.isub, 1) := by decide +kernel
theorem dX6_strengthBy_81 : decode cX6_strengthBy 81 = .ok (.ireturn, 1) := by decide +kernel
theorem dX6_strengthBy_82 : decode cX6_strengthBy 82 = .ok (.sipush 250, 3) := by decide +kernel
theorem dX6_strengthBy_85 : decode cX6_strengthBy 85 = .ok (.iconst 5, 1) := by decide +kernel
theorem dX6_strengthBy_86 : decode cX6_strengthBy 86 = .ok (.iload_n 1, 1) := by decide +kernel
theorem dX6_strengthBy_87 : decode cX6_strengthBy 87 = .ok (.imul, 1) := by decide +kernel
theorem dX6_strengthBy_88 : decode cX6_strengthBy 88 = .ok (.isub, 1) := by decide +kernel
theorem dX6_strengthBy_89 : decode cX6_strengthBy 89 = .ok (.iconst 2, 1) := by decide +kernel
theorem dX6_strengthBy_90 : decode cX6_strengthBy 90 = .ok (.idiv, 1) := by decide +kernel
theorem dX6_strengthBy_91 : decode cX6_strengthBy 91 = .ok (.ireturn, 1) := by decide +kernel
theorem dX6_strengthBy_92 : decode cX6_strengthBy 92 = .ok (.sipush 300, 3) := by decide +kernel
theorem dX6_strengthBy_95 : decode cX6_strengthBy 95 = .ok (.ireturn, 1) := by decide +kernel
theorem dX6_wearBy_0 : decode cX6_wearBy 0 = .ok (.iload_n 0, 1) := by decide +kernel
theorem dX6_wearBy_1 : decode cX6_wearBy 1 = .ok (.tableswitch 53 2 7 #[39, 41, 41, 53, 43, 47], 39) := by decide +kernel
theorem dX6_wearBy_40 : decode cX6_wearBy 40 = .ok (.iconst 0, 1) := by decide +kernel
theorem dX6_wearBy_41 : decode cX6_wearBy 41 = .ok (.ireturn, 1) := by decide +kernel
theorem dX6_wearBy_42 : decode cX6_wearBy 42 = .ok (.iconst 3, 1) := by decide +kernel
theorem dX6_wearBy_43 : decode cX6_wearBy 43 = .ok (.ireturn, 1) := by decide +kernel
theorem dX6_wearBy_44 : decode cX6_wearBy 44 = .ok (.iconst 3, 1) := by decide +kernel
theorem dX6_wearBy_45 : decode cX6_wearBy 45 = .ok (.iload_n 1, 1) := by decide +kernel
theorem dX6_wearBy_46 : decode cX6_wearBy 46 = .ok (.iadd, 1) := by decide +kernel
theorem dX6_wearBy_47 : decode cX6_wearBy 47 = .ok (.ireturn, 1) := by decide +kernel
theorem dX6_wearBy_48 : decode cX6_wearBy 48 = .ok (.iconst 2, 1) := by decide +kernel
theorem dX6_wearBy_49 : decode cX6_wearBy 49 = .ok (.iconst 3, 1) := by decide +kernel
theorem dX6_wearBy_50 : decode cX6_wearBy 50 = .ok (.iload_n 1, 1) := by decide +kernel
theorem dX6_wearBy_51 : decode cX6_wearBy 51 = .ok (.iadd, 1) := by decide +kernel
theorem dX6_wearBy_52 : decode cX6_wearBy 52 = .ok (.imul, 1) := by decide +kernel
theorem dX6_wearBy_53 : decode cX6_wearBy 53 = .ok (.ireturn, 1) := by decide +kernel
theorem dX6_wearBy_54 : decode cX6_wearBy 54 = .ok (.iconst 1, 1) := by decide +kernel
theorem dX6_wearBy_55 : decode cX6_wearBy 55 = .ok (.ireturn, 1) := by decide +kernel
theorem dX6_piece_0 : decode cX6_piece 0 = .ok (.aload_n 0, 1) := by decide +kernel
theorem dX6_piece_1 : decode cX6_piece 1 = .ok (.iload_n 1, 1) := by decide +kernel
theorem dX6_piece_2 : decode cX6_piece 2 = .ok (.invokevirtual 117, 3) := by decide +kernel
theorem dX6_piece_5 : decode cX6_piece 5 = .ok (.ifCond .ne 5, 3) := by decide +kernel
theorem dX6_piece_8 : decode cX6_piece 8 = .ok (.iconst (-1), 1) := by decide +kernel
theorem dX6_piece_9 : decode cX6_piece 9 = .ok (.ireturn, 1) := by decide +kernel
theorem dX6_piece_10 : decode cX6_piece 10 = .ok (.aload_n 0, 1) := by decide +kernel
theorem dX6_piece_11 : decode cX6_piece 11 = .ok (.iload_n 1, 1) := by decide +kernel
theorem dX6_piece_12 : decode cX6_piece 12 = .ok (.iconst 0, 1) := by decide +kernel
theorem dX6_piece_13 : decode cX6_piece 13 = .ok (.invokevirtual 111, 3) := by decide +kernel
theorem dX6_piece_16 : decode cX6_piece 16 = .ok (.istore_n 3, 1) := by decide +kernel
theorem dX6_piece_17 : decode cX6_piece 17 = .ok (.aload_n 0, 1) := by decide +kernel
theorem dX6_piece_18 : decode cX6_piece 18 = .ok (.iload_n 1, 1) := by decide +kernel
theorem dX6_piece_19 : decode cX6_piece 19 = .ok (.iconst 1, 1) := by decide +kernel
theorem dX6_piece_20 : decode cX6_piece 20 = .ok (.invokevirtual 111, 3) := by decide +kernel
theorem dX6_piece_23 : decode cX6_piece 23 = .ok (.istore 4, 2) := by decide +kernel
theorem dX6_piece_25 : decode cX6_piece 25 = .ok (.iload_n 2, 1) := by decide +kernel
theorem dX6_piece_26 : decode cX6_piece 26 = .ok (.tableswitch 104 0 8 #[50, 52, 59, 62, 69, 76, 83, 90, 97], 50) := by decide +kernel
theorem dX6_piece_76 : decode cX6_piece 76 = .ok (.iload_n 3, 1) := by decide +kernel
theorem dX6_piece_77 : decode cX6_piece 77 = .ok (.ireturn, 1) := by decide +kernel
theorem dX6_piece_78 : decode cX6_piece 78 = .ok (.aload_n 0, 1) := by decide +kernel
theorem dX6_piece_79 : decode cX6_piece 79 = .ok (.iload_n 1, 1) := by decide +kernel
theorem dX6_piece_80 : decode cX6_piece 80 = .ok (.iconst 2, 1) := by decide +kernel
theorem dX6_piece_81 : decode cX6_piece 81 = .ok (.invokevirtual 111, 3) := by decide +kernel
theorem dX6_piece_84 : decode cX6_piece 84 = .ok (.ireturn, 1) := by decide +kernel
theorem dX6_piece_85 : decode cX6_piece 85 = .ok (.iload 4, 2) := by decide +kernel
theorem dX6_piece_87 : decode cX6_piece 87 = .ok (.ireturn, 1) := by decide +kernel
theorem dX6_piece_88 : decode cX6_piece 88 = .ok (.iload_n 3, 1) := by decide +kernel
theorem dX6_piece_89 : decode cX6_piece 89 = .ok (.iload 4, 2) := by decide +kernel
theorem dX6_piece_91 : decode cX6_piece 91 = .ok (.invokestatic 120, 3) := by decide +kernel
theorem dX6_piece_94 : decode cX6_piece 94 = .ok (.ireturn, 1) := by decide +kernel
theorem dX6_piece_95 : decode cX6_piece 95 = .ok (.iload_n 3, 1) := by decide +kernel
theorem dX6_piece_96 : decode cX6_piece 96 = .ok (.iload 4, 2) := by decide +kernel
theorem dX6_piece_98 : decode cX6_piece 98 = .ok (.invokestatic 123, 3) := by decide +kernel
theorem dX6_piece_101 : decode cX6_piece 101 = .ok (.ireturn, 1) := by decide +kernel
theorem dX6_piece_102 : decode cX6_piece 102 = .ok (.iload_n 3, 1) := by decide +kernel
theorem dX6_piece_103 : decode cX6_piece 103 = .ok (.iload 4, 2) := by decide +kernel
theorem dX6_piece_105 : decode cX6_piece 105 = .ok (.invokestatic 114, 3) := by decide +kernel
theorem dX6_piece_108 : decode cX6_piece 108 = .ok (.ireturn, 1) := by decide +kernel
theorem dX6_piece_109 : decode cX6_piece 109 = .ok (.iload_n 3, 1) := by decide +kernel
theorem dX6_piece_110 : decode cX6_piece 110 = .ok (.iload 4, 2) := by decide +kernel
theorem dX6_piece_112 : decode cX6_piece 112 = .ok (.invokestatic 126, 3) := by decide +kernel
theorem dX6_piece_115 : decode cX6_piece 115 = .ok (.ireturn, 1) := by decide +kernel
theorem dX6_piece_116 : decode cX6_piece 116 = .ok (.aload_n 0, 1) := by decide +kernel
theorem dX6_piece_117 : decode cX6_piece 117 = .ok (.iload_n 1, 1) := by decide +kernel
theorem dX6_piece_118 : decode cX6_piece 118 = .ok (.iconst 3, 1) := by decide +kernel
theorem dX6_piece_119 : decode cX6_piece 119 = .ok (.invokevirtual 111, 3) := by decide +kernel
theorem dX6_piece_122 : decode cX6_piece 122 = .ok (.ireturn, 1) := by decide +kernel
theorem dX6_piece_123 : decode cX6_piece 123 = .ok (.aload_n 0, 1) := by decide +kernel
theorem dX6_piece_124 : decode cX6_piece 124 = .ok (.iload_n 1, 1) := by decide +kernel
theorem dX6_piece_125 : decode cX6_piece 125 = .ok (.iconst 4, 1) := by decide +kernel
theorem dX6_piece_126 : decode cX6_piece 126 = .ok (.invokevirtual 111, 3) := by decide +kernel
theorem dX6_piece_129 : decode cX6_piece 129 = .ok (.ireturn, 1) := by decide +kernel
theorem dX6_piece_130 : decode cX6_piece 130 = .ok (.iconst (-1), 1) := by decide +kernel
theorem dX6_piece_131 : decode cX6_piece 131 = .ok (.ireturn, 1) := by decide +kernel
section WALK
variable {p : Program} {l : Launch} {e : Env} {s : State} {m : MethodId} {args : Array Value} {below : List Frame} {meth : Method} {c : Code} {G : GG}

def q_X6_takes (M : Mem) (x1 : Int32) (post : Int32 → Mem → Prop) : Prop := q_X6_here M  (fun r1 M2 => (r1 = x1 → (∀ M4 : Mem, M4 = (mup M2 57 12 ((M2 57 12) + (1 : Int32))) → (post (1 : Int32) M4))) ∧ (¬ (r1 = x1) → (post (0 : Int32) M2)))
set_option maxHeartbeats 4000000 in
set_option maxRecDepth 100000 in
theorem c_X6_takes (l : Launch) (G : GG) (hG : Ag G) (sz : Nat) (M : Mem) (x1 : Int32) (post : Int32 → Mem → Prop) (h : q_X6_takes M x1 post) : Met l yX6_takes (Cond.code yX6_takes cX6_takes 2 (some .boolean) :: wsL_law) (rmk 2) (va_Pc [.ref (ga G 57), .int x1] (Pw G sz M)) (va_Qi post (Qw G) (Af G sz)) 0 0 (Af G sz) := by
  refine Met.ofW (cc := cX6_takes) (maxL := 2) (ret := (some .boolean)) (by decide) rfl ?_
  intro p e s m args below meth c s₁ B hml hv
  obtain ⟨rfl, hsz, hE, hP⟩ := hv
  subst hsz
  have C := Cx.of (own := RX6) hG hE rfl hml B
  have w : Wd G s M s.heap [] := ⟨hP, va_S.rf⟩
  have hl := lv_entry [.ref (ga G 57), .int x1] (n := 2) (Nat.le_of_ble_eq_true rfl)
  rw [lg_entry_eq]
  generalize (lg_sl [.ref (ga G 57), .int x1] ++ List.replicate (2 - (lg_sl [.ref (ga G 57), .int x1]).length) Slot.unset).toArray = ls at hl ⊢
  have hl : lv_has ls 2 [(0, .ref (ga G 57)), (1, .int x1)] := hl
  have hx := C.1.1
  have hb := C.1.2.1
  show W p l e (rmk 2) s m _ below meth c s.heap [] 0 0 _ _
  unfold q_X6_takes at h
  refine lv_aload_n hx hb dX6_takes_0 rfl (lv_at hl 0 rfl) ?_
  refine end_i w (run_V (As := []) C w hl.1 (c_X6_here l G C.2.2.1 _ _   _ h) kw_12_15 kw_1_5 kw_12_12 kw_12_13 kw_12_14 hd_X6_here ⟨by decide, by decide⟩ (w.recv C (i := 57) (by decide) (pE_6) rfl) rfl (Nat.le_of_ble_eq_true rfl) dX6_takes_1) (fun r1 M2 H locs h w => ?_)
  refine lv_iload_n hx hb dX6_takes_4 rfl (lv_at hl 1 rfl) ?_
  refine lv_icmp_eq (tgt := 10) hx hb dX6_takes_5 (by decide) (fun c3 => ?_) (fun c3 => ?_)
  · replace h := h.1 c3
    refine lv_aload_n hx hb dX6_takes_10 rfl (lv_at hl 0 rfl) ?_
    refine lv_dup hx hb dX6_takes_11 rfl ?_
    refine gt_6_12 C w kw_11_18 dX6_takes_12 ?_
    refine lv_iconst (v := 1) hx hb dX6_takes_15 (by decide) ?_
    refine lv_iadd hx hb dX6_takes_16 ?_
    refine pt_6_12 C w kw_11_18 dX6_takes_17 (fun H locs w => ?_)
    obtain ⟨M4, eM4⟩ : ∃ z : Mem, z = (mup M2 57 12 ((M2 57 12) + (1 : Int32))) := ⟨_, rfl⟩
    replace w : Wd G s M4 H locs := by rw [eM4]; exact w
    replace h := h M4 eM4
    refine lv_iconst (v := 1) hx hb dX6_takes_20 (by decide) ?_
    exact ret_z C w ⟨Or.inr rfl, h⟩ dX6_takes_21
  replace h := h.2 c3
  refine lv_iconst (v := 0) hx hb dX6_takes_8 (by decide) ?_
  exact ret_z C w ⟨Or.inl rfl, h⟩ dX6_takes_9
def j_X6_readsStatement_281 (post : Int32 → Mem → Prop) (M : Mem) (y0 : Int32) : Prop := (y0 = 0 ∨ y0 = 1) ∧ post y0 M
def j_X6_readsStatement_280 (post : Int32 → Mem → Prop) (M : Mem) : Prop := j_X6_readsStatement_281 post M (0 : Int32)
def j_X6_readsStatement_263 (post : Int32 → Mem → Prop) (M : Mem) (x2 : Int32) : Prop := (x2 = 0 → (j_X6_readsStatement_280 post M)) ∧ (¬ (x2 = 0) → (q_X6_takes M (59 : Int32) (fun r2 M3 => (r2 = 0 → (j_X6_readsStatement_280 post M3)) ∧ (¬ (r2 = 0) → (j_X6_readsStatement_281 post M3 (1 : Int32))))))
def j_X6_readsStatement_247 (post : Int32 → Mem → Prop) (M : Mem) (y0 : Int32) : Prop := j_X6_readsStatement_263 post M y0
def j_X6_readsStatement_246 (post : Int32 → Mem → Prop) (M : Mem) : Prop := j_X6_readsStatement_247 post M (0 : Int32)
def j_X6_readsStatement_234 (post : Int32 → Mem → Prop) (M : Mem) : Prop := q_X6_readsNumber M (3 : Int32) (fun r5 M6 => (r5 = 0 → (j_X6_readsStatement_246 post M6)) ∧ (¬ (r5 = 0) → (j_X6_readsStatement_247 post M6 (1 : Int32))))
def j_X6_readsStatement_213 (post : Int32 → Mem → Prop) (M : Mem) (y0 : Int32) : Prop := (y0 = 0 ∨ y0 = 1) ∧ (∀ M8 : Mem, M8 = (mup M 57 16 y0) → (q_X6_takes M8 (43 : Int32) (fun r9 M10 => (r9 = 0 → (q_X6_takes M10 (45 : Int32) (fun r12 M13 => (r12 = 0 → (j_X6_readsStatement_246 post M13)) ∧ (¬ (r12 = 0) → (j_X6_readsStatement_234 post M13))))) ∧ (¬ (r9 = 0) → (j_X6_readsStatement_234 post M10)))))
def j_X6_readsStatement_194 (post : Int32 → Mem → Prop) (M : Mem) (y0 : Int32) : Prop := j_X6_readsStatement_263 post M y0
def j_X6_readsStatement_193 (post : Int32 → Mem → Prop) (M : Mem) : Prop := j_X6_readsStatement_194 post M (0 : Int32)
def j_X6_readsStatement_143 (post : Int32 → Mem → Prop) (M : Mem) (y0 : Int32) : Prop := j_X6_readsStatement_263 post M y0
def j_X6_readsStatement_142 (post : Int32 → Mem → Prop) (M : Mem) : Prop := j_X6_readsStatement_143 post M (0 : Int32)
def j_X6_readsStatement_109 (post : Int32 → Mem → Prop) (M : Mem) (y0 : Int32) : Prop := j_X6_readsStatement_263 post M y0
def j_X6_readsStatement_108 (post : Int32 → Mem → Prop) (M : Mem) : Prop := j_X6_readsStatement_109 post M (0 : Int32)
def q_X6_readsStatement (M : Mem) (post : Int32 → Mem → Prop) : Prop := q_X6_here M  (fun r15 M16 => ∀ M17 : Mem, M17 = (mup M16 57 15 (0 : Int32)) → (∀ M18 : Mem, M18 = (mup M17 57 12 ((M17 57 12) + (1 : Int32))) → ((r15 = (97 : Int32) → (q_X6_here M18  (fun r20 M21 => (r20 = (45 : Int32) → (j_X6_readsStatement_213 post M21 (1 : Int32))) ∧ (¬ (r20 = (45 : Int32)) → (j_X6_readsStatement_213 post M21 (0 : Int32)))))) ∧ (¬ r15 = (97 : Int32) → ((r15 = (100 : Int32) → (q_X6_readsNumber M18 (3 : Int32) (fun r24 M25 => j_X6_readsStatement_263 post M25 r24))) ∧ (¬ r15 = (100 : Int32) → ((r15 = (112 : Int32) → (q_X6_readsNumber M18 (1 : Int32) (fun r27 M28 => (r27 = 0 → (j_X6_readsStatement_108 post M28)) ∧ (¬ (r27 = 0) → (q_X6_readsNumber M28 (1 : Int32) (fun r30 M31 => (r30 = 0 → (j_X6_readsStatement_108 post M31)) ∧ (¬ (r30 = 0) → (q_X6_readsNumber M31 (3 : Int32) (fun r33 M34 => (r33 = 0 → (j_X6_readsStatement_108 post M34)) ∧ (¬ (r33 = 0) → (j_X6_readsStatement_109 post M34 (1 : Int32)))))))))))) ∧ (¬ r15 = (112 : Int32) → ((r15 = (115 : Int32) → (q_X6_readsNumber M18 (3 : Int32) (fun r37 M38 => (r37 = 0 → (j_X6_readsStatement_142 post M38)) ∧ (¬ (r37 = 0) → (q_X6_takes M38 (32 : Int32) (fun r40 M41 => (r40 = 0 → (j_X6_readsStatement_142 post M41)) ∧ (¬ (r40 = 0) → (q_X6_readsNumber M41 (3 : Int32) (fun r43 M44 => (r43 = 0 → (j_X6_readsStatement_142 post M44)) ∧ (¬ (r43 = 0) → (j_X6_readsStatement_143 post M44 (1 : Int32)))))))))))) ∧ (¬ r15 = (115 : Int32) → ((r15 = (118 : Int32) → (q_X6_readsNumber M18 (1 : Int32) (fun r47 M48 => j_X6_readsStatement_263 post M48 r47))) ∧ (¬ r15 = (118 : Int32) → ((r15 = (121 : Int32) → (q_X6_readsNumber M18 (1 : Int32) (fun r50 M51 => (r50 = 0 → (j_X6_readsStatement_193 post M51)) ∧ (¬ (r50 = 0) → (q_X6_readsNumber M51 (1 : Int32) (fun r53 M54 => (r53 = 0 → (j_X6_readsStatement_193 post M54)) ∧ (¬ (r53 = 0) → (q_X6_readsNumber M54 (1 : Int32) (fun r56 M57 => (r56 = 0 → (j_X6_readsStatement_193 post M57)) ∧ (¬ (r56 = 0) → (j_X6_readsStatement_194 post M57 (1 : Int32)))))))))))) ∧ (¬ r15 = (121 : Int32) → (∀ M59 : Mem, M59 = (mup M18 57 12 ((M18 57 12) - (1 : Int32))) → (post (0 : Int32) M59))))))))))))))))
set_option maxHeartbeats 4000000 in
set_option maxRecDepth 100000 in
theorem t_X6_readsStatement_281 (C : Cx G p s m args meth c RX6 cX6_readsStatement 3 (some .boolean)) {post : Int32 → Mem → Prop} (M : Mem) (y0 : Int32) {H : Heap} {locs : List Loc} {ls : Array Slot} (w : Wd G s M H locs) (hl : lv_has ls 3 []) (h : j_X6_readsStatement_281 post M y0) : W p l e (rmk 4) s m args below meth c H locs 0 0 (MQ below (va_Qi post (Qw G) (Af G s.heap.size)) args s 0 0 (Af G s.heap.size)) (F0 m 281 ls [.int y0]) := by
  have hx := C.1.1
  have hb := C.1.2.1
  unfold j_X6_readsStatement_281 at h
  exact ret_z C w h dX6_readsStatement_281
set_option maxHeartbeats 4000000 in
set_option maxRecDepth 100000 in
theorem t_X6_readsStatement_280 (C : Cx G p s m args meth c RX6 cX6_readsStatement 3 (some .boolean)) {post : Int32 → Mem → Prop} (M : Mem) {H : Heap} {locs : List Loc} {ls : Array Slot} (w : Wd G s M H locs) (hl : lv_has ls 3 []) (h : j_X6_readsStatement_280 post M) : W p l e (rmk 4) s m args below meth c H locs 0 0 (MQ below (va_Qi post (Qw G) (Af G s.heap.size)) args s 0 0 (Af G s.heap.size)) (F0 m 280 ls []) := by
  have hx := C.1.1
  have hb := C.1.2.1
  unfold j_X6_readsStatement_280 at h
  refine lv_iconst (v := 0) hx hb dX6_readsStatement_280 (by decide) ?_
  exact t_X6_readsStatement_281 C M (0 : Int32)  w (lv_sub hl [] rfl) h
set_option maxHeartbeats 4000000 in
set_option maxRecDepth 100000 in
theorem t_X6_readsStatement_263 (C : Cx G p s m args meth c RX6 cX6_readsStatement 3 (some .boolean)) {post : Int32 → Mem → Prop} (M : Mem) (x2 : Int32) {H : Heap} {locs : List Loc} {ls : Array Slot} (w : Wd G s M H locs) (hl : lv_has ls 3 [(0, .ref (ga G 57)), (2, .int x2)]) (h : j_X6_readsStatement_263 post M x2) : W p l e (rmk 4) s m args below meth c H locs 0 0 (MQ below (va_Qi post (Qw G) (Af G s.heap.size)) args s 0 0 (Af G s.heap.size)) (F0 m 263 ls []) := by
  have hx := C.1.1
  have hb := C.1.2.1
  unfold j_X6_readsStatement_263 at h
  refine lv_iload_n hx hb dX6_readsStatement_263 rfl (lv_at hl 1 rfl) ?_
  refine lv_if_eq (tgt := 280) hx hb dX6_readsStatement_264 (by decide) (fun c1 => ?_) (fun c1 => ?_)
  · replace h := h.1 c1
    exact t_X6_readsStatement_280 C M   w (lv_sub hl [] rfl) h
  replace h := h.2 c1
  refine lv_aload_n hx hb dX6_readsStatement_267 rfl (lv_at hl 0 rfl) ?_
  refine lv_bipush (v := 59) hx hb dX6_readsStatement_268 (by decide) ?_
  refine end_i w (run_V (As := [.int (59 : Int32)]) C w hl.1 (c_X6_takes l G C.2.2.1 _ _ (59 : Int32)  _ h) kw_13_5 kw_1_5 kw_13_2 kw_13_3 kw_13_4 hd_X6_takes ⟨by decide, by decide⟩ (w.recv C (i := 57) (by decide) (pE_6) rfl) rfl (Nat.le_of_ble_eq_true rfl) dX6_readsStatement_270) (fun r2 M3 H locs h w => ?_)
  refine lv_if_eq (tgt := 280) hx hb dX6_readsStatement_273 (by decide) (fun c4 => ?_) (fun c4 => ?_)
  · replace h := h.1 c4
    exact t_X6_readsStatement_280 C M3   w (lv_sub hl [] rfl) h
  replace h := h.2 c4
  refine lv_iconst (v := 1) hx hb dX6_readsStatement_276 (by decide) ?_
  refine lv_goto (tgt := 281) hx hb dX6_readsStatement_277 (by decide) ?_
  exact t_X6_readsStatement_281 C M3 (1 : Int32)  w (lv_sub hl [] rfl) h
set_option maxHeartbeats 4000000 in
set_option maxRecDepth 100000 in
theorem t_X6_readsStatement_247 (C : Cx G p s m args meth c RX6 cX6_readsStatement 3 (some .boolean)) {post : Int32 → Mem → Prop} (M : Mem) (y0 : Int32) {H : Heap} {locs : List Loc} {ls : Array Slot} (w : Wd G s M H locs) (hl : lv_has ls 3 [(0, .ref (ga G 57))]) (h : j_X6_readsStatement_247 post M y0) : W p l e (rmk 4) s m args below meth c H locs 0 0 (MQ below (va_Qi post (Qw G) (Af G s.heap.size)) args s 0 0 (Af G s.heap.size)) (F0 m 247 ls [.int y0]) := by
  have hx := C.1.1
  have hb := C.1.2.1
  unfold j_X6_readsStatement_247 at h
  refine lv_istore_n (lv' := [(2, .int y0), (0, .ref (ga G 57))]) hx hb dX6_readsStatement_247 rfl hl (by decide) rfl (fun ls hl => ?_)
  refine lv_goto (tgt := 263) hx hb dX6_readsStatement_248 (by decide) ?_
  exact t_X6_readsStatement_263 C M y0  w (lv_sub hl [1, 0] rfl) h
set_option maxHeartbeats 4000000 in
set_option maxRecDepth 100000 in
theorem t_X6_readsStatement_246 (C : Cx G p s m args meth c RX6 cX6_readsStatement 3 (some .boolean)) {post : Int32 → Mem → Prop} (M : Mem) {H : Heap} {locs : List Loc} {ls : Array Slot} (w : Wd G s M H locs) (hl : lv_has ls 3 [(0, .ref (ga G 57))]) (h : j_X6_readsStatement_246 post M) : W p l e (rmk 4) s m args below meth c H locs 0 0 (MQ below (va_Qi post (Qw G) (Af G s.heap.size)) args s 0 0 (Af G s.heap.size)) (F0 m 246 ls []) := by
  have hx := C.1.1
  have hb := C.1.2.1
  unfold j_X6_readsStatement_246 at h
  refine lv_iconst (v := 0) hx hb dX6_readsStatement_246 (by decide) ?_
  exact t_X6_readsStatement_247 C M (0 : Int32)  w (lv_sub hl [0] rfl) h
set_option maxHeartbeats 4000000 in
set_option maxRecDepth 100000 in
theorem t_X6_readsStatement_234 (C : Cx G p s m args meth c RX6 cX6_readsStatement 3 (some .boolean)) {post : Int32 → Mem → Prop} (M : Mem) {H : Heap} {locs : List Loc} {ls : Array Slot} (w : Wd G s M H locs) (hl : lv_has ls 3 [(0, .ref (ga G 57))]) (h : j_X6_readsStatement_234 post M) : W p l e (rmk 4) s m args below meth c H locs 0 0 (MQ below (va_Qi post (Qw G) (Af G s.heap.size)) args s 0 0 (Af G s.heap.size)) (F0 m 234 ls []) := by
  have hx := C.1.1
  have hb := C.1.2.1
  unfold j_X6_readsStatement_234 at h
  refine lv_aload_n hx hb dX6_readsStatement_234 rfl (lv_at hl 0 rfl) ?_
  refine lv_iconst (v := 3) hx hb dX6_readsStatement_235 (by decide) ?_
  refine end_i w (run_V (As := [.int (3 : Int32)]) C w hl.1 (c_X6_readsNumber l G C.2.2.1 _ _ (3 : Int32)  _ h) kw_12_19 kw_1_5 kw_12_16 kw_12_17 kw_12_18 hd_X6_readsNumber ⟨by decide, by decide⟩ (w.recv C (i := 57) (by decide) (pE_6) rfl) rfl (Nat.le_of_ble_eq_true rfl) dX6_readsStatement_236) (fun r5 M6 H locs h w => ?_)
  refine lv_if_eq (tgt := 246) hx hb dX6_readsStatement_239 (by decide) (fun c7 => ?_) (fun c7 => ?_)
  · replace h := h.1 c7
    exact t_X6_readsStatement_246 C M6   w (lv_sub hl [0] rfl) h
  replace h := h.2 c7
  refine lv_iconst (v := 1) hx hb dX6_readsStatement_242 (by decide) ?_
  refine lv_goto (tgt := 247) hx hb dX6_readsStatement_243 (by decide) ?_
  exact t_X6_readsStatement_247 C M6 (1 : Int32)  w (lv_sub hl [0] rfl) h
set_option maxHeartbeats 4000000 in
set_option maxRecDepth 100000 in
theorem t_X6_readsStatement_213 (C : Cx G p s m args meth c RX6 cX6_readsStatement 3 (some .boolean)) {post : Int32 → Mem → Prop} (M : Mem) (y0 : Int32) {H : Heap} {locs : List Loc} {ls : Array Slot} (w : Wd G s M H locs) (hl : lv_has ls 3 [(0, .ref (ga G 57))]) (h : j_X6_readsStatement_213 post M y0) : W p l e (rmk 4) s m args below meth c H locs 0 0 (MQ below (va_Qi post (Qw G) (Af G s.heap.size)) args s 0 0 (Af G s.heap.size)) (F0 m 213 ls [.int y0, .ref (ga G 57)]) := by
  have hx := C.1.1
  have hb := C.1.2.1
  unfold j_X6_readsStatement_213 at h
  refine pt_6_16 C w h.1 kw_12_11 dX6_readsStatement_213 (fun H locs w => ?_)
  replace h := h.2
  obtain ⟨M8, eM8⟩ : ∃ z : Mem, z = (mup M 57 16 y0) := ⟨_, rfl⟩
  replace w : Wd G s M8 H locs := by rw [eM8]; exact w
  replace h := h M8 eM8
  refine lv_aload_n hx hb dX6_readsStatement_216 rfl (lv_at hl 0 rfl) ?_
  refine lv_bipush (v := 43) hx hb dX6_readsStatement_217 (by decide) ?_
  refine end_i w (run_V (As := [.int (43 : Int32)]) C w hl.1 (c_X6_takes l G C.2.2.1 _ _ (43 : Int32)  _ h) kw_13_5 kw_1_5 kw_13_2 kw_13_3 kw_13_4 hd_X6_takes ⟨by decide, by decide⟩ (w.recv C (i := 57) (by decide) (pE_6) rfl) rfl (Nat.le_of_ble_eq_true rfl) dX6_readsStatement_219) (fun r9 M10 H locs h w => ?_)
  refine lv_if_ne (tgt := 234) hx hb dX6_readsStatement_222 (by decide) (fun c11 => ?_) (fun c11 => ?_)
  · replace h := h.2 c11
    exact t_X6_readsStatement_234 C M10   w (lv_sub hl [0] rfl) h
  replace h := h.1 c11
  refine lv_aload_n hx hb dX6_readsStatement_225 rfl (lv_at hl 0 rfl) ?_
  refine lv_bipush (v := 45) hx hb dX6_readsStatement_226 (by decide) ?_
  refine end_i w (run_V (As := [.int (45 : Int32)]) C w hl.1 (c_X6_takes l G C.2.2.1 _ _ (45 : Int32)  _ h) kw_13_5 kw_1_5 kw_13_2 kw_13_3 kw_13_4 hd_X6_takes ⟨by decide, by decide⟩ (w.recv C (i := 57) (by decide) (pE_6) rfl) rfl (Nat.le_of_ble_eq_true rfl) dX6_readsStatement_228) (fun r12 M13 H locs h w => ?_)
  refine lv_if_eq (tgt := 246) hx hb dX6_readsStatement_231 (by decide) (fun c14 => ?_) (fun c14 => ?_)
  · replace h := h.1 c14
    exact t_X6_readsStatement_246 C M13   w (lv_sub hl [0] rfl) h
  replace h := h.2 c14
  exact t_X6_readsStatement_234 C M13   w (lv_sub hl [0] rfl) h
set_option maxHeartbeats 4000000 in
set_option maxRecDepth 100000 in
theorem t_X6_readsStatement_194 (C : Cx G p s m args meth c RX6 cX6_readsStatement 3 (some .boolean)) {post : Int32 → Mem → Prop} (M : Mem) (y0 : Int32) {H : Heap} {locs : List Loc} {ls : Array Slot} (w : Wd G s M H locs) (hl : lv_has ls 3 [(0, .ref (ga G 57))]) (h : j_X6_readsStatement_194 post M y0) : W p l e (rmk 4) s m args below meth c H locs 0 0 (MQ below (va_Qi post (Qw G) (Af G s.heap.size)) args s 0 0 (Af G s.heap.size)) (F0 m 194 ls [.int y0]) := by
  have hx := C.1.1
  have hb := C.1.2.1
  unfold j_X6_readsStatement_194 at h
  refine lv_istore_n (lv' := [(2, .int y0), (0, .ref (ga G 57))]) hx hb dX6_readsStatement_194 rfl hl (by decide) rfl (fun ls hl => ?_)
  refine lv_goto (tgt := 263) hx hb dX6_readsStatement_195 (by decide) ?_
  exact t_X6_readsStatement_263 C M y0  w (lv_sub hl [1, 0] rfl) h
set_option maxHeartbeats 4000000 in
set_option maxRecDepth 100000 in
theorem t_X6_readsStatement_193 (C : Cx G p s m args meth c RX6 cX6_readsStatement 3 (some .boolean)) {post : Int32 → Mem → Prop} (M : Mem) {H : Heap} {locs : List Loc} {ls : Array Slot} (w : Wd G s M H locs) (hl : lv_has ls 3 [(0, .ref (ga G 57))]) (h : j_X6_readsStatement_193 post M) : W p l e (rmk 4) s m args below meth c H locs 0 0 (MQ below (va_Qi post (Qw G) (Af G s.heap.size)) args s 0 0 (Af G s.heap.size)) (F0 m 193 ls []) := by
  have hx := C.1.1
  have hb := C.1.2.1
  unfold j_X6_readsStatement_193 at h
  refine lv_iconst (v := 0) hx hb dX6_readsStatement_193 (by decide) ?_
  exact t_X6_readsStatement_194 C M (0 : Int32)  w (lv_sub hl [0] rfl) h
set_option maxHeartbeats 4000000 in
set_option maxRecDepth 100000 in
theorem t_X6_readsStatement_143 (C : Cx G p s m args meth c RX6 cX6_readsStatement 3 (some .boolean)) {post : Int32 → Mem → Prop} (M : Mem) (y0 : Int32) {H : Heap} {locs : List Loc} {ls : Array Slot} (w : Wd G s M H locs) (hl : lv_has ls 3 [(0, .ref (ga G 57))]) (h : j_X6_readsStatement_143 post M y0) : W p l e (rmk 4) s m args below meth c H locs 0 0 (MQ below (va_Qi post (Qw G) (Af G s.heap.size)) args s 0 0 (Af G s.heap.size)) (F0 m 143 ls [.int y0]) := by
  have hx := C.1.1
  have hb := C.1.2.1
  unfold j_X6_readsStatement_143 at h
  refine lv_istore_n (lv' := [(2, .int y0), (0, .ref (ga G 57))]) hx hb dX6_readsStatement_143 rfl hl (by decide) rfl (fun ls hl => ?_)
  refine lv_goto (tgt := 263) hx hb dX6_readsStatement_144 (by decide) ?_
  exact t_X6_readsStatement_263 C M y0  w (lv_sub hl [1, 0] rfl) h
set_option maxHeartbeats 4000000 in
set_option maxRecDepth 100000 in
theorem t_X6_readsStatement_142 (C : Cx G p s m args meth c RX6 cX6_readsStatement 3 (some .boolean)) {post : Int32 → Mem → Prop} (M : Mem) {H : Heap} {locs : List Loc} {ls : Array Slot} (w : Wd G s M H locs) (hl : lv_has ls 3 [(0, .ref (ga G 57))]) (h : j_X6_readsStatement_142 post M) : W p l e (rmk 4) s m args below meth c H locs 0 0 (MQ below (va_Qi post (Qw G) (Af G s.heap.size)) args s 0 0 (Af G s.heap.size)) (F0 m 142 ls []) := by
  have hx := C.1.1
  have hb := C.1.2.1
  unfold j_X6_readsStatement_142 at h
  refine lv_iconst (v := 0) hx hb dX6_readsStatement_142 (by decide) ?_
  exact t_X6_readsStatement_143 C M (0 : Int32)  w (lv_sub hl [0] rfl) h
set_option maxHeartbeats 4000000 in
set_option maxRecDepth 100000 in
theorem t_X6_readsStatement_109 (C : Cx G p s m args meth c RX6 cX6_readsStatement 3 (some .boolean)) {post : Int32 → Mem → Prop} (M : Mem) (y0 : Int32) {H : Heap} {locs : List Loc} {ls : Array Slot} (w : Wd G s M H locs) (hl : lv_has ls 3 [(0, .ref (ga G 57))]) (h : j_X6_readsStatement_109 post M y0) : W p l e (rmk 4) s m args below meth c H locs 0 0 (MQ below (va_Qi post (Qw G) (Af G s.heap.size)) args s 0 0 (Af G s.heap.size)) (F0 m 109 ls [.int y0]) := by
  have hx := C.1.1
  have hb := C.1.2.1
  unfold j_X6_readsStatement_109 at h
  refine lv_istore_n (lv' := [(2, .int y0), (0, .ref (ga G 57))]) hx hb dX6_readsStatement_109 rfl hl (by decide) rfl (fun ls hl => ?_)
  refine lv_goto (tgt := 263) hx hb dX6_readsStatement_110 (by decide) ?_
  exact t_X6_readsStatement_263 C M y0  w (lv_sub hl [1, 0] rfl) h
set_option maxHeartbeats 4000000 in
set_option maxRecDepth 100000 in
theorem t_X6_readsStatement_108 (C : Cx G p s m args meth c RX6 cX6_readsStatement 3 (some .boolean)) {post : Int32 → Mem → Prop} (M : Mem) {H : Heap} {locs : List Loc} {ls : Array Slot} (w : Wd G s M H locs) (hl : lv_has ls 3 [(0, .ref (ga G 57))]) (h : j_X6_readsStatement_108 post M) : W p l e (rmk 4) s m args below meth c H locs 0 0 (MQ below (va_Qi post (Qw G) (Af G s.heap.size)) args s 0 0 (Af G s.heap.size)) (F0 m 108 ls []) := by
  have hx := C.1.1
  have hb := C.1.2.1
  unfold j_X6_readsStatement_108 at h
  refine lv_iconst (v := 0) hx hb dX6_readsStatement_108 (by decide) ?_
  exact t_X6_readsStatement_109 C M (0 : Int32)  w (lv_sub hl [0] rfl) h
set_option maxHeartbeats 4000000 in
set_option maxRecDepth 100000 in
theorem c_X6_readsStatement (l : Launch) (G : GG) (hG : Ag G) (sz : Nat) (M : Mem) (post : Int32 → Mem → Prop) (h : q_X6_readsStatement M post) : Met l yX6_readsStatement (Cond.code yX6_readsStatement cX6_readsStatement 3 (some .boolean) :: wsL_law) (rmk 4) (va_Pc [.ref (ga G 57)] (Pw G sz M)) (va_Qi post (Qw G) (Af G sz)) 0 0 (Af G sz) := by
  refine Met.ofW (cc := cX6_readsStatement) (maxL := 3) (ret := (some .boolean)) (by decide) rfl ?_
  intro p e s m args below meth c s₁ B hml hv
  obtain ⟨rfl, hsz, hE, hP⟩ := hv
  subst hsz
  have C := Cx.of (own := RX6) hG hE rfl hml B
  have w : Wd G s M s.heap [] := ⟨hP, va_S.rf⟩
  have hl := lv_entry [.ref (ga G 57)] (n := 3) (Nat.le_of_ble_eq_true rfl)
  rw [lg_entry_eq]
  generalize (lg_sl [.ref (ga G 57)] ++ List.replicate (3 - (lg_sl [.ref (ga G 57)]).length) Slot.unset).toArray = ls at hl ⊢
  have hl : lv_has ls 3 [(0, .ref (ga G 57))] := hl
  have hx := C.1.1
  have hb := C.1.2.1
  show W p l e (rmk 4) s m _ below meth c s.heap [] 0 0 _ _
  unfold q_X6_readsStatement at h
  refine lv_aload_n hx hb dX6_readsStatement_0 rfl (lv_at hl 0 rfl) ?_
  refine end_i w (run_V (As := []) C w hl.1 (c_X6_here l G C.2.2.1 _ _   _ h) kw_12_15 kw_1_5 kw_12_12 kw_12_13 kw_12_14 hd_X6_here ⟨by decide, by decide⟩ (w.recv C (i := 57) (by decide) (pE_6) rfl) rfl (Nat.le_of_ble_eq_true rfl) dX6_readsStatement_1) (fun r15 M16 H locs h w => ?_)
  refine lv_istore_n (lv' := [(1, .int r15), (0, .ref (ga G 57))]) hx hb dX6_readsStatement_4 rfl hl (by decide) rfl (fun ls hl => ?_)
  refine lv_aload_n hx hb dX6_readsStatement_5 rfl (lv_at hl 1 rfl) ?_
  refine lv_iconst (v := 0) hx hb dX6_readsStatement_6 (by decide) ?_
  refine pt_6_15 C w kw_12_10 dX6_readsStatement_7 (fun H locs w => ?_)
  obtain ⟨M17, eM17⟩ : ∃ z : Mem, z = (mup M16 57 15 (0 : Int32)) := ⟨_, rfl⟩
  replace w : Wd G s M17 H locs := by rw [eM17]; exact w
  replace h := h M17 eM17
  refine lv_iconst (v := 0) hx hb dX6_readsStatement_10 (by decide) ?_
  refine lv_istore_n (lv' := [(2, .int (0 : Int32)), (1, .int r15), (0, .ref (ga G 57))]) hx hb dX6_readsStatement_11 rfl hl (by decide) rfl (fun ls hl => ?_)
  refine lv_aload_n hx hb dX6_readsStatement_12 rfl (lv_at hl 2 rfl) ?_
  refine lv_dup hx hb dX6_readsStatement_13 rfl ?_
  refine gt_6_12 C w kw_11_18 dX6_readsStatement_14 ?_
  refine lv_iconst (v := 1) hx hb dX6_readsStatement_17 (by decide) ?_
  refine lv_iadd hx hb dX6_readsStatement_18 ?_
  refine pt_6_12 C w kw_11_18 dX6_readsStatement_19 (fun H locs w => ?_)
  obtain ⟨M18, eM18⟩ : ∃ z : Mem, z = (mup M17 57 12 ((M17 57 12) + (1 : Int32))) := ⟨_, rfl⟩
  replace w : Wd G s M18 H locs := by rw [eM18]; exact w
  replace h := h M18 eM18
  refine lv_iload_n hx hb dX6_readsStatement_22 rfl (lv_at hl 1 rfl) ?_
  by_cases c19 : r15 = (97 : Int32)
  · replace h := h.1 c19
    refine lv_lookup (off := 175) (tgt := 198) hx hb dX6_readsStatement_23 (by decide) (by rw [c19]; decide) (by decide) ?_
    refine lv_aload_n hx hb dX6_readsStatement_198 rfl (lv_at hl 2 rfl) ?_
    refine lv_aload_n hx hb dX6_readsStatement_199 rfl (lv_at hl 2 rfl) ?_
    refine end_i w (run_V (As := []) C w hl.1 (c_X6_here l G C.2.2.1 _ _   _ h) kw_12_15 kw_1_5 kw_12_12 kw_12_13 kw_12_14 hd_X6_here ⟨by decide, by decide⟩ (w.recv C (i := 57) (by decide) (pE_6) rfl) rfl (Nat.le_of_ble_eq_true rfl) dX6_readsStatement_200) (fun r20 M21 H locs h w => ?_)
    refine lv_bipush (v := 45) hx hb dX6_readsStatement_203 (by decide) ?_
    refine lv_icmp_ne (tgt := 212) hx hb dX6_readsStatement_205 (by decide) (fun c22 => ?_) (fun c22 => ?_)
    · replace h := h.2 c22
      refine lv_iconst (v := 0) hx hb dX6_readsStatement_212 (by decide) ?_
      exact t_X6_readsStatement_213 C M21 (0 : Int32)  w (lv_sub hl [2] rfl) h
    replace h := h.1 c22
    refine lv_iconst (v := 1) hx hb dX6_readsStatement_208 (by decide) ?_
    refine lv_goto (tgt := 213) hx hb dX6_readsStatement_209 (by decide) ?_
    exact t_X6_readsStatement_213 C M21 (1 : Int32)  w (lv_sub hl [2] rfl) h
  replace h := h.2 c19
  by_cases c23 : r15 = (100 : Int32)
  · replace h := h.1 c23
    refine lv_lookup (off := 133) (tgt := 156) hx hb dX6_readsStatement_23 (by decide) (by rw [c23]; decide) (by decide) ?_
    refine lv_aload_n hx hb dX6_readsStatement_156 rfl (lv_at hl 2 rfl) ?_
    refine lv_iconst (v := 3) hx hb dX6_readsStatement_157 (by decide) ?_
    refine end_i w (run_V (As := [.int (3 : Int32)]) C w hl.1 (c_X6_readsNumber l G C.2.2.1 _ _ (3 : Int32)  _ h) kw_12_19 kw_1_5 kw_12_16 kw_12_17 kw_12_18 hd_X6_readsNumber ⟨by decide, by decide⟩ (w.recv C (i := 57) (by decide) (pE_6) rfl) rfl (Nat.le_of_ble_eq_true rfl) dX6_readsStatement_158) (fun r24 M25 H locs h w => ?_)
    refine lv_istore_n (lv' := [(2, .int r24), (1, .int r15), (0, .ref (ga G 57))]) hx hb dX6_readsStatement_161 rfl hl (by decide) rfl (fun ls hl => ?_)
    refine lv_goto (tgt := 263) hx hb dX6_readsStatement_162 (by decide) ?_
    exact t_X6_readsStatement_263 C M25 r24  w (lv_sub hl [2, 0] rfl) h
  replace h := h.2 c23
  by_cases c26 : r15 = (112 : Int32)
  · replace h := h.1 c26
    refine lv_lookup (off := 57) (tgt := 80) hx hb dX6_readsStatement_23 (by decide) (by rw [c26]; decide) (by decide) ?_
    refine lv_aload_n hx hb dX6_readsStatement_80 rfl (lv_at hl 2 rfl) ?_
    refine lv_iconst (v := 1) hx hb dX6_readsStatement_81 (by decide) ?_
    refine end_i w (run_V (As := [.int (1 : Int32)]) C w hl.1 (c_X6_readsNumber l G C.2.2.1 _ _ (1 : Int32)  _ h) kw_12_19 kw_1_5 kw_12_16 kw_12_17 kw_12_18 hd_X6_readsNumber ⟨by decide, by decide⟩ (w.recv C (i := 57) (by decide) (pE_6) rfl) rfl (Nat.le_of_ble_eq_true rfl) dX6_readsStatement_82) (fun r27 M28 H locs h w => ?_)
    refine lv_if_eq (tgt := 108) hx hb dX6_readsStatement_85 (by decide) (fun c29 => ?_) (fun c29 => ?_)
    · replace h := h.1 c29
      exact t_X6_readsStatement_108 C M28   w (lv_sub hl [2] rfl) h
    replace h := h.2 c29
    refine lv_aload_n hx hb dX6_readsStatement_88 rfl (lv_at hl 2 rfl) ?_
    refine lv_iconst (v := 1) hx hb dX6_readsStatement_89 (by decide) ?_
    refine end_i w (run_V (As := [.int (1 : Int32)]) C w hl.1 (c_X6_readsNumber l G C.2.2.1 _ _ (1 : Int32)  _ h) kw_12_19 kw_1_5 kw_12_16 kw_12_17 kw_12_18 hd_X6_readsNumber ⟨by decide, by decide⟩ (w.recv C (i := 57) (by decide) (pE_6) rfl) rfl (Nat.le_of_ble_eq_true rfl) dX6_readsStatement_90) (fun r30 M31 H locs h w => ?_)
    refine lv_if_eq (tgt := 108) hx hb dX6_readsStatement_93 (by decide) (fun c32 => ?_) (fun c32 => ?_)
    · replace h := h.1 c32
      exact t_X6_readsStatement_108 C M31   w (lv_sub hl [2] rfl) h
    replace h := h.2 c32
    refine lv_aload_n hx hb dX6_readsStatement_96 rfl (lv_at hl 2 rfl) ?_
    refine lv_iconst (v := 3) hx hb dX6_readsStatement_97 (by decide) ?_
    refine end_i w (run_V (As := [.int (3 : Int32)]) C w hl.1 (c_X6_readsNumber l G C.2.2.1 _ _ (3 : Int32)  _ h) kw_12_19 kw_1_5 kw_12_16 kw_12_17 kw_12_18 hd_X6_readsNumber ⟨by decide, by decide⟩ (w.recv C (i := 57) (by decide) (pE_6) rfl) rfl (Nat.le_of_ble_eq_true rfl) dX6_readsStatement_98) (fun r33 M34 H locs h w => ?_)
    refine lv_if_eq (tgt := 108) hx hb dX6_readsStatement_101 (by decide) (fun c35 => ?_) (fun c35 => ?_)
    · replace h := h.1 c35
      exact t_X6_readsStatement_108 C M34   w (lv_sub hl [2] rfl) h
    replace h := h.2 c35
    refine lv_iconst (v := 1) hx hb dX6_readsStatement_104 (by decide) ?_
    refine lv_goto (tgt := 109) hx hb dX6_readsStatement_105 (by decide) ?_
    exact t_X6_readsStatement_109 C M34 (1 : Int32)  w (lv_sub hl [2] rfl) h
  replace h := h.2 c26
  by_cases c36 : r15 = (115 : Int32)
  · replace h := h.1 c36
    refine lv_lookup (off := 90) (tgt := 113) hx hb dX6_readsStatement_23 (by decide) (by rw [c36]; decide) (by decide) ?_
    refine lv_aload_n hx hb dX6_readsStatement_113 rfl (lv_at hl 2 rfl) ?_
    refine lv_iconst (v := 3) hx hb dX6_readsStatement_114 (by decide) ?_
    refine end_i w (run_V (As := [.int (3 : Int32)]) C w hl.1 (c_X6_readsNumber l G C.2.2.1 _ _ (3 : Int32)  _ h) kw_12_19 kw_1_5 kw_12_16 kw_12_17 kw_12_18 hd_X6_readsNumber ⟨by decide, by decide⟩ (w.recv C (i := 57) (by decide) (pE_6) rfl) rfl (Nat.le_of_ble_eq_true rfl) dX6_readsStatement_115) (fun r37 M38 H locs h w => ?_)
    refine lv_if_eq (tgt := 142) hx hb dX6_readsStatement_118 (by decide) (fun c39 => ?_) (fun c39 => ?_)
    · replace h := h.1 c39
      exact t_X6_readsStatement_142 C M38   w (lv_sub hl [2] rfl) h
    replace h := h.2 c39
    refine lv_aload_n hx hb dX6_readsStatement_121 rfl (lv_at hl 2 rfl) ?_
    refine lv_bipush (v := 32) hx hb dX6_readsStatement_122 (by decide) ?_
    refine end_i w (run_V (As := [.int (32 : Int32)]) C w hl.1 (c_X6_takes l G C.2.2.1 _ _ (32 : Int32)  _ h) kw_13_5 kw_1_5 kw_13_2 kw_13_3 kw_13_4 hd_X6_takes ⟨by decide, by decide⟩ (w.recv C (i := 57) (by decide) (pE_6) rfl) rfl (Nat.le_of_ble_eq_true rfl) dX6_readsStatement_124) (fun r40 M41 H locs h w => ?_)
    refine lv_if_eq (tgt := 142) hx hb dX6_readsStatement_127 (by decide) (fun c42 => ?_) (fun c42 => ?_)
    · replace h := h.1 c42
      exact t_X6_readsStatement_142 C M41   w (lv_sub hl [2] rfl) h
    replace h := h.2 c42
    refine lv_aload_n hx hb dX6_readsStatement_130 rfl (lv_at hl 2 rfl) ?_
    refine lv_iconst (v := 3) hx hb dX6_readsStatement_131 (by decide) ?_
    refine end_i w (run_V (As := [.int (3 : Int32)]) C w hl.1 (c_X6_readsNumber l G C.2.2.1 _ _ (3 : Int32)  _ h) kw_12_19 kw_1_5 kw_12_16 kw_12_17 kw_12_18 hd_X6_readsNumber ⟨by decide, by decide⟩ (w.recv C (i := 57) (by decide) (pE_6) rfl) rfl (Nat.le_of_ble_eq_true rfl) dX6_readsStatement_132) (fun r43 M44 H locs h w => ?_)
    refine lv_if_eq (tgt := 142) hx hb dX6_readsStatement_135 (by decide) (fun c45 => ?_) (fun c45 => ?_)
    · replace h := h.1 c45
      exact t_X6_readsStatement_142 C M44   w (lv_sub hl [2] rfl) h
    replace h := h.2 c45
    refine lv_iconst (v := 1) hx hb dX6_readsStatement_138 (by decide) ?_
    refine lv_goto (tgt := 143) hx hb dX6_readsStatement_139 (by decide) ?_
    exact t_X6_readsStatement_143 C M44 (1 : Int32)  w (lv_sub hl [2] rfl) h
  replace h := h.2 c36
  by_cases c46 : r15 = (118 : Int32)
  · replace h := h.1 c46
    refine lv_lookup (off := 124) (tgt := 147) hx hb dX6_readsStatement_23 (by decide) (by rw [c46]; decide) (by decide) ?_
    refine lv_aload_n hx hb dX6_readsStatement_147 rfl (lv_at hl 2 rfl) ?_
    refine lv_iconst (v := 1) hx hb dX6_readsStatement_148 (by decide) ?_
    refine end_i w (run_V (As := [.int (1 : Int32)]) C w hl.1 (c_X6_readsNumber l G C.2.2.1 _ _ (1 : Int32)  _ h) kw_12_19 kw_1_5 kw_12_16 kw_12_17 kw_12_18 hd_X6_readsNumber ⟨by decide, by decide⟩ (w.recv C (i := 57) (by decide) (pE_6) rfl) rfl (Nat.le_of_ble_eq_true rfl) dX6_readsStatement_149) (fun r47 M48 H locs h w => ?_)
    refine lv_istore_n (lv' := [(2, .int r47), (1, .int r15), (0, .ref (ga G 57))]) hx hb dX6_readsStatement_152 rfl hl (by decide) rfl (fun ls hl => ?_)
    refine lv_goto (tgt := 263) hx hb dX6_readsStatement_153 (by decide) ?_
    exact t_X6_readsStatement_263 C M48 r47  w (lv_sub hl [2, 0] rfl) h
  replace h := h.2 c46
  by_cases c49 : r15 = (121 : Int32)
  · replace h := h.1 c49
    refine lv_lookup (off := 142) (tgt := 165) hx hb dX6_readsStatement_23 (by decide) (by rw [c49]; decide) (by decide) ?_
    refine lv_aload_n hx hb dX6_readsStatement_165 rfl (lv_at hl 2 rfl) ?_
    refine lv_iconst (v := 1) hx hb dX6_readsStatement_166 (by decide) ?_
    refine end_i w (run_V (As := [.int (1 : Int32)]) C w hl.1 (c_X6_readsNumber l G C.2.2.1 _ _ (1 : Int32)  _ h) kw_12_19 kw_1_5 kw_12_16 kw_12_17 kw_12_18 hd_X6_readsNumber ⟨by decide, by decide⟩ (w.recv C (i := 57) (by decide) (pE_6) rfl) rfl (Nat.le_of_ble_eq_true rfl) dX6_readsStatement_167) (fun r50 M51 H locs h w => ?_)
    refine lv_if_eq (tgt := 193) hx hb dX6_readsStatement_170 (by decide) (fun c52 => ?_) (fun c52 => ?_)
    · replace h := h.1 c52
      exact t_X6_readsStatement_193 C M51   w (lv_sub hl [2] rfl) h
    replace h := h.2 c52
    refine lv_aload_n hx hb dX6_readsStatement_173 rfl (lv_at hl 2 rfl) ?_
    refine lv_iconst (v := 1) hx hb dX6_readsStatement_174 (by decide) ?_
    refine end_i w (run_V (As := [.int (1 : Int32)]) C w hl.1 (c_X6_readsNumber l G C.2.2.1 _ _ (1 : Int32)  _ h) kw_12_19 kw_1_5 kw_12_16 kw_12_17 kw_12_18 hd_X6_readsNumber ⟨by decide, by decide⟩ (w.recv C (i := 57) (by decide) (pE_6) rfl) rfl (Nat.le_of_ble_eq_true rfl) dX6_readsStatement_175) (fun r53 M54 H locs h w => ?_)
    refine lv_if_eq (tgt := 193) hx hb dX6_readsStatement_178 (by decide) (fun c55 => ?_) (fun c55 => ?_)
    · replace h := h.1 c55
      exact t_X6_readsStatement_193 C M54   w (lv_sub hl [2] rfl) h
    replace h := h.2 c55
    refine lv_aload_n hx hb dX6_readsStatement_181 rfl (lv_at hl 2 rfl) ?_
    refine lv_iconst (v := 1) hx hb dX6_readsStatement_182 (by decide) ?_
    refine end_i w (run_V (As := [.int (1 : Int32)]) C w hl.1 (c_X6_readsNumber l G C.2.2.1 _ _ (1 : Int32)  _ h) kw_12_19 kw_1_5 kw_12_16 kw_12_17 kw_12_18 hd_X6_readsNumber ⟨by decide, by decide⟩ (w.recv C (i := 57) (by decide) (pE_6) rfl) rfl (Nat.le_of_ble_eq_true rfl) dX6_readsStatement_183) (fun r56 M57 H locs h w => ?_)
    refine lv_if_eq (tgt := 193) hx hb dX6_readsStatement_186 (by decide) (fun c58 => ?_) (fun c58 => ?_)
    · replace h := h.1 c58
      exact t_X6_readsStatement_193 C M57   w (lv_sub hl [2] rfl) h
    replace h := h.2 c58
    refine lv_iconst (v := 1) hx hb dX6_readsStatement_189 (by decide) ?_
    refine lv_goto (tgt := 194) hx hb dX6_readsStatement_190 (by decide) ?_
    exact t_X6_readsStatement_194 C M57 (1 : Int32)  w (lv_sub hl [2] rfl) h
  replace h := h.2 c49
  refine lv_lookup (off := 228) (tgt := 251) hx hb dX6_readsStatement_23 (by decide) ((lv_osw c19 (by decide)).trans ((lv_osw c23 (by decide)).trans ((lv_osw c26 (by decide)).trans ((lv_osw c36 (by decide)).trans ((lv_osw c46 (by decide)).trans ((lv_osw c49 (by decide)).trans rfl)))))) (by decide) ?_
  refine lv_aload_n hx hb dX6_readsStatement_251 rfl (lv_at hl 2 rfl) ?_
  refine lv_dup hx hb dX6_readsStatement_252 rfl ?_
  refine gt_6_12 C w kw_11_18 dX6_readsStatement_253 ?_
  refine lv_iconst (v := 1) hx hb dX6_readsStatement_256 (by decide) ?_
  refine lv_isub hx hb dX6_readsStatement_257 ?_
  refine pt_6_12 C w kw_11_18 dX6_readsStatement_258 (fun H locs w => ?_)
  obtain ⟨M59, eM59⟩ : ∃ z : Mem, z = (mup M18 57 12 ((M18 57 12) - (1 : Int32))) := ⟨_, rfl⟩
  replace w : Wd G s M59 H locs := by rw [eM59]; exact w
  replace h := h M59 eM59
  refine lv_iconst (v := 0) hx hb dX6_readsStatement_261 (by decide) ?_
  exact ret_z C w ⟨Or.inl rfl, h⟩ dX6_readsStatement_262
def q_X6_isShelf (M : Mem) (x0 : Int32) (post : Int32 → Mem → Prop) : Prop := q_X6_isIn M x0.toInt64 (0 : Int64) (7 : Int64) (fun r1 M2 => (r1 = 0 ∨ r1 = 1) ∧ post r1 M2)
set_option maxHeartbeats 4000000 in
set_option maxRecDepth 100000 in
theorem c_X6_isShelf (l : Launch) (G : GG) (hG : Ag G) (sz : Nat) (M : Mem) (x0 : Int32) (post : Int32 → Mem → Prop) (h : q_X6_isShelf M x0 post) : Met l yX6_isShelf (Cond.code yX6_isShelf cX6_isShelf 1 (some .boolean) :: wsL_law) (rmk 2) (va_Pc [.int x0] (Pw G sz M)) (va_Qi post (Qw G) (Af G sz)) 0 0 (Af G sz) := by
  refine Met.ofW (cc := cX6_isShelf) (maxL := 1) (ret := (some .boolean)) (by decide) rfl ?_
  intro p e s m args below meth c s₁ B hml hv
  obtain ⟨rfl, hsz, hE, hP⟩ := hv
  subst hsz
  have C := Cx.of (own := RX6) hG hE rfl hml B
  have w : Wd G s M s.heap [] := ⟨hP, va_S.rf⟩
  have hl := lv_entry [.int x0] (n := 1) (Nat.le_of_ble_eq_true rfl)
  rw [lg_entry_eq]
  generalize (lg_sl [.int x0] ++ List.replicate (1 - (lg_sl [.int x0]).length) Slot.unset).toArray = ls at hl ⊢
  have hl : lv_has ls 1 [(0, .int x0)] := hl
  have hx := C.1.1
  have hb := C.1.2.1
  show W p l e (rmk 2) s m _ below meth c s.heap [] 0 0 _ _
  unfold q_X6_isShelf at h
  refine lv_iload_n hx hb dX6_isShelf_0 rfl (lv_at hl 0 rfl) ?_
  refine lv_i2l hx hb dX6_isShelf_1 rfl ?_
  refine lv_lconst (v := 0) hx hb dX6_isShelf_2 (by decide) ?_
  refine lv_ldc2 hx hb C.1.2.2.2.1 (C.ws kw_12_2) dX6_isShelf_3 ?_
  refine end_i w (run_S (As := [.long x0.toInt64, .long (0 : Int64), .long (7 : Int64)]) C w hl.1 (c_X6_isIn l G C.2.2.1 _ _ x0.toInt64 (0 : Int64) (7 : Int64)  _ h) kw_12_5 kw_1_5 kw_12_3 kw_12_4 hd_X6_isIn ⟨by decide, by decide⟩ rfl (Nat.le_of_ble_eq_true rfl) dX6_isShelf_6) (fun r1 M2 H locs h w => ?_)
  exact ret_z C w h dX6_isShelf_9
def j_X6_wrongRow_55 (post : Int32 → Mem → Prop) (M : Mem) (y0 : Int32) : Prop := post y0 M
def j_X6_wrongRow_54 (post : Int32 → Mem → Prop) (M : Mem) : Prop := j_X6_wrongRow_55 post M (0 : Int32)
def j_X6_wrongRow_49 (post : Int32 → Mem → Prop) (M : Mem) : Prop := j_X6_wrongRow_55 post M (-12 : Int32)
def q_X6_wrongRow (M : Mem) (x1 : Int32) (x2 : Int32) (post : Int32 → Mem → Prop) : Prop := q_X6_isShelf M x1 (fun r1 M2 => (r1 = 0 → (j_X6_wrongRow_55 post M2 (-1 : Int32))) ∧ (¬ (r1 = 0) → (vp_in x1 8 ∧ (((M2 62 x1.toNatClampNeg) = 0 → (j_X6_wrongRow_55 post M2 (-11 : Int32))) ∧ (¬ ((M2 62 x1.toNatClampNeg) = 0) → (((M2 62 x1.toNatClampNeg) = (2 : Int32) → ((x2 < 0 → (j_X6_wrongRow_54 post M2)) ∧ (¬ (x2 < 0) → (((M2 63 x1.toNatClampNeg) = x2 → (j_X6_wrongRow_54 post M2)) ∧ (¬ ((M2 63 x1.toNatClampNeg) = x2) → (j_X6_wrongRow_49 post M2)))))) ∧ (¬ ((M2 62 x1.toNatClampNeg) = (2 : Int32)) → (j_X6_wrongRow_49 post M2))))))))
set_option maxHeartbeats 4000000 in
set_option maxRecDepth 100000 in
theorem t_X6_wrongRow_55 (C : Cx G p s m args meth c RX6 cX6_wrongRow 3 (some .int)) {post : Int32 → Mem → Prop} (M : Mem) (y0 : Int32) {H : Heap} {locs : List Loc} {ls : Array Slot} (w : Wd G s M H locs) (hl : lv_has ls 3 []) (h : j_X6_wrongRow_55 post M y0) : W p l e (rmk 3) s m args below meth c H locs 0 0 (MQ below (va_Qi post (Qw G) (Af G s.heap.size)) args s 0 0 (Af G s.heap.size)) (F0 m 55 ls [.int y0]) := by
  have hx := C.1.1
  have hb := C.1.2.1
  unfold j_X6_wrongRow_55 at h
  exact ret_i C w h dX6_wrongRow_55
set_option maxHeartbeats 4000000 in
set_option maxRecDepth 100000 in
theorem t_X6_wrongRow_54 (C : Cx G p s m args meth c RX6 cX6_wrongRow 3 (some .int)) {post : Int32 → Mem → Prop} (M : Mem) {H : Heap} {locs : List Loc} {ls : Array Slot} (w : Wd G s M H locs) (hl : lv_has ls 3 []) (h : j_X6_wrongRow_54 post M) : W p l e (rmk 3) s m args below meth c H locs 0 0 (MQ below (va_Qi post (Qw G) (Af G s.heap.size)) args s 0 0 (Af G s.heap.size)) (F0 m 54 ls []) := by
  have hx := C.1.1
  have hb := C.1.2.1
  unfold j_X6_wrongRow_54 at h
  refine lv_iconst (v := 0) hx hb dX6_wrongRow_54 (by decide) ?_
  exact t_X6_wrongRow_55 C M (0 : Int32)  w (lv_sub hl [] rfl) h
set_option maxHeartbeats 4000000 in
set_option maxRecDepth 100000 in
theorem t_X6_wrongRow_49 (C : Cx G p s m args meth c RX6 cX6_wrongRow 3 (some .int)) {post : Int32 → Mem → Prop} (M : Mem) {H : Heap} {locs : List Loc} {ls : Array Slot} (w : Wd G s M H locs) (hl : lv_has ls 3 []) (h : j_X6_wrongRow_49 post M) : W p l e (rmk 3) s m args below meth c H locs 0 0 (MQ below (va_Qi post (Qw G) (Af G s.heap.size)) args s 0 0 (Af G s.heap.size)) (F0 m 49 ls []) := by
  have hx := C.1.1
  have hb := C.1.2.1
  unfold j_X6_wrongRow_49 at h
  refine lv_bipush (v := -12) hx hb dX6_wrongRow_49 (by decide) ?_
  refine lv_goto (tgt := 55) hx hb dX6_wrongRow_51 (by decide) ?_
  exact t_X6_wrongRow_55 C M (-12 : Int32)  w (lv_sub hl [] rfl) h
set_option maxHeartbeats 4000000 in
set_option maxRecDepth 100000 in
theorem c_X6_wrongRow (l : Launch) (G : GG) (hG : Ag G) (sz : Nat) (M : Mem) (x1 : Int32) (x2 : Int32) (post : Int32 → Mem → Prop) (h : q_X6_wrongRow M x1 x2 post) : Met l yX6_wrongRow (Cond.code yX6_wrongRow cX6_wrongRow 3 (some .int) :: wsL_law) (rmk 3) (va_Pc [.ref (ga G 57), .int x1, .int x2] (Pw G sz M)) (va_Qi post (Qw G) (Af G sz)) 0 0 (Af G sz) := by
  refine Met.ofW (cc := cX6_wrongRow) (maxL := 3) (ret := (some .int)) (by decide) rfl ?_
  intro p e s m args below meth c s₁ B hml hv
  obtain ⟨rfl, hsz, hE, hP⟩ := hv
  subst hsz
  have C := Cx.of (own := RX6) hG hE rfl hml B
  have w : Wd G s M s.heap [] := ⟨hP, va_S.rf⟩
  have hl := lv_entry [.ref (ga G 57), .int x1, .int x2] (n := 3) (Nat.le_of_ble_eq_true rfl)
  rw [lg_entry_eq]
  generalize (lg_sl [.ref (ga G 57), .int x1, .int x2] ++ List.replicate (3 - (lg_sl [.ref (ga G 57), .int x1, .int x2]).length) Slot.unset).toArray = ls at hl ⊢
  have hl : lv_has ls 3 [(0, .ref (ga G 57)), (1, .int x1), (2, .int x2)] := hl
  have hx := C.1.1
  have hb := C.1.2.1
  show W p l e (rmk 3) s m _ below meth c s.heap [] 0 0 _ _
  unfold q_X6_wrongRow at h
  refine lv_iload_n hx hb dX6_wrongRow_0 rfl (lv_at hl 1 rfl) ?_
  refine end_i w (run_S (As := [.int x1]) C w hl.1 (c_X6_isShelf l G C.2.2.1 _ _ x1  _ h) kw_12_1 kw_1_5 kw_11_23 kw_12_0 hd_X6_isShelf ⟨by decide, by decide⟩ rfl (Nat.le_of_ble_eq_true rfl) dX6_wrongRow_1) (fun r1 M2 H locs h w => ?_)
  refine lv_if_ne (tgt := 11) hx hb dX6_wrongRow_4 (by decide) (fun c3 => ?_) (fun c3 => ?_)
  · replace h := h.2 c3
    refine lv_aload_n hx hb dX6_wrongRow_11 rfl (lv_at hl 0 rfl) ?_
    refine gt_6_4 C w kw_5_4 dX6_wrongRow_12 ?_
    refine lv_iload_n hx hb dX6_wrongRow_15 rfl (lv_at hl 1 rfl) ?_
    have hin4 := h.1
    replace h := h.2
    have hz_hin4 := in_lt hin4
    refine pw_ld C w (i := 62) (by decide) pE_62 hin4 rfl dX6_wrongRow_16 ?_
    refine lv_if_ne (tgt := 25) hx hb dX6_wrongRow_17 (by decide) (fun c5 => ?_) (fun c5 => ?_)
    · replace h := h.2 c5
      refine lv_aload_n hx hb dX6_wrongRow_25 rfl (lv_at hl 0 rfl) ?_
      refine gt_6_4 C w kw_5_4 dX6_wrongRow_26 ?_
      refine lv_iload_n hx hb dX6_wrongRow_29 rfl (lv_at hl 1 rfl) ?_
      refine pw_ld C w (i := 62) (by decide) pE_62 hin4 rfl dX6_wrongRow_30 ?_
      refine lv_iconst (v := 2) hx hb dX6_wrongRow_31 (by decide) ?_
      refine lv_icmp_ne (tgt := 49) hx hb dX6_wrongRow_32 (by decide) (fun c6 => ?_) (fun c6 => ?_)
      · replace h := h.2 c6
        exact t_X6_wrongRow_49 C M2   w (lv_sub hl [] rfl) h
      replace h := h.1 c6
      refine lv_iload_n hx hb dX6_wrongRow_35 rfl (lv_at hl 2 rfl) ?_
      refine lv_if_lt (tgt := 54) hx hb dX6_wrongRow_36 (by decide) (fun c7 => ?_) (fun c7 => ?_)
      · replace h := h.1 c7
        exact t_X6_wrongRow_54 C M2   w (lv_sub hl [] rfl) h
      replace h := h.2 c7
      refine lv_aload_n hx hb dX6_wrongRow_39 rfl (lv_at hl 0 rfl) ?_
      refine gt_6_5 C w kw_5_5 dX6_wrongRow_40 ?_
      refine lv_iload_n hx hb dX6_wrongRow_43 rfl (lv_at hl 1 rfl) ?_
      refine pw_ld C w (i := 63) (by decide) pE_63 hin4 rfl dX6_wrongRow_44 ?_
      refine lv_iload_n hx hb dX6_wrongRow_45 rfl (lv_at hl 2 rfl) ?_
      refine lv_icmp_eq (tgt := 54) hx hb dX6_wrongRow_46 (by decide) (fun c8 => ?_) (fun c8 => ?_)
      · replace h := h.1 c8
        exact t_X6_wrongRow_54 C M2   w (lv_sub hl [] rfl) h
      replace h := h.2 c8
      exact t_X6_wrongRow_49 C M2   w (lv_sub hl [] rfl) h
    replace h := h.1 c5
    refine lv_bipush (v := -11) hx hb dX6_wrongRow_20 (by decide) ?_
    refine lv_goto (tgt := 55) hx hb dX6_wrongRow_22 (by decide) ?_
    exact t_X6_wrongRow_55 C M2 (-11 : Int32)  w (lv_sub hl [] rfl) h
  replace h := h.1 c3
  refine lv_iconst (v := -1) hx hb dX6_wrongRow_7 (by decide) ?_
  refine lv_goto (tgt := 55) hx hb dX6_wrongRow_8 (by decide) ?_
  exact t_X6_wrongRow_55 C M2 (-1 : Int32)  w (lv_sub hl [] rfl) h
def b_X6_tow_84 (k84 : Mem → Int32 → Prop) (post : Int32 → Mem → Prop) (M : Mem) (x3 : Int32) : Prop := ((M 57 14) ≤ (M 57 12) → (q_X6_copies M 60 58 (fun M3 => post x3 M3))) ∧ (¬ ((M 57 14) ≤ (M 57 12)) → (q_X6_here M  (fun r4 M5 => q_X6_readsStatement M5  (fun r6 M7 => q_X6_comes M7 r4 (fun r8 M9 => (r8 = 0 → (post ((-2000 : Int32) - (M 57 12)) M9)) ∧ (¬ (r8 = 0) → (k84 M9 x3)))))))
def lp_X6_tow_84 (post : Int32 → Mem → Prop) : Nat → Mem → Int32 → Prop
  | 0 => fun _ _ => False
  | n + 1 => fun M x3 => b_X6_tow_84 (lp_X6_tow_84 post n) post M x3
def b_X6_tow_38 (k38 : Mem → Int32 → Prop) (post : Int32 → Mem → Prop) (M : Mem) (x3 : Int32) : Prop := q_X6_readsStatement M  (fun r11 M12 => (r11 = 0 → (post ((-1000 : Int32) - (M12 57 12)) M12)) ∧ (¬ (r11 = 0) → (((M12 57 12) < (M12 57 14) → (k38 M12 (x3 + (1 : Int32)))) ∧ (¬ ((M12 57 12) < (M12 57 14)) → (q_X6_copies M12 58 60 (fun M16 => ∀ M17 : Mem, M17 = (mup M16 57 12 (0 : Int32)) → (∃ n, lp_X6_tow_84 post n M17 (x3 + (1 : Int32)))))))))
def lp_X6_tow_38 (post : Int32 → Mem → Prop) : Nat → Mem → Int32 → Prop
  | 0 => fun _ _ => False
  | n + 1 => fun M x3 => b_X6_tow_38 (lp_X6_tow_38 post n) post M x3
def q_X6_tow (M : Mem) (x1 : Int32) (post : Int32 → Mem → Prop) : Prop := q_X6_wrongRow M x1 (0 : Int32) (fun r18 M19 => (r18 = 0 → (∀ M21 : Mem, M21 = (mup M19 57 13 ((100 : Int32) * x1)) → (vp_in x1 8 ∧ (∀ M23 : Mem, M23 = (mup M21 57 14 (M21 64 x1.toNatClampNeg)) → (∀ M24 : Mem, M24 = (mup M23 57 12 (0 : Int32)) → (∃ n, lp_X6_tow_38 post n M24 (0 : Int32))))))) ∧ (¬ (r18 = 0) → (post r18 M19)))
set_option maxHeartbeats 4000000 in
set_option maxRecDepth 100000 in
theorem t_X6_tow_84 (C : Cx G p s m args meth c RX6 cX6_tow 7 (some .int)) {post : Int32 → Mem → Prop} : ∀ (n : Nat) (M : Mem) (x3 : Int32) {H : Heap} {locs : List Loc} {ls : Array Slot} (w : Wd G s M H locs) (hl : lv_has ls 7 [(0, .ref (ga G 57)), (3, .int x3)]) (h : lp_X6_tow_84 post n M x3), W p l e (rmk 5) s m args below meth c H locs 0 0 (MQ below (va_Qi post (Qw G) (Af G s.heap.size)) args s 0 0 (Af G s.heap.size)) (F0 m 84 ls []) := by
  have hx := C.1.1
  have hb := C.1.2.1
  intro n9
  induction n9 with
  | zero => intro M x3 H locs ls w hl h; exact absurd h id
  | succ n9 ih9 =>
    intro M x3 H locs ls w hl h
    have hk84 : ∀ (M : Mem) (x3 : Int32) (H : Heap) (locs : List Loc) (ls : Array Slot), Wd G s M H locs → lv_has ls 7 [(0, .ref (ga G 57)), (3, .int x3)] → lp_X6_tow_84 post n9 M x3 → W p l e (rmk 5) s m args below meth c H locs 0 0 (MQ below (va_Qi post (Qw G) (Af G s.heap.size)) args s 0 0 (Af G s.heap.size)) (F0 m 84 ls []) := fun M x3 H locs ls w hl h => ih9 M x3 w hl h
    replace h : b_X6_tow_84 (lp_X6_tow_84 post n9) post M x3 := h
    unfold b_X6_tow_84 at h
    refine lv_aload_n hx hb dX6_tow_84 rfl (lv_at hl 0 rfl) ?_
    refine gt_6_12 C w kw_11_18 dX6_tow_85 ?_
    refine lv_aload_n hx hb dX6_tow_88 rfl (lv_at hl 0 rfl) ?_
    refine gt_6_14 C w kw_11_17 dX6_tow_89 ?_
    refine lv_icmp_ge (tgt := 132) hx hb dX6_tow_92 (by decide) (fun c1 => ?_) (fun c1 => ?_)
    · replace h := h.1 c1
      refine lv_aload_n hx hb dX6_tow_132 rfl (lv_at hl 0 rfl) ?_
      refine gt_6_2 C w kw_5_2 dX6_tow_133 ?_
      refine lv_aload_n hx hb dX6_tow_136 rfl (lv_at hl 0 rfl) ?_
      refine gt_6_0 C w kw_5_0 dX6_tow_137 ?_
      refine end_v w (run_S (As := [.ref (ga G 60), .ref (ga G 58)]) C w hl.1 (c_X6_copies l G C.2.2.1 _ _ 60 58 ⟨by decide, by decide⟩ ⟨by decide, by decide⟩ _ h) kw_13_8 kw_1_5 kw_13_6 kw_13_7 hd_X6_copies ⟨by decide, by decide⟩ rfl (Nat.le_of_ble_eq_true rfl) dX6_tow_140) (fun M3 H locs h w => ?_)
      refine lv_iload_n hx hb dX6_tow_143 rfl (lv_at hl 1 rfl) ?_
      exact ret_i C w h dX6_tow_144
    replace h := h.2 c1
    refine lv_aload_n hx hb dX6_tow_95 rfl (lv_at hl 0 rfl) ?_
    refine gt_6_12 C w kw_11_18 dX6_tow_96 ?_
    refine lv_istore (lv' := [(4, .int (M 57 12)), (0, .ref (ga G 57)), (3, .int x3)]) hx hb dX6_tow_99 hl (by decide) rfl (fun ls hl => ?_)
    refine lv_aload_n hx hb dX6_tow_101 rfl (lv_at hl 1 rfl) ?_
    refine end_i w (run_V (As := []) C w hl.1 (c_X6_here l G C.2.2.1 _ _   _ h) kw_12_15 kw_1_5 kw_12_12 kw_12_13 kw_12_14 hd_X6_here ⟨by decide, by decide⟩ (w.recv C (i := 57) (by decide) (pE_6) rfl) rfl (Nat.le_of_ble_eq_true rfl) dX6_tow_102) (fun r4 M5 H locs h w => ?_)
    refine lv_istore (lv' := [(5, .int r4), (4, .int (M 57 12)), (0, .ref (ga G 57)), (3, .int x3)]) hx hb dX6_tow_105 hl (by decide) rfl (fun ls hl => ?_)
    refine lv_aload_n hx hb dX6_tow_107 rfl (lv_at hl 2 rfl) ?_
    refine end_i w (run_V (As := []) C w hl.1 (c_X6_readsStatement l G C.2.2.1 _ _   _ h) kw_12_9 kw_1_5 kw_12_6 kw_12_7 kw_12_8 hd_X6_readsStatement ⟨by decide, by decide⟩ (w.recv C (i := 57) (by decide) (pE_6) rfl) rfl (Nat.le_of_ble_eq_true rfl) dX6_tow_108) (fun r6 M7 H locs h w => ?_)
    refine lv_istore (lv' := [(6, .int r6), (5, .int r4), (4, .int (M 57 12)), (0, .ref (ga G 57)), (3, .int x3)]) hx hb dX6_tow_111 hl (by decide) rfl (fun ls hl => ?_)
    refine lv_aload_n hx hb dX6_tow_113 rfl (lv_at hl 3 rfl) ?_
    refine lv_iload hx hb dX6_tow_114 (lv_at hl 1 rfl) ?_
    refine end_i w (run_V (As := [.int r4]) C w hl.1 (c_X6_comes l G C.2.2.1 _ _ r4  _ h) kw_13_12 kw_1_5 kw_13_9 kw_13_10 kw_13_11 hd_X6_comes ⟨by decide, by decide⟩ (w.recv C (i := 57) (by decide) (pE_6) rfl) rfl (Nat.le_of_ble_eq_true rfl) dX6_tow_116) (fun r8 M9 H locs h w => ?_)
    refine lv_if_ne (tgt := 129) hx hb dX6_tow_119 (by decide) (fun c10 => ?_) (fun c10 => ?_)
    · replace h := h.2 c10
      refine lv_goto (tgt := 84) hx hb dX6_tow_129 (by decide) ?_
      exact hk84 M9 x3 _ _ _  w (lv_sub hl [3, 4] rfl) h
    replace h := h.1 c10
    refine lv_sipush (v := -2000) hx hb dX6_tow_122 (by decide) ?_
    refine lv_iload hx hb dX6_tow_125 (lv_at hl 2 rfl) ?_
    refine lv_isub hx hb dX6_tow_127 ?_
    exact ret_i C w h dX6_tow_128
set_option maxHeartbeats 4000000 in
set_option maxRecDepth 100000 in
theorem t_X6_tow_38 (C : Cx G p s m args meth c RX6 cX6_tow 7 (some .int)) {post : Int32 → Mem → Prop} : ∀ (n : Nat) (M : Mem) (x3 : Int32) {H : Heap} {locs : List Loc} {ls : Array Slot} (w : Wd G s M H locs) (hl : lv_has ls 7 [(0, .ref (ga G 57)), (3, .int x3)]) (h : lp_X6_tow_38 post n M x3), W p l e (rmk 5) s m args below meth c H locs 0 0 (MQ below (va_Qi post (Qw G) (Af G s.heap.size)) args s 0 0 (Af G s.heap.size)) (F0 m 38 ls []) := by
  have hx := C.1.1
  have hb := C.1.2.1
  intro n9
  induction n9 with
  | zero => intro M x3 H locs ls w hl h; exact absurd h id
  | succ n9 ih9 =>
    intro M x3 H locs ls w hl h
    have hk38 : ∀ (M : Mem) (x3 : Int32) (H : Heap) (locs : List Loc) (ls : Array Slot), Wd G s M H locs → lv_has ls 7 [(0, .ref (ga G 57)), (3, .int x3)] → lp_X6_tow_38 post n9 M x3 → W p l e (rmk 5) s m args below meth c H locs 0 0 (MQ below (va_Qi post (Qw G) (Af G s.heap.size)) args s 0 0 (Af G s.heap.size)) (F0 m 38 ls []) := fun M x3 H locs ls w hl h => ih9 M x3 w hl h
    replace h : b_X6_tow_38 (lp_X6_tow_38 post n9) post M x3 := h
    unfold b_X6_tow_38 at h
    refine lv_aload_n hx hb dX6_tow_38 rfl (lv_at hl 0 rfl) ?_
    refine end_i w (run_V (As := []) C w hl.1 (c_X6_readsStatement l G C.2.2.1 _ _   _ h) kw_12_9 kw_1_5 kw_12_6 kw_12_7 kw_12_8 hd_X6_readsStatement ⟨by decide, by decide⟩ (w.recv C (i := 57) (by decide) (pE_6) rfl) rfl (Nat.le_of_ble_eq_true rfl) dX6_tow_39) (fun r11 M12 H locs h w => ?_)
    refine lv_if_ne (tgt := 54) hx hb dX6_tow_42 (by decide) (fun c13 => ?_) (fun c13 => ?_)
    · replace h := h.2 c13
      refine lv_iinc (v := (x3 + (1 : Int32))) (lv' := [(3, .int (x3 + (1 : Int32))), (0, .ref (ga G 57))]) hx hb dX6_tow_54 hl (k := 1) rfl rfl (by decide) rfl (fun ls hl => ?_)
      refine lv_aload_n hx hb dX6_tow_57 rfl (lv_at hl 1 rfl) ?_
      refine gt_6_12 C w kw_11_18 dX6_tow_58 ?_
      refine lv_aload_n hx hb dX6_tow_61 rfl (lv_at hl 1 rfl) ?_
      refine gt_6_14 C w kw_11_17 dX6_tow_62 ?_
      refine lv_icmp_lt (tgt := 38) hx hb dX6_tow_65 (by decide) (fun c14 => ?_) (fun c14 => ?_)
      · replace h := h.1 c14
        exact hk38 M12 (x3 + (1 : Int32)) _ _ _  w (lv_sub hl [1, 0] rfl) h
      replace h := h.2 c14
      refine lv_aload_n hx hb dX6_tow_68 rfl (lv_at hl 1 rfl) ?_
      refine gt_6_0 C w kw_5_0 dX6_tow_69 ?_
      refine lv_aload_n hx hb dX6_tow_72 rfl (lv_at hl 1 rfl) ?_
      refine gt_6_2 C w kw_5_2 dX6_tow_73 ?_
      refine end_v w (run_S (As := [.ref (ga G 58), .ref (ga G 60)]) C w hl.1 (c_X6_copies l G C.2.2.1 _ _ 58 60 ⟨by decide, by decide⟩ ⟨by decide, by decide⟩ _ h) kw_13_8 kw_1_5 kw_13_6 kw_13_7 hd_X6_copies ⟨by decide, by decide⟩ rfl (Nat.le_of_ble_eq_true rfl) dX6_tow_76) (fun M16 H locs h w => ?_)
      refine lv_aload_n hx hb dX6_tow_79 rfl (lv_at hl 1 rfl) ?_
      refine lv_iconst (v := 0) hx hb dX6_tow_80 (by decide) ?_
      refine pt_6_12 C w kw_11_18 dX6_tow_81 (fun H locs w => ?_)
      obtain ⟨M17, eM17⟩ : ∃ z : Mem, z = (mup M16 57 12 (0 : Int32)) := ⟨_, rfl⟩
      replace w : Wd G s M17 H locs := by rw [eM17]; exact w
      replace h := h M17 eM17
      obtain ⟨n, h⟩ := h
      exact t_X6_tow_84 C n M17 (x3 + (1 : Int32))  w (lv_sub hl [1, 0] rfl) h
    replace h := h.1 c13
    refine lv_sipush (v := -1000) hx hb dX6_tow_45 (by decide) ?_
    refine lv_aload_n hx hb dX6_tow_48 rfl (lv_at hl 0 rfl) ?_
    refine gt_6_12 C w kw_11_18 dX6_tow_49 ?_
    refine lv_isub hx hb dX6_tow_52 ?_
    exact ret_i C w h dX6_tow_53
set_option maxHeartbeats 4000000 in
set_option maxRecDepth 100000 in
theorem c_X6_tow (l : Launch) (G : GG) (hG : Ag G) (sz : Nat) (M : Mem) (x1 : Int32) (post : Int32 → Mem → Prop) (h : q_X6_tow M x1 post) : Met l yX6_tow (Cond.code yX6_tow cX6_tow 7 (some .int) :: wsL_law) (rmk 5) (va_Pc [.ref (ga G 57), .int x1] (Pw G sz M)) (va_Qi post (Qw G) (Af G sz)) 0 0 (Af G sz) := by
  refine Met.ofW (cc := cX6_tow) (maxL := 7) (ret := (some .int)) (by decide) rfl ?_
  intro p e s m args below meth c s₁ B hml hv
  obtain ⟨rfl, hsz, hE, hP⟩ := hv
  subst hsz
  have C := Cx.of (own := RX6) hG hE rfl hml B
  have w : Wd G s M s.heap [] := ⟨hP, va_S.rf⟩
  have hl := lv_entry [.ref (ga G 57), .int x1] (n := 7) (Nat.le_of_ble_eq_true rfl)
  rw [lg_entry_eq]
  generalize (lg_sl [.ref (ga G 57), .int x1] ++ List.replicate (7 - (lg_sl [.ref (ga G 57), .int x1]).length) Slot.unset).toArray = ls at hl ⊢
  have hl : lv_has ls 7 [(0, .ref (ga G 57)), (1, .int x1)] := hl
  have hx := C.1.1
  have hb := C.1.2.1
  show W p l e (rmk 5) s m _ below meth c s.heap [] 0 0 _ _
  unfold q_X6_tow at h
  refine lv_aload_n hx hb dX6_tow_0 rfl (lv_at hl 0 rfl) ?_
  refine lv_iload_n hx hb dX6_tow_1 rfl (lv_at hl 1 rfl) ?_
  refine lv_iconst (v := 0) hx hb dX6_tow_2 (by decide) ?_
  refine end_i w (run_V (As := [.int x1, .int (0 : Int32)]) C w hl.1 (c_X6_wrongRow l G C.2.2.1 _ _ x1 (0 : Int32)  _ h) kw_11_22 kw_1_5 kw_11_19 kw_11_20 kw_11_21 hd_X6_wrongRow ⟨by decide, by decide⟩ (w.recv C (i := 57) (by decide) (pE_6) rfl) rfl (Nat.le_of_ble_eq_true rfl) dX6_tow_3) (fun r18 M19 H locs h w => ?_)
  refine lv_istore_n (lv' := [(2, .int r18), (0, .ref (ga G 57)), (1, .int x1)]) hx hb dX6_tow_6 rfl hl (by decide) rfl (fun ls hl => ?_)
  refine lv_iload_n hx hb dX6_tow_7 rfl (lv_at hl 0 rfl) ?_
  refine lv_if_eq (tgt := 13) hx hb dX6_tow_8 (by decide) (fun c20 => ?_) (fun c20 => ?_)
  · replace h := h.1 c20
    refine lv_aload_n hx hb dX6_tow_13 rfl (lv_at hl 1 rfl) ?_
    refine lv_bipush (v := 100) hx hb dX6_tow_14 (by decide) ?_
    refine lv_iload_n hx hb dX6_tow_16 rfl (lv_at hl 2 rfl) ?_
    refine lv_imul hx hb dX6_tow_17 ?_
    refine pt_6_13 C w kw_11_16 dX6_tow_18 (fun H locs w => ?_)
    obtain ⟨M21, eM21⟩ : ∃ z : Mem, z = (mup M19 57 13 ((100 : Int32) * x1)) := ⟨_, rfl⟩
    replace w : Wd G s M21 H locs := by rw [eM21]; exact w
    replace h := h M21 eM21
    refine lv_aload_n hx hb dX6_tow_21 rfl (lv_at hl 1 rfl) ?_
    refine lv_aload_n hx hb dX6_tow_22 rfl (lv_at hl 1 rfl) ?_
    refine gt_6_6 C w kw_5_6 dX6_tow_23 ?_
    refine lv_iload_n hx hb dX6_tow_26 rfl (lv_at hl 2 rfl) ?_
    have hin22 := h.1
    replace h := h.2
    have hz_hin22 := in_lt hin22
    refine pw_ld C w (i := 64) (by decide) pE_64 hin22 rfl dX6_tow_27 ?_
    refine pt_6_14 C w kw_11_17 dX6_tow_28 (fun H locs w => ?_)
    obtain ⟨M23, eM23⟩ : ∃ z : Mem, z = (mup M21 57 14 (M21 64 x1.toNatClampNeg)) := ⟨_, rfl⟩
    replace w : Wd G s M23 H locs := by rw [eM23]; exact w
    replace h := h M23 eM23
    refine lv_aload_n hx hb dX6_tow_31 rfl (lv_at hl 1 rfl) ?_
    refine lv_iconst (v := 0) hx hb dX6_tow_32 (by decide) ?_
    refine pt_6_12 C w kw_11_18 dX6_tow_33 (fun H locs w => ?_)
    obtain ⟨M24, eM24⟩ : ∃ z : Mem, z = (mup M23 57 12 (0 : Int32)) := ⟨_, rfl⟩
    replace w : Wd G s M24 H locs := by rw [eM24]; exact w
    replace h := h M24 eM24
    refine lv_iconst (v := 0) hx hb dX6_tow_36 (by decide) ?_
    refine lv_istore_n (lv' := [(3, .int (0 : Int32)), (2, .int r18), (0, .ref (ga G 57)), (1, .int x1)]) hx hb dX6_tow_37 rfl hl (by decide) rfl (fun ls hl => ?_)
    obtain ⟨n, h⟩ := h
    exact t_X6_tow_38 C n M24 (0 : Int32)  w (lv_sub hl [2, 0] rfl) h
  replace h := h.2 c20
  refine lv_iload_n hx hb dX6_tow_11 rfl (lv_at hl 0 rfl) ?_
  exact ret_i C w h dX6_tow_12
def j_X4_has_17 (post : Int32 → Mem → Prop) (M : Mem) (y0 : Int32) : Prop := (y0 = 0 ∨ y0 = 1) ∧ post y0 M
def j_X4_has_16 (post : Int32 → Mem → Prop) (M : Mem) : Prop := j_X4_has_17 post M (0 : Int32)
def q_X4_has (M : Mem) (a0 : Nat) (x1 : Int32) (post : Int32 → Mem → Prop) : Prop := (x1 < 0 → (j_X4_has_16 post M)) ∧ (¬ (x1 < 0) → (((M a0 1) ≤ x1 → (j_X4_has_16 post M)) ∧ (¬ ((M a0 1) ≤ x1) → (j_X4_has_17 post M (1 : Int32)))))
set_option maxHeartbeats 4000000 in
set_option maxRecDepth 100000 in
theorem t_X4_has_17 (C : Cx G p s m args meth c RX4 cX4_has 2 (some .boolean)) {post : Int32 → Mem → Prop} (M : Mem) (y0 : Int32) {H : Heap} {locs : List Loc} {ls : Array Slot} (w : Wd G s M H locs) (hl : lv_has ls 2 []) (h : j_X4_has_17 post M y0) : W p l e (rmk 1) s m args below meth c H locs 0 0 (MQ below (va_Qi post (Qw G) (Af G s.heap.size)) args s 0 0 (Af G s.heap.size)) (F0 m 17 ls [.int y0]) := by
  have hx := C.1.1
  have hb := C.1.2.1
  unfold j_X4_has_17 at h
  exact ret_z C w h dX4_has_17
set_option maxHeartbeats 4000000 in
set_option maxRecDepth 100000 in
theorem t_X4_has_16 (C : Cx G p s m args meth c RX4 cX4_has 2 (some .boolean)) {post : Int32 → Mem → Prop} (M : Mem) {H : Heap} {locs : List Loc} {ls : Array Slot} (w : Wd G s M H locs) (hl : lv_has ls 2 []) (h : j_X4_has_16 post M) : W p l e (rmk 1) s m args below meth c H locs 0 0 (MQ below (va_Qi post (Qw G) (Af G s.heap.size)) args s 0 0 (Af G s.heap.size)) (F0 m 16 ls []) := by
  have hx := C.1.1
  have hb := C.1.2.1
  unfold j_X4_has_16 at h
  refine lv_iconst (v := 0) hx hb dX4_has_16 (by decide) ?_
  exact t_X4_has_17 C M (0 : Int32)  w (lv_sub hl [] rfl) h
set_option maxHeartbeats 4000000 in
set_option maxRecDepth 100000 in
theorem c_X4_has (l : Launch) (G : GG) (hG : Ag G) (sz : Nat) (M : Mem) (a0 : Nat) (x1 : Int32) (ha0 : 1 ≤ a0 ∧ a0 < 4) (post : Int32 → Mem → Prop) (h : q_X4_has M a0 x1 post) : Met l yX4_has (Cond.code yX4_has cX4_has 2 (some .boolean) :: wsL_law) (rmk 1) (va_Pc [.ref (ga G a0), .int x1] (Pw G sz M)) (va_Qi post (Qw G) (Af G sz)) 0 0 (Af G sz) := by
  refine Met.ofW (cc := cX4_has) (maxL := 2) (ret := (some .boolean)) (by decide) rfl ?_
  intro p e s m args below meth c s₁ B hml hv
  obtain ⟨rfl, hsz, hE, hP⟩ := hv
  subst hsz
  have C := Cx.of (own := RX4) hG hE rfl hml B
  have w : Wd G s M s.heap [] := ⟨hP, va_S.rf⟩
  have hl := lv_entry [.ref (ga G a0), .int x1] (n := 2) (Nat.le_of_ble_eq_true rfl)
  rw [lg_entry_eq]
  generalize (lg_sl [.ref (ga G a0), .int x1] ++ List.replicate (2 - (lg_sl [.ref (ga G a0), .int x1]).length) Slot.unset).toArray = ls at hl ⊢
  have hl : lv_has ls 2 [(0, .ref (ga G a0)), (1, .int x1)] := hl
  have hx := C.1.1
  have hb := C.1.2.1
  show W p l e (rmk 1) s m _ below meth c s.heap [] 0 0 _ _
  unfold q_X4_has at h
  refine lv_iload_n hx hb dX4_has_0 rfl (lv_at hl 1 rfl) ?_
  refine lv_if_lt (tgt := 16) hx hb dX4_has_1 (by decide) (fun c1 => ?_) (fun c1 => ?_)
  · replace h := h.1 c1
    exact t_X4_has_16 C M   w (lv_sub hl [] rfl) h
  replace h := h.2 c1
  refine lv_iload_n hx hb dX4_has_4 rfl (lv_at hl 1 rfl) ?_
  refine lv_aload_n hx hb dX4_has_5 rfl (lv_at hl 0 rfl) ?_
  refine gt_4_1 C w ha0 kw_2_17 dX4_has_6 ?_
  refine lv_icmp_ge (tgt := 16) hx hb dX4_has_9 (by decide) (fun c2 => ?_) (fun c2 => ?_)
  · replace h := h.1 c2
    exact t_X4_has_16 C M   w (lv_sub hl [] rfl) h
  replace h := h.2 c2
  refine lv_iconst (v := 1) hx hb dX4_has_12 (by decide) ?_
  refine lv_goto (tgt := 17) hx hb dX4_has_13 (by decide) ?_
  exact t_X4_has_17 C M (1 : Int32)  w (lv_sub hl [] rfl) h
def j_X5_piece_132 (post : Int32 → Mem → Prop) (M : Mem) (y0 : Int32) : Prop := post y0 M
def q_X5_piece (M : Mem) (x1 : Int32) (x2 : Int32) (post : Int32 → Mem → Prop) : Prop := q_X4_has M 1 x1 (fun r1 M2 => (r1 = 0 → (post (-1 : Int32) M2)) ∧ (¬ (r1 = 0) → (vp_in x1 6 ∧ ((x2 = (0 : Int32) → (post (M2 (38 + x1.toNatClampNeg) 0) M2)) ∧ (¬ x2 = (0 : Int32) → ((x2 = (1 : Int32) → (post (M2 (38 + x1.toNatClampNeg) 2) M2)) ∧ (¬ x2 = (1 : Int32) → ((x2 = (2 : Int32) → (post (M2 (38 + x1.toNatClampNeg) 1) M2)) ∧ (¬ x2 = (2 : Int32) → ((x2 = (3 : Int32) → (post (M2 (38 + x1.toNatClampNeg) 5) M2)) ∧ (¬ x2 = (3 : Int32) → ((x2 = (4 : Int32) → (post (M2 (38 + x1.toNatClampNeg) 6) M2)) ∧ (¬ x2 = (4 : Int32) → ((x2 = (5 : Int32) → (post (M2 (38 + x1.toNatClampNeg) 7) M2)) ∧ (¬ x2 = (5 : Int32) → ((x2 = (6 : Int32) → (post (M2 (38 + x1.toNatClampNeg) 8) M2)) ∧ (¬ x2 = (6 : Int32) → ((x2 = (7 : Int32) → (post (M2 (38 + x1.toNatClampNeg) 4) M2)) ∧ (¬ x2 = (7 : Int32) → ((x2 = (8 : Int32) → (((M2 1 7) = x1 → (j_X5_piece_132 post M2 (1 : Int32))) ∧ (¬ ((M2 1 7) = x1) → (j_X5_piece_132 post M2 (0 : Int32))))) ∧ (¬ x2 = (8 : Int32) → (post (-1 : Int32) M2))))))))))))))))))))))
set_option maxHeartbeats 4000000 in
set_option maxRecDepth 100000 in
theorem t_X5_piece_132 (C : Cx G p s m args meth c RX5 cX5_piece 4 (some .int)) {post : Int32 → Mem → Prop} (M : Mem) (y0 : Int32) {H : Heap} {locs : List Loc} {ls : Array Slot} (w : Wd G s M H locs) (hl : lv_has ls 4 []) (h : j_X5_piece_132 post M y0) : W p l e (rmk 2) s m args below meth c H locs 0 0 (MQ below (va_Qi post (Qw G) (Af G s.heap.size)) args s 0 0 (Af G s.heap.size)) (F0 m 132 ls [.int y0]) := by
  have hx := C.1.1
  have hb := C.1.2.1
  unfold j_X5_piece_132 at h
  exact ret_i C w h dX5_piece_132
set_option maxHeartbeats 4000000 in
set_option maxRecDepth 100000 in
theorem c_X5_piece (l : Launch) (G : GG) (hG : Ag G) (sz : Nat) (M : Mem) (x1 : Int32) (x2 : Int32) (post : Int32 → Mem → Prop) (h : q_X5_piece M x1 x2 post) : Met l yX5_piece (Cond.code yX5_piece cX5_piece 4 (some .int) :: wsL_law) (rmk 2) (va_Pc [.ref (ga G 0), .int x1, .int x2] (Pw G sz M)) (va_Qi post (Qw G) (Af G sz)) 0 0 (Af G sz) := by
  refine Met.ofW (cc := cX5_piece) (maxL := 4) (ret := (some .int)) (by decide) rfl ?_
  intro p e s m args below meth c s₁ B hml hv
  obtain ⟨rfl, hsz, hE, hP⟩ := hv
  subst hsz
  have C := Cx.of (own := RX5) hG hE rfl hml B
  have w : Wd G s M s.heap [] := ⟨hP, va_S.rf⟩
  have hl := lv_entry [.ref (ga G 0), .int x1, .int x2] (n := 4) (Nat.le_of_ble_eq_true rfl)
  rw [lg_entry_eq]
  generalize (lg_sl [.ref (ga G 0), .int x1, .int x2] ++ List.replicate (4 - (lg_sl [.ref (ga G 0), .int x1, .int x2]).length) Slot.unset).toArray = ls at hl ⊢
  have hl : lv_has ls 4 [(0, .ref (ga G 0)), (1, .int x1), (2, .int x2)] := hl
  have hx := C.1.1
  have hb := C.1.2.1
  show W p l e (rmk 2) s m _ below meth c s.heap [] 0 0 _ _
  unfold q_X5_piece at h
  refine lv_aload_n hx hb dX5_piece_0 rfl (lv_at hl 0 rfl) ?_
  refine gt_5_0 C w kw_1_16 dX5_piece_1 ?_
  refine lv_iload_n hx hb dX5_piece_4 rfl (lv_at hl 1 rfl) ?_
  refine end_i w (run_VN (As := [.int x1]) C w hl.1 (c_X4_has l G C.2.2.1 _ _ 1 x1 ⟨by decide, by decide⟩ _ h) kw_13_22 kw_1_15 kn_53 kw_13_20 kw_13_21 hd_X4_has ⟨by decide, by decide⟩ (w.recv C (i := 1) (by decide) (pE_4 ⟨by decide, by decide⟩) rfl) rfl (Nat.le_of_ble_eq_true rfl) dX5_piece_5) (fun r1 M2 H locs h w => ?_)
  refine lv_if_ne (tgt := 13) hx hb dX5_piece_8 (by decide) (fun c3 => ?_) (fun c3 => ?_)
  · replace h := h.2 c3
    refine lv_aload_n hx hb dX5_piece_13 rfl (lv_at hl 0 rfl) ?_
    refine gt_5_0 C w kw_1_16 dX5_piece_14 ?_
    refine gn_4_0 C w ⟨by decide, by decide⟩ kn_13 dX5_piece_17 ?_
    refine lv_iload_n hx hb dX5_piece_20 rfl (lv_at hl 1 rfl) ?_
    have hin4 := h.1
    replace h := h.2
    have hz_hin4 := in_lt hin4
    refine pw_ldP C w (i := 8) ⟨by decide, by decide⟩ hin4 dX5_piece_21 (j := (38 + x1.toNatClampNeg)) (by omega) ?_
    refine lv_astore_n (lv' := [(3, .ref (ga G (38 + x1.toNatClampNeg))), (0, .ref (ga G 0)), (1, .int x1), (2, .int x2)]) hx hb dX5_piece_22 rfl hl (by decide) rfl (fun ls hl => ?_)
    refine lv_iload_n hx hb dX5_piece_23 rfl (lv_at hl 3 rfl) ?_
    by_cases c5 : x2 = (0 : Int32)
    · replace h := h.1 c5
      refine lv_tableIn (off := 52) (tgt := 76) hx hb dX5_piece_24 (by rw [c5]; decide) (by rw [c5]; decide) (by rw [c5]; decide) (by decide) ?_
      refine lv_aload_n hx hb dX5_piece_76 rfl (lv_at hl 0 rfl) ?_
      refine gn_1_0 C w (by omega) kn_1 dX5_piece_77 ?_
      exact ret_i C w h dX5_piece_80
    replace h := h.2 c5
    by_cases c6 : x2 = (1 : Int32)
    · replace h := h.1 c6
      refine lv_tableIn (off := 57) (tgt := 81) hx hb dX5_piece_24 (by rw [c6]; decide) (by rw [c6]; decide) (by rw [c6]; decide) (by decide) ?_
      refine lv_aload_n hx hb dX5_piece_81 rfl (lv_at hl 0 rfl) ?_
      refine gn_1_2 C w (by omega) kn_3 dX5_piece_82 ?_
      exact ret_i C w h dX5_piece_85
    replace h := h.2 c6
    by_cases c7 : x2 = (2 : Int32)
    · replace h := h.1 c7
      refine lv_tableIn (off := 62) (tgt := 86) hx hb dX5_piece_24 (by rw [c7]; decide) (by rw [c7]; decide) (by rw [c7]; decide) (by decide) ?_
      refine lv_aload_n hx hb dX5_piece_86 rfl (lv_at hl 0 rfl) ?_
      refine gn_1_1 C w (by omega) kn_2 dX5_piece_87 ?_
      exact ret_i C w h dX5_piece_90
    replace h := h.2 c7
    by_cases c8 : x2 = (3 : Int32)
    · replace h := h.1 c8
      refine lv_tableIn (off := 67) (tgt := 91) hx hb dX5_piece_24 (by rw [c8]; decide) (by rw [c8]; decide) (by rw [c8]; decide) (by decide) ?_
      refine lv_aload_n hx hb dX5_piece_91 rfl (lv_at hl 0 rfl) ?_
      refine gn_1_5 C w (by omega) kn_7 dX5_piece_92 ?_
      exact ret_i C w h dX5_piece_95
    replace h := h.2 c8
    by_cases c9 : x2 = (4 : Int32)
    · replace h := h.1 c9
      refine lv_tableIn (off := 72) (tgt := 96) hx hb dX5_piece_24 (by rw [c9]; decide) (by rw [c9]; decide) (by rw [c9]; decide) (by decide) ?_
      refine lv_aload_n hx hb dX5_piece_96 rfl (lv_at hl 0 rfl) ?_
      refine gn_1_6 C w (by omega) kn_9 dX5_piece_97 ?_
      exact ret_i C w h dX5_piece_100
    replace h := h.2 c9
    by_cases c10 : x2 = (5 : Int32)
    · replace h := h.1 c10
      refine lv_tableIn (off := 77) (tgt := 101) hx hb dX5_piece_24 (by rw [c10]; decide) (by rw [c10]; decide) (by rw [c10]; decide) (by decide) ?_
      refine lv_aload_n hx hb dX5_piece_101 rfl (lv_at hl 0 rfl) ?_
      refine gn_1_7 C w (by omega) kn_10 dX5_piece_102 ?_
      exact ret_i C w h dX5_piece_105
    replace h := h.2 c10
    by_cases c11 : x2 = (6 : Int32)
    · replace h := h.1 c11
      refine lv_tableIn (off := 82) (tgt := 106) hx hb dX5_piece_24 (by rw [c11]; decide) (by rw [c11]; decide) (by rw [c11]; decide) (by decide) ?_
      refine lv_aload_n hx hb dX5_piece_106 rfl (lv_at hl 0 rfl) ?_
      refine gn_1_8 C w (by omega) kn_12 dX5_piece_107 ?_
      exact ret_i C w h dX5_piece_110
    replace h := h.2 c11
    by_cases c12 : x2 = (7 : Int32)
    · replace h := h.1 c12
      refine lv_tableIn (off := 87) (tgt := 111) hx hb dX5_piece_24 (by rw [c12]; decide) (by rw [c12]; decide) (by rw [c12]; decide) (by decide) ?_
      refine lv_aload_n hx hb dX5_piece_111 rfl (lv_at hl 0 rfl) ?_
      refine gn_1_4 C w (by omega) kn_4 dX5_piece_112 ?_
      exact ret_i C w h dX5_piece_115
    replace h := h.2 c12
    by_cases c13 : x2 = (8 : Int32)
    · replace h := h.1 c13
      refine lv_tableIn (off := 92) (tgt := 116) hx hb dX5_piece_24 (by rw [c13]; decide) (by rw [c13]; decide) (by rw [c13]; decide) (by decide) ?_
      refine lv_aload_n hx hb dX5_piece_116 rfl (lv_at hl 1 rfl) ?_
      refine gt_5_0 C w kw_1_16 dX5_piece_117 ?_
      refine gn_4_7 C w ⟨by decide, by decide⟩ kn_22 dX5_piece_120 ?_
      refine lv_iload_n hx hb dX5_piece_123 rfl (lv_at hl 2 rfl) ?_
      refine lv_icmp_ne (tgt := 131) hx hb dX5_piece_124 (by decide) (fun c14 => ?_) (fun c14 => ?_)
      · replace h := h.2 c14
        refine lv_iconst (v := 0) hx hb dX5_piece_131 (by decide) ?_
        exact t_X5_piece_132 C M2 (0 : Int32)  w (lv_sub hl [] rfl) h
      replace h := h.1 c14
      refine lv_iconst (v := 1) hx hb dX5_piece_127 (by decide) ?_
      refine lv_goto (tgt := 132) hx hb dX5_piece_128 (by decide) ?_
      exact t_X5_piece_132 C M2 (1 : Int32)  w (lv_sub hl [] rfl) h
    replace h := h.2 c13
    have nc5 := lv_neT c5 (a := 0) (by decide)
    have nc6 := lv_neT c6 (a := 1) (by decide)
    have nc7 := lv_neT c7 (a := 2) (by decide)
    have nc8 := lv_neT c8 (a := 3) (by decide)
    have nc9 := lv_neT c9 (a := 4) (by decide)
    have nc10 := lv_neT c10 (a := 5) (by decide)
    have nc11 := lv_neT c11 (a := 6) (by decide)
    have nc12 := lv_neT c12 (a := 7) (by decide)
    have nc13 := lv_neT c13 (a := 8) (by decide)
    refine lv_tableOut (tgt := 133) hx hb dX5_piece_24 (by omega) (by decide) ?_
    refine lv_iconst (v := -1) hx hb dX5_piece_133 (by decide) ?_
    exact ret_i C w h dX5_piece_134
  replace h := h.1 c3
  refine lv_iconst (v := -1) hx hb dX5_piece_11 (by decide) ?_
  exact ret_i C w h dX5_piece_12
def q_X6_get (M : Mem) (x1 : Int32) (x2 : Int32) (post : Int32 → Mem → Prop) : Prop := vp_in (((12 : Int32) + ((6 : Int32) * x1)) + x2) 54 ∧ (post (M 58 (((12 : Int32) + ((6 : Int32) * x1)) + x2).toNatClampNeg) M)
set_option maxHeartbeats 4000000 in
set_option maxRecDepth 100000 in
theorem c_X6_get (l : Launch) (G : GG) (hG : Ag G) (sz : Nat) (M : Mem) (x1 : Int32) (x2 : Int32) (post : Int32 → Mem → Prop) (h : q_X6_get M x1 x2 post) : Met l yX6_get (Cond.code yX6_get cX6_get 3 (some .int) :: wsL_law) (rmk 1) (va_Pc [.ref (ga G 57), .int x1, .int x2] (Pw G sz M)) (va_Qi post (Qw G) (Af G sz)) 0 0 (Af G sz) := by
  refine Met.ofW (cc := cX6_get) (maxL := 3) (ret := (some .int)) (by decide) rfl ?_
  intro p e s m args below meth c s₁ B hml hv
  obtain ⟨rfl, hsz, hE, hP⟩ := hv
  subst hsz
  have C := Cx.of (own := RX6) hG hE rfl hml B
  have w : Wd G s M s.heap [] := ⟨hP, va_S.rf⟩
  have hl := lv_entry [.ref (ga G 57), .int x1, .int x2] (n := 3) (Nat.le_of_ble_eq_true rfl)
  rw [lg_entry_eq]
  generalize (lg_sl [.ref (ga G 57), .int x1, .int x2] ++ List.replicate (3 - (lg_sl [.ref (ga G 57), .int x1, .int x2]).length) Slot.unset).toArray = ls at hl ⊢
  have hl : lv_has ls 3 [(0, .ref (ga G 57)), (1, .int x1), (2, .int x2)] := hl
  have hx := C.1.1
  have hb := C.1.2.1
  show W p l e (rmk 1) s m _ below meth c s.heap [] 0 0 _ _
  unfold q_X6_get at h
  refine lv_aload_n hx hb dX6_get_0 rfl (lv_at hl 0 rfl) ?_
  refine gt_6_0 C w kw_5_0 dX6_get_1 ?_
  refine lv_bipush (v := 12) hx hb dX6_get_4 (by decide) ?_
  refine lv_bipush (v := 6) hx hb dX6_get_6 (by decide) ?_
  refine lv_iload_n hx hb dX6_get_8 rfl (lv_at hl 1 rfl) ?_
  refine lv_imul hx hb dX6_get_9 ?_
  refine lv_iadd hx hb dX6_get_10 ?_
  refine lv_iload_n hx hb dX6_get_11 rfl (lv_at hl 2 rfl) ?_
  refine lv_iadd hx hb dX6_get_12 ?_
  have hin1 := h.1
  replace h := h.2
  have hz_hin1 := in_lt hin1
  refine pw_ld C w (i := 58) (by decide) pE_58 hin1 rfl dX6_get_13 ?_
  exact ret_i C w h dX6_get_14
def j_X6_giveBy_44 (post : Int32 → Mem → Prop) (M : Mem) : Prop := post (2 : Int32) M
def q_X6_giveBy (M : Mem) (x0 : Int32) (x1 : Int32) (post : Int32 → Mem → Prop) : Prop := (x0 = (1 : Int32) → (j_X6_giveBy_44 post M)) ∧ (¬ x0 = (1 : Int32) → ((x0 = (2 : Int32) → (post (1 : Int32) M)) ∧ (¬ x0 = (2 : Int32) → ((x0 = (3 : Int32) → (post ((40 : Int32) + x1) M)) ∧ (¬ x0 = (3 : Int32) → ((x0 = (4 : Int32) → (j_X6_giveBy_44 post M)) ∧ (¬ x0 = (4 : Int32) → ((x0 = (5 : Int32) → (j_X6_giveBy_44 post M)) ∧ (¬ x0 = (5 : Int32) → ((x0 = (6 : Int32) → (post (((40 : Int32) + x1) / (2 : Int32)) M)) ∧ (¬ x0 = (6 : Int32) → ((x0 = (7 : Int32) → (post ((((40 : Int32) + x1) / (2 : Int32)) - (5 : Int32)) M)) ∧ (¬ x0 = (7 : Int32) → (post (4 : Int32) M))))))))))))))
set_option maxHeartbeats 4000000 in
set_option maxRecDepth 100000 in
theorem t_X6_giveBy_44 (C : Cx G p s m args meth c RX6 cX6_giveBy 2 (some .int)) {post : Int32 → Mem → Prop} (M : Mem) {H : Heap} {locs : List Loc} {ls : Array Slot} (w : Wd G s M H locs) (hl : lv_has ls 2 []) (h : j_X6_giveBy_44 post M) : W p l e (rmk 1) s m args below meth c H locs 0 0 (MQ below (va_Qi post (Qw G) (Af G s.heap.size)) args s 0 0 (Af G s.heap.size)) (F0 m 44 ls []) := by
  have hx := C.1.1
  have hb := C.1.2.1
  unfold j_X6_giveBy_44 at h
  refine lv_iconst (v := 2) hx hb dX6_giveBy_44 (by decide) ?_
  exact ret_i C w h dX6_giveBy_45
set_option maxHeartbeats 4000000 in
set_option maxRecDepth 100000 in
theorem c_X6_giveBy (l : Launch) (G : GG) (hG : Ag G) (sz : Nat) (M : Mem) (x0 : Int32) (x1 : Int32) (post : Int32 → Mem → Prop) (h : q_X6_giveBy M x0 x1 post) : Met l yX6_giveBy (Cond.code yX6_giveBy cX6_giveBy 2 (some .int) :: wsL_law) (rmk 1) (va_Pc [.int x0, .int x1] (Pw G sz M)) (va_Qi post (Qw G) (Af G sz)) 0 0 (Af G sz) := by
  refine Met.ofW (cc := cX6_giveBy) (maxL := 2) (ret := (some .int)) (by decide) rfl ?_
  intro p e s m args below meth c s₁ B hml hv
  obtain ⟨rfl, hsz, hE, hP⟩ := hv
  subst hsz
  have C := Cx.of (own := RX6) hG hE rfl hml B
  have w : Wd G s M s.heap [] := ⟨hP, va_S.rf⟩
  have hl := lv_entry [.int x0, .int x1] (n := 2) (Nat.le_of_ble_eq_true rfl)
  rw [lg_entry_eq]
  generalize (lg_sl [.int x0, .int x1] ++ List.replicate (2 - (lg_sl [.int x0, .int x1]).length) Slot.unset).toArray = ls at hl ⊢
  have hl : lv_has ls 2 [(0, .int x0), (1, .int x1)] := hl
  have hx := C.1.1
  have hb := C.1.2.1
  show W p l e (rmk 1) s m _ below meth c s.heap [] 0 0 _ _
  unfold q_X6_giveBy at h
  refine lv_iload_n hx hb dX6_giveBy_0 rfl (lv_at hl 0 rfl) ?_
  by_cases c1 : x0 = (1 : Int32)
  · replace h := h.1 c1
    refine lv_tableIn (off := 43) (tgt := 44) hx hb dX6_giveBy_1 (by rw [c1]; decide) (by rw [c1]; decide) (by rw [c1]; decide) (by decide) ?_
    exact t_X6_giveBy_44 C M   w (lv_sub hl [] rfl) h
  replace h := h.2 c1
  by_cases c2 : x0 = (2 : Int32)
  · replace h := h.1 c2
    refine lv_tableIn (off := 45) (tgt := 46) hx hb dX6_giveBy_1 (by rw [c2]; decide) (by rw [c2]; decide) (by rw [c2]; decide) (by decide) ?_
    refine lv_iconst (v := 1) hx hb dX6_giveBy_46 (by decide) ?_
    exact ret_i C w h dX6_giveBy_47
  replace h := h.2 c2
  by_cases c3 : x0 = (3 : Int32)
  · replace h := h.1 c3
    refine lv_tableIn (off := 47) (tgt := 48) hx hb dX6_giveBy_1 (by rw [c3]; decide) (by rw [c3]; decide) (by rw [c3]; decide) (by decide) ?_
    refine lv_bipush (v := 40) hx hb dX6_giveBy_48 (by decide) ?_
    refine lv_iload_n hx hb dX6_giveBy_50 rfl (lv_at hl 1 rfl) ?_
    refine lv_iadd hx hb dX6_giveBy_51 ?_
    exact ret_i C w h dX6_giveBy_52
  replace h := h.2 c3
  by_cases c4 : x0 = (4 : Int32)
  · replace h := h.1 c4
    refine lv_tableIn (off := 43) (tgt := 44) hx hb dX6_giveBy_1 (by rw [c4]; decide) (by rw [c4]; decide) (by rw [c4]; decide) (by decide) ?_
    exact t_X6_giveBy_44 C M   w (lv_sub hl [] rfl) h
  replace h := h.2 c4
  by_cases c5 : x0 = (5 : Int32)
  · replace h := h.1 c5
    refine lv_tableIn (off := 43) (tgt := 44) hx hb dX6_giveBy_1 (by rw [c5]; decide) (by rw [c5]; decide) (by rw [c5]; decide) (by decide) ?_
    exact t_X6_giveBy_44 C M   w (lv_sub hl [] rfl) h
  replace h := h.2 c5
  by_cases c6 : x0 = (6 : Int32)
  · replace h := h.1 c6
    refine lv_tableIn (off := 52) (tgt := 53) hx hb dX6_giveBy_1 (by rw [c6]; decide) (by rw [c6]; decide) (by rw [c6]; decide) (by decide) ?_
    refine lv_bipush (v := 40) hx hb dX6_giveBy_53 (by decide) ?_
    refine lv_iload_n hx hb dX6_giveBy_55 rfl (lv_at hl 1 rfl) ?_
    refine lv_iadd hx hb dX6_giveBy_56 ?_
    refine lv_iconst (v := 2) hx hb dX6_giveBy_57 (by decide) ?_
    refine lv_idiv hx hb dX6_giveBy_58 (by decide) ?_
    exact ret_i C w h dX6_giveBy_59
  replace h := h.2 c6
  by_cases c7 : x0 = (7 : Int32)
  · replace h := h.1 c7
    refine lv_tableIn (off := 59) (tgt := 60) hx hb dX6_giveBy_1 (by rw [c7]; decide) (by rw [c7]; decide) (by rw [c7]; decide) (by decide) ?_
    refine lv_bipush (v := 40) hx hb dX6_giveBy_60 (by decide) ?_
    refine lv_iload_n hx hb dX6_giveBy_62 rfl (lv_at hl 1 rfl) ?_
    refine lv_iadd hx hb dX6_giveBy_63 ?_
    refine lv_iconst (v := 2) hx hb dX6_giveBy_64 (by decide) ?_
    refine lv_idiv hx hb dX6_giveBy_65 (by decide) ?_
    refine lv_iconst (v := 5) hx hb dX6_giveBy_66 (by decide) ?_
    refine lv_isub hx hb dX6_giveBy_67 ?_
    exact ret_i C w h dX6_giveBy_68
  replace h := h.2 c7
  have nc1 := lv_neT c1 (a := 1) (by decide)
  have nc2 := lv_neT c2 (a := 2) (by decide)
  have nc3 := lv_neT c3 (a := 3) (by decide)
  have nc4 := lv_neT c4 (a := 4) (by decide)
  have nc5 := lv_neT c5 (a := 5) (by decide)
  have nc6 := lv_neT c6 (a := 6) (by decide)
  have nc7 := lv_neT c7 (a := 7) (by decide)
  refine lv_tableOut (tgt := 69) hx hb dX6_giveBy_1 (by omega) (by decide) ?_
  refine lv_iconst (v := 4) hx hb dX6_giveBy_69 (by decide) ?_
  exact ret_i C w h dX6_giveBy_70
def j_X6_heftBy_36 (post : Int32 → Mem → Prop) (M : Mem) : Prop := post (4 : Int32) M
def q_X6_heftBy (M : Mem) (x0 : Int32) (x1 : Int32) (post : Int32 → Mem → Prop) : Prop := (x0 = (1 : Int32) → (j_X6_heftBy_36 post M)) ∧ (¬ x0 = (1 : Int32) → ((x0 = (2 : Int32) → (post ((6 : Int32) + x1) M)) ∧ (¬ x0 = (2 : Int32) → ((x0 = (3 : Int32) → (post (1 : Int32) M)) ∧ (¬ x0 = (3 : Int32) → ((x0 = (4 : Int32) → (j_X6_heftBy_36 post M)) ∧ (¬ x0 = (4 : Int32) → ((x0 = (5 : Int32) → (post ((5 : Int32) + x1) M)) ∧ (¬ x0 = (5 : Int32) → (post (2 : Int32) M))))))))))
set_option maxHeartbeats 4000000 in
set_option maxRecDepth 100000 in
theorem t_X6_heftBy_36 (C : Cx G p s m args meth c RX6 cX6_heftBy 2 (some .int)) {post : Int32 → Mem → Prop} (M : Mem) {H : Heap} {locs : List Loc} {ls : Array Slot} (w : Wd G s M H locs) (hl : lv_has ls 2 []) (h : j_X6_heftBy_36 post M) : W p l e (rmk 1) s m args below meth c H locs 0 0 (MQ below (va_Qi post (Qw G) (Af G s.heap.size)) args s 0 0 (Af G s.heap.size)) (F0 m 36 ls []) := by
  have hx := C.1.1
  have hb := C.1.2.1
  unfold j_X6_heftBy_36 at h
  refine lv_iconst (v := 4) hx hb dX6_heftBy_36 (by decide) ?_
  exact ret_i C w h dX6_heftBy_37
set_option maxHeartbeats 4000000 in
set_option maxRecDepth 100000 in
theorem c_X6_heftBy (l : Launch) (G : GG) (hG : Ag G) (sz : Nat) (M : Mem) (x0 : Int32) (x1 : Int32) (post : Int32 → Mem → Prop) (h : q_X6_heftBy M x0 x1 post) : Met l yX6_heftBy (Cond.code yX6_heftBy cX6_heftBy 2 (some .int) :: wsL_law) (rmk 1) (va_Pc [.int x0, .int x1] (Pw G sz M)) (va_Qi post (Qw G) (Af G sz)) 0 0 (Af G sz) := by
  refine Met.ofW (cc := cX6_heftBy) (maxL := 2) (ret := (some .int)) (by decide) rfl ?_
  intro p e s m args below meth c s₁ B hml hv
  obtain ⟨rfl, hsz, hE, hP⟩ := hv
  subst hsz
  have C := Cx.of (own := RX6) hG hE rfl hml B
  have w : Wd G s M s.heap [] := ⟨hP, va_S.rf⟩
  have hl := lv_entry [.int x0, .int x1] (n := 2) (Nat.le_of_ble_eq_true rfl)
  rw [lg_entry_eq]
  generalize (lg_sl [.int x0, .int x1] ++ List.replicate (2 - (lg_sl [.int x0, .int x1]).length) Slot.unset).toArray = ls at hl ⊢
  have hl : lv_has ls 2 [(0, .int x0), (1, .int x1)] := hl
  have hx := C.1.1
  have hb := C.1.2.1
  show W p l e (rmk 1) s m _ below meth c s.heap [] 0 0 _ _
  unfold q_X6_heftBy at h
  refine lv_iload_n hx hb dX6_heftBy_0 rfl (lv_at hl 0 rfl) ?_
  by_cases c1 : x0 = (1 : Int32)
  · replace h := h.1 c1
    refine lv_tableIn (off := 35) (tgt := 36) hx hb dX6_heftBy_1 (by rw [c1]; decide) (by rw [c1]; decide) (by rw [c1]; decide) (by decide) ?_
    exact t_X6_heftBy_36 C M   w (lv_sub hl [] rfl) h
  replace h := h.2 c1
  by_cases c2 : x0 = (2 : Int32)
  · replace h := h.1 c2
    refine lv_tableIn (off := 37) (tgt := 38) hx hb dX6_heftBy_1 (by rw [c2]; decide) (by rw [c2]; decide) (by rw [c2]; decide) (by decide) ?_
    refine lv_bipush (v := 6) hx hb dX6_heftBy_38 (by decide) ?_
    refine lv_iload_n hx hb dX6_heftBy_40 rfl (lv_at hl 1 rfl) ?_
    refine lv_iadd hx hb dX6_heftBy_41 ?_
    exact ret_i C w h dX6_heftBy_42
  replace h := h.2 c2
  by_cases c3 : x0 = (3 : Int32)
  · replace h := h.1 c3
    refine lv_tableIn (off := 42) (tgt := 43) hx hb dX6_heftBy_1 (by rw [c3]; decide) (by rw [c3]; decide) (by rw [c3]; decide) (by decide) ?_
    refine lv_iconst (v := 1) hx hb dX6_heftBy_43 (by decide) ?_
    exact ret_i C w h dX6_heftBy_44
  replace h := h.2 c3
  by_cases c4 : x0 = (4 : Int32)
  · replace h := h.1 c4
    refine lv_tableIn (off := 35) (tgt := 36) hx hb dX6_heftBy_1 (by rw [c4]; decide) (by rw [c4]; decide) (by rw [c4]; decide) (by decide) ?_
    exact t_X6_heftBy_36 C M   w (lv_sub hl [] rfl) h
  replace h := h.2 c4
  by_cases c5 : x0 = (5 : Int32)
  · replace h := h.1 c5
    refine lv_tableIn (off := 44) (tgt := 45) hx hb dX6_heftBy_1 (by rw [c5]; decide) (by rw [c5]; decide) (by rw [c5]; decide) (by decide) ?_
    refine lv_iconst (v := 5) hx hb dX6_heftBy_45 (by decide) ?_
    refine lv_iload_n hx hb dX6_heftBy_46 rfl (lv_at hl 1 rfl) ?_
    refine lv_iadd hx hb dX6_heftBy_47 ?_
    exact ret_i C w h dX6_heftBy_48
  replace h := h.2 c5
  have nc1 := lv_neT c1 (a := 1) (by decide)
  have nc2 := lv_neT c2 (a := 2) (by decide)
  have nc3 := lv_neT c3 (a := 3) (by decide)
  have nc4 := lv_neT c4 (a := 4) (by decide)
  have nc5 := lv_neT c5 (a := 5) (by decide)
  refine lv_tableOut (tgt := 49) hx hb dX6_heftBy_1 (by omega) (by decide) ?_
  refine lv_iconst (v := 2) hx hb dX6_heftBy_49 (by decide) ?_
  exact ret_i C w h dX6_heftBy_50
def q_X6_isPiece (M : Mem) (x1 : Int32) (post : Int32 → Mem → Prop) : Prop := q_X6_isIn M x1.toInt64 (0 : Int64) (((M 58 0) - (1 : Int32)).toInt64) (fun r1 M2 => (r1 = 0 ∨ r1 = 1) ∧ post r1 M2)
set_option maxHeartbeats 4000000 in
set_option maxRecDepth 100000 in
theorem c_X6_isPiece (l : Launch) (G : GG) (hG : Ag G) (sz : Nat) (M : Mem) (x1 : Int32) (post : Int32 → Mem → Prop) (h : q_X6_isPiece M x1 post) : Met l yX6_isPiece (Cond.code yX6_isPiece cX6_isPiece 2 (some .boolean) :: wsL_law) (rmk 2) (va_Pc [.ref (ga G 57), .int x1] (Pw G sz M)) (va_Qi post (Qw G) (Af G sz)) 0 0 (Af G sz) := by
  refine Met.ofW (cc := cX6_isPiece) (maxL := 2) (ret := (some .boolean)) (by decide) rfl ?_
  intro p e s m args below meth c s₁ B hml hv
  obtain ⟨rfl, hsz, hE, hP⟩ := hv
  subst hsz
  have C := Cx.of (own := RX6) hG hE rfl hml B
  have w : Wd G s M s.heap [] := ⟨hP, va_S.rf⟩
  have hl := lv_entry [.ref (ga G 57), .int x1] (n := 2) (Nat.le_of_ble_eq_true rfl)
  rw [lg_entry_eq]
  generalize (lg_sl [.ref (ga G 57), .int x1] ++ List.replicate (2 - (lg_sl [.ref (ga G 57), .int x1]).length) Slot.unset).toArray = ls at hl ⊢
  have hl : lv_has ls 2 [(0, .ref (ga G 57)), (1, .int x1)] := hl
  have hx := C.1.1
  have hb := C.1.2.1
  show W p l e (rmk 2) s m _ below meth c s.heap [] 0 0 _ _
  unfold q_X6_isPiece at h
  refine lv_iload_n hx hb dX6_isPiece_0 rfl (lv_at hl 1 rfl) ?_
  refine lv_i2l hx hb dX6_isPiece_1 rfl ?_
  refine lv_lconst (v := 0) hx hb dX6_isPiece_2 (by decide) ?_
  refine lv_aload_n hx hb dX6_isPiece_3 rfl (lv_at hl 0 rfl) ?_
  refine gt_6_0 C w kw_5_0 dX6_isPiece_4 ?_
  refine lv_iconst (v := 0) hx hb dX6_isPiece_7 (by decide) ?_
  refine pw_ld C w (i := 58) (by decide) pE_58 (vl (x := (0 : Int32)) (by decide)) (k := 0) (by decide) dX6_isPiece_8 ?_
  refine lv_iconst (v := 1) hx hb dX6_isPiece_9 (by decide) ?_
  refine lv_isub hx hb dX6_isPiece_10 ?_
  refine lv_i2l hx hb dX6_isPiece_11 rfl ?_
  refine end_i w (run_S (As := [.long x1.toInt64, .long (0 : Int64), .long ((M 58 0) - (1 : Int32)).toInt64]) C w hl.1 (c_X6_isIn l G C.2.2.1 _ _ x1.toInt64 (0 : Int64) (((M 58 0) - (1 : Int32)).toInt64)  _ h) kw_12_5 kw_1_5 kw_12_3 kw_12_4 hd_X6_isIn ⟨by decide, by decide⟩ rfl (Nat.le_of_ble_eq_true rfl) dX6_isPiece_12) (fun r1 M2 H locs h w => ?_)
  exact ret_z C w h dX6_isPiece_15
def q_X6_strengthBy (M : Mem) (x0 : Int32) (x1 : Int32) (post : Int32 → Mem → Prop) : Prop := (x0 = (1 : Int32) → (post (500 : Int32) M)) ∧ (¬ x0 = (1 : Int32) → ((x0 = (2 : Int32) → (post (600 : Int32) M)) ∧ (¬ x0 = (2 : Int32) → ((x0 = (3 : Int32) → (post (250 : Int32) M)) ∧ (¬ x0 = (3 : Int32) → ((x0 = (4 : Int32) → (post ((500 : Int32) - ((20 : Int32) * x1)) M)) ∧ (¬ x0 = (4 : Int32) → ((x0 = (5 : Int32) → (post ((600 : Int32) - ((10 : Int32) * x1)) M)) ∧ (¬ x0 = (5 : Int32) → ((x0 = (6 : Int32) → (post ((250 : Int32) - ((5 : Int32) * x1)) M)) ∧ (¬ x0 = (6 : Int32) → ((x0 = (7 : Int32) → (post (((250 : Int32) - ((5 : Int32) * x1)) / (2 : Int32)) M)) ∧ (¬ x0 = (7 : Int32) → (post (300 : Int32) M))))))))))))))
set_option maxHeartbeats 4000000 in
set_option maxRecDepth 100000 in
theorem c_X6_strengthBy (l : Launch) (G : GG) (hG : Ag G) (sz : Nat) (M : Mem) (x0 : Int32) (x1 : Int32) (post : Int32 → Mem → Prop) (h : q_X6_strengthBy M x0 x1 post) : Met l yX6_strengthBy (Cond.code yX6_strengthBy cX6_strengthBy 2 (some .int) :: wsL_law) (rmk 1) (va_Pc [.int x0, .int x1] (Pw G sz M)) (va_Qi post (Qw G) (Af G sz)) 0 0 (Af G sz) := by
  refine Met.ofW (cc := cX6_strengthBy) (maxL := 2) (ret := (some .int)) (by decide) rfl ?_
  intro p e s m args below meth c s₁ B hml hv
  obtain ⟨rfl, hsz, hE, hP⟩ := hv
  subst hsz
  have C := Cx.of (own := RX6) hG hE rfl hml B
  have w : Wd G s M s.heap [] := ⟨hP, va_S.rf⟩
  have hl := lv_entry [.int x0, .int x1] (n := 2) (Nat.le_of_ble_eq_true rfl)
  rw [lg_entry_eq]
  generalize (lg_sl [.int x0, .int x1] ++ List.replicate (2 - (lg_sl [.int x0, .int x1]).length) Slot.unset).toArray = ls at hl ⊢
  have hl : lv_has ls 2 [(0, .int x0), (1, .int x1)] := hl
  have hx := C.1.1
  have hb := C.1.2.1
  show W p l e (rmk 1) s m _ below meth c s.heap [] 0 0 _ _
  unfold q_X6_strengthBy at h
  refine lv_iload_n hx hb dX6_strengthBy_0 rfl (lv_at hl 0 rfl) ?_
  by_cases c1 : x0 = (1 : Int32)
  · replace h := h.1 c1
    refine lv_tableIn (off := 43) (tgt := 44) hx hb dX6_strengthBy_1 (by rw [c1]; decide) (by rw [c1]; decide) (by rw [c1]; decide) (by decide) ?_
    refine lv_sipush (v := 500) hx hb dX6_strengthBy_44 (by decide) ?_
    exact ret_i C w h dX6_strengthBy_47
  replace h := h.2 c1
  by_cases c2 : x0 = (2 : Int32)
  · replace h := h.1 c2
    refine lv_tableIn (off := 47) (tgt := 48) hx hb dX6_strengthBy_1 (by rw [c2]; decide) (by rw [c2]; decide) (by rw [c2]; decide) (by decide) ?_
    refine lv_sipush (v := 600) hx hb dX6_strengthBy_48 (by decide) ?_
    exact ret_i C w h dX6_strengthBy_51
  replace h := h.2 c2
  by_cases c3 : x0 = (3 : Int32)
  · replace h := h.1 c3
    refine lv_tableIn (off := 51) (tgt := 52) hx hb dX6_strengthBy_1 (by rw [c3]; decide) (by rw [c3]; decide) (by rw [c3]; decide) (by decide) ?_
    refine lv_sipush (v := 250) hx hb dX6_strengthBy_52 (by decide) ?_
    exact ret_i C w h dX6_strengthBy_55
  replace h := h.2 c3
  by_cases c4 : x0 = (4 : Int32)
  · replace h := h.1 c4
    refine lv_tableIn (off := 55) (tgt := 56) hx hb dX6_strengthBy_1 (by rw [c4]; decide) (by rw [c4]; decide) (by rw [c4]; decide) (by decide) ?_
    refine lv_sipush (v := 500) hx hb dX6_strengthBy_56 (by decide) ?_
    refine lv_bipush (v := 20) hx hb dX6_strengthBy_59 (by decide) ?_
    refine lv_iload_n hx hb dX6_strengthBy_61 rfl (lv_at hl 1 rfl) ?_
    refine lv_imul hx hb dX6_strengthBy_62 ?_
    refine lv_isub hx hb dX6_strengthBy_63 ?_
    exact ret_i C w h dX6_strengthBy_64
  replace h := h.2 c4
  by_cases c5 : x0 = (5 : Int32)
  · replace h := h.1 c5
    refine lv_tableIn (off := 64) (tgt := 65) hx hb dX6_strengthBy_1 (by rw [c5]; decide) (by rw [c5]; decide) (by rw [c5]; decide) (by decide) ?_
    refine lv_sipush (v := 600) hx hb dX6_strengthBy_65 (by decide) ?_
    refine lv_bipush (v := 10) hx hb dX6_strengthBy_68 (by decide) ?_
    refine lv_iload_n hx hb dX6_strengthBy_70 rfl (lv_at hl 1 rfl) ?_
    refine lv_imul hx hb dX6_strengthBy_71 ?_
    refine lv_isub hx hb dX6_strengthBy_72 ?_
    exact ret_i C w h dX6_strengthBy_73
  replace h := h.2 c5
  by_cases c6 : x0 = (6 : Int32)
  · replace h := h.1 c6
    refine lv_tableIn (off := 73) (tgt := 74) hx hb dX6_strengthBy_1 (by rw [c6]; decide) (by rw [c6]; decide) (by rw [c6]; decide) (by decide) ?_
    refine lv_sipush (v := 250) hx hb dX6_strengthBy_74 (by decide) ?_
    refine lv_iconst (v := 5) hx hb dX6_strengthBy_77 (by decide) ?_
    refine lv_iload_n hx hb dX6_strengthBy_78 rfl (lv_at hl 1 rfl) ?_
    refine lv_imul hx hb dX6_strengthBy_79 ?_
    refine lv_isub hx hb dX6_strengthBy_80 ?_
    exact ret_i C w h dX6_strengthBy_81
  replace h := h.2 c6
  by_cases c7 : x0 = (7 : Int32)
  · replace h := h.1 c7
    refine lv_tableIn (off := 81) (tgt := 82) hx hb dX6_strengthBy_1 (by rw [c7]; decide) (by rw [c7]; decide) (by rw [c7]; decide) (by decide) ?_
    refine lv_sipush (v := 250) hx hb dX6_strengthBy_82 (by decide) ?_
    refine lv_iconst (v := 5) hx hb dX6_strengthBy_85 (by decide) ?_
    refine lv_iload_n hx hb dX6_strengthBy_86 rfl (lv_at hl 1 rfl) ?_
    refine lv_imul hx hb dX6_strengthBy_87 ?_
    refine lv_isub hx hb dX6_strengthBy_88 ?_
    refine lv_iconst (v := 2) hx hb dX6_strengthBy_89 (by decide) ?_
    refine lv_idiv hx hb dX6_strengthBy_90 (by decide) ?_
    exact ret_i C w h dX6_strengthBy_91
  replace h := h.2 c7
  have nc1 := lv_neT c1 (a := 1) (by decide)
  have nc2 := lv_neT c2 (a := 2) (by decide)
  have nc3 := lv_neT c3 (a := 3) (by decide)
  have nc4 := lv_neT c4 (a := 4) (by decide)
  have nc5 := lv_neT c5 (a := 5) (by decide)
  have nc6 := lv_neT c6 (a := 6) (by decide)
  have nc7 := lv_neT c7 (a := 7) (by decide)
  refine lv_tableOut (tgt := 92) hx hb dX6_strengthBy_1 (by omega) (by decide) ?_
  refine lv_sipush (v := 300) hx hb dX6_strengthBy_92 (by decide) ?_
  exact ret_i C w h dX6_strengthBy_95
def j_X6_wearBy_54 (post : Int32 → Mem → Prop) (M : Mem) : Prop := post (1 : Int32) M
def j_X6_wearBy_42 (post : Int32 → Mem → Prop) (M : Mem) : Prop := post (3 : Int32) M
def q_X6_wearBy (M : Mem) (x0 : Int32) (x1 : Int32) (post : Int32 → Mem → Prop) : Prop := (x0 = (2 : Int32) → (post (0 : Int32) M)) ∧ (¬ x0 = (2 : Int32) → ((x0 = (3 : Int32) → (j_X6_wearBy_42 post M)) ∧ (¬ x0 = (3 : Int32) → ((x0 = (4 : Int32) → (j_X6_wearBy_42 post M)) ∧ (¬ x0 = (4 : Int32) → ((x0 = (5 : Int32) → (j_X6_wearBy_54 post M)) ∧ (¬ x0 = (5 : Int32) → ((x0 = (6 : Int32) → (post ((3 : Int32) + x1) M)) ∧ (¬ x0 = (6 : Int32) → ((x0 = (7 : Int32) → (post ((2 : Int32) * ((3 : Int32) + x1)) M)) ∧ (¬ x0 = (7 : Int32) → (j_X6_wearBy_54 post M))))))))))))
set_option maxHeartbeats 4000000 in
set_option maxRecDepth 100000 in
theorem t_X6_wearBy_54 (C : Cx G p s m args meth c RX6 cX6_wearBy 2 (some .int)) {post : Int32 → Mem → Prop} (M : Mem) {H : Heap} {locs : List Loc} {ls : Array Slot} (w : Wd G s M H locs) (hl : lv_has ls 2 []) (h : j_X6_wearBy_54 post M) : W p l e (rmk 1) s m args below meth c H locs 0 0 (MQ below (va_Qi post (Qw G) (Af G s.heap.size)) args s 0 0 (Af G s.heap.size)) (F0 m 54 ls []) := by
  have hx := C.1.1
  have hb := C.1.2.1
  unfold j_X6_wearBy_54 at h
  refine lv_iconst (v := 1) hx hb dX6_wearBy_54 (by decide) ?_
  exact ret_i C w h dX6_wearBy_55
set_option maxHeartbeats 4000000 in
set_option maxRecDepth 100000 in
theorem t_X6_wearBy_42 (C : Cx G p s m args meth c RX6 cX6_wearBy 2 (some .int)) {post : Int32 → Mem → Prop} (M : Mem) {H : Heap} {locs : List Loc} {ls : Array Slot} (w : Wd G s M H locs) (hl : lv_has ls 2 []) (h : j_X6_wearBy_42 post M) : W p l e (rmk 1) s m args below meth c H locs 0 0 (MQ below (va_Qi post (Qw G) (Af G s.heap.size)) args s 0 0 (Af G s.heap.size)) (F0 m 42 ls []) := by
  have hx := C.1.1
  have hb := C.1.2.1
  unfold j_X6_wearBy_42 at h
  refine lv_iconst (v := 3) hx hb dX6_wearBy_42 (by decide) ?_
  exact ret_i C w h dX6_wearBy_43
set_option maxHeartbeats 4000000 in
set_option maxRecDepth 100000 in
theorem c_X6_wearBy (l : Launch) (G : GG) (hG : Ag G) (sz : Nat) (M : Mem) (x0 : Int32) (x1 : Int32) (post : Int32 → Mem → Prop) (h : q_X6_wearBy M x0 x1 post) : Met l yX6_wearBy (Cond.code yX6_wearBy cX6_wearBy 2 (some .int) :: wsL_law) (rmk 1) (va_Pc [.int x0, .int x1] (Pw G sz M)) (va_Qi post (Qw G) (Af G sz)) 0 0 (Af G sz) := by
  refine Met.ofW (cc := cX6_wearBy) (maxL := 2) (ret := (some .int)) (by decide) rfl ?_
  intro p e s m args below meth c s₁ B hml hv
  obtain ⟨rfl, hsz, hE, hP⟩ := hv
  subst hsz
  have C := Cx.of (own := RX6) hG hE rfl hml B
  have w : Wd G s M s.heap [] := ⟨hP, va_S.rf⟩
  have hl := lv_entry [.int x0, .int x1] (n := 2) (Nat.le_of_ble_eq_true rfl)
  rw [lg_entry_eq]
  generalize (lg_sl [.int x0, .int x1] ++ List.replicate (2 - (lg_sl [.int x0, .int x1]).length) Slot.unset).toArray = ls at hl ⊢
  have hl : lv_has ls 2 [(0, .int x0), (1, .int x1)] := hl
  have hx := C.1.1
  have hb := C.1.2.1
  show W p l e (rmk 1) s m _ below meth c s.heap [] 0 0 _ _
  unfold q_X6_wearBy at h
  refine lv_iload_n hx hb dX6_wearBy_0 rfl (lv_at hl 0 rfl) ?_
  by_cases c1 : x0 = (2 : Int32)
  · replace h := h.1 c1
    refine lv_tableIn (off := 39) (tgt := 40) hx hb dX6_wearBy_1 (by rw [c1]; decide) (by rw [c1]; decide) (by rw [c1]; decide) (by decide) ?_
    refine lv_iconst (v := 0) hx hb dX6_wearBy_40 (by decide) ?_
    exact ret_i C w h dX6_wearBy_41
  replace h := h.2 c1
  by_cases c2 : x0 = (3 : Int32)
  · replace h := h.1 c2
    refine lv_tableIn (off := 41) (tgt := 42) hx hb dX6_wearBy_1 (by rw [c2]; decide) (by rw [c2]; decide) (by rw [c2]; decide) (by decide) ?_
    exact t_X6_wearBy_42 C M   w (lv_sub hl [] rfl) h
  replace h := h.2 c2
  by_cases c3 : x0 = (4 : Int32)
  · replace h := h.1 c3
    refine lv_tableIn (off := 41) (tgt := 42) hx hb dX6_wearBy_1 (by rw [c3]; decide) (by rw [c3]; decide) (by rw [c3]; decide) (by decide) ?_
    exact t_X6_wearBy_42 C M   w (lv_sub hl [] rfl) h
  replace h := h.2 c3
  by_cases c4 : x0 = (5 : Int32)
  · replace h := h.1 c4
    refine lv_tableIn (off := 53) (tgt := 54) hx hb dX6_wearBy_1 (by rw [c4]; decide) (by rw [c4]; decide) (by rw [c4]; decide) (by decide) ?_
    exact t_X6_wearBy_54 C M   w (lv_sub hl [] rfl) h
  replace h := h.2 c4
  by_cases c5 : x0 = (6 : Int32)
  · replace h := h.1 c5
    refine lv_tableIn (off := 43) (tgt := 44) hx hb dX6_wearBy_1 (by rw [c5]; decide) (by rw [c5]; decide) (by rw [c5]; decide) (by decide) ?_
    refine lv_iconst (v := 3) hx hb dX6_wearBy_44 (by decide) ?_
    refine lv_iload_n hx hb dX6_wearBy_45 rfl (lv_at hl 1 rfl) ?_
    refine lv_iadd hx hb dX6_wearBy_46 ?_
    exact ret_i C w h dX6_wearBy_47
  replace h := h.2 c5
  by_cases c6 : x0 = (7 : Int32)
  · replace h := h.1 c6
    refine lv_tableIn (off := 47) (tgt := 48) hx hb dX6_wearBy_1 (by rw [c6]; decide) (by rw [c6]; decide) (by rw [c6]; decide) (by decide) ?_
    refine lv_iconst (v := 2) hx hb dX6_wearBy_48 (by decide) ?_
    refine lv_iconst (v := 3) hx hb dX6_wearBy_49 (by decide) ?_
    refine lv_iload_n hx hb dX6_wearBy_50 rfl (lv_at hl 1 rfl) ?_
    refine lv_iadd hx hb dX6_wearBy_51 ?_
    refine lv_imul hx hb dX6_wearBy_52 ?_
    exact ret_i C w h dX6_wearBy_53
  replace h := h.2 c6
  have nc1 := lv_neT c1 (a := 2) (by decide)
  have nc2 := lv_neT c2 (a := 3) (by decide)
  have nc3 := lv_neT c3 (a := 4) (by decide)
  have nc4 := lv_neT c4 (a := 5) (by decide)
  have nc5 := lv_neT c5 (a := 6) (by decide)
  have nc6 := lv_neT c6 (a := 7) (by decide)
  refine lv_tableOut (tgt := 54) hx hb dX6_wearBy_1 (by omega) (by decide) ?_
  exact t_X6_wearBy_54 C M   w (lv_sub hl [] rfl) h
def q_X6_piece (M : Mem) (x1 : Int32) (x2 : Int32) (post : Int32 → Mem → Prop) : Prop := q_X6_isPiece M x1 (fun r1 M2 => (r1 = 0 → (post (-1 : Int32) M2)) ∧ (¬ (r1 = 0) → (q_X6_get M2 x1 (0 : Int32) (fun r4 M5 => q_X6_get M5 x1 (1 : Int32) (fun r6 M7 => (x2 = (0 : Int32) → (post r4 M7)) ∧ (¬ x2 = (0 : Int32) → ((x2 = (1 : Int32) → (q_X6_get M7 x1 (2 : Int32) (fun r10 M11 => post r10 M11))) ∧ (¬ x2 = (1 : Int32) → ((x2 = (2 : Int32) → (post r6 M7)) ∧ (¬ x2 = (2 : Int32) → ((x2 = (3 : Int32) → (q_X6_heftBy M7 r4 r6 (fun r14 M15 => post r14 M15))) ∧ (¬ x2 = (3 : Int32) → ((x2 = (4 : Int32) → (q_X6_giveBy M7 r4 r6 (fun r17 M18 => post r17 M18))) ∧ (¬ x2 = (4 : Int32) → ((x2 = (5 : Int32) → (q_X6_strengthBy M7 r4 r6 (fun r20 M21 => post r20 M21))) ∧ (¬ x2 = (5 : Int32) → ((x2 = (6 : Int32) → (q_X6_wearBy M7 r4 r6 (fun r23 M24 => post r23 M24))) ∧ (¬ x2 = (6 : Int32) → ((x2 = (7 : Int32) → (q_X6_get M7 x1 (3 : Int32) (fun r26 M27 => post r26 M27))) ∧ (¬ x2 = (7 : Int32) → ((x2 = (8 : Int32) → (q_X6_get M7 x1 (4 : Int32) (fun r29 M30 => post r29 M30))) ∧ (¬ x2 = (8 : Int32) → (post (-1 : Int32) M7)))))))))))))))))))))))
set_option maxHeartbeats 4000000 in
set_option maxRecDepth 100000 in
theorem c_X6_piece (l : Launch) (G : GG) (hG : Ag G) (sz : Nat) (M : Mem) (x1 : Int32) (x2 : Int32) (post : Int32 → Mem → Prop) (h : q_X6_piece M x1 x2 post) : Met l yX6_piece (Cond.code yX6_piece cX6_piece 5 (some .int) :: wsL_law) (rmk 3) (va_Pc [.ref (ga G 57), .int x1, .int x2] (Pw G sz M)) (va_Qi post (Qw G) (Af G sz)) 0 0 (Af G sz) := by
  refine Met.ofW (cc := cX6_piece) (maxL := 5) (ret := (some .int)) (by decide) rfl ?_
  intro p e s m args below meth c s₁ B hml hv
  obtain ⟨rfl, hsz, hE, hP⟩ := hv
  subst hsz
  have C := Cx.of (own := RX6) hG hE rfl hml B
  have w : Wd G s M s.heap [] := ⟨hP, va_S.rf⟩
  have hl := lv_entry [.ref (ga G 57), .int x1, .int x2] (n := 5) (Nat.le_of_ble_eq_true rfl)
  rw [lg_entry_eq]
  generalize (lg_sl [.ref (ga G 57), .int x1, .int x2] ++ List.replicate (5 - (lg_sl [.ref (ga G 57), .int x1, .int x2]).length) Slot.unset).toArray = ls at hl ⊢
  have hl : lv_has ls 5 [(0, .ref (ga G 57)), (1, .int x1), (2, .int x2)] := hl
  have hx := C.1.1
  have hb := C.1.2.1
  show W p l e (rmk 3) s m _ below meth c s.heap [] 0 0 _ _
  unfold q_X6_piece at h
  refine lv_aload_n hx hb dX6_piece_0 rfl (lv_at hl 0 rfl) ?_
  refine lv_iload_n hx hb dX6_piece_1 rfl (lv_at hl 1 rfl) ?_
  refine end_i w (run_V (As := [.int x1]) C w hl.1 (c_X6_isPiece l G C.2.2.1 _ _ x1  _ h) kw_14_6 kw_1_5 kw_14_3 kw_14_4 kw_14_5 hd_X6_isPiece ⟨by decide, by decide⟩ (w.recv C (i := 57) (by decide) (pE_6) rfl) rfl (Nat.le_of_ble_eq_true rfl) dX6_piece_2) (fun r1 M2 H locs h w => ?_)
  refine lv_if_ne (tgt := 10) hx hb dX6_piece_5 (by decide) (fun c3 => ?_) (fun c3 => ?_)
  · replace h := h.2 c3
    refine lv_aload_n hx hb dX6_piece_10 rfl (lv_at hl 0 rfl) ?_
    refine lv_iload_n hx hb dX6_piece_11 rfl (lv_at hl 1 rfl) ?_
    refine lv_iconst (v := 0) hx hb dX6_piece_12 (by decide) ?_
    refine end_i w (run_V (As := [.int x1, .int (0 : Int32)]) C w hl.1 (c_X6_get l G C.2.2.1 _ _ x1 (0 : Int32)  _ h) kw_14_10 kw_1_5 kw_14_7 kw_14_8 kw_14_9 hd_X6_get ⟨by decide, by decide⟩ (w.recv C (i := 57) (by decide) (pE_6) rfl) rfl (Nat.le_of_ble_eq_true rfl) dX6_piece_13) (fun r4 M5 H locs h w => ?_)
    refine lv_istore_n (lv' := [(3, .int r4), (0, .ref (ga G 57)), (1, .int x1), (2, .int x2)]) hx hb dX6_piece_16 rfl hl (by decide) rfl (fun ls hl => ?_)
    refine lv_aload_n hx hb dX6_piece_17 rfl (lv_at hl 1 rfl) ?_
    refine lv_iload_n hx hb dX6_piece_18 rfl (lv_at hl 2 rfl) ?_
    refine lv_iconst (v := 1) hx hb dX6_piece_19 (by decide) ?_
    refine end_i w (run_V (As := [.int x1, .int (1 : Int32)]) C w hl.1 (c_X6_get l G C.2.2.1 _ _ x1 (1 : Int32)  _ h) kw_14_10 kw_1_5 kw_14_7 kw_14_8 kw_14_9 hd_X6_get ⟨by decide, by decide⟩ (w.recv C (i := 57) (by decide) (pE_6) rfl) rfl (Nat.le_of_ble_eq_true rfl) dX6_piece_20) (fun r6 M7 H locs h w => ?_)
    refine lv_istore (lv' := [(4, .int r6), (3, .int r4), (0, .ref (ga G 57)), (1, .int x1), (2, .int x2)]) hx hb dX6_piece_23 hl (by decide) rfl (fun ls hl => ?_)
    refine lv_iload_n hx hb dX6_piece_25 rfl (lv_at hl 4 rfl) ?_
    by_cases c8 : x2 = (0 : Int32)
    · replace h := h.1 c8
      refine lv_tableIn (off := 50) (tgt := 76) hx hb dX6_piece_26 (by rw [c8]; decide) (by rw [c8]; decide) (by rw [c8]; decide) (by decide) ?_
      refine lv_iload_n hx hb dX6_piece_76 rfl (lv_at hl 1 rfl) ?_
      exact ret_i C w h dX6_piece_77
    replace h := h.2 c8
    by_cases c9 : x2 = (1 : Int32)
    · replace h := h.1 c9
      refine lv_tableIn (off := 52) (tgt := 78) hx hb dX6_piece_26 (by rw [c9]; decide) (by rw [c9]; decide) (by rw [c9]; decide) (by decide) ?_
      refine lv_aload_n hx hb dX6_piece_78 rfl (lv_at hl 2 rfl) ?_
      refine lv_iload_n hx hb dX6_piece_79 rfl (lv_at hl 3 rfl) ?_
      refine lv_iconst (v := 2) hx hb dX6_piece_80 (by decide) ?_
      refine end_i w (run_V (As := [.int x1, .int (2 : Int32)]) C w hl.1 (c_X6_get l G C.2.2.1 _ _ x1 (2 : Int32)  _ h) kw_14_10 kw_1_5 kw_14_7 kw_14_8 kw_14_9 hd_X6_get ⟨by decide, by decide⟩ (w.recv C (i := 57) (by decide) (pE_6) rfl) rfl (Nat.le_of_ble_eq_true rfl) dX6_piece_81) (fun r10 M11 H locs h w => ?_)
      exact ret_i C w h dX6_piece_84
    replace h := h.2 c9
    by_cases c12 : x2 = (2 : Int32)
    · replace h := h.1 c12
      refine lv_tableIn (off := 59) (tgt := 85) hx hb dX6_piece_26 (by rw [c12]; decide) (by rw [c12]; decide) (by rw [c12]; decide) (by decide) ?_
      refine lv_iload hx hb dX6_piece_85 (lv_at hl 0 rfl) ?_
      exact ret_i C w h dX6_piece_87
    replace h := h.2 c12
    by_cases c13 : x2 = (3 : Int32)
    · replace h := h.1 c13
      refine lv_tableIn (off := 62) (tgt := 88) hx hb dX6_piece_26 (by rw [c13]; decide) (by rw [c13]; decide) (by rw [c13]; decide) (by decide) ?_
      refine lv_iload_n hx hb dX6_piece_88 rfl (lv_at hl 1 rfl) ?_
      refine lv_iload hx hb dX6_piece_89 (lv_at hl 0 rfl) ?_
      refine end_i w (run_S (As := [.int r4, .int r6]) C w hl.1 (c_X6_heftBy l G C.2.2.1 _ _ r4 r6  _ h) kw_14_13 kw_1_5 kw_14_11 kw_14_12 hd_X6_heftBy ⟨by decide, by decide⟩ rfl (Nat.le_of_ble_eq_true rfl) dX6_piece_91) (fun r14 M15 H locs h w => ?_)
      exact ret_i C w h dX6_piece_94
    replace h := h.2 c13
    by_cases c16 : x2 = (4 : Int32)
    · replace h := h.1 c16
      refine lv_tableIn (off := 69) (tgt := 95) hx hb dX6_piece_26 (by rw [c16]; decide) (by rw [c16]; decide) (by rw [c16]; decide) (by decide) ?_
      refine lv_iload_n hx hb dX6_piece_95 rfl (lv_at hl 1 rfl) ?_
      refine lv_iload hx hb dX6_piece_96 (lv_at hl 0 rfl) ?_
      refine end_i w (run_S (As := [.int r4, .int r6]) C w hl.1 (c_X6_giveBy l G C.2.2.1 _ _ r4 r6  _ h) kw_14_16 kw_1_5 kw_14_14 kw_14_15 hd_X6_giveBy ⟨by decide, by decide⟩ rfl (Nat.le_of_ble_eq_true rfl) dX6_piece_98) (fun r17 M18 H locs h w => ?_)
      exact ret_i C w h dX6_piece_101
    replace h := h.2 c16
    by_cases c19 : x2 = (5 : Int32)
    · replace h := h.1 c19
      refine lv_tableIn (off := 76) (tgt := 102) hx hb dX6_piece_26 (by rw [c19]; decide) (by rw [c19]; decide) (by rw [c19]; decide) (by decide) ?_
      refine lv_iload_n hx hb dX6_piece_102 rfl (lv_at hl 1 rfl) ?_
      refine lv_iload hx hb dX6_piece_103 (lv_at hl 0 rfl) ?_
      refine end_i w (run_S (As := [.int r4, .int r6]) C w hl.1 (c_X6_strengthBy l G C.2.2.1 _ _ r4 r6  _ h) kw_14_19 kw_1_5 kw_14_17 kw_14_18 hd_X6_strengthBy ⟨by decide, by decide⟩ rfl (Nat.le_of_ble_eq_true rfl) dX6_piece_105) (fun r20 M21 H locs h w => ?_)
      exact ret_i C w h dX6_piece_108
    replace h := h.2 c19
    by_cases c22 : x2 = (6 : Int32)
    · replace h := h.1 c22
      refine lv_tableIn (off := 83) (tgt := 109) hx hb dX6_piece_26 (by rw [c22]; decide) (by rw [c22]; decide) (by rw [c22]; decide) (by decide) ?_
      refine lv_iload_n hx hb dX6_piece_109 rfl (lv_at hl 1 rfl) ?_
      refine lv_iload hx hb dX6_piece_110 (lv_at hl 0 rfl) ?_
      refine end_i w (run_S (As := [.int r4, .int r6]) C w hl.1 (c_X6_wearBy l G C.2.2.1 _ _ r4 r6  _ h) kw_14_22 kw_1_5 kw_14_20 kw_14_21 hd_X6_wearBy ⟨by decide, by decide⟩ rfl (Nat.le_of_ble_eq_true rfl) dX6_piece_112) (fun r23 M24 H locs h w => ?_)
      exact ret_i C w h dX6_piece_115
    replace h := h.2 c22
    by_cases c25 : x2 = (7 : Int32)
    · replace h := h.1 c25
      refine lv_tableIn (off := 90) (tgt := 116) hx hb dX6_piece_26 (by rw [c25]; decide) (by rw [c25]; decide) (by rw [c25]; decide) (by decide) ?_
      refine lv_aload_n hx hb dX6_piece_116 rfl (lv_at hl 2 rfl) ?_
      refine lv_iload_n hx hb dX6_piece_117 rfl (lv_at hl 3 rfl) ?_
      refine lv_iconst (v := 3) hx hb dX6_piece_118 (by decide) ?_
      refine end_i w (run_V (As := [.int x1, .int (3 : Int32)]) C w hl.1 (c_X6_get l G C.2.2.1 _ _ x1 (3 : Int32)  _ h) kw_14_10 kw_1_5 kw_14_7 kw_14_8 kw_14_9 hd_X6_get ⟨by decide, by decide⟩ (w.recv C (i := 57) (by decide) (pE_6) rfl) rfl (Nat.le_of_ble_eq_true rfl) dX6_piece_119) (fun r26 M27 H locs h w => ?_)
      exact ret_i C w h dX6_piece_122
    replace h := h.2 c25
    by_cases c28 : x2 = (8 : Int32)
    · replace h := h.1 c28
      refine lv_tableIn (off := 97) (tgt := 123) hx hb dX6_piece_26 (by rw [c28]; decide) (by rw [c28]; decide) (by rw [c28]; decide) (by decide) ?_
      refine lv_aload_n hx hb dX6_piece_123 rfl (lv_at hl 2 rfl) ?_
      refine lv_iload_n hx hb dX6_piece_124 rfl (lv_at hl 3 rfl) ?_
      refine lv_iconst (v := 4) hx hb dX6_piece_125 (by decide) ?_
      refine end_i w (run_V (As := [.int x1, .int (4 : Int32)]) C w hl.1 (c_X6_get l G C.2.2.1 _ _ x1 (4 : Int32)  _ h) kw_14_10 kw_1_5 kw_14_7 kw_14_8 kw_14_9 hd_X6_get ⟨by decide, by decide⟩ (w.recv C (i := 57) (by decide) (pE_6) rfl) rfl (Nat.le_of_ble_eq_true rfl) dX6_piece_126) (fun r29 M30 H locs h w => ?_)
      exact ret_i C w h dX6_piece_129
    replace h := h.2 c28
    have nc8 := lv_neT c8 (a := 0) (by decide)
    have nc9 := lv_neT c9 (a := 1) (by decide)
    have nc12 := lv_neT c12 (a := 2) (by decide)
    have nc13 := lv_neT c13 (a := 3) (by decide)
    have nc16 := lv_neT c16 (a := 4) (by decide)
    have nc19 := lv_neT c19 (a := 5) (by decide)
    have nc22 := lv_neT c22 (a := 6) (by decide)
    have nc25 := lv_neT c25 (a := 7) (by decide)
    have nc28 := lv_neT c28 (a := 8) (by decide)
    refine lv_tableOut (tgt := 130) hx hb dX6_piece_26 (by omega) (by decide) ?_
    refine lv_iconst (v := -1) hx hb dX6_piece_130 (by decide) ?_
    exact ret_i C w h dX6_piece_131
  replace h := h.1 c3
  refine lv_iconst (v := -1) hx hb dX6_piece_8 (by decide) ?_
  exact ret_i C w h dX6_piece_9
end WALK
