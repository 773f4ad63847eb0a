theorem dX6_isIn_0 : decode cX6_isIn 0 = .ok (.lload_n 0, 1) := by decide +kernel
theorem dX6_isIn_1 : decode cX6_isIn 1 = .ok (.lload_n 2, 1) := by decide +kernel
theorem dX6_isIn_2 : decode cX6_isIn 2 = .ok (.lcmp, 1) := by decide +kernel
theorem dX6_isIn_3 : decode cX6_isIn 3 = .ok (.ifCond .lt 14, 3) := by decide +kernel
theorem dX6_isIn_6 : decode cX6_isIn 6 = .ok (.lload_n 0, 1) := by decide +kernel
theorem dX6_isIn_7 : decode cX6_isIn 7 = .ok (.lload 4, 2) := by decide +kernel
theorem dX6_isIn_9 : decode cX6_isIn 9 = .ok (.lcmp, 1) := by decide +kernel
theorem dX6_isIn_10 : decode cX6_isIn 10 = .ok (.ifCond .gt 7, 3) := by decide +kernel
theorem dX6_isIn_13 : decode cX6_isIn 13 = .ok (.iconst 1, 1) := by decide +kernel
theorem dX6_isIn_14 : decode cX6_isIn 14 = .ok (.goto 4, 3) := by decide +kernel
theorem dX6_isIn_17 : decode cX6_isIn 17 = .ok (.iconst 0, 1) := by decide +kernel
theorem dX6_isIn_18 : decode cX6_isIn 18 = .ok (.ireturn, 1) := by decide +kernel
theorem dX6_comes_0 : decode cX6_comes 0 = .ok (.aload_n 0, 1) := by decide +kernel
theorem dX6_comes_1 : decode cX6_comes 1 = .ok (.getfield 40, 3) := by decide +kernel
theorem dX6_comes_4 : decode cX6_comes 4 = .ok (.iconst 0, 1) := by decide +kernel
theorem dX6_comes_5 : decode cX6_comes 5 = .ok (.iaload, 1) := by decide +kernel
theorem dX6_comes_6 : decode cX6_comes 6 = .ok (.istore_n 2, 1) := by decide +kernel
theorem dX6_comes_7 : decode cX6_comes 7 = .ok (.iload_n 1, 1) := by decide +kernel
theorem dX6_comes_8 : decode cX6_comes 8 = .ok (.lookupswitch 263 #[(100, 214), (112, 52), (115, 155), (118, 204), (121, 233)], 52) := by decide +kernel
theorem dX6_comes_60 : decode cX6_comes 60 = .ok (.iload_n 2, 1) := by decide +kernel
theorem dX6_comes_61 : decode cX6_comes 61 = .ok (.bipush 7, 2) := by decide +kernel
theorem dX6_comes_63 : decode cX6_comes 63 = .ok (.if_icmp .gt 31, 3) := by decide +kernel
theorem dX6_comes_66 : decode cX6_comes 66 = .ok (.aload_n 0, 1) := by decide +kernel
theorem dX6_comes_67 : decode cX6_comes 67 = .ok (.getfield 40, 3) := by decide +kernel
theorem dX6_comes_70 : decode cX6_comes 70 = .ok (.iconst 2, 1) := by decide +kernel
theorem dX6_comes_71 : decode cX6_comes 71 = .ok (.iaload, 1) := by decide +kernel
theorem dX6_comes_72 : decode cX6_comes 72 = .ok (.i2l, 1) := by decide +kernel
theorem dX6_comes_73 : decode cX6_comes 73 = .ok (.lconst 1, 1) := by decide +kernel
theorem dX6_comes_74 : decode cX6_comes 74 = .ok (.ldc2_w 88, 3) := by decide +kernel
theorem dX6_comes_77 : decode cX6_comes 77 = .ok (.invokestatic 47, 3) := by decide +kernel
theorem dX6_comes_80 : decode cX6_comes 80 = .ok (.ifCond .eq 14, 3) := by decide +kernel
theorem dX6_comes_83 : decode cX6_comes 83 = .ok (.aload_n 0, 1) := by decide +kernel
theorem dX6_comes_84 : decode cX6_comes 84 = .ok (.getfield 16, 3) := by decide +kernel
theorem dX6_comes_87 : decode cX6_comes 87 = .ok (.iconst 0, 1) := by decide +kernel
theorem dX6_comes_88 : decode cX6_comes 88 = .ok (.iaload, 1) := by decide +kernel
theorem dX6_comes_89 : decode cX6_comes 89 = .ok (.bipush 6, 2) := by decide +kernel
theorem dX6_comes_91 : decode cX6_comes 91 = .ok (.if_icmp .ne 5, 3) := by decide +kernel
theorem dX6_comes_94 : decode cX6_comes 94 = .ok (.iconst 0, 1) := by decide +kernel
theorem dX6_comes_95 : decode cX6_comes 95 = .ok (.ireturn, 1) := by decide +kernel
theorem dX6_comes_96 : decode cX6_comes 96 = .ok (.bipush 12, 2) := by decide +kernel
theorem dX6_comes_98 : decode cX6_comes 98 = .ok (.bipush 6, 2) := by decide +kernel
theorem dX6_comes_100 : decode cX6_comes 100 = .ok (.aload_n 0, 1) := by decide +kernel
theorem dX6_comes_101 : decode cX6_comes 101 = .ok (.getfield 16, 3) := by decide +kernel
theorem dX6_comes_104 : decode cX6_comes 104 = .ok (.iconst 0, 1) := by decide +kernel
theorem dX6_comes_105 : decode cX6_comes 105 = .ok (.iaload, 1) := by decide +kernel
theorem dX6_comes_106 : decode cX6_comes 106 = .ok (.imul, 1) := by decide +kernel
theorem dX6_comes_107 : decode cX6_comes 107 = .ok (.iadd, 1) := by decide +kernel
theorem dX6_comes_108 : decode cX6_comes 108 = .ok (.istore_n 3, 1) := by decide +kernel
theorem dX6_comes_109 : decode cX6_comes 109 = .ok (.iconst 0, 1) := by decide +kernel
theorem dX6_comes_110 : decode cX6_comes 110 = .ok (.istore 4, 2) := by decide +kernel
theorem dX6_comes_112 : decode cX6_comes 112 = .ok (.iload 4, 2) := by decide +kernel
theorem dX6_comes_114 : decode cX6_comes 114 = .ok (.bipush 6, 2) := by decide +kernel
theorem dX6_comes_116 : decode cX6_comes 116 = .ok (.if_icmp .ge 35, 3) := by decide +kernel
theorem dX6_comes_119 : decode cX6_comes 119 = .ok (.aload_n 0, 1) := by decide +kernel
theorem dX6_comes_120 : decode cX6_comes 120 = .ok (.getfield 16, 3) := by decide +kernel
theorem dX6_comes_123 : decode cX6_comes 123 = .ok (.iload_n 3, 1) := by decide +kernel
theorem dX6_comes_124 : decode cX6_comes 124 = .ok (.iload 4, 2) := by decide +kernel
theorem dX6_comes_126 : decode cX6_comes 126 = .ok (.iadd, 1) := by decide +kernel
theorem dX6_comes_127 : decode cX6_comes 127 = .ok (.iload 4, 2) := by decide +kernel
theorem dX6_comes_129 : decode cX6_comes 129 = .ok (.iconst 3, 1) := by decide +kernel
theorem dX6_comes_130 : decode cX6_comes 130 = .ok (.if_icmp .ge 13, 3) := by decide +kernel
theorem dX6_comes_133 : decode cX6_comes 133 = .ok (.aload_n 0, 1) := by decide +kernel
theorem dX6_comes_134 : decode cX6_comes 134 = .ok (.getfield 40, 3) := by decide +kernel
theorem dX6_comes_137 : decode cX6_comes 137 = .ok (.iload 4, 2) := by decide +kernel
theorem dX6_comes_139 : decode cX6_comes 139 = .ok (.iaload, 1) := by decide +kernel
theorem dX6_comes_140 : decode cX6_comes 140 = .ok (.goto 4, 3) := by decide +kernel
theorem dX6_comes_143 : decode cX6_comes 143 = .ok (.iconst 0, 1) := by decide +kernel
theorem dX6_comes_144 : decode cX6_comes 144 = .ok (.iastore, 1) := by decide +kernel
theorem dX6_comes_145 : decode cX6_comes 145 = .ok (.iinc 4 1, 3) := by decide +kernel
theorem dX6_comes_148 : decode cX6_comes 148 = .ok (.goto (-36), 3) := by decide +kernel
theorem dX6_comes_151 : decode cX6_comes 151 = .ok (.aload_n 0, 1) := by decide +kernel
theorem dX6_comes_152 : decode cX6_comes 152 = .ok (.getfield 16, 3) := by decide +kernel
theorem dX6_comes_155 : decode cX6_comes 155 = .ok (.iconst 0, 1) := by decide +kernel
theorem dX6_comes_156 : decode cX6_comes 156 = .ok (.dup2, 1) := by decide +kernel
theorem dX6_comes_157 : decode cX6_comes 157 = .ok (.iaload, 1) := by decide +kernel
theorem dX6_comes_158 : decode cX6_comes 158 = .ok (.iconst 1, 1) := by decide +kernel
theorem dX6_comes_159 : decode cX6_comes 159 = .ok (.iadd, 1) := by decide +kernel
theorem dX6_comes_160 : decode cX6_comes 160 = .ok (.iastore, 1) := by decide +kernel
theorem dX6_comes_161 : decode cX6_comes 161 = .ok (.iconst 1, 1) := by decide +kernel
theorem dX6_comes_162 : decode cX6_comes 162 = .ok (.ireturn, 1) := by decide +kernel
theorem dX6_comes_163 : decode cX6_comes 163 = .ok (.iload_n 2, 1) := by decide +kernel
theorem dX6_comes_164 : decode cX6_comes 164 = .ok (.bipush 60, 2) := by decide +kernel
theorem dX6_comes_166 : decode cX6_comes 166 = .ok (.if_icmp .gt 22, 3) := by decide +kernel
theorem dX6_comes_169 : decode cX6_comes 169 = .ok (.aload_n 0, 1) := by decide +kernel
theorem dX6_comes_170 : decode cX6_comes 170 = .ok (.getfield 40, 3) := by decide +kernel
theorem dX6_comes_173 : decode cX6_comes 173 = .ok (.iconst 1, 1) := by decide +kernel
theorem dX6_comes_174 : decode cX6_comes 174 = .ok (.iaload, 1) := by decide +kernel
theorem dX6_comes_175 : decode cX6_comes 175 = .ok (.i2l, 1) := by decide +kernel
theorem dX6_comes_176 : decode cX6_comes 176 = .ok (.ldc2_w 90, 3) := by decide +kernel
theorem dX6_comes_179 : decode cX6_comes 179 = .ok (.ldc2_w 92, 3) := by decide +kernel
theorem dX6_comes_182 : decode cX6_comes 182 = .ok (.invokestatic 47, 3) := by decide +kernel
theorem dX6_comes_185 : decode cX6_comes 185 = .ok (.ifCond .ne 5, 3) := by decide +kernel
theorem dX6_comes_188 : decode cX6_comes 188 = .ok (.iconst 0, 1) := by decide +kernel
theorem dX6_comes_189 : decode cX6_comes 189 = .ok (.ireturn, 1) := by decide +kernel
theorem dX6_comes_190 : decode cX6_comes 190 = .ok (.aload_n 0, 1) := by decide +kernel
theorem dX6_comes_191 : decode cX6_comes 191 = .ok (.getfield 16, 3) := by decide +kernel
theorem dX6_comes_194 : decode cX6_comes 194 = .ok (.iconst 5, 1) := by decide +kernel
theorem dX6_comes_195 : decode cX6_comes 195 = .ok (.iload_n 2, 1) := by decide +kernel
theorem dX6_comes_196 : decode cX6_comes 196 = .ok (.iastore, 1) := by decide +kernel
theorem dX6_comes_197 : decode cX6_comes 197 = .ok (.aload_n 0, 1) := by decide +kernel
theorem dX6_comes_198 : decode cX6_comes 198 = .ok (.getfield 16, 3) := by decide +kernel
theorem dX6_comes_201 : decode cX6_comes 201 = .ok (.bipush 6, 2) := by decide +kernel
theorem dX6_comes_203 : decode cX6_comes 203 = .ok (.aload_n 0, 1) := by decide +kernel
theorem dX6_comes_204 : decode cX6_comes 204 = .ok (.getfield 40, 3) := by decide +kernel
theorem dX6_comes_207 : decode cX6_comes 207 = .ok (.iconst 1, 1) := by decide +kernel
theorem dX6_comes_208 : decode cX6_comes 208 = .ok (.iaload, 1) := by decide +kernel
theorem dX6_comes_209 : decode cX6_comes 209 = .ok (.iastore, 1) := by decide +kernel
theorem dX6_comes_210 : decode cX6_comes 210 = .ok (.iconst 1, 1) := by decide +kernel
theorem dX6_comes_211 : decode cX6_comes 211 = .ok (.ireturn, 1) := by decide +kernel
theorem dX6_comes_212 : decode cX6_comes 212 = .ok (.aload_n 0, 1) := by decide +kernel
theorem dX6_comes_213 : decode cX6_comes 213 = .ok (.getfield 16, 3) := by decide +kernel
theorem dX6_comes_216 : decode cX6_comes 216 = .ok (.bipush 7, 2) := by decide +kernel
theorem dX6_comes_218 : decode cX6_comes 218 = .ok (.iload_n 2, 1) := by decide +kernel
theorem dX6_comes_219 : decode cX6_comes 219 = .ok (.iastore, 1) := by decide +kernel
theorem dX6_comes_220 : decode cX6_comes 220 = .ok (.iconst 1, 1) := by decide +kernel
theorem dX6_comes_221 : decode cX6_comes 221 = .ok (.ireturn, 1) := by decide +kernel
theorem dX6_comes_222 : decode cX6_comes 222 = .ok (.aload_n 0, 1) := by decide +kernel
theorem dX6_comes_223 : decode cX6_comes 223 = .ok (.getfield 16, 3) := by decide +kernel
theorem dX6_comes_226 : decode cX6_comes 226 = .ok (.bipush 8, 2) := by decide +kernel
theorem dX6_comes_228 : decode cX6_comes 228 = .ok (.iload_n 2, 1) := by decide +kernel
theorem dX6_comes_229 : decode cX6_comes 229 = .ok (.iastore, 1) := by decide +kernel
theorem dX6_comes_230 : decode cX6_comes 230 = .ok (.iload_n 2, 1) := by decide +kernel
theorem dX6_comes_231 : decode cX6_comes 231 = .ok (.iconst 1, 1) := by decide +kernel
theorem dX6_comes_232 : decode cX6_comes 232 = .ok (.if_icmp .lt 7, 3) := by decide +kernel
theorem dX6_comes_235 : decode cX6_comes 235 = .ok (.iconst 1, 1) := by decide +kernel
theorem dX6_comes_236 : decode cX6_comes 236 = .ok (.goto 4, 3) := by decide +kernel
theorem dX6_comes_239 : decode cX6_comes 239 = .ok (.iconst 0, 1) := by decide +kernel
theorem dX6_comes_240 : decode cX6_comes 240 = .ok (.ireturn, 1) := by decide +kernel
theorem dX6_comes_241 : decode cX6_comes 241 = .ok (.iconst 0, 1) := by decide +kernel
theorem dX6_comes_242 : decode cX6_comes 242 = .ok (.istore_n 3, 1) := by decide +kernel
theorem dX6_comes_243 : decode cX6_comes 243 = .ok (.iload_n 3, 1) := by decide +kernel
theorem dX6_comes_244 : decode cX6_comes 244 = .ok (.iconst 3, 1) := by decide +kernel
theorem dX6_comes_245 : decode cX6_comes 245 = .ok (.if_icmp .ge 24, 3) := by decide +kernel
theorem dX6_comes_248 : decode cX6_comes 248 = .ok (.aload_n 0, 1) := by decide +kernel
theorem dX6_comes_249 : decode cX6_comes 249 = .ok (.getfield 16, 3) := by decide +kernel
theorem dX6_comes_252 : decode cX6_comes 252 = .ok (.bipush 9, 2) := by decide +kernel
theorem dX6_comes_254 : decode cX6_comes 254 = .ok (.iload_n 3, 1) := by decide +kernel
theorem dX6_comes_255 : decode cX6_comes 255 = .ok (.iadd, 1) := by decide +kernel
theorem dX6_comes_256 : decode cX6_comes 256 = .ok (.aload_n 0, 1) := by decide +kernel
theorem dX6_comes_257 : decode cX6_comes 257 = .ok (.getfield 40, 3) := by decide +kernel
theorem dX6_comes_260 : decode cX6_comes 260 = .ok (.iload_n 3, 1) := by decide +kernel
theorem dX6_comes_261 : decode cX6_comes 261 = .ok (.iaload, 1) := by decide +kernel
theorem dX6_comes_262 : decode cX6_comes 262 = .ok (.iastore, 1) := by decide +kernel
theorem dX6_comes_263 : decode cX6_comes 263 = .ok (.iinc 3 1, 3) := by decide +kernel
theorem dX6_comes_266 : decode cX6_comes 266 = .ok (.goto (-23), 3) := by decide +kernel
theorem dX6_comes_269 : decode cX6_comes 269 = .ok (.iconst 1, 1) := by decide +kernel
theorem dX6_comes_270 : decode cX6_comes 270 = .ok (.ireturn, 1) := by decide +kernel
theorem dX6_comes_271 : decode cX6_comes 271 = .ok (.aload_n 0, 1) := by decide +kernel
theorem dX6_comes_272 : decode cX6_comes 272 = .ok (.getfield 16, 3) := by decide +kernel
theorem dX6_comes_275 : decode cX6_comes 275 = .ok (.iconst 3, 1) := by decide +kernel
theorem dX6_comes_276 : decode cX6_comes 276 = .ok (.aload_n 0, 1) := by decide +kernel
theorem dX6_comes_277 : decode cX6_comes 277 = .ok (.getfield 84, 3) := by decide +kernel
theorem dX6_comes_280 : decode cX6_comes 280 = .ok (.ifCond .eq 8, 3) := by decide +kernel
theorem dX6_comes_283 : decode cX6_comes 283 = .ok (.iload_n 2, 1) := by decide +kernel
theorem dX6_comes_284 : decode cX6_comes 284 = .ok (.ineg, 1) := by decide +kernel
theorem dX6_comes_285 : decode cX6_comes 285 = .ok (.goto 4, 3) := by decide +kernel
theorem dX6_comes_288 : decode cX6_comes 288 = .ok (.iload_n 2, 1) := by decide +kernel
theorem dX6_comes_289 : decode cX6_comes 289 = .ok (.iastore, 1) := by decide +kernel
theorem dX6_comes_290 : decode cX6_comes 290 = .ok (.iconst 1, 1) := by decide +kernel
theorem dX6_comes_291 : decode cX6_comes 291 = .ok (.ireturn, 1) := by decide +kernel
theorem dX6_copies_0 : decode cX6_copies 0 = .ok (.iconst 0, 1) := by decide +kernel
theorem dX6_copies_1 : decode cX6_copies 1 = .ok (.istore_n 2, 1) := by decide +kernel
theorem dX6_copies_2 : decode cX6_copies 2 = .ok (.iload_n 2, 1) := by decide +kernel
theorem dX6_copies_3 : decode cX6_copies 3 = .ok (.bipush 54, 2) := by decide +kernel
theorem dX6_copies_5 : decode cX6_copies 5 = .ok (.if_icmp .ge 15, 3) := by decide +kernel
theorem dX6_copies_8 : decode cX6_copies 8 = .ok (.aload_n 1, 1) := by decide +kernel
theorem dX6_copies_9 : decode cX6_copies 9 = .ok (.iload_n 2, 1) := by decide +kernel
theorem dX6_copies_10 : decode cX6_copies 10 = .ok (.aload_n 0, 1) := by decide +kernel
theorem dX6_copies_11 : decode cX6_copies 11 = .ok (.iload_n 2, 1) := by decide +kernel
theorem dX6_copies_12 : decode cX6_copies 12 = .ok (.iaload, 1) := by decide +kernel
theorem dX6_copies_13 : decode cX6_copies 13 = .ok (.iastore, 1) := by decide +kernel
theorem dX6_copies_14 : decode cX6_copies 14 = .ok (.iinc 2 1, 3) := by decide +kernel
theorem dX6_copies_17 : decode cX6_copies 17 = .ok (.goto (-15), 3) := by decide +kernel
theorem dX6_copies_20 : decode cX6_copies 20 = .ok (.return_, 1) := by decide +kernel
theorem dX6_here_0 : decode cX6_here 0 = .ok (.aload_n 0, 1) := by decide +kernel
theorem dX6_here_1 : decode cX6_here 1 = .ok (.getfield 53, 3) := by decide +kernel
theorem dX6_here_4 : decode cX6_here 4 = .ok (.aload_n 0, 1) := by decide +kernel
theorem dX6_here_5 : decode cX6_here 5 = .ok (.getfield 56, 3) := by decide +kernel
theorem dX6_here_8 : decode cX6_here 8 = .ok (.if_icmp .ge 20, 3) := by decide +kernel
theorem dX6_here_11 : decode cX6_here 11 = .ok (.aload_n 0, 1) := by decide +kernel
theorem dX6_here_12 : decode cX6_here 12 = .ok (.getfield 31, 3) := by decide +kernel
theorem dX6_here_15 : decode cX6_here 15 = .ok (.aload_n 0, 1) := by decide +kernel
theorem dX6_here_16 : decode cX6_here 16 = .ok (.getfield 59, 3) := by decide +kernel
theorem dX6_here_19 : decode cX6_here 19 = .ok (.aload_n 0, 1) := by decide +kernel
theorem dX6_here_20 : decode cX6_here 20 = .ok (.getfield 53, 3) := by decide +kernel
theorem dX6_here_23 : decode cX6_here 23 = .ok (.iadd, 1) := by decide +kernel
theorem dX6_here_24 : decode cX6_here 24 = .ok (.iaload, 1) := by decide +kernel
theorem dX6_here_25 : decode cX6_here 25 = .ok (.goto 6, 3) := by decide +kernel
theorem dX6_here_28 : decode cX6_here 28 = .ok (.sipush (-1000), 3) := by decide +kernel
theorem dX6_here_31 : decode cX6_here 31 = .ok (.ireturn, 1) := by decide +kernel
theorem dX6_isDigit_0 : decode cX6_isDigit 0 = .ok (.aload_n 0, 1) := by decide +kernel
theorem dX6_isDigit_1 : decode cX6_isDigit 1 = .ok (.invokevirtual 62, 3) := by decide +kernel
theorem dX6_isDigit_4 : decode cX6_isDigit 4 = .ok (.i2l, 1) := by decide +kernel
theorem dX6_isDigit_5 : decode cX6_isDigit 5 = .ok (.ldc2_w 66, 3) := by decide +kernel
theorem dX6_isDigit_8 : decode cX6_isDigit 8 = .ok (.ldc2_w 68, 3) := by decide +kernel
theorem dX6_isDigit_11 : decode cX6_isDigit 11 = .ok (.invokestatic 47, 3) := by decide +kernel
theorem dX6_isDigit_14 : decode cX6_isDigit 14 = .ok (.ireturn, 1) := by decide +kernel
theorem dX6_readsNumber_0 : decode cX6_readsNumber 0 = .ok (.aload_n 0, 1) := by decide +kernel
theorem dX6_readsNumber_1 : decode cX6_readsNumber 1 = .ok (.invokevirtual 70, 3) := by decide +kernel
theorem dX6_readsNumber_4 : decode cX6_readsNumber 4 = .ok (.ifCond .ne 5, 3) := by decide +kernel
theorem dX6_readsNumber_7 : decode cX6_readsNumber 7 = .ok (.iconst 0, 1) := by decide +kernel
theorem dX6_readsNumber_8 : decode cX6_readsNumber 8 = .ok (.ireturn, 1) := by decide +kernel
theorem dX6_readsNumber_9 : decode cX6_readsNumber 9 = .ok (.aload_n 0, 1) := by decide +kernel
theorem dX6_readsNumber_10 : decode cX6_readsNumber 10 = .ok (.invokevirtual 62, 3) := by decide +kernel
theorem dX6_readsNumber_13 : decode cX6_readsNumber 13 = .ok (.bipush 48, 2) := by decide +kernel
theorem dX6_readsNumber_15 : decode cX6_readsNumber 15 = .ok (.isub, 1) := by decide +kernel
theorem dX6_readsNumber_16 : decode cX6_readsNumber 16 = .ok (.istore_n 2, 1) := by decide +kernel
theorem dX6_readsNumber_17 : decode cX6_readsNumber 17 = .ok (.aload_n 0, 1) := by decide +kernel
theorem dX6_readsNumber_18 : decode cX6_readsNumber 18 = .ok (.dup, 1) := by decide +kernel
theorem dX6_readsNumber_19 : decode cX6_readsNumber 19 = .ok (.getfield 53, 3) := by decide +kernel
theorem dX6_readsNumber_22 : decode cX6_readsNumber 22 = .ok (.iconst 1, 1) := by decide +kernel
theorem dX6_readsNumber_23 : decode cX6_readsNumber 23 = .ok (.iadd, 1) := by decide +kernel
theorem dX6_readsNumber_24 : decode cX6_readsNumber 24 = .ok (.putfield 53, 3) := by decide +kernel
theorem dX6_readsNumber_27 : decode cX6_readsNumber 27 = .ok (.iconst 1, 1) := by decide +kernel
theorem dX6_readsNumber_28 : decode cX6_readsNumber 28 = .ok (.istore_n 3, 1) := by decide +kernel
theorem dX6_readsNumber_29 : decode cX6_readsNumber 29 = .ok (.iload_n 3, 1) := by decide +kernel
theorem dX6_readsNumber_30 : decode cX6_readsNumber 30 = .ok (.iload_n 1, 1) := by decide +kernel
theorem dX6_readsNumber_31 : decode cX6_readsNumber 31 = .ok (.if_icmp .ge 43, 3) := by decide +kernel
theorem dX6_readsNumber_34 : decode cX6_readsNumber 34 = .ok (.iload_n 2, 1) := by decide +kernel
theorem dX6_readsNumber_35 : decode cX6_readsNumber 35 = .ok (.ifCond .le 39, 3) := by decide +kernel
theorem dX6_readsNumber_38 : decode cX6_readsNumber 38 = .ok (.aload_n 0, 1) := by decide +kernel
theorem dX6_readsNumber_39 : decode cX6_readsNumber 39 = .ok (.invokevirtual 70, 3) := by decide +kernel
theorem dX6_readsNumber_42 : decode cX6_readsNumber 42 = .ok (.ifCond .eq 32, 3) := by decide +kernel
theorem dX6_readsNumber_45 : decode cX6_readsNumber 45 = .ok (.bipush 10, 2) := by decide +kernel
theorem dX6_readsNumber_47 : decode cX6_readsNumber 47 = .ok (.iload_n 2, 1) := by decide +kernel
theorem dX6_readsNumber_48 : decode cX6_readsNumber 48 = .ok (.imul, 1) := by decide +kernel
theorem dX6_readsNumber_49 : decode cX6_readsNumber 49 = .ok (.aload_n 0, 1) := by decide +kernel
theorem dX6_readsNumber_50 : decode cX6_readsNumber 50 = .ok (.invokevirtual 62, 3) := by decide +kernel
theorem dX6_readsNumber_53 : decode cX6_readsNumber 53 = .ok (.iadd, 1) := by decide +kernel
theorem dX6_readsNumber_54 : decode cX6_readsNumber 54 = .ok (.bipush 48, 2) := by decide +kernel
theorem dX6_readsNumber_56 : decode cX6_readsNumber 56 = .ok (.isub, 1) := by decide +kernel
theorem dX6_readsNumber_57 : decode cX6_readsNumber 57 = .ok (.istore_n 2, 1) := by decide +kernel
theorem dX6_readsNumber_58 : decode cX6_readsNumber 58 = .ok (.aload_n 0, 1) := by decide +kernel
theorem dX6_readsNumber_59 : decode cX6_readsNumber 59 = .ok (.dup, 1) := by decide +kernel
theorem dX6_readsNumber_60 : decode cX6_readsNumber 60 = .ok (.getfield 53, 3) := by decide +kernel
theorem dX6_readsNumber_63 : decode cX6_readsNumber 63 = .ok (.iconst 1, 1) := by decide +kernel
theorem dX6_readsNumber_64 : decode cX6_readsNumber 64 = .ok (.iadd, 1) := by decide +kernel
theorem dX6_readsNumber_65 : decode cX6_readsNumber 65 = .ok (.putfield 53, 3) := by decide +kernel
theorem dX6_readsNumber_68 : decode cX6_readsNumber 68 = .ok (.iinc 3 1, 3) := by decide +kernel
theorem dX6_readsNumber_71 : decode cX6_readsNumber 71 = .ok (.goto (-42), 3) := by decide +kernel
theorem dX6_readsNumber_74 : decode cX6_readsNumber 74 = .ok (.aload_n 0, 1) := by decide +kernel
theorem dX6_readsNumber_75 : decode cX6_readsNumber 75 = .ok (.getfield 40, 3) := by decide +kernel
theorem dX6_readsNumber_78 : decode cX6_readsNumber 78 = .ok (.aload_n 0, 1) := by decide +kernel
theorem dX6_readsNumber_79 : decode cX6_readsNumber 79 = .ok (.getfield 74, 3) := by decide +kernel
theorem dX6_readsNumber_82 : decode cX6_readsNumber 82 = .ok (.iload_n 2, 1) := by decide +kernel
theorem dX6_readsNumber_83 : decode cX6_readsNumber 83 = .ok (.iastore, 1) := by decide +kernel
theorem dX6_readsNumber_84 : decode cX6_readsNumber 84 = .ok (.aload_n 0, 1) := by decide +kernel
theorem dX6_readsNumber_85 : decode cX6_readsNumber 85 = .ok (.dup, 1) := by decide +kernel
theorem dX6_readsNumber_86 : decode cX6_readsNumber 86 = .ok (.getfield 74, 3) := by decide +kernel
theorem dX6_readsNumber_89 : decode cX6_readsNumber 89 = .ok (.iconst 1, 1) := by decide +kernel
theorem dX6_readsNumber_90 : decode cX6_readsNumber 90 = .ok (.iadd, 1) := by decide +kernel
theorem dX6_readsNumber_91 : decode cX6_readsNumber 91 = .ok (.putfield 74, 3) := by decide +kernel
theorem dX6_readsNumber_94 : decode cX6_readsNumber 94 = .ok (.iconst 1, 1) := by decide +kernel
theorem dX6_readsNumber_95 : decode cX6_readsNumber 95 = .ok (.ireturn, 1) := by decide +kernel
theorem dX6_takes_0 : decode cX6_takes 0 = .ok (.aload_n 0, 1) := by decide +kernel
theorem dX6_takes_1 : decode cX6_takes 1 = .ok (.invokevirtual 62, 3) := by decide +kernel
theorem dX6_takes_4 : decode cX6_takes 4 = .ok (.iload_n 1, 1) := by decide +kernel
theorem dX6_takes_5 : decode cX6_takes 5 = .ok (.if_icmp .eq 5, 3) := by decide +kernel
theorem dX6_takes_8 : decode cX6_takes 8 = .ok (.iconst 0, 1) := by decide +kernel
theorem dX6_takes_9 : decode cX6_takes 9 = .ok (.ireturn, 1) := by decide +kernel
theorem dX6_takes_10 : decode cX6_takes 10 = .ok (.aload_n 0, 1) := by decide +kernel
theorem dX6_takes_11 : decode cX6_takes 11 = .ok (.dup, 1) := by decide +kernel
theorem dX6_takes_12 : decode cX6_takes 12 = .ok (.getfield 53, 3) := by decide +kernel
theorem dX6_takes_15 : decode cX6_takes 15 = .ok (.iconst 1, 1) := by decide +kernel
theorem dX6_takes_16 : decode cX6_takes 16 = .ok (.iadd, 1) := by decide +kernel
theorem dX6_takes_17 : decode cX6_takes 17 = .ok (.putfield 53, 3) := by decide +kernel
theorem dX6_takes_20 : decode cX6_takes 20 = .ok (.iconst 1, 1) := by decide +kernel
theorem dX6_takes_21 : decode cX6_takes 21 = .ok (.ireturn, 1) := by decide +kernel
theorem dX6_readsStatement_0 : decode cX6_readsStatement 0 = .ok (.aload_n 0, 1) := by decide +kernel
theorem dX6_readsStatement_1 : decode cX6_readsStatement 1 = .ok (.invokevirtual 62, 3) := by decide +kernel
theorem dX6_readsStatement_4 : decode cX6_readsStatement 4 = .ok (.istore_n 1, 1) := by decide +kernel
theorem dX6_readsStatement_5 : decode cX6_readsStatement 5 = .ok (.aload_n 0, 1) := by decide +kernel
theorem dX6_readsStatement_6 : decode cX6_readsStatement 6 = .ok (.iconst 0, 1) := by decide +kernel
theorem dX6_readsStatement_7 : decode cX6_readsStatement 7 = .ok (.putfield 74, 3) := by decide +kernel
theorem dX6_readsStatement_10 : decode cX6_readsStatement 10 = .ok (.iconst 0, 1) := by decide +kernel
theorem dX6_readsStatement_11 : decode cX6_readsStatement 11 = .ok (.istore_n 2, 1) := by decide +kernel
theorem dX6_readsStatement_12 : decode cX6_readsStatement 12 = .ok (.aload_n 0, 1) := by decide +kernel
theorem dX6_readsStatement_13 : decode cX6_readsStatement 13 = .ok (.dup, 1) := by decide +kernel
theorem dX6_readsStatement_14 : decode cX6_readsStatement 14 = .ok (.getfield 53, 3) := by decide +kernel
theorem dX6_readsStatement_17 : decode cX6_readsStatement 17 = .ok (.iconst 1, 1) := by decide +kernel
theorem dX6_readsStatement_18 : decode cX6_readsStatement 18 = .ok (.iadd, 1) := by decide +kernel
theorem dX6_readsStatement_19 : decode cX6_readsStatement 19 = .ok (.putfield 53, 3) := by decide +kernel
theorem dX6_readsStatement_22 : decode cX6_readsStatement 22 = .ok (.iload_n 1, 1) := by decide +kernel
theorem dX6_readsStatement_23 : decode cX6_readsStatement 23 = .ok (.lookupswitch 228 #[(97, 175), (100, 133), (112, 57), (115, 90), (118, 124), (121, 142)], 57) := by decide +kernel
theorem dX6_readsStatement_80 : decode cX6_readsStatement 80 = .ok (.aload_n 0, 1) := by decide +kernel
theorem dX6_readsStatement_81 : decode cX6_readsStatement 81 = .ok (.iconst 1, 1) := by decide +kernel
theorem dX6_readsStatement_82 : decode cX6_readsStatement 82 = .ok (.invokevirtual 77, 3) := by decide +kernel
theorem dX6_readsStatement_85 : decode cX6_readsStatement 85 = .ok (.ifCond .eq 23, 3) := by decide +kernel
theorem dX6_readsStatement_88 : decode cX6_readsStatement 88 = .ok (.aload_n 0, 1) := by decide +kernel
theorem dX6_readsStatement_89 : decode cX6_readsStatement 89 = .ok (.iconst 1, 1) := by decide +kernel
theorem dX6_readsStatement_90 : decode cX6_readsStatement 90 = .ok (.invokevirtual 77, 3) := by decide +kernel
theorem dX6_readsStatement_93 : decode cX6_readsStatement 93 = .ok (.ifCond .eq 15, 3) := by decide +kernel
theorem dX6_readsStatement_96 : decode cX6_readsStatement 96 = .ok (.aload_n 0, 1) := by decide +kernel
theorem dX6_readsStatement_97 : decode cX6_readsStatement 97 = .ok (.iconst 3, 1) := by decide +kernel
theorem dX6_readsStatement_98 : decode cX6_readsStatement 98 = .ok (.invokevirtual 77, 3) := by decide +kernel
theorem dX6_readsStatement_101 : decode cX6_readsStatement 101 = .ok (.ifCond .eq 7, 3) := by decide +kernel
theorem dX6_readsStatement_104 : decode cX6_readsStatement 104 = .ok (.iconst 1, 1) := by decide +kernel
theorem dX6_readsStatement_105 : decode cX6_readsStatement 105 = .ok (.goto 4, 3) := by decide +kernel
theorem dX6_readsStatement_108 : decode cX6_readsStatement 108 = .ok (.iconst 0, 1) := by decide +kernel
theorem dX6_readsStatement_109 : decode cX6_readsStatement 109 = .ok (.istore_n 2, 1) := by decide +kernel
theorem dX6_readsStatement_110 : decode cX6_readsStatement 110 = .ok (.goto 153, 3) := by decide +kernel
theorem dX6_readsStatement_113 : decode cX6_readsStatement 113 = .ok (.aload_n 0, 1) := by decide +kernel
theorem dX6_readsStatement_114 : decode cX6_readsStatement 114 = .ok (.iconst 3, 1) := by decide +kernel
theorem dX6_readsStatement_115 : decode cX6_readsStatement 115 = .ok (.invokevirtual 77, 3) := by decide +kernel
theorem dX6_readsStatement_118 : decode cX6_readsStatement 118 = .ok (.ifCond .eq 24, 3) := by decide +kernel
theorem dX6_readsStatement_121 : decode cX6_readsStatement 121 = .ok (.aload_n 0, 1) := by decide +kernel
theorem dX6_readsStatement_122 : decode cX6_readsStatement 122 = .ok (.bipush 32, 2) := by decide +kernel
theorem dX6_readsStatement_124 : decode cX6_readsStatement 124 = .ok (.invokevirtual 81, 3) := by decide +kernel
theorem dX6_readsStatement_127 : decode cX6_readsStatement 127 = .ok (.ifCond .eq 15, 3) := by decide +kernel
theorem dX6_readsStatement_130 : decode cX6_readsStatement 130 = .ok (.aload_n 0, 1) := by decide +kernel
theorem dX6_readsStatement_131 : decode cX6_readsStatement 131 = .ok (.iconst 3, 1) := by decide +kernel
theorem dX6_readsStatement_132 : decode cX6_readsStatement 132 = .ok (.invokevirtual 77, 3) := by decide +kernel
theorem dX6_readsStatement_135 : decode cX6_readsStatement 135 = .ok (.ifCond .eq 7, 3) := by decide +kernel
theorem dX6_readsStatement_138 : decode cX6_readsStatement 138 = .ok (.iconst 1, 1) := by decide +kernel
theorem dX6_readsStatement_139 : decode cX6_readsStatement 139 = .ok (.goto 4, 3) := by decide +kernel
theorem dX6_readsStatement_142 : decode cX6_readsStatement 142 = .ok (.iconst 0, 1) := by decide +kernel
theorem dX6_readsStatement_143 : decode cX6_readsStatement 143 = .ok (.istore_n 2, 1) := by decide +kernel
theorem dX6_readsStatement_144 : decode cX6_readsStatement 144 = .ok (.goto 119, 3) := by decide +kernel
theorem dX6_readsStatement_147 : decode cX6_readsStatement 147 = .ok (.aload_n 0, 1) := by decide +kernel
theorem dX6_readsStatement_148 : decode cX6_readsStatement 148 = .ok (.iconst 1, 1) := by decide +kernel
theorem dX6_readsStatement_149 : decode cX6_readsStatement 149 = .ok (.invokevirtual 77, 3) := by decide +kernel
theorem dX6_readsStatement_152 : decode cX6_readsStatement 152 = .ok (.istore_n 2, 1) := by decide +kernel
theorem dX6_readsStatement_153 : decode cX6_readsStatement 153 = .ok (.goto 110, 3) := by decide +kernel
theorem dX6_readsStatement_156 : decode cX6_readsStatement 156 = .ok (.aload_n 0, 1) := by decide +kernel
theorem dX6_readsStatement_157 : decode cX6_readsStatement 157 = .ok (.iconst 3, 1) := by decide +kernel
theorem dX6_readsStatement_158 : decode cX6_readsStatement 158 = .ok (.invokevirtual 77, 3) := by decide +kernel
theorem dX6_readsStatement_161 : decode cX6_readsStatement 161 = .ok (.istore_n 2, 1) := by decide +kernel
theorem dX6_readsStatement_162 : decode cX6_readsStatement 162 = .ok (.goto 101, 3) := by decide +kernel
theorem dX6_readsStatement_165 : decode cX6_readsStatement 165 = .ok (.aload_n 0, 1) := by decide +kernel
theorem dX6_readsStatement_166 : decode cX6_readsStatement 166 = .ok (.iconst 1, 1) := by decide +kernel
theorem dX6_readsStatement_167 : decode cX6_readsStatement 167 = .ok (.invokevirtual 77, 3) := by decide +kernel
theorem dX6_readsStatement_170 : decode cX6_readsStatement 170 = .ok (.ifCond .eq 23, 3) := by decide +kernel
theorem dX6_readsStatement_173 : decode cX6_readsStatement 173 = .ok (.aload_n 0, 1) := by decide +kernel
theorem dX6_readsStatement_174 : decode cX6_readsStatement 174 = .ok (.iconst 1, 1) := by decide +kernel
theorem dX6_readsStatement_175 : decode cX6_readsStatement 175 = .ok (.invokevirtual 77, 3) := by decide +kernel
theorem dX6_readsStatement_178 : decode cX6_readsStatement 178 = .ok (.ifCond .eq 15, 3) := by decide +kernel
theorem dX6_readsStatement_181 : decode cX6_readsStatement 181 = .ok (.aload_n 0, 1) := by decide +kernel
theorem dX6_readsStatement_182 : decode cX6_readsStatement 182 = .ok (.iconst 1, 1) := by decide +kernel
theorem dX6_readsStatement_183 : decode cX6_readsStatement 183 = .ok (.invokevirtual 77, 3) := by decide +kernel
theorem dX6_readsStatement_186 : decode cX6_readsStatement 186 = .ok (.ifCond .eq 7, 3) := by decide +kernel
theorem dX6_readsStatement_189 : decode cX6_readsStatement 189 = .ok (.iconst 1, 1) := by decide +kernel
theorem dX6_readsStatement_190 : decode cX6_readsStatement 190 = .ok (.goto 4, 3) := by decide +kernel
theorem dX6_readsStatement_193 : decode cX6_readsStatement 193 = .ok (.iconst 0, 1) := by decide +kernel
theorem dX6_readsStatement_194 : decode cX6_readsStatement 194 = .ok (.istore_n 2, 1) := by decide +kernel
theorem dX6_readsStatement_195 : decode cX6_readsStatement 195 = .ok (.goto 68, 3) := by decide +kernel
theorem dX6_readsStatement_198 : decode cX6_readsStatement 198 = .ok (.aload_n 0, 1) := by decide +kernel
theorem dX6_readsStatement_199 : decode cX6_readsStatement 199 = .ok (.aload_n 0, 1) := by decide +kernel
theorem dX6_readsStatement_200 : decode cX6_readsStatement 200 = .ok (.invokevirtual 62, 3) := by decide +kernel
theorem dX6_readsStatement_203 : decode cX6_readsStatement 203 = .ok (.bipush 45, 2) := by decide +kernel
theorem dX6_readsStatement_205 : decode cX6_readsStatement 205 = .ok (.if_icmp .ne 7, 3) := by decide +kernel
theorem dX6_readsStatement_208 : decode cX6_readsStatement 208 = .ok (.iconst 1, 1) := by decide +kernel
theorem dX6_readsStatement_209 : decode cX6_readsStatement 209 = .ok (.goto 4, 3) := by decide +kernel
theorem dX6_readsStatement_212 : decode cX6_readsStatement 212 = .ok (.iconst 0, 1) := by decide +kernel
theorem dX6_readsStatement_213 : decode cX6_readsStatement 213 = .ok (.putfield 84, 3) := by decide +kernel
theorem dX6_readsStatement_216 : decode cX6_readsStatement 216 = .ok (.aload_n 0, 1) := by decide +kernel
theorem dX6_readsStatement_217 : decode cX6_readsStatement 217 = .ok (.bipush 43, 2) := by decide +kernel
theorem dX6_readsStatement_219 : decode cX6_readsStatement 219 = .ok (.invokevirtual 81, 3) := by decide +kernel
theorem dX6_readsStatement_222 : decode cX6_readsStatement 222 = .ok (.ifCond .ne 12, 3) := by decide +kernel
theorem dX6_readsStatement_225 : decode cX6_readsStatement 225 = .ok (.aload_n 0, 1) := by decide +kernel
theorem dX6_readsStatement_226 : decode cX6_readsStatement 226 = .ok (.bipush 45, 2) := by decide +kernel
theorem dX6_readsStatement_228 : decode cX6_readsStatement 228 = .ok (.invokevirtual 81, 3) := by decide +kernel
theorem dX6_readsStatement_231 : decode cX6_readsStatement 231 = .ok (.ifCond .eq 15, 3) := by decide +kernel
theorem dX6_readsStatement_234 : decode cX6_readsStatement 234 = .ok (.aload_n 0, 1) := by decide +kernel
theorem dX6_readsStatement_235 : decode cX6_readsStatement 235 = .ok (.iconst 3, 1) := by decide +kernel
theorem dX6_readsStatement_236 : decode cX6_readsStatement 236 = .ok (.invokevirtual 77, 3) := by decide +kernel
theorem dX6_readsStatement_239 : decode cX6_readsStatement 239 = .ok (.ifCond .eq 7, 3) := by decide +kernel
theorem dX6_readsStatement_242 : decode cX6_readsStatement 242 = .ok (.iconst 1, 1) := by decide +kernel
theorem dX6_readsStatement_243 : decode cX6_readsStatement 243 = .ok (.goto 4, 3) := by decide +kernel
theorem dX6_readsStatement_246 : decode cX6_readsStatement 246 = .ok (.iconst 0, 1) := by decide +kernel
theorem dX6_readsStatement_247 : decode cX6_readsStatement 247 = .ok (.istore_n 2, 1) := by decide +kernel
theorem dX6_readsStatement_248 : decode cX6_readsStatement 248 = .ok (.goto 15, 3) := by decide +kernel
theorem dX6_readsStatement_251 : decode cX6_readsStatement 251 = .ok (.aload_n 0, 1) := by decide +kernel
theorem dX6_readsStatement_252 : decode cX6_readsStatement 252 = .ok (.dup, 1) := by decide +kernel
theorem dX6_readsStatement_253 : decode cX6_readsStatement 253 = .ok (.getfield 53, 3) := by decide +kernel
theorem dX6_readsStatement_256 : decode cX6_readsStatement 256 = .ok (.iconst 1, 1) := by decide +kernel
theorem dX6_readsStatement_257 : decode cX6_readsStatement 257 = .ok (.isub, 1) := by decide +kernel
theorem dX6_readsStatement_258 : decode cX6_readsStatement 258 = .ok (.putfield 53, 3) := by decide +kernel
theorem dX6_readsStatement_261 : decode cX6_readsStatement 261 = .ok (.iconst 0, 1) := by decide +kernel
theorem dX6_readsStatement_262 : decode cX6_readsStatement 262 = .ok (.ireturn, 1) := by decide +kernel
theorem dX6_readsStatement_263 : decode cX6_readsStatement 263 = .ok (.iload_n 2, 1) := by decide +kernel
theorem dX6_readsStatement_264 : decode cX6_readsStatement 264 = .ok (.ifCond .eq 16, 3) := by decide +kernel
theorem dX6_readsStatement_267 : decode cX6_readsStatement 267 = .ok (.aload_n 0, 1) := by decide +kernel
theorem dX6_readsStatement_268 : decode cX6_readsStatement 268 = .ok (.bipush 59, 2) := by decide +kernel
theorem dX6_readsStatement_270 : decode cX6_readsStatement 270 = .ok (.invokevirtual 81, 3) := by decide +kernel
theorem dX6_readsStatement_273 : decode cX6_readsStatement 273 = .ok (.ifCond .eq 7, 3) := by decide +kernel
theorem dX6_readsStatement_276 : decode cX6_readsStatement 276 = .ok (.iconst 1, 1) := by decide +kernel
theorem dX6_readsStatement_277 : decode cX6_readsStatement 277 = .ok (.goto 4, 3) := by decide +kernel
theorem dX6_readsStatement_280 : decode cX6_readsStatement 280 = .ok (.iconst 0, 1) := by decide +kernel
theorem dX6_readsStatement_281 : decode cX6_readsStatement 281 = .ok (.ireturn, 1) := by decide +kernel
theorem dX6_isShelf_0 : decode cX6_isShelf 0 = .ok (.iload_n 0, 1) := by decide +kernel
theorem dX6_isShelf_1 : decode cX6_isShelf 1 = .ok (.i2l, 1) := by decide +kernel
theorem dX6_isShelf_2 : decode cX6_isShelf 2 = .ok (.lconst 0, 1) := by decide +kernel
theorem dX6_isShelf_3 : decode cX6_isShelf 3 = .ok (.ldc2_w 51, 3) := by decide +kernel
theorem dX6_isShelf_6 : decode cX6_isShelf 6 = .ok (.invokestatic 47, 3) := by decide +kernel
theorem dX6_isShelf_9 : decode cX6_isShelf 9 = .ok (.ireturn, 1) := by decide +kernel
theorem dX6_wrongRow_0 : decode cX6_wrongRow 0 = .ok (.iload_n 1, 1) := by decide +kernel
theorem dX6_wrongRow_1 : decode cX6_wrongRow 1 = .ok (.invokestatic 94, 3) := by decide +kernel
theorem dX6_wrongRow_4 : decode cX6_wrongRow 4 = .ok (.ifCond .ne 7, 3) := by decide +kernel
theorem dX6_wrongRow_7 : decode cX6_wrongRow 7 = .ok (.iconst (-1), 1) := by decide +kernel
theorem dX6_wrongRow_8 : decode cX6_wrongRow 8 = .ok (.goto 47, 3) := by decide +kernel
theorem dX6_wrongRow_11 : decode cX6_wrongRow 11 = .ok (.aload_n 0, 1) := by decide +kernel
theorem dX6_wrongRow_12 : decode cX6_wrongRow 12 = .ok (.getfield 22, 3) := by decide +kernel
theorem dX6_wrongRow_15 : decode cX6_wrongRow 15 = .ok (.iload_n 1, 1) := by decide +kernel
theorem dX6_wrongRow_16 : decode cX6_wrongRow 16 = .ok (.iaload, 1) := by decide +kernel
theorem dX6_wrongRow_17 : decode cX6_wrongRow 17 = .ok (.ifCond .ne 8, 3) := by decide +kernel
theorem dX6_wrongRow_20 : decode cX6_wrongRow 20 = .ok (.bipush (-11), 2) := by decide +kernel
theorem dX6_wrongRow_22 : decode cX6_wrongRow 22 = .ok (.goto 33, 3) := by decide +kernel
theorem dX6_wrongRow_25 : decode cX6_wrongRow 25 = .ok (.aload_n 0, 1) := by decide +kernel
theorem dX6_wrongRow_26 : decode cX6_wrongRow 26 = .ok (.getfield 22, 3) := by decide +kernel
theorem dX6_wrongRow_29 : decode cX6_wrongRow 29 = .ok (.iload_n 1, 1) := by decide +kernel
theorem dX6_wrongRow_30 : decode cX6_wrongRow 30 = .ok (.iaload, 1) := by decide +kernel
theorem dX6_wrongRow_31 : decode cX6_wrongRow 31 = .ok (.iconst 2, 1) := by decide +kernel
theorem dX6_wrongRow_32 : decode cX6_wrongRow 32 = .ok (.if_icmp .ne 17, 3) := by decide +kernel
theorem dX6_wrongRow_35 : decode cX6_wrongRow 35 = .ok (.iload_n 2, 1) := by decide +kernel
theorem dX6_wrongRow_36 : decode cX6_wrongRow 36 = .ok (.ifCond .lt 18, 3) := by decide +kernel
theorem dX6_wrongRow_39 : decode cX6_wrongRow 39 = .ok (.aload_n 0, 1) := by decide +kernel
theorem dX6_wrongRow_40 : decode cX6_wrongRow 40 = .ok (.getfield 25, 3) := by decide +kernel
theorem dX6_wrongRow_43 : decode cX6_wrongRow 43 = .ok (.iload_n 1, 1) := by decide +kernel
theorem dX6_wrongRow_44 : decode cX6_wrongRow 44 = .ok (.iaload, 1) := by decide +kernel
theorem dX6_wrongRow_45 : decode cX6_wrongRow 45 = .ok (.iload_n 2, 1) := by decide +kernel
theorem dX6_wrongRow_46 : decode cX6_wrongRow 46 = .ok (.if_icmp .eq 8, 3) := by decide +kernel
theorem dX6_wrongRow_49 : decode cX6_wrongRow 49 = .ok (.bipush (-12), 2) := by decide +kernel
theorem dX6_wrongRow_51 : decode cX6_wrongRow 51 = .ok (.goto 4, 3) := by decide +kernel
theorem dX6_wrongRow_54 : decode cX6_wrongRow 54 = .ok (.iconst 0, 1) := by decide +kernel
theorem dX6_wrongRow_55 : decode cX6_wrongRow 55 = .ok (.ireturn, 1) := by decide +kernel
theorem dX6_tow_0 : decode cX6_tow 0 = .ok (.aload_n 0, 1) := by decide +kernel
theorem dX6_tow_1 : decode cX6_tow 1 = .ok (.iload_n 1, 1) := by decide +kernel
theorem dX6_tow_2 : decode cX6_tow 2 = .ok (.iconst 0, 1) := by decide +kernel
theorem dX6_tow_3 : decode cX6_tow 3 = .ok (.invokevirtual 97, 3) := by decide +kernel
theorem dX6_tow_6 : decode cX6_tow 6 = .ok (.istore_n 2, 1) := by decide +kernel
theorem dX6_tow_7 : decode cX6_tow 7 = .ok (.iload_n 2, 1) := by decide +kernel
theorem dX6_tow_8 : decode cX6_tow 8 = .ok (.ifCond .eq 5, 3) := by decide +kernel
theorem dX6_tow_11 : decode cX6_tow 11 = .ok (.iload_n 2, 1) := by decide +kernel
theorem dX6_tow_12 : decode cX6_tow 12 = .ok (.ireturn, 1) := by decide +kernel
theorem dX6_tow_13 : decode cX6_tow 13 = .ok (.aload_n 0, 1) := by decide +kernel
theorem dX6_tow_14 : decode cX6_tow 14 = .ok (.bipush 100, 2) := by decide +kernel
theorem dX6_tow_16 : decode cX6_tow 16 = .ok (.iload_n 1, 1) := by decide +kernel
theorem dX6_tow_17 : decode cX6_tow 17 = .ok (.imul, 1) := by decide +kernel
theorem dX6_tow_18 : decode cX6_tow 18 = .ok (.putfield 59, 3) := by decide +kernel
theorem dX6_tow_21 : decode cX6_tow 21 = .ok (.aload_n 0, 1) := by decide +kernel
theorem dX6_tow_22 : decode cX6_tow 22 = .ok (.aload_n 0, 1) := by decide +kernel
theorem dX6_tow_23 : decode cX6_tow 23 = .ok (.getfield 28, 3) := by decide +kernel
theorem dX6_tow_26 : decode cX6_tow 26 = .ok (.iload_n 1, 1) := by decide +kernel
theorem dX6_tow_27 : decode cX6_tow 27 = .ok (.iaload, 1) := by decide +kernel
theorem dX6_tow_28 : decode cX6_tow 28 = .ok (.putfield 56, 3) := by decide +kernel
theorem dX6_tow_31 : decode cX6_tow 31 = .ok (.aload_n 0, 1) := by decide +kernel
theorem dX6_tow_32 : decode cX6_tow 32 = .ok (.iconst 0, 1) := by decide +kernel
theorem dX6_tow_33 : decode cX6_tow 33 = .ok (.putfield 53, 3) := by decide +kernel
theorem dX6_tow_36 : decode cX6_tow 36 = .ok (.iconst 0, 1) := by decide +kernel
theorem dX6_tow_37 : decode cX6_tow 37 = .ok (.istore_n 3, 1) := by decide +kernel
theorem dX6_tow_38 : decode cX6_tow 38 = .ok (.aload_n 0, 1) := by decide +kernel
theorem dX6_tow_39 : decode cX6_tow 39 = .ok (.invokevirtual 101, 3) := by decide +kernel
theorem dX6_tow_42 : decode cX6_tow 42 = .ok (.ifCond .ne 12, 3) := by decide +kernel
theorem dX6_tow_45 : decode cX6_tow 45 = .ok (.sipush (-1000), 3) := by decide +kernel
theorem dX6_tow_48 : decode cX6_tow 48 = .ok (.aload_n 0, 1) := by decide +kernel
theorem dX6_tow_49 : decode cX6_tow 49 = .ok (.getfield 53, 3) := by decide +kernel
theorem dX6_tow_52 : decode cX6_tow 52 = .ok (.isub, 1) := by decide +kernel
theorem dX6_tow_53 : decode cX6_tow 53 = .ok (.ireturn, 1) := by decide +kernel
theorem dX6_tow_54 : decode cX6_tow 54 = .ok (.iinc 3 1, 3) := by decide +kernel
theorem dX6_tow_57 : decode cX6_tow 57 = .ok (.aload_n 0, 1) := by decide +kernel
theorem dX6_tow_58 : decode cX6_tow 58 = .ok (.getfield 53, 3) := by decide +kernel
theorem dX6_tow_61 : decode cX6_tow 61 = .ok (.aload_n 0, 1) := by decide +kernel
theorem dX6_tow_62 : decode cX6_tow 62 = .ok (.getfield 56, 3) := by decide +kernel
theorem dX6_tow_65 : decode cX6_tow 65 = .ok (.if_icmp .lt (-27), 3) := by decide +kernel
theorem dX6_tow_68 : decode cX6_tow 68 = .ok (.aload_n 0, 1) := by decide +kernel
theorem dX6_tow_69 : decode cX6_tow 69 = .ok (.getfield 9, 3) := by decide +kernel
theorem dX6_tow_72 : decode cX6_tow 72 = .ok (.aload_n 0, 1) := by decide +kernel
theorem dX6_tow_73 : decode cX6_tow 73 = .ok (.getfield 16, 3) := by decide +kernel
theorem dX6_tow_76 : decode cX6_tow 76 = .ok (.invokestatic 104, 3) := by decide +kernel
theorem dX6_tow_79 : decode cX6_tow 79 = .ok (.aload_n 0, 1) := by decide +kernel
theorem dX6_tow_80 : decode cX6_tow 80 = .ok (.iconst 0, 1) := by decide +kernel
theorem dX6_tow_81 : decode cX6_tow 81 = .ok (.putfield 53, 3) := by decide +kernel
theorem dX6_tow_84 : decode cX6_tow 84 = .ok (.aload_n 0, 1) := by decide +kernel
theorem dX6_tow_85 : decode cX6_tow 85 = .ok (.getfield 53, 3) := by decide +kernel
theorem dX6_tow_88 : decode cX6_tow 88 = .ok (.aload_n 0, 1) := by decide +kernel
theorem dX6_tow_89 : decode cX6_tow 89 = .ok (.getfield 56, 3) := by decide +kernel
theorem dX6_tow_92 : decode cX6_tow 92 = .ok (.if_icmp .ge 40, 3) := by decide +kernel
theorem dX6_tow_95 : decode cX6_tow 95 = .ok (.aload_n 0, 1) := by decide +kernel
theorem dX6_tow_96 : decode cX6_tow 96 = .ok (.getfield 53, 3) := by decide +kernel
theorem dX6_tow_99 : decode cX6_tow 99 = .ok (.istore 4, 2) := by decide +kernel
theorem dX6_tow_101 : decode cX6_tow 101 = .ok (.aload_n 0, 1) := by decide +kernel
theorem dX6_tow_102 : decode cX6_tow 102 = .ok (.invokevirtual 62, 3) := by decide +kernel
theorem dX6_tow_105 : decode cX6_tow 105 = .ok (.istore 5, 2) := by decide +kernel
theorem dX6_tow_107 : decode cX6_tow 107 = .ok (.aload_n 0, 1) := by decide +kernel
theorem dX6_tow_108 : decode cX6_tow 108 = .ok (.invokevirtual 101, 3) := by decide +kernel
theorem dX6_tow_111 : decode cX6_tow 111 = .ok (.istore 6, 2) := by decide +kernel
theorem dX6_tow_113 : decode cX6_tow 113 = .ok (.aload_n 0, 1) := by decide +kernel
theorem dX6_tow_114 : decode cX6_tow 114 = .ok (.iload 5, 2) := by decide +kernel
theorem dX6_tow_116 : decode cX6_tow 116 = .ok (.invokevirtual 108, 3) := by decide +kernel
theorem dX6_tow_119 : decode cX6_tow 119 = .ok (.ifCond .ne 10, 3) := by decide +kernel
theorem dX6_tow_122 : decode cX6_tow 122 = .ok (.sipush (-2000), 3) := by decide +kernel
theorem dX6_tow_125 : decode cX6_tow 125 = .ok (.iload 4, 2) := by decide +kernel
theorem dX6_tow_127 : decode cX6_tow 127 = .ok (.isub, 1) := by decide +kernel
theorem dX6_tow_128 : decode cX6_tow 128 = .ok (.ireturn, 1) := by decide +kernel
theorem dX6_tow_129 : decode cX6_tow 129 = .ok (.goto (-45), 3) := by decide +kernel
theorem dX6_tow_132 : decode cX6_tow 132 = .ok (.aload_n 0, 1) := by decide +kernel
theorem dX6_tow_133 : decode cX6_tow 133 = .ok (.getfield 16, 3) := by decide +kernel
theorem dX6_tow_136 : decode cX6_tow 136 = .ok (.aload_n 0, 1) := by decide +kernel
theorem dX6_tow_137 : decode cX6_tow 137 = .ok (.getfield 9, 3) := by decide +kernel
theorem dX6_tow_140 : decode cX6_tow 140 = .ok (.invokestatic 104, 3) := by decide +kernel
theorem dX6_tow_143 : decode cX6_tow 143 = .ok (.iload_n 3, 1) := by decide +kernel
theorem dX6_tow_144 : decode cX6_tow 144 = .ok (.ireturn, 1) := by decide +kernel
section WALK
variable {p : Program} {l : Launch} {e : Env} {s : State} {m : MethodId} {args : Array Value} {below : List Frame} {meth : Method} {c : Code} {G : GG}

def j_X6_isIn_18 (post : Int32 → Mem → Prop) (M : Mem) (y0 : Int32) : Prop := (y0 = 0 ∨ y0 = 1) ∧ post y0 M
def j_X6_isIn_17 (post : Int32 → Mem → Prop) (M : Mem) : Prop := j_X6_isIn_18 post M (0 : Int32)
def q_X6_isIn (M : Mem) (x0 : Int64) (x2 : Int64) (x4 : Int64) (post : Int32 → Mem → Prop) : Prop := ((lg_cmp x0 x2) < 0 → (j_X6_isIn_17 post M)) ∧ (¬ ((lg_cmp x0 x2) < 0) → ((0 < (lg_cmp x0 x4) → (j_X6_isIn_17 post M)) ∧ (¬ (0 < (lg_cmp x0 x4)) → (j_X6_isIn_18 post M (1 : Int32)))))
set_option maxHeartbeats 4000000 in
set_option maxRecDepth 100000 in
theorem t_X6_isIn_18 (C : Cx G p s m args meth c RX6 cX6_isIn 6 (some .boolean)) {post : Int32 → Mem → Prop} (M : Mem) (y0 : Int32) {H : Heap} {locs : List Loc} {ls : Array Slot} (w : Wd G s M H locs) (hl : lv_has ls 6 []) (h : j_X6_isIn_18 post M y0) : W p l e (rmk 1) s m args below meth c H locs 0 0 (MQ below (va_Qi post (Qw G) (Af G s.heap.size)) args s 0 0 (Af G s.heap.size)) (F0 m 18 ls [.int y0]) := by
  have hx := C.1.1
  have hb := C.1.2.1
  unfold j_X6_isIn_18 at h
  exact ret_z C w h dX6_isIn_18
set_option maxHeartbeats 4000000 in
set_option maxRecDepth 100000 in
theorem t_X6_isIn_17 (C : Cx G p s m args meth c RX6 cX6_isIn 6 (some .boolean)) {post : Int32 → Mem → Prop} (M : Mem) {H : Heap} {locs : List Loc} {ls : Array Slot} (w : Wd G s M H locs) (hl : lv_has ls 6 []) (h : j_X6_isIn_17 post M) : W p l e (rmk 1) s m args below meth c H locs 0 0 (MQ below (va_Qi post (Qw G) (Af G s.heap.size)) args s 0 0 (Af G s.heap.size)) (F0 m 17 ls []) := by
  have hx := C.1.1
  have hb := C.1.2.1
  unfold j_X6_isIn_17 at h
  refine lv_iconst (v := 0) hx hb dX6_isIn_17 (by decide) ?_
  exact t_X6_isIn_18 C M (0 : Int32)  w (lv_sub hl [] rfl) h
set_option maxHeartbeats 4000000 in
set_option maxRecDepth 100000 in
theorem c_X6_isIn (l : Launch) (G : GG) (hG : Ag G) (sz : Nat) (M : Mem) (x0 : Int64) (x2 : Int64) (x4 : Int64) (post : Int32 → Mem → Prop) (h : q_X6_isIn M x0 x2 x4 post) : Met l yX6_isIn (Cond.code yX6_isIn cX6_isIn 6 (some .boolean) :: wsL_law) (rmk 1) (va_Pc [.long x0, .long x2, .long x4] (Pw G sz M)) (va_Qi post (Qw G) (Af G sz)) 0 0 (Af G sz) := by
  refine Met.ofW (cc := cX6_isIn) (maxL := 6) (ret := (some .boolean)) (by decide) rfl ?_
  intro p e s m args below meth c s₁ B hml hv
  obtain ⟨rfl, hsz, hE, hP⟩ := hv
  subst hsz
  have C := Cx.of (own := RX6) hG hE rfl hml B
  have w : Wd G s M s.heap [] := ⟨hP, va_S.rf⟩
  have hl := lv_entry [.long x0, .long x2, .long x4] (n := 6) (Nat.le_of_ble_eq_true rfl)
  rw [lg_entry_eq]
  generalize (lg_sl [.long x0, .long x2, .long x4] ++ List.replicate (6 - (lg_sl [.long x0, .long x2, .long x4]).length) Slot.unset).toArray = ls at hl ⊢
  have hl : lv_has ls 6 [(0, .long x0), (2, .long x2), (4, .long x4)] := hl
  have hx := C.1.1
  have hb := C.1.2.1
  show W p l e (rmk 1) s m _ below meth c s.heap [] 0 0 _ _
  unfold q_X6_isIn at h
  refine lv_lload_n hx hb dX6_isIn_0 rfl (lv_at hl 0 rfl) ?_
  refine lv_lload_n hx hb dX6_isIn_1 rfl (lv_at hl 1 rfl) ?_
  refine W.lcmp hx hb dX6_isIn_2 ?_
  refine lv_if_lt (tgt := 17) hx hb dX6_isIn_3 (by decide) (fun c1 => ?_) (fun c1 => ?_)
  · replace h := h.1 c1
    exact t_X6_isIn_17 C M   w (lv_sub hl [] rfl) h
  replace h := h.2 c1
  refine lv_lload_n hx hb dX6_isIn_6 rfl (lv_at hl 0 rfl) ?_
  refine lv_lload hx hb dX6_isIn_7 (lv_at hl 2 rfl) ?_
  refine W.lcmp hx hb dX6_isIn_9 ?_
  refine lv_if_gt (tgt := 17) hx hb dX6_isIn_10 (by decide) (fun c2 => ?_) (fun c2 => ?_)
  · replace h := h.1 c2
    exact t_X6_isIn_17 C M   w (lv_sub hl [] rfl) h
  replace h := h.2 c2
  refine lv_iconst (v := 1) hx hb dX6_isIn_13 (by decide) ?_
  refine lv_goto (tgt := 18) hx hb dX6_isIn_14 (by decide) ?_
  exact t_X6_isIn_18 C M (1 : Int32)  w (lv_sub hl [] rfl) h
def j_X6_comes_289 (post : Int32 → Mem → Prop) (M : Mem) (y0 : Int32) (y1 : Int32) : Prop := vp_in y1 54 ∧ (∀ M2 : Mem, M2 = (mup M 60 y1.toNatClampNeg y0) → (post (1 : Int32) M2))
def b_X6_comes_243 (k243 : Mem → Int32 → Prop) (post : Int32 → Mem → Prop) (M : Mem) (x3 : Int32) : Prop := ((3 : Int32) ≤ x3 → (post (1 : Int32) M)) ∧ (¬ ((3 : Int32) ≤ x3) → (vp_in x3 3 ∧ (vp_in ((9 : Int32) + x3) 54 ∧ (∀ M6 : Mem, M6 = (mup M 60 ((9 : Int32) + x3).toNatClampNeg (M 68 x3.toNatClampNeg)) → (k243 M6 (x3 + (1 : Int32)))))))
def lp_X6_comes_243 (post : Int32 → Mem → Prop) : Nat → Mem → Int32 → Prop
  | 0 => fun _ _ => False
  | n + 1 => fun M x3 => b_X6_comes_243 (lp_X6_comes_243 post n) post M x3
def j_X6_comes_240 (post : Int32 → Mem → Prop) (M : Mem) (y0 : Int32) : Prop := (y0 = 0 ∨ y0 = 1) ∧ post y0 M
def j_X6_comes_188 (post : Int32 → Mem → Prop) (M : Mem) : Prop := post (0 : Int32) M
def j_X6_comes_144 (k112 : Mem → Int32 → Int32 → Prop) (post : Int32 → Mem → Prop) (M : Mem) (y0 : Int32) (y1 : Int32) (x3 : Int32) (x4 : Int32) : Prop := vp_in y1 54 ∧ (∀ M8 : Mem, M8 = (mup M 60 y1.toNatClampNeg y0) → (k112 M8 x3 (x4 + (1 : Int32))))
def b_X6_comes_112 (k112 : Mem → Int32 → Int32 → Prop) (post : Int32 → Mem → Prop) (M : Mem) (x3 : Int32) (x4 : Int32) : Prop := ((6 : Int32) ≤ x4 → (∀ M10 : Mem, M10 = (mup M 60 0 ((M 60 0) + (1 : Int32))) → (post (1 : Int32) M10))) ∧ (¬ ((6 : Int32) ≤ x4) → (((3 : Int32) ≤ x4 → (j_X6_comes_144 k112 post M (0 : Int32) (x3 + x4) x3 x4)) ∧ (¬ ((3 : Int32) ≤ x4) → (vp_in x4 3 ∧ (j_X6_comes_144 k112 post M (M 68 x4.toNatClampNeg) (x3 + x4) x3 x4)))))
def lp_X6_comes_112 (post : Int32 → Mem → Prop) : Nat → Mem → Int32 → Int32 → Prop
  | 0 => fun _ _ _ => False
  | n + 1 => fun M x3 x4 => b_X6_comes_112 (lp_X6_comes_112 post n) post M x3 x4
def j_X6_comes_94 (post : Int32 → Mem → Prop) (M : Mem) : Prop := post (0 : Int32) M
def q_X6_comes (M : Mem) (x1 : Int32) (post : Int32 → Mem → Prop) : Prop := (x1 = (100 : Int32) → (∀ M14 : Mem, M14 = (mup M 60 8 (M 68 0)) → (((M 68 0) < (1 : Int32) → (j_X6_comes_240 post M14 (0 : Int32))) ∧ (¬ ((M 68 0) < (1 : Int32)) → (j_X6_comes_240 post M14 (1 : Int32)))))) ∧ (¬ x1 = (100 : Int32) → ((x1 = (112 : Int32) → (((7 : Int32) < (M 68 0) → (j_X6_comes_94 post M)) ∧ (¬ ((7 : Int32) < (M 68 0)) → (q_X6_isIn M ((M 68 2).toInt64) (1 : Int64) (99 : Int64) (fun r18 M19 => (r18 = 0 → (j_X6_comes_94 post M19)) ∧ (¬ (r18 = 0) → (((M19 60 0) = (6 : Int32) → (j_X6_comes_94 post M19)) ∧ (¬ ((M19 60 0) = (6 : Int32)) → (∀ v22 : Int32, v22 = ((12 : Int32) + ((6 : Int32) * (M19 60 0))) → (∃ n, lp_X6_comes_112 post n M19 v22 (0 : Int32))))))))))) ∧ (¬ x1 = (112 : Int32) → ((x1 = (115 : Int32) → (((60 : Int32) < (M 68 0) → (j_X6_comes_188 post M)) ∧ (¬ ((60 : Int32) < (M 68 0)) → (q_X6_isIn M ((M 68 1).toInt64) (4 : Int64) (40 : Int64) (fun r25 M26 => (r25 = 0 → (j_X6_comes_188 post M26)) ∧ (¬ (r25 = 0) → (∀ M28 : Mem, M28 = (mup M26 60 5 (M 68 0)) → (∀ M29 : Mem, M29 = (mup M28 60 6 (M28 68 1)) → (post (1 : Int32) M29))))))))) ∧ (¬ x1 = (115 : Int32) → ((x1 = (118 : Int32) → (∀ M31 : Mem, M31 = (mup M 60 7 (M 68 0)) → (post (1 : Int32) M31))) ∧ (¬ x1 = (118 : Int32) → ((x1 = (121 : Int32) → (∃ n, lp_X6_comes_243 post n M (0 : Int32))) ∧ (¬ x1 = (121 : Int32) → (((M 57 16) = 0 → (j_X6_comes_289 post M (M 68 0) (3 : Int32))) ∧ (¬ ((M 57 16) = 0) → (j_X6_comes_289 post M (-(M 68 0)) (3 : Int32)))))))))))))
set_option maxHeartbeats 4000000 in
set_option maxRecDepth 100000 in
theorem t_X6_comes_289 (C : Cx G p s m args meth c RX6 cX6_comes 5 (some .boolean)) {post : Int32 → Mem → Prop} (M : Mem) (y0 : Int32) (y1 : Int32) {H : Heap} {locs : List Loc} {ls : Array Slot} (w : Wd G s M H locs) (hl : lv_has ls 5 []) (h : j_X6_comes_289 post M y0 y1) : W p l e (rmk 2) s m args below meth c H locs 0 0 (MQ below (va_Qi post (Qw G) (Af G s.heap.size)) args s 0 0 (Af G s.heap.size)) (F0 m 289 ls [.int y0, .int y1, .ref (ga G 60)]) := by
  have hx := C.1.1
  have hb := C.1.2.1
  unfold j_X6_comes_289 at h
  have hin1 := h.1
  replace h := h.2
  have hz_hin1 := in_lt hin1
  refine pw_st C w (i := 60) (by decide) (fun _ => pE_60) hin1 rfl dX6_comes_289 (fun H locs w => ?_)
  obtain ⟨M2, eM2⟩ : ∃ z : Mem, z = (mup M 60 y1.toNatClampNeg y0) := ⟨_, rfl⟩
  replace w : Wd G s M2 H locs := by rw [eM2]; exact w
  replace h := h M2 eM2
  refine lv_iconst (v := 1) hx hb dX6_comes_290 (by decide) ?_
  exact ret_z C w ⟨Or.inr rfl, h⟩ dX6_comes_291
set_option maxHeartbeats 4000000 in
set_option maxRecDepth 100000 in
theorem t_X6_comes_243 (C : Cx G p s m args meth c RX6 cX6_comes 5 (some .boolean)) {post : Int32 → Mem → Prop} : ∀ (n : Nat) (M : Mem) (x3 : Int32) {H : Heap} {locs : List Loc} {ls : Array Slot} (w : Wd G s M H locs) (hl : lv_has ls 5 [(0, .ref (ga G 57)), (3, .int x3)]) (h : lp_X6_comes_243 post n M x3), W p l e (rmk 2) s m args below meth c H locs 0 0 (MQ below (va_Qi post (Qw G) (Af G s.heap.size)) args s 0 0 (Af G s.heap.size)) (F0 m 243 ls []) := by
  have hx := C.1.1
  have hb := C.1.2.1
  intro n9
  induction n9 with
  | zero => intro M x3 H locs ls w hl h; exact absurd h id
  | succ n9 ih9 =>
    intro M x3 H locs ls w hl h
    have hk243 : ∀ (M : Mem) (x3 : Int32) (H : Heap) (locs : List Loc) (ls : Array Slot), Wd G s M H locs → lv_has ls 5 [(0, .ref (ga G 57)), (3, .int x3)] → lp_X6_comes_243 post n9 M x3 → W p l e (rmk 2) s m args below meth c H locs 0 0 (MQ below (va_Qi post (Qw G) (Af G s.heap.size)) args s 0 0 (Af G s.heap.size)) (F0 m 243 ls []) := fun M x3 H locs ls w hl h => ih9 M x3 w hl h
    replace h : b_X6_comes_243 (lp_X6_comes_243 post n9) post M x3 := h
    unfold b_X6_comes_243 at h
    refine lv_iload_n hx hb dX6_comes_243 rfl (lv_at hl 1 rfl) ?_
    refine lv_iconst (v := 3) hx hb dX6_comes_244 (by decide) ?_
    refine lv_icmp_ge (tgt := 269) hx hb dX6_comes_245 (by decide) (fun c3 => ?_) (fun c3 => ?_)
    · replace h := h.1 c3
      refine lv_iconst (v := 1) hx hb dX6_comes_269 (by decide) ?_
      exact ret_z C w ⟨Or.inr rfl, h⟩ dX6_comes_270
    replace h := h.2 c3
    refine lv_aload_n hx hb dX6_comes_248 rfl (lv_at hl 0 rfl) ?_
    refine gt_6_2 C w kw_5_2 dX6_comes_249 ?_
    refine lv_bipush (v := 9) hx hb dX6_comes_252 (by decide) ?_
    refine lv_iload_n hx hb dX6_comes_254 rfl (lv_at hl 1 rfl) ?_
    refine lv_iadd hx hb dX6_comes_255 ?_
    refine lv_aload_n hx hb dX6_comes_256 rfl (lv_at hl 0 rfl) ?_
    refine gt_6_17 C w kw_5_10 dX6_comes_257 ?_
    refine lv_iload_n hx hb dX6_comes_260 rfl (lv_at hl 1 rfl) ?_
    have hin4 := h.1
    replace h := h.2
    have hz_hin4 := in_lt hin4
    refine pw_ld C w (i := 68) (by decide) pE_68 hin4 rfl dX6_comes_261 ?_
    have hin5 := h.1
    replace h := h.2
    have hz_hin5 := in_lt hin5
    refine pw_st C w (i := 60) (by decide) (fun _ => pE_60) hin5 rfl dX6_comes_262 (fun H locs w => ?_)
    obtain ⟨M6, eM6⟩ : ∃ z : Mem, z = (mup M 60 ((9 : Int32) + x3).toNatClampNeg (M 68 x3.toNatClampNeg)) := ⟨_, rfl⟩
    replace w : Wd G s M6 H locs := by rw [eM6]; exact w
    replace h := h M6 eM6
    refine lv_iinc (v := (x3 + (1 : Int32))) (lv' := [(3, .int (x3 + (1 : Int32))), (0, .ref (ga G 57))]) hx hb dX6_comes_263 hl (k := 1) rfl rfl (by decide) rfl (fun ls hl => ?_)
    refine lv_goto (tgt := 243) hx hb dX6_comes_266 (by decide) ?_
    exact hk243 M6 (x3 + (1 : Int32)) _ _ _  w (lv_sub hl [1, 0] rfl) h
set_option maxHeartbeats 4000000 in
set_option maxRecDepth 100000 in
theorem t_X6_comes_240 (C : Cx G p s m args meth c RX6 cX6_comes 5 (some .boolean)) {post : Int32 → Mem → Prop} (M : Mem) (y0 : Int32) {H : Heap} {locs : List Loc} {ls : Array Slot} (w : Wd G s M H locs) (hl : lv_has ls 5 []) (h : j_X6_comes_240 post M y0) : W p l e (rmk 2) s m args below meth c H locs 0 0 (MQ below (va_Qi post (Qw G) (Af G s.heap.size)) args s 0 0 (Af G s.heap.size)) (F0 m 240 ls [.int y0]) := by
  have hx := C.1.1
  have hb := C.1.2.1
  unfold j_X6_comes_240 at h
  exact ret_z C w h dX6_comes_240
set_option maxHeartbeats 4000000 in
set_option maxRecDepth 100000 in
theorem t_X6_comes_188 (C : Cx G p s m args meth c RX6 cX6_comes 5 (some .boolean)) {post : Int32 → Mem → Prop} (M : Mem) {H : Heap} {locs : List Loc} {ls : Array Slot} (w : Wd G s M H locs) (hl : lv_has ls 5 []) (h : j_X6_comes_188 post M) : W p l e (rmk 2) s m args below meth c H locs 0 0 (MQ below (va_Qi post (Qw G) (Af G s.heap.size)) args s 0 0 (Af G s.heap.size)) (F0 m 188 ls []) := by
  have hx := C.1.1
  have hb := C.1.2.1
  unfold j_X6_comes_188 at h
  refine lv_iconst (v := 0) hx hb dX6_comes_188 (by decide) ?_
  exact ret_z C w ⟨Or.inl rfl, h⟩ dX6_comes_189
set_option maxHeartbeats 4000000 in
set_option maxRecDepth 100000 in
theorem t_X6_comes_144 (C : Cx G p s m args meth c RX6 cX6_comes 5 (some .boolean)) {post : Int32 → Mem → Prop} {k112 : Mem → Int32 → Int32 → Prop} (hk112 : ∀ (M : Mem) (x3 : Int32) (x4 : Int32) (H : Heap) (locs : List Loc) (ls : Array Slot), Wd G s M H locs → lv_has ls 5 [(0, .ref (ga G 57)), (3, .int x3), (4, .int x4)] → k112 M x3 x4 → W p l e (rmk 2) s m args below meth c H locs 0 0 (MQ below (va_Qi post (Qw G) (Af G s.heap.size)) args s 0 0 (Af G s.heap.size)) (F0 m 112 ls [])) (M : Mem) (y0 : Int32) (y1 : Int32) (x3 : Int32) (x4 : Int32) {H : Heap} {locs : List Loc} {ls : Array Slot} (w : Wd G s M H locs) (hl : lv_has ls 5 [(0, .ref (ga G 57)), (3, .int x3), (4, .int x4)]) (h : j_X6_comes_144 k112 post M y0 y1 x3 x4) : W p l e (rmk 2) s m args below meth c H locs 0 0 (MQ below (va_Qi post (Qw G) (Af G s.heap.size)) args s 0 0 (Af G s.heap.size)) (F0 m 144 ls [.int y0, .int y1, .ref (ga G 60)]) := by
  have hx := C.1.1
  have hb := C.1.2.1
  unfold j_X6_comes_144 at h
  have hin7 := h.1
  replace h := h.2
  have hz_hin7 := in_lt hin7
  refine pw_st C w (i := 60) (by decide) (fun _ => pE_60) hin7 rfl dX6_comes_144 (fun H locs w => ?_)
  obtain ⟨M8, eM8⟩ : ∃ z : Mem, z = (mup M 60 y1.toNatClampNeg y0) := ⟨_, rfl⟩
  replace w : Wd G s M8 H locs := by rw [eM8]; exact w
  replace h := h M8 eM8
  refine lv_iinc (v := (x4 + (1 : Int32))) (lv' := [(4, .int (x4 + (1 : Int32))), (0, .ref (ga G 57)), (3, .int x3)]) hx hb dX6_comes_145 hl (k := 2) rfl rfl (by decide) rfl (fun ls hl => ?_)
  refine lv_goto (tgt := 112) hx hb dX6_comes_148 (by decide) ?_
  exact hk112 M8 x3 (x4 + (1 : Int32)) _ _ _  w (lv_sub hl [1, 2, 0] rfl) h
set_option maxHeartbeats 4000000 in
set_option maxRecDepth 100000 in
theorem t_X6_comes_112 (C : Cx G p s m args meth c RX6 cX6_comes 5 (some .boolean)) {post : Int32 → Mem → Prop} : ∀ (n : Nat) (M : Mem) (x3 : Int32) (x4 : Int32) {H : Heap} {locs : List Loc} {ls : Array Slot} (w : Wd G s M H locs) (hl : lv_has ls 5 [(0, .ref (ga G 57)), (3, .int x3), (4, .int x4)]) (h : lp_X6_comes_112 post n M x3 x4), W p l e (rmk 2) s m args below meth c H locs 0 0 (MQ below (va_Qi post (Qw G) (Af G s.heap.size)) args s 0 0 (Af G s.heap.size)) (F0 m 112 ls []) := by
  have hx := C.1.1
  have hb := C.1.2.1
  intro n9
  induction n9 with
  | zero => intro M x3 x4 H locs ls w hl h; exact absurd h id
  | succ n9 ih9 =>
    intro M x3 x4 H locs ls w hl h
    have hk112 : ∀ (M : Mem) (x3 : Int32) (x4 : Int32) (H : Heap) (locs : List Loc) (ls : Array Slot), Wd G s M H locs → lv_has ls 5 [(0, .ref (ga G 57)), (3, .int x3), (4, .int x4)] → lp_X6_comes_112 post n9 M x3 x4 → W p l e (rmk 2) s m args below meth c H locs 0 0 (MQ below (va_Qi post (Qw G) (Af G s.heap.size)) args s 0 0 (Af G s.heap.size)) (F0 m 112 ls []) := fun M x3 x4 H locs ls w hl h => ih9 M x3 x4 w hl h
    replace h : b_X6_comes_112 (lp_X6_comes_112 post n9) post M x3 x4 := h
    unfold b_X6_comes_112 at h
    refine lv_iload hx hb dX6_comes_112 (lv_at hl 2 rfl) ?_
    refine lv_bipush (v := 6) hx hb dX6_comes_114 (by decide) ?_
    refine lv_icmp_ge (tgt := 151) hx hb dX6_comes_116 (by decide) (fun c9 => ?_) (fun c9 => ?_)
    · replace h := h.1 c9
      refine lv_aload_n hx hb dX6_comes_151 rfl (lv_at hl 0 rfl) ?_
      refine gt_6_2 C w kw_5_2 dX6_comes_152 ?_
      refine lv_iconst (v := 0) hx hb dX6_comes_155 (by decide) ?_
      refine lv_dup2_11 hx hb dX6_comes_156 rfl rfl ?_
      refine pw_ld C w (i := 60) (by decide) pE_60 (vl (x := (0 : Int32)) (by decide)) (k := 0) (by decide) dX6_comes_157 ?_
      refine lv_iconst (v := 1) hx hb dX6_comes_158 (by decide) ?_
      refine lv_iadd hx hb dX6_comes_159 ?_
      refine pw_st C w (i := 60) (by decide) (fun _ => pE_60) (vl (x := (0 : Int32)) (by decide)) (k := 0) (by decide) dX6_comes_160 (fun H locs w => ?_)
      obtain ⟨M10, eM10⟩ : ∃ z : Mem, z = (mup M 60 0 ((M 60 0) + (1 : Int32))) := ⟨_, rfl⟩
      replace w : Wd G s M10 H locs := by rw [eM10]; exact w
      replace h := h M10 eM10
      refine lv_iconst (v := 1) hx hb dX6_comes_161 (by decide) ?_
      exact ret_z C w ⟨Or.inr rfl, h⟩ dX6_comes_162
    replace h := h.2 c9
    refine lv_aload_n hx hb dX6_comes_119 rfl (lv_at hl 0 rfl) ?_
    refine gt_6_2 C w kw_5_2 dX6_comes_120 ?_
    refine lv_iload_n hx hb dX6_comes_123 rfl (lv_at hl 1 rfl) ?_
    refine lv_iload hx hb dX6_comes_124 (lv_at hl 2 rfl) ?_
    refine lv_iadd hx hb dX6_comes_126 ?_
    refine lv_iload hx hb dX6_comes_127 (lv_at hl 2 rfl) ?_
    refine lv_iconst (v := 3) hx hb dX6_comes_129 (by decide) ?_
    refine lv_icmp_ge (tgt := 143) hx hb dX6_comes_130 (by decide) (fun c11 => ?_) (fun c11 => ?_)
    · replace h := h.1 c11
      refine lv_iconst (v := 0) hx hb dX6_comes_143 (by decide) ?_
      exact t_X6_comes_144 C hk112 M (0 : Int32) (x3 + x4) x3 x4  w (lv_sub hl [0, 1, 2] rfl) h
    replace h := h.2 c11
    refine lv_aload_n hx hb dX6_comes_133 rfl (lv_at hl 0 rfl) ?_
    refine gt_6_17 C w kw_5_10 dX6_comes_134 ?_
    refine lv_iload hx hb dX6_comes_137 (lv_at hl 2 rfl) ?_
    have hin12 := h.1
    replace h := h.2
    have hz_hin12 := in_lt hin12
    refine pw_ld C w (i := 68) (by decide) pE_68 hin12 rfl dX6_comes_139 ?_
    refine lv_goto (tgt := 144) hx hb dX6_comes_140 (by decide) ?_
    exact t_X6_comes_144 C hk112 M (M 68 x4.toNatClampNeg) (x3 + x4) x3 x4  w (lv_sub hl [0, 1, 2] rfl) h
set_option maxHeartbeats 4000000 in
set_option maxRecDepth 100000 in
theorem t_X6_comes_94 (C : Cx G p s m args meth c RX6 cX6_comes 5 (some .boolean)) {post : Int32 → Mem → Prop} (M : Mem) {H : Heap} {locs : List Loc} {ls : Array Slot} (w : Wd G s M H locs) (hl : lv_has ls 5 []) (h : j_X6_comes_94 post M) : W p l e (rmk 2) s m args below meth c H locs 0 0 (MQ below (va_Qi post (Qw G) (Af G s.heap.size)) args s 0 0 (Af G s.heap.size)) (F0 m 94 ls []) := by
  have hx := C.1.1
  have hb := C.1.2.1
  unfold j_X6_comes_94 at h
  refine lv_iconst (v := 0) hx hb dX6_comes_94 (by decide) ?_
  exact ret_z C w ⟨Or.inl rfl, h⟩ dX6_comes_95
set_option maxHeartbeats 4000000 in
set_option maxRecDepth 100000 in
theorem c_X6_comes (l : Launch) (G : GG) (hG : Ag G) (sz : Nat) (M : Mem) (x1 : Int32) (post : Int32 → Mem → Prop) (h : q_X6_comes M x1 post) : Met l yX6_comes (Cond.code yX6_comes cX6_comes 5 (some .boolean) :: wsL_law) (rmk 2) (va_Pc [.ref (ga G 57), .int x1] (Pw G sz M)) (va_Qi post (Qw G) (Af G sz)) 0 0 (Af G sz) := by
  refine Met.ofW (cc := cX6_comes) (maxL := 5) (ret := (some .boolean)) (by decide) rfl ?_
  intro p e s m args below meth c s₁ B hml hv
  obtain ⟨rfl, hsz, hE, hP⟩ := hv
  subst hsz
  have C := Cx.of (own := RX6) hG hE rfl hml B
  have w : Wd G s M s.heap [] := ⟨hP, va_S.rf⟩
  have hl := lv_entry [.ref (ga G 57), .int x1] (n := 5) (Nat.le_of_ble_eq_true rfl)
  rw [lg_entry_eq]
  generalize (lg_sl [.ref (ga G 57), .int x1] ++ List.replicate (5 - (lg_sl [.ref (ga G 57), .int x1]).length) Slot.unset).toArray = ls at hl ⊢
  have hl : lv_has ls 5 [(0, .ref (ga G 57)), (1, .int x1)] := hl
  have hx := C.1.1
  have hb := C.1.2.1
  show W p l e (rmk 2) s m _ below meth c s.heap [] 0 0 _ _
  unfold q_X6_comes at h
  refine lv_aload_n hx hb dX6_comes_0 rfl (lv_at hl 0 rfl) ?_
  refine gt_6_17 C w kw_5_10 dX6_comes_1 ?_
  refine lv_iconst (v := 0) hx hb dX6_comes_4 (by decide) ?_
  refine pw_ld C w (i := 68) (by decide) pE_68 (vl (x := (0 : Int32)) (by decide)) (k := 0) (by decide) dX6_comes_5 ?_
  refine lv_istore_n (lv' := [(2, .int (M 68 0)), (0, .ref (ga G 57)), (1, .int x1)]) hx hb dX6_comes_6 rfl hl (by decide) rfl (fun ls hl => ?_)
  refine lv_iload_n hx hb dX6_comes_7 rfl (lv_at hl 2 rfl) ?_
  by_cases c13 : x1 = (100 : Int32)
  · replace h := h.1 c13
    refine lv_lookup (off := 214) (tgt := 222) hx hb dX6_comes_8 (by decide) (by rw [c13]; decide) (by decide) ?_
    refine lv_aload_n hx hb dX6_comes_222 rfl (lv_at hl 1 rfl) ?_
    refine gt_6_2 C w kw_5_2 dX6_comes_223 ?_
    refine lv_bipush (v := 8) hx hb dX6_comes_226 (by decide) ?_
    refine lv_iload_n hx hb dX6_comes_228 rfl (lv_at hl 0 rfl) ?_
    refine pw_st C w (i := 60) (by decide) (fun _ => pE_60) (vl (x := (8 : Int32)) (by decide)) (k := 8) (by decide) dX6_comes_229 (fun H locs w => ?_)
    obtain ⟨M14, eM14⟩ : ∃ z : Mem, z = (mup M 60 8 (M 68 0)) := ⟨_, rfl⟩
    replace w : Wd G s M14 H locs := by rw [eM14]; exact w
    replace h := h M14 eM14
    refine lv_iload_n hx hb dX6_comes_230 rfl (lv_at hl 0 rfl) ?_
    refine lv_iconst (v := 1) hx hb dX6_comes_231 (by decide) ?_
    refine lv_icmp_lt (tgt := 239) hx hb dX6_comes_232 (by decide) (fun c15 => ?_) (fun c15 => ?_)
    · replace h := h.1 c15
      refine lv_iconst (v := 0) hx hb dX6_comes_239 (by decide) ?_
      exact t_X6_comes_240 C M14 (0 : Int32)  w (lv_sub hl [] rfl) h
    replace h := h.2 c15
    refine lv_iconst (v := 1) hx hb dX6_comes_235 (by decide) ?_
    refine lv_goto (tgt := 240) hx hb dX6_comes_236 (by decide) ?_
    exact t_X6_comes_240 C M14 (1 : Int32)  w (lv_sub hl [] rfl) h
  replace h := h.2 c13
  by_cases c16 : x1 = (112 : Int32)
  · replace h := h.1 c16
    refine lv_lookup (off := 52) (tgt := 60) hx hb dX6_comes_8 (by decide) (by rw [c16]; decide) (by decide) ?_
    refine lv_iload_n hx hb dX6_comes_60 rfl (lv_at hl 0 rfl) ?_
    refine lv_bipush (v := 7) hx hb dX6_comes_61 (by decide) ?_
    refine lv_icmp_gt (tgt := 94) hx hb dX6_comes_63 (by decide) (fun c17 => ?_) (fun c17 => ?_)
    · replace h := h.1 c17
      exact t_X6_comes_94 C M   w (lv_sub hl [] rfl) h
    replace h := h.2 c17
    refine lv_aload_n hx hb dX6_comes_66 rfl (lv_at hl 1 rfl) ?_
    refine gt_6_17 C w kw_5_10 dX6_comes_67 ?_
    refine lv_iconst (v := 2) hx hb dX6_comes_70 (by decide) ?_
    refine pw_ld C w (i := 68) (by decide) pE_68 (vl (x := (2 : Int32)) (by decide)) (k := 2) (by decide) dX6_comes_71 ?_
    refine lv_i2l hx hb dX6_comes_72 rfl ?_
    refine lv_lconst (v := 1) hx hb dX6_comes_73 (by decide) ?_
    refine lv_ldc2 hx hb C.1.2.2.2.1 (C.ws kw_13_13) dX6_comes_74 ?_
    refine end_i w (run_S (As := [.long (M 68 2).toInt64, .long (1 : Int64), .long (99 : Int64)]) C w hl.1 (c_X6_isIn l G C.2.2.1 _ _ ((M 68 2).toInt64) (1 : Int64) (99 : Int64)  _ h) kw_12_5 kw_1_5 kw_12_3 kw_12_4 hd_X6_isIn ⟨by decide, by decide⟩ rfl (Nat.le_of_ble_eq_true rfl) dX6_comes_77) (fun r18 M19 H locs h w => ?_)
    refine lv_if_eq (tgt := 94) hx hb dX6_comes_80 (by decide) (fun c20 => ?_) (fun c20 => ?_)
    · replace h := h.1 c20
      exact t_X6_comes_94 C M19   w (lv_sub hl [] rfl) h
    replace h := h.2 c20
    refine lv_aload_n hx hb dX6_comes_83 rfl (lv_at hl 1 rfl) ?_
    refine gt_6_2 C w kw_5_2 dX6_comes_84 ?_
    refine lv_iconst (v := 0) hx hb dX6_comes_87 (by decide) ?_
    refine pw_ld C w (i := 60) (by decide) pE_60 (vl (x := (0 : Int32)) (by decide)) (k := 0) (by decide) dX6_comes_88 ?_
    refine lv_bipush (v := 6) hx hb dX6_comes_89 (by decide) ?_
    refine lv_icmp_ne (tgt := 96) hx hb dX6_comes_91 (by decide) (fun c21 => ?_) (fun c21 => ?_)
    · replace h := h.2 c21
      refine lv_bipush (v := 12) hx hb dX6_comes_96 (by decide) ?_
      refine lv_bipush (v := 6) hx hb dX6_comes_98 (by decide) ?_
      refine lv_aload_n hx hb dX6_comes_100 rfl (lv_at hl 1 rfl) ?_
      refine gt_6_2 C w kw_5_2 dX6_comes_101 ?_
      refine lv_iconst (v := 0) hx hb dX6_comes_104 (by decide) ?_
      refine pw_ld C w (i := 60) (by decide) pE_60 (vl (x := (0 : Int32)) (by decide)) (k := 0) (by decide) dX6_comes_105 ?_
      refine lv_imul hx hb dX6_comes_106 ?_
      refine lv_iadd hx hb dX6_comes_107 ?_
      refine lv_topi (fun v22 ev22 => ?_)
      replace h := h v22 ev22
      refine lv_istore_n (lv' := [(3, .int v22), (2, .int (M 68 0)), (0, .ref (ga G 57)), (1, .int x1)]) hx hb dX6_comes_108 rfl hl (by decide) rfl (fun ls hl => ?_)
      refine lv_iconst (v := 0) hx hb dX6_comes_109 (by decide) ?_
      refine lv_istore (lv' := [(4, .int (0 : Int32)), (3, .int v22), (2, .int (M 68 0)), (0, .ref (ga G 57)), (1, .int x1)]) hx hb dX6_comes_110 hl (by decide) rfl (fun ls hl => ?_)
      obtain ⟨n, h⟩ := h
      exact t_X6_comes_112 C n M19 v22 (0 : Int32)  w (lv_sub hl [3, 1, 0] rfl) h
    replace h := h.1 c21
    exact t_X6_comes_94 C M19   w (lv_sub hl [] rfl) h
  replace h := h.2 c16
  by_cases c23 : x1 = (115 : Int32)
  · replace h := h.1 c23
    refine lv_lookup (off := 155) (tgt := 163) hx hb dX6_comes_8 (by decide) (by rw [c23]; decide) (by decide) ?_
    refine lv_iload_n hx hb dX6_comes_163 rfl (lv_at hl 0 rfl) ?_
    refine lv_bipush (v := 60) hx hb dX6_comes_164 (by decide) ?_
    refine lv_icmp_gt (tgt := 188) hx hb dX6_comes_166 (by decide) (fun c24 => ?_) (fun c24 => ?_)
    · replace h := h.1 c24
      exact t_X6_comes_188 C M   w (lv_sub hl [] rfl) h
    replace h := h.2 c24
    refine lv_aload_n hx hb dX6_comes_169 rfl (lv_at hl 1 rfl) ?_
    refine gt_6_17 C w kw_5_10 dX6_comes_170 ?_
    refine lv_iconst (v := 1) hx hb dX6_comes_173 (by decide) ?_
    refine pw_ld C w (i := 68) (by decide) pE_68 (vl (x := (1 : Int32)) (by decide)) (k := 1) (by decide) dX6_comes_174 ?_
    refine lv_i2l hx hb dX6_comes_175 rfl ?_
    refine lv_ldc2 hx hb C.1.2.2.2.1 (C.ws kw_13_14) dX6_comes_176 ?_
    refine lv_ldc2 hx hb C.1.2.2.2.1 (C.ws kw_13_15) dX6_comes_179 ?_
    refine end_i w (run_S (As := [.long (M 68 1).toInt64, .long (4 : Int64), .long (40 : Int64)]) C w hl.1 (c_X6_isIn l G C.2.2.1 _ _ ((M 68 1).toInt64) (4 : Int64) (40 : Int64)  _ h) kw_12_5 kw_1_5 kw_12_3 kw_12_4 hd_X6_isIn ⟨by decide, by decide⟩ rfl (Nat.le_of_ble_eq_true rfl) dX6_comes_182) (fun r25 M26 H locs h w => ?_)
    refine lv_if_ne (tgt := 190) hx hb dX6_comes_185 (by decide) (fun c27 => ?_) (fun c27 => ?_)
    · replace h := h.2 c27
      refine lv_aload_n hx hb dX6_comes_190 rfl (lv_at hl 1 rfl) ?_
      refine gt_6_2 C w kw_5_2 dX6_comes_191 ?_
      refine lv_iconst (v := 5) hx hb dX6_comes_194 (by decide) ?_
      refine lv_iload_n hx hb dX6_comes_195 rfl (lv_at hl 0 rfl) ?_
      refine pw_st C w (i := 60) (by decide) (fun _ => pE_60) (vl (x := (5 : Int32)) (by decide)) (k := 5) (by decide) dX6_comes_196 (fun H locs w => ?_)
      obtain ⟨M28, eM28⟩ : ∃ z : Mem, z = (mup M26 60 5 (M 68 0)) := ⟨_, rfl⟩
      replace w : Wd G s M28 H locs := by rw [eM28]; exact w
      replace h := h M28 eM28
      refine lv_aload_n hx hb dX6_comes_197 rfl (lv_at hl 1 rfl) ?_
      refine gt_6_2 C w kw_5_2 dX6_comes_198 ?_
      refine lv_bipush (v := 6) hx hb dX6_comes_201 (by decide) ?_
      refine lv_aload_n hx hb dX6_comes_203 rfl (lv_at hl 1 rfl) ?_
      refine gt_6_17 C w kw_5_10 dX6_comes_204 ?_
      refine lv_iconst (v := 1) hx hb dX6_comes_207 (by decide) ?_
      refine pw_ld C w (i := 68) (by decide) pE_68 (vl (x := (1 : Int32)) (by decide)) (k := 1) (by decide) dX6_comes_208 ?_
      refine pw_st C w (i := 60) (by decide) (fun _ => pE_60) (vl (x := (6 : Int32)) (by decide)) (k := 6) (by decide) dX6_comes_209 (fun H locs w => ?_)
      obtain ⟨M29, eM29⟩ : ∃ z : Mem, z = (mup M28 60 6 (M28 68 1)) := ⟨_, rfl⟩
      replace w : Wd G s M29 H locs := by rw [eM29]; exact w
      replace h := h M29 eM29
      refine lv_iconst (v := 1) hx hb dX6_comes_210 (by decide) ?_
      exact ret_z C w ⟨Or.inr rfl, h⟩ dX6_comes_211
    replace h := h.1 c27
    exact t_X6_comes_188 C M26   w (lv_sub hl [] rfl) h
  replace h := h.2 c23
  by_cases c30 : x1 = (118 : Int32)
  · replace h := h.1 c30
    refine lv_lookup (off := 204) (tgt := 212) hx hb dX6_comes_8 (by decide) (by rw [c30]; decide) (by decide) ?_
    refine lv_aload_n hx hb dX6_comes_212 rfl (lv_at hl 1 rfl) ?_
    refine gt_6_2 C w kw_5_2 dX6_comes_213 ?_
    refine lv_bipush (v := 7) hx hb dX6_comes_216 (by decide) ?_
    refine lv_iload_n hx hb dX6_comes_218 rfl (lv_at hl 0 rfl) ?_
    refine pw_st C w (i := 60) (by decide) (fun _ => pE_60) (vl (x := (7 : Int32)) (by decide)) (k := 7) (by decide) dX6_comes_219 (fun H locs w => ?_)
    obtain ⟨M31, eM31⟩ : ∃ z : Mem, z = (mup M 60 7 (M 68 0)) := ⟨_, rfl⟩
    replace w : Wd G s M31 H locs := by rw [eM31]; exact w
    replace h := h M31 eM31
    refine lv_iconst (v := 1) hx hb dX6_comes_220 (by decide) ?_
    exact ret_z C w ⟨Or.inr rfl, h⟩ dX6_comes_221
  replace h := h.2 c30
  by_cases c32 : x1 = (121 : Int32)
  · replace h := h.1 c32
    refine lv_lookup (off := 233) (tgt := 241) hx hb dX6_comes_8 (by decide) (by rw [c32]; decide) (by decide) ?_
    refine lv_iconst (v := 0) hx hb dX6_comes_241 (by decide) ?_
    refine lv_istore_n (lv' := [(3, .int (0 : Int32)), (2, .int (M 68 0)), (0, .ref (ga G 57)), (1, .int x1)]) hx hb dX6_comes_242 rfl hl (by decide) rfl (fun ls hl => ?_)
    obtain ⟨n, h⟩ := h
    exact t_X6_comes_243 C n M (0 : Int32)  w (lv_sub hl [2, 0] rfl) h
  replace h := h.2 c32
  refine lv_lookup (off := 263) (tgt := 271) hx hb dX6_comes_8 (by decide) ((lv_osw c13 (by decide)).trans ((lv_osw c16 (by decide)).trans ((lv_osw c23 (by decide)).trans ((lv_osw c30 (by decide)).trans ((lv_osw c32 (by decide)).trans rfl))))) (by decide) ?_
  refine lv_aload_n hx hb dX6_comes_271 rfl (lv_at hl 1 rfl) ?_
  refine gt_6_2 C w kw_5_2 dX6_comes_272 ?_
  refine lv_iconst (v := 3) hx hb dX6_comes_275 (by decide) ?_
  refine lv_aload_n hx hb dX6_comes_276 rfl (lv_at hl 1 rfl) ?_
  refine gt_6_16 C w kw_12_11 dX6_comes_277 ?_
  refine lv_if_eq (tgt := 288) hx hb dX6_comes_280 (by decide) (fun c33 => ?_) (fun c33 => ?_)
  · replace h := h.1 c33
    refine lv_iload_n hx hb dX6_comes_288 rfl (lv_at hl 0 rfl) ?_
    exact t_X6_comes_289 C M (M 68 0) (3 : Int32)  w (lv_sub hl [] rfl) h
  replace h := h.2 c33
  refine lv_iload_n hx hb dX6_comes_283 rfl (lv_at hl 0 rfl) ?_
  refine lv_ineg hx hb dX6_comes_284 ?_
  refine lv_goto (tgt := 289) hx hb dX6_comes_285 (by decide) ?_
  exact t_X6_comes_289 C M (-(M 68 0)) (3 : Int32)  w (lv_sub hl [] rfl) h
def b_X6_copies_2 (k2 : Mem → Nat → Nat → Int32 → Prop) (post : Mem → Prop) (M : Mem) (a0 : Nat) (a1 : Nat) (x2 : Int32) : Prop := ((54 : Int32) ≤ x2 → (post M)) ∧ (¬ ((54 : Int32) ≤ x2) → (vp_in x2 54 ∧ (∀ M3 : Mem, M3 = (mup M a1 x2.toNatClampNeg (M a0 x2.toNatClampNeg)) → (k2 M3 a0 a1 (x2 + (1 : Int32))))))
def lp_X6_copies_2 (post : Mem → Prop) : Nat → Mem → Nat → Nat → Int32 → Prop
  | 0 => fun _ _ _ _ => False
  | n + 1 => fun M a0 a1 x2 => b_X6_copies_2 (lp_X6_copies_2 post n) post M a0 a1 x2
def q_X6_copies (M : Mem) (a0 : Nat) (a1 : Nat) (post : Mem → Prop) : Prop := ∃ n, lp_X6_copies_2 post n M a0 a1 (0 : Int32)
set_option maxHeartbeats 4000000 in
set_option maxRecDepth 100000 in
theorem t_X6_copies_2 (C : Cx G p s m args meth c RX6 cX6_copies 3 none) {post : Mem → Prop} : ∀ (n : Nat) (M : Mem) (a0 : Nat) (a1 : Nat) (x2 : Int32) {H : Heap} {locs : List Loc} {ls : Array Slot} (ha0 : 58 ≤ a0 ∧ a0 < 62) (ha1 : 58 ≤ a1 ∧ a1 < 62) (w : Wd G s M H locs) (hl : lv_has ls 3 [(0, .ref (ga G a0)), (1, .ref (ga G a1)), (2, .int x2)]) (h : lp_X6_copies_2 post n M a0 a1 x2), W p l e (rmk 1) s m args below meth c H locs 0 0 (MQ below (va_Qv post (Qw G) (Af G s.heap.size)) args s 0 0 (Af G s.heap.size)) (F0 m 2 ls []) := by
  have hx := C.1.1
  have hb := C.1.2.1
  intro n9
  induction n9 with
  | zero => intro M a0 a1 x2 H locs ls ha0 ha1 w hl h; exact absurd h id
  | succ n9 ih9 =>
    intro M a0 a1 x2 H locs ls ha0 ha1 w hl h
    have hk2 : ∀ (M : Mem) (a0 : Nat) (a1 : Nat) (x2 : Int32) (H : Heap) (locs : List Loc) (ls : Array Slot), (58 ≤ a0 ∧ a0 < 62) → (58 ≤ a1 ∧ a1 < 62) → Wd G s M H locs → lv_has ls 3 [(0, .ref (ga G a0)), (1, .ref (ga G a1)), (2, .int x2)] → lp_X6_copies_2 post n9 M a0 a1 x2 → W p l e (rmk 1) s m args below meth c H locs 0 0 (MQ below (va_Qv post (Qw G) (Af G s.heap.size)) args s 0 0 (Af G s.heap.size)) (F0 m 2 ls []) := fun M a0 a1 x2 H locs ls ha0 ha1 w hl h => ih9 M a0 a1 x2 ha0 ha1 w hl h
    replace h : b_X6_copies_2 (lp_X6_copies_2 post n9) post M a0 a1 x2 := h
    unfold b_X6_copies_2 at h
    refine lv_iload_n hx hb dX6_copies_2 rfl (lv_at hl 2 rfl) ?_
    refine lv_bipush (v := 54) hx hb dX6_copies_3 (by decide) ?_
    refine lv_icmp_ge (tgt := 20) hx hb dX6_copies_5 (by decide) (fun c1 => ?_) (fun c1 => ?_)
    · replace h := h.1 c1
      exact ret_v C w h dX6_copies_20
    replace h := h.2 c1
    refine lv_aload_n hx hb dX6_copies_8 rfl (lv_at hl 1 rfl) ?_
    refine lv_iload_n hx hb dX6_copies_9 rfl (lv_at hl 2 rfl) ?_
    refine lv_aload_n hx hb dX6_copies_10 rfl (lv_at hl 0 rfl) ?_
    refine lv_iload_n hx hb dX6_copies_11 rfl (lv_at hl 2 rfl) ?_
    have hin2 := h.1
    replace h := h.2
    have hz_hin2 := in_lt hin2
    refine pw_ld C w (i := a0) (by omega) (pE_54 ha0) hin2 rfl dX6_copies_12 ?_
    refine pw_st C w (i := a1) (by omega) (fun _ => (pE_54 ha1)) hin2 rfl dX6_copies_13 (fun H locs w => ?_)
    obtain ⟨M3, eM3⟩ : ∃ z : Mem, z = (mup M a1 x2.toNatClampNeg (M a0 x2.toNatClampNeg)) := ⟨_, rfl⟩
    replace w : Wd G s M3 H locs := by rw [eM3]; exact w
    replace h := h M3 eM3
    refine lv_iinc (v := (x2 + (1 : Int32))) (lv' := [(2, .int (x2 + (1 : Int32))), (0, .ref (ga G a0)), (1, .ref (ga G a1))]) hx hb dX6_copies_14 hl (k := 2) rfl rfl (by decide) rfl (fun ls hl => ?_)
    refine lv_goto (tgt := 2) hx hb dX6_copies_17 (by decide) ?_
    exact hk2 M3 a0 a1 (x2 + (1 : Int32)) _ _ _ ha0 ha1 w (lv_sub hl [1, 2, 0] rfl) h
set_option maxHeartbeats 4000000 in
set_option maxRecDepth 100000 in
theorem c_X6_copies (l : Launch) (G : GG) (hG : Ag G) (sz : Nat) (M : Mem) (a0 : Nat) (a1 : Nat) (ha0 : 58 ≤ a0 ∧ a0 < 62) (ha1 : 58 ≤ a1 ∧ a1 < 62) (post : Mem → Prop) (h : q_X6_copies M a0 a1 post) : Met l yX6_copies (Cond.code yX6_copies cX6_copies 3 none :: wsL_law) (rmk 1) (va_Pc [.ref (ga G a0), .ref (ga G a1)] (Pw G sz M)) (va_Qv post (Qw G) (Af G sz)) 0 0 (Af G sz) := by
  refine Met.ofW (cc := cX6_copies) (maxL := 3) (ret := none) (by decide) rfl ?_
  intro p e s m args below meth c s₁ B hml hv
  obtain ⟨rfl, hsz, hE, hP⟩ := hv
  subst hsz
  have C := Cx.of (own := RX6) hG hE rfl hml B
  have w : Wd G s M s.heap [] := ⟨hP, va_S.rf⟩
  have hl := lv_entry [.ref (ga G a0), .ref (ga G a1)] (n := 3) (Nat.le_of_ble_eq_true rfl)
  rw [lg_entry_eq]
  generalize (lg_sl [.ref (ga G a0), .ref (ga G a1)] ++ List.replicate (3 - (lg_sl [.ref (ga G a0), .ref (ga G a1)]).length) Slot.unset).toArray = ls at hl ⊢
  have hl : lv_has ls 3 [(0, .ref (ga G a0)), (1, .ref (ga G a1))] := hl
  have hx := C.1.1
  have hb := C.1.2.1
  show W p l e (rmk 1) s m _ below meth c s.heap [] 0 0 _ _
  unfold q_X6_copies at h
  refine lv_iconst (v := 0) hx hb dX6_copies_0 (by decide) ?_
  refine lv_istore_n (lv' := [(2, .int (0 : Int32)), (0, .ref (ga G a0)), (1, .ref (ga G a1))]) hx hb dX6_copies_1 rfl hl (by decide) rfl (fun ls hl => ?_)
  obtain ⟨n, h⟩ := h
  exact t_X6_copies_2 C n M a0 a1 (0 : Int32) ha0 ha1 w (lv_sub hl [1, 2, 0] rfl) h
def j_X6_here_31 (post : Int32 → Mem → Prop) (M : Mem) (y0 : Int32) : Prop := post y0 M
def q_X6_here (M : Mem) (post : Int32 → Mem → Prop) : Prop := ((M 57 14) ≤ (M 57 12) → (j_X6_here_31 post M (-1000 : Int32))) ∧ (¬ ((M 57 14) ≤ (M 57 12)) → (vp_in ((M 57 13) + (M 57 12)) 800 ∧ (j_X6_here_31 post M (M 65 ((M 57 13) + (M 57 12)).toNatClampNeg))))
set_option maxHeartbeats 4000000 in
set_option maxRecDepth 100000 in
theorem t_X6_here_31 (C : Cx G p s m args meth c RX6 cX6_here 1 (some .int)) {post : Int32 → Mem → Prop} (M : Mem) (y0 : Int32) {H : Heap} {locs : List Loc} {ls : Array Slot} (w : Wd G s M H locs) (hl : lv_has ls 1 []) (h : j_X6_here_31 post M y0) : W p l e (rmk 1) s m args below meth c H locs 0 0 (MQ below (va_Qi post (Qw G) (Af G s.heap.size)) args s 0 0 (Af G s.heap.size)) (F0 m 31 ls [.int y0]) := by
  have hx := C.1.1
  have hb := C.1.2.1
  unfold j_X6_here_31 at h
  exact ret_i C w h dX6_here_31
set_option maxHeartbeats 4000000 in
set_option maxRecDepth 100000 in
theorem c_X6_here (l : Launch) (G : GG) (hG : Ag G) (sz : Nat) (M : Mem) (post : Int32 → Mem → Prop) (h : q_X6_here M post) : Met l yX6_here (Cond.code yX6_here cX6_here 1 (some .int) :: wsL_law) (rmk 1) (va_Pc [.ref (ga G 57)] (Pw G sz M)) (va_Qi post (Qw G) (Af G sz)) 0 0 (Af G sz) := by
  refine Met.ofW (cc := cX6_here) (maxL := 1) (ret := (some .int)) (by decide) rfl ?_
  intro p e s m args below meth c s₁ B hml hv
  obtain ⟨rfl, hsz, hE, hP⟩ := hv
  subst hsz
  have C := Cx.of (own := RX6) hG hE rfl hml B
  have w : Wd G s M s.heap [] := ⟨hP, va_S.rf⟩
  have hl := lv_entry [.ref (ga G 57)] (n := 1) (Nat.le_of_ble_eq_true rfl)
  rw [lg_entry_eq]
  generalize (lg_sl [.ref (ga G 57)] ++ List.replicate (1 - (lg_sl [.ref (ga G 57)]).length) Slot.unset).toArray = ls at hl ⊢
  have hl : lv_has ls 1 [(0, .ref (ga G 57))] := hl
  have hx := C.1.1
  have hb := C.1.2.1
  show W p l e (rmk 1) s m _ below meth c s.heap [] 0 0 _ _
  unfold q_X6_here at h
  refine lv_aload_n hx hb dX6_here_0 rfl (lv_at hl 0 rfl) ?_
  refine gt_6_12 C w kw_11_18 dX6_here_1 ?_
  refine lv_aload_n hx hb dX6_here_4 rfl (lv_at hl 0 rfl) ?_
  refine gt_6_14 C w kw_11_17 dX6_here_5 ?_
  refine lv_icmp_ge (tgt := 28) hx hb dX6_here_8 (by decide) (fun c1 => ?_) (fun c1 => ?_)
  · replace h := h.1 c1
    refine lv_sipush (v := -1000) hx hb dX6_here_28 (by decide) ?_
    exact t_X6_here_31 C M (-1000 : Int32)  w (lv_sub hl [] rfl) h
  replace h := h.2 c1
  refine lv_aload_n hx hb dX6_here_11 rfl (lv_at hl 0 rfl) ?_
  refine gt_6_7 C w kw_5_7 dX6_here_12 ?_
  refine lv_aload_n hx hb dX6_here_15 rfl (lv_at hl 0 rfl) ?_
  refine gt_6_13 C w kw_11_16 dX6_here_16 ?_
  refine lv_aload_n hx hb dX6_here_19 rfl (lv_at hl 0 rfl) ?_
  refine gt_6_12 C w kw_11_18 dX6_here_20 ?_
  refine lv_iadd hx hb dX6_here_23 ?_
  have hin2 := h.1
  replace h := h.2
  have hz_hin2 := in_lt hin2
  refine pw_ld C w (i := 65) (by decide) pE_65 hin2 rfl dX6_here_24 ?_
  refine lv_goto (tgt := 31) hx hb dX6_here_25 (by decide) ?_
  exact t_X6_here_31 C M (M 65 ((M 57 13) + (M 57 12)).toNatClampNeg)  w (lv_sub hl [] rfl) h
def q_X6_isDigit (M : Mem) (post : Int32 → Mem → Prop) : Prop := q_X6_here M  (fun r1 M2 => q_X6_isIn M2 r1.toInt64 (48 : Int64) (57 : Int64) (fun r3 M4 => (r3 = 0 ∨ r3 = 1) ∧ post r3 M4))
set_option maxHeartbeats 4000000 in
set_option maxRecDepth 100000 in
theorem c_X6_isDigit (l : Launch) (G : GG) (hG : Ag G) (sz : Nat) (M : Mem) (post : Int32 → Mem → Prop) (h : q_X6_isDigit M post) : Met l yX6_isDigit (Cond.code yX6_isDigit cX6_isDigit 1 (some .boolean) :: wsL_law) (rmk 2) (va_Pc [.ref (ga G 57)] (Pw G sz M)) (va_Qi post (Qw G) (Af G sz)) 0 0 (Af G sz) := by
  refine Met.ofW (cc := cX6_isDigit) (maxL := 1) (ret := (some .boolean)) (by decide) rfl ?_
  intro p e s m args below meth c s₁ B hml hv
  obtain ⟨rfl, hsz, hE, hP⟩ := hv
  subst hsz
  have C := Cx.of (own := RX6) hG hE rfl hml B
  have w : Wd G s M s.heap [] := ⟨hP, va_S.rf⟩
  have hl := lv_entry [.ref (ga G 57)] (n := 1) (Nat.le_of_ble_eq_true rfl)
  rw [lg_entry_eq]
  generalize (lg_sl [.ref (ga G 57)] ++ List.replicate (1 - (lg_sl [.ref (ga G 57)]).length) Slot.unset).toArray = ls at hl ⊢
  have hl : lv_has ls 1 [(0, .ref (ga G 57))] := hl
  have hx := C.1.1
  have hb := C.1.2.1
  show W p l e (rmk 2) s m _ below meth c s.heap [] 0 0 _ _
  unfold q_X6_isDigit at h
  refine lv_aload_n hx hb dX6_isDigit_0 rfl (lv_at hl 0 rfl) ?_
  refine end_i w (run_V (As := []) C w hl.1 (c_X6_here l G C.2.2.1 _ _   _ h) kw_12_15 kw_1_5 kw_12_12 kw_12_13 kw_12_14 hd_X6_here ⟨by decide, by decide⟩ (w.recv C (i := 57) (by decide) (pE_6) rfl) rfl (Nat.le_of_ble_eq_true rfl) dX6_isDigit_1) (fun r1 M2 H locs h w => ?_)
  refine lv_i2l hx hb dX6_isDigit_4 rfl ?_
  refine lv_ldc2 hx hb C.1.2.2.2.1 (C.ws kw_13_0) dX6_isDigit_5 ?_
  refine lv_ldc2 hx hb C.1.2.2.2.1 (C.ws kw_13_1) dX6_isDigit_8 ?_
  refine end_i w (run_S (As := [.long r1.toInt64, .long (48 : Int64), .long (57 : Int64)]) C w hl.1 (c_X6_isIn l G C.2.2.1 _ _ r1.toInt64 (48 : Int64) (57 : Int64)  _ h) kw_12_5 kw_1_5 kw_12_3 kw_12_4 hd_X6_isIn ⟨by decide, by decide⟩ rfl (Nat.le_of_ble_eq_true rfl) dX6_isDigit_11) (fun r3 M4 H locs h w => ?_)
  exact ret_z C w h dX6_isDigit_14
def j_X6_readsNumber_74 (post : Int32 → Mem → Prop) (M : Mem) (x2 : Int32) : Prop := vp_in (M 57 15) 3 ∧ (∀ M2 : Mem, M2 = (mup M 68 (M 57 15).toNatClampNeg x2) → (∀ M3 : Mem, M3 = (mup M2 57 15 ((M2 57 15) + (1 : Int32))) → (post (1 : Int32) M3)))
def b_X6_readsNumber_29 (k29 : Mem → Int32 → Int32 → Int32 → Prop) (post : Int32 → Mem → Prop) (M : Mem) (x1 : Int32) (x2 : Int32) (x3 : Int32) : Prop := (x1 ≤ x3 → (j_X6_readsNumber_74 post M x2)) ∧ (¬ (x1 ≤ x3) → ((x2 ≤ 0 → (j_X6_readsNumber_74 post M x2)) ∧ (¬ (x2 ≤ 0) → (q_X6_isDigit M  (fun r6 M7 => (r6 = 0 → (j_X6_readsNumber_74 post M7 x2)) ∧ (¬ (r6 = 0) → (q_X6_here M7  (fun r9 M10 => ∀ v11 : Int32, v11 = ((((10 : Int32) * x2) + r9) - (48 : Int32)) → (∀ M12 : Mem, M12 = (mup M10 57 12 ((M10 57 12) + (1 : Int32))) → (k29 M12 x1 v11 (x3 + (1 : Int32))))))))))))
def lp_X6_readsNumber_29 (post : Int32 → Mem → Prop) : Nat → Mem → Int32 → Int32 → Int32 → Prop
  | 0 => fun _ _ _ _ => False
  | n + 1 => fun M x1 x2 x3 => b_X6_readsNumber_29 (lp_X6_readsNumber_29 post n) post M x1 x2 x3
def q_X6_readsNumber (M : Mem) (x1 : Int32) (post : Int32 → Mem → Prop) : Prop := q_X6_isDigit M  (fun r13 M14 => (r13 = 0 → (post (0 : Int32) M14)) ∧ (¬ (r13 = 0) → (q_X6_here M14  (fun r16 M17 => ∀ M18 : Mem, M18 = (mup M17 57 12 ((M17 57 12) + (1 : Int32))) → (∃ n, lp_X6_readsNumber_29 post n M18 x1 (r16 - (48 : Int32)) (1 : Int32))))))
set_option maxHeartbeats 4000000 in
set_option maxRecDepth 100000 in
theorem t_X6_readsNumber_74 (C : Cx G p s m args meth c RX6 cX6_readsNumber 4 (some .boolean)) {post : Int32 → Mem → Prop} (M : Mem) (x2 : Int32) {H : Heap} {locs : List Loc} {ls : Array Slot} (w : Wd G s M H locs) (hl : lv_has ls 4 [(0, .ref (ga G 57)), (2, .int x2)]) (h : j_X6_readsNumber_74 post M x2) : W p l e (rmk 3) s m args below meth c H locs 0 0 (MQ below (va_Qi post (Qw G) (Af G s.heap.size)) args s 0 0 (Af G s.heap.size)) (F0 m 74 ls []) := by
  have hx := C.1.1
  have hb := C.1.2.1
  unfold j_X6_readsNumber_74 at h
  refine lv_aload_n hx hb dX6_readsNumber_74 rfl (lv_at hl 0 rfl) ?_
  refine gt_6_17 C w kw_5_10 dX6_readsNumber_75 ?_
  refine lv_aload_n hx hb dX6_readsNumber_78 rfl (lv_at hl 0 rfl) ?_
  refine gt_6_15 C w kw_12_10 dX6_readsNumber_79 ?_
  refine lv_iload_n hx hb dX6_readsNumber_82 rfl (lv_at hl 1 rfl) ?_
  have hin1 := h.1
  replace h := h.2
  have hz_hin1 := in_lt hin1
  refine pw_st C w (i := 68) (by decide) (fun _ => pE_68) hin1 rfl dX6_readsNumber_83 (fun H locs w => ?_)
  obtain ⟨M2, eM2⟩ : ∃ z : Mem, z = (mup M 68 (M 57 15).toNatClampNeg x2) := ⟨_, rfl⟩
  replace w : Wd G s M2 H locs := by rw [eM2]; exact w
  replace h := h M2 eM2
  refine lv_aload_n hx hb dX6_readsNumber_84 rfl (lv_at hl 0 rfl) ?_
  refine lv_dup hx hb dX6_readsNumber_85 rfl ?_
  refine gt_6_15 C w kw_12_10 dX6_readsNumber_86 ?_
  refine lv_iconst (v := 1) hx hb dX6_readsNumber_89 (by decide) ?_
  refine lv_iadd hx hb dX6_readsNumber_90 ?_
  refine pt_6_15 C w kw_12_10 dX6_readsNumber_91 (fun H locs w => ?_)
  obtain ⟨M3, eM3⟩ : ∃ z : Mem, z = (mup M2 57 15 ((M2 57 15) + (1 : Int32))) := ⟨_, rfl⟩
  replace w : Wd G s M3 H locs := by rw [eM3]; exact w
  replace h := h M3 eM3
  refine lv_iconst (v := 1) hx hb dX6_readsNumber_94 (by decide) ?_
  exact ret_z C w ⟨Or.inr rfl, h⟩ dX6_readsNumber_95
set_option maxHeartbeats 4000000 in
set_option maxRecDepth 100000 in
theorem t_X6_readsNumber_29 (C : Cx G p s m args meth c RX6 cX6_readsNumber 4 (some .boolean)) {post : Int32 → Mem → Prop} : ∀ (n : Nat) (M : Mem) (x1 : Int32) (x2 : Int32) (x3 : Int32) {H : Heap} {locs : List Loc} {ls : Array Slot} (w : Wd G s M H locs) (hl : lv_has ls 4 [(0, .ref (ga G 57)), (1, .int x1), (2, .int x2), (3, .int x3)]) (h : lp_X6_readsNumber_29 post n M x1 x2 x3), W p l e (rmk 3) s m args below meth c H locs 0 0 (MQ below (va_Qi post (Qw G) (Af G s.heap.size)) args s 0 0 (Af G s.heap.size)) (F0 m 29 ls []) := by
  have hx := C.1.1
  have hb := C.1.2.1
  intro n9
  induction n9 with
  | zero => intro M x1 x2 x3 H locs ls w hl h; exact absurd h id
  | succ n9 ih9 =>
    intro M x1 x2 x3 H locs ls w hl h
    have hk29 : ∀ (M : Mem) (x1 : Int32) (x2 : Int32) (x3 : Int32) (H : Heap) (locs : List Loc) (ls : Array Slot), Wd G s M H locs → lv_has ls 4 [(0, .ref (ga G 57)), (1, .int x1), (2, .int x2), (3, .int x3)] → lp_X6_readsNumber_29 post n9 M x1 x2 x3 → W p l e (rmk 3) s m args below meth c H locs 0 0 (MQ below (va_Qi post (Qw G) (Af G s.heap.size)) args s 0 0 (Af G s.heap.size)) (F0 m 29 ls []) := fun M x1 x2 x3 H locs ls w hl h => ih9 M x1 x2 x3 w hl h
    replace h : b_X6_readsNumber_29 (lp_X6_readsNumber_29 post n9) post M x1 x2 x3 := h
    unfold b_X6_readsNumber_29 at h
    refine lv_iload_n hx hb dX6_readsNumber_29 rfl (lv_at hl 3 rfl) ?_
    refine lv_iload_n hx hb dX6_readsNumber_30 rfl (lv_at hl 1 rfl) ?_
    refine lv_icmp_ge (tgt := 74) hx hb dX6_readsNumber_31 (by decide) (fun c4 => ?_) (fun c4 => ?_)
    · replace h := h.1 c4
      exact t_X6_readsNumber_74 C M x2  w (lv_sub hl [0, 2] rfl) h
    replace h := h.2 c4
    refine lv_iload_n hx hb dX6_readsNumber_34 rfl (lv_at hl 2 rfl) ?_
    refine lv_if_le (tgt := 74) hx hb dX6_readsNumber_35 (by decide) (fun c5 => ?_) (fun c5 => ?_)
    · replace h := h.1 c5
      exact t_X6_readsNumber_74 C M x2  w (lv_sub hl [0, 2] rfl) h
    replace h := h.2 c5
    refine lv_aload_n hx hb dX6_readsNumber_38 rfl (lv_at hl 0 rfl) ?_
    refine end_i w (run_V (As := []) C w hl.1 (c_X6_isDigit l G C.2.2.1 _ _   _ h) kw_12_23 kw_1_5 kw_12_20 kw_12_21 kw_12_22 hd_X6_isDigit ⟨by decide, by decide⟩ (w.recv C (i := 57) (by decide) (pE_6) rfl) rfl (Nat.le_of_ble_eq_true rfl) dX6_readsNumber_39) (fun r6 M7 H locs h w => ?_)
    refine lv_if_eq (tgt := 74) hx hb dX6_readsNumber_42 (by decide) (fun c8 => ?_) (fun c8 => ?_)
    · replace h := h.1 c8
      exact t_X6_readsNumber_74 C M7 x2  w (lv_sub hl [0, 2] rfl) h
    replace h := h.2 c8
    refine lv_bipush (v := 10) hx hb dX6_readsNumber_45 (by decide) ?_
    refine lv_iload_n hx hb dX6_readsNumber_47 rfl (lv_at hl 2 rfl) ?_
    refine lv_imul hx hb dX6_readsNumber_48 ?_
    refine lv_aload_n hx hb dX6_readsNumber_49 rfl (lv_at hl 0 rfl) ?_
    refine end_i w (run_V (As := []) C w hl.1 (c_X6_here l G C.2.2.1 _ _   _ h) kw_12_15 kw_1_5 kw_12_12 kw_12_13 kw_12_14 hd_X6_here ⟨by decide, by decide⟩ (w.recv C (i := 57) (by decide) (pE_6) rfl) rfl (Nat.le_of_ble_eq_true rfl) dX6_readsNumber_50) (fun r9 M10 H locs h w => ?_)
    refine lv_iadd hx hb dX6_readsNumber_53 ?_
    refine lv_bipush (v := 48) hx hb dX6_readsNumber_54 (by decide) ?_
    refine lv_isub hx hb dX6_readsNumber_56 ?_
    refine lv_topi (fun v11 ev11 => ?_)
    replace h := h v11 ev11
    refine lv_istore_n (lv' := [(2, .int v11), (0, .ref (ga G 57)), (1, .int x1), (3, .int x3)]) hx hb dX6_readsNumber_57 rfl hl (by decide) rfl (fun ls hl => ?_)
    refine lv_aload_n hx hb dX6_readsNumber_58 rfl (lv_at hl 1 rfl) ?_
    refine lv_dup hx hb dX6_readsNumber_59 rfl ?_
    refine gt_6_12 C w kw_11_18 dX6_readsNumber_60 ?_
    refine lv_iconst (v := 1) hx hb dX6_readsNumber_63 (by decide) ?_
    refine lv_iadd hx hb dX6_readsNumber_64 ?_
    refine pt_6_12 C w kw_11_18 dX6_readsNumber_65 (fun H locs w => ?_)
    obtain ⟨M12, eM12⟩ : ∃ z : Mem, z = (mup M10 57 12 ((M10 57 12) + (1 : Int32))) := ⟨_, rfl⟩
    replace w : Wd G s M12 H locs := by rw [eM12]; exact w
    replace h := h M12 eM12
    refine lv_iinc (v := (x3 + (1 : Int32))) (lv' := [(3, .int (x3 + (1 : Int32))), (2, .int v11), (0, .ref (ga G 57)), (1, .int x1)]) hx hb dX6_readsNumber_68 hl (k := 3) rfl rfl (by decide) rfl (fun ls hl => ?_)
    refine lv_goto (tgt := 29) hx hb dX6_readsNumber_71 (by decide) ?_
    exact hk29 M12 x1 v11 (x3 + (1 : Int32)) _ _ _  w (lv_sub hl [2, 3, 1, 0] rfl) h
set_option maxHeartbeats 4000000 in
set_option maxRecDepth 100000 in
theorem c_X6_readsNumber (l : Launch) (G : GG) (hG : Ag G) (sz : Nat) (M : Mem) (x1 : Int32) (post : Int32 → Mem → Prop) (h : q_X6_readsNumber M x1 post) : Met l yX6_readsNumber (Cond.code yX6_readsNumber cX6_readsNumber 4 (some .boolean) :: wsL_law) (rmk 3) (va_Pc [.ref (ga G 57), .int x1] (Pw G sz M)) (va_Qi post (Qw G) (Af G sz)) 0 0 (Af G sz) := by
  refine Met.ofW (cc := cX6_readsNumber) (maxL := 4) (ret := (some .boolean)) (by decide) rfl ?_
  intro p e s m args below meth c s₁ B hml hv
  obtain ⟨rfl, hsz, hE, hP⟩ := hv
  subst hsz
  have C := Cx.of (own := RX6) hG hE rfl hml B
  have w : Wd G s M s.heap [] := ⟨hP, va_S.rf⟩
  have hl := lv_entry [.ref (ga G 57), .int x1] (n := 4) (Nat.le_of_ble_eq_true rfl)
  rw [lg_entry_eq]
  generalize (lg_sl [.ref (ga G 57), .int x1] ++ List.replicate (4 - (lg_sl [.ref (ga G 57), .int x1]).length) Slot.unset).toArray = ls at hl ⊢
  have hl : lv_has ls 4 [(0, .ref (ga G 57)), (1, .int x1)] := hl
  have hx := C.1.1
  have hb := C.1.2.1
  show W p l e (rmk 3) s m _ below meth c s.heap [] 0 0 _ _
  unfold q_X6_readsNumber at h
  refine lv_aload_n hx hb dX6_readsNumber_0 rfl (lv_at hl 0 rfl) ?_
  refine end_i w (run_V (As := []) C w hl.1 (c_X6_isDigit l G C.2.2.1 _ _   _ h) kw_12_23 kw_1_5 kw_12_20 kw_12_21 kw_12_22 hd_X6_isDigit ⟨by decide, by decide⟩ (w.recv C (i := 57) (by decide) (pE_6) rfl) rfl (Nat.le_of_ble_eq_true rfl) dX6_readsNumber_1) (fun r13 M14 H locs h w => ?_)
  refine lv_if_ne (tgt := 9) hx hb dX6_readsNumber_4 (by decide) (fun c15 => ?_) (fun c15 => ?_)
  · replace h := h.2 c15
    refine lv_aload_n hx hb dX6_readsNumber_9 rfl (lv_at hl 0 rfl) ?_
    refine end_i w (run_V (As := []) C w hl.1 (c_X6_here l G C.2.2.1 _ _   _ h) kw_12_15 kw_1_5 kw_12_12 kw_12_13 kw_12_14 hd_X6_here ⟨by decide, by decide⟩ (w.recv C (i := 57) (by decide) (pE_6) rfl) rfl (Nat.le_of_ble_eq_true rfl) dX6_readsNumber_10) (fun r16 M17 H locs h w => ?_)
    refine lv_bipush (v := 48) hx hb dX6_readsNumber_13 (by decide) ?_
    refine lv_isub hx hb dX6_readsNumber_15 ?_
    refine lv_istore_n (lv' := [(2, .int (r16 - (48 : Int32))), (0, .ref (ga G 57)), (1, .int x1)]) hx hb dX6_readsNumber_16 rfl hl (by decide) rfl (fun ls hl => ?_)
    refine lv_aload_n hx hb dX6_readsNumber_17 rfl (lv_at hl 1 rfl) ?_
    refine lv_dup hx hb dX6_readsNumber_18 rfl ?_
    refine gt_6_12 C w kw_11_18 dX6_readsNumber_19 ?_
    refine lv_iconst (v := 1) hx hb dX6_readsNumber_22 (by decide) ?_
    refine lv_iadd hx hb dX6_readsNumber_23 ?_
    refine pt_6_12 C w kw_11_18 dX6_readsNumber_24 (fun H locs w => ?_)
    obtain ⟨M18, eM18⟩ : ∃ z : Mem, z = (mup M17 57 12 ((M17 57 12) + (1 : Int32))) := ⟨_, rfl⟩
    replace w : Wd G s M18 H locs := by rw [eM18]; exact w
    replace h := h M18 eM18
    refine lv_iconst (v := 1) hx hb dX6_readsNumber_27 (by decide) ?_
    refine lv_istore_n (lv' := [(3, .int (1 : Int32)), (2, .int (r16 - (48 : Int32))), (0, .ref (ga G 57)), (1, .int x1)]) hx hb dX6_readsNumber_28 rfl hl (by decide) rfl (fun ls hl => ?_)
    obtain ⟨n, h⟩ := h
    exact t_X6_readsNumber_29 C n M18 x1 (r16 - (48 : Int32)) (1 : Int32)  w (lv_sub hl [2, 3, 1, 0] rfl) h
  replace h := h.1 c15
  refine lv_iconst (v := 0) hx hb dX6_readsNumber_7 (by decide) ?_
  exact ret_z C w ⟨Or.inl rfl, h⟩ dX6_readsNumber_8
def q_X6_takes (M : Mem) (x1 : Int32) (post : Int32 → Mem → Prop) : Prop := q_X6_here M  (fun r1 M2 => (r1 = x1 → (∀ M4 : Mem, M4 = (mup M2 57 12 ((M2 57 12) + (1 : Int32))) → (post (1 : Int32) M4))) ∧ (¬ (r1 = x1) → (post (0 : Int32) M2)))
set_option maxHeartbeats 4000000 in
set_option maxRecDepth 100000 in
theorem c_X6_takes (l : Launch) (G : GG) (hG : Ag G) (sz : Nat) (M : Mem) (x1 : Int32) (post : Int32 → Mem → Prop) (h : q_X6_takes M x1 post) : Met l yX6_takes (Cond.code yX6_takes cX6_takes 2 (some .boolean) :: wsL_law) (rmk 2) (va_Pc [.ref (ga G 57), .int x1] (Pw G sz M)) (va_Qi post (Qw G) (Af G sz)) 0 0 (Af G sz) := by
  refine Met.ofW (cc := cX6_takes) (maxL := 2) (ret := (some .boolean)) (by decide) rfl ?_
  intro p e s m args below meth c s₁ B hml hv
  obtain ⟨rfl, hsz, hE, hP⟩ := hv
  subst hsz
  have C := Cx.of (own := RX6) hG hE rfl hml B
  have w : Wd G s M s.heap [] := ⟨hP, va_S.rf⟩
  have hl := lv_entry [.ref (ga G 57), .int x1] (n := 2) (Nat.le_of_ble_eq_true rfl)
  rw [lg_entry_eq]
  generalize (lg_sl [.ref (ga G 57), .int x1] ++ List.replicate (2 - (lg_sl [.ref (ga G 57), .int x1]).length) Slot.unset).toArray = ls at hl ⊢
  have hl : lv_has ls 2 [(0, .ref (ga G 57)), (1, .int x1)] := hl
  have hx := C.1.1
  have hb := C.1.2.1
  show W p l e (rmk 2) s m _ below meth c s.heap [] 0 0 _ _
  unfold q_X6_takes at h
  refine lv_aload_n hx hb dX6_takes_0 rfl (lv_at hl 0 rfl) ?_
  refine end_i w (run_V (As := []) C w hl.1 (c_X6_here l G C.2.2.1 _ _   _ h) kw_12_15 kw_1_5 kw_12_12 kw_12_13 kw_12_14 hd_X6_here ⟨by decide, by decide⟩ (w.recv C (i := 57) (by decide) (pE_6) rfl) rfl (Nat.le_of_ble_eq_true rfl) dX6_takes_1) (fun r1 M2 H locs h w => ?_)
  refine lv_iload_n hx hb dX6_takes_4 rfl (lv_at hl 1 rfl) ?_
  refine lv_icmp_eq (tgt := 10) hx hb dX6_takes_5 (by decide) (fun c3 => ?_) (fun c3 => ?_)
  · replace h := h.1 c3
    refine lv_aload_n hx hb dX6_takes_10 rfl (lv_at hl 0 rfl) ?_
    refine lv_dup hx hb dX6_takes_11 rfl ?_
    refine gt_6_12 C w kw_11_18 dX6_takes_12 ?_
    refine lv_iconst (v := 1) hx hb dX6_takes_15 (by decide) ?_
    refine lv_iadd hx hb dX6_takes_16 ?_
    refine pt_6_12 C w kw_11_18 dX6_takes_17 (fun H locs w => ?_)
    obtain ⟨M4, eM4⟩ : ∃ z : Mem, z = (mup M2 57 12 ((M2 57 12) + (1 : Int32))) := ⟨_, rfl⟩
    replace w : Wd G s M4 H locs := by rw [eM4]; exact w
    replace h := h M4 eM4
    refine lv_iconst (v := 1) hx hb dX6_takes_20 (by decide) ?_
    exact ret_z C w ⟨Or.inr rfl, h⟩ dX6_takes_21
  replace h := h.2 c3
  refine lv_iconst (v := 0) hx hb dX6_takes_8 (by decide) ?_
  exact ret_z C w ⟨Or.inl rfl, h⟩ dX6_takes_9
def j_X6_readsStatement_281 (post : Int32 → Mem → Prop) (M : Mem) (y0 : Int32) : Prop := (y0 = 0 ∨ y0 = 1) ∧ post y0 M
def j_X6_readsStatement_280 (post : Int32 → Mem → Prop) (M : Mem) : Prop := j_X6_readsStatement_281 post M (0 : Int32)
def j_X6_readsStatement_263 (post : Int32 → Mem → Prop) (M : Mem) (x2 : Int32) : Prop := (x2 = 0 → (j_X6_readsStatement_280 post M)) ∧ (¬ (x2 = 0) → (q_X6_takes M (59 : Int32) (fun r2 M3 => (r2 = 0 → (j_X6_readsStatement_280 post M3)) ∧ (¬ (r2 = 0) → (j_X6_readsStatement_281 post M3 (1 : Int32))))))
def j_X6_readsStatement_247 (post : Int32 → Mem → Prop) (M : Mem) (y0 : Int32) : Prop := j_X6_readsStatement_263 post M y0
def j_X6_readsStatement_246 (post : Int32 → Mem → Prop) (M : Mem) : Prop := j_X6_readsStatement_247 post M (0 : Int32)
def j_X6_readsStatement_234 (post : Int32 → Mem → Prop) (M : Mem) : Prop := q_X6_readsNumber M (3 : Int32) (fun r5 M6 => (r5 = 0 → (j_X6_readsStatement_246 post M6)) ∧ (¬ (r5 = 0) → (j_X6_readsStatement_247 post M6 (1 : Int32))))
def j_X6_readsStatement_213 (post : Int32 → Mem → Prop) (M : Mem) (y0 : Int32) : Prop := (y0 = 0 ∨ y0 = 1) ∧ (∀ M8 : Mem, M8 = (mup M 57 16 y0) → (q_X6_takes M8 (43 : Int32) (fun r9 M10 => (r9 = 0 → (q_X6_takes M10 (45 : Int32) (fun r12 M13 => (r12 = 0 → (j_X6_readsStatement_246 post M13)) ∧ (¬ (r12 = 0) → (j_X6_readsStatement_234 post M13))))) ∧ (¬ (r9 = 0) → (j_X6_readsStatement_234 post M10)))))
def j_X6_readsStatement_194 (post : Int32 → Mem → Prop) (M : Mem) (y0 : Int32) : Prop := j_X6_readsStatement_263 post M y0
def j_X6_readsStatement_193 (post : Int32 → Mem → Prop) (M : Mem) : Prop := j_X6_readsStatement_194 post M (0 : Int32)
def j_X6_readsStatement_143 (post : Int32 → Mem → Prop) (M : Mem) (y0 : Int32) : Prop := j_X6_readsStatement_263 post M y0
def j_X6_readsStatement_142 (post : Int32 → Mem → Prop) (M : Mem) : Prop := j_X6_readsStatement_143 post M (0 : Int32)
def j_X6_readsStatement_109 (post : Int32 → Mem → Prop) (M : Mem) (y0 : Int32) : Prop := j_X6_readsStatement_263 post M y0
def j_X6_readsStatement_108 (post : Int32 → Mem → Prop) (M : Mem) : Prop := j_X6_readsStatement_109 post M (0 : Int32)
def q_X6_readsStatement (M : Mem) (post : Int32 → Mem → Prop) : Prop := q_X6_here M  (fun r15 M16 => ∀ M17 : Mem, M17 = (mup M16 57 15 (0 : Int32)) → (∀ M18 : Mem, M18 = (mup M17 57 12 ((M17 57 12) + (1 : Int32))) → ((r15 = (97 : Int32) → (q_X6_here M18  (fun r20 M21 => (r20 = (45 : Int32) → (j_X6_readsStatement_213 post M21 (1 : Int32))) ∧ (¬ (r20 = (45 : Int32)) → (j_X6_readsStatement_213 post M21 (0 : Int32)))))) ∧ (¬ r15 = (97 : Int32) → ((r15 = (100 : Int32) → (q_X6_readsNumber M18 (3 : Int32) (fun r24 M25 => j_X6_readsStatement_263 post M25 r24))) ∧ (¬ r15 = (100 : Int32) → ((r15 = (112 : Int32) → (q_X6_readsNumber M18 (1 : Int32) (fun r27 M28 => (r27 = 0 → (j_X6_readsStatement_108 post M28)) ∧ (¬ (r27 = 0) → (q_X6_readsNumber M28 (1 : Int32) (fun r30 M31 => (r30 = 0 → (j_X6_readsStatement_108 post M31)) ∧ (¬ (r30 = 0) → (q_X6_readsNumber M31 (3 : Int32) (fun r33 M34 => (r33 = 0 → (j_X6_readsStatement_108 post M34)) ∧ (¬ (r33 = 0) → (j_X6_readsStatement_109 post M34 (1 : Int32)))))))))))) ∧ (¬ r15 = (112 : Int32) → ((r15 = (115 : Int32) → (q_X6_readsNumber M18 (3 : Int32) (fun r37 M38 => (r37 = 0 → (j_X6_readsStatement_142 post M38)) ∧ (¬ (r37 = 0) → (q_X6_takes M38 (32 : Int32) (fun r40 M41 => (r40 = 0 → (j_X6_readsStatement_142 post M41)) ∧ (¬ (r40 = 0) → (q_X6_readsNumber M41 (3 : Int32) (fun r43 M44 => (r43 = 0 → (j_X6_readsStatement_142 post M44)) ∧ (¬ (r43 = 0) → (j_X6_readsStatement_143 post M44 (1 : Int32)))))))))))) ∧ (¬ r15 = (115 : Int32) → ((r15 = (118 : Int32) → (q_X6_readsNumber M18 (1 : Int32) (fun r47 M48 => j_X6_readsStatement_263 post M48 r47))) ∧ (¬ r15 = (118 : Int32) → ((r15 = (121 : Int32) → (q_X6_readsNumber M18 (1 : Int32) (fun r50 M51 => (r50 = 0 → (j_X6_readsStatement_193 post M51)) ∧ (¬ (r50 = 0) → (q_X6_readsNumber M51 (1 : Int32) (fun r53 M54 => (r53 = 0 → (j_X6_readsStatement_193 post M54)) ∧ (¬ (r53 = 0) → (q_X6_readsNumber M54 (1 : Int32) (fun r56 M57 => (r56 = 0 → (j_X6_readsStatement_193 post M57)) ∧ (¬ (r56 = 0) → (j_X6_readsStatement_194 post M57 (1 : Int32)))))))))))) ∧ (¬ r15 = (121 : Int32) → (∀ M59 : Mem, M59 = (mup M18 57 12 ((M18 57 12) - (1 : Int32))) → (post (0 : Int32) M59))))))))))))))))
set_option maxHeartbeats 4000000 in
set_option maxRecDepth 100000 in
theorem t_X6_readsStatement_281 (C : Cx G p s m args meth c RX6 cX6_readsStatement 3 (some .boolean)) {post : Int32 → Mem → Prop} (M : Mem) (y0 : Int32) {H : Heap} {locs : List Loc} {ls : Array Slot} (w : Wd G s M H locs) (hl : lv_has ls 3 []) (h : j_X6_readsStatement_281 post M y0) : W p l e (rmk 4) s m args below meth c H locs 0 0 (MQ below (va_Qi post (Qw G) (Af G s.heap.size)) args s 0 0 (Af G s.heap.size)) (F0 m 281 ls [.int y0]) := by
  have hx := C.1.1
  have hb := C.1.2.1
  unfold j_X6_readsStatement_281 at h
  exact ret_z C w h dX6_readsStatement_281
set_option maxHeartbeats 4000000 in
set_option maxRecDepth 100000 in
theorem t_X6_readsStatement_280 (C : Cx G p s m args meth c RX6 cX6_readsStatement 3 (some .boolean)) {post : Int32 → Mem → Prop} (M : Mem) {H : Heap} {locs : List Loc} {ls : Array Slot} (w : Wd G s M H locs) (hl : lv_has ls 3 []) (h : j_X6_readsStatement_280 post M) : W p l e (rmk 4) s m args below meth c H locs 0 0 (MQ below (va_Qi post (Qw G) (Af G s.heap.size)) args s 0 0 (Af G s.heap.size)) (F0 m 280 ls []) := by
  have hx := C.1.1
  have hb := C.1.2.1
  unfold j_X6_readsStatement_280 at h
  refine lv_iconst (v := 0) hx hb dX6_readsStatement_280 (by decide) ?_
  exact t_X6_readsStatement_281 C M (0 : Int32)  w (lv_sub hl [] rfl) h
set_option maxHeartbeats 4000000 in
set_option maxRecDepth 100000 in
theorem t_X6_readsStatement_263 (C : Cx G p s m args meth c RX6 cX6_readsStatement 3 (some .boolean)) {post : Int32 → Mem → Prop} (M : Mem) (x2 : Int32) {H : Heap} {locs : List Loc} {ls : Array Slot} (w : Wd G s M H locs) (hl : lv_has ls 3 [(0, .ref (ga G 57)), (2, .int x2)]) (h : j_X6_readsStatement_263 post M x2) : W p l e (rmk 4) s m args below meth c H locs 0 0 (MQ below (va_Qi post (Qw G) (Af G s.heap.size)) args s 0 0 (Af G s.heap.size)) (F0 m 263 ls []) := by
  have hx := C.1.1
  have hb := C.1.2.1
  unfold j_X6_readsStatement_263 at h
  refine lv_iload_n hx hb dX6_readsStatement_263 rfl (lv_at hl 1 rfl) ?_
  refine lv_if_eq (tgt := 280) hx hb dX6_readsStatement_264 (by decide) (fun c1 => ?_) (fun c1 => ?_)
  · replace h := h.1 c1
    exact t_X6_readsStatement_280 C M   w (lv_sub hl [] rfl) h
  replace h := h.2 c1
  refine lv_aload_n hx hb dX6_readsStatement_267 rfl (lv_at hl 0 rfl) ?_
  refine lv_bipush (v := 59) hx hb dX6_readsStatement_268 (by decide) ?_
  refine end_i w (run_V (As := [.int (59 : Int32)]) C w hl.1 (c_X6_takes l G C.2.2.1 _ _ (59 : Int32)  _ h) kw_13_5 kw_1_5 kw_13_2 kw_13_3 kw_13_4 hd_X6_takes ⟨by decide, by decide⟩ (w.recv C (i := 57) (by decide) (pE_6) rfl) rfl (Nat.le_of_ble_eq_true rfl) dX6_readsStatement_270) (fun r2 M3 H locs h w => ?_)
  refine lv_if_eq (tgt := 280) hx hb dX6_readsStatement_273 (by decide) (fun c4 => ?_) (fun c4 => ?_)
  · replace h := h.1 c4
    exact t_X6_readsStatement_280 C M3   w (lv_sub hl [] rfl) h
  replace h := h.2 c4
  refine lv_iconst (v := 1) hx hb dX6_readsStatement_276 (by decide) ?_
  refine lv_goto (tgt := 281) hx hb dX6_readsStatement_277 (by decide) ?_
  exact t_X6_readsStatement_281 C M3 (1 : Int32)  w (lv_sub hl [] rfl) h
set_option maxHeartbeats 4000000 in
set_option maxRecDepth 100000 in
theorem t_X6_readsStatement_247 (C : Cx G p s m args meth c RX6 cX6_readsStatement 3 (some .boolean)) {post : Int32 → Mem → Prop} (M : Mem) (y0 : Int32) {H : Heap} {locs : List Loc} {ls : Array Slot} (w : Wd G s M H locs) (hl : lv_has ls 3 [(0, .ref (ga G 57))]) (h : j_X6_readsStatement_247 post M y0) : W p l e (rmk 4) s m args below meth c H locs 0 0 (MQ below (va_Qi post (Qw G) (Af G s.heap.size)) args s 0 0 (Af G s.heap.size)) (F0 m 247 ls [.int y0]) := by
  have hx := C.1.1
  have hb := C.1.2.1
  unfold j_X6_readsStatement_247 at h
  refine lv_istore_n (lv' := [(2, .int y0), (0, .ref (ga G 57))]) hx hb dX6_readsStatement_247 rfl hl (by decide) rfl (fun ls hl => ?_)
  refine lv_goto (tgt := 263) hx hb dX6_readsStatement_248 (by decide) ?_
  exact t_X6_readsStatement_263 C M y0  w (lv_sub hl [1, 0] rfl) h
set_option maxHeartbeats 4000000 in
set_option maxRecDepth 100000 in
theorem t_X6_readsStatement_246 (C : Cx G p s m args meth c RX6 cX6_readsStatement 3 (some .boolean)) {post : Int32 → Mem → Prop} (M : Mem) {H : Heap} {locs : List Loc} {ls : Array Slot} (w : Wd G s M H locs) (hl : lv_has ls 3 [(0, .ref (ga G 57))]) (h : j_X6_readsStatement_246 post M) : W p l e (rmk 4) s m args below meth c H locs 0 0 (MQ below (va_Qi post (Qw G) (Af G s.heap.size)) args s 0 0 (Af G s.heap.size)) (F0 m 246 ls []) := by
  have hx := C.1.1
  have hb := C.1.2.1
  unfold j_X6_readsStatement_246 at h
  refine lv_iconst (v := 0) hx hb dX6_readsStatement_246 (by decide) ?_
  exact t_X6_readsStatement_247 C M (0 : Int32)  w (lv_sub hl [0] rfl) h
set_option maxHeartbeats 4000000 in
set_option maxRecDepth 100000 in
theorem t_X6_readsStatement_234 (C : Cx G p s m args meth c RX6 cX6_readsStatement 3 (some .boolean)) {post : Int32 → Mem → Prop} (M : Mem) {H : Heap} {locs : List Loc} {ls : Array Slot} (w : Wd G s M H locs) (hl : lv_has ls 3 [(0, .ref (ga G 57))]) (h : j_X6_readsStatement_234 post M) : W p l e (rmk 4) s m args below meth c H locs 0 0 (MQ below (va_Qi post (Qw G) (Af G s.heap.size)) args s 0 0 (Af G s.heap.size)) (F0 m 234 ls []) := by
  have hx := C.1.1
  have hb := C.1.2.1
  unfold j_X6_readsStatement_234 at h
  refine lv_aload_n hx hb dX6_readsStatement_234 rfl (lv_at hl 0 rfl) ?_
  refine lv_iconst (v := 3) hx hb dX6_readsStatement_235 (by decide) ?_
  refine end_i w (run_V (As := [.int (3 : Int32)]) C w hl.1 (c_X6_readsNumber l G C.2.2.1 _ _ (3 : Int32)  _ h) kw_12_19 kw_1_5 kw_12_16 kw_12_17 kw_12_18 hd_X6_readsNumber ⟨by decide, by decide⟩ (w.recv C (i := 57) (by decide) (pE_6) rfl) rfl (Nat.le_of_ble_eq_true rfl) dX6_readsStatement_236) (fun r5 M6 H locs h w => ?_)
  refine lv_if_eq (tgt := 246) hx hb dX6_readsStatement_239 (by decide) (fun c7 => ?_) (fun c7 => ?_)
  · replace h := h.1 c7
    exact t_X6_readsStatement_246 C M6   w (lv_sub hl [0] rfl) h
  replace h := h.2 c7
  refine lv_iconst (v := 1) hx hb dX6_readsStatement_242 (by decide) ?_
  refine lv_goto (tgt := 247) hx hb dX6_readsStatement_243 (by decide) ?_
  exact t_X6_readsStatement_247 C M6 (1 : Int32)  w (lv_sub hl [0] rfl) h
set_option maxHeartbeats 4000000 in
set_option maxRecDepth 100000 in
theorem t_X6_readsStatement_213 (C : Cx G p s m args meth c RX6 cX6_readsStatement 3 (some .boolean)) {post : Int32 → Mem → Prop} (M : Mem) (y0 : Int32) {H : Heap} {locs : List Loc} {ls : Array Slot} (w : Wd G s M H locs) (hl : lv_has ls 3 [(0, .ref (ga G 57))]) (h : j_X6_readsStatement_213 post M y0) : W p l e (rmk 4) s m args below meth c H locs 0 0 (MQ below (va_Qi post (Qw G) (Af G s.heap.size)) args s 0 0 (Af G s.heap.size)) (F0 m 213 ls [.int y0, .ref (ga G 57)]) := by
  have hx := C.1.1
  have hb := C.1.2.1
  unfold j_X6_readsStatement_213 at h
  refine pt_6_16 C w h.1 kw_12_11 dX6_readsStatement_213 (fun H locs w => ?_)
  replace h := h.2
  obtain ⟨M8, eM8⟩ : ∃ z : Mem, z = (mup M 57 16 y0) := ⟨_, rfl⟩
  replace w : Wd G s M8 H locs := by rw [eM8]; exact w
  replace h := h M8 eM8
  refine lv_aload_n hx hb dX6_readsStatement_216 rfl (lv_at hl 0 rfl) ?_
  refine lv_bipush (v := 43) hx hb dX6_readsStatement_217 (by decide) ?_
  refine end_i w (run_V (As := [.int (43 : Int32)]) C w hl.1 (c_X6_takes l G C.2.2.1 _ _ (43 : Int32)  _ h) kw_13_5 kw_1_5 kw_13_2 kw_13_3 kw_13_4 hd_X6_takes ⟨by decide, by decide⟩ (w.recv C (i := 57) (by decide) (pE_6) rfl) rfl (Nat.le_of_ble_eq_true rfl) dX6_readsStatement_219) (fun r9 M10 H locs h w => ?_)
  refine lv_if_ne (tgt := 234) hx hb dX6_readsStatement_222 (by decide) (fun c11 => ?_) (fun c11 => ?_)
  · replace h := h.2 c11
    exact t_X6_readsStatement_234 C M10   w (lv_sub hl [0] rfl) h
  replace h := h.1 c11
  refine lv_aload_n hx hb dX6_readsStatement_225 rfl (lv_at hl 0 rfl) ?_
  refine lv_bipush (v := 45) hx hb dX6_readsStatement_226 (by decide) ?_
  refine end_i w (run_V (As := [.int (45 : Int32)]) C w hl.1 (c_X6_takes l G C.2.2.1 _ _ (45 : Int32)  _ h) kw_13_5 kw_1_5 kw_13_2 kw_13_3 kw_13_4 hd_X6_takes ⟨by decide, by decide⟩ (w.recv C (i := 57) (by decide) (pE_6) rfl) rfl (Nat.le_of_ble_eq_true rfl) dX6_readsStatement_228) (fun r12 M13 H locs h w => ?_)
  refine lv_if_eq (tgt := 246) hx hb dX6_readsStatement_231 (by decide) (fun c14 => ?_) (fun c14 => ?_)
  · replace h := h.1 c14
    exact t_X6_readsStatement_246 C M13   w (lv_sub hl [0] rfl) h
  replace h := h.2 c14
  exact t_X6_readsStatement_234 C M13   w (lv_sub hl [0] rfl) h
set_option maxHeartbeats 4000000 in
set_option maxRecDepth 100000 in
theorem t_X6_readsStatement_194 (C : Cx G p s m args meth c RX6 cX6_readsStatement 3 (some .boolean)) {post : Int32 → Mem → Prop} (M : Mem) (y0 : Int32) {H : Heap} {locs : List Loc} {ls : Array Slot} (w : Wd G s M H locs) (hl : lv_has ls 3 [(0, .ref (ga G 57))]) (h : j_X6_readsStatement_194 post M y0) : W p l e (rmk 4) s m args below meth c H locs 0 0 (MQ below (va_Qi post (Qw G) (Af G s.heap.size)) args s 0 0 (Af G s.heap.size)) (F0 m 194 ls [.int y0]) := by
  have hx := C.1.1
  have hb := C.1.2.1
  unfold j_X6_readsStatement_194 at h
  refine lv_istore_n (lv' := [(2, .int y0), (0, .ref (ga G 57))]) hx hb dX6_readsStatement_194 rfl hl (by decide) rfl (fun ls hl => ?_)
  refine lv_goto (tgt := 263) hx hb dX6_readsStatement_195 (by decide) ?_
  exact t_X6_readsStatement_263 C M y0  w (lv_sub hl [1, 0] rfl) h
set_option maxHeartbeats 4000000 in
set_option maxRecDepth 100000 in
theorem t_X6_readsStatement_193 (C : Cx G p s m args meth c RX6 cX6_readsStatement 3 (some .boolean)) {post : Int32 → Mem → Prop} (M : Mem) {H : Heap} {locs : List Loc} {ls : Array Slot} (w : Wd G s M H locs) (hl : lv_has ls 3 [(0, .ref (ga G 57))]) (h : j_X6_readsStatement_193 post M) : W p l e (rmk 4) s m args below meth c H locs 0 0 (MQ below (va_Qi post (Qw G) (Af G s.heap.size)) args s 0 0 (Af G s.heap.size)) (F0 m 193 ls []) := by
  have hx := C.1.1
  have hb := C.1.2.1
  unfold j_X6_readsStatement_193 at h
  refine lv_iconst (v := 0) hx hb dX6_readsStatement_193 (by decide) ?_
  exact t_X6_readsStatement_194 C M (0 : Int32)  w (lv_sub hl [0] rfl) h
set_option maxHeartbeats 4000000 in
set_option maxRecDepth 100000 in
theorem t_X6_readsStatement_143 (C : Cx G p s m args meth c RX6 cX6_readsStatement 3 (some .boolean)) {post : Int32 → Mem → Prop} (M : Mem) (y0 : Int32) {H : Heap} {locs : List Loc} {ls : Array Slot} (w : Wd G s M H locs) (hl : lv_has ls 3 [(0, .ref (ga G 57))]) (h : j_X6_readsStatement_143 post M y0) : W p l e (rmk 4) s m args below meth c H locs 0 0 (MQ below (va_Qi post (Qw G) (Af G s.heap.size)) args s 0 0 (Af G s.heap.size)) (F0 m 143 ls [.int y0]) := by
  have hx := C.1.1
  have hb := C.1.2.1
  unfold j_X6_readsStatement_143 at h
  refine lv_istore_n (lv' := [(2, .int y0), (0, .ref (ga G 57))]) hx hb dX6_readsStatement_143 rfl hl (by decide) rfl (fun ls hl => ?_)
  refine lv_goto (tgt := 263) hx hb dX6_readsStatement_144 (by decide) ?_
  exact t_X6_readsStatement_263 C M y0  w (lv_sub hl [1, 0] rfl) h
set_option maxHeartbeats 4000000 in
set_option maxRecDepth 100000 in
theorem t_X6_readsStatement_142 (C : Cx G p s m args meth c RX6 cX6_readsStatement 3 (some .boolean)) {post : Int32 → Mem → Prop} (M : Mem) {H : Heap} {locs : List Loc} {ls : Array Slot} (w : Wd G s M H locs) (hl : lv_has ls 3 [(0, .ref (ga G 57))]) (h : j_X6_readsStatement_142 post M) : W p l e (rmk 4) s m args below meth c H locs 0 0 (MQ below (va_Qi post (Qw G) (Af G s.heap.size)) args s 0 0 (Af G s.heap.size)) (F0 m 142 ls []) := by
  have hx := C.1.1
  have hb := C.1.2.1
  unfold j_X6_readsStatement_142 at h
  refine lv_iconst (v := 0) hx hb dX6_readsStatement_142 (by decide) ?_
  exact t_X6_readsStatement_143 C M (0 : Int32)  w (lv_sub hl [0] rfl) h
set_option maxHeartbeats 4000000 in
set_option maxRecDepth 100000 in
theorem t_X6_readsStatement_109 (C : Cx G p s m args meth c RX6 cX6_readsStatement 3 (some .boolean)) {post : Int32 → Mem → Prop} (M : Mem) (y0 : Int32) {H : Heap} {locs : List Loc} {ls : Array Slot} (w : Wd G s M H locs) (hl : lv_has ls 3 [(0, .ref (ga G 57))]) (h : j_X6_readsStatement_109 post M y0) : W p l e (rmk 4) s m args below meth c H locs 0 0 (MQ below (va_Qi post (Qw G) (Af G s.heap.size)) args s 0 0 (Af G s.heap.size)) (F0 m 109 ls [.int y0]) := by
  have hx := C.1.1
  have hb := C.1.2.1
  unfold j_X6_readsStatement_109 at h
  refine lv_istore_n (lv' := [(2, .int y0), (0, .ref (ga G 57))]) hx hb dX6_readsStatement_109 rfl hl (by decide) rfl (fun ls hl => ?_)
  refine lv_goto (tgt := 263) hx hb dX6_readsStatement_110 (by decide) ?_
  exact t_X6_readsStatement_263 C M y0  w (lv_sub hl [1, 0] rfl) h
set_option maxHeartbeats 4000000 in
set_option maxRecDepth 100000 in
theorem t_X6_readsStatement_108 (C : Cx G p s m args meth c RX6 cX6_readsStatement 3 (some .boolean)) {post : Int32 → Mem → Prop} (M : Mem) {H : Heap} {locs : List Loc} {ls : Array Slot} (w : Wd G s M H locs) (hl : lv_has ls 3 [(0, .ref (ga G 57))]) (h : j_X6_readsStatement_108 post M) : W p l e (rmk 4) s m args below meth c H locs 0 0 (MQ below (va_Qi post (Qw G) (Af G s.heap.size)) args s 0 0 (Af G s.heap.size)) (F0 m 108 ls []) := by
  have hx := C.1.1
  have hb := C.1.2.1
  unfold j_X6_readsStatement_108 at h
  refine lv_iconst (v := 0) hx hb dX6_readsStatement_108 (by decide) ?_
  exact t_X6_readsStatement_109 C M (0 : Int32)  w (lv_sub hl [0] rfl) h
set_option maxHeartbeats 4000000 in
set_option maxRecDepth 100000 in
theorem c_X6_readsStatement (l : Launch) (G : GG) (hG : Ag G) (sz : Nat) (M : Mem) (post : Int32 → Mem → Prop) (h : q_X6_readsStatement M post) : Met l yX6_readsStatement (Cond.code yX6_readsStatement cX6_readsStatement 3 (some .boolean) :: wsL_law) (rmk 4) (va_Pc [.ref (ga G 57)] (Pw G sz M)) (va_Qi post (Qw G) (Af G sz)) 0 0 (Af G sz) := by
  refine Met.ofW (cc := cX6_readsStatement) (maxL := 3) (ret := (some .boolean)) (by decide) rfl ?_
  intro p e s m args below meth c s₁ B hml hv
  obtain ⟨rfl, hsz, hE, hP⟩ := hv
  subst hsz
  have C := Cx.of (own := RX6) hG hE rfl hml B
  have w : Wd G s M s.heap [] := ⟨hP, va_S.rf⟩
  have hl := lv_entry [.ref (ga G 57)] (n := 3) (Nat.le_of_ble_eq_true rfl)
  rw [lg_entry_eq]
  generalize (lg_sl [.ref (ga G 57)] ++ List.replicate (3 - (lg_sl [.ref (ga G 57)]).length) Slot.unset).toArray = ls at hl ⊢
  have hl : lv_has ls 3 [(0, .ref (ga G 57))] := hl
  have hx := C.1.1
  have hb := C.1.2.1
  show W p l e (rmk 4) s m _ below meth c s.heap [] 0 0 _ _
  unfold q_X6_readsStatement at h
  refine lv_aload_n hx hb dX6_readsStatement_0 rfl (lv_at hl 0 rfl) ?_
  refine end_i w (run_V (As := []) C w hl.1 (c_X6_here l G C.2.2.1 _ _   _ h) kw_12_15 kw_1_5 kw_12_12 kw_12_13 kw_12_14 hd_X6_here ⟨by decide, by decide⟩ (w.recv C (i := 57) (by decide) (pE_6) rfl) rfl (Nat.le_of_ble_eq_true rfl) dX6_readsStatement_1) (fun r15 M16 H locs h w => ?_)
  refine lv_istore_n (lv' := [(1, .int r15), (0, .ref (ga G 57))]) hx hb dX6_readsStatement_4 rfl hl (by decide) rfl (fun ls hl => ?_)
  refine lv_aload_n hx hb dX6_readsStatement_5 rfl (lv_at hl 1 rfl) ?_
  refine lv_iconst (v := 0) hx hb dX6_readsStatement_6 (by decide) ?_
  refine pt_6_15 C w kw_12_10 dX6_readsStatement_7 (fun H locs w => ?_)
  obtain ⟨M17, eM17⟩ : ∃ z : Mem, z = (mup M16 57 15 (0 : Int32)) := ⟨_, rfl⟩
  replace w : Wd G s M17 H locs := by rw [eM17]; exact w
  replace h := h M17 eM17
  refine lv_iconst (v := 0) hx hb dX6_readsStatement_10 (by decide) ?_
  refine lv_istore_n (lv' := [(2, .int (0 : Int32)), (1, .int r15), (0, .ref (ga G 57))]) hx hb dX6_readsStatement_11 rfl hl (by decide) rfl (fun ls hl => ?_)
  refine lv_aload_n hx hb dX6_readsStatement_12 rfl (lv_at hl 2 rfl) ?_
  refine lv_dup hx hb dX6_readsStatement_13 rfl ?_
  refine gt_6_12 C w kw_11_18 dX6_readsStatement_14 ?_
  refine lv_iconst (v := 1) hx hb dX6_readsStatement_17 (by decide) ?_
  refine lv_iadd hx hb dX6_readsStatement_18 ?_
  refine pt_6_12 C w kw_11_18 dX6_readsStatement_19 (fun H locs w => ?_)
  obtain ⟨M18, eM18⟩ : ∃ z : Mem, z = (mup M17 57 12 ((M17 57 12) + (1 : Int32))) := ⟨_, rfl⟩
  replace w : Wd G s M18 H locs := by rw [eM18]; exact w
  replace h := h M18 eM18
  refine lv_iload_n hx hb dX6_readsStatement_22 rfl (lv_at hl 1 rfl) ?_
  by_cases c19 : r15 = (97 : Int32)
  · replace h := h.1 c19
    refine lv_lookup (off := 175) (tgt := 198) hx hb dX6_readsStatement_23 (by decide) (by rw [c19]; decide) (by decide) ?_
    refine lv_aload_n hx hb dX6_readsStatement_198 rfl (lv_at hl 2 rfl) ?_
    refine lv_aload_n hx hb dX6_readsStatement_199 rfl (lv_at hl 2 rfl) ?_
    refine end_i w (run_V (As := []) C w hl.1 (c_X6_here l G C.2.2.1 _ _   _ h) kw_12_15 kw_1_5 kw_12_12 kw_12_13 kw_12_14 hd_X6_here ⟨by decide, by decide⟩ (w.recv C (i := 57) (by decide) (pE_6) rfl) rfl (Nat.le_of_ble_eq_true rfl) dX6_readsStatement_200) (fun r20 M21 H locs h w => ?_)
    refine lv_bipush (v := 45) hx hb dX6_readsStatement_203 (by decide) ?_
    refine lv_icmp_ne (tgt := 212) hx hb dX6_readsStatement_205 (by decide) (fun c22 => ?_) (fun c22 => ?_)
    · replace h := h.2 c22
      refine lv_iconst (v := 0) hx hb dX6_readsStatement_212 (by decide) ?_
      exact t_X6_readsStatement_213 C M21 (0 : Int32)  w (lv_sub hl [2] rfl) h
    replace h := h.1 c22
    refine lv_iconst (v := 1) hx hb dX6_readsStatement_208 (by decide) ?_
    refine lv_goto (tgt := 213) hx hb dX6_readsStatement_209 (by decide) ?_
    exact t_X6_readsStatement_213 C M21 (1 : Int32)  w (lv_sub hl [2] rfl) h
  replace h := h.2 c19
  by_cases c23 : r15 = (100 : Int32)
  · replace h := h.1 c23
    refine lv_lookup (off := 133) (tgt := 156) hx hb dX6_readsStatement_23 (by decide) (by rw [c23]; decide) (by decide) ?_
    refine lv_aload_n hx hb dX6_readsStatement_156 rfl (lv_at hl 2 rfl) ?_
    refine lv_iconst (v := 3) hx hb dX6_readsStatement_157 (by decide) ?_
    refine end_i w (run_V (As := [.int (3 : Int32)]) C w hl.1 (c_X6_readsNumber l G C.2.2.1 _ _ (3 : Int32)  _ h) kw_12_19 kw_1_5 kw_12_16 kw_12_17 kw_12_18 hd_X6_readsNumber ⟨by decide, by decide⟩ (w.recv C (i := 57) (by decide) (pE_6) rfl) rfl (Nat.le_of_ble_eq_true rfl) dX6_readsStatement_158) (fun r24 M25 H locs h w => ?_)
    refine lv_istore_n (lv' := [(2, .int r24), (1, .int r15), (0, .ref (ga G 57))]) hx hb dX6_readsStatement_161 rfl hl (by decide) rfl (fun ls hl => ?_)
    refine lv_goto (tgt := 263) hx hb dX6_readsStatement_162 (by decide) ?_
    exact t_X6_readsStatement_263 C M25 r24  w (lv_sub hl [2, 0] rfl) h
  replace h := h.2 c23
  by_cases c26 : r15 = (112 : Int32)
  · replace h := h.1 c26
    refine lv_lookup (off := 57) (tgt := 80) hx hb dX6_readsStatement_23 (by decide) (by rw [c26]; decide) (by decide) ?_
    refine lv_aload_n hx hb dX6_readsStatement_80 rfl (lv_at hl 2 rfl) ?_
    refine lv_iconst (v := 1) hx hb dX6_readsStatement_81 (by decide) ?_
    refine end_i w (run_V (As := [.int (1 : Int32)]) C w hl.1 (c_X6_readsNumber l G C.2.2.1 _ _ (1 : Int32)  _ h) kw_12_19 kw_1_5 kw_12_16 kw_12_17 kw_12_18 hd_X6_readsNumber ⟨by decide, by decide⟩ (w.recv C (i := 57) (by decide) (pE_6) rfl) rfl (Nat.le_of_ble_eq_true rfl) dX6_readsStatement_82) (fun r27 M28 H locs h w => ?_)
    refine lv_if_eq (tgt := 108) hx hb dX6_readsStatement_85 (by decide) (fun c29 => ?_) (fun c29 => ?_)
    · replace h := h.1 c29
      exact t_X6_readsStatement_108 C M28   w (lv_sub hl [2] rfl) h
    replace h := h.2 c29
    refine lv_aload_n hx hb dX6_readsStatement_88 rfl (lv_at hl 2 rfl) ?_
    refine lv_iconst (v := 1) hx hb dX6_readsStatement_89 (by decide) ?_
    refine end_i w (run_V (As := [.int (1 : Int32)]) C w hl.1 (c_X6_readsNumber l G C.2.2.1 _ _ (1 : Int32)  _ h) kw_12_19 kw_1_5 kw_12_16 kw_12_17 kw_12_18 hd_X6_readsNumber ⟨by decide, by decide⟩ (w.recv C (i := 57) (by decide) (pE_6) rfl) rfl (Nat.le_of_ble_eq_true rfl) dX6_readsStatement_90) (fun r30 M31 H locs h w => ?_)
    refine lv_if_eq (tgt := 108) hx hb dX6_readsStatement_93 (by decide) (fun c32 => ?_) (fun c32 => ?_)
    · replace h := h.1 c32
      exact t_X6_readsStatement_108 C M31   w (lv_sub hl [2] rfl) h
    replace h := h.2 c32
    refine lv_aload_n hx hb dX6_readsStatement_96 rfl (lv_at hl 2 rfl) ?_
    refine lv_iconst (v := 3) hx hb dX6_readsStatement_97 (by decide) ?_
    refine end_i w (run_V (As := [.int (3 : Int32)]) C w hl.1 (c_X6_readsNumber l G C.2.2.1 _ _ (3 : Int32)  _ h) kw_12_19 kw_1_5 kw_12_16 kw_12_17 kw_12_18 hd_X6_readsNumber ⟨by decide, by decide⟩ (w.recv C (i := 57) (by decide) (pE_6) rfl) rfl (Nat.le_of_ble_eq_true rfl) dX6_readsStatement_98) (fun r33 M34 H locs h w => ?_)
    refine lv_if_eq (tgt := 108) hx hb dX6_readsStatement_101 (by decide) (fun c35 => ?_) (fun c35 => ?_)
    · replace h := h.1 c35
      exact t_X6_readsStatement_108 C M34   w (lv_sub hl [2] rfl) h
    replace h := h.2 c35
    refine lv_iconst (v := 1) hx hb dX6_readsStatement_104 (by decide) ?_
    refine lv_goto (tgt := 109) hx hb dX6_readsStatement_105 (by decide) ?_
    exact t_X6_readsStatement_109 C M34 (1 : Int32)  w (lv_sub hl [2] rfl) h
  replace h := h.2 c26
  by_cases c36 : r15 = (115 : Int32)
  · replace h := h.1 c36
    refine lv_lookup (off := 90) (tgt := 113) hx hb dX6_readsStatement_23 (by decide) (by rw [c36]; decide) (by decide) ?_
    refine lv_aload_n hx hb dX6_readsStatement_113 rfl (lv_at hl 2 rfl) ?_
    refine lv_iconst (v := 3) hx hb dX6_readsStatement_114 (by decide) ?_
    refine end_i w (run_V (As := [.int (3 : Int32)]) C w hl.1 (c_X6_readsNumber l G C.2.2.1 _ _ (3 : Int32)  _ h) kw_12_19 kw_1_5 kw_12_16 kw_12_17 kw_12_18 hd_X6_readsNumber ⟨by decide, by decide⟩ (w.recv C (i := 57) (by decide) (pE_6) rfl) rfl (Nat.le_of_ble_eq_true rfl) dX6_readsStatement_115) (fun r37 M38 H locs h w => ?_)
    refine lv_if_eq (tgt := 142) hx hb dX6_readsStatement_118 (by decide) (fun c39 => ?_) (fun c39 => ?_)
    · replace h := h.1 c39
      exact t_X6_readsStatement_142 C M38   w (lv_sub hl [2] rfl) h
    replace h := h.2 c39
    refine lv_aload_n hx hb dX6_readsStatement_121 rfl (lv_at hl 2 rfl) ?_
    refine lv_bipush (v := 32) hx hb dX6_readsStatement_122 (by decide) ?_
    refine end_i w (run_V (As := [.int (32 : Int32)]) C w hl.1 (c_X6_takes l G C.2.2.1 _ _ (32 : Int32)  _ h) kw_13_5 kw_1_5 kw_13_2 kw_13_3 kw_13_4 hd_X6_takes ⟨by decide, by decide⟩ (w.recv C (i := 57) (by decide) (pE_6) rfl) rfl (Nat.le_of_ble_eq_true rfl) dX6_readsStatement_124) (fun r40 M41 H locs h w => ?_)
    refine lv_if_eq (tgt := 142) hx hb dX6_readsStatement_127 (by decide) (fun c42 => ?_) (fun c42 => ?_)
    · replace h := h.1 c42
      exact t_X6_readsStatement_142 C M41   w (lv_sub hl [2] rfl) h
    replace h := h.2 c42
    refine lv_aload_n hx hb dX6_readsStatement_130 rfl (lv_at hl 2 rfl) ?_
    refine lv_iconst (v := 3) hx hb dX6_readsStatement_131 (by decide) ?_
    refine end_i w (run_V (As := [.int (3 : Int32)]) C w hl.1 (c_X6_readsNumber l G C.2.2.1 _ _ (3 : Int32)  _ h) kw_12_19 kw_1_5 kw_12_16 kw_12_17 kw_12_18 hd_X6_readsNumber ⟨by decide, by decide⟩ (w.recv C (i := 57) (by decide) (pE_6) rfl) rfl (Nat.le_of_ble_eq_true rfl) dX6_readsStatement_132) (fun r43 M44 H locs h w => ?_)
    refine lv_if_eq (tgt := 142) hx hb dX6_readsStatement_135 (by decide) (fun c45 => ?_) (fun c45 => ?_)
    · replace h := h.1 c45
      exact t_X6_readsStatement_142 C M44   w (lv_sub hl [2] rfl) h
    replace h := h.2 c45
    refine lv_iconst (v := 1) hx hb dX6_readsStatement_138 (by decide) ?_
    refine lv_goto (tgt := 143) hx hb dX6_readsStatement_139 (by decide) ?_
    exact t_X6_readsStatement_143 C M44 (1 : Int32)  w (lv_sub hl [2] rfl) h
  replace h := h.2 c36
  by_cases c46 : r15 = (118 : Int32)
  · replace h := h.1 c46
    refine lv_lookup (off := 124) (tgt := 147) hx hb dX6_readsStatement_23 (by decide) (by rw [c46]; decide) (by decide) ?_
    refine lv_aload_n hx hb dX6_readsStatement_147 rfl (lv_at hl 2 rfl) ?_
    refine lv_iconst (v := 1) hx hb dX6_readsStatement_148 (by decide) ?_
    refine end_i w (run_V (As := [.int (1 : Int32)]) C w hl.1 (c_X6_readsNumber l G C.2.2.1 _ _ (1 : Int32)  _ h) kw_12_19 kw_1_5 kw_12_16 kw_12_17 kw_12_18 hd_X6_readsNumber ⟨by decide, by decide⟩ (w.recv C (i := 57) (by decide) (pE_6) rfl) rfl (Nat.le_of_ble_eq_true rfl) dX6_readsStatement_149) (fun r47 M48 H locs h w => ?_)
    refine lv_istore_n (lv' := [(2, .int r47), (1, .int r15), (0, .ref (ga G 57))]) hx hb dX6_readsStatement_152 rfl hl (by decide) rfl (fun ls hl => ?_)
    refine lv_goto (tgt := 263) hx hb dX6_readsStatement_153 (by decide) ?_
    exact t_X6_readsStatement_263 C M48 r47  w (lv_sub hl [2, 0] rfl) h
  replace h := h.2 c46
  by_cases c49 : r15 = (121 : Int32)
  · replace h := h.1 c49
    refine lv_lookup (off := 142) (tgt := 165) hx hb dX6_readsStatement_23 (by decide) (by rw [c49]; decide) (by decide) ?_
    refine lv_aload_n hx hb dX6_readsStatement_165 rfl (lv_at hl 2 rfl) ?_
    refine lv_iconst (v := 1) hx hb dX6_readsStatement_166 (by decide) ?_
    refine end_i w (run_V (As := [.int (1 : Int32)]) C w hl.1 (c_X6_readsNumber l G C.2.2.1 _ _ (1 : Int32)  _ h) kw_12_19 kw_1_5 kw_12_16 kw_12_17 kw_12_18 hd_X6_readsNumber ⟨by decide, by decide⟩ (w.recv C (i := 57) (by decide) (pE_6) rfl) rfl (Nat.le_of_ble_eq_true rfl) dX6_readsStatement_167) (fun r50 M51 H locs h w => ?_)
    refine lv_if_eq (tgt := 193) hx hb dX6_readsStatement_170 (by decide) (fun c52 => ?_) (fun c52 => ?_)
    · replace h := h.1 c52
      exact t_X6_readsStatement_193 C M51   w (lv_sub hl [2] rfl) h
    replace h := h.2 c52
    refine lv_aload_n hx hb dX6_readsStatement_173 rfl (lv_at hl 2 rfl) ?_
    refine lv_iconst (v := 1) hx hb dX6_readsStatement_174 (by decide) ?_
    refine end_i w (run_V (As := [.int (1 : Int32)]) C w hl.1 (c_X6_readsNumber l G C.2.2.1 _ _ (1 : Int32)  _ h) kw_12_19 kw_1_5 kw_12_16 kw_12_17 kw_12_18 hd_X6_readsNumber ⟨by decide, by decide⟩ (w.recv C (i := 57) (by decide) (pE_6) rfl) rfl (Nat.le_of_ble_eq_true rfl) dX6_readsStatement_175) (fun r53 M54 H locs h w => ?_)
    refine lv_if_eq (tgt := 193) hx hb dX6_readsStatement_178 (by decide) (fun c55 => ?_) (fun c55 => ?_)
    · replace h := h.1 c55
      exact t_X6_readsStatement_193 C M54   w (lv_sub hl [2] rfl) h
    replace h := h.2 c55
    refine lv_aload_n hx hb dX6_readsStatement_181 rfl (lv_at hl 2 rfl) ?_
    refine lv_iconst (v := 1) hx hb dX6_readsStatement_182 (by decide) ?_
    refine end_i w (run_V (As := [.int (1 : Int32)]) C w hl.1 (c_X6_readsNumber l G C.2.2.1 _ _ (1 : Int32)  _ h) kw_12_19 kw_1_5 kw_12_16 kw_12_17 kw_12_18 hd_X6_readsNumber ⟨by decide, by decide⟩ (w.recv C (i := 57) (by decide) (pE_6) rfl) rfl (Nat.le_of_ble_eq_true rfl) dX6_readsStatement_183) (fun r56 M57 H locs h w => ?_)
    refine lv_if_eq (tgt := 193) hx hb dX6_readsStatement_186 (by decide) (fun c58 => ?_) (fun c58 => ?_)
    · replace h := h.1 c58
      exact t_X6_readsStatement_193 C M57   w (lv_sub hl [2] rfl) h
    replace h := h.2 c58
    refine lv_iconst (v := 1) hx hb dX6_readsStatement_189 (by decide) ?_
    refine lv_goto (tgt := 194) hx hb dX6_readsStatement_190 (by decide) ?_
    exact t_X6_readsStatement_194 C M57 (1 : Int32)  w (lv_sub hl [2] rfl) h
  replace h := h.2 c49
  refine lv_lookup (off := 228) (tgt := 251) hx hb dX6_readsStatement_23 (by decide) ((lv_osw c19 (by decide)).trans ((lv_osw c23 (by decide)).trans ((lv_osw c26 (by decide)).trans ((lv_osw c36 (by decide)).trans ((lv_osw c46 (by decide)).trans ((lv_osw c49 (by decide)).trans rfl)))))) (by decide) ?_
  refine lv_aload_n hx hb dX6_readsStatement_251 rfl (lv_at hl 2 rfl) ?_
  refine lv_dup hx hb dX6_readsStatement_252 rfl ?_
  refine gt_6_12 C w kw_11_18 dX6_readsStatement_253 ?_
  refine lv_iconst (v := 1) hx hb dX6_readsStatement_256 (by decide) ?_
  refine lv_isub hx hb dX6_readsStatement_257 ?_
  refine pt_6_12 C w kw_11_18 dX6_readsStatement_258 (fun H locs w => ?_)
  obtain ⟨M59, eM59⟩ : ∃ z : Mem, z = (mup M18 57 12 ((M18 57 12) - (1 : Int32))) := ⟨_, rfl⟩
  replace w : Wd G s M59 H locs := by rw [eM59]; exact w
  replace h := h M59 eM59
  refine lv_iconst (v := 0) hx hb dX6_readsStatement_261 (by decide) ?_
  exact ret_z C w ⟨Or.inl rfl, h⟩ dX6_readsStatement_262
def q_X6_isShelf (M : Mem) (x0 : Int32) (post : Int32 → Mem → Prop) : Prop := q_X6_isIn M x0.toInt64 (0 : Int64) (7 : Int64) (fun r1 M2 => (r1 = 0 ∨ r1 = 1) ∧ post r1 M2)
set_option maxHeartbeats 4000000 in
set_option maxRecDepth 100000 in
theorem c_X6_isShelf (l : Launch) (G : GG) (hG : Ag G) (sz : Nat) (M : Mem) (x0 : Int32) (post : Int32 → Mem → Prop) (h : q_X6_isShelf M x0 post) : Met l yX6_isShelf (Cond.code yX6_isShelf cX6_isShelf 1 (some .boolean) :: wsL_law) (rmk 2) (va_Pc [.int x0] (Pw G sz M)) (va_Qi post (Qw G) (Af G sz)) 0 0 (Af G sz) := by
  refine Met.ofW (cc := cX6_isShelf) (maxL := 1) (ret := (some .boolean)) (by decide) rfl ?_
  intro p e s m args below meth c s₁ B hml hv
  obtain ⟨rfl, hsz, hE, hP⟩ := hv
  subst hsz
  have C := Cx.of (own := RX6) hG hE rfl hml B
  have w : Wd G s M s.heap [] := ⟨hP, va_S.rf⟩
  have hl := lv_entry [.int x0] (n := 1) (Nat.le_of_ble_eq_true rfl)
  rw [lg_entry_eq]
  generalize (lg_sl [.int x0] ++ List.replicate (1 - (lg_sl [.int x0]).length) Slot.unset).toArray = ls at hl ⊢
  have hl : lv_has ls 1 [(0, .int x0)] := hl
  have hx := C.1.1
  have hb := C.1.2.1
  show W p l e (rmk 2) s m _ below meth c s.heap [] 0 0 _ _
  unfold q_X6_isShelf at h
  refine lv_iload_n hx hb dX6_isShelf_0 rfl (lv_at hl 0 rfl) ?_
  refine lv_i2l hx hb dX6_isShelf_1 rfl ?_
  refine lv_lconst (v := 0) hx hb dX6_isShelf_2 (by decide) ?_
  refine lv_ldc2 hx hb C.1.2.2.2.1 (C.ws kw_12_2) dX6_isShelf_3 ?_
  refine end_i w (run_S (As := [.long x0.toInt64, .long (0 : Int64), .long (7 : Int64)]) C w hl.1 (c_X6_isIn l G C.2.2.1 _ _ x0.toInt64 (0 : Int64) (7 : Int64)  _ h) kw_12_5 kw_1_5 kw_12_3 kw_12_4 hd_X6_isIn ⟨by decide, by decide⟩ rfl (Nat.le_of_ble_eq_true rfl) dX6_isShelf_6) (fun r1 M2 H locs h w => ?_)
  exact ret_z C w h dX6_isShelf_9
def j_X6_wrongRow_55 (post : Int32 → Mem → Prop) (M : Mem) (y0 : Int32) : Prop := post y0 M
def j_X6_wrongRow_54 (post : Int32 → Mem → Prop) (M : Mem) : Prop := j_X6_wrongRow_55 post M (0 : Int32)
def j_X6_wrongRow_49 (post : Int32 → Mem → Prop) (M : Mem) : Prop := j_X6_wrongRow_55 post M (-12 : Int32)
def q_X6_wrongRow (M : Mem) (x1 : Int32) (x2 : Int32) (post : Int32 → Mem → Prop) : Prop := q_X6_isShelf M x1 (fun r1 M2 => (r1 = 0 → (j_X6_wrongRow_55 post M2 (-1 : Int32))) ∧ (¬ (r1 = 0) → (vp_in x1 8 ∧ (((M2 62 x1.toNatClampNeg) = 0 → (j_X6_wrongRow_55 post M2 (-11 : Int32))) ∧ (¬ ((M2 62 x1.toNatClampNeg) = 0) → (((M2 62 x1.toNatClampNeg) = (2 : Int32) → ((x2 < 0 → (j_X6_wrongRow_54 post M2)) ∧ (¬ (x2 < 0) → (((M2 63 x1.toNatClampNeg) = x2 → (j_X6_wrongRow_54 post M2)) ∧ (¬ ((M2 63 x1.toNatClampNeg) = x2) → (j_X6_wrongRow_49 post M2)))))) ∧ (¬ ((M2 62 x1.toNatClampNeg) = (2 : Int32)) → (j_X6_wrongRow_49 post M2))))))))
set_option maxHeartbeats 4000000 in
set_option maxRecDepth 100000 in
theorem t_X6_wrongRow_55 (C : Cx G p s m args meth c RX6 cX6_wrongRow 3 (some .int)) {post : Int32 → Mem → Prop} (M : Mem) (y0 : Int32) {H : Heap} {locs : List Loc} {ls : Array Slot} (w : Wd G s M H locs) (hl : lv_has ls 3 []) (h : j_X6_wrongRow_55 post M y0) : W p l e (rmk 3) s m args below meth c H locs 0 0 (MQ below (va_Qi post (Qw G) (Af G s.heap.size)) args s 0 0 (Af G s.heap.size)) (F0 m 55 ls [.int y0]) := by
  have hx := C.1.1
  have hb := C.1.2.1
  unfold j_X6_wrongRow_55 at h
  exact ret_i C w h dX6_wrongRow_55
set_option maxHeartbeats 4000000 in
set_option maxRecDepth 100000 in
theorem t_X6_wrongRow_54 (C : Cx G p s m args meth c RX6 cX6_wrongRow 3 (some .int)) {post : Int32 → Mem → Prop} (M : Mem) {H : Heap} {locs : List Loc} {ls : Array Slot} (w : Wd G s M H locs) (hl : lv_has ls 3 []) (h : j_X6_wrongRow_54 post M) : W p l e (rmk 3) s m args below meth c H locs 0 0 (MQ below (va_Qi post (Qw G) (Af G s.heap.size)) args s 0 0 (Af G s.heap.size)) (F0 m 54 ls []) := by
  have hx := C.1.1
  have hb := C.1.2.1
  unfold j_X6_wrongRow_54 at h
  refine lv_iconst (v := 0) hx hb dX6_wrongRow_54 (by decide) ?_
  exact t_X6_wrongRow_55 C M (0 : Int32)  w (lv_sub hl [] rfl) h
set_option maxHeartbeats 4000000 in
set_option maxRecDepth 100000 in
theorem t_X6_wrongRow_49 (C : Cx G p s m args meth c RX6 cX6_wrongRow 3 (some .int)) {post : Int32 → Mem → Prop} (M : Mem) {H : Heap} {locs : List Loc} {ls : Array Slot} (w : Wd G s M H locs) (hl : lv_has ls 3 []) (h : j_X6_wrongRow_49 post M) : W p l e (rmk 3) s m args below meth c H locs 0 0 (MQ below (va_Qi post (Qw G) (Af G s.heap.size)) args s 0 0 (Af G s.heap.size)) (F0 m 49 ls []) := by
  have hx := C.1.1
  have hb := C.1.2.1
  unfold j_X6_wrongRow_49 at h
  refine lv_bipush (v := -12) hx hb dX6_wrongRow_49 (by decide) ?_
  refine lv_goto (tgt := 55) hx hb dX6_wrongRow_51 (by decide) ?_
  exact t_X6_wrongRow_55 C M (-12 : Int32)  w (lv_sub hl [] rfl) h
set_option maxHeartbeats 4000000 in
set_option maxRecDepth 100000 in
theorem c_X6_wrongRow (l : Launch) (G : GG) (hG : Ag G) (sz : Nat) (M : Mem) (x1 : Int32) (x2 : Int32) (post : Int32 → Mem → Prop) (h : q_X6_wrongRow M x1 x2 post) : Met l yX6_wrongRow (Cond.code yX6_wrongRow cX6_wrongRow 3 (some .int) :: wsL_law) (rmk 3) (va_Pc [.ref (ga G 57), .int x1, .int x2] (Pw G sz M)) (va_Qi post (Qw G) (Af G sz)) 0 0 (Af G sz) := by
  refine Met.ofW (cc := cX6_wrongRow) (maxL := 3) (ret := (some .int)) (by decide) rfl ?_
  intro p e s m args below meth c s₁ B hml hv
  obtain ⟨rfl, hsz, hE, hP⟩ := hv
  subst hsz
  have C := Cx.of (own := RX6) hG hE rfl hml B
  have w : Wd G s M s.heap [] := ⟨hP, va_S.rf⟩
  have hl := lv_entry [.ref (ga G 57), .int x1, .int x2] (n := 3) (Nat.le_of_ble_eq_true rfl)
  rw [lg_entry_eq]
  generalize (lg_sl [.ref (ga G 57), .int x1, .int x2] ++ List.replicate (3 - (lg_sl [.ref (ga G 57), .int x1, .int x2]).length) Slot.unset).toArray = ls at hl ⊢
  have hl : lv_has ls 3 [(0, .ref (ga G 57)), (1, .int x1), (2, .int x2)] := hl
  have hx := C.1.1
  have hb := C.1.2.1
  show W p l e (rmk 3) s m _ below meth c s.heap [] 0 0 _ _
  unfold q_X6_wrongRow at h
  refine lv_iload_n hx hb dX6_wrongRow_0 rfl (lv_at hl 1 rfl) ?_
  refine end_i w (run_S (As := [.int x1]) C w hl.1 (c_X6_isShelf l G C.2.2.1 _ _ x1  _ h) kw_12_1 kw_1_5 kw_11_23 kw_12_0 hd_X6_isShelf ⟨by decide, by decide⟩ rfl (Nat.le_of_ble_eq_true rfl) dX6_wrongRow_1) (fun r1 M2 H locs h w => ?_)
  refine lv_if_ne (tgt := 11) hx hb dX6_wrongRow_4 (by decide) (fun c3 => ?_) (fun c3 => ?_)
  · replace h := h.2 c3
    refine lv_aload_n hx hb dX6_wrongRow_11 rfl (lv_at hl 0 rfl) ?_
    refine gt_6_4 C w kw_5_4 dX6_wrongRow_12 ?_
    refine lv_iload_n hx hb dX6_wrongRow_15 rfl (lv_at hl 1 rfl) ?_
    have hin4 := h.1
    replace h := h.2
    have hz_hin4 := in_lt hin4
    refine pw_ld C w (i := 62) (by decide) pE_62 hin4 rfl dX6_wrongRow_16 ?_
    refine lv_if_ne (tgt := 25) hx hb dX6_wrongRow_17 (by decide) (fun c5 => ?_) (fun c5 => ?_)
    · replace h := h.2 c5
      refine lv_aload_n hx hb dX6_wrongRow_25 rfl (lv_at hl 0 rfl) ?_
      refine gt_6_4 C w kw_5_4 dX6_wrongRow_26 ?_
      refine lv_iload_n hx hb dX6_wrongRow_29 rfl (lv_at hl 1 rfl) ?_
      refine pw_ld C w (i := 62) (by decide) pE_62 hin4 rfl dX6_wrongRow_30 ?_
      refine lv_iconst (v := 2) hx hb dX6_wrongRow_31 (by decide) ?_
      refine lv_icmp_ne (tgt := 49) hx hb dX6_wrongRow_32 (by decide) (fun c6 => ?_) (fun c6 => ?_)
      · replace h := h.2 c6
        exact t_X6_wrongRow_49 C M2   w (lv_sub hl [] rfl) h
      replace h := h.1 c6
      refine lv_iload_n hx hb dX6_wrongRow_35 rfl (lv_at hl 2 rfl) ?_
      refine lv_if_lt (tgt := 54) hx hb dX6_wrongRow_36 (by decide) (fun c7 => ?_) (fun c7 => ?_)
      · replace h := h.1 c7
        exact t_X6_wrongRow_54 C M2   w (lv_sub hl [] rfl) h
      replace h := h.2 c7
      refine lv_aload_n hx hb dX6_wrongRow_39 rfl (lv_at hl 0 rfl) ?_
      refine gt_6_5 C w kw_5_5 dX6_wrongRow_40 ?_
      refine lv_iload_n hx hb dX6_wrongRow_43 rfl (lv_at hl 1 rfl) ?_
      refine pw_ld C w (i := 63) (by decide) pE_63 hin4 rfl dX6_wrongRow_44 ?_
      refine lv_iload_n hx hb dX6_wrongRow_45 rfl (lv_at hl 2 rfl) ?_
      refine lv_icmp_eq (tgt := 54) hx hb dX6_wrongRow_46 (by decide) (fun c8 => ?_) (fun c8 => ?_)
      · replace h := h.1 c8
        exact t_X6_wrongRow_54 C M2   w (lv_sub hl [] rfl) h
      replace h := h.2 c8
      exact t_X6_wrongRow_49 C M2   w (lv_sub hl [] rfl) h
    replace h := h.1 c5
    refine lv_bipush (v := -11) hx hb dX6_wrongRow_20 (by decide) ?_
    refine lv_goto (tgt := 55) hx hb dX6_wrongRow_22 (by decide) ?_
    exact t_X6_wrongRow_55 C M2 (-11 : Int32)  w (lv_sub hl [] rfl) h
  replace h := h.1 c3
  refine lv_iconst (v := -1) hx hb dX6_wrongRow_7 (by decide) ?_
  refine lv_goto (tgt := 55) hx hb dX6_wrongRow_8 (by decide) ?_
  exact t_X6_wrongRow_55 C M2 (-1 : Int32)  w (lv_sub hl [] rfl) h
def b_X6_tow_84 (k84 : Mem → Int32 → Prop) (post : Int32 → Mem → Prop) (M : Mem) (x3 : Int32) : Prop := ((M 57 14) ≤ (M 57 12) → (q_X6_copies M 60 58 (fun M3 => post x3 M3))) ∧ (¬ ((M 57 14) ≤ (M 57 12)) → (q_X6_here M  (fun r4 M5 => q_X6_readsStatement M5  (fun r6 M7 => q_X6_comes M7 r4 (fun r8 M9 => (r8 = 0 → (post ((-2000 : Int32) - (M 57 12)) M9)) ∧ (¬ (r8 = 0) → (k84 M9 x3)))))))
def lp_X6_tow_84 (post : Int32 → Mem → Prop) : Nat → Mem → Int32 → Prop
  | 0 => fun _ _ => False
  | n + 1 => fun M x3 => b_X6_tow_84 (lp_X6_tow_84 post n) post M x3
def b_X6_tow_38 (k38 : Mem → Int32 → Prop) (post : Int32 → Mem → Prop) (M : Mem) (x3 : Int32) : Prop := q_X6_readsStatement M  (fun r11 M12 => (r11 = 0 → (post ((-1000 : Int32) - (M12 57 12)) M12)) ∧ (¬ (r11 = 0) → (((M12 57 12) < (M12 57 14) → (k38 M12 (x3 + (1 : Int32)))) ∧ (¬ ((M12 57 12) < (M12 57 14)) → (q_X6_copies M12 58 60 (fun M16 => ∀ M17 : Mem, M17 = (mup M16 57 12 (0 : Int32)) → (∃ n, lp_X6_tow_84 post n M17 (x3 + (1 : Int32)))))))))
def lp_X6_tow_38 (post : Int32 → Mem → Prop) : Nat → Mem → Int32 → Prop
  | 0 => fun _ _ => False
  | n + 1 => fun M x3 => b_X6_tow_38 (lp_X6_tow_38 post n) post M x3
def q_X6_tow (M : Mem) (x1 : Int32) (post : Int32 → Mem → Prop) : Prop := q_X6_wrongRow M x1 (0 : Int32) (fun r18 M19 => (r18 = 0 → (∀ M21 : Mem, M21 = (mup M19 57 13 ((100 : Int32) * x1)) → (vp_in x1 8 ∧ (∀ M23 : Mem, M23 = (mup M21 57 14 (M21 64 x1.toNatClampNeg)) → (∀ M24 : Mem, M24 = (mup M23 57 12 (0 : Int32)) → (∃ n, lp_X6_tow_38 post n M24 (0 : Int32))))))) ∧ (¬ (r18 = 0) → (post r18 M19)))
set_option maxHeartbeats 4000000 in
set_option maxRecDepth 100000 in
theorem t_X6_tow_84 (C : Cx G p s m args meth c RX6 cX6_tow 7 (some .int)) {post : Int32 → Mem → Prop} : ∀ (n : Nat) (M : Mem) (x3 : Int32) {H : Heap} {locs : List Loc} {ls : Array Slot} (w : Wd G s M H locs) (hl : lv_has ls 7 [(0, .ref (ga G 57)), (3, .int x3)]) (h : lp_X6_tow_84 post n M x3), W p l e (rmk 5) s m args below meth c H locs 0 0 (MQ below (va_Qi post (Qw G) (Af G s.heap.size)) args s 0 0 (Af G s.heap.size)) (F0 m 84 ls []) := by
  have hx := C.1.1
  have hb := C.1.2.1
  intro n9
  induction n9 with
  | zero => intro M x3 H locs ls w hl h; exact absurd h id
  | succ n9 ih9 =>
    intro M x3 H locs ls w hl h
    have hk84 : ∀ (M : Mem) (x3 : Int32) (H : Heap) (locs : List Loc) (ls : Array Slot), Wd G s M H locs → lv_has ls 7 [(0, .ref (ga G 57)), (3, .int x3)] → lp_X6_tow_84 post n9 M x3 → W p l e (rmk 5) s m args below meth c H locs 0 0 (MQ below (va_Qi post (Qw G) (Af G s.heap.size)) args s 0 0 (Af G s.heap.size)) (F0 m 84 ls []) := fun M x3 H locs ls w hl h => ih9 M x3 w hl h
    replace h : b_X6_tow_84 (lp_X6_tow_84 post n9) post M x3 := h
    unfold b_X6_tow_84 at h
    refine lv_aload_n hx hb dX6_tow_84 rfl (lv_at hl 0 rfl) ?_
    refine gt_6_12 C w kw_11_18 dX6_tow_85 ?_
    refine lv_aload_n hx hb dX6_tow_88 rfl (lv_at hl 0 rfl) ?_
    refine gt_6_14 C w kw_11_17 dX6_tow_89 ?_
    refine lv_icmp_ge (tgt := 132) hx hb dX6_tow_92 (by decide) (fun c1 => ?_) (fun c1 => ?_)
    · replace h := h.1 c1
      refine lv_aload_n hx hb dX6_tow_132 rfl (lv_at hl 0 rfl) ?_
      refine gt_6_2 C w kw_5_2 dX6_tow_133 ?_
      refine lv_aload_n hx hb dX6_tow_136 rfl (lv_at hl 0 rfl) ?_
      refine gt_6_0 C w kw_5_0 dX6_tow_137 ?_
      refine end_v w (run_S (As := [.ref (ga G 60), .ref (ga G 58)]) C w hl.1 (c_X6_copies l G C.2.2.1 _ _ 60 58 ⟨by decide, by decide⟩ ⟨by decide, by decide⟩ _ h) kw_13_8 kw_1_5 kw_13_6 kw_13_7 hd_X6_copies ⟨by decide, by decide⟩ rfl (Nat.le_of_ble_eq_true rfl) dX6_tow_140) (fun M3 H locs h w => ?_)
      refine lv_iload_n hx hb dX6_tow_143 rfl (lv_at hl 1 rfl) ?_
      exact ret_i C w h dX6_tow_144
    replace h := h.2 c1
    refine lv_aload_n hx hb dX6_tow_95 rfl (lv_at hl 0 rfl) ?_
    refine gt_6_12 C w kw_11_18 dX6_tow_96 ?_
    refine lv_istore (lv' := [(4, .int (M 57 12)), (0, .ref (ga G 57)), (3, .int x3)]) hx hb dX6_tow_99 hl (by decide) rfl (fun ls hl => ?_)
    refine lv_aload_n hx hb dX6_tow_101 rfl (lv_at hl 1 rfl) ?_
    refine end_i w (run_V (As := []) C w hl.1 (c_X6_here l G C.2.2.1 _ _   _ h) kw_12_15 kw_1_5 kw_12_12 kw_12_13 kw_12_14 hd_X6_here ⟨by decide, by decide⟩ (w.recv C (i := 57) (by decide) (pE_6) rfl) rfl (Nat.le_of_ble_eq_true rfl) dX6_tow_102) (fun r4 M5 H locs h w => ?_)
    refine lv_istore (lv' := [(5, .int r4), (4, .int (M 57 12)), (0, .ref (ga G 57)), (3, .int x3)]) hx hb dX6_tow_105 hl (by decide) rfl (fun ls hl => ?_)
    refine lv_aload_n hx hb dX6_tow_107 rfl (lv_at hl 2 rfl) ?_
    refine end_i w (run_V (As := []) C w hl.1 (c_X6_readsStatement l G C.2.2.1 _ _   _ h) kw_12_9 kw_1_5 kw_12_6 kw_12_7 kw_12_8 hd_X6_readsStatement ⟨by decide, by decide⟩ (w.recv C (i := 57) (by decide) (pE_6) rfl) rfl (Nat.le_of_ble_eq_true rfl) dX6_tow_108) (fun r6 M7 H locs h w => ?_)
    refine lv_istore (lv' := [(6, .int r6), (5, .int r4), (4, .int (M 57 12)), (0, .ref (ga G 57)), (3, .int x3)]) hx hb dX6_tow_111 hl (by decide) rfl (fun ls hl => ?_)
    refine lv_aload_n hx hb dX6_tow_113 rfl (lv_at hl 3 rfl) ?_
    refine lv_iload hx hb dX6_tow_114 (lv_at hl 1 rfl) ?_
    refine end_i w (run_V (As := [.int r4]) C w hl.1 (c_X6_comes l G C.2.2.1 _ _ r4  _ h) kw_13_12 kw_1_5 kw_13_9 kw_13_10 kw_13_11 hd_X6_comes ⟨by decide, by decide⟩ (w.recv C (i := 57) (by decide) (pE_6) rfl) rfl (Nat.le_of_ble_eq_true rfl) dX6_tow_116) (fun r8 M9 H locs h w => ?_)
    refine lv_if_ne (tgt := 129) hx hb dX6_tow_119 (by decide) (fun c10 => ?_) (fun c10 => ?_)
    · replace h := h.2 c10
      refine lv_goto (tgt := 84) hx hb dX6_tow_129 (by decide) ?_
      exact hk84 M9 x3 _ _ _  w (lv_sub hl [3, 4] rfl) h
    replace h := h.1 c10
    refine lv_sipush (v := -2000) hx hb dX6_tow_122 (by decide) ?_
    refine lv_iload hx hb dX6_tow_125 (lv_at hl 2 rfl) ?_
    refine lv_isub hx hb dX6_tow_127 ?_
    exact ret_i C w h dX6_tow_128
set_option maxHeartbeats 4000000 in
set_option maxRecDepth 100000 in
theorem t_X6_tow_38 (C : Cx G p s m args meth c RX6 cX6_tow 7 (some .int)) {post : Int32 → Mem → Prop} : ∀ (n : Nat) (M : Mem) (x3 : Int32) {H : Heap} {locs : List Loc} {ls : Array Slot} (w : Wd G s M H locs) (hl : lv_has ls 7 [(0, .ref (ga G 57)), (3, .int x3)]) (h : lp_X6_tow_38 post n M x3), W p l e (rmk 5) s m args below meth c H locs 0 0 (MQ below (va_Qi post (Qw G) (Af G s.heap.size)) args s 0 0 (Af G s.heap.size)) (F0 m 38 ls []) := by
  have hx := C.1.1
  have hb := C.1.2.1
  intro n9
  induction n9 with
  | zero => intro M x3 H locs ls w hl h; exact absurd h id
  | succ n9 ih9 =>
    intro M x3 H locs ls w hl h
    have hk38 : ∀ (M : Mem) (x3 : Int32) (H : Heap) (locs : List Loc) (ls : Array Slot), Wd G s M H locs → lv_has ls 7 [(0, .ref (ga G 57)), (3, .int x3)] → lp_X6_tow_38 post n9 M x3 → W p l e (rmk 5) s m args below meth c H locs 0 0 (MQ below (va_Qi post (Qw G) (Af G s.heap.size)) args s 0 0 (Af G s.heap.size)) (F0 m 38 ls []) := fun M x3 H locs ls w hl h => ih9 M x3 w hl h
    replace h : b_X6_tow_38 (lp_X6_tow_38 post n9) post M x3 := h
    unfold b_X6_tow_38 at h
    refine lv_aload_n hx hb dX6_tow_38 rfl (lv_at hl 0 rfl) ?_
    refine end_i w (run_V (As := []) C w hl.1 (c_X6_readsStatement l G C.2.2.1 _ _   _ h) kw_12_9 kw_1_5 kw_12_6 kw_12_7 kw_12_8 hd_X6_readsStatement ⟨by decide, by decide⟩ (w.recv C (i := 57) (by decide) (pE_6) rfl) rfl (Nat.le_of_ble_eq_true rfl) dX6_tow_39) (fun r11 M12 H locs h w => ?_)
    refine lv_if_ne (tgt := 54) hx hb dX6_tow_42 (by decide) (fun c13 => ?_) (fun c13 => ?_)
    · replace h := h.2 c13
      refine lv_iinc (v := (x3 + (1 : Int32))) (lv' := [(3, .int (x3 + (1 : Int32))), (0, .ref (ga G 57))]) hx hb dX6_tow_54 hl (k := 1) rfl rfl (by decide) rfl (fun ls hl => ?_)
      refine lv_aload_n hx hb dX6_tow_57 rfl (lv_at hl 1 rfl) ?_
      refine gt_6_12 C w kw_11_18 dX6_tow_58 ?_
      refine lv_aload_n hx hb dX6_tow_61 rfl (lv_at hl 1 rfl) ?_
      refine gt_6_14 C w kw_11_17 dX6_tow_62 ?_
      refine lv_icmp_lt (tgt := 38) hx hb dX6_tow_65 (by decide) (fun c14 => ?_) (fun c14 => ?_)
      · replace h := h.1 c14
        exact hk38 M12 (x3 + (1 : Int32)) _ _ _  w (lv_sub hl [1, 0] rfl) h
      replace h := h.2 c14
      refine lv_aload_n hx hb dX6_tow_68 rfl (lv_at hl 1 rfl) ?_
      refine gt_6_0 C w kw_5_0 dX6_tow_69 ?_
      refine lv_aload_n hx hb dX6_tow_72 rfl (lv_at hl 1 rfl) ?_
      refine gt_6_2 C w kw_5_2 dX6_tow_73 ?_
      refine end_v w (run_S (As := [.ref (ga G 58), .ref (ga G 60)]) C w hl.1 (c_X6_copies l G C.2.2.1 _ _ 58 60 ⟨by decide, by decide⟩ ⟨by decide, by decide⟩ _ h) kw_13_8 kw_1_5 kw_13_6 kw_13_7 hd_X6_copies ⟨by decide, by decide⟩ rfl (Nat.le_of_ble_eq_true rfl) dX6_tow_76) (fun M16 H locs h w => ?_)
      refine lv_aload_n hx hb dX6_tow_79 rfl (lv_at hl 1 rfl) ?_
      refine lv_iconst (v := 0) hx hb dX6_tow_80 (by decide) ?_
      refine pt_6_12 C w kw_11_18 dX6_tow_81 (fun H locs w => ?_)
      obtain ⟨M17, eM17⟩ : ∃ z : Mem, z = (mup M16 57 12 (0 : Int32)) := ⟨_, rfl⟩
      replace w : Wd G s M17 H locs := by rw [eM17]; exact w
      replace h := h M17 eM17
      obtain ⟨n, h⟩ := h
      exact t_X6_tow_84 C n M17 (x3 + (1 : Int32))  w (lv_sub hl [1, 0] rfl) h
    replace h := h.1 c13
    refine lv_sipush (v := -1000) hx hb dX6_tow_45 (by decide) ?_
    refine lv_aload_n hx hb dX6_tow_48 rfl (lv_at hl 0 rfl) ?_
    refine gt_6_12 C w kw_11_18 dX6_tow_49 ?_
    refine lv_isub hx hb dX6_tow_52 ?_
    exact ret_i C w h dX6_tow_53
set_option maxHeartbeats 4000000 in
set_option maxRecDepth 100000 in
theorem c_X6_tow (l : Launch) (G : GG) (hG : Ag G) (sz : Nat) (M : Mem) (x1 : Int32) (post : Int32 → Mem → Prop) (h : q_X6_tow M x1 post) : Met l yX6_tow (Cond.code yX6_tow cX6_tow 7 (some .int) :: wsL_law) (rmk 5) (va_Pc [.ref (ga G 57), .int x1] (Pw G sz M)) (va_Qi post (Qw G) (Af G sz)) 0 0 (Af G sz) := by
  refine Met.ofW (cc := cX6_tow) (maxL := 7) (ret := (some .int)) (by decide) rfl ?_
  intro p e s m args below meth c s₁ B hml hv
  obtain ⟨rfl, hsz, hE, hP⟩ := hv
  subst hsz
  have C := Cx.of (own := RX6) hG hE rfl hml B
  have w : Wd G s M s.heap [] := ⟨hP, va_S.rf⟩
  have hl := lv_entry [.ref (ga G 57), .int x1] (n := 7) (Nat.le_of_ble_eq_true rfl)
  rw [lg_entry_eq]
  generalize (lg_sl [.ref (ga G 57), .int x1] ++ List.replicate (7 - (lg_sl [.ref (ga G 57), .int x1]).length) Slot.unset).toArray = ls at hl ⊢
  have hl : lv_has ls 7 [(0, .ref (ga G 57)), (1, .int x1)] := hl
  have hx := C.1.1
  have hb := C.1.2.1
  show W p l e (rmk 5) s m _ below meth c s.heap [] 0 0 _ _
  unfold q_X6_tow at h
  refine lv_aload_n hx hb dX6_tow_0 rfl (lv_at hl 0 rfl) ?_
  refine lv_iload_n hx hb dX6_tow_1 rfl (lv_at hl 1 rfl) ?_
  refine lv_iconst (v := 0) hx hb dX6_tow_2 (by decide) ?_
  refine end_i w (run_V (As := [.int x1, .int (0 : Int32)]) C w hl.1 (c_X6_wrongRow l G C.2.2.1 _ _ x1 (0 : Int32)  _ h) kw_11_22 kw_1_5 kw_11_19 kw_11_20 kw_11_21 hd_X6_wrongRow ⟨by decide, by decide⟩ (w.recv C (i := 57) (by decide) (pE_6) rfl) rfl (Nat.le_of_ble_eq_true rfl) dX6_tow_3) (fun r18 M19 H locs h w => ?_)
  refine lv_istore_n (lv' := [(2, .int r18), (0, .ref (ga G 57)), (1, .int x1)]) hx hb dX6_tow_6 rfl hl (by decide) rfl (fun ls hl => ?_)
  refine lv_iload_n hx hb dX6_tow_7 rfl (lv_at hl 0 rfl) ?_
  refine lv_if_eq (tgt := 13) hx hb dX6_tow_8 (by decide) (fun c20 => ?_) (fun c20 => ?_)
  · replace h := h.1 c20
    refine lv_aload_n hx hb dX6_tow_13 rfl (lv_at hl 1 rfl) ?_
    refine lv_bipush (v := 100) hx hb dX6_tow_14 (by decide) ?_
    refine lv_iload_n hx hb dX6_tow_16 rfl (lv_at hl 2 rfl) ?_
    refine lv_imul hx hb dX6_tow_17 ?_
    refine pt_6_13 C w kw_11_16 dX6_tow_18 (fun H locs w => ?_)
    obtain ⟨M21, eM21⟩ : ∃ z : Mem, z = (mup M19 57 13 ((100 : Int32) * x1)) := ⟨_, rfl⟩
    replace w : Wd G s M21 H locs := by rw [eM21]; exact w
    replace h := h M21 eM21
    refine lv_aload_n hx hb dX6_tow_21 rfl (lv_at hl 1 rfl) ?_
    refine lv_aload_n hx hb dX6_tow_22 rfl (lv_at hl 1 rfl) ?_
    refine gt_6_6 C w kw_5_6 dX6_tow_23 ?_
    refine lv_iload_n hx hb dX6_tow_26 rfl (lv_at hl 2 rfl) ?_
    have hin22 := h.1
    replace h := h.2
    have hz_hin22 := in_lt hin22
    refine pw_ld C w (i := 64) (by decide) pE_64 hin22 rfl dX6_tow_27 ?_
    refine pt_6_14 C w kw_11_17 dX6_tow_28 (fun H locs w => ?_)
    obtain ⟨M23, eM23⟩ : ∃ z : Mem, z = (mup M21 57 14 (M21 64 x1.toNatClampNeg)) := ⟨_, rfl⟩
    replace w : Wd G s M23 H locs := by rw [eM23]; exact w
    replace h := h M23 eM23
    refine lv_aload_n hx hb dX6_tow_31 rfl (lv_at hl 1 rfl) ?_
    refine lv_iconst (v := 0) hx hb dX6_tow_32 (by decide) ?_
    refine pt_6_12 C w kw_11_18 dX6_tow_33 (fun H locs w => ?_)
    obtain ⟨M24, eM24⟩ : ∃ z : Mem, z = (mup M23 57 12 (0 : Int32)) := ⟨_, rfl⟩
    replace w : Wd G s M24 H locs := by rw [eM24]; exact w
    replace h := h M24 eM24
    refine lv_iconst (v := 0) hx hb dX6_tow_36 (by decide) ?_
    refine lv_istore_n (lv' := [(3, .int (0 : Int32)), (2, .int r18), (0, .ref (ga G 57)), (1, .int x1)]) hx hb dX6_tow_37 rfl hl (by decide) rfl (fun ls hl => ?_)
    obtain ⟨n, h⟩ := h
    exact t_X6_tow_38 C n M24 (0 : Int32)  w (lv_sub hl [2, 0] rfl) h
  replace h := h.2 c20
  refine lv_iload_n hx hb dX6_tow_11 rfl (lv_at hl 0 rfl) ?_
  exact ret_i C w h dX6_tow_12
end WALK
