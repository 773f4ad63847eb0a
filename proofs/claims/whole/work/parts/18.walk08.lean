theorem dX6_odds_0 : decode cX6_odds 0 = .ok (.iload_n 1, 1) := by decide +kernel
theorem dX6_odds_1 : decode cX6_odds 1 = .ok (.i2l, 1) := by decide +kernel
theorem dX6_odds_2 : decode cX6_odds 2 = .ok (.lconst 1, 1) := by decide +kernel
theorem dX6_odds_3 : decode cX6_odds 3 = .ok (.ldc2_w 218, 3) := by decide +kernel
theorem dX6_odds_6 : decode cX6_odds 6 = .ok (.invokestatic 47, 3) := by decide +kernel
theorem dX6_odds_9 : decode cX6_odds 9 = .ok (.ifCond .ne 5, 3) := by decide +kernel
theorem dX6_odds_12 : decode cX6_odds 12 = .ok (.iconst (-1), 1) := by decide +kernel
theorem dX6_odds_13 : decode cX6_odds 13 = .ok (.ireturn, 1) := by decide +kernel
theorem dX6_odds_14 : decode cX6_odds 14 = .ok (.aload_n 0, 1) := by decide +kernel
theorem dX6_odds_15 : decode cX6_odds 15 = .ok (.invokevirtual 170, 3) := by decide +kernel
theorem dX6_odds_18 : decode cX6_odds 18 = .ok (.ifCond .ne 6, 3) := by decide +kernel
theorem dX6_odds_21 : decode cX6_odds 21 = .ok (.bipush (-3), 2) := by decide +kernel
theorem dX6_odds_23 : decode cX6_odds 23 = .ok (.ireturn, 1) := by decide +kernel
theorem dX6_odds_24 : decode cX6_odds 24 = .ok (.iconst 0, 1) := by decide +kernel
theorem dX6_odds_25 : decode cX6_odds 25 = .ok (.istore_n 3, 1) := by decide +kernel
theorem dX6_odds_26 : decode cX6_odds 26 = .ok (.iconst 0, 1) := by decide +kernel
theorem dX6_odds_27 : decode cX6_odds 27 = .ok (.istore 4, 2) := by decide +kernel
theorem dX6_odds_29 : decode cX6_odds 29 = .ok (.iload 4, 2) := by decide +kernel
theorem dX6_odds_31 : decode cX6_odds 31 = .ok (.iload_n 1, 1) := by decide +kernel
theorem dX6_odds_32 : decode cX6_odds 32 = .ok (.if_icmp .ge 159, 3) := by decide +kernel
theorem dX6_odds_35 : decode cX6_odds 35 = .ok (.aload_n 0, 1) := by decide +kernel
theorem dX6_odds_36 : decode cX6_odds 36 = .ok (.getfield 9, 3) := by decide +kernel
theorem dX6_odds_39 : decode cX6_odds 39 = .ok (.aload_n 0, 1) := by decide +kernel
theorem dX6_odds_40 : decode cX6_odds 40 = .ok (.getfield 19, 3) := by decide +kernel
theorem dX6_odds_43 : decode cX6_odds 43 = .ok (.invokestatic 104, 3) := by decide +kernel
theorem dX6_odds_46 : decode cX6_odds 46 = .ok (.aload_n 0, 1) := by decide +kernel
theorem dX6_odds_47 : decode cX6_odds 47 = .ok (.aload_n 0, 1) := by decide +kernel
theorem dX6_odds_48 : decode cX6_odds 48 = .ok (.invokevirtual 173, 3) := by decide +kernel
theorem dX6_odds_51 : decode cX6_odds 51 = .ok (.invokevirtual 176, 3) := by decide +kernel
theorem dX6_odds_54 : decode cX6_odds 54 = .ok (.iload_n 2, 1) := by decide +kernel
theorem dX6_odds_55 : decode cX6_odds 55 = .ok (.iload 4, 2) := by decide +kernel
theorem dX6_odds_57 : decode cX6_odds 57 = .ok (.iadd, 1) := by decide +kernel
theorem dX6_odds_58 : decode cX6_odds 58 = .ok (.istore 5, 2) := by decide +kernel
theorem dX6_odds_60 : decode cX6_odds 60 = .ok (.iconst 0, 1) := by decide +kernel
theorem dX6_odds_61 : decode cX6_odds 61 = .ok (.istore 6, 2) := by decide +kernel
theorem dX6_odds_63 : decode cX6_odds 63 = .ok (.iconst 0, 1) := by decide +kernel
theorem dX6_odds_64 : decode cX6_odds 64 = .ok (.istore 7, 2) := by decide +kernel
theorem dX6_odds_66 : decode cX6_odds 66 = .ok (.iload 7, 2) := by decide +kernel
theorem dX6_odds_68 : decode cX6_odds 68 = .ok (.bipush 100, 2) := by decide +kernel
theorem dX6_odds_70 : decode cX6_odds 70 = .ok (.if_icmp .ge 91, 3) := by decide +kernel
theorem dX6_odds_73 : decode cX6_odds 73 = .ok (.iload 6, 2) := by decide +kernel
theorem dX6_odds_75 : decode cX6_odds 75 = .ok (.ifCond .ne 86, 3) := by decide +kernel
theorem dX6_odds_78 : decode cX6_odds 78 = .ok (.iload 5, 2) := by decide +kernel
theorem dX6_odds_80 : decode cX6_odds 80 = .ok (.ldc 220, 2) := by decide +kernel
theorem dX6_odds_82 : decode cX6_odds 82 = .ok (.imul, 1) := by decide +kernel
theorem dX6_odds_83 : decode cX6_odds 83 = .ok (.sipush 12345, 3) := by decide +kernel
theorem dX6_odds_86 : decode cX6_odds 86 = .ok (.iadd, 1) := by decide +kernel
theorem dX6_odds_87 : decode cX6_odds 87 = .ok (.istore 5, 2) := by decide +kernel
theorem dX6_odds_89 : decode cX6_odds 89 = .ok (.aload_n 0, 1) := by decide +kernel
theorem dX6_odds_90 : decode cX6_odds 90 = .ok (.getfield 9, 3) := by decide +kernel
theorem dX6_odds_93 : decode cX6_odds 93 = .ok (.iconst 5, 1) := by decide +kernel
theorem dX6_odds_94 : decode cX6_odds 94 = .ok (.iaload, 1) := by decide +kernel
theorem dX6_odds_95 : decode cX6_odds 95 = .ok (.iload 5, 2) := by decide +kernel
theorem dX6_odds_97 : decode cX6_odds 97 = .ok (.ldc 221, 2) := by decide +kernel
theorem dX6_odds_99 : decode cX6_odds 99 = .ok (.iand, 1) := by decide +kernel
theorem dX6_odds_100 : decode cX6_odds 100 = .ok (.ldc 222, 2) := by decide +kernel
theorem dX6_odds_102 : decode cX6_odds 102 = .ok (.idiv, 1) := by decide +kernel
theorem dX6_odds_103 : decode cX6_odds 103 = .ok (.bipush 21, 2) := by decide +kernel
theorem dX6_odds_105 : decode cX6_odds 105 = .ok (.irem, 1) := by decide +kernel
theorem dX6_odds_106 : decode cX6_odds 106 = .ok (.iadd, 1) := by decide +kernel
theorem dX6_odds_107 : decode cX6_odds 107 = .ok (.bipush 10, 2) := by decide +kernel
theorem dX6_odds_109 : decode cX6_odds 109 = .ok (.isub, 1) := by decide +kernel
theorem dX6_odds_110 : decode cX6_odds 110 = .ok (.istore 8, 2) := by decide +kernel
theorem dX6_odds_112 : decode cX6_odds 112 = .ok (.aload_n 0, 1) := by decide +kernel
theorem dX6_odds_113 : decode cX6_odds 113 = .ok (.iload 8, 2) := by decide +kernel
theorem dX6_odds_115 : decode cX6_odds 115 = .ok (.ifCond .ge 7, 3) := by decide +kernel
theorem dX6_odds_118 : decode cX6_odds 118 = .ok (.iconst 0, 1) := by decide +kernel
theorem dX6_odds_119 : decode cX6_odds 119 = .ok (.goto 17, 3) := by decide +kernel
theorem dX6_odds_122 : decode cX6_odds 122 = .ok (.iload 8, 2) := by decide +kernel
theorem dX6_odds_124 : decode cX6_odds 124 = .ok (.bipush 60, 2) := by decide +kernel
theorem dX6_odds_126 : decode cX6_odds 126 = .ok (.if_icmp .le 8, 3) := by decide +kernel
theorem dX6_odds_129 : decode cX6_odds 129 = .ok (.bipush 60, 2) := by decide +kernel
theorem dX6_odds_131 : decode cX6_odds 131 = .ok (.goto 5, 3) := by decide +kernel
theorem dX6_odds_134 : decode cX6_odds 134 = .ok (.iload 8, 2) := by decide +kernel
theorem dX6_odds_136 : decode cX6_odds 136 = .ok (.invokevirtual 195, 3) := by decide +kernel
theorem dX6_odds_139 : decode cX6_odds 139 = .ok (.istore 9, 2) := by decide +kernel
theorem dX6_odds_141 : decode cX6_odds 141 = .ok (.aload_n 0, 1) := by decide +kernel
theorem dX6_odds_142 : decode cX6_odds 142 = .ok (.getfield 185, 3) := by decide +kernel
theorem dX6_odds_145 : decode cX6_odds 145 = .ok (.ifCond .lt 7, 3) := by decide +kernel
theorem dX6_odds_148 : decode cX6_odds 148 = .ok (.iconst 1, 1) := by decide +kernel
theorem dX6_odds_149 : decode cX6_odds 149 = .ok (.goto 4, 3) := by decide +kernel
theorem dX6_odds_152 : decode cX6_odds 152 = .ok (.iconst 0, 1) := by decide +kernel
theorem dX6_odds_153 : decode cX6_odds 153 = .ok (.istore 6, 2) := by decide +kernel
theorem dX6_odds_155 : decode cX6_odds 155 = .ok (.iinc 7 1, 3) := by decide +kernel
theorem dX6_odds_158 : decode cX6_odds 158 = .ok (.goto (-92), 3) := by decide +kernel
theorem dX6_odds_161 : decode cX6_odds 161 = .ok (.aload_n 0, 1) := by decide +kernel
theorem dX6_odds_162 : decode cX6_odds 162 = .ok (.getfield 19, 3) := by decide +kernel
theorem dX6_odds_165 : decode cX6_odds 165 = .ok (.aload_n 0, 1) := by decide +kernel
theorem dX6_odds_166 : decode cX6_odds 166 = .ok (.getfield 9, 3) := by decide +kernel
theorem dX6_odds_169 : decode cX6_odds 169 = .ok (.invokestatic 104, 3) := by decide +kernel
theorem dX6_odds_172 : decode cX6_odds 172 = .ok (.iload_n 3, 1) := by decide +kernel
theorem dX6_odds_173 : decode cX6_odds 173 = .ok (.iload 6, 2) := by decide +kernel
theorem dX6_odds_175 : decode cX6_odds 175 = .ok (.ifCond .eq 7, 3) := by decide +kernel
theorem dX6_odds_178 : decode cX6_odds 178 = .ok (.iconst 0, 1) := by decide +kernel
theorem dX6_odds_179 : decode cX6_odds 179 = .ok (.goto 4, 3) := by decide +kernel
theorem dX6_odds_182 : decode cX6_odds 182 = .ok (.iconst 1, 1) := by decide +kernel
theorem dX6_odds_183 : decode cX6_odds 183 = .ok (.iadd, 1) := by decide +kernel
theorem dX6_odds_184 : decode cX6_odds 184 = .ok (.istore_n 3, 1) := by decide +kernel
theorem dX6_odds_185 : decode cX6_odds 185 = .ok (.iinc 4 1, 3) := by decide +kernel
theorem dX6_odds_188 : decode cX6_odds 188 = .ok (.goto (-159), 3) := by decide +kernel
theorem dX6_odds_191 : decode cX6_odds 191 = .ok (.iload_n 3, 1) := by decide +kernel
theorem dX6_odds_192 : decode cX6_odds 192 = .ok (.ireturn, 1) := by decide +kernel
theorem dX5_yaw_0 : decode cX5_yaw 0 = .ok (.iload_n 1, 1) := by decide +kernel
theorem dX5_yaw_1 : decode cX5_yaw 1 = .ok (.iconst 0, 1) := by decide +kernel
theorem dX5_yaw_2 : decode cX5_yaw 2 = .ok (.iconst 1, 1) := by decide +kernel
theorem dX5_yaw_3 : decode cX5_yaw 3 = .ok (.invokestatic 129, 3) := by decide +kernel
theorem dX5_yaw_6 : decode cX5_yaw 6 = .ok (.ifCond .ne 6, 3) := by decide +kernel
theorem dX5_yaw_9 : decode cX5_yaw 9 = .ok (.ldc 168, 2) := by decide +kernel
theorem dX5_yaw_11 : decode cX5_yaw 11 = .ok (.ireturn, 1) := by decide +kernel
theorem dX5_yaw_12 : decode cX5_yaw 12 = .ok (.iload_n 1, 1) := by decide +kernel
theorem dX5_yaw_13 : decode cX5_yaw 13 = .ok (.ifCond .ne 13, 3) := by decide +kernel
theorem dX5_yaw_16 : decode cX5_yaw 16 = .ok (.aload_n 0, 1) := by decide +kernel
theorem dX5_yaw_17 : decode cX5_yaw 17 = .ok (.getfield 10, 3) := by decide +kernel
theorem dX5_yaw_20 : decode cX5_yaw 20 = .ok (.getfield 190, 3) := by decide +kernel
theorem dX5_yaw_23 : decode cX5_yaw 23 = .ok (.goto 10, 3) := by decide +kernel
theorem dX5_yaw_26 : decode cX5_yaw 26 = .ok (.aload_n 0, 1) := by decide +kernel
theorem dX5_yaw_27 : decode cX5_yaw 27 = .ok (.getfield 10, 3) := by decide +kernel
theorem dX5_yaw_30 : decode cX5_yaw 30 = .ok (.getfield 193, 3) := by decide +kernel
theorem dX5_yaw_33 : decode cX5_yaw 33 = .ok (.ireturn, 1) := by decide +kernel
theorem dX6_yaw_0 : decode cX6_yaw 0 = .ok (.iload_n 1, 1) := by decide +kernel
theorem dX6_yaw_1 : decode cX6_yaw 1 = .ok (.i2l, 1) := by decide +kernel
theorem dX6_yaw_2 : decode cX6_yaw 2 = .ok (.lconst 0, 1) := by decide +kernel
theorem dX6_yaw_3 : decode cX6_yaw 3 = .ok (.lconst 1, 1) := by decide +kernel
theorem dX6_yaw_4 : decode cX6_yaw 4 = .ok (.invokestatic 47, 3) := by decide +kernel
theorem dX6_yaw_7 : decode cX6_yaw 7 = .ok (.ifCond .eq 14, 3) := by decide +kernel
theorem dX6_yaw_10 : decode cX6_yaw 10 = .ok (.aload_n 0, 1) := by decide +kernel
theorem dX6_yaw_11 : decode cX6_yaw 11 = .ok (.getfield 9, 3) := by decide +kernel
theorem dX6_yaw_14 : decode cX6_yaw 14 = .ok (.iconst 3, 1) := by decide +kernel
theorem dX6_yaw_15 : decode cX6_yaw 15 = .ok (.iload_n 1, 1) := by decide +kernel
theorem dX6_yaw_16 : decode cX6_yaw 16 = .ok (.iadd, 1) := by decide +kernel
theorem dX6_yaw_17 : decode cX6_yaw 17 = .ok (.iaload, 1) := by decide +kernel
theorem dX6_yaw_18 : decode cX6_yaw 18 = .ok (.goto 5, 3) := by decide +kernel
theorem dX6_yaw_21 : decode cX6_yaw 21 = .ok (.ldc 213, 2) := by decide +kernel
theorem dX6_yaw_23 : decode cX6_yaw 23 = .ok (.ireturn, 1) := by decide +kernel
theorem dX4_passYaw_0 : decode cX4_passYaw 0 = .ok (.aload_n 0, 1) := by decide +kernel
theorem dX4_passYaw_1 : decode cX4_passYaw 1 = .ok (.getfield 30, 3) := by decide +kernel
theorem dX4_passYaw_4 : decode cX4_passYaw 4 = .ok (.bipush 6, 2) := by decide +kernel
theorem dX4_passYaw_6 : decode cX4_passYaw 6 = .ok (.iaload, 1) := by decide +kernel
theorem dX4_passYaw_7 : decode cX4_passYaw 7 = .ok (.istore_n 1, 1) := by decide +kernel
theorem dX4_passYaw_8 : decode cX4_passYaw 8 = .ok (.aload_n 0, 1) := by decide +kernel
theorem dX4_passYaw_9 : decode cX4_passYaw 9 = .ok (.getfield 33, 3) := by decide +kernel
theorem dX4_passYaw_12 : decode cX4_passYaw 12 = .ok (.aload_n 0, 1) := by decide +kernel
theorem dX4_passYaw_13 : decode cX4_passYaw 13 = .ok (.getfield 30, 3) := by decide +kernel
theorem dX4_passYaw_16 : decode cX4_passYaw 16 = .ok (.iconst 2, 1) := by decide +kernel
theorem dX4_passYaw_17 : decode cX4_passYaw 17 = .ok (.iaload, 1) := by decide +kernel
theorem dX4_passYaw_18 : decode cX4_passYaw 18 = .ok (.aload_n 0, 1) := by decide +kernel
theorem dX4_passYaw_19 : decode cX4_passYaw 19 = .ok (.getfield 30, 3) := by decide +kernel
theorem dX4_passYaw_22 : decode cX4_passYaw 22 = .ok (.iconst 5, 1) := by decide +kernel
theorem dX4_passYaw_23 : decode cX4_passYaw 23 = .ok (.iaload, 1) := by decide +kernel
theorem dX4_passYaw_24 : decode cX4_passYaw 24 = .ok (.isub, 1) := by decide +kernel
theorem dX4_passYaw_25 : decode cX4_passYaw 25 = .ok (.iload_n 1, 1) := by decide +kernel
theorem dX4_passYaw_26 : decode cX4_passYaw 26 = .ok (.isub, 1) := by decide +kernel
theorem dX4_passYaw_27 : decode cX4_passYaw 27 = .ok (.imul, 1) := by decide +kernel
theorem dX4_passYaw_28 : decode cX4_passYaw 28 = .ok (.bipush 10, 2) := by decide +kernel
theorem dX4_passYaw_30 : decode cX4_passYaw 30 = .ok (.idiv, 1) := by decide +kernel
theorem dX4_passYaw_31 : decode cX4_passYaw 31 = .ok (.istore_n 2, 1) := by decide +kernel
theorem dX4_passYaw_32 : decode cX4_passYaw 32 = .ok (.aload_n 0, 1) := by decide +kernel
theorem dX4_passYaw_33 : decode cX4_passYaw 33 = .ok (.getfield 36, 3) := by decide +kernel
theorem dX4_passYaw_36 : decode cX4_passYaw 36 = .ok (.iconst 1, 1) := by decide +kernel
theorem dX4_passYaw_37 : decode cX4_passYaw 37 = .ok (.iconst 4, 1) := by decide +kernel
theorem dX4_passYaw_38 : decode cX4_passYaw 38 = .ok (.iload_n 1, 1) := by decide +kernel
theorem dX4_passYaw_39 : decode cX4_passYaw 39 = .ok (.iadd, 1) := by decide +kernel
theorem dX4_passYaw_40 : decode cX4_passYaw 40 = .ok (.invokestatic 104, 3) := by decide +kernel
theorem dX4_passYaw_43 : decode cX4_passYaw 43 = .ok (.idiv, 1) := by decide +kernel
theorem dX4_passYaw_44 : decode cX4_passYaw 44 = .ok (.istore_n 3, 1) := by decide +kernel
theorem dX4_passYaw_45 : decode cX4_passYaw 45 = .ok (.aload_n 0, 1) := by decide +kernel
theorem dX4_passYaw_46 : decode cX4_passYaw 46 = .ok (.getfield 33, 3) := by decide +kernel
theorem dX4_passYaw_49 : decode cX4_passYaw 49 = .ok (.aload_n 0, 1) := by decide +kernel
theorem dX4_passYaw_50 : decode cX4_passYaw 50 = .ok (.getfield 30, 3) := by decide +kernel
theorem dX4_passYaw_53 : decode cX4_passYaw 53 = .ok (.iconst 4, 1) := by decide +kernel
theorem dX4_passYaw_54 : decode cX4_passYaw 54 = .ok (.iaload, 1) := by decide +kernel
theorem dX4_passYaw_55 : decode cX4_passYaw 55 = .ok (.imul, 1) := by decide +kernel
theorem dX4_passYaw_56 : decode cX4_passYaw 56 = .ok (.bipush 20, 2) := by decide +kernel
theorem dX4_passYaw_58 : decode cX4_passYaw 58 = .ok (.idiv, 1) := by decide +kernel
theorem dX4_passYaw_59 : decode cX4_passYaw 59 = .ok (.istore 4, 2) := by decide +kernel
theorem dX4_passYaw_61 : decode cX4_passYaw 61 = .ok (.aload_n 0, 1) := by decide +kernel
theorem dX4_passYaw_62 : decode cX4_passYaw 62 = .ok (.aload_n 0, 1) := by decide +kernel
theorem dX4_passYaw_63 : decode cX4_passYaw 63 = .ok (.getfield 36, 3) := by decide +kernel
theorem dX4_passYaw_66 : decode cX4_passYaw 66 = .ok (.iload_n 2, 1) := by decide +kernel
theorem dX4_passYaw_67 : decode cX4_passYaw 67 = .ok (.iadd, 1) := by decide +kernel
theorem dX4_passYaw_68 : decode cX4_passYaw 68 = .ok (.iload_n 3, 1) := by decide +kernel
theorem dX4_passYaw_69 : decode cX4_passYaw 69 = .ok (.isub, 1) := by decide +kernel
theorem dX4_passYaw_70 : decode cX4_passYaw 70 = .ok (.iload 4, 2) := by decide +kernel
theorem dX4_passYaw_72 : decode cX4_passYaw 72 = .ok (.isub, 1) := by decide +kernel
theorem dX4_passYaw_73 : decode cX4_passYaw 73 = .ok (.sipush (-999), 3) := by decide +kernel
theorem dX4_passYaw_76 : decode cX4_passYaw 76 = .ok (.sipush 999, 3) := by decide +kernel
theorem dX4_passYaw_79 : decode cX4_passYaw 79 = .ok (.invokestatic 110, 3) := by decide +kernel
theorem dX4_passYaw_82 : decode cX4_passYaw 82 = .ok (.putfield 36, 3) := by decide +kernel
theorem dX4_passYaw_85 : decode cX4_passYaw 85 = .ok (.aload_n 0, 1) := by decide +kernel
theorem dX4_passYaw_86 : decode cX4_passYaw 86 = .ok (.aload_n 0, 1) := by decide +kernel
theorem dX4_passYaw_87 : decode cX4_passYaw 87 = .ok (.getfield 33, 3) := by decide +kernel
theorem dX4_passYaw_90 : decode cX4_passYaw 90 = .ok (.aload_n 0, 1) := by decide +kernel
theorem dX4_passYaw_91 : decode cX4_passYaw 91 = .ok (.getfield 36, 3) := by decide +kernel
theorem dX4_passYaw_94 : decode cX4_passYaw 94 = .ok (.bipush 10, 2) := by decide +kernel
theorem dX4_passYaw_96 : decode cX4_passYaw 96 = .ok (.idiv, 1) := by decide +kernel
theorem dX4_passYaw_97 : decode cX4_passYaw 97 = .ok (.iadd, 1) := by decide +kernel
theorem dX4_passYaw_98 : decode cX4_passYaw 98 = .ok (.sipush (-999), 3) := by decide +kernel
theorem dX4_passYaw_101 : decode cX4_passYaw 101 = .ok (.sipush 999, 3) := by decide +kernel
theorem dX4_passYaw_104 : decode cX4_passYaw 104 = .ok (.invokestatic 110, 3) := by decide +kernel
theorem dX4_passYaw_107 : decode cX4_passYaw 107 = .ok (.putfield 33, 3) := by decide +kernel
theorem dX4_passYaw_110 : decode cX4_passYaw 110 = .ok (.return_, 1) := by decide +kernel
theorem dX4_greatestYaw_0 : decode cX4_greatestYaw 0 = .ok (.iconst 0, 1) := by decide +kernel
theorem dX4_greatestYaw_1 : decode cX4_greatestYaw 1 = .ok (.istore_n 2, 1) := by decide +kernel
theorem dX4_greatestYaw_2 : decode cX4_greatestYaw 2 = .ok (.iconst 0, 1) := by decide +kernel
theorem dX4_greatestYaw_3 : decode cX4_greatestYaw 3 = .ok (.istore_n 3, 1) := by decide +kernel
theorem dX4_greatestYaw_4 : decode cX4_greatestYaw 4 = .ok (.iload_n 3, 1) := by decide +kernel
theorem dX4_greatestYaw_5 : decode cX4_greatestYaw 5 = .ok (.iload_n 1, 1) := by decide +kernel
theorem dX4_greatestYaw_6 : decode cX4_greatestYaw 6 = .ok (.if_icmp .ge 25, 3) := by decide +kernel
theorem dX4_greatestYaw_9 : decode cX4_greatestYaw 9 = .ok (.aload_n 0, 1) := by decide +kernel
theorem dX4_greatestYaw_10 : decode cX4_greatestYaw 10 = .ok (.invokevirtual 114, 3) := by decide +kernel
theorem dX4_greatestYaw_13 : decode cX4_greatestYaw 13 = .ok (.iload_n 2, 1) := by decide +kernel
theorem dX4_greatestYaw_14 : decode cX4_greatestYaw 14 = .ok (.aload_n 0, 1) := by decide +kernel
theorem dX4_greatestYaw_15 : decode cX4_greatestYaw 15 = .ok (.getfield 33, 3) := by decide +kernel
theorem dX4_greatestYaw_18 : decode cX4_greatestYaw 18 = .ok (.invokestatic 117, 3) := by decide +kernel
theorem dX4_greatestYaw_21 : decode cX4_greatestYaw 21 = .ok (.invokestatic 104, 3) := by decide +kernel
theorem dX4_greatestYaw_24 : decode cX4_greatestYaw 24 = .ok (.istore_n 2, 1) := by decide +kernel
theorem dX4_greatestYaw_25 : decode cX4_greatestYaw 25 = .ok (.iinc 3 1, 3) := by decide +kernel
theorem dX4_greatestYaw_28 : decode cX4_greatestYaw 28 = .ok (.goto (-24), 3) := by decide +kernel
theorem dX4_greatestYaw_31 : decode cX4_greatestYaw 31 = .ok (.iload_n 2, 1) := by decide +kernel
theorem dX4_greatestYaw_32 : decode cX4_greatestYaw 32 = .ok (.ireturn, 1) := by decide +kernel
theorem dX5_yaws_0 : decode cX5_yaws 0 = .ok (.iload_n 1, 1) := by decide +kernel
theorem dX5_yaws_1 : decode cX5_yaws 1 = .ok (.iconst 1, 1) := by decide +kernel
theorem dX5_yaws_2 : decode cX5_yaws 2 = .ok (.sipush 400, 3) := by decide +kernel
theorem dX5_yaws_5 : decode cX5_yaws 5 = .ok (.invokestatic 129, 3) := by decide +kernel
theorem dX5_yaws_8 : decode cX5_yaws 8 = .ok (.ifCond .ne 6, 3) := by decide +kernel
theorem dX5_yaws_11 : decode cX5_yaws 11 = .ok (.ldc 168, 2) := by decide +kernel
theorem dX5_yaws_13 : decode cX5_yaws 13 = .ok (.ireturn, 1) := by decide +kernel
theorem dX5_yaws_14 : decode cX5_yaws 14 = .ok (.aload_n 0, 1) := by decide +kernel
theorem dX5_yaws_15 : decode cX5_yaws 15 = .ok (.getfield 10, 3) := by decide +kernel
theorem dX5_yaws_18 : decode cX5_yaws 18 = .ok (.iload_n 1, 1) := by decide +kernel
theorem dX5_yaws_19 : decode cX5_yaws 19 = .ok (.invokevirtual 196, 3) := by decide +kernel
theorem dX5_yaws_22 : decode cX5_yaws 22 = .ok (.pop, 1) := by decide +kernel
theorem dX5_yaws_23 : decode cX5_yaws 23 = .ok (.aload_n 0, 1) := by decide +kernel
theorem dX5_yaws_24 : decode cX5_yaws 24 = .ok (.getfield 10, 3) := by decide +kernel
theorem dX5_yaws_27 : decode cX5_yaws 27 = .ok (.getfield 190, 3) := by decide +kernel
theorem dX5_yaws_30 : decode cX5_yaws 30 = .ok (.ireturn, 1) := by decide +kernel
theorem dX6_within_0 : decode cX6_within 0 = .ok (.iload_n 0, 1) := by decide +kernel
theorem dX6_within_1 : decode cX6_within 1 = .ok (.iload_n 1, 1) := by decide +kernel
theorem dX6_within_2 : decode cX6_within 2 = .ok (.if_icmp .le 7, 3) := by decide +kernel
theorem dX6_within_5 : decode cX6_within 5 = .ok (.iload_n 1, 1) := by decide +kernel
theorem dX6_within_6 : decode cX6_within 6 = .ok (.goto 15, 3) := by decide +kernel
theorem dX6_within_9 : decode cX6_within 9 = .ok (.iload_n 0, 1) := by decide +kernel
theorem dX6_within_10 : decode cX6_within 10 = .ok (.iload_n 1, 1) := by decide +kernel
theorem dX6_within_11 : decode cX6_within 11 = .ok (.ineg, 1) := by decide +kernel
theorem dX6_within_12 : decode cX6_within 12 = .ok (.if_icmp .ge 8, 3) := by decide +kernel
theorem dX6_within_15 : decode cX6_within 15 = .ok (.iload_n 1, 1) := by decide +kernel
theorem dX6_within_16 : decode cX6_within 16 = .ok (.ineg, 1) := by decide +kernel
theorem dX6_within_17 : decode cX6_within 17 = .ok (.goto 4, 3) := by decide +kernel
theorem dX6_within_20 : decode cX6_within 20 = .ok (.iload_n 0, 1) := by decide +kernel
theorem dX6_within_21 : decode cX6_within 21 = .ok (.ireturn, 1) := by decide +kernel
theorem dX6_goesYaw_0 : decode cX6_goesYaw 0 = .ok (.aload_n 0, 1) := by decide +kernel
theorem dX6_goesYaw_1 : decode cX6_goesYaw 1 = .ok (.getfield 9, 3) := by decide +kernel
theorem dX6_goesYaw_4 : decode cX6_goesYaw 4 = .ok (.iconst 3, 1) := by decide +kernel
theorem dX6_goesYaw_5 : decode cX6_goesYaw 5 = .ok (.iaload, 1) := by decide +kernel
theorem dX6_goesYaw_6 : decode cX6_goesYaw 6 = .ok (.istore_n 1, 1) := by decide +kernel
theorem dX6_goesYaw_7 : decode cX6_goesYaw 7 = .ok (.aload_n 0, 1) := by decide +kernel
theorem dX6_goesYaw_8 : decode cX6_goesYaw 8 = .ok (.getfield 9, 3) := by decide +kernel
theorem dX6_goesYaw_11 : decode cX6_goesYaw 11 = .ok (.iconst 4, 1) := by decide +kernel
theorem dX6_goesYaw_12 : decode cX6_goesYaw 12 = .ok (.iaload, 1) := by decide +kernel
theorem dX6_goesYaw_13 : decode cX6_goesYaw 13 = .ok (.istore_n 2, 1) := by decide +kernel
theorem dX6_goesYaw_14 : decode cX6_goesYaw 14 = .ok (.aload_n 0, 1) := by decide +kernel
theorem dX6_goesYaw_15 : decode cX6_goesYaw 15 = .ok (.getfield 9, 3) := by decide +kernel
theorem dX6_goesYaw_18 : decode cX6_goesYaw 18 = .ok (.iconst 4, 1) := by decide +kernel
theorem dX6_goesYaw_19 : decode cX6_goesYaw 19 = .ok (.iload_n 2, 1) := by decide +kernel
theorem dX6_goesYaw_20 : decode cX6_goesYaw 20 = .ok (.iload_n 1, 1) := by decide +kernel
theorem dX6_goesYaw_21 : decode cX6_goesYaw 21 = .ok (.aload_n 0, 1) := by decide +kernel
theorem dX6_goesYaw_22 : decode cX6_goesYaw 22 = .ok (.getfield 9, 3) := by decide +kernel
theorem dX6_goesYaw_25 : decode cX6_goesYaw 25 = .ok (.bipush 7, 2) := by decide +kernel
theorem dX6_goesYaw_27 : decode cX6_goesYaw 27 = .ok (.iaload, 1) := by decide +kernel
theorem dX6_goesYaw_28 : decode cX6_goesYaw 28 = .ok (.aload_n 0, 1) := by decide +kernel
theorem dX6_goesYaw_29 : decode cX6_goesYaw 29 = .ok (.getfield 9, 3) := by decide +kernel
theorem dX6_goesYaw_32 : decode cX6_goesYaw 32 = .ok (.bipush 10, 2) := by decide +kernel
theorem dX6_goesYaw_34 : decode cX6_goesYaw 34 = .ok (.iaload, 1) := by decide +kernel
theorem dX6_goesYaw_35 : decode cX6_goesYaw 35 = .ok (.isub, 1) := by decide +kernel
theorem dX6_goesYaw_36 : decode cX6_goesYaw 36 = .ok (.aload_n 0, 1) := by decide +kernel
theorem dX6_goesYaw_37 : decode cX6_goesYaw 37 = .ok (.getfield 9, 3) := by decide +kernel
theorem dX6_goesYaw_40 : decode cX6_goesYaw 40 = .ok (.bipush 11, 2) := by decide +kernel
theorem dX6_goesYaw_42 : decode cX6_goesYaw 42 = .ok (.iaload, 1) := by decide +kernel
theorem dX6_goesYaw_43 : decode cX6_goesYaw 43 = .ok (.isub, 1) := by decide +kernel
theorem dX6_goesYaw_44 : decode cX6_goesYaw 44 = .ok (.imul, 1) := by decide +kernel
theorem dX6_goesYaw_45 : decode cX6_goesYaw 45 = .ok (.bipush 10, 2) := by decide +kernel
theorem dX6_goesYaw_47 : decode cX6_goesYaw 47 = .ok (.idiv, 1) := by decide +kernel
theorem dX6_goesYaw_48 : decode cX6_goesYaw 48 = .ok (.iadd, 1) := by decide +kernel
theorem dX6_goesYaw_49 : decode cX6_goesYaw 49 = .ok (.iload_n 2, 1) := by decide +kernel
theorem dX6_goesYaw_50 : decode cX6_goesYaw 50 = .ok (.iconst 4, 1) := by decide +kernel
theorem dX6_goesYaw_51 : decode cX6_goesYaw 51 = .ok (.aload_n 0, 1) := by decide +kernel
theorem dX6_goesYaw_52 : decode cX6_goesYaw 52 = .ok (.getfield 9, 3) := by decide +kernel
theorem dX6_goesYaw_55 : decode cX6_goesYaw 55 = .ok (.bipush 11, 2) := by decide +kernel
theorem dX6_goesYaw_57 : decode cX6_goesYaw 57 = .ok (.iaload, 1) := by decide +kernel
theorem dX6_goesYaw_58 : decode cX6_goesYaw 58 = .ok (.iadd, 1) := by decide +kernel
theorem dX6_goesYaw_59 : decode cX6_goesYaw 59 = .ok (.idiv, 1) := by decide +kernel
theorem dX6_goesYaw_60 : decode cX6_goesYaw 60 = .ok (.isub, 1) := by decide +kernel
theorem dX6_goesYaw_61 : decode cX6_goesYaw 61 = .ok (.iload_n 1, 1) := by decide +kernel
theorem dX6_goesYaw_62 : decode cX6_goesYaw 62 = .ok (.aload_n 0, 1) := by decide +kernel
theorem dX6_goesYaw_63 : decode cX6_goesYaw 63 = .ok (.getfield 9, 3) := by decide +kernel
theorem dX6_goesYaw_66 : decode cX6_goesYaw 66 = .ok (.bipush 9, 2) := by decide +kernel
theorem dX6_goesYaw_68 : decode cX6_goesYaw 68 = .ok (.iaload, 1) := by decide +kernel
theorem dX6_goesYaw_69 : decode cX6_goesYaw 69 = .ok (.imul, 1) := by decide +kernel
theorem dX6_goesYaw_70 : decode cX6_goesYaw 70 = .ok (.bipush 20, 2) := by decide +kernel
theorem dX6_goesYaw_72 : decode cX6_goesYaw 72 = .ok (.idiv, 1) := by decide +kernel
theorem dX6_goesYaw_73 : decode cX6_goesYaw 73 = .ok (.isub, 1) := by decide +kernel
theorem dX6_goesYaw_74 : decode cX6_goesYaw 74 = .ok (.sipush 999, 3) := by decide +kernel
theorem dX6_goesYaw_77 : decode cX6_goesYaw 77 = .ok (.invokestatic 223, 3) := by decide +kernel
theorem dX6_goesYaw_80 : decode cX6_goesYaw 80 = .ok (.iastore, 1) := by decide +kernel
theorem dX6_goesYaw_81 : decode cX6_goesYaw 81 = .ok (.aload_n 0, 1) := by decide +kernel
theorem dX6_goesYaw_82 : decode cX6_goesYaw 82 = .ok (.getfield 9, 3) := by decide +kernel
theorem dX6_goesYaw_85 : decode cX6_goesYaw 85 = .ok (.iconst 3, 1) := by decide +kernel
theorem dX6_goesYaw_86 : decode cX6_goesYaw 86 = .ok (.iload_n 1, 1) := by decide +kernel
theorem dX6_goesYaw_87 : decode cX6_goesYaw 87 = .ok (.aload_n 0, 1) := by decide +kernel
theorem dX6_goesYaw_88 : decode cX6_goesYaw 88 = .ok (.getfield 9, 3) := by decide +kernel
theorem dX6_goesYaw_91 : decode cX6_goesYaw 91 = .ok (.iconst 4, 1) := by decide +kernel
theorem dX6_goesYaw_92 : decode cX6_goesYaw 92 = .ok (.iaload, 1) := by decide +kernel
theorem dX6_goesYaw_93 : decode cX6_goesYaw 93 = .ok (.bipush 10, 2) := by decide +kernel
theorem dX6_goesYaw_95 : decode cX6_goesYaw 95 = .ok (.idiv, 1) := by decide +kernel
theorem dX6_goesYaw_96 : decode cX6_goesYaw 96 = .ok (.iadd, 1) := by decide +kernel
theorem dX6_goesYaw_97 : decode cX6_goesYaw 97 = .ok (.sipush 999, 3) := by decide +kernel
theorem dX6_goesYaw_100 : decode cX6_goesYaw 100 = .ok (.invokestatic 223, 3) := by decide +kernel
theorem dX6_goesYaw_103 : decode cX6_goesYaw 103 = .ok (.iastore, 1) := by decide +kernel
theorem dX6_goesYaw_104 : decode cX6_goesYaw 104 = .ok (.return_, 1) := by decide +kernel
theorem dX6_yaws_0 : decode cX6_yaws 0 = .ok (.iload_n 1, 1) := by decide +kernel
theorem dX6_yaws_1 : decode cX6_yaws 1 = .ok (.i2l, 1) := by decide +kernel
theorem dX6_yaws_2 : decode cX6_yaws 2 = .ok (.lconst 1, 1) := by decide +kernel
theorem dX6_yaws_3 : decode cX6_yaws 3 = .ok (.ldc2_w 204, 3) := by decide +kernel
theorem dX6_yaws_6 : decode cX6_yaws 6 = .ok (.invokestatic 47, 3) := by decide +kernel
theorem dX6_yaws_9 : decode cX6_yaws 9 = .ok (.ifCond .ne 6, 3) := by decide +kernel
theorem dX6_yaws_12 : decode cX6_yaws 12 = .ok (.ldc 213, 2) := by decide +kernel
theorem dX6_yaws_14 : decode cX6_yaws 14 = .ok (.ireturn, 1) := by decide +kernel
theorem dX6_yaws_15 : decode cX6_yaws 15 = .ok (.iconst 0, 1) := by decide +kernel
theorem dX6_yaws_16 : decode cX6_yaws 16 = .ok (.istore_n 2, 1) := by decide +kernel
theorem dX6_yaws_17 : decode cX6_yaws 17 = .ok (.iload_n 2, 1) := by decide +kernel
theorem dX6_yaws_18 : decode cX6_yaws 18 = .ok (.iload_n 1, 1) := by decide +kernel
theorem dX6_yaws_19 : decode cX6_yaws 19 = .ok (.if_icmp .ge 13, 3) := by decide +kernel
theorem dX6_yaws_22 : decode cX6_yaws 22 = .ok (.aload_n 0, 1) := by decide +kernel
theorem dX6_yaws_23 : decode cX6_yaws 23 = .ok (.invokevirtual 226, 3) := by decide +kernel
theorem dX6_yaws_26 : decode cX6_yaws 26 = .ok (.iinc 2 1, 3) := by decide +kernel
theorem dX6_yaws_29 : decode cX6_yaws 29 = .ok (.goto (-12), 3) := by decide +kernel
theorem dX6_yaws_32 : decode cX6_yaws 32 = .ok (.aload_n 0, 1) := by decide +kernel
theorem dX6_yaws_33 : decode cX6_yaws 33 = .ok (.getfield 9, 3) := by decide +kernel
theorem dX6_yaws_36 : decode cX6_yaws 36 = .ok (.iconst 3, 1) := by decide +kernel
theorem dX6_yaws_37 : decode cX6_yaws 37 = .ok (.iaload, 1) := by decide +kernel
theorem dX6_yaws_38 : decode cX6_yaws 38 = .ok (.ireturn, 1) := by decide +kernel
theorem dX5_swings_0 : decode cX5_swings 0 = .ok (.iload_n 1, 1) := by decide +kernel
theorem dX5_swings_1 : decode cX5_swings 1 = .ok (.iconst 0, 1) := by decide +kernel
theorem dX5_swings_2 : decode cX5_swings 2 = .ok (.sipush 400, 3) := by decide +kernel
theorem dX5_swings_5 : decode cX5_swings 5 = .ok (.invokestatic 129, 3) := by decide +kernel
theorem dX5_swings_8 : decode cX5_swings 8 = .ok (.ifCond .eq 12, 3) := by decide +kernel
theorem dX5_swings_11 : decode cX5_swings 11 = .ok (.iload_n 2, 1) := by decide +kernel
theorem dX5_swings_12 : decode cX5_swings 12 = .ok (.iconst 0, 1) := by decide +kernel
theorem dX5_swings_13 : decode cX5_swings 13 = .ok (.iconst 1, 1) := by decide +kernel
theorem dX5_swings_14 : decode cX5_swings 14 = .ok (.invokestatic 129, 3) := by decide +kernel
theorem dX5_swings_17 : decode cX5_swings 17 = .ok (.ifCond .ne 6, 3) := by decide +kernel
theorem dX5_swings_20 : decode cX5_swings 20 = .ok (.ldc 168, 2) := by decide +kernel
theorem dX5_swings_22 : decode cX5_swings 22 = .ok (.ireturn, 1) := by decide +kernel
theorem dX5_swings_23 : decode cX5_swings 23 = .ok (.aload_n 0, 1) := by decide +kernel
theorem dX5_swings_24 : decode cX5_swings 24 = .ok (.getfield 19, 3) := by decide +kernel
theorem dX5_swings_27 : decode cX5_swings 27 = .ok (.aload_n 0, 1) := by decide +kernel
theorem dX5_swings_28 : decode cX5_swings 28 = .ok (.getfield 10, 3) := by decide +kernel
theorem dX5_swings_31 : decode cX5_swings 31 = .ok (.invokevirtual 58, 3) := by decide +kernel
theorem dX5_swings_34 : decode cX5_swings 34 = .ok (.aload_n 0, 1) := by decide +kernel
theorem dX5_swings_35 : decode cX5_swings 35 = .ok (.getfield 19, 3) := by decide +kernel
theorem dX5_swings_38 : decode cX5_swings 38 = .ok (.iload_n 1, 1) := by decide +kernel
theorem dX5_swings_39 : decode cX5_swings 39 = .ok (.invokevirtual 196, 3) := by decide +kernel
theorem dX5_swings_42 : decode cX5_swings 42 = .ok (.istore_n 3, 1) := by decide +kernel
theorem dX5_swings_43 : decode cX5_swings 43 = .ok (.iload_n 2, 1) := by decide +kernel
theorem dX5_swings_44 : decode cX5_swings 44 = .ok (.ifCond .ne 13, 3) := by decide +kernel
theorem dX5_swings_47 : decode cX5_swings 47 = .ok (.aload_n 0, 1) := by decide +kernel
theorem dX5_swings_48 : decode cX5_swings 48 = .ok (.getfield 19, 3) := by decide +kernel
theorem dX5_swings_51 : decode cX5_swings 51 = .ok (.getfield 190, 3) := by decide +kernel
theorem dX5_swings_54 : decode cX5_swings 54 = .ok (.goto 4, 3) := by decide +kernel
theorem dX5_swings_57 : decode cX5_swings 57 = .ok (.iload_n 3, 1) := by decide +kernel
theorem dX5_swings_58 : decode cX5_swings 58 = .ok (.ireturn, 1) := by decide +kernel
theorem dX6_swings_0 : decode cX6_swings 0 = .ok (.iload_n 1, 1) := by decide +kernel
theorem dX6_swings_1 : decode cX6_swings 1 = .ok (.i2l, 1) := by decide +kernel
theorem dX6_swings_2 : decode cX6_swings 2 = .ok (.lconst 0, 1) := by decide +kernel
theorem dX6_swings_3 : decode cX6_swings 3 = .ok (.ldc2_w 204, 3) := by decide +kernel
theorem dX6_swings_6 : decode cX6_swings 6 = .ok (.invokestatic 47, 3) := by decide +kernel
theorem dX6_swings_9 : decode cX6_swings 9 = .ok (.ifCond .eq 13, 3) := by decide +kernel
theorem dX6_swings_12 : decode cX6_swings 12 = .ok (.iload_n 2, 1) := by decide +kernel
theorem dX6_swings_13 : decode cX6_swings 13 = .ok (.i2l, 1) := by decide +kernel
theorem dX6_swings_14 : decode cX6_swings 14 = .ok (.lconst 0, 1) := by decide +kernel
theorem dX6_swings_15 : decode cX6_swings 15 = .ok (.lconst 1, 1) := by decide +kernel
theorem dX6_swings_16 : decode cX6_swings 16 = .ok (.invokestatic 47, 3) := by decide +kernel
theorem dX6_swings_19 : decode cX6_swings 19 = .ok (.ifCond .ne 6, 3) := by decide +kernel
theorem dX6_swings_22 : decode cX6_swings 22 = .ok (.ldc 213, 2) := by decide +kernel
theorem dX6_swings_24 : decode cX6_swings 24 = .ok (.ireturn, 1) := by decide +kernel
theorem dX6_swings_25 : decode cX6_swings 25 = .ok (.aload_n 0, 1) := by decide +kernel
theorem dX6_swings_26 : decode cX6_swings 26 = .ok (.getfield 9, 3) := by decide +kernel
theorem dX6_swings_29 : decode cX6_swings 29 = .ok (.aload_n 0, 1) := by decide +kernel
theorem dX6_swings_30 : decode cX6_swings 30 = .ok (.getfield 19, 3) := by decide +kernel
theorem dX6_swings_33 : decode cX6_swings 33 = .ok (.invokestatic 104, 3) := by decide +kernel
theorem dX6_swings_36 : decode cX6_swings 36 = .ok (.iconst 0, 1) := by decide +kernel
theorem dX6_swings_37 : decode cX6_swings 37 = .ok (.istore_n 3, 1) := by decide +kernel
theorem dX6_swings_38 : decode cX6_swings 38 = .ok (.iconst 0, 1) := by decide +kernel
theorem dX6_swings_39 : decode cX6_swings 39 = .ok (.istore 4, 2) := by decide +kernel
theorem dX6_swings_41 : decode cX6_swings 41 = .ok (.iload 4, 2) := by decide +kernel
theorem dX6_swings_43 : decode cX6_swings 43 = .ok (.iload_n 1, 1) := by decide +kernel
theorem dX6_swings_44 : decode cX6_swings 44 = .ok (.if_icmp .ge 40, 3) := by decide +kernel
theorem dX6_swings_47 : decode cX6_swings 47 = .ok (.aload_n 0, 1) := by decide +kernel
theorem dX6_swings_48 : decode cX6_swings 48 = .ok (.invokevirtual 226, 3) := by decide +kernel
theorem dX6_swings_51 : decode cX6_swings 51 = .ok (.aload_n 0, 1) := by decide +kernel
theorem dX6_swings_52 : decode cX6_swings 52 = .ok (.getfield 9, 3) := by decide +kernel
theorem dX6_swings_55 : decode cX6_swings 55 = .ok (.iconst 3, 1) := by decide +kernel
theorem dX6_swings_56 : decode cX6_swings 56 = .ok (.iaload, 1) := by decide +kernel
theorem dX6_swings_57 : decode cX6_swings 57 = .ok (.invokestatic 153, 3) := by decide +kernel
theorem dX6_swings_60 : decode cX6_swings 60 = .ok (.iload_n 3, 1) := by decide +kernel
theorem dX6_swings_61 : decode cX6_swings 61 = .ok (.if_icmp .le 15, 3) := by decide +kernel
theorem dX6_swings_64 : decode cX6_swings 64 = .ok (.aload_n 0, 1) := by decide +kernel
theorem dX6_swings_65 : decode cX6_swings 65 = .ok (.getfield 9, 3) := by decide +kernel
theorem dX6_swings_68 : decode cX6_swings 68 = .ok (.iconst 3, 1) := by decide +kernel
theorem dX6_swings_69 : decode cX6_swings 69 = .ok (.iaload, 1) := by decide +kernel
theorem dX6_swings_70 : decode cX6_swings 70 = .ok (.invokestatic 153, 3) := by decide +kernel
theorem dX6_swings_73 : decode cX6_swings 73 = .ok (.goto 4, 3) := by decide +kernel
theorem dX6_swings_76 : decode cX6_swings 76 = .ok (.iload_n 3, 1) := by decide +kernel
theorem dX6_swings_77 : decode cX6_swings 77 = .ok (.istore_n 3, 1) := by decide +kernel
theorem dX6_swings_78 : decode cX6_swings 78 = .ok (.iinc 4 1, 3) := by decide +kernel
theorem dX6_swings_81 : decode cX6_swings 81 = .ok (.goto (-40), 3) := by decide +kernel
theorem dX6_swings_84 : decode cX6_swings 84 = .ok (.iload_n 2, 1) := by decide +kernel
theorem dX6_swings_85 : decode cX6_swings 85 = .ok (.ifCond .ne 12, 3) := by decide +kernel
theorem dX6_swings_88 : decode cX6_swings 88 = .ok (.aload_n 0, 1) := by decide +kernel
theorem dX6_swings_89 : decode cX6_swings 89 = .ok (.getfield 9, 3) := by decide +kernel
theorem dX6_swings_92 : decode cX6_swings 92 = .ok (.iconst 3, 1) := by decide +kernel
theorem dX6_swings_93 : decode cX6_swings 93 = .ok (.iaload, 1) := by decide +kernel
theorem dX6_swings_94 : decode cX6_swings 94 = .ok (.goto 4, 3) := by decide +kernel
theorem dX6_swings_97 : decode cX6_swings 97 = .ok (.iload_n 3, 1) := by decide +kernel
theorem dX6_swings_98 : decode cX6_swings 98 = .ok (.istore 4, 2) := by decide +kernel
theorem dX6_swings_100 : decode cX6_swings 100 = .ok (.aload_n 0, 1) := by decide +kernel
theorem dX6_swings_101 : decode cX6_swings 101 = .ok (.getfield 19, 3) := by decide +kernel
theorem dX6_swings_104 : decode cX6_swings 104 = .ok (.aload_n 0, 1) := by decide +kernel
theorem dX6_swings_105 : decode cX6_swings 105 = .ok (.getfield 9, 3) := by decide +kernel
theorem dX6_swings_108 : decode cX6_swings 108 = .ok (.invokestatic 104, 3) := by decide +kernel
theorem dX6_swings_111 : decode cX6_swings 111 = .ok (.iload 4, 2) := by decide +kernel
theorem dX6_swings_113 : decode cX6_swings 113 = .ok (.ireturn, 1) := by decide +kernel
theorem dX5_growsWith_0 : decode cX5_growsWith 0 = .ok (.aload_n 0, 1) := by decide +kernel
theorem dX5_growsWith_1 : decode cX5_growsWith 1 = .ok (.getfield 19, 3) := by decide +kernel
theorem dX5_growsWith_4 : decode cX5_growsWith 4 = .ok (.aload_n 0, 1) := by decide +kernel
theorem dX5_growsWith_5 : decode cX5_growsWith 5 = .ok (.getfield 10, 3) := by decide +kernel
theorem dX5_growsWith_8 : decode cX5_growsWith 8 = .ok (.invokevirtual 58, 3) := by decide +kernel
theorem dX5_growsWith_11 : decode cX5_growsWith 11 = .ok (.aload_n 0, 1) := by decide +kernel
theorem dX5_growsWith_12 : decode cX5_growsWith 12 = .ok (.getfield 19, 3) := by decide +kernel
theorem dX5_growsWith_15 : decode cX5_growsWith 15 = .ok (.getfield 106, 3) := by decide +kernel
theorem dX5_growsWith_18 : decode cX5_growsWith 18 = .ok (.bipush 6, 2) := by decide +kernel
theorem dX5_growsWith_20 : decode cX5_growsWith 20 = .ok (.iload_n 1, 1) := by decide +kernel
theorem dX5_growsWith_21 : decode cX5_growsWith 21 = .ok (.iastore, 1) := by decide +kernel
theorem dX5_growsWith_22 : decode cX5_growsWith 22 = .ok (.aload_n 0, 1) := by decide +kernel
theorem dX5_growsWith_23 : decode cX5_growsWith 23 = .ok (.getfield 19, 3) := by decide +kernel
theorem dX5_growsWith_26 : decode cX5_growsWith 26 = .ok (.bipush 100, 2) := by decide +kernel
theorem dX5_growsWith_28 : decode cX5_growsWith 28 = .ok (.invokevirtual 196, 3) := by decide +kernel
theorem dX5_growsWith_31 : decode cX5_growsWith 31 = .ok (.istore_n 2, 1) := by decide +kernel
theorem dX5_growsWith_32 : decode cX5_growsWith 32 = .ok (.aload_n 0, 1) := by decide +kernel
theorem dX5_growsWith_33 : decode cX5_growsWith 33 = .ok (.getfield 19, 3) := by decide +kernel
theorem dX5_growsWith_36 : decode cX5_growsWith 36 = .ok (.bipush 100, 2) := by decide +kernel
theorem dX5_growsWith_38 : decode cX5_growsWith 38 = .ok (.invokevirtual 196, 3) := by decide +kernel
theorem dX5_growsWith_41 : decode cX5_growsWith 41 = .ok (.istore_n 3, 1) := by decide +kernel
theorem dX5_growsWith_42 : decode cX5_growsWith 42 = .ok (.iload_n 3, 1) := by decide +kernel
theorem dX5_growsWith_43 : decode cX5_growsWith 43 = .ok (.iload_n 2, 1) := by decide +kernel
theorem dX5_growsWith_44 : decode cX5_growsWith 44 = .ok (.if_icmp .le 7, 3) := by decide +kernel
theorem dX5_growsWith_47 : decode cX5_growsWith 47 = .ok (.iconst 1, 1) := by decide +kernel
theorem dX5_growsWith_48 : decode cX5_growsWith 48 = .ok (.goto 4, 3) := by decide +kernel
theorem dX5_growsWith_51 : decode cX5_growsWith 51 = .ok (.iconst 0, 1) := by decide +kernel
theorem dX5_growsWith_52 : decode cX5_growsWith 52 = .ok (.ireturn, 1) := by decide +kernel
section WALK
variable {p : Program} {l : Launch} {e : Env} {s : State} {m : MethodId} {args : Array Value} {below : List Frame} {meth : Method} {c : Code} {G : GG}

def j_X6_odds_183 (k29 : Mem → Int32 → Int32 → Int32 → Int32 → Prop) (post : Int32 → Mem → Prop) (M : Mem) (y0 : Int32) (y1 : Int32) (x1 : Int32) (x2 : Int32) (x4 : Int32) : Prop := k29 M x1 x2 (y1 + y0) (x4 + (1 : Int32))
def j_X6_odds_161 (k29 : Mem → Int32 → Int32 → Int32 → Int32 → Prop) (post : Int32 → Mem → Prop) (M : Mem) (x1 : Int32) (x2 : Int32) (x3 : Int32) (x4 : Int32) (x6 : Int32) : Prop := q_X6_copies M 61 58 (fun M2 => (x6 = 0 → (j_X6_odds_183 k29 post M2 (1 : Int32) x3 x1 x2 x4)) ∧ (¬ (x6 = 0) → (j_X6_odds_183 k29 post M2 (0 : Int32) x3 x1 x2 x4)))
def j_X6_odds_153 (k29 : Mem → Int32 → Int32 → Int32 → Int32 → Prop) (k66 : Mem → Int32 → Int32 → Int32 → Int32 → Int32 → Int32 → Int32 → Prop) (post : Int32 → Mem → Prop) (M : Mem) (y0 : Int32) (x1 : Int32) (x2 : Int32) (x3 : Int32) (x4 : Int32) (x5 : Int32) (x7 : Int32) : Prop := k66 M x1 x2 x3 x4 x5 y0 (x7 + (1 : Int32))
def j_X6_odds_136 (k29 : Mem → Int32 → Int32 → Int32 → Int32 → Prop) (k66 : Mem → Int32 → Int32 → Int32 → Int32 → Int32 → Int32 → Int32 → Prop) (post : Int32 → Mem → Prop) (M : Mem) (y0 : Int32) (x1 : Int32) (x2 : Int32) (x3 : Int32) (x4 : Int32) (x5 : Int32) (x7 : Int32) : Prop := q_X6_goesTenth M y0 (fun r4 M5 => ((M5 57 22) < 0 → (j_X6_odds_153 k29 k66 post M5 (0 : Int32) x1 x2 x3 x4 x5 x7)) ∧ (¬ ((M5 57 22) < 0) → (j_X6_odds_153 k29 k66 post M5 (1 : Int32) x1 x2 x3 x4 x5 x7)))
def b_X6_odds_66 (k29 : Mem → Int32 → Int32 → Int32 → Int32 → Prop) (k66 : Mem → Int32 → Int32 → Int32 → Int32 → Int32 → Int32 → Int32 → Prop) (post : Int32 → Mem → Prop) (M : Mem) (x1 : Int32) (x2 : Int32) (x3 : Int32) (x4 : Int32) (x5 : Int32) (x6 : Int32) (x7 : Int32) : Prop := ((100 : Int32) ≤ x7 → (j_X6_odds_161 k29 post M x1 x2 x3 x4 x6)) ∧ (¬ ((100 : Int32) ≤ x7) → ((x6 = 0 → (∀ v9 : Int32, v9 = ((x5 * (1103515245 : Int32)) + (12345 : Int32)) → (∀ v10 : Int32, v10 = (((M 58 5) + (((v9 &&& (2147483647 : Int32)) / (65536 : Int32)) - ((v9 &&& (2147483647 : Int32)) / (65536 : Int32)) / (21 : Int32) * (21 : Int32))) - (10 : Int32)) → ((0 ≤ v10 → ((v10 ≤ (60 : Int32) → (j_X6_odds_136 k29 k66 post M v10 x1 x2 x3 x4 v9 x7)) ∧ (¬ (v10 ≤ (60 : Int32)) → (j_X6_odds_136 k29 k66 post M (60 : Int32) x1 x2 x3 x4 v9 x7)))) ∧ (¬ (0 ≤ v10) → (j_X6_odds_136 k29 k66 post M (0 : Int32) x1 x2 x3 x4 v9 x7)))))) ∧ (¬ (x6 = 0) → (j_X6_odds_161 k29 post M x1 x2 x3 x4 x6))))
def lp_X6_odds_66 (k29 : Mem → Int32 → Int32 → Int32 → Int32 → Prop) (post : Int32 → Mem → Prop) : Nat → Mem → Int32 → Int32 → Int32 → Int32 → Int32 → Int32 → Int32 → Prop
  | 0 => fun _ _ _ _ _ _ _ _ => False
  | n + 1 => fun M x1 x2 x3 x4 x5 x6 x7 => b_X6_odds_66 k29 (lp_X6_odds_66 k29 post n) post M x1 x2 x3 x4 x5 x6 x7
def b_X6_odds_29 (k29 : Mem → Int32 → Int32 → Int32 → Int32 → Prop) (post : Int32 → Mem → Prop) (M : Mem) (x1 : Int32) (x2 : Int32) (x3 : Int32) (x4 : Int32) : Prop := (x1 ≤ x4 → (post x3 M)) ∧ (¬ (x1 ≤ x4) → (q_X6_copies M 58 61 (fun M15 => q_X6_allPieces M15  (fun r16 M17 => q_X6_sumsUp M17 r16 (fun M19 => ∃ n, lp_X6_odds_66 k29 post n M19 x1 x2 x3 x4 (x2 + x4) (0 : Int32) (0 : Int32))))))
def lp_X6_odds_29 (post : Int32 → Mem → Prop) : Nat → Mem → Int32 → Int32 → Int32 → Int32 → Prop
  | 0 => fun _ _ _ _ _ => False
  | n + 1 => fun M x1 x2 x3 x4 => b_X6_odds_29 (lp_X6_odds_29 post n) post M x1 x2 x3 x4
def q_X6_odds (M : Mem) (x1 : Int32) (x2 : Int32) (post : Int32 → Mem → Prop) : Prop := q_X6_isIn M x1.toInt64 (1 : Int64) (20 : Int64) (fun r20 M21 => (r20 = 0 → (post (-1 : Int32) M21)) ∧ (¬ (r20 = 0) → (q_X6_isLine M21  (fun r23 M24 => (r23 = 0 → (post (-3 : Int32) M24)) ∧ (¬ (r23 = 0) → (∃ n, lp_X6_odds_29 post n M24 x1 x2 (0 : Int32) (0 : Int32)))))))
set_option maxHeartbeats 4000000 in
set_option maxRecDepth 100000 in
theorem t_X6_odds_183 (C : Cx G p s m args meth c RX6 cX6_odds 10 (some .int)) {post : Int32 → Mem → Prop} {k29 : Mem → Int32 → Int32 → Int32 → Int32 → Prop} (hk29 : ∀ (M : Mem) (x1 : Int32) (x2 : Int32) (x3 : Int32) (x4 : Int32) (H : Heap) (locs : List Loc) (ls : Array Slot), Wd G s M H locs → lv_has ls 10 [(0, .ref (ga G 57)), (1, .int x1), (2, .int x2), (3, .int x3), (4, .int x4)] → k29 M x1 x2 x3 x4 → W p l e (rmk 5) s m args below meth c H locs 0 0 (MQ below (va_Qi post (Qw G) (Af G s.heap.size)) args s 0 0 (Af G s.heap.size)) (F0 m 29 ls [])) (M : Mem) (y0 : Int32) (y1 : Int32) (x1 : Int32) (x2 : Int32) (x4 : Int32) {H : Heap} {locs : List Loc} {ls : Array Slot} (w : Wd G s M H locs) (hl : lv_has ls 10 [(0, .ref (ga G 57)), (1, .int x1), (2, .int x2), (4, .int x4)]) (h : j_X6_odds_183 k29 post M y0 y1 x1 x2 x4) : W p l e (rmk 5) s m args below meth c H locs 0 0 (MQ below (va_Qi post (Qw G) (Af G s.heap.size)) args s 0 0 (Af G s.heap.size)) (F0 m 183 ls [.int y0, .int y1]) := by
  have hx := C.1.1
  have hb := C.1.2.1
  unfold j_X6_odds_183 at h
  refine lv_iadd hx hb dX6_odds_183 ?_
  refine lv_istore_n (lv' := [(3, .int (y1 + y0)), (0, .ref (ga G 57)), (1, .int x1), (2, .int x2), (4, .int x4)]) hx hb dX6_odds_184 rfl hl (by decide) rfl (fun ls hl => ?_)
  refine lv_iinc (v := (x4 + (1 : Int32))) (lv' := [(4, .int (x4 + (1 : Int32))), (3, .int (y1 + y0)), (0, .ref (ga G 57)), (1, .int x1), (2, .int x2)]) hx hb dX6_odds_185 hl (k := 4) rfl rfl (by decide) rfl (fun ls hl => ?_)
  refine lv_goto (tgt := 29) hx hb dX6_odds_188 (by decide) ?_
  exact hk29 M x1 x2 (y1 + y0) (x4 + (1 : Int32)) _ _ _  w (lv_sub hl [2, 3, 4, 1, 0] rfl) h
set_option maxHeartbeats 4000000 in
set_option maxRecDepth 100000 in
theorem t_X6_odds_161 (C : Cx G p s m args meth c RX6 cX6_odds 10 (some .int)) {post : Int32 → Mem → Prop} {k29 : Mem → Int32 → Int32 → Int32 → Int32 → Prop} (hk29 : ∀ (M : Mem) (x1 : Int32) (x2 : Int32) (x3 : Int32) (x4 : Int32) (H : Heap) (locs : List Loc) (ls : Array Slot), Wd G s M H locs → lv_has ls 10 [(0, .ref (ga G 57)), (1, .int x1), (2, .int x2), (3, .int x3), (4, .int x4)] → k29 M x1 x2 x3 x4 → W p l e (rmk 5) s m args below meth c H locs 0 0 (MQ below (va_Qi post (Qw G) (Af G s.heap.size)) args s 0 0 (Af G s.heap.size)) (F0 m 29 ls [])) (M : Mem) (x1 : Int32) (x2 : Int32) (x3 : Int32) (x4 : Int32) (x6 : Int32) {H : Heap} {locs : List Loc} {ls : Array Slot} (w : Wd G s M H locs) (hl : lv_has ls 10 [(0, .ref (ga G 57)), (1, .int x1), (2, .int x2), (3, .int x3), (4, .int x4), (6, .int x6)]) (h : j_X6_odds_161 k29 post M x1 x2 x3 x4 x6) : W p l e (rmk 5) s m args below meth c H locs 0 0 (MQ below (va_Qi post (Qw G) (Af G s.heap.size)) args s 0 0 (Af G s.heap.size)) (F0 m 161 ls []) := by
  have hx := C.1.1
  have hb := C.1.2.1
  unfold j_X6_odds_161 at h
  refine lv_aload_n hx hb dX6_odds_161 rfl (lv_at hl 0 rfl) ?_
  refine gt_6_3 C w kw_5_3 dX6_odds_162 ?_
  refine lv_aload_n hx hb dX6_odds_165 rfl (lv_at hl 0 rfl) ?_
  refine gt_6_0 C w kw_5_0 dX6_odds_166 ?_
  refine end_v w (run_S (As := [.ref (ga G 61), .ref (ga G 58)]) C w hl.1 (c_X6_copies l G C.2.2.1 _ _ 61 58 ⟨by decide, by decide⟩ ⟨by decide, by decide⟩ _ h) kw_13_8 kw_1_5 kw_13_6 kw_13_7 hd_X6_copies ⟨by decide, by decide⟩ rfl (Nat.le_of_ble_eq_true rfl) dX6_odds_169) (fun M2 H locs h w => ?_)
  refine lv_iload_n hx hb dX6_odds_172 rfl (lv_at hl 3 rfl) ?_
  refine lv_iload hx hb dX6_odds_173 (lv_at hl 5 rfl) ?_
  refine lv_if_eq (tgt := 182) hx hb dX6_odds_175 (by decide) (fun c3 => ?_) (fun c3 => ?_)
  · replace h := h.1 c3
    refine lv_iconst (v := 1) hx hb dX6_odds_182 (by decide) ?_
    exact t_X6_odds_183 C hk29 M2 (1 : Int32) x3 x1 x2 x4  w (lv_sub hl [0, 1, 2, 4] rfl) h
  replace h := h.2 c3
  refine lv_iconst (v := 0) hx hb dX6_odds_178 (by decide) ?_
  refine lv_goto (tgt := 183) hx hb dX6_odds_179 (by decide) ?_
  exact t_X6_odds_183 C hk29 M2 (0 : Int32) x3 x1 x2 x4  w (lv_sub hl [0, 1, 2, 4] rfl) h
set_option maxHeartbeats 4000000 in
set_option maxRecDepth 100000 in
theorem t_X6_odds_153 (C : Cx G p s m args meth c RX6 cX6_odds 10 (some .int)) {post : Int32 → Mem → Prop} {k29 : Mem → Int32 → Int32 → Int32 → Int32 → Prop} {k66 : Mem → Int32 → Int32 → Int32 → Int32 → Int32 → Int32 → Int32 → Prop} (hk29 : ∀ (M : Mem) (x1 : Int32) (x2 : Int32) (x3 : Int32) (x4 : Int32) (H : Heap) (locs : List Loc) (ls : Array Slot), Wd G s M H locs → lv_has ls 10 [(0, .ref (ga G 57)), (1, .int x1), (2, .int x2), (3, .int x3), (4, .int x4)] → k29 M x1 x2 x3 x4 → W p l e (rmk 5) s m args below meth c H locs 0 0 (MQ below (va_Qi post (Qw G) (Af G s.heap.size)) args s 0 0 (Af G s.heap.size)) (F0 m 29 ls [])) (hk66 : ∀ (M : Mem) (x1 : Int32) (x2 : Int32) (x3 : Int32) (x4 : Int32) (x5 : Int32) (x6 : Int32) (x7 : Int32) (H : Heap) (locs : List Loc) (ls : Array Slot), Wd G s M H locs → lv_has ls 10 [(0, .ref (ga G 57)), (1, .int x1), (2, .int x2), (3, .int x3), (4, .int x4), (5, .int x5), (6, .int x6), (7, .int x7)] → k66 M x1 x2 x3 x4 x5 x6 x7 → W p l e (rmk 5) s m args below meth c H locs 0 0 (MQ below (va_Qi post (Qw G) (Af G s.heap.size)) args s 0 0 (Af G s.heap.size)) (F0 m 66 ls [])) (M : Mem) (y0 : Int32) (x1 : Int32) (x2 : Int32) (x3 : Int32) (x4 : Int32) (x5 : Int32) (x7 : Int32) {H : Heap} {locs : List Loc} {ls : Array Slot} (w : Wd G s M H locs) (hl : lv_has ls 10 [(0, .ref (ga G 57)), (1, .int x1), (2, .int x2), (3, .int x3), (4, .int x4), (5, .int x5), (7, .int x7)]) (h : j_X6_odds_153 k29 k66 post M y0 x1 x2 x3 x4 x5 x7) : W p l e (rmk 5) s m args below meth c H locs 0 0 (MQ below (va_Qi post (Qw G) (Af G s.heap.size)) args s 0 0 (Af G s.heap.size)) (F0 m 153 ls [.int y0]) := by
  have hx := C.1.1
  have hb := C.1.2.1
  unfold j_X6_odds_153 at h
  refine lv_istore (lv' := [(6, .int y0), (0, .ref (ga G 57)), (1, .int x1), (2, .int x2), (3, .int x3), (4, .int x4), (5, .int x5), (7, .int x7)]) hx hb dX6_odds_153 hl (by decide) rfl (fun ls hl => ?_)
  refine lv_iinc (v := (x7 + (1 : Int32))) (lv' := [(7, .int (x7 + (1 : Int32))), (6, .int y0), (0, .ref (ga G 57)), (1, .int x1), (2, .int x2), (3, .int x3), (4, .int x4), (5, .int x5)]) hx hb dX6_odds_155 hl (k := 7) rfl rfl (by decide) rfl (fun ls hl => ?_)
  refine lv_goto (tgt := 66) hx hb dX6_odds_158 (by decide) ?_
  exact hk66 M x1 x2 x3 x4 x5 y0 (x7 + (1 : Int32)) _ _ _  w (lv_sub hl [2, 3, 4, 5, 6, 7, 1, 0] rfl) h
set_option maxHeartbeats 4000000 in
set_option maxRecDepth 100000 in
theorem t_X6_odds_136 (C : Cx G p s m args meth c RX6 cX6_odds 10 (some .int)) {post : Int32 → Mem → Prop} {k29 : Mem → Int32 → Int32 → Int32 → Int32 → Prop} {k66 : Mem → Int32 → Int32 → Int32 → Int32 → Int32 → Int32 → Int32 → Prop} (hk29 : ∀ (M : Mem) (x1 : Int32) (x2 : Int32) (x3 : Int32) (x4 : Int32) (H : Heap) (locs : List Loc) (ls : Array Slot), Wd G s M H locs → lv_has ls 10 [(0, .ref (ga G 57)), (1, .int x1), (2, .int x2), (3, .int x3), (4, .int x4)] → k29 M x1 x2 x3 x4 → W p l e (rmk 5) s m args below meth c H locs 0 0 (MQ below (va_Qi post (Qw G) (Af G s.heap.size)) args s 0 0 (Af G s.heap.size)) (F0 m 29 ls [])) (hk66 : ∀ (M : Mem) (x1 : Int32) (x2 : Int32) (x3 : Int32) (x4 : Int32) (x5 : Int32) (x6 : Int32) (x7 : Int32) (H : Heap) (locs : List Loc) (ls : Array Slot), Wd G s M H locs → lv_has ls 10 [(0, .ref (ga G 57)), (1, .int x1), (2, .int x2), (3, .int x3), (4, .int x4), (5, .int x5), (6, .int x6), (7, .int x7)] → k66 M x1 x2 x3 x4 x5 x6 x7 → W p l e (rmk 5) s m args below meth c H locs 0 0 (MQ below (va_Qi post (Qw G) (Af G s.heap.size)) args s 0 0 (Af G s.heap.size)) (F0 m 66 ls [])) (M : Mem) (y0 : Int32) (x1 : Int32) (x2 : Int32) (x3 : Int32) (x4 : Int32) (x5 : Int32) (x7 : Int32) {H : Heap} {locs : List Loc} {ls : Array Slot} (w : Wd G s M H locs) (hl : lv_has ls 10 [(0, .ref (ga G 57)), (1, .int x1), (2, .int x2), (3, .int x3), (4, .int x4), (5, .int x5), (7, .int x7)]) (h : j_X6_odds_136 k29 k66 post M y0 x1 x2 x3 x4 x5 x7) : W p l e (rmk 5) s m args below meth c H locs 0 0 (MQ below (va_Qi post (Qw G) (Af G s.heap.size)) args s 0 0 (Af G s.heap.size)) (F0 m 136 ls [.int y0, .ref (ga G 57)]) := by
  have hx := C.1.1
  have hb := C.1.2.1
  unfold j_X6_odds_136 at h
  refine end_i w (run_V (As := [.int y0]) C w hl.1 (c_X6_goesTenth l G C.2.2.1 _ _ y0  _ h) kw_21_22 kw_1_5 kw_21_19 kw_21_20 kw_21_21 hd_X6_goesTenth ⟨by decide, by decide⟩ (w.recv C (i := 57) (by decide) (pE_6) rfl) rfl (Nat.le_of_ble_eq_true rfl) dX6_odds_136) (fun r4 M5 H locs h w => ?_)
  refine lv_istore (lv' := [(9, .int r4), (0, .ref (ga G 57)), (1, .int x1), (2, .int x2), (3, .int x3), (4, .int x4), (5, .int x5), (7, .int x7)]) hx hb dX6_odds_139 hl (by decide) rfl (fun ls hl => ?_)
  refine lv_aload_n hx hb dX6_odds_141 rfl (lv_at hl 1 rfl) ?_
  refine gt_6_22 C w kw_21_23 dX6_odds_142 ?_
  refine lv_if_lt (tgt := 152) hx hb dX6_odds_145 (by decide) (fun c6 => ?_) (fun c6 => ?_)
  · replace h := h.1 c6
    refine lv_iconst (v := 0) hx hb dX6_odds_152 (by decide) ?_
    exact t_X6_odds_153 C hk29 hk66 M5 (0 : Int32) x1 x2 x3 x4 x5 x7  w (lv_sub hl [1, 2, 3, 4, 5, 6, 7] rfl) h
  replace h := h.2 c6
  refine lv_iconst (v := 1) hx hb dX6_odds_148 (by decide) ?_
  refine lv_goto (tgt := 153) hx hb dX6_odds_149 (by decide) ?_
  exact t_X6_odds_153 C hk29 hk66 M5 (1 : Int32) x1 x2 x3 x4 x5 x7  w (lv_sub hl [1, 2, 3, 4, 5, 6, 7] rfl) h
set_option maxHeartbeats 4000000 in
set_option maxRecDepth 100000 in
theorem t_X6_odds_66 (C : Cx G p s m args meth c RX6 cX6_odds 10 (some .int)) {post : Int32 → Mem → Prop} {k29 : Mem → Int32 → Int32 → Int32 → Int32 → Prop} (hk29 : ∀ (M : Mem) (x1 : Int32) (x2 : Int32) (x3 : Int32) (x4 : Int32) (H : Heap) (locs : List Loc) (ls : Array Slot), Wd G s M H locs → lv_has ls 10 [(0, .ref (ga G 57)), (1, .int x1), (2, .int x2), (3, .int x3), (4, .int x4)] → k29 M x1 x2 x3 x4 → W p l e (rmk 5) s m args below meth c H locs 0 0 (MQ below (va_Qi post (Qw G) (Af G s.heap.size)) args s 0 0 (Af G s.heap.size)) (F0 m 29 ls [])) : ∀ (n : Nat) (M : Mem) (x1 : Int32) (x2 : Int32) (x3 : Int32) (x4 : Int32) (x5 : Int32) (x6 : Int32) (x7 : Int32) {H : Heap} {locs : List Loc} {ls : Array Slot} (w : Wd G s M H locs) (hl : lv_has ls 10 [(0, .ref (ga G 57)), (1, .int x1), (2, .int x2), (3, .int x3), (4, .int x4), (5, .int x5), (6, .int x6), (7, .int x7)]) (h : lp_X6_odds_66 k29 post n M x1 x2 x3 x4 x5 x6 x7), W p l e (rmk 5) s m args below meth c H locs 0 0 (MQ below (va_Qi post (Qw G) (Af G s.heap.size)) args s 0 0 (Af G s.heap.size)) (F0 m 66 ls []) := by
  have hx := C.1.1
  have hb := C.1.2.1
  intro n9
  induction n9 with
  | zero => intro M x1 x2 x3 x4 x5 x6 x7 H locs ls w hl h; exact absurd h id
  | succ n9 ih9 =>
    intro M x1 x2 x3 x4 x5 x6 x7 H locs ls w hl h
    have hk66 : ∀ (M : Mem) (x1 : Int32) (x2 : Int32) (x3 : Int32) (x4 : Int32) (x5 : Int32) (x6 : Int32) (x7 : Int32) (H : Heap) (locs : List Loc) (ls : Array Slot), Wd G s M H locs → lv_has ls 10 [(0, .ref (ga G 57)), (1, .int x1), (2, .int x2), (3, .int x3), (4, .int x4), (5, .int x5), (6, .int x6), (7, .int x7)] → lp_X6_odds_66 k29 post n9 M x1 x2 x3 x4 x5 x6 x7 → W p l e (rmk 5) s m args below meth c H locs 0 0 (MQ below (va_Qi post (Qw G) (Af G s.heap.size)) args s 0 0 (Af G s.heap.size)) (F0 m 66 ls []) := fun M x1 x2 x3 x4 x5 x6 x7 H locs ls w hl h => ih9 M x1 x2 x3 x4 x5 x6 x7 w hl h
    replace h : b_X6_odds_66 k29 (lp_X6_odds_66 k29 post n9) post M x1 x2 x3 x4 x5 x6 x7 := h
    unfold b_X6_odds_66 at h
    refine lv_iload hx hb dX6_odds_66 (lv_at hl 7 rfl) ?_
    refine lv_bipush (v := 100) hx hb dX6_odds_68 (by decide) ?_
    refine lv_icmp_ge (tgt := 161) hx hb dX6_odds_70 (by decide) (fun c7 => ?_) (fun c7 => ?_)
    · replace h := h.1 c7
      exact t_X6_odds_161 C hk29 M x1 x2 x3 x4 x6  w (lv_sub hl [0, 1, 2, 3, 4, 6] rfl) h
    replace h := h.2 c7
    refine lv_iload hx hb dX6_odds_73 (lv_at hl 6 rfl) ?_
    refine lv_if_ne (tgt := 161) hx hb dX6_odds_75 (by decide) (fun c8 => ?_) (fun c8 => ?_)
    · replace h := h.2 c8
      exact t_X6_odds_161 C hk29 M x1 x2 x3 x4 x6  w (lv_sub hl [0, 1, 2, 3, 4, 6] rfl) h
    replace h := h.1 c8
    refine lv_iload hx hb dX6_odds_78 (lv_at hl 5 rfl) ?_
    refine lv_ldc hx hb C.1.2.2.2.1 (C.ws kw_27_23) dX6_odds_80 ?_
    refine lv_imul hx hb dX6_odds_82 ?_
    refine lv_sipush (v := 12345) hx hb dX6_odds_83 (by decide) ?_
    refine lv_iadd hx hb dX6_odds_86 ?_
    refine lv_topi (fun v9 ev9 => ?_)
    replace h := h v9 ev9
    refine lv_istore (lv' := [(5, .int v9), (0, .ref (ga G 57)), (1, .int x1), (2, .int x2), (3, .int x3), (4, .int x4), (6, .int x6), (7, .int x7)]) hx hb dX6_odds_87 hl (by decide) rfl (fun ls hl => ?_)
    refine lv_aload_n hx hb dX6_odds_89 rfl (lv_at hl 1 rfl) ?_
    refine gt_6_0 C w kw_5_0 dX6_odds_90 ?_
    refine lv_iconst (v := 5) hx hb dX6_odds_93 (by decide) ?_
    refine pw_ld C w (i := 58) (by decide) pE_58 (vl (x := (5 : Int32)) (by decide)) (k := 5) (by decide) dX6_odds_94 ?_
    refine lv_iload hx hb dX6_odds_95 (lv_at hl 0 rfl) ?_
    refine lv_ldc hx hb C.1.2.2.2.1 (C.ws kw_28_0) dX6_odds_97 ?_
    refine lv_iand hx hb dX6_odds_99 ?_
    refine lv_ldc hx hb C.1.2.2.2.1 (C.ws kw_28_1) dX6_odds_100 ?_
    refine lv_idiv hx hb dX6_odds_102 (by decide) ?_
    refine lv_bipush (v := 21) hx hb dX6_odds_103 (by decide) ?_
    refine lv_irem hx hb dX6_odds_105 (by decide) ?_
    refine lv_iadd hx hb dX6_odds_106 ?_
    refine lv_bipush (v := 10) hx hb dX6_odds_107 (by decide) ?_
    refine lv_isub hx hb dX6_odds_109 ?_
    refine lv_topi (fun v10 ev10 => ?_)
    replace h := h v10 ev10
    refine lv_istore (lv' := [(8, .int v10), (5, .int v9), (0, .ref (ga G 57)), (1, .int x1), (2, .int x2), (3, .int x3), (4, .int x4), (6, .int x6), (7, .int x7)]) hx hb dX6_odds_110 hl (by decide) rfl (fun ls hl => ?_)
    refine lv_aload_n hx hb dX6_odds_112 rfl (lv_at hl 2 rfl) ?_
    refine lv_iload hx hb dX6_odds_113 (lv_at hl 0 rfl) ?_
    refine lv_if_ge (tgt := 122) hx hb dX6_odds_115 (by decide) (fun c11 => ?_) (fun c11 => ?_)
    · replace h := h.1 c11
      refine lv_iload hx hb dX6_odds_122 (lv_at hl 0 rfl) ?_
      refine lv_bipush (v := 60) hx hb dX6_odds_124 (by decide) ?_
      refine lv_icmp_le (tgt := 134) hx hb dX6_odds_126 (by decide) (fun c12 => ?_) (fun c12 => ?_)
      · replace h := h.1 c12
        refine lv_iload hx hb dX6_odds_134 (lv_at hl 0 rfl) ?_
        exact t_X6_odds_136 C hk29 hk66 M v10 x1 x2 x3 x4 v9 x7  w (lv_sub hl [2, 3, 4, 5, 6, 1, 8] rfl) h
      replace h := h.2 c12
      refine lv_bipush (v := 60) hx hb dX6_odds_129 (by decide) ?_
      refine lv_goto (tgt := 136) hx hb dX6_odds_131 (by decide) ?_
      exact t_X6_odds_136 C hk29 hk66 M (60 : Int32) x1 x2 x3 x4 v9 x7  w (lv_sub hl [2, 3, 4, 5, 6, 1, 8] rfl) h
    replace h := h.2 c11
    refine lv_iconst (v := 0) hx hb dX6_odds_118 (by decide) ?_
    refine lv_goto (tgt := 136) hx hb dX6_odds_119 (by decide) ?_
    exact t_X6_odds_136 C hk29 hk66 M (0 : Int32) x1 x2 x3 x4 v9 x7  w (lv_sub hl [2, 3, 4, 5, 6, 1, 8] rfl) h
set_option maxHeartbeats 4000000 in
set_option maxRecDepth 100000 in
theorem t_X6_odds_29 (C : Cx G p s m args meth c RX6 cX6_odds 10 (some .int)) {post : Int32 → Mem → Prop} : ∀ (n : Nat) (M : Mem) (x1 : Int32) (x2 : Int32) (x3 : Int32) (x4 : Int32) {H : Heap} {locs : List Loc} {ls : Array Slot} (w : Wd G s M H locs) (hl : lv_has ls 10 [(0, .ref (ga G 57)), (1, .int x1), (2, .int x2), (3, .int x3), (4, .int x4)]) (h : lp_X6_odds_29 post n M x1 x2 x3 x4), W p l e (rmk 5) s m args below meth c H locs 0 0 (MQ below (va_Qi post (Qw G) (Af G s.heap.size)) args s 0 0 (Af G s.heap.size)) (F0 m 29 ls []) := by
  have hx := C.1.1
  have hb := C.1.2.1
  intro n9
  induction n9 with
  | zero => intro M x1 x2 x3 x4 H locs ls w hl h; exact absurd h id
  | succ n9 ih9 =>
    intro M x1 x2 x3 x4 H locs ls w hl h
    have hk29 : ∀ (M : Mem) (x1 : Int32) (x2 : Int32) (x3 : Int32) (x4 : Int32) (H : Heap) (locs : List Loc) (ls : Array Slot), Wd G s M H locs → lv_has ls 10 [(0, .ref (ga G 57)), (1, .int x1), (2, .int x2), (3, .int x3), (4, .int x4)] → lp_X6_odds_29 post n9 M x1 x2 x3 x4 → W p l e (rmk 5) s m args below meth c H locs 0 0 (MQ below (va_Qi post (Qw G) (Af G s.heap.size)) args s 0 0 (Af G s.heap.size)) (F0 m 29 ls []) := fun M x1 x2 x3 x4 H locs ls w hl h => ih9 M x1 x2 x3 x4 w hl h
    replace h : b_X6_odds_29 (lp_X6_odds_29 post n9) post M x1 x2 x3 x4 := h
    unfold b_X6_odds_29 at h
    refine lv_iload hx hb dX6_odds_29 (lv_at hl 4 rfl) ?_
    refine lv_iload_n hx hb dX6_odds_31 rfl (lv_at hl 1 rfl) ?_
    refine lv_icmp_ge (tgt := 191) hx hb dX6_odds_32 (by decide) (fun c13 => ?_) (fun c13 => ?_)
    · replace h := h.1 c13
      refine lv_iload_n hx hb dX6_odds_191 rfl (lv_at hl 3 rfl) ?_
      exact ret_i C w h dX6_odds_192
    replace h := h.2 c13
    refine lv_aload_n hx hb dX6_odds_35 rfl (lv_at hl 0 rfl) ?_
    refine gt_6_0 C w kw_5_0 dX6_odds_36 ?_
    refine lv_aload_n hx hb dX6_odds_39 rfl (lv_at hl 0 rfl) ?_
    refine gt_6_3 C w kw_5_3 dX6_odds_40 ?_
    refine end_v w (run_S (As := [.ref (ga G 58), .ref (ga G 61)]) C w hl.1 (c_X6_copies l G C.2.2.1 _ _ 58 61 ⟨by decide, by decide⟩ ⟨by decide, by decide⟩ _ h) kw_13_8 kw_1_5 kw_13_6 kw_13_7 hd_X6_copies ⟨by decide, by decide⟩ rfl (Nat.le_of_ble_eq_true rfl) dX6_odds_43) (fun M15 H locs h w => ?_)
    refine lv_aload_n hx hb dX6_odds_46 rfl (lv_at hl 0 rfl) ?_
    refine lv_aload_n hx hb dX6_odds_47 rfl (lv_at hl 0 rfl) ?_
    refine end_i w (run_V (As := []) C w hl.1 (c_X6_allPieces l G C.2.2.1 _ _   _ h) kw_17_15 kw_1_5 kw_17_12 kw_17_13 kw_17_14 hd_X6_allPieces ⟨by decide, by decide⟩ (w.recv C (i := 57) (by decide) (pE_6) rfl) rfl (Nat.le_of_ble_eq_true rfl) dX6_odds_48) (fun r16 M17 H locs h w => ?_)
    refine end_v w (run_V (As := [.int r16]) C w hl.1 (c_X6_sumsUp l G C.2.2.1 _ _ r16  _ h) kw_17_19 kw_1_5 kw_17_16 kw_17_17 kw_17_18 hd_X6_sumsUp ⟨by decide, by decide⟩ (w.recv C (i := 57) (by decide) (pE_6) rfl) rfl (Nat.le_of_ble_eq_true rfl) dX6_odds_51) (fun M19 H locs h w => ?_)
    refine lv_iload_n hx hb dX6_odds_54 rfl (lv_at hl 2 rfl) ?_
    refine lv_iload hx hb dX6_odds_55 (lv_at hl 4 rfl) ?_
    refine lv_iadd hx hb dX6_odds_57 ?_
    refine lv_istore (lv' := [(5, .int (x2 + x4)), (0, .ref (ga G 57)), (1, .int x1), (2, .int x2), (3, .int x3), (4, .int x4)]) hx hb dX6_odds_58 hl (by decide) rfl (fun ls hl => ?_)
    refine lv_iconst (v := 0) hx hb dX6_odds_60 (by decide) ?_
    refine lv_istore (lv' := [(6, .int (0 : Int32)), (5, .int (x2 + x4)), (0, .ref (ga G 57)), (1, .int x1), (2, .int x2), (3, .int x3), (4, .int x4)]) hx hb dX6_odds_61 hl (by decide) rfl (fun ls hl => ?_)
    refine lv_iconst (v := 0) hx hb dX6_odds_63 (by decide) ?_
    refine lv_istore (lv' := [(7, .int (0 : Int32)), (6, .int (0 : Int32)), (5, .int (x2 + x4)), (0, .ref (ga G 57)), (1, .int x1), (2, .int x2), (3, .int x3), (4, .int x4)]) hx hb dX6_odds_64 hl (by decide) rfl (fun ls hl => ?_)
    obtain ⟨n, h⟩ := h
    exact t_X6_odds_66 C hk29 n M19 x1 x2 x3 x4 (x2 + x4) (0 : Int32) (0 : Int32)  w (lv_sub hl [3, 4, 5, 6, 7, 2, 1, 0] rfl) h
set_option maxHeartbeats 4000000 in
set_option maxRecDepth 100000 in
theorem c_X6_odds (l : Launch) (G : GG) (hG : Ag G) (sz : Nat) (M : Mem) (x1 : Int32) (x2 : Int32) (post : Int32 → Mem → Prop) (h : q_X6_odds M x1 x2 post) : Met l yX6_odds (Cond.code yX6_odds cX6_odds 10 (some .int) :: wsL_law) (rmk 5) (va_Pc [.ref (ga G 57), .int x1, .int x2] (Pw G sz M)) (va_Qi post (Qw G) (Af G sz)) 0 0 (Af G sz) := by
  refine Met.ofW (cc := cX6_odds) (maxL := 10) (ret := (some .int)) (by decide) rfl ?_
  intro p e s m args below meth c s₁ B hml hv
  obtain ⟨rfl, hsz, hE, hP⟩ := hv
  subst hsz
  have C := Cx.of (own := RX6) hG hE rfl hml B
  have w : Wd G s M s.heap [] := ⟨hP, va_S.rf⟩
  have hl := lv_entry [.ref (ga G 57), .int x1, .int x2] (n := 10) (Nat.le_of_ble_eq_true rfl)
  rw [lg_entry_eq]
  generalize (lg_sl [.ref (ga G 57), .int x1, .int x2] ++ List.replicate (10 - (lg_sl [.ref (ga G 57), .int x1, .int x2]).length) Slot.unset).toArray = ls at hl ⊢
  have hl : lv_has ls 10 [(0, .ref (ga G 57)), (1, .int x1), (2, .int x2)] := hl
  have hx := C.1.1
  have hb := C.1.2.1
  show W p l e (rmk 5) s m _ below meth c s.heap [] 0 0 _ _
  unfold q_X6_odds at h
  refine lv_iload_n hx hb dX6_odds_0 rfl (lv_at hl 1 rfl) ?_
  refine lv_i2l hx hb dX6_odds_1 rfl ?_
  refine lv_lconst (v := 1) hx hb dX6_odds_2 (by decide) ?_
  refine lv_ldc2 hx hb C.1.2.2.2.1 (C.ws kw_27_22) dX6_odds_3 ?_
  refine end_i w (run_S (As := [.long x1.toInt64, .long (1 : Int64), .long (20 : Int64)]) C w hl.1 (c_X6_isIn l G C.2.2.1 _ _ x1.toInt64 (1 : Int64) (20 : Int64)  _ h) kw_12_5 kw_1_5 kw_12_3 kw_12_4 hd_X6_isIn ⟨by decide, by decide⟩ rfl (Nat.le_of_ble_eq_true rfl) dX6_odds_6) (fun r20 M21 H locs h w => ?_)
  refine lv_if_ne (tgt := 14) hx hb dX6_odds_9 (by decide) (fun c22 => ?_) (fun c22 => ?_)
  · replace h := h.2 c22
    refine lv_aload_n hx hb dX6_odds_14 rfl (lv_at hl 0 rfl) ?_
    refine end_i w (run_V (As := []) C w hl.1 (c_X6_isLine l G C.2.2.1 _ _   _ h) kw_17_11 kw_1_5 kw_17_8 kw_17_9 kw_17_10 hd_X6_isLine ⟨by decide, by decide⟩ (w.recv C (i := 57) (by decide) (pE_6) rfl) rfl (Nat.le_of_ble_eq_true rfl) dX6_odds_15) (fun r23 M24 H locs h w => ?_)
    refine lv_if_ne (tgt := 24) hx hb dX6_odds_18 (by decide) (fun c25 => ?_) (fun c25 => ?_)
    · replace h := h.2 c25
      refine lv_iconst (v := 0) hx hb dX6_odds_24 (by decide) ?_
      refine lv_istore_n (lv' := [(3, .int (0 : Int32)), (0, .ref (ga G 57)), (1, .int x1), (2, .int x2)]) hx hb dX6_odds_25 rfl hl (by decide) rfl (fun ls hl => ?_)
      refine lv_iconst (v := 0) hx hb dX6_odds_26 (by decide) ?_
      refine lv_istore (lv' := [(4, .int (0 : Int32)), (3, .int (0 : Int32)), (0, .ref (ga G 57)), (1, .int x1), (2, .int x2)]) hx hb dX6_odds_27 hl (by decide) rfl (fun ls hl => ?_)
      obtain ⟨n, h⟩ := h
      exact t_X6_odds_29 C n M24 x1 x2 (0 : Int32) (0 : Int32)  w (lv_sub hl [2, 3, 4, 1, 0] rfl) h
    replace h := h.1 c25
    refine lv_bipush (v := -3) hx hb dX6_odds_21 (by decide) ?_
    exact ret_i C w h dX6_odds_23
  replace h := h.1 c22
  refine lv_iconst (v := -1) hx hb dX6_odds_12 (by decide) ?_
  exact ret_i C w h dX6_odds_13
def j_X5_yaw_33 (post : Int32 → Mem → Prop) (M : Mem) (y0 : Int32) : Prop := post y0 M
def q_X5_yaw (M : Mem) (x1 : Int32) (post : Int32 → Mem → Prop) : Prop := q_X5_isWithin M x1 (0 : Int32) (1 : Int32) (fun r1 M2 => (r1 = 0 → (post (-1000000001 : Int32) M2)) ∧ (¬ (r1 = 0) → ((x1 = 0 → (j_X5_yaw_33 post M2 (M2 1 3))) ∧ (¬ (x1 = 0) → (j_X5_yaw_33 post M2 (M2 1 4))))))
set_option maxHeartbeats 4000000 in
set_option maxRecDepth 100000 in
theorem t_X5_yaw_33 (C : Cx G p s m args meth c RX5 cX5_yaw 2 (some .int)) {post : Int32 → Mem → Prop} (M : Mem) (y0 : Int32) {H : Heap} {locs : List Loc} {ls : Array Slot} (w : Wd G s M H locs) (hl : lv_has ls 2 []) (h : j_X5_yaw_33 post M y0) : W p l e (rmk 2) s m args below meth c H locs 0 0 (MQ below (va_Qi post (Qw G) (Af G s.heap.size)) args s 0 0 (Af G s.heap.size)) (F0 m 33 ls [.int y0]) := by
  have hx := C.1.1
  have hb := C.1.2.1
  unfold j_X5_yaw_33 at h
  exact ret_i C w h dX5_yaw_33
set_option maxHeartbeats 4000000 in
set_option maxRecDepth 100000 in
theorem c_X5_yaw (l : Launch) (G : GG) (hG : Ag G) (sz : Nat) (M : Mem) (x1 : Int32) (post : Int32 → Mem → Prop) (h : q_X5_yaw M x1 post) : Met l yX5_yaw (Cond.code yX5_yaw cX5_yaw 2 (some .int) :: wsL_law) (rmk 2) (va_Pc [.ref (ga G 0), .int x1] (Pw G sz M)) (va_Qi post (Qw G) (Af G sz)) 0 0 (Af G sz) := by
  refine Met.ofW (cc := cX5_yaw) (maxL := 2) (ret := (some .int)) (by decide) rfl ?_
  intro p e s m args below meth c s₁ B hml hv
  obtain ⟨rfl, hsz, hE, hP⟩ := hv
  subst hsz
  have C := Cx.of (own := RX5) hG hE rfl hml B
  have w : Wd G s M s.heap [] := ⟨hP, va_S.rf⟩
  have hl := lv_entry [.ref (ga G 0), .int x1] (n := 2) (Nat.le_of_ble_eq_true rfl)
  rw [lg_entry_eq]
  generalize (lg_sl [.ref (ga G 0), .int x1] ++ List.replicate (2 - (lg_sl [.ref (ga G 0), .int x1]).length) Slot.unset).toArray = ls at hl ⊢
  have hl : lv_has ls 2 [(0, .ref (ga G 0)), (1, .int x1)] := hl
  have hx := C.1.1
  have hb := C.1.2.1
  show W p l e (rmk 2) s m _ below meth c s.heap [] 0 0 _ _
  unfold q_X5_yaw at h
  refine lv_iload_n hx hb dX5_yaw_0 rfl (lv_at hl 1 rfl) ?_
  refine lv_iconst (v := 0) hx hb dX5_yaw_1 (by decide) ?_
  refine lv_iconst (v := 1) hx hb dX5_yaw_2 (by decide) ?_
  refine end_i w (run_S (As := [.int x1, .int (0 : Int32), .int (1 : Int32)]) C w hl.1 (c_X5_isWithin l G C.2.2.1 _ _ x1 (0 : Int32) (1 : Int32)  _ h) kw_6_8 kw_1_2 kw_6_6 kw_6_7 hd_X5_isWithin ⟨by decide, by decide⟩ rfl (Nat.le_of_ble_eq_true rfl) dX5_yaw_3) (fun r1 M2 H locs h w => ?_)
  refine lv_if_ne (tgt := 12) hx hb dX5_yaw_6 (by decide) (fun c3 => ?_) (fun c3 => ?_)
  · replace h := h.2 c3
    refine lv_iload_n hx hb dX5_yaw_12 rfl (lv_at hl 1 rfl) ?_
    refine lv_if_ne (tgt := 26) hx hb dX5_yaw_13 (by decide) (fun c4 => ?_) (fun c4 => ?_)
    · replace h := h.2 c4
      refine lv_aload_n hx hb dX5_yaw_26 rfl (lv_at hl 0 rfl) ?_
      refine gt_5_0 C w kw_1_16 dX5_yaw_27 ?_
      refine gn_4_4 C w ⟨by decide, by decide⟩ kn_19 dX5_yaw_30 ?_
      exact t_X5_yaw_33 C M2 (M2 1 4)  w (lv_sub hl [] rfl) h
    replace h := h.1 c4
    refine lv_aload_n hx hb dX5_yaw_16 rfl (lv_at hl 0 rfl) ?_
    refine gt_5_0 C w kw_1_16 dX5_yaw_17 ?_
    refine gn_4_3 C w ⟨by decide, by decide⟩ kn_18 dX5_yaw_20 ?_
    refine lv_goto (tgt := 33) hx hb dX5_yaw_23 (by decide) ?_
    exact t_X5_yaw_33 C M2 (M2 1 3)  w (lv_sub hl [] rfl) h
  replace h := h.1 c3
  refine lv_ldc hx hb C.1.2.2.2.1 (C.ws kw_25_9) dX5_yaw_9 ?_
  exact ret_i C w h dX5_yaw_11
def j_X6_yaw_23 (post : Int32 → Mem → Prop) (M : Mem) (y0 : Int32) : Prop := post y0 M
def q_X6_yaw (M : Mem) (x1 : Int32) (post : Int32 → Mem → Prop) : Prop := q_X6_isIn M x1.toInt64 (0 : Int64) (1 : Int64) (fun r1 M2 => (r1 = 0 → (j_X6_yaw_23 post M2 (-1000000001 : Int32))) ∧ (¬ (r1 = 0) → (vp_in ((3 : Int32) + x1) 54 ∧ (j_X6_yaw_23 post M2 (M2 58 ((3 : Int32) + x1).toNatClampNeg)))))
set_option maxHeartbeats 4000000 in
set_option maxRecDepth 100000 in
theorem t_X6_yaw_23 (C : Cx G p s m args meth c RX6 cX6_yaw 2 (some .int)) {post : Int32 → Mem → Prop} (M : Mem) (y0 : Int32) {H : Heap} {locs : List Loc} {ls : Array Slot} (w : Wd G s M H locs) (hl : lv_has ls 2 []) (h : j_X6_yaw_23 post M y0) : W p l e (rmk 2) s m args below meth c H locs 0 0 (MQ below (va_Qi post (Qw G) (Af G s.heap.size)) args s 0 0 (Af G s.heap.size)) (F0 m 23 ls [.int y0]) := by
  have hx := C.1.1
  have hb := C.1.2.1
  unfold j_X6_yaw_23 at h
  exact ret_i C w h dX6_yaw_23
set_option maxHeartbeats 4000000 in
set_option maxRecDepth 100000 in
theorem c_X6_yaw (l : Launch) (G : GG) (hG : Ag G) (sz : Nat) (M : Mem) (x1 : Int32) (post : Int32 → Mem → Prop) (h : q_X6_yaw M x1 post) : Met l yX6_yaw (Cond.code yX6_yaw cX6_yaw 2 (some .int) :: wsL_law) (rmk 2) (va_Pc [.ref (ga G 57), .int x1] (Pw G sz M)) (va_Qi post (Qw G) (Af G sz)) 0 0 (Af G sz) := by
  refine Met.ofW (cc := cX6_yaw) (maxL := 2) (ret := (some .int)) (by decide) rfl ?_
  intro p e s m args below meth c s₁ B hml hv
  obtain ⟨rfl, hsz, hE, hP⟩ := hv
  subst hsz
  have C := Cx.of (own := RX6) hG hE rfl hml B
  have w : Wd G s M s.heap [] := ⟨hP, va_S.rf⟩
  have hl := lv_entry [.ref (ga G 57), .int x1] (n := 2) (Nat.le_of_ble_eq_true rfl)
  rw [lg_entry_eq]
  generalize (lg_sl [.ref (ga G 57), .int x1] ++ List.replicate (2 - (lg_sl [.ref (ga G 57), .int x1]).length) Slot.unset).toArray = ls at hl ⊢
  have hl : lv_has ls 2 [(0, .ref (ga G 57)), (1, .int x1)] := hl
  have hx := C.1.1
  have hb := C.1.2.1
  show W p l e (rmk 2) s m _ below meth c s.heap [] 0 0 _ _
  unfold q_X6_yaw at h
  refine lv_iload_n hx hb dX6_yaw_0 rfl (lv_at hl 1 rfl) ?_
  refine lv_i2l hx hb dX6_yaw_1 rfl ?_
  refine lv_lconst (v := 0) hx hb dX6_yaw_2 (by decide) ?_
  refine lv_lconst (v := 1) hx hb dX6_yaw_3 (by decide) ?_
  refine end_i w (run_S (As := [.long x1.toInt64, .long (0 : Int64), .long (1 : Int64)]) C w hl.1 (c_X6_isIn l G C.2.2.1 _ _ x1.toInt64 (0 : Int64) (1 : Int64)  _ h) kw_12_5 kw_1_5 kw_12_3 kw_12_4 hd_X6_isIn ⟨by decide, by decide⟩ rfl (Nat.le_of_ble_eq_true rfl) dX6_yaw_4) (fun r1 M2 H locs h w => ?_)
  refine lv_if_eq (tgt := 21) hx hb dX6_yaw_7 (by decide) (fun c3 => ?_) (fun c3 => ?_)
  · replace h := h.1 c3
    refine lv_ldc hx hb C.1.2.2.2.1 (C.ws kw_25_15) dX6_yaw_21 ?_
    exact t_X6_yaw_23 C M2 (-1000000001 : Int32)  w (lv_sub hl [] rfl) h
  replace h := h.2 c3
  refine lv_aload_n hx hb dX6_yaw_10 rfl (lv_at hl 0 rfl) ?_
  refine gt_6_0 C w kw_5_0 dX6_yaw_11 ?_
  refine lv_iconst (v := 3) hx hb dX6_yaw_14 (by decide) ?_
  refine lv_iload_n hx hb dX6_yaw_15 rfl (lv_at hl 1 rfl) ?_
  refine lv_iadd hx hb dX6_yaw_16 ?_
  have hin4 := h.1
  replace h := h.2
  have hz_hin4 := in_lt hin4
  refine pw_ld C w (i := 58) (by decide) pE_58 hin4 rfl dX6_yaw_17 ?_
  refine lv_goto (tgt := 23) hx hb dX6_yaw_18 (by decide) ?_
  exact t_X6_yaw_23 C M2 (M2 58 ((3 : Int32) + x1).toNatClampNeg)  w (lv_sub hl [] rfl) h
def q_X4_passYaw (M : Mem) (a0 : Nat) (post : Mem → Prop) : Prop := ∀ v1 : Int32, v1 = (((M a0 3) * (((M (10 + a0) 2) - (M (10 + a0) 5)) - (M (10 + a0) 6))) / (10 : Int32)) → (¬ (if (1 : Int32) < ((4 : Int32) + (M (10 + a0) 6)) then ((4 : Int32) + (M (10 + a0) 6)) else (1 : Int32)) = 0 ∧ (∀ v2 : Int32, v2 = ((M a0 4) / (if (1 : Int32) < ((4 : Int32) + (M (10 + a0) 6)) then ((4 : Int32) + (M (10 + a0) 6)) else (1 : Int32))) → (∀ v3 : Int32, v3 = (((M a0 3) * (M (10 + a0) 4)) / (20 : Int32)) → (q_X5_heldWithin M ((((M a0 4) + v1) - v2) - v3) (-999 : Int32) (999 : Int32) (fun r4 M5 => ∀ M6 : Mem, M6 = (mup M5 a0 4 r4) → (q_X5_heldWithin M6 ((M6 a0 3) + ((M6 a0 4) / (10 : Int32))) (-999 : Int32) (999 : Int32) (fun r7 M8 => ∀ M9 : Mem, M9 = (mup M8 a0 3 r7) → (post M9))))))))
set_option maxHeartbeats 4000000 in
set_option maxRecDepth 100000 in
theorem c_X4_passYaw (l : Launch) (G : GG) (hG : Ag G) (sz : Nat) (M : Mem) (a0 : Nat) (ha0 : 1 ≤ a0 ∧ a0 < 4) (post : Mem → Prop) (h : q_X4_passYaw M a0 post) : Met l yX4_passYaw (Cond.code yX4_passYaw cX4_passYaw 5 none :: wsL_law) (rmk 2) (va_Pc [.ref (ga G a0)] (Pw G sz M)) (va_Qv post (Qw G) (Af G sz)) 0 0 (Af G sz) := by
  refine Met.ofW (cc := cX4_passYaw) (maxL := 5) (ret := none) (by decide) rfl ?_
  intro p e s m args below meth c s₁ B hml hv
  obtain ⟨rfl, hsz, hE, hP⟩ := hv
  subst hsz
  have C := Cx.of (own := RX4) hG hE rfl hml B
  have w : Wd G s M s.heap [] := ⟨hP, va_S.rf⟩
  have hl := lv_entry [.ref (ga G a0)] (n := 5) (Nat.le_of_ble_eq_true rfl)
  rw [lg_entry_eq]
  generalize (lg_sl [.ref (ga G a0)] ++ List.replicate (5 - (lg_sl [.ref (ga G a0)]).length) Slot.unset).toArray = ls at hl ⊢
  have hl : lv_has ls 5 [(0, .ref (ga G a0))] := hl
  have hx := C.1.1
  have hb := C.1.2.1
  show W p l e (rmk 2) s m _ below meth c s.heap [] 0 0 _ _
  unfold q_X4_passYaw at h
  refine lv_aload_n hx hb dX4_passYaw_0 rfl (lv_at hl 0 rfl) ?_
  refine gt_4_2 C w ha0 kw_3_0 dX4_passYaw_1 ?_
  refine lv_bipush (v := 6) hx hb dX4_passYaw_4 (by decide) ?_
  refine pw_ld C w (i := (10 + a0)) (by omega) (pE_st (by omega)) (vl (x := (6 : Int32)) (by decide)) (k := 6) (by decide) dX4_passYaw_6 ?_
  refine lv_istore_n (lv' := [(1, .int (M (10 + a0) 6)), (0, .ref (ga G a0))]) hx hb dX4_passYaw_7 rfl hl (by decide) rfl (fun ls hl => ?_)
  refine lv_aload_n hx hb dX4_passYaw_8 rfl (lv_at hl 1 rfl) ?_
  refine gt_4_3 C w ha0 kw_3_1 dX4_passYaw_9 ?_
  refine lv_aload_n hx hb dX4_passYaw_12 rfl (lv_at hl 1 rfl) ?_
  refine gt_4_2 C w ha0 kw_3_0 dX4_passYaw_13 ?_
  refine lv_iconst (v := 2) hx hb dX4_passYaw_16 (by decide) ?_
  refine pw_ld C w (i := (10 + a0)) (by omega) (pE_st (by omega)) (vl (x := (2 : Int32)) (by decide)) (k := 2) (by decide) dX4_passYaw_17 ?_
  refine lv_aload_n hx hb dX4_passYaw_18 rfl (lv_at hl 1 rfl) ?_
  refine gt_4_2 C w ha0 kw_3_0 dX4_passYaw_19 ?_
  refine lv_iconst (v := 5) hx hb dX4_passYaw_22 (by decide) ?_
  refine pw_ld C w (i := (10 + a0)) (by omega) (pE_st (by omega)) (vl (x := (5 : Int32)) (by decide)) (k := 5) (by decide) dX4_passYaw_23 ?_
  refine lv_isub hx hb dX4_passYaw_24 ?_
  refine lv_iload_n hx hb dX4_passYaw_25 rfl (lv_at hl 0 rfl) ?_
  refine lv_isub hx hb dX4_passYaw_26 ?_
  refine lv_imul hx hb dX4_passYaw_27 ?_
  refine lv_bipush (v := 10) hx hb dX4_passYaw_28 (by decide) ?_
  refine lv_idiv hx hb dX4_passYaw_30 (by decide) ?_
  refine lv_topi (fun v1 ev1 => ?_)
  replace h := h v1 ev1
  refine lv_istore_n (lv' := [(2, .int v1), (1, .int (M (10 + a0) 6)), (0, .ref (ga G a0))]) hx hb dX4_passYaw_31 rfl hl (by decide) rfl (fun ls hl => ?_)
  refine lv_aload_n hx hb dX4_passYaw_32 rfl (lv_at hl 2 rfl) ?_
  refine gt_4_4 C w ha0 kw_3_2 dX4_passYaw_33 ?_
  refine lv_iconst (v := 1) hx hb dX4_passYaw_36 (by decide) ?_
  refine lv_iconst (v := 4) hx hb dX4_passYaw_37 (by decide) ?_
  refine lv_iload_n hx hb dX4_passYaw_38 rfl (lv_at hl 1 rfl) ?_
  refine lv_iadd hx hb dX4_passYaw_39 ?_
  refine va_mmax hx hb (C.ml hl) C.1.2.2.2.1 (C.ws kw_28_18) (C.ws kw_16_11) (C.ws kw_16_12) (C.ws kw_16_13) (Nat.le_of_ble_eq_true rfl) (Nat.le_of_ble_eq_true rfl) (Nat.le_refl 0) (Nat.le_refl 0) dX4_passYaw_40 ?_
  refine lv_idiv hx hb dX4_passYaw_43 h.1 ?_
  replace h := h.2
  refine lv_topi (fun v2 ev2 => ?_)
  replace h := h v2 ev2
  refine lv_istore_n (lv' := [(3, .int v2), (2, .int v1), (1, .int (M (10 + a0) 6)), (0, .ref (ga G a0))]) hx hb dX4_passYaw_44 rfl hl (by decide) rfl (fun ls hl => ?_)
  refine lv_aload_n hx hb dX4_passYaw_45 rfl (lv_at hl 3 rfl) ?_
  refine gt_4_3 C w ha0 kw_3_1 dX4_passYaw_46 ?_
  refine lv_aload_n hx hb dX4_passYaw_49 rfl (lv_at hl 3 rfl) ?_
  refine gt_4_2 C w ha0 kw_3_0 dX4_passYaw_50 ?_
  refine lv_iconst (v := 4) hx hb dX4_passYaw_53 (by decide) ?_
  refine pw_ld C w (i := (10 + a0)) (by omega) (pE_st (by omega)) (vl (x := (4 : Int32)) (by decide)) (k := 4) (by decide) dX4_passYaw_54 ?_
  refine lv_imul hx hb dX4_passYaw_55 ?_
  refine lv_bipush (v := 20) hx hb dX4_passYaw_56 (by decide) ?_
  refine lv_idiv hx hb dX4_passYaw_58 (by decide) ?_
  refine lv_topi (fun v3 ev3 => ?_)
  replace h := h v3 ev3
  refine lv_istore (lv' := [(4, .int v3), (3, .int v2), (2, .int v1), (1, .int (M (10 + a0) 6)), (0, .ref (ga G a0))]) hx hb dX4_passYaw_59 hl (by decide) rfl (fun ls hl => ?_)
  refine lv_aload_n hx hb dX4_passYaw_61 rfl (lv_at hl 4 rfl) ?_
  refine lv_aload_n hx hb dX4_passYaw_62 rfl (lv_at hl 4 rfl) ?_
  refine gt_4_4 C w ha0 kw_3_2 dX4_passYaw_63 ?_
  refine lv_iload_n hx hb dX4_passYaw_66 rfl (lv_at hl 2 rfl) ?_
  refine lv_iadd hx hb dX4_passYaw_67 ?_
  refine lv_iload_n hx hb dX4_passYaw_68 rfl (lv_at hl 1 rfl) ?_
  refine lv_isub hx hb dX4_passYaw_69 ?_
  refine lv_iload hx hb dX4_passYaw_70 (lv_at hl 0 rfl) ?_
  refine lv_isub hx hb dX4_passYaw_72 ?_
  refine lv_sipush (v := -999) hx hb dX4_passYaw_73 (by decide) ?_
  refine lv_sipush (v := 999) hx hb dX4_passYaw_76 (by decide) ?_
  refine end_i w (run_SN (As := [.int ((((M a0 4) + v1) - v2) - v3), .int (-999 : Int32), .int (999 : Int32)]) C w hl.1 (c_X5_heldWithin l G C.2.2.1 _ _ ((((M a0 4) + v1) - v2) - v3) (-999 : Int32) (999 : Int32)  _ h) kw_27_16 kw_1_2 kn_72 kw_27_15 hd_X5_heldWithin ⟨by decide, by decide⟩ rfl (Nat.le_of_ble_eq_true rfl) dX4_passYaw_79) (fun r4 M5 H locs h w => ?_)
  refine pt_4_4 C w ha0 kw_3_2 dX4_passYaw_82 (fun H locs w => ?_)
  obtain ⟨M6, eM6⟩ : ∃ z : Mem, z = (mup M5 a0 4 r4) := ⟨_, rfl⟩
  replace w : Wd G s M6 H locs := by rw [eM6]; exact w
  replace h := h M6 eM6
  refine lv_aload_n hx hb dX4_passYaw_85 rfl (lv_at hl 4 rfl) ?_
  refine lv_aload_n hx hb dX4_passYaw_86 rfl (lv_at hl 4 rfl) ?_
  refine gt_4_3 C w ha0 kw_3_1 dX4_passYaw_87 ?_
  refine lv_aload_n hx hb dX4_passYaw_90 rfl (lv_at hl 4 rfl) ?_
  refine gt_4_4 C w ha0 kw_3_2 dX4_passYaw_91 ?_
  refine lv_bipush (v := 10) hx hb dX4_passYaw_94 (by decide) ?_
  refine lv_idiv hx hb dX4_passYaw_96 (by decide) ?_
  refine lv_iadd hx hb dX4_passYaw_97 ?_
  refine lv_sipush (v := -999) hx hb dX4_passYaw_98 (by decide) ?_
  refine lv_sipush (v := 999) hx hb dX4_passYaw_101 (by decide) ?_
  refine end_i w (run_SN (As := [.int ((M6 a0 3) + ((M6 a0 4) / (10 : Int32))), .int (-999 : Int32), .int (999 : Int32)]) C w hl.1 (c_X5_heldWithin l G C.2.2.1 _ _ ((M6 a0 3) + ((M6 a0 4) / (10 : Int32))) (-999 : Int32) (999 : Int32)  _ h) kw_27_16 kw_1_2 kn_72 kw_27_15 hd_X5_heldWithin ⟨by decide, by decide⟩ rfl (Nat.le_of_ble_eq_true rfl) dX4_passYaw_104) (fun r7 M8 H locs h w => ?_)
  refine pt_4_3 C w ha0 kw_3_1 dX4_passYaw_107 (fun H locs w => ?_)
  obtain ⟨M9, eM9⟩ : ∃ z : Mem, z = (mup M8 a0 3 r7) := ⟨_, rfl⟩
  replace w : Wd G s M9 H locs := by rw [eM9]; exact w
  replace h := h M9 eM9
  exact ret_v C w h dX4_passYaw_110
def b_X4_greatestYaw_4 (k4 : Mem → Nat → Int32 → Int32 → Int32 → Prop) (post : Int32 → Mem → Prop) (M : Mem) (a0 : Nat) (x1 : Int32) (x2 : Int32) (x3 : Int32) : Prop := (x1 ≤ x3 → (post x2 M)) ∧ (¬ (x1 ≤ x3) → (q_X4_passYaw M a0 (fun M3 => ∀ v4 : Int32, v4 = (if x2 < (if 0 ≤ (M3 a0 3) then (M3 a0 3) else 0 - (M3 a0 3)) then (if 0 ≤ (M3 a0 3) then (M3 a0 3) else 0 - (M3 a0 3)) else x2) → (k4 M3 a0 x1 v4 (x3 + (1 : Int32))))))
def lp_X4_greatestYaw_4 (post : Int32 → Mem → Prop) : Nat → Mem → Nat → Int32 → Int32 → Int32 → Prop
  | 0 => fun _ _ _ _ _ => False
  | n + 1 => fun M a0 x1 x2 x3 => b_X4_greatestYaw_4 (lp_X4_greatestYaw_4 post n) post M a0 x1 x2 x3
def q_X4_greatestYaw (M : Mem) (a0 : Nat) (x1 : Int32) (post : Int32 → Mem → Prop) : Prop := ∃ n, lp_X4_greatestYaw_4 post n M a0 x1 (0 : Int32) (0 : Int32)
set_option maxHeartbeats 4000000 in
set_option maxRecDepth 100000 in
theorem t_X4_greatestYaw_4 (C : Cx G p s m args meth c RX4 cX4_greatestYaw 4 (some .int)) {post : Int32 → Mem → Prop} : ∀ (n : Nat) (M : Mem) (a0 : Nat) (x1 : Int32) (x2 : Int32) (x3 : Int32) {H : Heap} {locs : List Loc} {ls : Array Slot} (ha0 : 1 ≤ a0 ∧ a0 < 4) (w : Wd G s M H locs) (hl : lv_has ls 4 [(0, .ref (ga G a0)), (1, .int x1), (2, .int x2), (3, .int x3)]) (h : lp_X4_greatestYaw_4 post n M a0 x1 x2 x3), W p l e (rmk 3) s m args below meth c H locs 0 0 (MQ below (va_Qi post (Qw G) (Af G s.heap.size)) args s 0 0 (Af G s.heap.size)) (F0 m 4 ls []) := by
  have hx := C.1.1
  have hb := C.1.2.1
  intro n9
  induction n9 with
  | zero => intro M a0 x1 x2 x3 H locs ls ha0 w hl h; exact absurd h id
  | succ n9 ih9 =>
    intro M a0 x1 x2 x3 H locs ls ha0 w hl h
    have hk4 : ∀ (M : Mem) (a0 : Nat) (x1 : Int32) (x2 : Int32) (x3 : Int32) (H : Heap) (locs : List Loc) (ls : Array Slot), (1 ≤ a0 ∧ a0 < 4) → Wd G s M H locs → lv_has ls 4 [(0, .ref (ga G a0)), (1, .int x1), (2, .int x2), (3, .int x3)] → lp_X4_greatestYaw_4 post n9 M a0 x1 x2 x3 → W p l e (rmk 3) s m args below meth c H locs 0 0 (MQ below (va_Qi post (Qw G) (Af G s.heap.size)) args s 0 0 (Af G s.heap.size)) (F0 m 4 ls []) := fun M a0 x1 x2 x3 H locs ls ha0 w hl h => ih9 M a0 x1 x2 x3 ha0 w hl h
    replace h : b_X4_greatestYaw_4 (lp_X4_greatestYaw_4 post n9) post M a0 x1 x2 x3 := h
    unfold b_X4_greatestYaw_4 at h
    refine lv_iload_n hx hb dX4_greatestYaw_4 rfl (lv_at hl 3 rfl) ?_
    refine lv_iload_n hx hb dX4_greatestYaw_5 rfl (lv_at hl 1 rfl) ?_
    refine lv_icmp_ge (tgt := 31) hx hb dX4_greatestYaw_6 (by decide) (fun c1 => ?_) (fun c1 => ?_)
    · replace h := h.1 c1
      refine lv_iload_n hx hb dX4_greatestYaw_31 rfl (lv_at hl 2 rfl) ?_
      exact ret_i C w h dX4_greatestYaw_32
    replace h := h.2 c1
    refine lv_aload_n hx hb dX4_greatestYaw_9 rfl (lv_at hl 0 rfl) ?_
    refine end_v w (run_V (As := []) C w hl.1 (c_X4_passYaw l G C.2.2.1 _ _ a0 ha0 _ h) kw_28_22 kw_1_15 kw_28_19 kw_28_20 kw_28_21 hd_X4_passYaw ⟨by decide, by decide⟩ (w.recv C (i := a0) (by omega) (pE_4 ha0) rfl) rfl (Nat.le_of_ble_eq_true rfl) dX4_greatestYaw_10) (fun M3 H locs h w => ?_)
    refine lv_iload_n hx hb dX4_greatestYaw_13 rfl (lv_at hl 2 rfl) ?_
    refine lv_aload_n hx hb dX4_greatestYaw_14 rfl (lv_at hl 0 rfl) ?_
    refine gt_4_3 C w ha0 kw_3_1 dX4_greatestYaw_15 ?_
    refine va_mabs hx hb (C.ml hl) C.1.2.2.2.1 (C.ws kw_28_17) (C.ws kw_18_16) (C.ws kw_16_12) (C.ws kw_18_17) (Nat.le_of_ble_eq_true rfl) (Nat.le_of_ble_eq_true rfl) (Nat.le_refl 0) (Nat.le_refl 0) dX4_greatestYaw_18 ?_
    refine va_mmax hx hb (C.ml hl) C.1.2.2.2.1 (C.ws kw_28_18) (C.ws kw_16_11) (C.ws kw_16_12) (C.ws kw_16_13) (Nat.le_of_ble_eq_true rfl) (Nat.le_of_ble_eq_true rfl) (Nat.le_refl 0) (Nat.le_refl 0) dX4_greatestYaw_21 ?_
    refine lv_topi (fun v4 ev4 => ?_)
    replace h := h v4 ev4
    refine lv_istore_n (lv' := [(2, .int v4), (0, .ref (ga G a0)), (1, .int x1), (3, .int x3)]) hx hb dX4_greatestYaw_24 rfl hl (by decide) rfl (fun ls hl => ?_)
    refine lv_iinc (v := (x3 + (1 : Int32))) (lv' := [(3, .int (x3 + (1 : Int32))), (2, .int v4), (0, .ref (ga G a0)), (1, .int x1)]) hx hb dX4_greatestYaw_25 hl (k := 3) rfl rfl (by decide) rfl (fun ls hl => ?_)
    refine lv_goto (tgt := 4) hx hb dX4_greatestYaw_28 (by decide) ?_
    exact hk4 M3 a0 x1 v4 (x3 + (1 : Int32)) _ _ _ ha0 w (lv_sub hl [2, 3, 1, 0] rfl) h
set_option maxHeartbeats 4000000 in
set_option maxRecDepth 100000 in
theorem c_X4_greatestYaw (l : Launch) (G : GG) (hG : Ag G) (sz : Nat) (M : Mem) (a0 : Nat) (x1 : Int32) (ha0 : 1 ≤ a0 ∧ a0 < 4) (post : Int32 → Mem → Prop) (h : q_X4_greatestYaw M a0 x1 post) : Met l yX4_greatestYaw (Cond.code yX4_greatestYaw cX4_greatestYaw 4 (some .int) :: wsL_law) (rmk 3) (va_Pc [.ref (ga G a0), .int x1] (Pw G sz M)) (va_Qi post (Qw G) (Af G sz)) 0 0 (Af G sz) := by
  refine Met.ofW (cc := cX4_greatestYaw) (maxL := 4) (ret := (some .int)) (by decide) rfl ?_
  intro p e s m args below meth c s₁ B hml hv
  obtain ⟨rfl, hsz, hE, hP⟩ := hv
  subst hsz
  have C := Cx.of (own := RX4) hG hE rfl hml B
  have w : Wd G s M s.heap [] := ⟨hP, va_S.rf⟩
  have hl := lv_entry [.ref (ga G a0), .int x1] (n := 4) (Nat.le_of_ble_eq_true rfl)
  rw [lg_entry_eq]
  generalize (lg_sl [.ref (ga G a0), .int x1] ++ List.replicate (4 - (lg_sl [.ref (ga G a0), .int x1]).length) Slot.unset).toArray = ls at hl ⊢
  have hl : lv_has ls 4 [(0, .ref (ga G a0)), (1, .int x1)] := hl
  have hx := C.1.1
  have hb := C.1.2.1
  show W p l e (rmk 3) s m _ below meth c s.heap [] 0 0 _ _
  unfold q_X4_greatestYaw at h
  refine lv_iconst (v := 0) hx hb dX4_greatestYaw_0 (by decide) ?_
  refine lv_istore_n (lv' := [(2, .int (0 : Int32)), (0, .ref (ga G a0)), (1, .int x1)]) hx hb dX4_greatestYaw_1 rfl hl (by decide) rfl (fun ls hl => ?_)
  refine lv_iconst (v := 0) hx hb dX4_greatestYaw_2 (by decide) ?_
  refine lv_istore_n (lv' := [(3, .int (0 : Int32)), (2, .int (0 : Int32)), (0, .ref (ga G a0)), (1, .int x1)]) hx hb dX4_greatestYaw_3 rfl hl (by decide) rfl (fun ls hl => ?_)
  obtain ⟨n, h⟩ := h
  exact t_X4_greatestYaw_4 C n M a0 x1 (0 : Int32) (0 : Int32) ha0 w (lv_sub hl [2, 3, 1, 0] rfl) h
def q_X5_yaws (M : Mem) (x1 : Int32) (post : Int32 → Mem → Prop) : Prop := q_X5_isWithin M x1 (1 : Int32) (400 : Int32) (fun r1 M2 => (r1 = 0 → (post (-1000000001 : Int32) M2)) ∧ (¬ (r1 = 0) → (q_X4_greatestYaw M2 1 x1 (fun r4 M5 => post (M5 1 3) M5))))
set_option maxHeartbeats 4000000 in
set_option maxRecDepth 100000 in
theorem c_X5_yaws (l : Launch) (G : GG) (hG : Ag G) (sz : Nat) (M : Mem) (x1 : Int32) (post : Int32 → Mem → Prop) (h : q_X5_yaws M x1 post) : Met l yX5_yaws (Cond.code yX5_yaws cX5_yaws 2 (some .int) :: wsL_law) (rmk 4) (va_Pc [.ref (ga G 0), .int x1] (Pw G sz M)) (va_Qi post (Qw G) (Af G sz)) 0 0 (Af G sz) := by
  refine Met.ofW (cc := cX5_yaws) (maxL := 2) (ret := (some .int)) (by decide) rfl ?_
  intro p e s m args below meth c s₁ B hml hv
  obtain ⟨rfl, hsz, hE, hP⟩ := hv
  subst hsz
  have C := Cx.of (own := RX5) hG hE rfl hml B
  have w : Wd G s M s.heap [] := ⟨hP, va_S.rf⟩
  have hl := lv_entry [.ref (ga G 0), .int x1] (n := 2) (Nat.le_of_ble_eq_true rfl)
  rw [lg_entry_eq]
  generalize (lg_sl [.ref (ga G 0), .int x1] ++ List.replicate (2 - (lg_sl [.ref (ga G 0), .int x1]).length) Slot.unset).toArray = ls at hl ⊢
  have hl : lv_has ls 2 [(0, .ref (ga G 0)), (1, .int x1)] := hl
  have hx := C.1.1
  have hb := C.1.2.1
  show W p l e (rmk 4) s m _ below meth c s.heap [] 0 0 _ _
  unfold q_X5_yaws at h
  refine lv_iload_n hx hb dX5_yaws_0 rfl (lv_at hl 1 rfl) ?_
  refine lv_iconst (v := 1) hx hb dX5_yaws_1 (by decide) ?_
  refine lv_sipush (v := 400) hx hb dX5_yaws_2 (by decide) ?_
  refine end_i w (run_S (As := [.int x1, .int (1 : Int32), .int (400 : Int32)]) C w hl.1 (c_X5_isWithin l G C.2.2.1 _ _ x1 (1 : Int32) (400 : Int32)  _ h) kw_6_8 kw_1_2 kw_6_6 kw_6_7 hd_X5_isWithin ⟨by decide, by decide⟩ rfl (Nat.le_of_ble_eq_true rfl) dX5_yaws_5) (fun r1 M2 H locs h w => ?_)
  refine lv_if_ne (tgt := 14) hx hb dX5_yaws_8 (by decide) (fun c3 => ?_) (fun c3 => ?_)
  · replace h := h.2 c3
    refine lv_aload_n hx hb dX5_yaws_14 rfl (lv_at hl 0 rfl) ?_
    refine gt_5_0 C w kw_1_16 dX5_yaws_15 ?_
    refine lv_iload_n hx hb dX5_yaws_18 rfl (lv_at hl 1 rfl) ?_
    refine end_i w (run_VN (As := [.int x1]) C w hl.1 (c_X4_greatestYaw l G C.2.2.1 _ _ 1 x1 ⟨by decide, by decide⟩ _ h) kw_28_16 kw_1_15 kn_71 kw_28_14 kw_28_15 hd_X4_greatestYaw ⟨by decide, by decide⟩ (w.recv C (i := 1) (by decide) (pE_4 ⟨by decide, by decide⟩) rfl) rfl (Nat.le_of_ble_eq_true rfl) dX5_yaws_19) (fun r4 M5 H locs h w => ?_)
    refine lv_pop hx hb dX5_yaws_22 rfl ?_
    refine lv_aload_n hx hb dX5_yaws_23 rfl (lv_at hl 0 rfl) ?_
    refine gt_5_0 C w kw_1_16 dX5_yaws_24 ?_
    refine gn_4_3 C w ⟨by decide, by decide⟩ kn_18 dX5_yaws_27 ?_
    exact ret_i C w h dX5_yaws_30
  replace h := h.1 c3
  refine lv_ldc hx hb C.1.2.2.2.1 (C.ws kw_25_9) dX5_yaws_11 ?_
  exact ret_i C w h dX5_yaws_13
def j_X6_within_21 (post : Int32 → Mem → Prop) (M : Mem) (y0 : Int32) : Prop := post y0 M
def q_X6_within (M : Mem) (x0 : Int32) (x1 : Int32) (post : Int32 → Mem → Prop) : Prop := (x0 ≤ x1 → (((-x1) ≤ x0 → (j_X6_within_21 post M x0)) ∧ (¬ ((-x1) ≤ x0) → (j_X6_within_21 post M (-x1))))) ∧ (¬ (x0 ≤ x1) → (j_X6_within_21 post M x1))
set_option maxHeartbeats 4000000 in
set_option maxRecDepth 100000 in
theorem t_X6_within_21 (C : Cx G p s m args meth c RX6 cX6_within 2 (some .int)) {post : Int32 → Mem → Prop} (M : Mem) (y0 : Int32) {H : Heap} {locs : List Loc} {ls : Array Slot} (w : Wd G s M H locs) (hl : lv_has ls 2 []) (h : j_X6_within_21 post M y0) : W p l e (rmk 1) s m args below meth c H locs 0 0 (MQ below (va_Qi post (Qw G) (Af G s.heap.size)) args s 0 0 (Af G s.heap.size)) (F0 m 21 ls [.int y0]) := by
  have hx := C.1.1
  have hb := C.1.2.1
  unfold j_X6_within_21 at h
  exact ret_i C w h dX6_within_21
set_option maxHeartbeats 4000000 in
set_option maxRecDepth 100000 in
theorem c_X6_within (l : Launch) (G : GG) (hG : Ag G) (sz : Nat) (M : Mem) (x0 : Int32) (x1 : Int32) (post : Int32 → Mem → Prop) (h : q_X6_within M x0 x1 post) : Met l yX6_within (Cond.code yX6_within cX6_within 2 (some .int) :: wsL_law) (rmk 1) (va_Pc [.int x0, .int x1] (Pw G sz M)) (va_Qi post (Qw G) (Af G sz)) 0 0 (Af G sz) := by
  refine Met.ofW (cc := cX6_within) (maxL := 2) (ret := (some .int)) (by decide) rfl ?_
  intro p e s m args below meth c s₁ B hml hv
  obtain ⟨rfl, hsz, hE, hP⟩ := hv
  subst hsz
  have C := Cx.of (own := RX6) hG hE rfl hml B
  have w : Wd G s M s.heap [] := ⟨hP, va_S.rf⟩
  have hl := lv_entry [.int x0, .int x1] (n := 2) (Nat.le_of_ble_eq_true rfl)
  rw [lg_entry_eq]
  generalize (lg_sl [.int x0, .int x1] ++ List.replicate (2 - (lg_sl [.int x0, .int x1]).length) Slot.unset).toArray = ls at hl ⊢
  have hl : lv_has ls 2 [(0, .int x0), (1, .int x1)] := hl
  have hx := C.1.1
  have hb := C.1.2.1
  show W p l e (rmk 1) s m _ below meth c s.heap [] 0 0 _ _
  unfold q_X6_within at h
  refine lv_iload_n hx hb dX6_within_0 rfl (lv_at hl 0 rfl) ?_
  refine lv_iload_n hx hb dX6_within_1 rfl (lv_at hl 1 rfl) ?_
  refine lv_icmp_le (tgt := 9) hx hb dX6_within_2 (by decide) (fun c1 => ?_) (fun c1 => ?_)
  · replace h := h.1 c1
    refine lv_iload_n hx hb dX6_within_9 rfl (lv_at hl 0 rfl) ?_
    refine lv_iload_n hx hb dX6_within_10 rfl (lv_at hl 1 rfl) ?_
    refine lv_ineg hx hb dX6_within_11 ?_
    refine lv_icmp_ge (tgt := 20) hx hb dX6_within_12 (by decide) (fun c2 => ?_) (fun c2 => ?_)
    · replace h := h.1 c2
      refine lv_iload_n hx hb dX6_within_20 rfl (lv_at hl 0 rfl) ?_
      exact t_X6_within_21 C M x0  w (lv_sub hl [] rfl) h
    replace h := h.2 c2
    refine lv_iload_n hx hb dX6_within_15 rfl (lv_at hl 1 rfl) ?_
    refine lv_ineg hx hb dX6_within_16 ?_
    refine lv_goto (tgt := 21) hx hb dX6_within_17 (by decide) ?_
    exact t_X6_within_21 C M (-x1)  w (lv_sub hl [] rfl) h
  replace h := h.2 c1
  refine lv_iload_n hx hb dX6_within_5 rfl (lv_at hl 1 rfl) ?_
  refine lv_goto (tgt := 21) hx hb dX6_within_6 (by decide) ?_
  exact t_X6_within_21 C M x1  w (lv_sub hl [] rfl) h
def q_X6_goesYaw (M : Mem) (post : Mem → Prop) : Prop := ¬ ((4 : Int32) + (M 58 11)) = 0 ∧ (q_X6_within M ((((M 58 4) + (((M 58 3) * (((M 58 7) - (M 58 10)) - (M 58 11))) / (10 : Int32))) - ((M 58 4) / ((4 : Int32) + (M 58 11)))) - (((M 58 3) * (M 58 9)) / (20 : Int32))) (999 : Int32) (fun r1 M2 => ∀ M3 : Mem, M3 = (mup M2 58 4 r1) → (q_X6_within M3 ((M 58 3) + ((M3 58 4) / (10 : Int32))) (999 : Int32) (fun r4 M5 => ∀ M6 : Mem, M6 = (mup M5 58 3 r4) → (post M6)))))
set_option maxHeartbeats 4000000 in
set_option maxRecDepth 100000 in
theorem c_X6_goesYaw (l : Launch) (G : GG) (hG : Ag G) (sz : Nat) (M : Mem) (post : Mem → Prop) (h : q_X6_goesYaw M post) : Met l yX6_goesYaw (Cond.code yX6_goesYaw cX6_goesYaw 3 none :: wsL_law) (rmk 2) (va_Pc [.ref (ga G 57)] (Pw G sz M)) (va_Qv post (Qw G) (Af G sz)) 0 0 (Af G sz) := by
  refine Met.ofW (cc := cX6_goesYaw) (maxL := 3) (ret := none) (by decide) rfl ?_
  intro p e s m args below meth c s₁ B hml hv
  obtain ⟨rfl, hsz, hE, hP⟩ := hv
  subst hsz
  have C := Cx.of (own := RX6) hG hE rfl hml B
  have w : Wd G s M s.heap [] := ⟨hP, va_S.rf⟩
  have hl := lv_entry [.ref (ga G 57)] (n := 3) (Nat.le_of_ble_eq_true rfl)
  rw [lg_entry_eq]
  generalize (lg_sl [.ref (ga G 57)] ++ List.replicate (3 - (lg_sl [.ref (ga G 57)]).length) Slot.unset).toArray = ls at hl ⊢
  have hl : lv_has ls 3 [(0, .ref (ga G 57))] := hl
  have hx := C.1.1
  have hb := C.1.2.1
  show W p l e (rmk 2) s m _ below meth c s.heap [] 0 0 _ _
  unfold q_X6_goesYaw at h
  refine lv_aload_n hx hb dX6_goesYaw_0 rfl (lv_at hl 0 rfl) ?_
  refine gt_6_0 C w kw_5_0 dX6_goesYaw_1 ?_
  refine lv_iconst (v := 3) hx hb dX6_goesYaw_4 (by decide) ?_
  refine pw_ld C w (i := 58) (by decide) pE_58 (vl (x := (3 : Int32)) (by decide)) (k := 3) (by decide) dX6_goesYaw_5 ?_
  refine lv_istore_n (lv' := [(1, .int (M 58 3)), (0, .ref (ga G 57))]) hx hb dX6_goesYaw_6 rfl hl (by decide) rfl (fun ls hl => ?_)
  refine lv_aload_n hx hb dX6_goesYaw_7 rfl (lv_at hl 1 rfl) ?_
  refine gt_6_0 C w kw_5_0 dX6_goesYaw_8 ?_
  refine lv_iconst (v := 4) hx hb dX6_goesYaw_11 (by decide) ?_
  refine pw_ld C w (i := 58) (by decide) pE_58 (vl (x := (4 : Int32)) (by decide)) (k := 4) (by decide) dX6_goesYaw_12 ?_
  refine lv_istore_n (lv' := [(2, .int (M 58 4)), (1, .int (M 58 3)), (0, .ref (ga G 57))]) hx hb dX6_goesYaw_13 rfl hl (by decide) rfl (fun ls hl => ?_)
  refine lv_aload_n hx hb dX6_goesYaw_14 rfl (lv_at hl 2 rfl) ?_
  refine gt_6_0 C w kw_5_0 dX6_goesYaw_15 ?_
  refine lv_iconst (v := 4) hx hb dX6_goesYaw_18 (by decide) ?_
  refine lv_iload_n hx hb dX6_goesYaw_19 rfl (lv_at hl 0 rfl) ?_
  refine lv_iload_n hx hb dX6_goesYaw_20 rfl (lv_at hl 1 rfl) ?_
  refine lv_aload_n hx hb dX6_goesYaw_21 rfl (lv_at hl 2 rfl) ?_
  refine gt_6_0 C w kw_5_0 dX6_goesYaw_22 ?_
  refine lv_bipush (v := 7) hx hb dX6_goesYaw_25 (by decide) ?_
  refine pw_ld C w (i := 58) (by decide) pE_58 (vl (x := (7 : Int32)) (by decide)) (k := 7) (by decide) dX6_goesYaw_27 ?_
  refine lv_aload_n hx hb dX6_goesYaw_28 rfl (lv_at hl 2 rfl) ?_
  refine gt_6_0 C w kw_5_0 dX6_goesYaw_29 ?_
  refine lv_bipush (v := 10) hx hb dX6_goesYaw_32 (by decide) ?_
  refine pw_ld C w (i := 58) (by decide) pE_58 (vl (x := (10 : Int32)) (by decide)) (k := 10) (by decide) dX6_goesYaw_34 ?_
  refine lv_isub hx hb dX6_goesYaw_35 ?_
  refine lv_aload_n hx hb dX6_goesYaw_36 rfl (lv_at hl 2 rfl) ?_
  refine gt_6_0 C w kw_5_0 dX6_goesYaw_37 ?_
  refine lv_bipush (v := 11) hx hb dX6_goesYaw_40 (by decide) ?_
  refine pw_ld C w (i := 58) (by decide) pE_58 (vl (x := (11 : Int32)) (by decide)) (k := 11) (by decide) dX6_goesYaw_42 ?_
  refine lv_isub hx hb dX6_goesYaw_43 ?_
  refine lv_imul hx hb dX6_goesYaw_44 ?_
  refine lv_bipush (v := 10) hx hb dX6_goesYaw_45 (by decide) ?_
  refine lv_idiv hx hb dX6_goesYaw_47 (by decide) ?_
  refine lv_iadd hx hb dX6_goesYaw_48 ?_
  refine lv_iload_n hx hb dX6_goesYaw_49 rfl (lv_at hl 0 rfl) ?_
  refine lv_iconst (v := 4) hx hb dX6_goesYaw_50 (by decide) ?_
  refine lv_aload_n hx hb dX6_goesYaw_51 rfl (lv_at hl 2 rfl) ?_
  refine gt_6_0 C w kw_5_0 dX6_goesYaw_52 ?_
  refine lv_bipush (v := 11) hx hb dX6_goesYaw_55 (by decide) ?_
  refine pw_ld C w (i := 58) (by decide) pE_58 (vl (x := (11 : Int32)) (by decide)) (k := 11) (by decide) dX6_goesYaw_57 ?_
  refine lv_iadd hx hb dX6_goesYaw_58 ?_
  refine lv_idiv hx hb dX6_goesYaw_59 h.1 ?_
  replace h := h.2
  refine lv_isub hx hb dX6_goesYaw_60 ?_
  refine lv_iload_n hx hb dX6_goesYaw_61 rfl (lv_at hl 1 rfl) ?_
  refine lv_aload_n hx hb dX6_goesYaw_62 rfl (lv_at hl 2 rfl) ?_
  refine gt_6_0 C w kw_5_0 dX6_goesYaw_63 ?_
  refine lv_bipush (v := 9) hx hb dX6_goesYaw_66 (by decide) ?_
  refine pw_ld C w (i := 58) (by decide) pE_58 (vl (x := (9 : Int32)) (by decide)) (k := 9) (by decide) dX6_goesYaw_68 ?_
  refine lv_imul hx hb dX6_goesYaw_69 ?_
  refine lv_bipush (v := 20) hx hb dX6_goesYaw_70 (by decide) ?_
  refine lv_idiv hx hb dX6_goesYaw_72 (by decide) ?_
  refine lv_isub hx hb dX6_goesYaw_73 ?_
  refine lv_sipush (v := 999) hx hb dX6_goesYaw_74 (by decide) ?_
  refine end_i w (run_S (As := [.int ((((M 58 4) + (((M 58 3) * (((M 58 7) - (M 58 10)) - (M 58 11))) / (10 : Int32))) - ((M 58 4) / ((4 : Int32) + (M 58 11)))) - (((M 58 3) * (M 58 9)) / (20 : Int32))), .int (999 : Int32)]) C w hl.1 (c_X6_within l G C.2.2.1 _ _ ((((M 58 4) + (((M 58 3) * (((M 58 7) - (M 58 10)) - (M 58 11))) / (10 : Int32))) - ((M 58 4) / ((4 : Int32) + (M 58 11)))) - (((M 58 3) * (M 58 9)) / (20 : Int32))) (999 : Int32)  _ h) kw_29_9 kw_1_5 kw_29_7 kw_29_8 hd_X6_within ⟨by decide, by decide⟩ rfl (Nat.le_of_ble_eq_true rfl) dX6_goesYaw_77) (fun r1 M2 H locs h w => ?_)
  refine pw_st C w (i := 58) (by decide) (fun _ => pE_58) (vl (x := (4 : Int32)) (by decide)) (k := 4) (by decide) dX6_goesYaw_80 (fun H locs w => ?_)
  obtain ⟨M3, eM3⟩ : ∃ z : Mem, z = (mup M2 58 4 r1) := ⟨_, rfl⟩
  replace w : Wd G s M3 H locs := by rw [eM3]; exact w
  replace h := h M3 eM3
  refine lv_aload_n hx hb dX6_goesYaw_81 rfl (lv_at hl 2 rfl) ?_
  refine gt_6_0 C w kw_5_0 dX6_goesYaw_82 ?_
  refine lv_iconst (v := 3) hx hb dX6_goesYaw_85 (by decide) ?_
  refine lv_iload_n hx hb dX6_goesYaw_86 rfl (lv_at hl 1 rfl) ?_
  refine lv_aload_n hx hb dX6_goesYaw_87 rfl (lv_at hl 2 rfl) ?_
  refine gt_6_0 C w kw_5_0 dX6_goesYaw_88 ?_
  refine lv_iconst (v := 4) hx hb dX6_goesYaw_91 (by decide) ?_
  refine pw_ld C w (i := 58) (by decide) pE_58 (vl (x := (4 : Int32)) (by decide)) (k := 4) (by decide) dX6_goesYaw_92 ?_
  refine lv_bipush (v := 10) hx hb dX6_goesYaw_93 (by decide) ?_
  refine lv_idiv hx hb dX6_goesYaw_95 (by decide) ?_
  refine lv_iadd hx hb dX6_goesYaw_96 ?_
  refine lv_sipush (v := 999) hx hb dX6_goesYaw_97 (by decide) ?_
  refine end_i w (run_S (As := [.int ((M 58 3) + ((M3 58 4) / (10 : Int32))), .int (999 : Int32)]) C w hl.1 (c_X6_within l G C.2.2.1 _ _ ((M 58 3) + ((M3 58 4) / (10 : Int32))) (999 : Int32)  _ h) kw_29_9 kw_1_5 kw_29_7 kw_29_8 hd_X6_within ⟨by decide, by decide⟩ rfl (Nat.le_of_ble_eq_true rfl) dX6_goesYaw_100) (fun r4 M5 H locs h w => ?_)
  refine pw_st C w (i := 58) (by decide) (fun _ => pE_58) (vl (x := (3 : Int32)) (by decide)) (k := 3) (by decide) dX6_goesYaw_103 (fun H locs w => ?_)
  obtain ⟨M6, eM6⟩ : ∃ z : Mem, z = (mup M5 58 3 r4) := ⟨_, rfl⟩
  replace w : Wd G s M6 H locs := by rw [eM6]; exact w
  replace h := h M6 eM6
  exact ret_v C w h dX6_goesYaw_104
def b_X6_yaws_17 (k17 : Mem → Int32 → Int32 → Prop) (post : Int32 → Mem → Prop) (M : Mem) (x1 : Int32) (x2 : Int32) : Prop := (x1 ≤ x2 → (post (M 58 3) M)) ∧ (¬ (x1 ≤ x2) → (q_X6_goesYaw M  (fun M3 => k17 M3 x1 (x2 + (1 : Int32)))))
def lp_X6_yaws_17 (post : Int32 → Mem → Prop) : Nat → Mem → Int32 → Int32 → Prop
  | 0 => fun _ _ _ => False
  | n + 1 => fun M x1 x2 => b_X6_yaws_17 (lp_X6_yaws_17 post n) post M x1 x2
def q_X6_yaws (M : Mem) (x1 : Int32) (post : Int32 → Mem → Prop) : Prop := q_X6_isIn M x1.toInt64 (1 : Int64) (400 : Int64) (fun r4 M5 => (r4 = 0 → (post (-1000000001 : Int32) M5)) ∧ (¬ (r4 = 0) → (∃ n, lp_X6_yaws_17 post n M5 x1 (0 : Int32))))
set_option maxHeartbeats 4000000 in
set_option maxRecDepth 100000 in
theorem t_X6_yaws_17 (C : Cx G p s m args meth c RX6 cX6_yaws 3 (some .int)) {post : Int32 → Mem → Prop} : ∀ (n : Nat) (M : Mem) (x1 : Int32) (x2 : Int32) {H : Heap} {locs : List Loc} {ls : Array Slot} (w : Wd G s M H locs) (hl : lv_has ls 3 [(0, .ref (ga G 57)), (1, .int x1), (2, .int x2)]) (h : lp_X6_yaws_17 post n M x1 x2), W p l e (rmk 3) s m args below meth c H locs 0 0 (MQ below (va_Qi post (Qw G) (Af G s.heap.size)) args s 0 0 (Af G s.heap.size)) (F0 m 17 ls []) := by
  have hx := C.1.1
  have hb := C.1.2.1
  intro n9
  induction n9 with
  | zero => intro M x1 x2 H locs ls w hl h; exact absurd h id
  | succ n9 ih9 =>
    intro M x1 x2 H locs ls w hl h
    have hk17 : ∀ (M : Mem) (x1 : Int32) (x2 : Int32) (H : Heap) (locs : List Loc) (ls : Array Slot), Wd G s M H locs → lv_has ls 3 [(0, .ref (ga G 57)), (1, .int x1), (2, .int x2)] → lp_X6_yaws_17 post n9 M x1 x2 → W p l e (rmk 3) s m args below meth c H locs 0 0 (MQ below (va_Qi post (Qw G) (Af G s.heap.size)) args s 0 0 (Af G s.heap.size)) (F0 m 17 ls []) := fun M x1 x2 H locs ls w hl h => ih9 M x1 x2 w hl h
    replace h : b_X6_yaws_17 (lp_X6_yaws_17 post n9) post M x1 x2 := h
    unfold b_X6_yaws_17 at h
    refine lv_iload_n hx hb dX6_yaws_17 rfl (lv_at hl 2 rfl) ?_
    refine lv_iload_n hx hb dX6_yaws_18 rfl (lv_at hl 1 rfl) ?_
    refine lv_icmp_ge (tgt := 32) hx hb dX6_yaws_19 (by decide) (fun c1 => ?_) (fun c1 => ?_)
    · replace h := h.1 c1
      refine lv_aload_n hx hb dX6_yaws_32 rfl (lv_at hl 0 rfl) ?_
      refine gt_6_0 C w kw_5_0 dX6_yaws_33 ?_
      refine lv_iconst (v := 3) hx hb dX6_yaws_36 (by decide) ?_
      refine pw_ld C w (i := 58) (by decide) pE_58 (vl (x := (3 : Int32)) (by decide)) (k := 3) (by decide) dX6_yaws_37 ?_
      exact ret_i C w h dX6_yaws_38
    replace h := h.2 c1
    refine lv_aload_n hx hb dX6_yaws_22 rfl (lv_at hl 0 rfl) ?_
    refine end_v w (run_V (As := []) C w hl.1 (c_X6_goesYaw l G C.2.2.1 _ _   _ h) kw_29_6 kw_1_5 kw_29_3 kw_29_4 kw_29_5 hd_X6_goesYaw ⟨by decide, by decide⟩ (w.recv C (i := 57) (by decide) (pE_6) rfl) rfl (Nat.le_of_ble_eq_true rfl) dX6_yaws_23) (fun M3 H locs h w => ?_)
    refine lv_iinc (v := (x2 + (1 : Int32))) (lv' := [(2, .int (x2 + (1 : Int32))), (0, .ref (ga G 57)), (1, .int x1)]) hx hb dX6_yaws_26 hl (k := 2) rfl rfl (by decide) rfl (fun ls hl => ?_)
    refine lv_goto (tgt := 17) hx hb dX6_yaws_29 (by decide) ?_
    exact hk17 M3 x1 (x2 + (1 : Int32)) _ _ _  w (lv_sub hl [1, 2, 0] rfl) h
set_option maxHeartbeats 4000000 in
set_option maxRecDepth 100000 in
theorem c_X6_yaws (l : Launch) (G : GG) (hG : Ag G) (sz : Nat) (M : Mem) (x1 : Int32) (post : Int32 → Mem → Prop) (h : q_X6_yaws M x1 post) : Met l yX6_yaws (Cond.code yX6_yaws cX6_yaws 3 (some .int) :: wsL_law) (rmk 3) (va_Pc [.ref (ga G 57), .int x1] (Pw G sz M)) (va_Qi post (Qw G) (Af G sz)) 0 0 (Af G sz) := by
  refine Met.ofW (cc := cX6_yaws) (maxL := 3) (ret := (some .int)) (by decide) rfl ?_
  intro p e s m args below meth c s₁ B hml hv
  obtain ⟨rfl, hsz, hE, hP⟩ := hv
  subst hsz
  have C := Cx.of (own := RX6) hG hE rfl hml B
  have w : Wd G s M s.heap [] := ⟨hP, va_S.rf⟩
  have hl := lv_entry [.ref (ga G 57), .int x1] (n := 3) (Nat.le_of_ble_eq_true rfl)
  rw [lg_entry_eq]
  generalize (lg_sl [.ref (ga G 57), .int x1] ++ List.replicate (3 - (lg_sl [.ref (ga G 57), .int x1]).length) Slot.unset).toArray = ls at hl ⊢
  have hl : lv_has ls 3 [(0, .ref (ga G 57)), (1, .int x1)] := hl
  have hx := C.1.1
  have hb := C.1.2.1
  show W p l e (rmk 3) s m _ below meth c s.heap [] 0 0 _ _
  unfold q_X6_yaws at h
  refine lv_iload_n hx hb dX6_yaws_0 rfl (lv_at hl 1 rfl) ?_
  refine lv_i2l hx hb dX6_yaws_1 rfl ?_
  refine lv_lconst (v := 1) hx hb dX6_yaws_2 (by decide) ?_
  refine lv_ldc2 hx hb C.1.2.2.2.1 (C.ws kw_23_17) dX6_yaws_3 ?_
  refine end_i w (run_S (As := [.long x1.toInt64, .long (1 : Int64), .long (400 : Int64)]) C w hl.1 (c_X6_isIn l G C.2.2.1 _ _ x1.toInt64 (1 : Int64) (400 : Int64)  _ h) kw_12_5 kw_1_5 kw_12_3 kw_12_4 hd_X6_isIn ⟨by decide, by decide⟩ rfl (Nat.le_of_ble_eq_true rfl) dX6_yaws_6) (fun r4 M5 H locs h w => ?_)
  refine lv_if_ne (tgt := 15) hx hb dX6_yaws_9 (by decide) (fun c6 => ?_) (fun c6 => ?_)
  · replace h := h.2 c6
    refine lv_iconst (v := 0) hx hb dX6_yaws_15 (by decide) ?_
    refine lv_istore_n (lv' := [(2, .int (0 : Int32)), (0, .ref (ga G 57)), (1, .int x1)]) hx hb dX6_yaws_16 rfl hl (by decide) rfl (fun ls hl => ?_)
    obtain ⟨n, h⟩ := h
    exact t_X6_yaws_17 C n M5 x1 (0 : Int32)  w (lv_sub hl [1, 2, 0] rfl) h
  replace h := h.1 c6
  refine lv_ldc hx hb C.1.2.2.2.1 (C.ws kw_25_15) dX6_yaws_12 ?_
  exact ret_i C w h dX6_yaws_14
def j_X5_swings_58 (post : Int32 → Mem → Prop) (M : Mem) (y0 : Int32) : Prop := post y0 M
def j_X5_swings_20 (post : Int32 → Mem → Prop) (M : Mem) : Prop := post (-1000000001 : Int32) M
def q_X5_swings (M : Mem) (x1 : Int32) (x2 : Int32) (post : Int32 → Mem → Prop) : Prop := q_X5_isWithin M x1 (0 : Int32) (400 : Int32) (fun r1 M2 => (r1 = 0 → (j_X5_swings_20 post M2)) ∧ (¬ (r1 = 0) → (q_X5_isWithin M2 x2 (0 : Int32) (1 : Int32) (fun r4 M5 => (r4 = 0 → (j_X5_swings_20 post M5)) ∧ (¬ (r4 = 0) → (q_X4_become M5 3 1 (fun M8 => q_X4_greatestYaw M8 3 x1 (fun r9 M10 => (x2 = 0 → (j_X5_swings_58 post M10 (M10 3 3))) ∧ (¬ (x2 = 0) → (j_X5_swings_58 post M10 r9))))))))))
set_option maxHeartbeats 4000000 in
set_option maxRecDepth 100000 in
theorem t_X5_swings_58 (C : Cx G p s m args meth c RX5 cX5_swings 4 (some .int)) {post : Int32 → Mem → Prop} (M : Mem) (y0 : Int32) {H : Heap} {locs : List Loc} {ls : Array Slot} (w : Wd G s M H locs) (hl : lv_has ls 4 []) (h : j_X5_swings_58 post M y0) : W p l e (rmk 4) s m args below meth c H locs 0 0 (MQ below (va_Qi post (Qw G) (Af G s.heap.size)) args s 0 0 (Af G s.heap.size)) (F0 m 58 ls [.int y0]) := by
  have hx := C.1.1
  have hb := C.1.2.1
  unfold j_X5_swings_58 at h
  exact ret_i C w h dX5_swings_58
set_option maxHeartbeats 4000000 in
set_option maxRecDepth 100000 in
theorem t_X5_swings_20 (C : Cx G p s m args meth c RX5 cX5_swings 4 (some .int)) {post : Int32 → Mem → Prop} (M : Mem) {H : Heap} {locs : List Loc} {ls : Array Slot} (w : Wd G s M H locs) (hl : lv_has ls 4 []) (h : j_X5_swings_20 post M) : W p l e (rmk 4) s m args below meth c H locs 0 0 (MQ below (va_Qi post (Qw G) (Af G s.heap.size)) args s 0 0 (Af G s.heap.size)) (F0 m 20 ls []) := by
  have hx := C.1.1
  have hb := C.1.2.1
  unfold j_X5_swings_20 at h
  refine lv_ldc hx hb C.1.2.2.2.1 (C.ws kw_25_9) dX5_swings_20 ?_
  exact ret_i C w h dX5_swings_22
set_option maxHeartbeats 4000000 in
set_option maxRecDepth 100000 in
theorem c_X5_swings (l : Launch) (G : GG) (hG : Ag G) (sz : Nat) (M : Mem) (x1 : Int32) (x2 : Int32) (post : Int32 → Mem → Prop) (h : q_X5_swings M x1 x2 post) : Met l yX5_swings (Cond.code yX5_swings cX5_swings 4 (some .int) :: wsL_law) (rmk 4) (va_Pc [.ref (ga G 0), .int x1, .int x2] (Pw G sz M)) (va_Qi post (Qw G) (Af G sz)) 0 0 (Af G sz) := by
  refine Met.ofW (cc := cX5_swings) (maxL := 4) (ret := (some .int)) (by decide) rfl ?_
  intro p e s m args below meth c s₁ B hml hv
  obtain ⟨rfl, hsz, hE, hP⟩ := hv
  subst hsz
  have C := Cx.of (own := RX5) hG hE rfl hml B
  have w : Wd G s M s.heap [] := ⟨hP, va_S.rf⟩
  have hl := lv_entry [.ref (ga G 0), .int x1, .int x2] (n := 4) (Nat.le_of_ble_eq_true rfl)
  rw [lg_entry_eq]
  generalize (lg_sl [.ref (ga G 0), .int x1, .int x2] ++ List.replicate (4 - (lg_sl [.ref (ga G 0), .int x1, .int x2]).length) Slot.unset).toArray = ls at hl ⊢
  have hl : lv_has ls 4 [(0, .ref (ga G 0)), (1, .int x1), (2, .int x2)] := hl
  have hx := C.1.1
  have hb := C.1.2.1
  show W p l e (rmk 4) s m _ below meth c s.heap [] 0 0 _ _
  unfold q_X5_swings at h
  refine lv_iload_n hx hb dX5_swings_0 rfl (lv_at hl 1 rfl) ?_
  refine lv_iconst (v := 0) hx hb dX5_swings_1 (by decide) ?_
  refine lv_sipush (v := 400) hx hb dX5_swings_2 (by decide) ?_
  refine end_i w (run_S (As := [.int x1, .int (0 : Int32), .int (400 : Int32)]) C w hl.1 (c_X5_isWithin l G C.2.2.1 _ _ x1 (0 : Int32) (400 : Int32)  _ h) kw_6_8 kw_1_2 kw_6_6 kw_6_7 hd_X5_isWithin ⟨by decide, by decide⟩ rfl (Nat.le_of_ble_eq_true rfl) dX5_swings_5) (fun r1 M2 H locs h w => ?_)
  refine lv_if_eq (tgt := 20) hx hb dX5_swings_8 (by decide) (fun c3 => ?_) (fun c3 => ?_)
  · replace h := h.1 c3
    exact t_X5_swings_20 C M2   w (lv_sub hl [] rfl) h
  replace h := h.2 c3
  refine lv_iload_n hx hb dX5_swings_11 rfl (lv_at hl 2 rfl) ?_
  refine lv_iconst (v := 0) hx hb dX5_swings_12 (by decide) ?_
  refine lv_iconst (v := 1) hx hb dX5_swings_13 (by decide) ?_
  refine end_i w (run_S (As := [.int x2, .int (0 : Int32), .int (1 : Int32)]) C w hl.1 (c_X5_isWithin l G C.2.2.1 _ _ x2 (0 : Int32) (1 : Int32)  _ h) kw_6_8 kw_1_2 kw_6_6 kw_6_7 hd_X5_isWithin ⟨by decide, by decide⟩ rfl (Nat.le_of_ble_eq_true rfl) dX5_swings_14) (fun r4 M5 H locs h w => ?_)
  refine lv_if_ne (tgt := 23) hx hb dX5_swings_17 (by decide) (fun c6 => ?_) (fun c6 => ?_)
  · replace h := h.2 c6
    refine lv_aload_n hx hb dX5_swings_23 rfl (lv_at hl 0 rfl) ?_
    refine gt_5_2 C w kw_1_18 dX5_swings_24 ?_
    refine lv_aload_n hx hb dX5_swings_27 rfl (lv_at hl 0 rfl) ?_
    refine gt_5_0 C w kw_1_16 dX5_swings_28 ?_
    refine end_v w (run_VN (As := [.ref (ga G 1)]) C w hl.1 (c_X4_become l G C.2.2.1 _ _ 3 1 ⟨by decide, by decide⟩ ⟨by decide, by decide⟩ _ h) kw_6_11 kw_1_15 kn_44 kw_6_9 kw_6_10 hd_X4_become ⟨by decide, by decide⟩ (w.recv C (i := 3) (by decide) (pE_4 ⟨by decide, by decide⟩) rfl) rfl (Nat.le_of_ble_eq_true rfl) dX5_swings_31) (fun M8 H locs h w => ?_)
    refine lv_aload_n hx hb dX5_swings_34 rfl (lv_at hl 0 rfl) ?_
    refine gt_5_2 C w kw_1_18 dX5_swings_35 ?_
    refine lv_iload_n hx hb dX5_swings_38 rfl (lv_at hl 1 rfl) ?_
    refine end_i w (run_VN (As := [.int x1]) C w hl.1 (c_X4_greatestYaw l G C.2.2.1 _ _ 3 x1 ⟨by decide, by decide⟩ _ h) kw_28_16 kw_1_15 kn_71 kw_28_14 kw_28_15 hd_X4_greatestYaw ⟨by decide, by decide⟩ (w.recv C (i := 3) (by decide) (pE_4 ⟨by decide, by decide⟩) rfl) rfl (Nat.le_of_ble_eq_true rfl) dX5_swings_39) (fun r9 M10 H locs h w => ?_)
    refine lv_istore_n (lv' := [(3, .int r9), (0, .ref (ga G 0)), (1, .int x1), (2, .int x2)]) hx hb dX5_swings_42 rfl hl (by decide) rfl (fun ls hl => ?_)
    refine lv_iload_n hx hb dX5_swings_43 rfl (lv_at hl 3 rfl) ?_
    refine lv_if_ne (tgt := 57) hx hb dX5_swings_44 (by decide) (fun c11 => ?_) (fun c11 => ?_)
    · replace h := h.2 c11
      refine lv_iload_n hx hb dX5_swings_57 rfl (lv_at hl 0 rfl) ?_
      exact t_X5_swings_58 C M10 r9  w (lv_sub hl [] rfl) h
    replace h := h.1 c11
    refine lv_aload_n hx hb dX5_swings_47 rfl (lv_at hl 1 rfl) ?_
    refine gt_5_2 C w kw_1_18 dX5_swings_48 ?_
    refine gn_4_3 C w ⟨by decide, by decide⟩ kn_18 dX5_swings_51 ?_
    refine lv_goto (tgt := 58) hx hb dX5_swings_54 (by decide) ?_
    exact t_X5_swings_58 C M10 (M10 3 3)  w (lv_sub hl [] rfl) h
  replace h := h.1 c6
  exact t_X5_swings_20 C M5   w (lv_sub hl [] rfl) h
def j_X6_swings_98 (post : Int32 → Mem → Prop) (M : Mem) (y0 : Int32) : Prop := q_X6_copies M 61 58 (fun M2 => post y0 M2)
def j_X6_swings_77 (k41 : Mem → Int32 → Int32 → Int32 → Int32 → Prop) (post : Int32 → Mem → Prop) (M : Mem) (y0 : Int32) (x1 : Int32) (x2 : Int32) (x4 : Int32) : Prop := k41 M x1 x2 y0 (x4 + (1 : Int32))
def b_X6_swings_41 (k41 : Mem → Int32 → Int32 → Int32 → Int32 → Prop) (post : Int32 → Mem → Prop) (M : Mem) (x1 : Int32) (x2 : Int32) (x3 : Int32) (x4 : Int32) : Prop := (x1 ≤ x4 → ((x2 = 0 → (j_X6_swings_98 post M (M 58 3))) ∧ (¬ (x2 = 0) → (j_X6_swings_98 post M x3)))) ∧ (¬ (x1 ≤ x4) → (q_X6_goesYaw M  (fun M6 => q_X6_amount M6 (M6 58 3) (fun r7 M8 => (r7 ≤ x3 → (j_X6_swings_77 k41 post M8 x3 x1 x2 x4)) ∧ (¬ (r7 ≤ x3) → (q_X6_amount M8 (M8 58 3) (fun r10 M11 => j_X6_swings_77 k41 post M11 r10 x1 x2 x4)))))))
def lp_X6_swings_41 (post : Int32 → Mem → Prop) : Nat → Mem → Int32 → Int32 → Int32 → Int32 → Prop
  | 0 => fun _ _ _ _ _ => False
  | n + 1 => fun M x1 x2 x3 x4 => b_X6_swings_41 (lp_X6_swings_41 post n) post M x1 x2 x3 x4
def j_X6_swings_22 (post : Int32 → Mem → Prop) (M : Mem) : Prop := post (-1000000001 : Int32) M
def q_X6_swings (M : Mem) (x1 : Int32) (x2 : Int32) (post : Int32 → Mem → Prop) : Prop := q_X6_isIn M x1.toInt64 (0 : Int64) (400 : Int64) (fun r12 M13 => (r12 = 0 → (j_X6_swings_22 post M13)) ∧ (¬ (r12 = 0) → (q_X6_isIn M13 x2.toInt64 (0 : Int64) (1 : Int64) (fun r15 M16 => (r15 = 0 → (j_X6_swings_22 post M16)) ∧ (¬ (r15 = 0) → (q_X6_copies M16 58 61 (fun M19 => ∃ n, lp_X6_swings_41 post n M19 x1 x2 (0 : Int32) (0 : Int32))))))))
set_option maxHeartbeats 4000000 in
set_option maxRecDepth 100000 in
theorem t_X6_swings_98 (C : Cx G p s m args meth c RX6 cX6_swings 5 (some .int)) {post : Int32 → Mem → Prop} (M : Mem) (y0 : Int32) {H : Heap} {locs : List Loc} {ls : Array Slot} (w : Wd G s M H locs) (hl : lv_has ls 5 [(0, .ref (ga G 57))]) (h : j_X6_swings_98 post M y0) : W p l e (rmk 3) s m args below meth c H locs 0 0 (MQ below (va_Qi post (Qw G) (Af G s.heap.size)) args s 0 0 (Af G s.heap.size)) (F0 m 98 ls [.int y0]) := by
  have hx := C.1.1
  have hb := C.1.2.1
  unfold j_X6_swings_98 at h
  refine lv_istore (lv' := [(4, .int y0), (0, .ref (ga G 57))]) hx hb dX6_swings_98 hl (by decide) rfl (fun ls hl => ?_)
  refine lv_aload_n hx hb dX6_swings_100 rfl (lv_at hl 1 rfl) ?_
  refine gt_6_3 C w kw_5_3 dX6_swings_101 ?_
  refine lv_aload_n hx hb dX6_swings_104 rfl (lv_at hl 1 rfl) ?_
  refine gt_6_0 C w kw_5_0 dX6_swings_105 ?_
  refine end_v w (run_S (As := [.ref (ga G 61), .ref (ga G 58)]) C w hl.1 (c_X6_copies l G C.2.2.1 _ _ 61 58 ⟨by decide, by decide⟩ ⟨by decide, by decide⟩ _ h) kw_13_8 kw_1_5 kw_13_6 kw_13_7 hd_X6_copies ⟨by decide, by decide⟩ rfl (Nat.le_of_ble_eq_true rfl) dX6_swings_108) (fun M2 H locs h w => ?_)
  refine lv_iload hx hb dX6_swings_111 (lv_at hl 0 rfl) ?_
  exact ret_i C w h dX6_swings_113
set_option maxHeartbeats 4000000 in
set_option maxRecDepth 100000 in
theorem t_X6_swings_77 (C : Cx G p s m args meth c RX6 cX6_swings 5 (some .int)) {post : Int32 → Mem → Prop} {k41 : Mem → Int32 → Int32 → Int32 → Int32 → Prop} (hk41 : ∀ (M : Mem) (x1 : Int32) (x2 : Int32) (x3 : Int32) (x4 : Int32) (H : Heap) (locs : List Loc) (ls : Array Slot), Wd G s M H locs → lv_has ls 5 [(0, .ref (ga G 57)), (1, .int x1), (2, .int x2), (3, .int x3), (4, .int x4)] → k41 M x1 x2 x3 x4 → W p l e (rmk 3) s m args below meth c H locs 0 0 (MQ below (va_Qi post (Qw G) (Af G s.heap.size)) args s 0 0 (Af G s.heap.size)) (F0 m 41 ls [])) (M : Mem) (y0 : Int32) (x1 : Int32) (x2 : Int32) (x4 : Int32) {H : Heap} {locs : List Loc} {ls : Array Slot} (w : Wd G s M H locs) (hl : lv_has ls 5 [(0, .ref (ga G 57)), (1, .int x1), (2, .int x2), (4, .int x4)]) (h : j_X6_swings_77 k41 post M y0 x1 x2 x4) : W p l e (rmk 3) s m args below meth c H locs 0 0 (MQ below (va_Qi post (Qw G) (Af G s.heap.size)) args s 0 0 (Af G s.heap.size)) (F0 m 77 ls [.int y0]) := by
  have hx := C.1.1
  have hb := C.1.2.1
  unfold j_X6_swings_77 at h
  refine lv_istore_n (lv' := [(3, .int y0), (0, .ref (ga G 57)), (1, .int x1), (2, .int x2), (4, .int x4)]) hx hb dX6_swings_77 rfl hl (by decide) rfl (fun ls hl => ?_)
  refine lv_iinc (v := (x4 + (1 : Int32))) (lv' := [(4, .int (x4 + (1 : Int32))), (3, .int y0), (0, .ref (ga G 57)), (1, .int x1), (2, .int x2)]) hx hb dX6_swings_78 hl (k := 4) rfl rfl (by decide) rfl (fun ls hl => ?_)
  refine lv_goto (tgt := 41) hx hb dX6_swings_81 (by decide) ?_
  exact hk41 M x1 x2 y0 (x4 + (1 : Int32)) _ _ _  w (lv_sub hl [2, 3, 4, 1, 0] rfl) h
set_option maxHeartbeats 4000000 in
set_option maxRecDepth 100000 in
theorem t_X6_swings_41 (C : Cx G p s m args meth c RX6 cX6_swings 5 (some .int)) {post : Int32 → Mem → Prop} : ∀ (n : Nat) (M : Mem) (x1 : Int32) (x2 : Int32) (x3 : Int32) (x4 : Int32) {H : Heap} {locs : List Loc} {ls : Array Slot} (w : Wd G s M H locs) (hl : lv_has ls 5 [(0, .ref (ga G 57)), (1, .int x1), (2, .int x2), (3, .int x3), (4, .int x4)]) (h : lp_X6_swings_41 post n M x1 x2 x3 x4), W p l e (rmk 3) s m args below meth c H locs 0 0 (MQ below (va_Qi post (Qw G) (Af G s.heap.size)) args s 0 0 (Af G s.heap.size)) (F0 m 41 ls []) := by
  have hx := C.1.1
  have hb := C.1.2.1
  intro n9
  induction n9 with
  | zero => intro M x1 x2 x3 x4 H locs ls w hl h; exact absurd h id
  | succ n9 ih9 =>
    intro M x1 x2 x3 x4 H locs ls w hl h
    have hk41 : ∀ (M : Mem) (x1 : Int32) (x2 : Int32) (x3 : Int32) (x4 : Int32) (H : Heap) (locs : List Loc) (ls : Array Slot), Wd G s M H locs → lv_has ls 5 [(0, .ref (ga G 57)), (1, .int x1), (2, .int x2), (3, .int x3), (4, .int x4)] → lp_X6_swings_41 post n9 M x1 x2 x3 x4 → W p l e (rmk 3) s m args below meth c H locs 0 0 (MQ below (va_Qi post (Qw G) (Af G s.heap.size)) args s 0 0 (Af G s.heap.size)) (F0 m 41 ls []) := fun M x1 x2 x3 x4 H locs ls w hl h => ih9 M x1 x2 x3 x4 w hl h
    replace h : b_X6_swings_41 (lp_X6_swings_41 post n9) post M x1 x2 x3 x4 := h
    unfold b_X6_swings_41 at h
    refine lv_iload hx hb dX6_swings_41 (lv_at hl 4 rfl) ?_
    refine lv_iload_n hx hb dX6_swings_43 rfl (lv_at hl 1 rfl) ?_
    refine lv_icmp_ge (tgt := 84) hx hb dX6_swings_44 (by decide) (fun c3 => ?_) (fun c3 => ?_)
    · replace h := h.1 c3
      refine lv_iload_n hx hb dX6_swings_84 rfl (lv_at hl 2 rfl) ?_
      refine lv_if_ne (tgt := 97) hx hb dX6_swings_85 (by decide) (fun c4 => ?_) (fun c4 => ?_)
      · replace h := h.2 c4
        refine lv_iload_n hx hb dX6_swings_97 rfl (lv_at hl 3 rfl) ?_
        exact t_X6_swings_98 C M x3  w (lv_sub hl [0] rfl) h
      replace h := h.1 c4
      refine lv_aload_n hx hb dX6_swings_88 rfl (lv_at hl 0 rfl) ?_
      refine gt_6_0 C w kw_5_0 dX6_swings_89 ?_
      refine lv_iconst (v := 3) hx hb dX6_swings_92 (by decide) ?_
      refine pw_ld C w (i := 58) (by decide) pE_58 (vl (x := (3 : Int32)) (by decide)) (k := 3) (by decide) dX6_swings_93 ?_
      refine lv_goto (tgt := 98) hx hb dX6_swings_94 (by decide) ?_
      exact t_X6_swings_98 C M (M 58 3)  w (lv_sub hl [0] rfl) h
    replace h := h.2 c3
    refine lv_aload_n hx hb dX6_swings_47 rfl (lv_at hl 0 rfl) ?_
    refine end_v w (run_V (As := []) C w hl.1 (c_X6_goesYaw l G C.2.2.1 _ _   _ h) kw_29_6 kw_1_5 kw_29_3 kw_29_4 kw_29_5 hd_X6_goesYaw ⟨by decide, by decide⟩ (w.recv C (i := 57) (by decide) (pE_6) rfl) rfl (Nat.le_of_ble_eq_true rfl) dX6_swings_48) (fun M6 H locs h w => ?_)
    refine lv_aload_n hx hb dX6_swings_51 rfl (lv_at hl 0 rfl) ?_
    refine gt_6_0 C w kw_5_0 dX6_swings_52 ?_
    refine lv_iconst (v := 3) hx hb dX6_swings_55 (by decide) ?_
    refine pw_ld C w (i := 58) (by decide) pE_58 (vl (x := (3 : Int32)) (by decide)) (k := 3) (by decide) dX6_swings_56 ?_
    refine end_i w (run_S (As := [.int (M6 58 3)]) C w hl.1 (c_X6_amount l G C.2.2.1 _ _ (M6 58 3)  _ h) kw_19_13 kw_1_5 kw_19_11 kw_19_12 hd_X6_amount ⟨by decide, by decide⟩ rfl (Nat.le_of_ble_eq_true rfl) dX6_swings_57) (fun r7 M8 H locs h w => ?_)
    refine lv_iload_n hx hb dX6_swings_60 rfl (lv_at hl 3 rfl) ?_
    refine lv_icmp_le (tgt := 76) hx hb dX6_swings_61 (by decide) (fun c9 => ?_) (fun c9 => ?_)
    · replace h := h.1 c9
      refine lv_iload_n hx hb dX6_swings_76 rfl (lv_at hl 3 rfl) ?_
      exact t_X6_swings_77 C hk41 M8 x3 x1 x2 x4  w (lv_sub hl [0, 1, 2, 4] rfl) h
    replace h := h.2 c9
    refine lv_aload_n hx hb dX6_swings_64 rfl (lv_at hl 0 rfl) ?_
    refine gt_6_0 C w kw_5_0 dX6_swings_65 ?_
    refine lv_iconst (v := 3) hx hb dX6_swings_68 (by decide) ?_
    refine pw_ld C w (i := 58) (by decide) pE_58 (vl (x := (3 : Int32)) (by decide)) (k := 3) (by decide) dX6_swings_69 ?_
    refine end_i w (run_S (As := [.int (M8 58 3)]) C w hl.1 (c_X6_amount l G C.2.2.1 _ _ (M8 58 3)  _ h) kw_19_13 kw_1_5 kw_19_11 kw_19_12 hd_X6_amount ⟨by decide, by decide⟩ rfl (Nat.le_of_ble_eq_true rfl) dX6_swings_70) (fun r10 M11 H locs h w => ?_)
    refine lv_goto (tgt := 77) hx hb dX6_swings_73 (by decide) ?_
    exact t_X6_swings_77 C hk41 M11 r10 x1 x2 x4  w (lv_sub hl [0, 1, 2, 4] rfl) h
set_option maxHeartbeats 4000000 in
set_option maxRecDepth 100000 in
theorem t_X6_swings_22 (C : Cx G p s m args meth c RX6 cX6_swings 5 (some .int)) {post : Int32 → Mem → Prop} (M : Mem) {H : Heap} {locs : List Loc} {ls : Array Slot} (w : Wd G s M H locs) (hl : lv_has ls 5 []) (h : j_X6_swings_22 post M) : W p l e (rmk 3) s m args below meth c H locs 0 0 (MQ below (va_Qi post (Qw G) (Af G s.heap.size)) args s 0 0 (Af G s.heap.size)) (F0 m 22 ls []) := by
  have hx := C.1.1
  have hb := C.1.2.1
  unfold j_X6_swings_22 at h
  refine lv_ldc hx hb C.1.2.2.2.1 (C.ws kw_25_15) dX6_swings_22 ?_
  exact ret_i C w h dX6_swings_24
set_option maxHeartbeats 4000000 in
set_option maxRecDepth 100000 in
theorem c_X6_swings (l : Launch) (G : GG) (hG : Ag G) (sz : Nat) (M : Mem) (x1 : Int32) (x2 : Int32) (post : Int32 → Mem → Prop) (h : q_X6_swings M x1 x2 post) : Met l yX6_swings (Cond.code yX6_swings cX6_swings 5 (some .int) :: wsL_law) (rmk 3) (va_Pc [.ref (ga G 57), .int x1, .int x2] (Pw G sz M)) (va_Qi post (Qw G) (Af G sz)) 0 0 (Af G sz) := by
  refine Met.ofW (cc := cX6_swings) (maxL := 5) (ret := (some .int)) (by decide) rfl ?_
  intro p e s m args below meth c s₁ B hml hv
  obtain ⟨rfl, hsz, hE, hP⟩ := hv
  subst hsz
  have C := Cx.of (own := RX6) hG hE rfl hml B
  have w : Wd G s M s.heap [] := ⟨hP, va_S.rf⟩
  have hl := lv_entry [.ref (ga G 57), .int x1, .int x2] (n := 5) (Nat.le_of_ble_eq_true rfl)
  rw [lg_entry_eq]
  generalize (lg_sl [.ref (ga G 57), .int x1, .int x2] ++ List.replicate (5 - (lg_sl [.ref (ga G 57), .int x1, .int x2]).length) Slot.unset).toArray = ls at hl ⊢
  have hl : lv_has ls 5 [(0, .ref (ga G 57)), (1, .int x1), (2, .int x2)] := hl
  have hx := C.1.1
  have hb := C.1.2.1
  show W p l e (rmk 3) s m _ below meth c s.heap [] 0 0 _ _
  unfold q_X6_swings at h
  refine lv_iload_n hx hb dX6_swings_0 rfl (lv_at hl 1 rfl) ?_
  refine lv_i2l hx hb dX6_swings_1 rfl ?_
  refine lv_lconst (v := 0) hx hb dX6_swings_2 (by decide) ?_
  refine lv_ldc2 hx hb C.1.2.2.2.1 (C.ws kw_23_17) dX6_swings_3 ?_
  refine end_i w (run_S (As := [.long x1.toInt64, .long (0 : Int64), .long (400 : Int64)]) C w hl.1 (c_X6_isIn l G C.2.2.1 _ _ x1.toInt64 (0 : Int64) (400 : Int64)  _ h) kw_12_5 kw_1_5 kw_12_3 kw_12_4 hd_X6_isIn ⟨by decide, by decide⟩ rfl (Nat.le_of_ble_eq_true rfl) dX6_swings_6) (fun r12 M13 H locs h w => ?_)
  refine lv_if_eq (tgt := 22) hx hb dX6_swings_9 (by decide) (fun c14 => ?_) (fun c14 => ?_)
  · replace h := h.1 c14
    exact t_X6_swings_22 C M13   w (lv_sub hl [] rfl) h
  replace h := h.2 c14
  refine lv_iload_n hx hb dX6_swings_12 rfl (lv_at hl 2 rfl) ?_
  refine lv_i2l hx hb dX6_swings_13 rfl ?_
  refine lv_lconst (v := 0) hx hb dX6_swings_14 (by decide) ?_
  refine lv_lconst (v := 1) hx hb dX6_swings_15 (by decide) ?_
  refine end_i w (run_S (As := [.long x2.toInt64, .long (0 : Int64), .long (1 : Int64)]) C w hl.1 (c_X6_isIn l G C.2.2.1 _ _ x2.toInt64 (0 : Int64) (1 : Int64)  _ h) kw_12_5 kw_1_5 kw_12_3 kw_12_4 hd_X6_isIn ⟨by decide, by decide⟩ rfl (Nat.le_of_ble_eq_true rfl) dX6_swings_16) (fun r15 M16 H locs h w => ?_)
  refine lv_if_ne (tgt := 25) hx hb dX6_swings_19 (by decide) (fun c17 => ?_) (fun c17 => ?_)
  · replace h := h.2 c17
    refine lv_aload_n hx hb dX6_swings_25 rfl (lv_at hl 0 rfl) ?_
    refine gt_6_0 C w kw_5_0 dX6_swings_26 ?_
    refine lv_aload_n hx hb dX6_swings_29 rfl (lv_at hl 0 rfl) ?_
    refine gt_6_3 C w kw_5_3 dX6_swings_30 ?_
    refine end_v w (run_S (As := [.ref (ga G 58), .ref (ga G 61)]) C w hl.1 (c_X6_copies l G C.2.2.1 _ _ 58 61 ⟨by decide, by decide⟩ ⟨by decide, by decide⟩ _ h) kw_13_8 kw_1_5 kw_13_6 kw_13_7 hd_X6_copies ⟨by decide, by decide⟩ rfl (Nat.le_of_ble_eq_true rfl) dX6_swings_33) (fun M19 H locs h w => ?_)
    refine lv_iconst (v := 0) hx hb dX6_swings_36 (by decide) ?_
    refine lv_istore_n (lv' := [(3, .int (0 : Int32)), (0, .ref (ga G 57)), (1, .int x1), (2, .int x2)]) hx hb dX6_swings_37 rfl hl (by decide) rfl (fun ls hl => ?_)
    refine lv_iconst (v := 0) hx hb dX6_swings_38 (by decide) ?_
    refine lv_istore (lv' := [(4, .int (0 : Int32)), (3, .int (0 : Int32)), (0, .ref (ga G 57)), (1, .int x1), (2, .int x2)]) hx hb dX6_swings_39 hl (by decide) rfl (fun ls hl => ?_)
    obtain ⟨n, h⟩ := h
    exact t_X6_swings_41 C n M19 x1 x2 (0 : Int32) (0 : Int32)  w (lv_sub hl [2, 3, 4, 1, 0] rfl) h
  replace h := h.1 c17
  exact t_X6_swings_22 C M16   w (lv_sub hl [] rfl) h
def j_X5_growsWith_52 (post : Int32 → Mem → Prop) (M : Mem) (y0 : Int32) : Prop := (y0 = 0 ∨ y0 = 1) ∧ post y0 M
def q_X5_growsWith (M : Mem) (x1 : Int32) (post : Int32 → Mem → Prop) : Prop := q_X4_become M 3 1 (fun M2 => ∀ M3 : Mem, M3 = (mup M2 13 6 x1) → (q_X4_greatestYaw M3 3 (100 : Int32) (fun r4 M5 => q_X4_greatestYaw M5 3 (100 : Int32) (fun r6 M7 => (r6 ≤ r4 → (j_X5_growsWith_52 post M7 (0 : Int32))) ∧ (¬ (r6 ≤ r4) → (j_X5_growsWith_52 post M7 (1 : Int32)))))))
set_option maxHeartbeats 4000000 in
set_option maxRecDepth 100000 in
theorem t_X5_growsWith_52 (C : Cx G p s m args meth c RX5 cX5_growsWith 4 (some .boolean)) {post : Int32 → Mem → Prop} (M : Mem) (y0 : Int32) {H : Heap} {locs : List Loc} {ls : Array Slot} (w : Wd G s M H locs) (hl : lv_has ls 4 []) (h : j_X5_growsWith_52 post M y0) : W p l e (rmk 4) s m args below meth c H locs 0 0 (MQ below (va_Qi post (Qw G) (Af G s.heap.size)) args s 0 0 (Af G s.heap.size)) (F0 m 52 ls [.int y0]) := by
  have hx := C.1.1
  have hb := C.1.2.1
  unfold j_X5_growsWith_52 at h
  exact ret_z C w h dX5_growsWith_52
set_option maxHeartbeats 4000000 in
set_option maxRecDepth 100000 in
theorem c_X5_growsWith (l : Launch) (G : GG) (hG : Ag G) (sz : Nat) (M : Mem) (x1 : Int32) (post : Int32 → Mem → Prop) (h : q_X5_growsWith M x1 post) : Met l yX5_growsWith (Cond.code yX5_growsWith cX5_growsWith 4 (some .boolean) :: wsL_law) (rmk 4) (va_Pc [.ref (ga G 0), .int x1] (Pw G sz M)) (va_Qi post (Qw G) (Af G sz)) 0 0 (Af G sz) := by
  refine Met.ofW (cc := cX5_growsWith) (maxL := 4) (ret := (some .boolean)) (by decide) rfl ?_
  intro p e s m args below meth c s₁ B hml hv
  obtain ⟨rfl, hsz, hE, hP⟩ := hv
  subst hsz
  have C := Cx.of (own := RX5) hG hE rfl hml B
  have w : Wd G s M s.heap [] := ⟨hP, va_S.rf⟩
  have hl := lv_entry [.ref (ga G 0), .int x1] (n := 4) (Nat.le_of_ble_eq_true rfl)
  rw [lg_entry_eq]
  generalize (lg_sl [.ref (ga G 0), .int x1] ++ List.replicate (4 - (lg_sl [.ref (ga G 0), .int x1]).length) Slot.unset).toArray = ls at hl ⊢
  have hl : lv_has ls 4 [(0, .ref (ga G 0)), (1, .int x1)] := hl
  have hx := C.1.1
  have hb := C.1.2.1
  show W p l e (rmk 4) s m _ below meth c s.heap [] 0 0 _ _
  unfold q_X5_growsWith at h
  refine lv_aload_n hx hb dX5_growsWith_0 rfl (lv_at hl 0 rfl) ?_
  refine gt_5_2 C w kw_1_18 dX5_growsWith_1 ?_
  refine lv_aload_n hx hb dX5_growsWith_4 rfl (lv_at hl 0 rfl) ?_
  refine gt_5_0 C w kw_1_16 dX5_growsWith_5 ?_
  refine end_v w (run_VN (As := [.ref (ga G 1)]) C w hl.1 (c_X4_become l G C.2.2.1 _ _ 3 1 ⟨by decide, by decide⟩ ⟨by decide, by decide⟩ _ h) kw_6_11 kw_1_15 kn_44 kw_6_9 kw_6_10 hd_X4_become ⟨by decide, by decide⟩ (w.recv C (i := 3) (by decide) (pE_4 ⟨by decide, by decide⟩) rfl) rfl (Nat.le_of_ble_eq_true rfl) dX5_growsWith_8) (fun M2 H locs h w => ?_)
  refine lv_aload_n hx hb dX5_growsWith_11 rfl (lv_at hl 0 rfl) ?_
  refine gt_5_2 C w kw_1_18 dX5_growsWith_12 ?_
  refine gn_4_2 C w ⟨by decide, by decide⟩ kn_16 dX5_growsWith_15 ?_
  refine lv_bipush (v := 6) hx hb dX5_growsWith_18 (by decide) ?_
  refine lv_iload_n hx hb dX5_growsWith_20 rfl (lv_at hl 1 rfl) ?_
  refine pw_st C w (i := 13) (by decide) (fun _ => (pE_st ⟨by decide, by decide⟩)) (vl (x := (6 : Int32)) (by decide)) (k := 6) (by decide) dX5_growsWith_21 (fun H locs w => ?_)
  obtain ⟨M3, eM3⟩ : ∃ z : Mem, z = (mup M2 13 6 x1) := ⟨_, rfl⟩
  replace w : Wd G s M3 H locs := by rw [eM3]; exact w
  replace h := h M3 eM3
  refine lv_aload_n hx hb dX5_growsWith_22 rfl (lv_at hl 0 rfl) ?_
  refine gt_5_2 C w kw_1_18 dX5_growsWith_23 ?_
  refine lv_bipush (v := 100) hx hb dX5_growsWith_26 (by decide) ?_
  refine end_i w (run_VN (As := [.int (100 : Int32)]) C w hl.1 (c_X4_greatestYaw l G C.2.2.1 _ _ 3 (100 : Int32) ⟨by decide, by decide⟩ _ h) kw_28_16 kw_1_15 kn_71 kw_28_14 kw_28_15 hd_X4_greatestYaw ⟨by decide, by decide⟩ (w.recv C (i := 3) (by decide) (pE_4 ⟨by decide, by decide⟩) rfl) rfl (Nat.le_of_ble_eq_true rfl) dX5_growsWith_28) (fun r4 M5 H locs h w => ?_)
  refine lv_istore_n (lv' := [(2, .int r4), (0, .ref (ga G 0)), (1, .int x1)]) hx hb dX5_growsWith_31 rfl hl (by decide) rfl (fun ls hl => ?_)
  refine lv_aload_n hx hb dX5_growsWith_32 rfl (lv_at hl 1 rfl) ?_
  refine gt_5_2 C w kw_1_18 dX5_growsWith_33 ?_
  refine lv_bipush (v := 100) hx hb dX5_growsWith_36 (by decide) ?_
  refine end_i w (run_VN (As := [.int (100 : Int32)]) C w hl.1 (c_X4_greatestYaw l G C.2.2.1 _ _ 3 (100 : Int32) ⟨by decide, by decide⟩ _ h) kw_28_16 kw_1_15 kn_71 kw_28_14 kw_28_15 hd_X4_greatestYaw ⟨by decide, by decide⟩ (w.recv C (i := 3) (by decide) (pE_4 ⟨by decide, by decide⟩) rfl) rfl (Nat.le_of_ble_eq_true rfl) dX5_growsWith_38) (fun r6 M7 H locs h w => ?_)
  refine lv_istore_n (lv' := [(3, .int r6), (2, .int r4), (0, .ref (ga G 0)), (1, .int x1)]) hx hb dX5_growsWith_41 rfl hl (by decide) rfl (fun ls hl => ?_)
  refine lv_iload_n hx hb dX5_growsWith_42 rfl (lv_at hl 0 rfl) ?_
  refine lv_iload_n hx hb dX5_growsWith_43 rfl (lv_at hl 1 rfl) ?_
  refine lv_icmp_le (tgt := 51) hx hb dX5_growsWith_44 (by decide) (fun c8 => ?_) (fun c8 => ?_)
  · replace h := h.1 c8
    refine lv_iconst (v := 0) hx hb dX5_growsWith_51 (by decide) ?_
    exact t_X5_growsWith_52 C M7 (0 : Int32)  w (lv_sub hl [] rfl) h
  replace h := h.2 c8
  refine lv_iconst (v := 1) hx hb dX5_growsWith_47 (by decide) ?_
  refine lv_goto (tgt := 52) hx hb dX5_growsWith_48 (by decide) ?_
  exact t_X5_growsWith_52 C M7 (1 : Int32)  w (lv_sub hl [] rfl) h
end WALK
