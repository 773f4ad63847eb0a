theorem dX6_copy_0 : decode cX6_copy 0 = .ok (.iload_n 1, 1) := by decide +kernel
theorem dX6_copy_1 : decode cX6_copy 1 = .ok (.invokestatic 94, 3) := by decide +kernel
theorem dX6_copy_4 : decode cX6_copy 4 = .ok (.ifCond .eq 10, 3) := by decide +kernel
theorem dX6_copy_7 : decode cX6_copy 7 = .ok (.iload_n 3, 1) := by decide +kernel
theorem dX6_copy_8 : decode cX6_copy 8 = .ok (.invokestatic 94, 3) := by decide +kernel
theorem dX6_copy_11 : decode cX6_copy 11 = .ok (.ifCond .ne 5, 3) := by decide +kernel
theorem dX6_copy_14 : decode cX6_copy 14 = .ok (.iconst (-1), 1) := by decide +kernel
theorem dX6_copy_15 : decode cX6_copy 15 = .ok (.ireturn, 1) := by decide +kernel
theorem dX6_copy_16 : decode cX6_copy 16 = .ok (.aload_n 0, 1) := by decide +kernel
theorem dX6_copy_17 : decode cX6_copy 17 = .ok (.getfield 22, 3) := by decide +kernel
theorem dX6_copy_20 : decode cX6_copy 20 = .ok (.iload_n 1, 1) := by decide +kernel
theorem dX6_copy_21 : decode cX6_copy 21 = .ok (.iaload, 1) := by decide +kernel
theorem dX6_copy_22 : decode cX6_copy 22 = .ok (.ifCond .eq 12, 3) := by decide +kernel
theorem dX6_copy_25 : decode cX6_copy 25 = .ok (.aload_n 0, 1) := by decide +kernel
theorem dX6_copy_26 : decode cX6_copy 26 = .ok (.getfield 22, 3) := by decide +kernel
theorem dX6_copy_29 : decode cX6_copy 29 = .ok (.iload_n 3, 1) := by decide +kernel
theorem dX6_copy_30 : decode cX6_copy 30 = .ok (.iaload, 1) := by decide +kernel
theorem dX6_copy_31 : decode cX6_copy 31 = .ok (.ifCond .ne 6, 3) := by decide +kernel
theorem dX6_copy_34 : decode cX6_copy 34 = .ok (.bipush (-11), 2) := by decide +kernel
theorem dX6_copy_36 : decode cX6_copy 36 = .ok (.ireturn, 1) := by decide +kernel
theorem dX6_copy_37 : decode cX6_copy 37 = .ok (.aload_n 0, 1) := by decide +kernel
theorem dX6_copy_38 : decode cX6_copy 38 = .ok (.getfield 22, 3) := by decide +kernel
theorem dX6_copy_41 : decode cX6_copy 41 = .ok (.iload_n 1, 1) := by decide +kernel
theorem dX6_copy_42 : decode cX6_copy 42 = .ok (.iaload, 1) := by decide +kernel
theorem dX6_copy_43 : decode cX6_copy 43 = .ok (.iconst 2, 1) := by decide +kernel
theorem dX6_copy_44 : decode cX6_copy 44 = .ok (.if_icmp .ne 28, 3) := by decide +kernel
theorem dX6_copy_47 : decode cX6_copy 47 = .ok (.aload_n 0, 1) := by decide +kernel
theorem dX6_copy_48 : decode cX6_copy 48 = .ok (.getfield 22, 3) := by decide +kernel
theorem dX6_copy_51 : decode cX6_copy 51 = .ok (.iload_n 3, 1) := by decide +kernel
theorem dX6_copy_52 : decode cX6_copy 52 = .ok (.iaload, 1) := by decide +kernel
theorem dX6_copy_53 : decode cX6_copy 53 = .ok (.iconst 2, 1) := by decide +kernel
theorem dX6_copy_54 : decode cX6_copy 54 = .ok (.if_icmp .ne 18, 3) := by decide +kernel
theorem dX6_copy_57 : decode cX6_copy 57 = .ok (.aload_n 0, 1) := by decide +kernel
theorem dX6_copy_58 : decode cX6_copy 58 = .ok (.getfield 25, 3) := by decide +kernel
theorem dX6_copy_61 : decode cX6_copy 61 = .ok (.iload_n 1, 1) := by decide +kernel
theorem dX6_copy_62 : decode cX6_copy 62 = .ok (.iaload, 1) := by decide +kernel
theorem dX6_copy_63 : decode cX6_copy 63 = .ok (.aload_n 0, 1) := by decide +kernel
theorem dX6_copy_64 : decode cX6_copy 64 = .ok (.getfield 25, 3) := by decide +kernel
theorem dX6_copy_67 : decode cX6_copy 67 = .ok (.iload_n 3, 1) := by decide +kernel
theorem dX6_copy_68 : decode cX6_copy 68 = .ok (.iaload, 1) := by decide +kernel
theorem dX6_copy_69 : decode cX6_copy 69 = .ok (.if_icmp .eq 6, 3) := by decide +kernel
theorem dX6_copy_72 : decode cX6_copy 72 = .ok (.bipush (-12), 2) := by decide +kernel
theorem dX6_copy_74 : decode cX6_copy 74 = .ok (.ireturn, 1) := by decide +kernel
theorem dX6_copy_75 : decode cX6_copy 75 = .ok (.iload 5, 2) := by decide +kernel
theorem dX6_copy_77 : decode cX6_copy 77 = .ok (.ifCond .lt 39, 3) := by decide +kernel
theorem dX6_copy_80 : decode cX6_copy 80 = .ok (.iload_n 2, 1) := by decide +kernel
theorem dX6_copy_81 : decode cX6_copy 81 = .ok (.ifCond .lt 35, 3) := by decide +kernel
theorem dX6_copy_84 : decode cX6_copy 84 = .ok (.iload 4, 2) := by decide +kernel
theorem dX6_copy_86 : decode cX6_copy 86 = .ok (.ifCond .lt 30, 3) := by decide +kernel
theorem dX6_copy_89 : decode cX6_copy 89 = .ok (.iload 5, 2) := by decide +kernel
theorem dX6_copy_91 : decode cX6_copy 91 = .ok (.aload_n 0, 1) := by decide +kernel
theorem dX6_copy_92 : decode cX6_copy 92 = .ok (.getfield 28, 3) := by decide +kernel
theorem dX6_copy_95 : decode cX6_copy 95 = .ok (.iload_n 1, 1) := by decide +kernel
theorem dX6_copy_96 : decode cX6_copy 96 = .ok (.iaload, 1) := by decide +kernel
theorem dX6_copy_97 : decode cX6_copy 97 = .ok (.iload_n 2, 1) := by decide +kernel
theorem dX6_copy_98 : decode cX6_copy 98 = .ok (.isub, 1) := by decide +kernel
theorem dX6_copy_99 : decode cX6_copy 99 = .ok (.if_icmp .gt 17, 3) := by decide +kernel
theorem dX6_copy_102 : decode cX6_copy 102 = .ok (.iload 5, 2) := by decide +kernel
theorem dX6_copy_104 : decode cX6_copy 104 = .ok (.aload_n 0, 1) := by decide +kernel
theorem dX6_copy_105 : decode cX6_copy 105 = .ok (.getfield 28, 3) := by decide +kernel
theorem dX6_copy_108 : decode cX6_copy 108 = .ok (.iload_n 3, 1) := by decide +kernel
theorem dX6_copy_109 : decode cX6_copy 109 = .ok (.iaload, 1) := by decide +kernel
theorem dX6_copy_110 : decode cX6_copy 110 = .ok (.iload 4, 2) := by decide +kernel
theorem dX6_copy_112 : decode cX6_copy 112 = .ok (.isub, 1) := by decide +kernel
theorem dX6_copy_113 : decode cX6_copy 113 = .ok (.if_icmp .le 6, 3) := by decide +kernel
theorem dX6_copy_116 : decode cX6_copy 116 = .ok (.bipush (-13), 2) := by decide +kernel
theorem dX6_copy_118 : decode cX6_copy 118 = .ok (.ireturn, 1) := by decide +kernel
theorem dX6_copy_119 : decode cX6_copy 119 = .ok (.iconst 0, 1) := by decide +kernel
theorem dX6_copy_120 : decode cX6_copy 120 = .ok (.istore 6, 2) := by decide +kernel
theorem dX6_copy_122 : decode cX6_copy 122 = .ok (.iload 6, 2) := by decide +kernel
theorem dX6_copy_124 : decode cX6_copy 124 = .ok (.iload 5, 2) := by decide +kernel
theorem dX6_copy_126 : decode cX6_copy 126 = .ok (.if_icmp .ge 58, 3) := by decide +kernel
theorem dX6_copy_129 : decode cX6_copy 129 = .ok (.iload_n 2, 1) := by decide +kernel
theorem dX6_copy_130 : decode cX6_copy 130 = .ok (.iload 4, 2) := by decide +kernel
theorem dX6_copy_132 : decode cX6_copy 132 = .ok (.if_icmp .le 8, 3) := by decide +kernel
theorem dX6_copy_135 : decode cX6_copy 135 = .ok (.iload 6, 2) := by decide +kernel
theorem dX6_copy_137 : decode cX6_copy 137 = .ok (.goto 10, 3) := by decide +kernel
theorem dX6_copy_140 : decode cX6_copy 140 = .ok (.iload 5, 2) := by decide +kernel
theorem dX6_copy_142 : decode cX6_copy 142 = .ok (.iconst 1, 1) := by decide +kernel
theorem dX6_copy_143 : decode cX6_copy 143 = .ok (.isub, 1) := by decide +kernel
theorem dX6_copy_144 : decode cX6_copy 144 = .ok (.iload 6, 2) := by decide +kernel
theorem dX6_copy_146 : decode cX6_copy 146 = .ok (.isub, 1) := by decide +kernel
theorem dX6_copy_147 : decode cX6_copy 147 = .ok (.istore 7, 2) := by decide +kernel
theorem dX6_copy_149 : decode cX6_copy 149 = .ok (.aload_n 0, 1) := by decide +kernel
theorem dX6_copy_150 : decode cX6_copy 150 = .ok (.getfield 31, 3) := by decide +kernel
theorem dX6_copy_153 : decode cX6_copy 153 = .ok (.bipush 100, 2) := by decide +kernel
theorem dX6_copy_155 : decode cX6_copy 155 = .ok (.iload_n 3, 1) := by decide +kernel
theorem dX6_copy_156 : decode cX6_copy 156 = .ok (.imul, 1) := by decide +kernel
theorem dX6_copy_157 : decode cX6_copy 157 = .ok (.iload 4, 2) := by decide +kernel
theorem dX6_copy_159 : decode cX6_copy 159 = .ok (.iadd, 1) := by decide +kernel
theorem dX6_copy_160 : decode cX6_copy 160 = .ok (.iload 7, 2) := by decide +kernel
theorem dX6_copy_162 : decode cX6_copy 162 = .ok (.iadd, 1) := by decide +kernel
theorem dX6_copy_163 : decode cX6_copy 163 = .ok (.aload_n 0, 1) := by decide +kernel
theorem dX6_copy_164 : decode cX6_copy 164 = .ok (.getfield 31, 3) := by decide +kernel
theorem dX6_copy_167 : decode cX6_copy 167 = .ok (.bipush 100, 2) := by decide +kernel
theorem dX6_copy_169 : decode cX6_copy 169 = .ok (.iload_n 1, 1) := by decide +kernel
theorem dX6_copy_170 : decode cX6_copy 170 = .ok (.imul, 1) := by decide +kernel
theorem dX6_copy_171 : decode cX6_copy 171 = .ok (.iload_n 2, 1) := by decide +kernel
theorem dX6_copy_172 : decode cX6_copy 172 = .ok (.iadd, 1) := by decide +kernel
theorem dX6_copy_173 : decode cX6_copy 173 = .ok (.iload 7, 2) := by decide +kernel
theorem dX6_copy_175 : decode cX6_copy 175 = .ok (.iadd, 1) := by decide +kernel
theorem dX6_copy_176 : decode cX6_copy 176 = .ok (.iaload, 1) := by decide +kernel
theorem dX6_copy_177 : decode cX6_copy 177 = .ok (.iastore, 1) := by decide +kernel
theorem dX6_copy_178 : decode cX6_copy 178 = .ok (.iinc 6 1, 3) := by decide +kernel
theorem dX6_copy_181 : decode cX6_copy 181 = .ok (.goto (-59), 3) := by decide +kernel
theorem dX6_copy_184 : decode cX6_copy 184 = .ok (.iload 5, 2) := by decide +kernel
theorem dX6_copy_186 : decode cX6_copy 186 = .ok (.ireturn, 1) := by decide +kernel
theorem dX1_costOf_0 : decode cX1_costOf 0 = .ok (.iload_n 0, 1) := by decide +kernel
theorem dX1_costOf_1 : decode cX1_costOf 1 = .ok (.tableswitch 110 1 7 #[43, 52, 62, 73, 82, 91, 100], 43) := by decide +kernel
theorem dX1_costOf_44 : decode cX1_costOf 44 = .ok (.iconst 3, 1) := by decide +kernel
theorem dX1_costOf_45 : decode cX1_costOf 45 = .ok (.iconst 0, 1) := by decide +kernel
theorem dX1_costOf_46 : decode cX1_costOf 46 = .ok (.iload_n 1, 1) := by decide +kernel
theorem dX1_costOf_47 : decode cX1_costOf 47 = .ok (.iload_n 2, 1) := by decide +kernel
theorem dX1_costOf_48 : decode cX1_costOf 48 = .ok (.invokestatic 52, 3) := by decide +kernel
theorem dX1_costOf_51 : decode cX1_costOf 51 = .ok (.imul, 1) := by decide +kernel
theorem dX1_costOf_52 : decode cX1_costOf 52 = .ok (.ireturn, 1) := by decide +kernel
theorem dX1_costOf_53 : decode cX1_costOf 53 = .ok (.iconst 0, 1) := by decide +kernel
theorem dX1_costOf_54 : decode cX1_costOf 54 = .ok (.iload_n 1, 1) := by decide +kernel
theorem dX1_costOf_55 : decode cX1_costOf 55 = .ok (.iload_n 2, 1) := by decide +kernel
theorem dX1_costOf_56 : decode cX1_costOf 56 = .ok (.invokestatic 52, 3) := by decide +kernel
theorem dX1_costOf_59 : decode cX1_costOf 59 = .ok (.bipush 50, 2) := by decide +kernel
theorem dX1_costOf_61 : decode cX1_costOf 61 = .ok (.iadd, 1) := by decide +kernel
theorem dX1_costOf_62 : decode cX1_costOf 62 = .ok (.ireturn, 1) := by decide +kernel
theorem dX1_costOf_63 : decode cX1_costOf 63 = .ok (.iconst 2, 1) := by decide +kernel
theorem dX1_costOf_64 : decode cX1_costOf 64 = .ok (.iconst 0, 1) := by decide +kernel
theorem dX1_costOf_65 : decode cX1_costOf 65 = .ok (.iload_n 1, 1) := by decide +kernel
theorem dX1_costOf_66 : decode cX1_costOf 66 = .ok (.iload_n 2, 1) := by decide +kernel
theorem dX1_costOf_67 : decode cX1_costOf 67 = .ok (.invokestatic 52, 3) := by decide +kernel
theorem dX1_costOf_70 : decode cX1_costOf 70 = .ok (.imul, 1) := by decide +kernel
theorem dX1_costOf_71 : decode cX1_costOf 71 = .ok (.iload_n 1, 1) := by decide +kernel
theorem dX1_costOf_72 : decode cX1_costOf 72 = .ok (.iadd, 1) := by decide +kernel
theorem dX1_costOf_73 : decode cX1_costOf 73 = .ok (.ireturn, 1) := by decide +kernel
theorem dX1_costOf_74 : decode cX1_costOf 74 = .ok (.iconst 1, 1) := by decide +kernel
theorem dX1_costOf_75 : decode cX1_costOf 75 = .ok (.iload_n 1, 1) := by decide +kernel
theorem dX1_costOf_76 : decode cX1_costOf 76 = .ok (.iload_n 2, 1) := by decide +kernel
theorem dX1_costOf_77 : decode cX1_costOf 77 = .ok (.invokestatic 52, 3) := by decide +kernel
theorem dX1_costOf_80 : decode cX1_costOf 80 = .ok (.iload_n 2, 1) := by decide +kernel
theorem dX1_costOf_81 : decode cX1_costOf 81 = .ok (.isub, 1) := by decide +kernel
theorem dX1_costOf_82 : decode cX1_costOf 82 = .ok (.ireturn, 1) := by decide +kernel
theorem dX1_costOf_83 : decode cX1_costOf 83 = .ok (.iconst 2, 1) := by decide +kernel
theorem dX1_costOf_84 : decode cX1_costOf 84 = .ok (.iload_n 1, 1) := by decide +kernel
theorem dX1_costOf_85 : decode cX1_costOf 85 = .ok (.iload_n 2, 1) := by decide +kernel
theorem dX1_costOf_86 : decode cX1_costOf 86 = .ok (.invokestatic 52, 3) := by decide +kernel
theorem dX1_costOf_89 : decode cX1_costOf 89 = .ok (.iconst 2, 1) := by decide +kernel
theorem dX1_costOf_90 : decode cX1_costOf 90 = .ok (.idiv, 1) := by decide +kernel
theorem dX1_costOf_91 : decode cX1_costOf 91 = .ok (.ireturn, 1) := by decide +kernel
theorem dX1_costOf_92 : decode cX1_costOf 92 = .ok (.iconst 3, 1) := by decide +kernel
theorem dX1_costOf_93 : decode cX1_costOf 93 = .ok (.iload_n 1, 1) := by decide +kernel
theorem dX1_costOf_94 : decode cX1_costOf 94 = .ok (.iload_n 2, 1) := by decide +kernel
theorem dX1_costOf_95 : decode cX1_costOf 95 = .ok (.invokestatic 52, 3) := by decide +kernel
theorem dX1_costOf_98 : decode cX1_costOf 98 = .ok (.iconst 3, 1) := by decide +kernel
theorem dX1_costOf_99 : decode cX1_costOf 99 = .ok (.idiv, 1) := by decide +kernel
theorem dX1_costOf_100 : decode cX1_costOf 100 = .ok (.ireturn, 1) := by decide +kernel
theorem dX1_costOf_101 : decode cX1_costOf 101 = .ok (.bipush 6, 2) := by decide +kernel
theorem dX1_costOf_103 : decode cX1_costOf 103 = .ok (.iload_n 1, 1) := by decide +kernel
theorem dX1_costOf_104 : decode cX1_costOf 104 = .ok (.iload_n 2, 1) := by decide +kernel
theorem dX1_costOf_105 : decode cX1_costOf 105 = .ok (.invokestatic 52, 3) := by decide +kernel
theorem dX1_costOf_108 : decode cX1_costOf 108 = .ok (.iconst 1, 1) := by decide +kernel
theorem dX1_costOf_109 : decode cX1_costOf 109 = .ok (.isub, 1) := by decide +kernel
theorem dX1_costOf_110 : decode cX1_costOf 110 = .ok (.ireturn, 1) := by decide +kernel
theorem dX1_costOf_111 : decode cX1_costOf 111 = .ok (.iload_n 2, 1) := by decide +kernel
theorem dX1_costOf_112 : decode cX1_costOf 112 = .ok (.ireturn, 1) := by decide +kernel
theorem dX1_cost_0 : decode cX1_cost 0 = .ok (.aload_n 0, 1) := by decide +kernel
theorem dX1_cost_1 : decode cX1_cost 1 = .ok (.getfield 11, 3) := by decide +kernel
theorem dX1_cost_4 : decode cX1_cost 4 = .ok (.aload_n 0, 1) := by decide +kernel
theorem dX1_cost_5 : decode cX1_cost 5 = .ok (.getfield 15, 3) := by decide +kernel
theorem dX1_cost_8 : decode cX1_cost 8 = .ok (.aload_n 0, 1) := by decide +kernel
theorem dX1_cost_9 : decode cX1_cost 9 = .ok (.getfield 18, 3) := by decide +kernel
theorem dX1_cost_12 : decode cX1_cost 12 = .ok (.invokestatic 52, 3) := by decide +kernel
theorem dX1_cost_15 : decode cX1_cost 15 = .ok (.ireturn, 1) := by decide +kernel
theorem dX5_refusalOfPiece_0 : decode cX5_refusalOfPiece 0 = .ok (.aload_n 0, 1) := by decide +kernel
theorem dX5_refusalOfPiece_1 : decode cX5_refusalOfPiece 1 = .ok (.iload_n 1, 1) := by decide +kernel
theorem dX5_refusalOfPiece_2 : decode cX5_refusalOfPiece 2 = .ok (.iconst 1, 1) := by decide +kernel
theorem dX5_refusalOfPiece_3 : decode cX5_refusalOfPiece 3 = .ok (.invokevirtual 315, 3) := by decide +kernel
theorem dX5_refusalOfPiece_6 : decode cX5_refusalOfPiece 6 = .ok (.ireturn, 1) := by decide +kernel
theorem dX5_price_0 : decode cX5_price 0 = .ok (.aload_n 0, 1) := by decide +kernel
theorem dX5_price_1 : decode cX5_price 1 = .ok (.iload_n 1, 1) := by decide +kernel
theorem dX5_price_2 : decode cX5_price 2 = .ok (.invokevirtual 297, 3) := by decide +kernel
theorem dX5_price_5 : decode cX5_price 5 = .ok (.istore_n 2, 1) := by decide +kernel
theorem dX5_price_6 : decode cX5_price 6 = .ok (.iload_n 2, 1) := by decide +kernel
theorem dX5_price_7 : decode cX5_price 7 = .ok (.ifCond .ge 7, 3) := by decide +kernel
theorem dX5_price_10 : decode cX5_price 10 = .ok (.iload_n 2, 1) := by decide +kernel
theorem dX5_price_11 : decode cX5_price 11 = .ok (.goto 15, 3) := by decide +kernel
theorem dX5_price_14 : decode cX5_price 14 = .ok (.aload_n 0, 1) := by decide +kernel
theorem dX5_price_15 : decode cX5_price 15 = .ok (.getfield 45, 3) := by decide +kernel
theorem dX5_price_18 : decode cX5_price 18 = .ok (.iload_n 1, 1) := by decide +kernel
theorem dX5_price_19 : decode cX5_price 19 = .ok (.aaload, 1) := by decide +kernel
theorem dX5_price_20 : decode cX5_price 20 = .ok (.getfield 300, 3) := by decide +kernel
theorem dX5_price_23 : decode cX5_price 23 = .ok (.invokevirtual 303, 3) := by decide +kernel
theorem dX5_price_26 : decode cX5_price 26 = .ok (.ireturn, 1) := by decide +kernel
theorem dX6_wrongKept_0 : decode cX6_wrongKept 0 = .ok (.iload_n 1, 1) := by decide +kernel
theorem dX6_wrongKept_1 : decode cX6_wrongKept 1 = .ok (.invokestatic 94, 3) := by decide +kernel
theorem dX6_wrongKept_4 : decode cX6_wrongKept 4 = .ok (.ifCond .ne 7, 3) := by decide +kernel
theorem dX6_wrongKept_7 : decode cX6_wrongKept 7 = .ok (.iconst (-1), 1) := by decide +kernel
theorem dX6_wrongKept_8 : decode cX6_wrongKept 8 = .ok (.goto 33, 3) := by decide +kernel
theorem dX6_wrongKept_11 : decode cX6_wrongKept 11 = .ok (.aload_n 0, 1) := by decide +kernel
theorem dX6_wrongKept_12 : decode cX6_wrongKept 12 = .ok (.getfield 22, 3) := by decide +kernel
theorem dX6_wrongKept_15 : decode cX6_wrongKept 15 = .ok (.iload_n 1, 1) := by decide +kernel
theorem dX6_wrongKept_16 : decode cX6_wrongKept 16 = .ok (.iaload, 1) := by decide +kernel
theorem dX6_wrongKept_17 : decode cX6_wrongKept 17 = .ok (.ifCond .ne 8, 3) := by decide +kernel
theorem dX6_wrongKept_20 : decode cX6_wrongKept 20 = .ok (.bipush (-11), 2) := by decide +kernel
theorem dX6_wrongKept_22 : decode cX6_wrongKept 22 = .ok (.goto 19, 3) := by decide +kernel
theorem dX6_wrongKept_25 : decode cX6_wrongKept 25 = .ok (.aload_n 0, 1) := by decide +kernel
theorem dX6_wrongKept_26 : decode cX6_wrongKept 26 = .ok (.getfield 22, 3) := by decide +kernel
theorem dX6_wrongKept_29 : decode cX6_wrongKept 29 = .ok (.iload_n 1, 1) := by decide +kernel
theorem dX6_wrongKept_30 : decode cX6_wrongKept 30 = .ok (.iaload, 1) := by decide +kernel
theorem dX6_wrongKept_31 : decode cX6_wrongKept 31 = .ok (.iconst 1, 1) := by decide +kernel
theorem dX6_wrongKept_32 : decode cX6_wrongKept 32 = .ok (.if_icmp .ne 7, 3) := by decide +kernel
theorem dX6_wrongKept_35 : decode cX6_wrongKept 35 = .ok (.iconst 0, 1) := by decide +kernel
theorem dX6_wrongKept_36 : decode cX6_wrongKept 36 = .ok (.goto 5, 3) := by decide +kernel
theorem dX6_wrongKept_39 : decode cX6_wrongKept 39 = .ok (.bipush (-12), 2) := by decide +kernel
theorem dX6_wrongKept_41 : decode cX6_wrongKept 41 = .ok (.ireturn, 1) := by decide +kernel
theorem dX6_price_0 : decode cX6_price 0 = .ok (.aload_n 0, 1) := by decide +kernel
theorem dX6_price_1 : decode cX6_price 1 = .ok (.iload_n 1, 1) := by decide +kernel
theorem dX6_price_2 : decode cX6_price 2 = .ok (.invokevirtual 258, 3) := by decide +kernel
theorem dX6_price_5 : decode cX6_price 5 = .ok (.istore_n 2, 1) := by decide +kernel
theorem dX6_price_6 : decode cX6_price 6 = .ok (.iload_n 2, 1) := by decide +kernel
theorem dX6_price_7 : decode cX6_price 7 = .ok (.ifCond .eq 7, 3) := by decide +kernel
theorem dX6_price_10 : decode cX6_price 10 = .ok (.iload_n 2, 1) := by decide +kernel
theorem dX6_price_11 : decode cX6_price 11 = .ok (.goto 9, 3) := by decide +kernel
theorem dX6_price_14 : decode cX6_price 14 = .ok (.aload_n 0, 1) := by decide +kernel
theorem dX6_price_15 : decode cX6_price 15 = .ok (.getfield 34, 3) := by decide +kernel
theorem dX6_price_18 : decode cX6_price 18 = .ok (.iload_n 1, 1) := by decide +kernel
theorem dX6_price_19 : decode cX6_price 19 = .ok (.iaload, 1) := by decide +kernel
theorem dX6_price_20 : decode cX6_price 20 = .ok (.ireturn, 1) := by decide +kernel
theorem dX1_numberOfFailure_0 : decode cX1_numberOfFailure 0 = .ok (.aload_n 0, 1) := by decide +kernel
theorem dX1_numberOfFailure_1 : decode cX1_numberOfFailure 1 = .ok (.getfield 11, 3) := by decide +kernel
theorem dX1_numberOfFailure_4 : decode cX1_numberOfFailure 4 = .ok (.lookupswitch 45 #[(4, 28), (7, 36)], 28) := by decide +kernel
theorem dX1_numberOfFailure_32 : decode cX1_numberOfFailure 32 = .ok (.aload_n 0, 1) := by decide +kernel
theorem dX1_numberOfFailure_33 : decode cX1_numberOfFailure 33 = .ok (.getfield 21, 3) := by decide +kernel
theorem dX1_numberOfFailure_36 : decode cX1_numberOfFailure 36 = .ok (.bipush 100, 2) := by decide +kernel
theorem dX1_numberOfFailure_38 : decode cX1_numberOfFailure 38 = .ok (.iadd, 1) := by decide +kernel
theorem dX1_numberOfFailure_39 : decode cX1_numberOfFailure 39 = .ok (.ireturn, 1) := by decide +kernel
theorem dX1_numberOfFailure_40 : decode cX1_numberOfFailure 40 = .ok (.sipush 200, 3) := by decide +kernel
theorem dX1_numberOfFailure_43 : decode cX1_numberOfFailure 43 = .ok (.aload_n 0, 1) := by decide +kernel
theorem dX1_numberOfFailure_44 : decode cX1_numberOfFailure 44 = .ok (.getfield 36, 3) := by decide +kernel
theorem dX1_numberOfFailure_47 : decode cX1_numberOfFailure 47 = .ok (.iadd, 1) := by decide +kernel
theorem dX1_numberOfFailure_48 : decode cX1_numberOfFailure 48 = .ok (.ireturn, 1) := by decide +kernel
theorem dX1_numberOfFailure_49 : decode cX1_numberOfFailure 49 = .ok (.aload_n 0, 1) := by decide +kernel
theorem dX1_numberOfFailure_50 : decode cX1_numberOfFailure 50 = .ok (.getfield 21, 3) := by decide +kernel
theorem dX1_numberOfFailure_53 : decode cX1_numberOfFailure 53 = .ok (.ireturn, 1) := by decide +kernel
theorem dX6_toss_0 : decode cX6_toss 0 = .ok (.aload_n 0, 1) := by decide +kernel
theorem dX6_toss_1 : decode cX6_toss 1 = .ok (.iload_n 1, 1) := by decide +kernel
theorem dX6_toss_2 : decode cX6_toss 2 = .ok (.invokevirtual 258, 3) := by decide +kernel
theorem dX6_toss_5 : decode cX6_toss 5 = .ok (.istore_n 2, 1) := by decide +kernel
theorem dX6_toss_6 : decode cX6_toss 6 = .ok (.iload_n 2, 1) := by decide +kernel
theorem dX6_toss_7 : decode cX6_toss 7 = .ok (.ifCond .eq 7, 3) := by decide +kernel
theorem dX6_toss_10 : decode cX6_toss 10 = .ok (.iload_n 2, 1) := by decide +kernel
theorem dX6_toss_11 : decode cX6_toss 11 = .ok (.goto 9, 3) := by decide +kernel
theorem dX6_toss_14 : decode cX6_toss 14 = .ok (.aload_n 0, 1) := by decide +kernel
theorem dX6_toss_15 : decode cX6_toss 15 = .ok (.getfield 37, 3) := by decide +kernel
theorem dX6_toss_18 : decode cX6_toss 18 = .ok (.iload_n 1, 1) := by decide +kernel
theorem dX6_toss_19 : decode cX6_toss 19 = .ok (.iaload, 1) := by decide +kernel
theorem dX6_toss_20 : decode cX6_toss 20 = .ok (.ireturn, 1) := by decide +kernel
section WALK
variable {p : Program} {l : Launch} {e : Env} {s : State} {m : MethodId} {args : Array Value} {below : List Frame} {meth : Method} {c : Code} {G : GG}

def j_X6_copy_147 (k122 : Mem → Int32 → Int32 → Int32 → Int32 → Int32 → Int32 → Prop) (post : Int32 → Mem → Prop) (M : Mem) (y0 : Int32) (x1 : Int32) (x2 : Int32) (x3 : Int32) (x4 : Int32) (x5 : Int32) (x6 : Int32) : Prop := vp_in ((((100 : Int32) * x1) + x2) + y0) 800 ∧ (vp_in ((((100 : Int32) * x3) + x4) + y0) 800 ∧ (∀ M3 : Mem, M3 = (mup M 65 ((((100 : Int32) * x3) + x4) + y0).toNatClampNeg (M 65 ((((100 : Int32) * x1) + x2) + y0).toNatClampNeg)) → (k122 M3 x1 x2 x3 x4 x5 (x6 + (1 : Int32)))))
def b_X6_copy_122 (k122 : Mem → Int32 → Int32 → Int32 → Int32 → Int32 → Int32 → Prop) (post : Int32 → Mem → Prop) (M : Mem) (x1 : Int32) (x2 : Int32) (x3 : Int32) (x4 : Int32) (x5 : Int32) (x6 : Int32) : Prop := (x5 ≤ x6 → (post x5 M)) ∧ (¬ (x5 ≤ x6) → ((x2 ≤ x4 → (j_X6_copy_147 k122 post M ((x5 - (1 : Int32)) - x6) x1 x2 x3 x4 x5 x6)) ∧ (¬ (x2 ≤ x4) → (j_X6_copy_147 k122 post M x6 x1 x2 x3 x4 x5 x6))))
def lp_X6_copy_122 (post : Int32 → Mem → Prop) : Nat → Mem → Int32 → Int32 → Int32 → Int32 → Int32 → Int32 → Prop
  | 0 => fun _ _ _ _ _ _ _ => False
  | n + 1 => fun M x1 x2 x3 x4 x5 x6 => b_X6_copy_122 (lp_X6_copy_122 post n) post M x1 x2 x3 x4 x5 x6
def j_X6_copy_116 (post : Int32 → Mem → Prop) (M : Mem) : Prop := post (-13 : Int32) M
def j_X6_copy_72 (post : Int32 → Mem → Prop) (M : Mem) : Prop := post (-12 : Int32) M
def j_X6_copy_34 (post : Int32 → Mem → Prop) (M : Mem) : Prop := post (-11 : Int32) M
def j_X6_copy_14 (post : Int32 → Mem → Prop) (M : Mem) : Prop := post (-1 : Int32) M
def q_X6_copy (M : Mem) (x1 : Int32) (x2 : Int32) (x3 : Int32) (x4 : Int32) (x5 : Int32) (post : Int32 → Mem → Prop) : Prop := q_X6_isShelf M x1 (fun r6 M7 => (r6 = 0 → (j_X6_copy_14 post M7)) ∧ (¬ (r6 = 0) → (q_X6_isShelf M7 x3 (fun r9 M10 => (r9 = 0 → (j_X6_copy_14 post M10)) ∧ (¬ (r9 = 0) → (vp_in x1 8 ∧ (((M10 62 x1.toNatClampNeg) = 0 → (j_X6_copy_34 post M10)) ∧ (¬ ((M10 62 x1.toNatClampNeg) = 0) → (vp_in x3 8 ∧ (((M10 62 x3.toNatClampNeg) = 0 → (j_X6_copy_34 post M10)) ∧ (¬ ((M10 62 x3.toNatClampNeg) = 0) → (((M10 62 x1.toNatClampNeg) = (2 : Int32) → (((M10 62 x3.toNatClampNeg) = (2 : Int32) → (((M10 63 x1.toNatClampNeg) = (M10 63 x3.toNatClampNeg) → ((x5 < 0 → (j_X6_copy_116 post M10)) ∧ (¬ (x5 < 0) → ((x2 < 0 → (j_X6_copy_116 post M10)) ∧ (¬ (x2 < 0) → ((x4 < 0 → (j_X6_copy_116 post M10)) ∧ (¬ (x4 < 0) → ((((M10 64 x1.toNatClampNeg) - x2) < x5 → (j_X6_copy_116 post M10)) ∧ (¬ (((M10 64 x1.toNatClampNeg) - x2) < x5) → ((x5 ≤ ((M10 64 x3.toNatClampNeg) - x4) → (∃ n, lp_X6_copy_122 post n M10 x1 x2 x3 x4 x5 (0 : Int32))) ∧ (¬ (x5 ≤ ((M10 64 x3.toNatClampNeg) - x4)) → (j_X6_copy_116 post M10)))))))))))) ∧ (¬ ((M10 63 x1.toNatClampNeg) = (M10 63 x3.toNatClampNeg)) → (j_X6_copy_72 post M10)))) ∧ (¬ ((M10 62 x3.toNatClampNeg) = (2 : Int32)) → (j_X6_copy_72 post M10)))) ∧ (¬ ((M10 62 x1.toNatClampNeg) = (2 : Int32)) → (j_X6_copy_72 post M10))))))))))))))
set_option maxHeartbeats 4000000 in
set_option maxRecDepth 100000 in
theorem t_X6_copy_147 (C : Cx G p s m args meth c RX6 cX6_copy 8 (some .int)) {post : Int32 → Mem → Prop} {k122 : Mem → Int32 → Int32 → Int32 → Int32 → Int32 → Int32 → Prop} (hk122 : ∀ (M : Mem) (x1 : Int32) (x2 : Int32) (x3 : Int32) (x4 : Int32) (x5 : Int32) (x6 : Int32) (H : Heap) (locs : List Loc) (ls : Array Slot), Wd G s M H locs → lv_has ls 8 [(0, .ref (ga G 57)), (1, .int x1), (2, .int x2), (3, .int x3), (4, .int x4), (5, .int x5), (6, .int x6)] → k122 M x1 x2 x3 x4 x5 x6 → W p l e (rmk 3) s m args below meth c H locs 0 0 (MQ below (va_Qi post (Qw G) (Af G s.heap.size)) args s 0 0 (Af G s.heap.size)) (F0 m 122 ls [])) (M : Mem) (y0 : Int32) (x1 : Int32) (x2 : Int32) (x3 : Int32) (x4 : Int32) (x5 : Int32) (x6 : Int32) {H : Heap} {locs : List Loc} {ls : Array Slot} (w : Wd G s M H locs) (hl : lv_has ls 8 [(0, .ref (ga G 57)), (1, .int x1), (2, .int x2), (3, .int x3), (4, .int x4), (5, .int x5), (6, .int x6)]) (h : j_X6_copy_147 k122 post M y0 x1 x2 x3 x4 x5 x6) : W p l e (rmk 3) s m args below meth c H locs 0 0 (MQ below (va_Qi post (Qw G) (Af G s.heap.size)) args s 0 0 (Af G s.heap.size)) (F0 m 147 ls [.int y0]) := by
  have hx := C.1.1
  have hb := C.1.2.1
  unfold j_X6_copy_147 at h
  refine lv_istore (lv' := [(7, .int y0), (0, .ref (ga G 57)), (1, .int x1), (2, .int x2), (3, .int x3), (4, .int x4), (5, .int x5), (6, .int x6)]) hx hb dX6_copy_147 hl (by decide) rfl (fun ls hl => ?_)
  refine lv_aload_n hx hb dX6_copy_149 rfl (lv_at hl 1 rfl) ?_
  refine gt_6_7 C w kw_5_7 dX6_copy_150 ?_
  refine lv_bipush (v := 100) hx hb dX6_copy_153 (by decide) ?_
  refine lv_iload_n hx hb dX6_copy_155 rfl (lv_at hl 4 rfl) ?_
  refine lv_imul hx hb dX6_copy_156 ?_
  refine lv_iload hx hb dX6_copy_157 (lv_at hl 5 rfl) ?_
  refine lv_iadd hx hb dX6_copy_159 ?_
  refine lv_iload hx hb dX6_copy_160 (lv_at hl 0 rfl) ?_
  refine lv_iadd hx hb dX6_copy_162 ?_
  refine lv_aload_n hx hb dX6_copy_163 rfl (lv_at hl 1 rfl) ?_
  refine gt_6_7 C w kw_5_7 dX6_copy_164 ?_
  refine lv_bipush (v := 100) hx hb dX6_copy_167 (by decide) ?_
  refine lv_iload_n hx hb dX6_copy_169 rfl (lv_at hl 2 rfl) ?_
  refine lv_imul hx hb dX6_copy_170 ?_
  refine lv_iload_n hx hb dX6_copy_171 rfl (lv_at hl 3 rfl) ?_
  refine lv_iadd hx hb dX6_copy_172 ?_
  refine lv_iload hx hb dX6_copy_173 (lv_at hl 0 rfl) ?_
  refine lv_iadd hx hb dX6_copy_175 ?_
  have hin1 := h.1
  replace h := h.2
  have hz_hin1 := in_lt hin1
  refine pw_ld C w (i := 65) (by decide) pE_65 hin1 rfl dX6_copy_176 ?_
  have hin2 := h.1
  replace h := h.2
  have hz_hin2 := in_lt hin2
  refine pw_st C w (i := 65) (by decide) (fun _ => pE_65) hin2 rfl dX6_copy_177 (fun H locs w => ?_)
  obtain ⟨M3, eM3⟩ : ∃ z : Mem, z = (mup M 65 ((((100 : Int32) * x3) + x4) + y0).toNatClampNeg (M 65 ((((100 : Int32) * x1) + x2) + y0).toNatClampNeg)) := ⟨_, rfl⟩
  replace w : Wd G s M3 H locs := by rw [eM3]; exact w
  replace h := h M3 eM3
  refine lv_iinc (v := (x6 + (1 : Int32))) (lv' := [(6, .int (x6 + (1 : Int32))), (7, .int y0), (0, .ref (ga G 57)), (1, .int x1), (2, .int x2), (3, .int x3), (4, .int x4), (5, .int x5)]) hx hb dX6_copy_178 hl (k := 7) rfl rfl (by decide) rfl (fun ls hl => ?_)
  refine lv_goto (tgt := 122) hx hb dX6_copy_181 (by decide) ?_
  exact hk122 M3 x1 x2 x3 x4 x5 (x6 + (1 : Int32)) _ _ _  w (lv_sub hl [2, 3, 4, 5, 6, 7, 0] rfl) h
set_option maxHeartbeats 4000000 in
set_option maxRecDepth 100000 in
theorem t_X6_copy_122 (C : Cx G p s m args meth c RX6 cX6_copy 8 (some .int)) {post : Int32 → Mem → Prop} : ∀ (n : Nat) (M : Mem) (x1 : Int32) (x2 : Int32) (x3 : Int32) (x4 : Int32) (x5 : Int32) (x6 : Int32) {H : Heap} {locs : List Loc} {ls : Array Slot} (w : Wd G s M H locs) (hl : lv_has ls 8 [(0, .ref (ga G 57)), (1, .int x1), (2, .int x2), (3, .int x3), (4, .int x4), (5, .int x5), (6, .int x6)]) (h : lp_X6_copy_122 post n M x1 x2 x3 x4 x5 x6), W p l e (rmk 3) s m args below meth c H locs 0 0 (MQ below (va_Qi post (Qw G) (Af G s.heap.size)) args s 0 0 (Af G s.heap.size)) (F0 m 122 ls []) := by
  have hx := C.1.1
  have hb := C.1.2.1
  intro n9
  induction n9 with
  | zero => intro M x1 x2 x3 x4 x5 x6 H locs ls w hl h; exact absurd h id
  | succ n9 ih9 =>
    intro M x1 x2 x3 x4 x5 x6 H locs ls w hl h
    have hk122 : ∀ (M : Mem) (x1 : Int32) (x2 : Int32) (x3 : Int32) (x4 : Int32) (x5 : Int32) (x6 : Int32) (H : Heap) (locs : List Loc) (ls : Array Slot), Wd G s M H locs → lv_has ls 8 [(0, .ref (ga G 57)), (1, .int x1), (2, .int x2), (3, .int x3), (4, .int x4), (5, .int x5), (6, .int x6)] → lp_X6_copy_122 post n9 M x1 x2 x3 x4 x5 x6 → W p l e (rmk 3) s m args below meth c H locs 0 0 (MQ below (va_Qi post (Qw G) (Af G s.heap.size)) args s 0 0 (Af G s.heap.size)) (F0 m 122 ls []) := fun M x1 x2 x3 x4 x5 x6 H locs ls w hl h => ih9 M x1 x2 x3 x4 x5 x6 w hl h
    replace h : b_X6_copy_122 (lp_X6_copy_122 post n9) post M x1 x2 x3 x4 x5 x6 := h
    unfold b_X6_copy_122 at h
    refine lv_iload hx hb dX6_copy_122 (lv_at hl 6 rfl) ?_
    refine lv_iload hx hb dX6_copy_124 (lv_at hl 5 rfl) ?_
    refine lv_icmp_ge (tgt := 184) hx hb dX6_copy_126 (by decide) (fun c4 => ?_) (fun c4 => ?_)
    · replace h := h.1 c4
      refine lv_iload hx hb dX6_copy_184 (lv_at hl 5 rfl) ?_
      exact ret_i C w h dX6_copy_186
    replace h := h.2 c4
    refine lv_iload_n hx hb dX6_copy_129 rfl (lv_at hl 2 rfl) ?_
    refine lv_iload hx hb dX6_copy_130 (lv_at hl 4 rfl) ?_
    refine lv_icmp_le (tgt := 140) hx hb dX6_copy_132 (by decide) (fun c5 => ?_) (fun c5 => ?_)
    · replace h := h.1 c5
      refine lv_iload hx hb dX6_copy_140 (lv_at hl 5 rfl) ?_
      refine lv_iconst (v := 1) hx hb dX6_copy_142 (by decide) ?_
      refine lv_isub hx hb dX6_copy_143 ?_
      refine lv_iload hx hb dX6_copy_144 (lv_at hl 6 rfl) ?_
      refine lv_isub hx hb dX6_copy_146 ?_
      exact t_X6_copy_147 C hk122 M ((x5 - (1 : Int32)) - x6) x1 x2 x3 x4 x5 x6  w (lv_sub hl [0, 1, 2, 3, 4, 5, 6] rfl) h
    replace h := h.2 c5
    refine lv_iload hx hb dX6_copy_135 (lv_at hl 6 rfl) ?_
    refine lv_goto (tgt := 147) hx hb dX6_copy_137 (by decide) ?_
    exact t_X6_copy_147 C hk122 M x6 x1 x2 x3 x4 x5 x6  w (lv_sub hl [0, 1, 2, 3, 4, 5, 6] rfl) h
set_option maxHeartbeats 4000000 in
set_option maxRecDepth 100000 in
theorem t_X6_copy_116 (C : Cx G p s m args meth c RX6 cX6_copy 8 (some .int)) {post : Int32 → Mem → Prop} (M : Mem) {H : Heap} {locs : List Loc} {ls : Array Slot} (w : Wd G s M H locs) (hl : lv_has ls 8 []) (h : j_X6_copy_116 post M) : W p l e (rmk 3) s m args below meth c H locs 0 0 (MQ below (va_Qi post (Qw G) (Af G s.heap.size)) args s 0 0 (Af G s.heap.size)) (F0 m 116 ls []) := by
  have hx := C.1.1
  have hb := C.1.2.1
  unfold j_X6_copy_116 at h
  refine lv_bipush (v := -13) hx hb dX6_copy_116 (by decide) ?_
  exact ret_i C w h dX6_copy_118
set_option maxHeartbeats 4000000 in
set_option maxRecDepth 100000 in
theorem t_X6_copy_72 (C : Cx G p s m args meth c RX6 cX6_copy 8 (some .int)) {post : Int32 → Mem → Prop} (M : Mem) {H : Heap} {locs : List Loc} {ls : Array Slot} (w : Wd G s M H locs) (hl : lv_has ls 8 []) (h : j_X6_copy_72 post M) : W p l e (rmk 3) s m args below meth c H locs 0 0 (MQ below (va_Qi post (Qw G) (Af G s.heap.size)) args s 0 0 (Af G s.heap.size)) (F0 m 72 ls []) := by
  have hx := C.1.1
  have hb := C.1.2.1
  unfold j_X6_copy_72 at h
  refine lv_bipush (v := -12) hx hb dX6_copy_72 (by decide) ?_
  exact ret_i C w h dX6_copy_74
set_option maxHeartbeats 4000000 in
set_option maxRecDepth 100000 in
theorem t_X6_copy_34 (C : Cx G p s m args meth c RX6 cX6_copy 8 (some .int)) {post : Int32 → Mem → Prop} (M : Mem) {H : Heap} {locs : List Loc} {ls : Array Slot} (w : Wd G s M H locs) (hl : lv_has ls 8 []) (h : j_X6_copy_34 post M) : W p l e (rmk 3) s m args below meth c H locs 0 0 (MQ below (va_Qi post (Qw G) (Af G s.heap.size)) args s 0 0 (Af G s.heap.size)) (F0 m 34 ls []) := by
  have hx := C.1.1
  have hb := C.1.2.1
  unfold j_X6_copy_34 at h
  refine lv_bipush (v := -11) hx hb dX6_copy_34 (by decide) ?_
  exact ret_i C w h dX6_copy_36
set_option maxHeartbeats 4000000 in
set_option maxRecDepth 100000 in
theorem t_X6_copy_14 (C : Cx G p s m args meth c RX6 cX6_copy 8 (some .int)) {post : Int32 → Mem → Prop} (M : Mem) {H : Heap} {locs : List Loc} {ls : Array Slot} (w : Wd G s M H locs) (hl : lv_has ls 8 []) (h : j_X6_copy_14 post M) : W p l e (rmk 3) s m args below meth c H locs 0 0 (MQ below (va_Qi post (Qw G) (Af G s.heap.size)) args s 0 0 (Af G s.heap.size)) (F0 m 14 ls []) := by
  have hx := C.1.1
  have hb := C.1.2.1
  unfold j_X6_copy_14 at h
  refine lv_iconst (v := -1) hx hb dX6_copy_14 (by decide) ?_
  exact ret_i C w h dX6_copy_15
set_option maxHeartbeats 4000000 in
set_option maxRecDepth 100000 in
theorem c_X6_copy (l : Launch) (G : GG) (hG : Ag G) (sz : Nat) (M : Mem) (x1 : Int32) (x2 : Int32) (x3 : Int32) (x4 : Int32) (x5 : Int32) (post : Int32 → Mem → Prop) (h : q_X6_copy M x1 x2 x3 x4 x5 post) : Met l yX6_copy (Cond.code yX6_copy cX6_copy 8 (some .int) :: wsL_law) (rmk 3) (va_Pc [.ref (ga G 57), .int x1, .int x2, .int x3, .int x4, .int x5] (Pw G sz M)) (va_Qi post (Qw G) (Af G sz)) 0 0 (Af G sz) := by
  refine Met.ofW (cc := cX6_copy) (maxL := 8) (ret := (some .int)) (by decide) rfl ?_
  intro p e s m args below meth c s₁ B hml hv
  obtain ⟨rfl, hsz, hE, hP⟩ := hv
  subst hsz
  have C := Cx.of (own := RX6) hG hE rfl hml B
  have w : Wd G s M s.heap [] := ⟨hP, va_S.rf⟩
  have hl := lv_entry [.ref (ga G 57), .int x1, .int x2, .int x3, .int x4, .int x5] (n := 8) (Nat.le_of_ble_eq_true rfl)
  rw [lg_entry_eq]
  generalize (lg_sl [.ref (ga G 57), .int x1, .int x2, .int x3, .int x4, .int x5] ++ List.replicate (8 - (lg_sl [.ref (ga G 57), .int x1, .int x2, .int x3, .int x4, .int x5]).length) Slot.unset).toArray = ls at hl ⊢
  have hl : lv_has ls 8 [(0, .ref (ga G 57)), (1, .int x1), (2, .int x2), (3, .int x3), (4, .int x4), (5, .int x5)] := hl
  have hx := C.1.1
  have hb := C.1.2.1
  show W p l e (rmk 3) s m _ below meth c s.heap [] 0 0 _ _
  unfold q_X6_copy at h
  refine lv_iload_n hx hb dX6_copy_0 rfl (lv_at hl 1 rfl) ?_
  refine end_i w (run_S (As := [.int x1]) C w hl.1 (c_X6_isShelf l G C.2.2.1 _ _ x1  _ h) kw_12_1 kw_1_5 kw_11_23 kw_12_0 hd_X6_isShelf ⟨by decide, by decide⟩ rfl (Nat.le_of_ble_eq_true rfl) dX6_copy_1) (fun r6 M7 H locs h w => ?_)
  refine lv_if_eq (tgt := 14) hx hb dX6_copy_4 (by decide) (fun c8 => ?_) (fun c8 => ?_)
  · replace h := h.1 c8
    exact t_X6_copy_14 C M7   w (lv_sub hl [] rfl) h
  replace h := h.2 c8
  refine lv_iload_n hx hb dX6_copy_7 rfl (lv_at hl 3 rfl) ?_
  refine end_i w (run_S (As := [.int x3]) C w hl.1 (c_X6_isShelf l G C.2.2.1 _ _ x3  _ h) kw_12_1 kw_1_5 kw_11_23 kw_12_0 hd_X6_isShelf ⟨by decide, by decide⟩ rfl (Nat.le_of_ble_eq_true rfl) dX6_copy_8) (fun r9 M10 H locs h w => ?_)
  refine lv_if_ne (tgt := 16) hx hb dX6_copy_11 (by decide) (fun c11 => ?_) (fun c11 => ?_)
  · replace h := h.2 c11
    refine lv_aload_n hx hb dX6_copy_16 rfl (lv_at hl 0 rfl) ?_
    refine gt_6_4 C w kw_5_4 dX6_copy_17 ?_
    refine lv_iload_n hx hb dX6_copy_20 rfl (lv_at hl 1 rfl) ?_
    have hin12 := h.1
    replace h := h.2
    have hz_hin12 := in_lt hin12
    refine pw_ld C w (i := 62) (by decide) pE_62 hin12 rfl dX6_copy_21 ?_
    refine lv_if_eq (tgt := 34) hx hb dX6_copy_22 (by decide) (fun c13 => ?_) (fun c13 => ?_)
    · replace h := h.1 c13
      exact t_X6_copy_34 C M10   w (lv_sub hl [] rfl) h
    replace h := h.2 c13
    refine lv_aload_n hx hb dX6_copy_25 rfl (lv_at hl 0 rfl) ?_
    refine gt_6_4 C w kw_5_4 dX6_copy_26 ?_
    refine lv_iload_n hx hb dX6_copy_29 rfl (lv_at hl 3 rfl) ?_
    have hin14 := h.1
    replace h := h.2
    have hz_hin14 := in_lt hin14
    refine pw_ld C w (i := 62) (by decide) pE_62 hin14 rfl dX6_copy_30 ?_
    refine lv_if_ne (tgt := 37) hx hb dX6_copy_31 (by decide) (fun c15 => ?_) (fun c15 => ?_)
    · replace h := h.2 c15
      refine lv_aload_n hx hb dX6_copy_37 rfl (lv_at hl 0 rfl) ?_
      refine gt_6_4 C w kw_5_4 dX6_copy_38 ?_
      refine lv_iload_n hx hb dX6_copy_41 rfl (lv_at hl 1 rfl) ?_
      refine pw_ld C w (i := 62) (by decide) pE_62 hin12 rfl dX6_copy_42 ?_
      refine lv_iconst (v := 2) hx hb dX6_copy_43 (by decide) ?_
      refine lv_icmp_ne (tgt := 72) hx hb dX6_copy_44 (by decide) (fun c16 => ?_) (fun c16 => ?_)
      · replace h := h.2 c16
        exact t_X6_copy_72 C M10   w (lv_sub hl [] rfl) h
      replace h := h.1 c16
      refine lv_aload_n hx hb dX6_copy_47 rfl (lv_at hl 0 rfl) ?_
      refine gt_6_4 C w kw_5_4 dX6_copy_48 ?_
      refine lv_iload_n hx hb dX6_copy_51 rfl (lv_at hl 3 rfl) ?_
      refine pw_ld C w (i := 62) (by decide) pE_62 hin14 rfl dX6_copy_52 ?_
      refine lv_iconst (v := 2) hx hb dX6_copy_53 (by decide) ?_
      refine lv_icmp_ne (tgt := 72) hx hb dX6_copy_54 (by decide) (fun c17 => ?_) (fun c17 => ?_)
      · replace h := h.2 c17
        exact t_X6_copy_72 C M10   w (lv_sub hl [] rfl) h
      replace h := h.1 c17
      refine lv_aload_n hx hb dX6_copy_57 rfl (lv_at hl 0 rfl) ?_
      refine gt_6_5 C w kw_5_5 dX6_copy_58 ?_
      refine lv_iload_n hx hb dX6_copy_61 rfl (lv_at hl 1 rfl) ?_
      refine pw_ld C w (i := 63) (by decide) pE_63 hin12 rfl dX6_copy_62 ?_
      refine lv_aload_n hx hb dX6_copy_63 rfl (lv_at hl 0 rfl) ?_
      refine gt_6_5 C w kw_5_5 dX6_copy_64 ?_
      refine lv_iload_n hx hb dX6_copy_67 rfl (lv_at hl 3 rfl) ?_
      refine pw_ld C w (i := 63) (by decide) pE_63 hin14 rfl dX6_copy_68 ?_
      refine lv_icmp_eq (tgt := 75) hx hb dX6_copy_69 (by decide) (fun c18 => ?_) (fun c18 => ?_)
      · replace h := h.1 c18
        refine lv_iload hx hb dX6_copy_75 (lv_at hl 5 rfl) ?_
        refine lv_if_lt (tgt := 116) hx hb dX6_copy_77 (by decide) (fun c19 => ?_) (fun c19 => ?_)
        · replace h := h.1 c19
          exact t_X6_copy_116 C M10   w (lv_sub hl [] rfl) h
        replace h := h.2 c19
        refine lv_iload_n hx hb dX6_copy_80 rfl (lv_at hl 2 rfl) ?_
        refine lv_if_lt (tgt := 116) hx hb dX6_copy_81 (by decide) (fun c20 => ?_) (fun c20 => ?_)
        · replace h := h.1 c20
          exact t_X6_copy_116 C M10   w (lv_sub hl [] rfl) h
        replace h := h.2 c20
        refine lv_iload hx hb dX6_copy_84 (lv_at hl 4 rfl) ?_
        refine lv_if_lt (tgt := 116) hx hb dX6_copy_86 (by decide) (fun c21 => ?_) (fun c21 => ?_)
        · replace h := h.1 c21
          exact t_X6_copy_116 C M10   w (lv_sub hl [] rfl) h
        replace h := h.2 c21
        refine lv_iload hx hb dX6_copy_89 (lv_at hl 5 rfl) ?_
        refine lv_aload_n hx hb dX6_copy_91 rfl (lv_at hl 0 rfl) ?_
        refine gt_6_6 C w kw_5_6 dX6_copy_92 ?_
        refine lv_iload_n hx hb dX6_copy_95 rfl (lv_at hl 1 rfl) ?_
        refine pw_ld C w (i := 64) (by decide) pE_64 hin12 rfl dX6_copy_96 ?_
        refine lv_iload_n hx hb dX6_copy_97 rfl (lv_at hl 2 rfl) ?_
        refine lv_isub hx hb dX6_copy_98 ?_
        refine lv_icmp_gt (tgt := 116) hx hb dX6_copy_99 (by decide) (fun c22 => ?_) (fun c22 => ?_)
        · replace h := h.1 c22
          exact t_X6_copy_116 C M10   w (lv_sub hl [] rfl) h
        replace h := h.2 c22
        refine lv_iload hx hb dX6_copy_102 (lv_at hl 5 rfl) ?_
        refine lv_aload_n hx hb dX6_copy_104 rfl (lv_at hl 0 rfl) ?_
        refine gt_6_6 C w kw_5_6 dX6_copy_105 ?_
        refine lv_iload_n hx hb dX6_copy_108 rfl (lv_at hl 3 rfl) ?_
        refine pw_ld C w (i := 64) (by decide) pE_64 hin14 rfl dX6_copy_109 ?_
        refine lv_iload hx hb dX6_copy_110 (lv_at hl 4 rfl) ?_
        refine lv_isub hx hb dX6_copy_112 ?_
        refine lv_icmp_le (tgt := 119) hx hb dX6_copy_113 (by decide) (fun c23 => ?_) (fun c23 => ?_)
        · replace h := h.1 c23
          refine lv_iconst (v := 0) hx hb dX6_copy_119 (by decide) ?_
          refine lv_istore (lv' := [(6, .int (0 : Int32)), (0, .ref (ga G 57)), (1, .int x1), (2, .int x2), (3, .int x3), (4, .int x4), (5, .int x5)]) hx hb dX6_copy_120 hl (by decide) rfl (fun ls hl => ?_)
          obtain ⟨n, h⟩ := h
          exact t_X6_copy_122 C n M10 x1 x2 x3 x4 x5 (0 : Int32)  w (lv_sub hl [1, 2, 3, 4, 5, 6, 0] rfl) h
        replace h := h.2 c23
        exact t_X6_copy_116 C M10   w (lv_sub hl [] rfl) h
      replace h := h.2 c18
      exact t_X6_copy_72 C M10   w (lv_sub hl [] rfl) h
    replace h := h.1 c15
    exact t_X6_copy_34 C M10   w (lv_sub hl [] rfl) h
  replace h := h.1 c11
  exact t_X6_copy_14 C M10   w (lv_sub hl [] rfl) h
def q_X1_costOf : Nat → Mem → Int32 → Int32 → Int32 → (Int32 → Mem → Prop) → Prop
  | 0 => fun _ _ _ _ _ => False
  | n + 1 => fun M x0 x1 x2 post => (x0 = (1 : Int32) → (q_X1_costOf n M (0 : Int32) x1 x2 (fun r2 M3 => post ((3 : Int32) * r2) M3))) ∧ (¬ x0 = (1 : Int32) → ((x0 = (2 : Int32) → (q_X1_costOf n M (0 : Int32) x1 x2 (fun r5 M6 => post (r5 + (50 : Int32)) M6))) ∧ (¬ x0 = (2 : Int32) → ((x0 = (3 : Int32) → (q_X1_costOf n M (0 : Int32) x1 x2 (fun r8 M9 => post (((2 : Int32) * r8) + x1) M9))) ∧ (¬ x0 = (3 : Int32) → ((x0 = (4 : Int32) → (q_X1_costOf n M (1 : Int32) x1 x2 (fun r11 M12 => post (r11 - x2) M12))) ∧ (¬ x0 = (4 : Int32) → ((x0 = (5 : Int32) → (q_X1_costOf n M (2 : Int32) x1 x2 (fun r14 M15 => post (r14 / (2 : Int32)) M15))) ∧ (¬ x0 = (5 : Int32) → ((x0 = (6 : Int32) → (q_X1_costOf n M (3 : Int32) x1 x2 (fun r17 M18 => post (r17 / (3 : Int32)) M18))) ∧ (¬ x0 = (6 : Int32) → ((x0 = (7 : Int32) → (q_X1_costOf n M (6 : Int32) x1 x2 (fun r20 M21 => post (r20 - (1 : Int32)) M21))) ∧ (¬ x0 = (7 : Int32) → (post x2 M))))))))))))))
set_option maxHeartbeats 4000000 in
set_option maxRecDepth 100000 in
theorem c_X1_costOf (l : Launch) (G : GG) (hG : Ag G) : ∀ (n sz : Nat) (M : Mem) (x0 : Int32) (x1 : Int32) (x2 : Int32) (post : Int32 → Mem → Prop) (h : q_X1_costOf n M x0 x1 x2 post), Met l yX1_costOf (Cond.code yX1_costOf cX1_costOf 3 (some .int) :: wsL_law) (rmk n) (va_Pc [.int x0, .int x1, .int x2] (Pw G sz M)) (va_Qi post (Qw G) (Af G sz)) 0 0 (Af G sz) := by
  intro n
  induction n with
  | zero => intro sz M x0 x1 x2 post h; exact absurd h id
  | succ n ih =>
  intro sz M x0 x1 x2 post h
  refine Met.ofW (cc := cX1_costOf) (maxL := 3) (ret := (some .int)) (by decide) rfl ?_
  intro p e s m args below meth c s₁ B hml hv
  obtain ⟨rfl, hsz, hE, hP⟩ := hv
  subst hsz
  have C := Cx.of (own := RX1) hG hE rfl hml B
  have w : Wd G s M s.heap [] := ⟨hP, va_S.rf⟩
  have hl := lv_entry [.int x0, .int x1, .int x2] (n := 3) (Nat.le_of_ble_eq_true rfl)
  rw [lg_entry_eq]
  generalize (lg_sl [.int x0, .int x1, .int x2] ++ List.replicate (3 - (lg_sl [.int x0, .int x1, .int x2]).length) Slot.unset).toArray = ls at hl ⊢
  have hl : lv_has ls 3 [(0, .int x0), (1, .int x1), (2, .int x2)] := hl
  have hx := C.1.1
  have hb := C.1.2.1
  show W p l e (rmk (n + 1)) s m _ below meth c s.heap [] 0 0 _ _
  replace h : (x0 = (1 : Int32) → (q_X1_costOf n M (0 : Int32) x1 x2 (fun r2 M3 => post ((3 : Int32) * r2) M3))) ∧ (¬ x0 = (1 : Int32) → ((x0 = (2 : Int32) → (q_X1_costOf n M (0 : Int32) x1 x2 (fun r5 M6 => post (r5 + (50 : Int32)) M6))) ∧ (¬ x0 = (2 : Int32) → ((x0 = (3 : Int32) → (q_X1_costOf n M (0 : Int32) x1 x2 (fun r8 M9 => post (((2 : Int32) * r8) + x1) M9))) ∧ (¬ x0 = (3 : Int32) → ((x0 = (4 : Int32) → (q_X1_costOf n M (1 : Int32) x1 x2 (fun r11 M12 => post (r11 - x2) M12))) ∧ (¬ x0 = (4 : Int32) → ((x0 = (5 : Int32) → (q_X1_costOf n M (2 : Int32) x1 x2 (fun r14 M15 => post (r14 / (2 : Int32)) M15))) ∧ (¬ x0 = (5 : Int32) → ((x0 = (6 : Int32) → (q_X1_costOf n M (3 : Int32) x1 x2 (fun r17 M18 => post (r17 / (3 : Int32)) M18))) ∧ (¬ x0 = (6 : Int32) → ((x0 = (7 : Int32) → (q_X1_costOf n M (6 : Int32) x1 x2 (fun r20 M21 => post (r20 - (1 : Int32)) M21))) ∧ (¬ x0 = (7 : Int32) → (post x2 M)))))))))))))) := h
  refine lv_iload_n hx hb dX1_costOf_0 rfl (lv_at hl 0 rfl) ?_
  by_cases c1 : x0 = (1 : Int32)
  · replace h := h.1 c1
    refine lv_tableIn (off := 43) (tgt := 44) hx hb dX1_costOf_1 (by rw [c1]; decide) (by rw [c1]; decide) (by rw [c1]; decide) (by decide) ?_
    refine lv_iconst (v := 3) hx hb dX1_costOf_44 (by decide) ?_
    refine lv_iconst (v := 0) hx hb dX1_costOf_45 (by decide) ?_
    refine lv_iload_n hx hb dX1_costOf_46 rfl (lv_at hl 1 rfl) ?_
    refine lv_iload_n hx hb dX1_costOf_47 rfl (lv_at hl 2 rfl) ?_
    refine end_i w (run_S (As := [.int (0 : Int32), .int x1, .int x2]) C w hl.1 (ih _ _ (0 : Int32) x1 x2 _ h) kw_40_1 kw_2_1 kw_39_23 kw_40_0 hd_X1_costOf ⟨Nat.le_refl _, by decide⟩ rfl (Nat.le_of_ble_eq_true rfl) dX1_costOf_48) (fun r2 M3 H locs h w => ?_)
    refine lv_imul hx hb dX1_costOf_51 ?_
    exact ret_i C w h dX1_costOf_52
  replace h := h.2 c1
  by_cases c4 : x0 = (2 : Int32)
  · replace h := h.1 c4
    refine lv_tableIn (off := 52) (tgt := 53) hx hb dX1_costOf_1 (by rw [c4]; decide) (by rw [c4]; decide) (by rw [c4]; decide) (by decide) ?_
    refine lv_iconst (v := 0) hx hb dX1_costOf_53 (by decide) ?_
    refine lv_iload_n hx hb dX1_costOf_54 rfl (lv_at hl 1 rfl) ?_
    refine lv_iload_n hx hb dX1_costOf_55 rfl (lv_at hl 2 rfl) ?_
    refine end_i w (run_S (As := [.int (0 : Int32), .int x1, .int x2]) C w hl.1 (ih _ _ (0 : Int32) x1 x2 _ h) kw_40_1 kw_2_1 kw_39_23 kw_40_0 hd_X1_costOf ⟨Nat.le_refl _, by decide⟩ rfl (Nat.le_of_ble_eq_true rfl) dX1_costOf_56) (fun r5 M6 H locs h w => ?_)
    refine lv_bipush (v := 50) hx hb dX1_costOf_59 (by decide) ?_
    refine lv_iadd hx hb dX1_costOf_61 ?_
    exact ret_i C w h dX1_costOf_62
  replace h := h.2 c4
  by_cases c7 : x0 = (3 : Int32)
  · replace h := h.1 c7
    refine lv_tableIn (off := 62) (tgt := 63) hx hb dX1_costOf_1 (by rw [c7]; decide) (by rw [c7]; decide) (by rw [c7]; decide) (by decide) ?_
    refine lv_iconst (v := 2) hx hb dX1_costOf_63 (by decide) ?_
    refine lv_iconst (v := 0) hx hb dX1_costOf_64 (by decide) ?_
    refine lv_iload_n hx hb dX1_costOf_65 rfl (lv_at hl 1 rfl) ?_
    refine lv_iload_n hx hb dX1_costOf_66 rfl (lv_at hl 2 rfl) ?_
    refine end_i w (run_S (As := [.int (0 : Int32), .int x1, .int x2]) C w hl.1 (ih _ _ (0 : Int32) x1 x2 _ h) kw_40_1 kw_2_1 kw_39_23 kw_40_0 hd_X1_costOf ⟨Nat.le_refl _, by decide⟩ rfl (Nat.le_of_ble_eq_true rfl) dX1_costOf_67) (fun r8 M9 H locs h w => ?_)
    refine lv_imul hx hb dX1_costOf_70 ?_
    refine lv_iload_n hx hb dX1_costOf_71 rfl (lv_at hl 1 rfl) ?_
    refine lv_iadd hx hb dX1_costOf_72 ?_
    exact ret_i C w h dX1_costOf_73
  replace h := h.2 c7
  by_cases c10 : x0 = (4 : Int32)
  · replace h := h.1 c10
    refine lv_tableIn (off := 73) (tgt := 74) hx hb dX1_costOf_1 (by rw [c10]; decide) (by rw [c10]; decide) (by rw [c10]; decide) (by decide) ?_
    refine lv_iconst (v := 1) hx hb dX1_costOf_74 (by decide) ?_
    refine lv_iload_n hx hb dX1_costOf_75 rfl (lv_at hl 1 rfl) ?_
    refine lv_iload_n hx hb dX1_costOf_76 rfl (lv_at hl 2 rfl) ?_
    refine end_i w (run_S (As := [.int (1 : Int32), .int x1, .int x2]) C w hl.1 (ih _ _ (1 : Int32) x1 x2 _ h) kw_40_1 kw_2_1 kw_39_23 kw_40_0 hd_X1_costOf ⟨Nat.le_refl _, by decide⟩ rfl (Nat.le_of_ble_eq_true rfl) dX1_costOf_77) (fun r11 M12 H locs h w => ?_)
    refine lv_iload_n hx hb dX1_costOf_80 rfl (lv_at hl 2 rfl) ?_
    refine lv_isub hx hb dX1_costOf_81 ?_
    exact ret_i C w h dX1_costOf_82
  replace h := h.2 c10
  by_cases c13 : x0 = (5 : Int32)
  · replace h := h.1 c13
    refine lv_tableIn (off := 82) (tgt := 83) hx hb dX1_costOf_1 (by rw [c13]; decide) (by rw [c13]; decide) (by rw [c13]; decide) (by decide) ?_
    refine lv_iconst (v := 2) hx hb dX1_costOf_83 (by decide) ?_
    refine lv_iload_n hx hb dX1_costOf_84 rfl (lv_at hl 1 rfl) ?_
    refine lv_iload_n hx hb dX1_costOf_85 rfl (lv_at hl 2 rfl) ?_
    refine end_i w (run_S (As := [.int (2 : Int32), .int x1, .int x2]) C w hl.1 (ih _ _ (2 : Int32) x1 x2 _ h) kw_40_1 kw_2_1 kw_39_23 kw_40_0 hd_X1_costOf ⟨Nat.le_refl _, by decide⟩ rfl (Nat.le_of_ble_eq_true rfl) dX1_costOf_86) (fun r14 M15 H locs h w => ?_)
    refine lv_iconst (v := 2) hx hb dX1_costOf_89 (by decide) ?_
    refine lv_idiv hx hb dX1_costOf_90 (by decide) ?_
    exact ret_i C w h dX1_costOf_91
  replace h := h.2 c13
  by_cases c16 : x0 = (6 : Int32)
  · replace h := h.1 c16
    refine lv_tableIn (off := 91) (tgt := 92) hx hb dX1_costOf_1 (by rw [c16]; decide) (by rw [c16]; decide) (by rw [c16]; decide) (by decide) ?_
    refine lv_iconst (v := 3) hx hb dX1_costOf_92 (by decide) ?_
    refine lv_iload_n hx hb dX1_costOf_93 rfl (lv_at hl 1 rfl) ?_
    refine lv_iload_n hx hb dX1_costOf_94 rfl (lv_at hl 2 rfl) ?_
    refine end_i w (run_S (As := [.int (3 : Int32), .int x1, .int x2]) C w hl.1 (ih _ _ (3 : Int32) x1 x2 _ h) kw_40_1 kw_2_1 kw_39_23 kw_40_0 hd_X1_costOf ⟨Nat.le_refl _, by decide⟩ rfl (Nat.le_of_ble_eq_true rfl) dX1_costOf_95) (fun r17 M18 H locs h w => ?_)
    refine lv_iconst (v := 3) hx hb dX1_costOf_98 (by decide) ?_
    refine lv_idiv hx hb dX1_costOf_99 (by decide) ?_
    exact ret_i C w h dX1_costOf_100
  replace h := h.2 c16
  by_cases c19 : x0 = (7 : Int32)
  · replace h := h.1 c19
    refine lv_tableIn (off := 100) (tgt := 101) hx hb dX1_costOf_1 (by rw [c19]; decide) (by rw [c19]; decide) (by rw [c19]; decide) (by decide) ?_
    refine lv_bipush (v := 6) hx hb dX1_costOf_101 (by decide) ?_
    refine lv_iload_n hx hb dX1_costOf_103 rfl (lv_at hl 1 rfl) ?_
    refine lv_iload_n hx hb dX1_costOf_104 rfl (lv_at hl 2 rfl) ?_
    refine end_i w (run_S (As := [.int (6 : Int32), .int x1, .int x2]) C w hl.1 (ih _ _ (6 : Int32) x1 x2 _ h) kw_40_1 kw_2_1 kw_39_23 kw_40_0 hd_X1_costOf ⟨Nat.le_refl _, by decide⟩ rfl (Nat.le_of_ble_eq_true rfl) dX1_costOf_105) (fun r20 M21 H locs h w => ?_)
    refine lv_iconst (v := 1) hx hb dX1_costOf_108 (by decide) ?_
    refine lv_isub hx hb dX1_costOf_109 ?_
    exact ret_i C w h dX1_costOf_110
  replace h := h.2 c19
  have nc1 := lv_neT c1 (a := 1) (by decide)
  have nc4 := lv_neT c4 (a := 2) (by decide)
  have nc7 := lv_neT c7 (a := 3) (by decide)
  have nc10 := lv_neT c10 (a := 4) (by decide)
  have nc13 := lv_neT c13 (a := 5) (by decide)
  have nc16 := lv_neT c16 (a := 6) (by decide)
  have nc19 := lv_neT c19 (a := 7) (by decide)
  refine lv_tableOut (tgt := 111) hx hb dX1_costOf_1 (by omega) (by decide) ?_
  refine lv_iload_n hx hb dX1_costOf_111 rfl (lv_at hl 2 rfl) ?_
  exact ret_i C w h dX1_costOf_112
def q_X1_cost (M : Mem) (a0 : Nat) (post : Int32 → Mem → Prop) : Prop := q_X1_costOf 4 M (M a0 0) (M a0 1) (M a0 2) (fun r1 M2 => post r1 M2)
set_option maxHeartbeats 4000000 in
set_option maxRecDepth 100000 in
theorem c_X1_cost (l : Launch) (G : GG) (hG : Ag G) (sz : Nat) (M : Mem) (a0 : Nat) (ha0 : 30 ≤ a0 ∧ a0 < 57) (post : Int32 → Mem → Prop) (h : q_X1_cost M a0 post) : Met l yX1_cost (Cond.code yX1_cost cX1_cost 1 (some .int) :: wsL_law) (rmk 5) (va_Pc [.ref (ga G a0)] (Pw G sz M)) (va_Qi post (Qw G) (Af G sz)) 0 0 (Af G sz) := by
  refine Met.ofW (cc := cX1_cost) (maxL := 1) (ret := (some .int)) (by decide) rfl ?_
  intro p e s m args below meth c s₁ B hml hv
  obtain ⟨rfl, hsz, hE, hP⟩ := hv
  subst hsz
  have C := Cx.of (own := RX1) hG hE rfl hml B
  have w : Wd G s M s.heap [] := ⟨hP, va_S.rf⟩
  have hl := lv_entry [.ref (ga G a0)] (n := 1) (Nat.le_of_ble_eq_true rfl)
  rw [lg_entry_eq]
  generalize (lg_sl [.ref (ga G a0)] ++ List.replicate (1 - (lg_sl [.ref (ga G a0)]).length) Slot.unset).toArray = ls at hl ⊢
  have hl : lv_has ls 1 [(0, .ref (ga G a0))] := hl
  have hx := C.1.1
  have hb := C.1.2.1
  show W p l e (rmk 5) s m _ below meth c s.heap [] 0 0 _ _
  unfold q_X1_cost at h
  refine lv_aload_n hx hb dX1_cost_0 rfl (lv_at hl 0 rfl) ?_
  refine gt_1_0 C w ha0 kw_3_10 dX1_cost_1 ?_
  refine lv_aload_n hx hb dX1_cost_4 rfl (lv_at hl 0 rfl) ?_
  refine gt_1_1 C w ha0 kw_3_11 dX1_cost_5 ?_
  refine lv_aload_n hx hb dX1_cost_8 rfl (lv_at hl 0 rfl) ?_
  refine gt_1_2 C w ha0 kw_3_12 dX1_cost_9 ?_
  refine end_i w (run_S (As := [.int (M a0 0), .int (M a0 1), .int (M a0 2)]) C w hl.1 (c_X1_costOf l G C.2.2.1 4 _ _ (M a0 0) (M a0 1) (M a0 2) _ h) kw_40_1 kw_2_1 kw_39_23 kw_40_0 hd_X1_costOf ⟨by decide, by decide⟩ rfl (Nat.le_of_ble_eq_true rfl) dX1_cost_12) (fun r1 M2 H locs h w => ?_)
  exact ret_i C w h dX1_cost_15
def q_X5_refusalOfPiece (M : Mem) (x1 : Int32) (post : Int32 → Mem → Prop) : Prop := q_X5_refusalOfHolding M x1 (1 : Int32) (fun r1 M2 => post r1 M2)
set_option maxHeartbeats 4000000 in
set_option maxRecDepth 100000 in
theorem c_X5_refusalOfPiece (l : Launch) (G : GG) (hG : Ag G) (sz : Nat) (M : Mem) (x1 : Int32) (post : Int32 → Mem → Prop) (h : q_X5_refusalOfPiece M x1 post) : Met l yX5_refusalOfPiece (Cond.code yX5_refusalOfPiece cX5_refusalOfPiece 2 (some .int) :: wsL_law) (rmk 4) (va_Pc [.ref (ga G 0), .int x1] (Pw G sz M)) (va_Qi post (Qw G) (Af G sz)) 0 0 (Af G sz) := by
  refine Met.ofW (cc := cX5_refusalOfPiece) (maxL := 2) (ret := (some .int)) (by decide) rfl ?_
  intro p e s m args below meth c s₁ B hml hv
  obtain ⟨rfl, hsz, hE, hP⟩ := hv
  subst hsz
  have C := Cx.of (own := RX5) hG hE rfl hml B
  have w : Wd G s M s.heap [] := ⟨hP, va_S.rf⟩
  have hl := lv_entry [.ref (ga G 0), .int x1] (n := 2) (Nat.le_of_ble_eq_true rfl)
  rw [lg_entry_eq]
  generalize (lg_sl [.ref (ga G 0), .int x1] ++ List.replicate (2 - (lg_sl [.ref (ga G 0), .int x1]).length) Slot.unset).toArray = ls at hl ⊢
  have hl : lv_has ls 2 [(0, .ref (ga G 0)), (1, .int x1)] := hl
  have hx := C.1.1
  have hb := C.1.2.1
  show W p l e (rmk 4) s m _ below meth c s.heap [] 0 0 _ _
  unfold q_X5_refusalOfPiece at h
  refine lv_aload_n hx hb dX5_refusalOfPiece_0 rfl (lv_at hl 0 rfl) ?_
  refine lv_iload_n hx hb dX5_refusalOfPiece_1 rfl (lv_at hl 1 rfl) ?_
  refine lv_iconst (v := 1) hx hb dX5_refusalOfPiece_2 (by decide) ?_
  refine end_i w (run_V (As := [.int x1, .int (1 : Int32)]) C w hl.1 (c_X5_refusalOfHolding l G C.2.2.1 _ _ x1 (1 : Int32)  _ h) kw_6_2 kw_1_2 kw_5_23 kw_6_0 kw_6_1 hd_X5_refusalOfHolding ⟨by decide, by decide⟩ (w.recv C (i := 0) (by decide) (pE_5) rfl) rfl (Nat.le_of_ble_eq_true rfl) dX5_refusalOfPiece_3) (fun r1 M2 H locs h w => ?_)
  exact ret_i C w h dX5_refusalOfPiece_6
def j_X5_price_26 (post : Int32 → Mem → Prop) (M : Mem) (y0 : Int32) : Prop := post y0 M
def q_X5_price (M : Mem) (x1 : Int32) (post : Int32 → Mem → Prop) : Prop := q_X5_refusalOfPiece M x1 (fun r1 M2 => (0 ≤ r1 → (vp_in x1 8 ∧ (q_X1_cost M2 (16 + (14 + x1.toNatClampNeg)) (fun r5 M6 => j_X5_price_26 post M6 r5)))) ∧ (¬ (0 ≤ r1) → (j_X5_price_26 post M2 r1)))
set_option maxHeartbeats 4000000 in
set_option maxRecDepth 100000 in
theorem t_X5_price_26 (C : Cx G p s m args meth c RX5 cX5_price 3 (some .int)) {post : Int32 → Mem → Prop} (M : Mem) (y0 : Int32) {H : Heap} {locs : List Loc} {ls : Array Slot} (w : Wd G s M H locs) (hl : lv_has ls 3 []) (h : j_X5_price_26 post M y0) : W p l e (rmk 6) s m args below meth c H locs 0 0 (MQ below (va_Qi post (Qw G) (Af G s.heap.size)) args s 0 0 (Af G s.heap.size)) (F0 m 26 ls [.int y0]) := by
  have hx := C.1.1
  have hb := C.1.2.1
  unfold j_X5_price_26 at h
  exact ret_i C w h dX5_price_26
set_option maxHeartbeats 4000000 in
set_option maxRecDepth 100000 in
theorem c_X5_price (l : Launch) (G : GG) (hG : Ag G) (sz : Nat) (M : Mem) (x1 : Int32) (post : Int32 → Mem → Prop) (h : q_X5_price M x1 post) : Met l yX5_price (Cond.code yX5_price cX5_price 3 (some .int) :: wsL_law) (rmk 6) (va_Pc [.ref (ga G 0), .int x1] (Pw G sz M)) (va_Qi post (Qw G) (Af G sz)) 0 0 (Af G sz) := by
  refine Met.ofW (cc := cX5_price) (maxL := 3) (ret := (some .int)) (by decide) rfl ?_
  intro p e s m args below meth c s₁ B hml hv
  obtain ⟨rfl, hsz, hE, hP⟩ := hv
  subst hsz
  have C := Cx.of (own := RX5) hG hE rfl hml B
  have w : Wd G s M s.heap [] := ⟨hP, va_S.rf⟩
  have hl := lv_entry [.ref (ga G 0), .int x1] (n := 3) (Nat.le_of_ble_eq_true rfl)
  rw [lg_entry_eq]
  generalize (lg_sl [.ref (ga G 0), .int x1] ++ List.replicate (3 - (lg_sl [.ref (ga G 0), .int x1]).length) Slot.unset).toArray = ls at hl ⊢
  have hl : lv_has ls 3 [(0, .ref (ga G 0)), (1, .int x1)] := hl
  have hx := C.1.1
  have hb := C.1.2.1
  show W p l e (rmk 6) s m _ below meth c s.heap [] 0 0 _ _
  unfold q_X5_price at h
  refine lv_aload_n hx hb dX5_price_0 rfl (lv_at hl 0 rfl) ?_
  refine lv_iload_n hx hb dX5_price_1 rfl (lv_at hl 1 rfl) ?_
  refine end_i w (run_V (As := [.int x1]) C w hl.1 (c_X5_refusalOfPiece l G C.2.2.1 _ _ x1  _ h) kw_39_19 kw_1_2 kw_39_16 kw_39_17 kw_39_18 hd_X5_refusalOfPiece ⟨by decide, by decide⟩ (w.recv C (i := 0) (by decide) (pE_5) rfl) rfl (Nat.le_of_ble_eq_true rfl) dX5_price_2) (fun r1 M2 H locs h w => ?_)
  refine lv_istore_n (lv' := [(2, .int r1), (0, .ref (ga G 0)), (1, .int x1)]) hx hb dX5_price_5 rfl hl (by decide) rfl (fun ls hl => ?_)
  refine lv_iload_n hx hb dX5_price_6 rfl (lv_at hl 0 rfl) ?_
  refine lv_if_ge (tgt := 14) hx hb dX5_price_7 (by decide) (fun c3 => ?_) (fun c3 => ?_)
  · replace h := h.1 c3
    refine lv_aload_n hx hb dX5_price_14 rfl (lv_at hl 1 rfl) ?_
    refine gt_5_6 C w kw_2_8 dX5_price_15 ?_
    refine lv_iload_n hx hb dX5_price_18 rfl (lv_at hl 2 rfl) ?_
    have hin4 := h.1
    replace h := h.2
    have hz_hin4 := in_lt hin4
    refine pw_ldS C w hin4 rfl dX5_price_19 ?_
    refine gn_3_1 C w (by omega) kn_30 dX5_price_20 ?_
    refine end_i w (run_VN (As := []) C w hl.1 (c_X1_cost l G C.2.2.1 _ _ (16 + (14 + x1.toNatClampNeg)) (by omega) _ h) kw_39_22 kw_2_1 kn_87 kw_39_20 kw_39_21 hd_X1_cost ⟨by decide, by decide⟩ (w.recv C (i := (16 + (14 + x1.toNatClampNeg))) (by omega) (pE_1 (by omega)) rfl) rfl (Nat.le_of_ble_eq_true rfl) dX5_price_23) (fun r5 M6 H locs h w => ?_)
    exact t_X5_price_26 C M6 r5  w (lv_sub hl [] rfl) h
  replace h := h.2 c3
  refine lv_iload_n hx hb dX5_price_10 rfl (lv_at hl 0 rfl) ?_
  refine lv_goto (tgt := 26) hx hb dX5_price_11 (by decide) ?_
  exact t_X5_price_26 C M2 r1  w (lv_sub hl [] rfl) h
def j_X6_wrongKept_41 (post : Int32 → Mem → Prop) (M : Mem) (y0 : Int32) : Prop := post y0 M
def q_X6_wrongKept (M : Mem) (x1 : Int32) (post : Int32 → Mem → Prop) : Prop := q_X6_isShelf M x1 (fun r1 M2 => (r1 = 0 → (j_X6_wrongKept_41 post M2 (-1 : Int32))) ∧ (¬ (r1 = 0) → (vp_in x1 8 ∧ (((M2 62 x1.toNatClampNeg) = 0 → (j_X6_wrongKept_41 post M2 (-11 : Int32))) ∧ (¬ ((M2 62 x1.toNatClampNeg) = 0) → (((M2 62 x1.toNatClampNeg) = (1 : Int32) → (j_X6_wrongKept_41 post M2 (0 : Int32))) ∧ (¬ ((M2 62 x1.toNatClampNeg) = (1 : Int32)) → (j_X6_wrongKept_41 post M2 (-12 : Int32)))))))))
set_option maxHeartbeats 4000000 in
set_option maxRecDepth 100000 in
theorem t_X6_wrongKept_41 (C : Cx G p s m args meth c RX6 cX6_wrongKept 2 (some .int)) {post : Int32 → Mem → Prop} (M : Mem) (y0 : Int32) {H : Heap} {locs : List Loc} {ls : Array Slot} (w : Wd G s M H locs) (hl : lv_has ls 2 []) (h : j_X6_wrongKept_41 post M y0) : W p l e (rmk 3) s m args below meth c H locs 0 0 (MQ below (va_Qi post (Qw G) (Af G s.heap.size)) args s 0 0 (Af G s.heap.size)) (F0 m 41 ls [.int y0]) := by
  have hx := C.1.1
  have hb := C.1.2.1
  unfold j_X6_wrongKept_41 at h
  exact ret_i C w h dX6_wrongKept_41
set_option maxHeartbeats 4000000 in
set_option maxRecDepth 100000 in
theorem c_X6_wrongKept (l : Launch) (G : GG) (hG : Ag G) (sz : Nat) (M : Mem) (x1 : Int32) (post : Int32 → Mem → Prop) (h : q_X6_wrongKept M x1 post) : Met l yX6_wrongKept (Cond.code yX6_wrongKept cX6_wrongKept 2 (some .int) :: wsL_law) (rmk 3) (va_Pc [.ref (ga G 57), .int x1] (Pw G sz M)) (va_Qi post (Qw G) (Af G sz)) 0 0 (Af G sz) := by
  refine Met.ofW (cc := cX6_wrongKept) (maxL := 2) (ret := (some .int)) (by decide) rfl ?_
  intro p e s m args below meth c s₁ B hml hv
  obtain ⟨rfl, hsz, hE, hP⟩ := hv
  subst hsz
  have C := Cx.of (own := RX6) hG hE rfl hml B
  have w : Wd G s M s.heap [] := ⟨hP, va_S.rf⟩
  have hl := lv_entry [.ref (ga G 57), .int x1] (n := 2) (Nat.le_of_ble_eq_true rfl)
  rw [lg_entry_eq]
  generalize (lg_sl [.ref (ga G 57), .int x1] ++ List.replicate (2 - (lg_sl [.ref (ga G 57), .int x1]).length) Slot.unset).toArray = ls at hl ⊢
  have hl : lv_has ls 2 [(0, .ref (ga G 57)), (1, .int x1)] := hl
  have hx := C.1.1
  have hb := C.1.2.1
  show W p l e (rmk 3) s m _ below meth c s.heap [] 0 0 _ _
  unfold q_X6_wrongKept at h
  refine lv_iload_n hx hb dX6_wrongKept_0 rfl (lv_at hl 1 rfl) ?_
  refine end_i w (run_S (As := [.int x1]) C w hl.1 (c_X6_isShelf l G C.2.2.1 _ _ x1  _ h) kw_12_1 kw_1_5 kw_11_23 kw_12_0 hd_X6_isShelf ⟨by decide, by decide⟩ rfl (Nat.le_of_ble_eq_true rfl) dX6_wrongKept_1) (fun r1 M2 H locs h w => ?_)
  refine lv_if_ne (tgt := 11) hx hb dX6_wrongKept_4 (by decide) (fun c3 => ?_) (fun c3 => ?_)
  · replace h := h.2 c3
    refine lv_aload_n hx hb dX6_wrongKept_11 rfl (lv_at hl 0 rfl) ?_
    refine gt_6_4 C w kw_5_4 dX6_wrongKept_12 ?_
    refine lv_iload_n hx hb dX6_wrongKept_15 rfl (lv_at hl 1 rfl) ?_
    have hin4 := h.1
    replace h := h.2
    have hz_hin4 := in_lt hin4
    refine pw_ld C w (i := 62) (by decide) pE_62 hin4 rfl dX6_wrongKept_16 ?_
    refine lv_if_ne (tgt := 25) hx hb dX6_wrongKept_17 (by decide) (fun c5 => ?_) (fun c5 => ?_)
    · replace h := h.2 c5
      refine lv_aload_n hx hb dX6_wrongKept_25 rfl (lv_at hl 0 rfl) ?_
      refine gt_6_4 C w kw_5_4 dX6_wrongKept_26 ?_
      refine lv_iload_n hx hb dX6_wrongKept_29 rfl (lv_at hl 1 rfl) ?_
      refine pw_ld C w (i := 62) (by decide) pE_62 hin4 rfl dX6_wrongKept_30 ?_
      refine lv_iconst (v := 1) hx hb dX6_wrongKept_31 (by decide) ?_
      refine lv_icmp_ne (tgt := 39) hx hb dX6_wrongKept_32 (by decide) (fun c6 => ?_) (fun c6 => ?_)
      · replace h := h.2 c6
        refine lv_bipush (v := -12) hx hb dX6_wrongKept_39 (by decide) ?_
        exact t_X6_wrongKept_41 C M2 (-12 : Int32)  w (lv_sub hl [] rfl) h
      replace h := h.1 c6
      refine lv_iconst (v := 0) hx hb dX6_wrongKept_35 (by decide) ?_
      refine lv_goto (tgt := 41) hx hb dX6_wrongKept_36 (by decide) ?_
      exact t_X6_wrongKept_41 C M2 (0 : Int32)  w (lv_sub hl [] rfl) h
    replace h := h.1 c5
    refine lv_bipush (v := -11) hx hb dX6_wrongKept_20 (by decide) ?_
    refine lv_goto (tgt := 41) hx hb dX6_wrongKept_22 (by decide) ?_
    exact t_X6_wrongKept_41 C M2 (-11 : Int32)  w (lv_sub hl [] rfl) h
  replace h := h.1 c3
  refine lv_iconst (v := -1) hx hb dX6_wrongKept_7 (by decide) ?_
  refine lv_goto (tgt := 41) hx hb dX6_wrongKept_8 (by decide) ?_
  exact t_X6_wrongKept_41 C M2 (-1 : Int32)  w (lv_sub hl [] rfl) h
def j_X6_price_20 (post : Int32 → Mem → Prop) (M : Mem) (y0 : Int32) : Prop := post y0 M
def q_X6_price (M : Mem) (x1 : Int32) (post : Int32 → Mem → Prop) : Prop := q_X6_wrongKept M x1 (fun r1 M2 => (r1 = 0 → (vp_in x1 8 ∧ (j_X6_price_20 post M2 (M2 66 x1.toNatClampNeg)))) ∧ (¬ (r1 = 0) → (j_X6_price_20 post M2 r1)))
set_option maxHeartbeats 4000000 in
set_option maxRecDepth 100000 in
theorem t_X6_price_20 (C : Cx G p s m args meth c RX6 cX6_price 3 (some .int)) {post : Int32 → Mem → Prop} (M : Mem) (y0 : Int32) {H : Heap} {locs : List Loc} {ls : Array Slot} (w : Wd G s M H locs) (hl : lv_has ls 3 []) (h : j_X6_price_20 post M y0) : W p l e (rmk 4) s m args below meth c H locs 0 0 (MQ below (va_Qi post (Qw G) (Af G s.heap.size)) args s 0 0 (Af G s.heap.size)) (F0 m 20 ls [.int y0]) := by
  have hx := C.1.1
  have hb := C.1.2.1
  unfold j_X6_price_20 at h
  exact ret_i C w h dX6_price_20
set_option maxHeartbeats 4000000 in
set_option maxRecDepth 100000 in
theorem c_X6_price (l : Launch) (G : GG) (hG : Ag G) (sz : Nat) (M : Mem) (x1 : Int32) (post : Int32 → Mem → Prop) (h : q_X6_price M x1 post) : Met l yX6_price (Cond.code yX6_price cX6_price 3 (some .int) :: wsL_law) (rmk 4) (va_Pc [.ref (ga G 57), .int x1] (Pw G sz M)) (va_Qi post (Qw G) (Af G sz)) 0 0 (Af G sz) := by
  refine Met.ofW (cc := cX6_price) (maxL := 3) (ret := (some .int)) (by decide) rfl ?_
  intro p e s m args below meth c s₁ B hml hv
  obtain ⟨rfl, hsz, hE, hP⟩ := hv
  subst hsz
  have C := Cx.of (own := RX6) hG hE rfl hml B
  have w : Wd G s M s.heap [] := ⟨hP, va_S.rf⟩
  have hl := lv_entry [.ref (ga G 57), .int x1] (n := 3) (Nat.le_of_ble_eq_true rfl)
  rw [lg_entry_eq]
  generalize (lg_sl [.ref (ga G 57), .int x1] ++ List.replicate (3 - (lg_sl [.ref (ga G 57), .int x1]).length) Slot.unset).toArray = ls at hl ⊢
  have hl : lv_has ls 3 [(0, .ref (ga G 57)), (1, .int x1)] := hl
  have hx := C.1.1
  have hb := C.1.2.1
  show W p l e (rmk 4) s m _ below meth c s.heap [] 0 0 _ _
  unfold q_X6_price at h
  refine lv_aload_n hx hb dX6_price_0 rfl (lv_at hl 0 rfl) ?_
  refine lv_iload_n hx hb dX6_price_1 rfl (lv_at hl 1 rfl) ?_
  refine end_i w (run_V (As := [.int x1]) C w hl.1 (c_X6_wrongKept l G C.2.2.1 _ _ x1  _ h) kw_40_9 kw_1_5 kw_40_6 kw_40_7 kw_40_8 hd_X6_wrongKept ⟨by decide, by decide⟩ (w.recv C (i := 57) (by decide) (pE_6) rfl) rfl (Nat.le_of_ble_eq_true rfl) dX6_price_2) (fun r1 M2 H locs h w => ?_)
  refine lv_istore_n (lv' := [(2, .int r1), (0, .ref (ga G 57)), (1, .int x1)]) hx hb dX6_price_5 rfl hl (by decide) rfl (fun ls hl => ?_)
  refine lv_iload_n hx hb dX6_price_6 rfl (lv_at hl 0 rfl) ?_
  refine lv_if_eq (tgt := 14) hx hb dX6_price_7 (by decide) (fun c3 => ?_) (fun c3 => ?_)
  · replace h := h.1 c3
    refine lv_aload_n hx hb dX6_price_14 rfl (lv_at hl 1 rfl) ?_
    refine gt_6_8 C w kw_5_8 dX6_price_15 ?_
    refine lv_iload_n hx hb dX6_price_18 rfl (lv_at hl 2 rfl) ?_
    have hin4 := h.1
    replace h := h.2
    have hz_hin4 := in_lt hin4
    refine pw_ld C w (i := 66) (by decide) pE_66 hin4 rfl dX6_price_19 ?_
    exact t_X6_price_20 C M2 (M2 66 x1.toNatClampNeg)  w (lv_sub hl [] rfl) h
  replace h := h.2 c3
  refine lv_iload_n hx hb dX6_price_10 rfl (lv_at hl 0 rfl) ?_
  refine lv_goto (tgt := 20) hx hb dX6_price_11 (by decide) ?_
  exact t_X6_price_20 C M2 r1  w (lv_sub hl [] rfl) h
def q_X1_numberOfFailure (M : Mem) (a0 : Nat) (post : Int32 → Mem → Prop) : Prop := ((M a0 0) = (4 : Int32) → (post ((M a0 3) + (100 : Int32)) M)) ∧ (¬ (M a0 0) = (4 : Int32) → (((M a0 0) = (7 : Int32) → (post ((200 : Int32) + (M a0 8)) M)) ∧ (¬ (M a0 0) = (7 : Int32) → (post (M a0 3) M))))
set_option maxHeartbeats 4000000 in
set_option maxRecDepth 100000 in
theorem c_X1_numberOfFailure (l : Launch) (G : GG) (hG : Ag G) (sz : Nat) (M : Mem) (a0 : Nat) (ha0 : 30 ≤ a0 ∧ a0 < 57) (post : Int32 → Mem → Prop) (h : q_X1_numberOfFailure M a0 post) : Met l yX1_numberOfFailure (Cond.code yX1_numberOfFailure cX1_numberOfFailure 1 (some .int) :: wsL_law) (rmk 1) (va_Pc [.ref (ga G a0)] (Pw G sz M)) (va_Qi post (Qw G) (Af G sz)) 0 0 (Af G sz) := by
  refine Met.ofW (cc := cX1_numberOfFailure) (maxL := 1) (ret := (some .int)) (by decide) rfl ?_
  intro p e s m args below meth c s₁ B hml hv
  obtain ⟨rfl, hsz, hE, hP⟩ := hv
  subst hsz
  have C := Cx.of (own := RX1) hG hE rfl hml B
  have w : Wd G s M s.heap [] := ⟨hP, va_S.rf⟩
  have hl := lv_entry [.ref (ga G a0)] (n := 1) (Nat.le_of_ble_eq_true rfl)
  rw [lg_entry_eq]
  generalize (lg_sl [.ref (ga G a0)] ++ List.replicate (1 - (lg_sl [.ref (ga G a0)]).length) Slot.unset).toArray = ls at hl ⊢
  have hl : lv_has ls 1 [(0, .ref (ga G a0))] := hl
  have hx := C.1.1
  have hb := C.1.2.1
  show W p l e (rmk 1) s m _ below meth c s.heap [] 0 0 _ _
  unfold q_X1_numberOfFailure at h
  refine lv_aload_n hx hb dX1_numberOfFailure_0 rfl (lv_at hl 0 rfl) ?_
  refine gt_1_0 C w ha0 kw_3_10 dX1_numberOfFailure_1 ?_
  by_cases c1 : (M a0 0) = (4 : Int32)
  · replace h := h.1 c1
    refine lv_lookup (off := 28) (tgt := 32) hx hb dX1_numberOfFailure_4 (by decide) (by rw [c1]; decide) (by decide) ?_
    refine lv_aload_n hx hb dX1_numberOfFailure_32 rfl (lv_at hl 0 rfl) ?_
    refine gt_1_3 C w ha0 kw_3_13 dX1_numberOfFailure_33 ?_
    refine lv_bipush (v := 100) hx hb dX1_numberOfFailure_36 (by decide) ?_
    refine lv_iadd hx hb dX1_numberOfFailure_38 ?_
    exact ret_i C w h dX1_numberOfFailure_39
  replace h := h.2 c1
  by_cases c2 : (M a0 0) = (7 : Int32)
  · replace h := h.1 c2
    refine lv_lookup (off := 36) (tgt := 40) hx hb dX1_numberOfFailure_4 (by decide) (by rw [c2]; decide) (by decide) ?_
    refine lv_sipush (v := 200) hx hb dX1_numberOfFailure_40 (by decide) ?_
    refine lv_aload_n hx hb dX1_numberOfFailure_43 rfl (lv_at hl 0 rfl) ?_
    refine gt_1_8 C w ha0 kw_3_18 dX1_numberOfFailure_44 ?_
    refine lv_iadd hx hb dX1_numberOfFailure_47 ?_
    exact ret_i C w h dX1_numberOfFailure_48
  replace h := h.2 c2
  refine lv_lookup (off := 45) (tgt := 49) hx hb dX1_numberOfFailure_4 (by decide) ((lv_osw c1 (by decide)).trans ((lv_osw c2 (by decide)).trans rfl)) (by decide) ?_
  refine lv_aload_n hx hb dX1_numberOfFailure_49 rfl (lv_at hl 0 rfl) ?_
  refine gt_1_3 C w ha0 kw_3_13 dX1_numberOfFailure_50 ?_
  exact ret_i C w h dX1_numberOfFailure_53
def j_X6_toss_20 (post : Int32 → Mem → Prop) (M : Mem) (y0 : Int32) : Prop := post y0 M
def q_X6_toss (M : Mem) (x1 : Int32) (post : Int32 → Mem → Prop) : Prop := q_X6_wrongKept M x1 (fun r1 M2 => (r1 = 0 → (vp_in x1 8 ∧ (j_X6_toss_20 post M2 (M2 67 x1.toNatClampNeg)))) ∧ (¬ (r1 = 0) → (j_X6_toss_20 post M2 r1)))
set_option maxHeartbeats 4000000 in
set_option maxRecDepth 100000 in
theorem t_X6_toss_20 (C : Cx G p s m args meth c RX6 cX6_toss 3 (some .int)) {post : Int32 → Mem → Prop} (M : Mem) (y0 : Int32) {H : Heap} {locs : List Loc} {ls : Array Slot} (w : Wd G s M H locs) (hl : lv_has ls 3 []) (h : j_X6_toss_20 post M y0) : W p l e (rmk 4) s m args below meth c H locs 0 0 (MQ below (va_Qi post (Qw G) (Af G s.heap.size)) args s 0 0 (Af G s.heap.size)) (F0 m 20 ls [.int y0]) := by
  have hx := C.1.1
  have hb := C.1.2.1
  unfold j_X6_toss_20 at h
  exact ret_i C w h dX6_toss_20
set_option maxHeartbeats 4000000 in
set_option maxRecDepth 100000 in
theorem c_X6_toss (l : Launch) (G : GG) (hG : Ag G) (sz : Nat) (M : Mem) (x1 : Int32) (post : Int32 → Mem → Prop) (h : q_X6_toss M x1 post) : Met l yX6_toss (Cond.code yX6_toss cX6_toss 3 (some .int) :: wsL_law) (rmk 4) (va_Pc [.ref (ga G 57), .int x1] (Pw G sz M)) (va_Qi post (Qw G) (Af G sz)) 0 0 (Af G sz) := by
  refine Met.ofW (cc := cX6_toss) (maxL := 3) (ret := (some .int)) (by decide) rfl ?_
  intro p e s m args below meth c s₁ B hml hv
  obtain ⟨rfl, hsz, hE, hP⟩ := hv
  subst hsz
  have C := Cx.of (own := RX6) hG hE rfl hml B
  have w : Wd G s M s.heap [] := ⟨hP, va_S.rf⟩
  have hl := lv_entry [.ref (ga G 57), .int x1] (n := 3) (Nat.le_of_ble_eq_true rfl)
  rw [lg_entry_eq]
  generalize (lg_sl [.ref (ga G 57), .int x1] ++ List.replicate (3 - (lg_sl [.ref (ga G 57), .int x1]).length) Slot.unset).toArray = ls at hl ⊢
  have hl : lv_has ls 3 [(0, .ref (ga G 57)), (1, .int x1)] := hl
  have hx := C.1.1
  have hb := C.1.2.1
  show W p l e (rmk 4) s m _ below meth c s.heap [] 0 0 _ _
  unfold q_X6_toss at h
  refine lv_aload_n hx hb dX6_toss_0 rfl (lv_at hl 0 rfl) ?_
  refine lv_iload_n hx hb dX6_toss_1 rfl (lv_at hl 1 rfl) ?_
  refine end_i w (run_V (As := [.int x1]) C w hl.1 (c_X6_wrongKept l G C.2.2.1 _ _ x1  _ h) kw_40_9 kw_1_5 kw_40_6 kw_40_7 kw_40_8 hd_X6_wrongKept ⟨by decide, by decide⟩ (w.recv C (i := 57) (by decide) (pE_6) rfl) rfl (Nat.le_of_ble_eq_true rfl) dX6_toss_2) (fun r1 M2 H locs h w => ?_)
  refine lv_istore_n (lv' := [(2, .int r1), (0, .ref (ga G 57)), (1, .int x1)]) hx hb dX6_toss_5 rfl hl (by decide) rfl (fun ls hl => ?_)
  refine lv_iload_n hx hb dX6_toss_6 rfl (lv_at hl 0 rfl) ?_
  refine lv_if_eq (tgt := 14) hx hb dX6_toss_7 (by decide) (fun c3 => ?_) (fun c3 => ?_)
  · replace h := h.1 c3
    refine lv_aload_n hx hb dX6_toss_14 rfl (lv_at hl 1 rfl) ?_
    refine gt_6_9 C w kw_5_9 dX6_toss_15 ?_
    refine lv_iload_n hx hb dX6_toss_18 rfl (lv_at hl 2 rfl) ?_
    have hin4 := h.1
    replace h := h.2
    have hz_hin4 := in_lt hin4
    refine pw_ld C w (i := 67) (by decide) pE_67 hin4 rfl dX6_toss_19 ?_
    exact t_X6_toss_20 C M2 (M2 67 x1.toNatClampNeg)  w (lv_sub hl [] rfl) h
  replace h := h.2 c3
  refine lv_iload_n hx hb dX6_toss_10 rfl (lv_at hl 0 rfl) ?_
  refine lv_goto (tgt := 20) hx hb dX6_toss_11 (by decide) ?_
  exact t_X6_toss_20 C M2 r1  w (lv_sub hl [] rfl) h
end WALK
