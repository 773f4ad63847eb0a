theorem dX6_bridge_0 : decode cX6_bridge 0 = .ok (.iload_n 1, 1) := by decide +kernel
theorem dX6_bridge_1 : decode cX6_bridge 1 = .ok (.i2l, 1) := by decide +kernel
theorem dX6_bridge_2 : decode cX6_bridge 2 = .ok (.lconst 0, 1) := by decide +kernel
theorem dX6_bridge_3 : decode cX6_bridge 3 = .ok (.ldc2_w 51, 3) := by decide +kernel
theorem dX6_bridge_6 : decode cX6_bridge 6 = .ok (.invokestatic 47, 3) := by decide +kernel
theorem dX6_bridge_9 : decode cX6_bridge 9 = .ok (.ifCond .eq 15, 3) := by decide +kernel
theorem dX6_bridge_12 : decode cX6_bridge 12 = .ok (.iload_n 2, 1) := by decide +kernel
theorem dX6_bridge_13 : decode cX6_bridge 13 = .ok (.i2l, 1) := by decide +kernel
theorem dX6_bridge_14 : decode cX6_bridge 14 = .ok (.lconst 1, 1) := by decide +kernel
theorem dX6_bridge_15 : decode cX6_bridge 15 = .ok (.ldc2_w 88, 3) := by decide +kernel
theorem dX6_bridge_18 : decode cX6_bridge 18 = .ok (.invokestatic 47, 3) := by decide +kernel
theorem dX6_bridge_21 : decode cX6_bridge 21 = .ok (.ifCond .ne 6, 3) := by decide +kernel
theorem dX6_bridge_24 : decode cX6_bridge 24 = .ok (.ldc 213, 2) := by decide +kernel
theorem dX6_bridge_26 : decode cX6_bridge 26 = .ok (.ireturn, 1) := by decide +kernel
theorem dX6_bridge_27 : decode cX6_bridge 27 = .ok (.aload_n 0, 1) := by decide +kernel
theorem dX6_bridge_28 : decode cX6_bridge 28 = .ok (.invokevirtual 170, 3) := by decide +kernel
theorem dX6_bridge_31 : decode cX6_bridge 31 = .ok (.ifCond .ne 6, 3) := by decide +kernel
theorem dX6_bridge_34 : decode cX6_bridge 34 = .ok (.ldc 214, 2) := by decide +kernel
theorem dX6_bridge_36 : decode cX6_bridge 36 = .ok (.ireturn, 1) := by decide +kernel
theorem dX6_bridge_37 : decode cX6_bridge 37 = .ok (.aload_n 0, 1) := by decide +kernel
theorem dX6_bridge_38 : decode cX6_bridge 38 = .ok (.aload_n 0, 1) := by decide +kernel
theorem dX6_bridge_39 : decode cX6_bridge 39 = .ok (.invokevirtual 173, 3) := by decide +kernel
theorem dX6_bridge_42 : decode cX6_bridge 42 = .ok (.invokevirtual 176, 3) := by decide +kernel
theorem dX6_bridge_45 : decode cX6_bridge 45 = .ok (.aload_n 0, 1) := by decide +kernel
theorem dX6_bridge_46 : decode cX6_bridge 46 = .ok (.invokevirtual 201, 3) := by decide +kernel
theorem dX6_bridge_49 : decode cX6_bridge 49 = .ok (.istore_n 3, 1) := by decide +kernel
theorem dX6_bridge_50 : decode cX6_bridge 50 = .ok (.iconst 0, 1) := by decide +kernel
theorem dX6_bridge_51 : decode cX6_bridge 51 = .ok (.istore 4, 2) := by decide +kernel
theorem dX6_bridge_53 : decode cX6_bridge 53 = .ok (.iconst 0, 1) := by decide +kernel
theorem dX6_bridge_54 : decode cX6_bridge 54 = .ok (.istore 5, 2) := by decide +kernel
theorem dX6_bridge_56 : decode cX6_bridge 56 = .ok (.iload 5, 2) := by decide +kernel
theorem dX6_bridge_58 : decode cX6_bridge 58 = .ok (.aload_n 0, 1) := by decide +kernel
theorem dX6_bridge_59 : decode cX6_bridge 59 = .ok (.getfield 9, 3) := by decide +kernel
theorem dX6_bridge_62 : decode cX6_bridge 62 = .ok (.iconst 0, 1) := by decide +kernel
theorem dX6_bridge_63 : decode cX6_bridge 63 = .ok (.iaload, 1) := by decide +kernel
theorem dX6_bridge_64 : decode cX6_bridge 64 = .ok (.if_icmp .ge 39, 3) := by decide +kernel
theorem dX6_bridge_67 : decode cX6_bridge 67 = .ok (.iload 4, 2) := by decide +kernel
theorem dX6_bridge_69 : decode cX6_bridge 69 = .ok (.aload_n 0, 1) := by decide +kernel
theorem dX6_bridge_70 : decode cX6_bridge 70 = .ok (.iload 5, 2) := by decide +kernel
theorem dX6_bridge_72 : decode cX6_bridge 72 = .ok (.iconst 2, 1) := by decide +kernel
theorem dX6_bridge_73 : decode cX6_bridge 73 = .ok (.invokevirtual 111, 3) := by decide +kernel
theorem dX6_bridge_76 : decode cX6_bridge 76 = .ok (.aload_n 0, 1) := by decide +kernel
theorem dX6_bridge_77 : decode cX6_bridge 77 = .ok (.iload 5, 2) := by decide +kernel
theorem dX6_bridge_79 : decode cX6_bridge 79 = .ok (.iconst 0, 1) := by decide +kernel
theorem dX6_bridge_80 : decode cX6_bridge 80 = .ok (.invokevirtual 111, 3) := by decide +kernel
theorem dX6_bridge_83 : decode cX6_bridge 83 = .ok (.aload_n 0, 1) := by decide +kernel
theorem dX6_bridge_84 : decode cX6_bridge 84 = .ok (.iload 5, 2) := by decide +kernel
theorem dX6_bridge_86 : decode cX6_bridge 86 = .ok (.iconst 1, 1) := by decide +kernel
theorem dX6_bridge_87 : decode cX6_bridge 87 = .ok (.invokevirtual 111, 3) := by decide +kernel
theorem dX6_bridge_90 : decode cX6_bridge 90 = .ok (.invokestatic 123, 3) := by decide +kernel
theorem dX6_bridge_93 : decode cX6_bridge 93 = .ok (.imul, 1) := by decide +kernel
theorem dX6_bridge_94 : decode cX6_bridge 94 = .ok (.iadd, 1) := by decide +kernel
theorem dX6_bridge_95 : decode cX6_bridge 95 = .ok (.istore 4, 2) := by decide +kernel
theorem dX6_bridge_97 : decode cX6_bridge 97 = .ok (.iinc 5 1, 3) := by decide +kernel
theorem dX6_bridge_100 : decode cX6_bridge 100 = .ok (.goto (-44), 3) := by decide +kernel
theorem dX6_bridge_103 : decode cX6_bridge 103 = .ok (.aload_n 0, 1) := by decide +kernel
theorem dX6_bridge_104 : decode cX6_bridge 104 = .ok (.dup, 1) := by decide +kernel
theorem dX6_bridge_105 : decode cX6_bridge 105 = .ok (.getfield 138, 3) := by decide +kernel
theorem dX6_bridge_108 : decode cX6_bridge 108 = .ok (.iload_n 2, 1) := by decide +kernel
theorem dX6_bridge_109 : decode cX6_bridge 109 = .ok (.iadd, 1) := by decide +kernel
theorem dX6_bridge_110 : decode cX6_bridge 110 = .ok (.putfield 138, 3) := by decide +kernel
theorem dX6_bridge_113 : decode cX6_bridge 113 = .ok (.aload_n 0, 1) := by decide +kernel
theorem dX6_bridge_114 : decode cX6_bridge 114 = .ok (.dup, 1) := by decide +kernel
theorem dX6_bridge_115 : decode cX6_bridge 115 = .ok (.getfield 141, 3) := by decide +kernel
theorem dX6_bridge_118 : decode cX6_bridge 118 = .ok (.iload_n 2, 1) := by decide +kernel
theorem dX6_bridge_119 : decode cX6_bridge 119 = .ok (.iload_n 1, 1) := by decide +kernel
theorem dX6_bridge_120 : decode cX6_bridge 120 = .ok (.iconst 0, 1) := by decide +kernel
theorem dX6_bridge_121 : decode cX6_bridge 121 = .ok (.invokestatic 120, 3) := by decide +kernel
theorem dX6_bridge_124 : decode cX6_bridge 124 = .ok (.imul, 1) := by decide +kernel
theorem dX6_bridge_125 : decode cX6_bridge 125 = .ok (.iadd, 1) := by decide +kernel
theorem dX6_bridge_126 : decode cX6_bridge 126 = .ok (.putfield 141, 3) := by decide +kernel
theorem dX6_bridge_129 : decode cX6_bridge 129 = .ok (.aload_n 0, 1) := by decide +kernel
theorem dX6_bridge_130 : decode cX6_bridge 130 = .ok (.iload 4, 2) := by decide +kernel
theorem dX6_bridge_132 : decode cX6_bridge 132 = .ok (.iload_n 2, 1) := by decide +kernel
theorem dX6_bridge_133 : decode cX6_bridge 133 = .ok (.iload_n 1, 1) := by decide +kernel
theorem dX6_bridge_134 : decode cX6_bridge 134 = .ok (.iconst 0, 1) := by decide +kernel
theorem dX6_bridge_135 : decode cX6_bridge 135 = .ok (.invokestatic 123, 3) := by decide +kernel
theorem dX6_bridge_138 : decode cX6_bridge 138 = .ok (.imul, 1) := by decide +kernel
theorem dX6_bridge_139 : decode cX6_bridge 139 = .ok (.iadd, 1) := by decide +kernel
theorem dX6_bridge_140 : decode cX6_bridge 140 = .ok (.putfield 144, 3) := by decide +kernel
theorem dX6_bridge_143 : decode cX6_bridge 143 = .ok (.aload_n 0, 1) := by decide +kernel
theorem dX6_bridge_144 : decode cX6_bridge 144 = .ok (.invokevirtual 147, 3) := by decide +kernel
theorem dX6_bridge_147 : decode cX6_bridge 147 = .ok (.iload_n 3, 1) := by decide +kernel
theorem dX6_bridge_148 : decode cX6_bridge 148 = .ok (.aload_n 0, 1) := by decide +kernel
theorem dX6_bridge_149 : decode cX6_bridge 149 = .ok (.invokevirtual 201, 3) := by decide +kernel
theorem dX6_bridge_152 : decode cX6_bridge 152 = .ok (.isub, 1) := by decide +kernel
theorem dX6_bridge_153 : decode cX6_bridge 153 = .ok (.ireturn, 1) := by decide +kernel
theorem dX5_fouls_0 : decode cX5_fouls 0 = .ok (.aload_n 0, 1) := by decide +kernel
theorem dX5_fouls_1 : decode cX5_fouls 1 = .ok (.invokevirtual 110, 3) := by decide +kernel
theorem dX5_fouls_4 : decode cX5_fouls 4 = .ok (.ifCond .ne 6, 3) := by decide +kernel
theorem dX5_fouls_7 : decode cX5_fouls 7 = .ok (.bipush (-3), 2) := by decide +kernel
theorem dX5_fouls_9 : decode cX5_fouls 9 = .ok (.ireturn, 1) := by decide +kernel
theorem dX5_fouls_10 : decode cX5_fouls 10 = .ok (.aload_n 0, 1) := by decide +kernel
theorem dX5_fouls_11 : decode cX5_fouls 11 = .ok (.getfield 25, 3) := by decide +kernel
theorem dX5_fouls_14 : decode cX5_fouls 14 = .ok (.invokevirtual 120, 3) := by decide +kernel
theorem dX5_fouls_17 : decode cX5_fouls 17 = .ok (.aload_n 0, 1) := by decide +kernel
theorem dX5_fouls_18 : decode cX5_fouls 18 = .ok (.getfield 10, 3) := by decide +kernel
theorem dX5_fouls_21 : decode cX5_fouls 21 = .ok (.getfield 106, 3) := by decide +kernel
theorem dX5_fouls_24 : decode cX5_fouls 24 = .ok (.iconst 3, 1) := by decide +kernel
theorem dX5_fouls_25 : decode cX5_fouls 25 = .ok (.iaload, 1) := by decide +kernel
theorem dX5_fouls_26 : decode cX5_fouls 26 = .ok (.if_icmp .le 7, 3) := by decide +kernel
theorem dX5_fouls_29 : decode cX5_fouls 29 = .ok (.iconst 1, 1) := by decide +kernel
theorem dX5_fouls_30 : decode cX5_fouls 30 = .ok (.goto 4, 3) := by decide +kernel
theorem dX5_fouls_33 : decode cX5_fouls 33 = .ok (.iconst 0, 1) := by decide +kernel
theorem dX5_fouls_34 : decode cX5_fouls 34 = .ok (.ireturn, 1) := by decide +kernel
theorem dX6_isFoul_0 : decode cX6_isFoul 0 = .ok (.aload_n 0, 1) := by decide +kernel
theorem dX6_isFoul_1 : decode cX6_isFoul 1 = .ok (.aload_n 0, 1) := by decide +kernel
theorem dX6_isFoul_2 : decode cX6_isFoul 2 = .ok (.invokevirtual 173, 3) := by decide +kernel
theorem dX6_isFoul_5 : decode cX6_isFoul 5 = .ok (.invokevirtual 176, 3) := by decide +kernel
theorem dX6_isFoul_8 : decode cX6_isFoul 8 = .ok (.aload_n 0, 1) := by decide +kernel
theorem dX6_isFoul_9 : decode cX6_isFoul 9 = .ok (.invokevirtual 159, 3) := by decide +kernel
theorem dX6_isFoul_12 : decode cX6_isFoul 12 = .ok (.aload_n 0, 1) := by decide +kernel
theorem dX6_isFoul_13 : decode cX6_isFoul 13 = .ok (.getfield 9, 3) := by decide +kernel
theorem dX6_isFoul_16 : decode cX6_isFoul 16 = .ok (.bipush 8, 2) := by decide +kernel
theorem dX6_isFoul_18 : decode cX6_isFoul 18 = .ok (.iaload, 1) := by decide +kernel
theorem dX6_isFoul_19 : decode cX6_isFoul 19 = .ok (.if_icmp .le 7, 3) := by decide +kernel
theorem dX6_isFoul_22 : decode cX6_isFoul 22 = .ok (.iconst 1, 1) := by decide +kernel
theorem dX6_isFoul_23 : decode cX6_isFoul 23 = .ok (.goto 4, 3) := by decide +kernel
theorem dX6_isFoul_26 : decode cX6_isFoul 26 = .ok (.iconst 0, 1) := by decide +kernel
theorem dX6_isFoul_27 : decode cX6_isFoul 27 = .ok (.ireturn, 1) := by decide +kernel
theorem dX6_fouls_0 : decode cX6_fouls 0 = .ok (.aload_n 0, 1) := by decide +kernel
theorem dX6_fouls_1 : decode cX6_fouls 1 = .ok (.invokevirtual 170, 3) := by decide +kernel
theorem dX6_fouls_4 : decode cX6_fouls 4 = .ok (.ifCond .ne 8, 3) := by decide +kernel
theorem dX6_fouls_7 : decode cX6_fouls 7 = .ok (.bipush (-3), 2) := by decide +kernel
theorem dX6_fouls_9 : decode cX6_fouls 9 = .ok (.goto 15, 3) := by decide +kernel
theorem dX6_fouls_12 : decode cX6_fouls 12 = .ok (.aload_n 0, 1) := by decide +kernel
theorem dX6_fouls_13 : decode cX6_fouls 13 = .ok (.invokevirtual 215, 3) := by decide +kernel
theorem dX6_fouls_16 : decode cX6_fouls 16 = .ok (.ifCond .eq 7, 3) := by decide +kernel
theorem dX6_fouls_19 : decode cX6_fouls 19 = .ok (.iconst 1, 1) := by decide +kernel
theorem dX6_fouls_20 : decode cX6_fouls 20 = .ok (.goto 4, 3) := by decide +kernel
theorem dX6_fouls_23 : decode cX6_fouls 23 = .ok (.iconst 0, 1) := by decide +kernel
theorem dX6_fouls_24 : decode cX6_fouls 24 = .ok (.ireturn, 1) := by decide +kernel
theorem dX5_fewestTakenIn_0 : decode cX5_fewestTakenIn 0 = .ok (.aload_n 0, 1) := by decide +kernel
theorem dX5_fewestTakenIn_1 : decode cX5_fewestTakenIn 1 = .ok (.getfield 25, 3) := by decide +kernel
theorem dX5_fewestTakenIn_4 : decode cX5_fewestTakenIn 4 = .ok (.getfield 115, 3) := by decide +kernel
theorem dX5_fewestTakenIn_7 : decode cX5_fewestTakenIn 7 = .ok (.istore_n 3, 1) := by decide +kernel
theorem dX5_fewestTakenIn_8 : decode cX5_fewestTakenIn 8 = .ok (.bipush (-4), 2) := by decide +kernel
theorem dX5_fewestTakenIn_10 : decode cX5_fewestTakenIn 10 = .ok (.istore 4, 2) := by decide +kernel
theorem dX5_fewestTakenIn_12 : decode cX5_fewestTakenIn 12 = .ok (.iconst 1, 1) := by decide +kernel
theorem dX5_fewestTakenIn_13 : decode cX5_fewestTakenIn 13 = .ok (.istore 5, 2) := by decide +kernel
theorem dX5_fewestTakenIn_15 : decode cX5_fewestTakenIn 15 = .ok (.iload 5, 2) := by decide +kernel
theorem dX5_fewestTakenIn_17 : decode cX5_fewestTakenIn 17 = .ok (.aload_n 1, 1) := by decide +kernel
theorem dX5_fewestTakenIn_18 : decode cX5_fewestTakenIn 18 = .ok (.getfield 78, 3) := by decide +kernel
theorem dX5_fewestTakenIn_21 : decode cX5_fewestTakenIn 21 = .ok (.if_icmp .gt 47, 3) := by decide +kernel
theorem dX5_fewestTakenIn_24 : decode cX5_fewestTakenIn 24 = .ok (.iload 4, 2) := by decide +kernel
theorem dX5_fewestTakenIn_26 : decode cX5_fewestTakenIn 26 = .ok (.bipush (-4), 2) := by decide +kernel
theorem dX5_fewestTakenIn_28 : decode cX5_fewestTakenIn 28 = .ok (.if_icmp .ne 40, 3) := by decide +kernel
theorem dX5_fewestTakenIn_31 : decode cX5_fewestTakenIn 31 = .ok (.aload_n 0, 1) := by decide +kernel
theorem dX5_fewestTakenIn_32 : decode cX5_fewestTakenIn 32 = .ok (.getfield 25, 3) := by decide +kernel
theorem dX5_fewestTakenIn_35 : decode cX5_fewestTakenIn 35 = .ok (.iload_n 3, 1) := by decide +kernel
theorem dX5_fewestTakenIn_36 : decode cX5_fewestTakenIn 36 = .ok (.iload 5, 2) := by decide +kernel
theorem dX5_fewestTakenIn_38 : decode cX5_fewestTakenIn 38 = .ok (.aload_n 1, 1) := by decide +kernel
theorem dX5_fewestTakenIn_39 : decode cX5_fewestTakenIn 39 = .ok (.getfield 84, 3) := by decide +kernel
theorem dX5_fewestTakenIn_42 : decode cX5_fewestTakenIn 42 = .ok (.imul, 1) := by decide +kernel
theorem dX5_fewestTakenIn_43 : decode cX5_fewestTakenIn 43 = .ok (.isub, 1) := by decide +kernel
theorem dX5_fewestTakenIn_44 : decode cX5_fewestTakenIn 44 = .ok (.putfield 115, 3) := by decide +kernel
theorem dX5_fewestTakenIn_47 : decode cX5_fewestTakenIn 47 = .ok (.aload_n 0, 1) := by decide +kernel
theorem dX5_fewestTakenIn_48 : decode cX5_fewestTakenIn 48 = .ok (.getfield 25, 3) := by decide +kernel
theorem dX5_fewestTakenIn_51 : decode cX5_fewestTakenIn 51 = .ok (.invokevirtual 120, 3) := by decide +kernel
theorem dX5_fewestTakenIn_54 : decode cX5_fewestTakenIn 54 = .ok (.iload_n 2, 1) := by decide +kernel
theorem dX5_fewestTakenIn_55 : decode cX5_fewestTakenIn 55 = .ok (.if_icmp .gt 7, 3) := by decide +kernel
theorem dX5_fewestTakenIn_58 : decode cX5_fewestTakenIn 58 = .ok (.iload 5, 2) := by decide +kernel
theorem dX5_fewestTakenIn_60 : decode cX5_fewestTakenIn 60 = .ok (.istore 4, 2) := by decide +kernel
theorem dX5_fewestTakenIn_62 : decode cX5_fewestTakenIn 62 = .ok (.iinc 5 1, 3) := by decide +kernel
theorem dX5_fewestTakenIn_65 : decode cX5_fewestTakenIn 65 = .ok (.goto (-50), 3) := by decide +kernel
theorem dX5_fewestTakenIn_68 : decode cX5_fewestTakenIn 68 = .ok (.aload_n 0, 1) := by decide +kernel
theorem dX5_fewestTakenIn_69 : decode cX5_fewestTakenIn 69 = .ok (.getfield 25, 3) := by decide +kernel
theorem dX5_fewestTakenIn_72 : decode cX5_fewestTakenIn 72 = .ok (.iload_n 3, 1) := by decide +kernel
theorem dX5_fewestTakenIn_73 : decode cX5_fewestTakenIn 73 = .ok (.putfield 115, 3) := by decide +kernel
theorem dX5_fewestTakenIn_76 : decode cX5_fewestTakenIn 76 = .ok (.iload 4, 2) := by decide +kernel
theorem dX5_fewestTakenIn_78 : decode cX5_fewestTakenIn 78 = .ok (.ireturn, 1) := by decide +kernel
theorem dX5_takeIn_0 : decode cX5_takeIn 0 = .ok (.aload_n 0, 1) := by decide +kernel
theorem dX5_takeIn_1 : decode cX5_takeIn 1 = .ok (.invokevirtual 110, 3) := by decide +kernel
theorem dX5_takeIn_4 : decode cX5_takeIn 4 = .ok (.ifCond .ne 6, 3) := by decide +kernel
theorem dX5_takeIn_7 : decode cX5_takeIn 7 = .ok (.bipush (-3), 2) := by decide +kernel
theorem dX5_takeIn_9 : decode cX5_takeIn 9 = .ok (.ireturn, 1) := by decide +kernel
theorem dX5_takeIn_10 : decode cX5_takeIn 10 = .ok (.aload_n 0, 1) := by decide +kernel
theorem dX5_takeIn_11 : decode cX5_takeIn 11 = .ok (.getfield 10, 3) := by decide +kernel
theorem dX5_takeIn_14 : decode cX5_takeIn 14 = .ok (.getfield 106, 3) := by decide +kernel
theorem dX5_takeIn_17 : decode cX5_takeIn 17 = .ok (.iconst 3, 1) := by decide +kernel
theorem dX5_takeIn_18 : decode cX5_takeIn 18 = .ok (.iaload, 1) := by decide +kernel
theorem dX5_takeIn_19 : decode cX5_takeIn 19 = .ok (.istore_n 1, 1) := by decide +kernel
theorem dX5_takeIn_20 : decode cX5_takeIn 20 = .ok (.aload_n 0, 1) := by decide +kernel
theorem dX5_takeIn_21 : decode cX5_takeIn 21 = .ok (.getfield 25, 3) := by decide +kernel
theorem dX5_takeIn_24 : decode cX5_takeIn 24 = .ok (.invokevirtual 120, 3) := by decide +kernel
theorem dX5_takeIn_27 : decode cX5_takeIn 27 = .ok (.iload_n 1, 1) := by decide +kernel
theorem dX5_takeIn_28 : decode cX5_takeIn 28 = .ok (.if_icmp .gt 5, 3) := by decide +kernel
theorem dX5_takeIn_31 : decode cX5_takeIn 31 = .ok (.iconst 0, 1) := by decide +kernel
theorem dX5_takeIn_32 : decode cX5_takeIn 32 = .ok (.ireturn, 1) := by decide +kernel
theorem dX5_takeIn_33 : decode cX5_takeIn 33 = .ok (.bipush (-4), 2) := by decide +kernel
theorem dX5_takeIn_35 : decode cX5_takeIn 35 = .ok (.istore_n 2, 1) := by decide +kernel
theorem dX5_takeIn_36 : decode cX5_takeIn 36 = .ok (.bipush 100, 2) := by decide +kernel
theorem dX5_takeIn_38 : decode cX5_takeIn 38 = .ok (.istore_n 3, 1) := by decide +kernel
theorem dX5_takeIn_39 : decode cX5_takeIn 39 = .ok (.iconst 0, 1) := by decide +kernel
theorem dX5_takeIn_40 : decode cX5_takeIn 40 = .ok (.istore 4, 2) := by decide +kernel
theorem dX5_takeIn_42 : decode cX5_takeIn 42 = .ok (.iload 4, 2) := by decide +kernel
theorem dX5_takeIn_44 : decode cX5_takeIn 44 = .ok (.aload_n 0, 1) := by decide +kernel
theorem dX5_takeIn_45 : decode cX5_takeIn 45 = .ok (.getfield 10, 3) := by decide +kernel
theorem dX5_takeIn_48 : decode cX5_takeIn 48 = .ok (.getfield 162, 3) := by decide +kernel
theorem dX5_takeIn_51 : decode cX5_takeIn 51 = .ok (.if_icmp .ge 51, 3) := by decide +kernel
theorem dX5_takeIn_54 : decode cX5_takeIn 54 = .ok (.aload_n 0, 1) := by decide +kernel
theorem dX5_takeIn_55 : decode cX5_takeIn 55 = .ok (.aload_n 0, 1) := by decide +kernel
theorem dX5_takeIn_56 : decode cX5_takeIn 56 = .ok (.getfield 10, 3) := by decide +kernel
theorem dX5_takeIn_59 : decode cX5_takeIn 59 = .ok (.getfield 70, 3) := by decide +kernel
theorem dX5_takeIn_62 : decode cX5_takeIn 62 = .ok (.iload 4, 2) := by decide +kernel
theorem dX5_takeIn_64 : decode cX5_takeIn 64 = .ok (.aaload, 1) := by decide +kernel
theorem dX5_takeIn_65 : decode cX5_takeIn 65 = .ok (.iload_n 1, 1) := by decide +kernel
theorem dX5_takeIn_66 : decode cX5_takeIn 66 = .ok (.invokevirtual 174, 3) := by decide +kernel
theorem dX5_takeIn_69 : decode cX5_takeIn 69 = .ok (.istore 5, 2) := by decide +kernel
theorem dX5_takeIn_71 : decode cX5_takeIn 71 = .ok (.iload 5, 2) := by decide +kernel
theorem dX5_takeIn_73 : decode cX5_takeIn 73 = .ok (.bipush (-4), 2) := by decide +kernel
theorem dX5_takeIn_75 : decode cX5_takeIn 75 = .ok (.if_icmp .eq 21, 3) := by decide +kernel
theorem dX5_takeIn_78 : decode cX5_takeIn 78 = .ok (.iload 5, 2) := by decide +kernel
theorem dX5_takeIn_80 : decode cX5_takeIn 80 = .ok (.iload_n 3, 1) := by decide +kernel
theorem dX5_takeIn_81 : decode cX5_takeIn 81 = .ok (.if_icmp .ge 15, 3) := by decide +kernel
theorem dX5_takeIn_84 : decode cX5_takeIn 84 = .ok (.iload 5, 2) := by decide +kernel
theorem dX5_takeIn_86 : decode cX5_takeIn 86 = .ok (.istore_n 3, 1) := by decide +kernel
theorem dX5_takeIn_87 : decode cX5_takeIn 87 = .ok (.bipush 100, 2) := by decide +kernel
theorem dX5_takeIn_89 : decode cX5_takeIn 89 = .ok (.iload 4, 2) := by decide +kernel
theorem dX5_takeIn_91 : decode cX5_takeIn 91 = .ok (.imul, 1) := by decide +kernel
theorem dX5_takeIn_92 : decode cX5_takeIn 92 = .ok (.iload 5, 2) := by decide +kernel
theorem dX5_takeIn_94 : decode cX5_takeIn 94 = .ok (.iadd, 1) := by decide +kernel
theorem dX5_takeIn_95 : decode cX5_takeIn 95 = .ok (.istore_n 2, 1) := by decide +kernel
theorem dX5_takeIn_96 : decode cX5_takeIn 96 = .ok (.iinc 4 1, 3) := by decide +kernel
theorem dX5_takeIn_99 : decode cX5_takeIn 99 = .ok (.goto (-57), 3) := by decide +kernel
theorem dX5_takeIn_102 : decode cX5_takeIn 102 = .ok (.iload_n 2, 1) := by decide +kernel
theorem dX5_takeIn_103 : decode cX5_takeIn 103 = .ok (.ireturn, 1) := by decide +kernel
theorem dX6_takeIn_0 : decode cX6_takeIn 0 = .ok (.aload_n 0, 1) := by decide +kernel
theorem dX6_takeIn_1 : decode cX6_takeIn 1 = .ok (.invokevirtual 170, 3) := by decide +kernel
theorem dX6_takeIn_4 : decode cX6_takeIn 4 = .ok (.ifCond .ne 6, 3) := by decide +kernel
theorem dX6_takeIn_7 : decode cX6_takeIn 7 = .ok (.bipush (-3), 2) := by decide +kernel
theorem dX6_takeIn_9 : decode cX6_takeIn 9 = .ok (.ireturn, 1) := by decide +kernel
theorem dX6_takeIn_10 : decode cX6_takeIn 10 = .ok (.aload_n 0, 1) := by decide +kernel
theorem dX6_takeIn_11 : decode cX6_takeIn 11 = .ok (.invokevirtual 215, 3) := by decide +kernel
theorem dX6_takeIn_14 : decode cX6_takeIn 14 = .ok (.ifCond .ne 5, 3) := by decide +kernel
theorem dX6_takeIn_17 : decode cX6_takeIn 17 = .ok (.iconst 0, 1) := by decide +kernel
theorem dX6_takeIn_18 : decode cX6_takeIn 18 = .ok (.ireturn, 1) := by decide +kernel
theorem dX6_takeIn_19 : decode cX6_takeIn 19 = .ok (.bipush (-4), 2) := by decide +kernel
theorem dX6_takeIn_21 : decode cX6_takeIn 21 = .ok (.istore_n 1, 1) := by decide +kernel
theorem dX6_takeIn_22 : decode cX6_takeIn 22 = .ok (.iconst 0, 1) := by decide +kernel
theorem dX6_takeIn_23 : decode cX6_takeIn 23 = .ok (.istore_n 2, 1) := by decide +kernel
theorem dX6_takeIn_24 : decode cX6_takeIn 24 = .ok (.iconst 0, 1) := by decide +kernel
theorem dX6_takeIn_25 : decode cX6_takeIn 25 = .ok (.istore_n 3, 1) := by decide +kernel
theorem dX6_takeIn_26 : decode cX6_takeIn 26 = .ok (.iload_n 3, 1) := by decide +kernel
theorem dX6_takeIn_27 : decode cX6_takeIn 27 = .ok (.aload_n 0, 1) := by decide +kernel
theorem dX6_takeIn_28 : decode cX6_takeIn 28 = .ok (.getfield 9, 3) := by decide +kernel
theorem dX6_takeIn_31 : decode cX6_takeIn 31 = .ok (.iconst 0, 1) := by decide +kernel
theorem dX6_takeIn_32 : decode cX6_takeIn 32 = .ok (.iaload, 1) := by decide +kernel
theorem dX6_takeIn_33 : decode cX6_takeIn 33 = .ok (.if_icmp .ge 100, 3) := by decide +kernel
theorem dX6_takeIn_36 : decode cX6_takeIn 36 = .ok (.aload_n 0, 1) := by decide +kernel
theorem dX6_takeIn_37 : decode cX6_takeIn 37 = .ok (.iload_n 3, 1) := by decide +kernel
theorem dX6_takeIn_38 : decode cX6_takeIn 38 = .ok (.iconst 2, 1) := by decide +kernel
theorem dX6_takeIn_39 : decode cX6_takeIn 39 = .ok (.invokevirtual 111, 3) := by decide +kernel
theorem dX6_takeIn_42 : decode cX6_takeIn 42 = .ok (.istore 4, 2) := by decide +kernel
theorem dX6_takeIn_44 : decode cX6_takeIn 44 = .ok (.iconst 0, 1) := by decide +kernel
theorem dX6_takeIn_45 : decode cX6_takeIn 45 = .ok (.istore 5, 2) := by decide +kernel
theorem dX6_takeIn_47 : decode cX6_takeIn 47 = .ok (.iconst 1, 1) := by decide +kernel
theorem dX6_takeIn_48 : decode cX6_takeIn 48 = .ok (.istore 6, 2) := by decide +kernel
theorem dX6_takeIn_50 : decode cX6_takeIn 50 = .ok (.iload 6, 2) := by decide +kernel
theorem dX6_takeIn_52 : decode cX6_takeIn 52 = .ok (.iload 4, 2) := by decide +kernel
theorem dX6_takeIn_54 : decode cX6_takeIn 54 = .ok (.if_icmp .gt 36, 3) := by decide +kernel
theorem dX6_takeIn_57 : decode cX6_takeIn 57 = .ok (.iload 5, 2) := by decide +kernel
theorem dX6_takeIn_59 : decode cX6_takeIn 59 = .ok (.ifCond .ne 31, 3) := by decide +kernel
theorem dX6_takeIn_62 : decode cX6_takeIn 62 = .ok (.aload_n 0, 1) := by decide +kernel
theorem dX6_takeIn_63 : decode cX6_takeIn 63 = .ok (.iload_n 3, 1) := by decide +kernel
theorem dX6_takeIn_64 : decode cX6_takeIn 64 = .ok (.iconst 2, 1) := by decide +kernel
theorem dX6_takeIn_65 : decode cX6_takeIn 65 = .ok (.iload 4, 2) := by decide +kernel
theorem dX6_takeIn_67 : decode cX6_takeIn 67 = .ok (.iload 6, 2) := by decide +kernel
theorem dX6_takeIn_69 : decode cX6_takeIn 69 = .ok (.isub, 1) := by decide +kernel
theorem dX6_takeIn_70 : decode cX6_takeIn 70 = .ok (.invokevirtual 191, 3) := by decide +kernel
theorem dX6_takeIn_73 : decode cX6_takeIn 73 = .ok (.aload_n 0, 1) := by decide +kernel
theorem dX6_takeIn_74 : decode cX6_takeIn 74 = .ok (.invokevirtual 215, 3) := by decide +kernel
theorem dX6_takeIn_77 : decode cX6_takeIn 77 = .ok (.ifCond .ne 7, 3) := by decide +kernel
theorem dX6_takeIn_80 : decode cX6_takeIn 80 = .ok (.iload 6, 2) := by decide +kernel
theorem dX6_takeIn_82 : decode cX6_takeIn 82 = .ok (.istore 5, 2) := by decide +kernel
theorem dX6_takeIn_84 : decode cX6_takeIn 84 = .ok (.iinc 6 1, 3) := by decide +kernel
theorem dX6_takeIn_87 : decode cX6_takeIn 87 = .ok (.goto (-37), 3) := by decide +kernel
theorem dX6_takeIn_90 : decode cX6_takeIn 90 = .ok (.aload_n 0, 1) := by decide +kernel
theorem dX6_takeIn_91 : decode cX6_takeIn 91 = .ok (.iload_n 3, 1) := by decide +kernel
theorem dX6_takeIn_92 : decode cX6_takeIn 92 = .ok (.iconst 2, 1) := by decide +kernel
theorem dX6_takeIn_93 : decode cX6_takeIn 93 = .ok (.iload 4, 2) := by decide +kernel
theorem dX6_takeIn_95 : decode cX6_takeIn 95 = .ok (.invokevirtual 191, 3) := by decide +kernel
theorem dX6_takeIn_98 : decode cX6_takeIn 98 = .ok (.iload 5, 2) := by decide +kernel
theorem dX6_takeIn_100 : decode cX6_takeIn 100 = .ok (.ifCond .eq 27, 3) := by decide +kernel
theorem dX6_takeIn_103 : decode cX6_takeIn 103 = .ok (.iload_n 1, 1) := by decide +kernel
theorem dX6_takeIn_104 : decode cX6_takeIn 104 = .ok (.ifCond .lt 12, 3) := by decide +kernel
theorem dX6_takeIn_107 : decode cX6_takeIn 107 = .ok (.iload 5, 2) := by decide +kernel
theorem dX6_takeIn_109 : decode cX6_takeIn 109 = .ok (.iload_n 2, 1) := by decide +kernel
theorem dX6_takeIn_110 : decode cX6_takeIn 110 = .ok (.if_icmp .lt 6, 3) := by decide +kernel
theorem dX6_takeIn_113 : decode cX6_takeIn 113 = .ok (.goto 14, 3) := by decide +kernel
theorem dX6_takeIn_116 : decode cX6_takeIn 116 = .ok (.bipush 100, 2) := by decide +kernel
theorem dX6_takeIn_118 : decode cX6_takeIn 118 = .ok (.iload_n 3, 1) := by decide +kernel
theorem dX6_takeIn_119 : decode cX6_takeIn 119 = .ok (.imul, 1) := by decide +kernel
theorem dX6_takeIn_120 : decode cX6_takeIn 120 = .ok (.iload 5, 2) := by decide +kernel
theorem dX6_takeIn_122 : decode cX6_takeIn 122 = .ok (.iadd, 1) := by decide +kernel
theorem dX6_takeIn_123 : decode cX6_takeIn 123 = .ok (.istore_n 1, 1) := by decide +kernel
theorem dX6_takeIn_124 : decode cX6_takeIn 124 = .ok (.iload 5, 2) := by decide +kernel
theorem dX6_takeIn_126 : decode cX6_takeIn 126 = .ok (.istore_n 2, 1) := by decide +kernel
theorem dX6_takeIn_127 : decode cX6_takeIn 127 = .ok (.iinc 3 1, 3) := by decide +kernel
theorem dX6_takeIn_130 : decode cX6_takeIn 130 = .ok (.goto (-104), 3) := by decide +kernel
theorem dX6_takeIn_133 : decode cX6_takeIn 133 = .ok (.iload_n 1, 1) := by decide +kernel
theorem dX6_takeIn_134 : decode cX6_takeIn 134 = .ok (.ireturn, 1) := by decide +kernel
theorem dX5_shallowest_0 : decode cX5_shallowest 0 = .ok (.aload_n 0, 1) := by decide +kernel
theorem dX5_shallowest_1 : decode cX5_shallowest 1 = .ok (.invokevirtual 110, 3) := by decide +kernel
theorem dX5_shallowest_4 : decode cX5_shallowest 4 = .ok (.ifCond .ne 6, 3) := by decide +kernel
theorem dX5_shallowest_7 : decode cX5_shallowest 7 = .ok (.bipush (-3), 2) := by decide +kernel
theorem dX5_shallowest_9 : decode cX5_shallowest 9 = .ok (.ireturn, 1) := by decide +kernel
theorem dX5_shallowest_10 : decode cX5_shallowest 10 = .ok (.getstatic 178, 3) := by decide +kernel
theorem dX5_shallowest_13 : decode cX5_shallowest 13 = .ok (.iconst 3, 1) := by decide +kernel
theorem dX5_shallowest_14 : decode cX5_shallowest 14 = .ok (.iaload, 1) := by decide +kernel
theorem dX5_shallowest_15 : decode cX5_shallowest 15 = .ok (.istore_n 1, 1) := by decide +kernel
theorem dX5_shallowest_16 : decode cX5_shallowest 16 = .ok (.iconst 0, 1) := by decide +kernel
theorem dX5_shallowest_17 : decode cX5_shallowest 17 = .ok (.istore_n 2, 1) := by decide +kernel
theorem dX5_shallowest_18 : decode cX5_shallowest 18 = .ok (.iload_n 2, 1) := by decide +kernel
theorem dX5_shallowest_19 : decode cX5_shallowest 19 = .ok (.aload_n 0, 1) := by decide +kernel
theorem dX5_shallowest_20 : decode cX5_shallowest 20 = .ok (.getfield 10, 3) := by decide +kernel
theorem dX5_shallowest_23 : decode cX5_shallowest 23 = .ok (.getfield 106, 3) := by decide +kernel
theorem dX5_shallowest_26 : decode cX5_shallowest 26 = .ok (.iconst 2, 1) := by decide +kernel
theorem dX5_shallowest_27 : decode cX5_shallowest 27 = .ok (.iaload, 1) := by decide +kernel
theorem dX5_shallowest_28 : decode cX5_shallowest 28 = .ok (.if_icmp .gt 29, 3) := by decide +kernel
theorem dX5_shallowest_31 : decode cX5_shallowest 31 = .ok (.aload_n 0, 1) := by decide +kernel
theorem dX5_shallowest_32 : decode cX5_shallowest 32 = .ok (.getfield 25, 3) := by decide +kernel
theorem dX5_shallowest_35 : decode cX5_shallowest 35 = .ok (.iload_n 2, 1) := by decide +kernel
theorem dX5_shallowest_36 : decode cX5_shallowest 36 = .ok (.putfield 155, 3) := by decide +kernel
theorem dX5_shallowest_39 : decode cX5_shallowest 39 = .ok (.iload_n 1, 1) := by decide +kernel
theorem dX5_shallowest_40 : decode cX5_shallowest 40 = .ok (.aload_n 0, 1) := by decide +kernel
theorem dX5_shallowest_41 : decode cX5_shallowest 41 = .ok (.getfield 25, 3) := by decide +kernel
theorem dX5_shallowest_44 : decode cX5_shallowest 44 = .ok (.invokevirtual 120, 3) := by decide +kernel
theorem dX5_shallowest_47 : decode cX5_shallowest 47 = .ok (.invokestatic 181, 3) := by decide +kernel
theorem dX5_shallowest_50 : decode cX5_shallowest 50 = .ok (.istore_n 1, 1) := by decide +kernel
theorem dX5_shallowest_51 : decode cX5_shallowest 51 = .ok (.iinc 2 1, 3) := by decide +kernel
theorem dX5_shallowest_54 : decode cX5_shallowest 54 = .ok (.goto (-36), 3) := by decide +kernel
theorem dX5_shallowest_57 : decode cX5_shallowest 57 = .ok (.iload_n 1, 1) := by decide +kernel
theorem dX5_shallowest_58 : decode cX5_shallowest 58 = .ok (.getstatic 152, 3) := by decide +kernel
theorem dX5_shallowest_61 : decode cX5_shallowest 61 = .ok (.iconst 3, 1) := by decide +kernel
theorem dX5_shallowest_62 : decode cX5_shallowest 62 = .ok (.iaload, 1) := by decide +kernel
theorem dX5_shallowest_63 : decode cX5_shallowest 63 = .ok (.if_icmp .le 8, 3) := by decide +kernel
theorem dX5_shallowest_66 : decode cX5_shallowest 66 = .ok (.bipush (-4), 2) := by decide +kernel
theorem dX5_shallowest_68 : decode cX5_shallowest 68 = .ok (.goto 4, 3) := by decide +kernel
theorem dX5_shallowest_71 : decode cX5_shallowest 71 = .ok (.iload_n 1, 1) := by decide +kernel
theorem dX5_shallowest_72 : decode cX5_shallowest 72 = .ok (.ireturn, 1) := by decide +kernel
theorem dX6_shallowest_0 : decode cX6_shallowest 0 = .ok (.aload_n 0, 1) := by decide +kernel
theorem dX6_shallowest_1 : decode cX6_shallowest 1 = .ok (.invokevirtual 170, 3) := by decide +kernel
theorem dX6_shallowest_4 : decode cX6_shallowest 4 = .ok (.ifCond .ne 6, 3) := by decide +kernel
theorem dX6_shallowest_7 : decode cX6_shallowest 7 = .ok (.bipush (-3), 2) := by decide +kernel
theorem dX6_shallowest_9 : decode cX6_shallowest 9 = .ok (.ireturn, 1) := by decide +kernel
theorem dX6_shallowest_10 : decode cX6_shallowest 10 = .ok (.aload_n 0, 1) := by decide +kernel
theorem dX6_shallowest_11 : decode cX6_shallowest 11 = .ok (.aload_n 0, 1) := by decide +kernel
theorem dX6_shallowest_12 : decode cX6_shallowest 12 = .ok (.invokevirtual 173, 3) := by decide +kernel
theorem dX6_shallowest_15 : decode cX6_shallowest 15 = .ok (.invokevirtual 176, 3) := by decide +kernel
theorem dX6_shallowest_18 : decode cX6_shallowest 18 = .ok (.aload_n 0, 1) := by decide +kernel
theorem dX6_shallowest_19 : decode cX6_shallowest 19 = .ok (.getfield 141, 3) := by decide +kernel
theorem dX6_shallowest_22 : decode cX6_shallowest 22 = .ok (.iconst 4, 1) := by decide +kernel
theorem dX6_shallowest_23 : decode cX6_shallowest 23 = .ok (.idiv, 1) := by decide +kernel
theorem dX6_shallowest_24 : decode cX6_shallowest 24 = .ok (.istore_n 1, 1) := by decide +kernel
theorem dX6_shallowest_25 : decode cX6_shallowest 25 = .ok (.iload_n 1, 1) := by decide +kernel
theorem dX6_shallowest_26 : decode cX6_shallowest 26 = .ok (.sipush 999, 3) := by decide +kernel
theorem dX6_shallowest_29 : decode cX6_shallowest 29 = .ok (.if_icmp .le 8, 3) := by decide +kernel
theorem dX6_shallowest_32 : decode cX6_shallowest 32 = .ok (.bipush (-4), 2) := by decide +kernel
theorem dX6_shallowest_34 : decode cX6_shallowest 34 = .ok (.goto 13, 3) := by decide +kernel
theorem dX6_shallowest_37 : decode cX6_shallowest 37 = .ok (.iload_n 1, 1) := by decide +kernel
theorem dX6_shallowest_38 : decode cX6_shallowest 38 = .ok (.iconst 1, 1) := by decide +kernel
theorem dX6_shallowest_39 : decode cX6_shallowest 39 = .ok (.if_icmp .ge 7, 3) := by decide +kernel
theorem dX6_shallowest_42 : decode cX6_shallowest 42 = .ok (.iconst 1, 1) := by decide +kernel
theorem dX6_shallowest_43 : decode cX6_shallowest 43 = .ok (.goto 4, 3) := by decide +kernel
theorem dX6_shallowest_46 : decode cX6_shallowest 46 = .ok (.iload_n 1, 1) := by decide +kernel
theorem dX6_shallowest_47 : decode cX6_shallowest 47 = .ok (.ireturn, 1) := by decide +kernel
theorem dX5_heldWithin_0 : decode cX5_heldWithin 0 = .ok (.iload_n 1, 1) := by decide +kernel
theorem dX5_heldWithin_1 : decode cX5_heldWithin 1 = .ok (.iload_n 2, 1) := by decide +kernel
theorem dX5_heldWithin_2 : decode cX5_heldWithin 2 = .ok (.iload_n 0, 1) := by decide +kernel
theorem dX5_heldWithin_3 : decode cX5_heldWithin 3 = .ok (.invokestatic 312, 3) := by decide +kernel
theorem dX5_heldWithin_6 : decode cX5_heldWithin 6 = .ok (.invokestatic 181, 3) := by decide +kernel
theorem dX5_heldWithin_9 : decode cX5_heldWithin 9 = .ok (.ireturn, 1) := by decide +kernel
theorem dX5_holdsByDraws_0 : decode cX5_holdsByDraws 0 = .ok (.aload_n 0, 1) := by decide +kernel
theorem dX5_holdsByDraws_1 : decode cX5_holdsByDraws 1 = .ok (.getfield 19, 3) := by decide +kernel
theorem dX5_holdsByDraws_4 : decode cX5_holdsByDraws 4 = .ok (.aload_n 0, 1) := by decide +kernel
theorem dX5_holdsByDraws_5 : decode cX5_holdsByDraws 5 = .ok (.getfield 10, 3) := by decide +kernel
theorem dX5_holdsByDraws_8 : decode cX5_holdsByDraws 8 = .ok (.invokevirtual 58, 3) := by decide +kernel
theorem dX5_holdsByDraws_11 : decode cX5_holdsByDraws 11 = .ok (.iload_n 1, 1) := by decide +kernel
theorem dX5_holdsByDraws_12 : decode cX5_holdsByDraws 12 = .ok (.istore_n 2, 1) := by decide +kernel
theorem dX5_holdsByDraws_13 : decode cX5_holdsByDraws 13 = .ok (.iconst 0, 1) := by decide +kernel
theorem dX5_holdsByDraws_14 : decode cX5_holdsByDraws 14 = .ok (.istore_n 3, 1) := by decide +kernel
theorem dX5_holdsByDraws_15 : decode cX5_holdsByDraws 15 = .ok (.iload_n 3, 1) := by decide +kernel
theorem dX5_holdsByDraws_16 : decode cX5_holdsByDraws 16 = .ok (.bipush 100, 2) := by decide +kernel
theorem dX5_holdsByDraws_18 : decode cX5_holdsByDraws 18 = .ok (.if_icmp .ge 94, 3) := by decide +kernel
theorem dX5_holdsByDraws_21 : decode cX5_holdsByDraws 21 = .ok (.iload_n 2, 1) := by decide +kernel
theorem dX5_holdsByDraws_22 : decode cX5_holdsByDraws 22 = .ok (.ldc_w 323, 3) := by decide +kernel
theorem dX5_holdsByDraws_25 : decode cX5_holdsByDraws 25 = .ok (.imul, 1) := by decide +kernel
theorem dX5_holdsByDraws_26 : decode cX5_holdsByDraws 26 = .ok (.sipush 12345, 3) := by decide +kernel
theorem dX5_holdsByDraws_29 : decode cX5_holdsByDraws 29 = .ok (.iadd, 1) := by decide +kernel
theorem dX5_holdsByDraws_30 : decode cX5_holdsByDraws 30 = .ok (.istore_n 2, 1) := by decide +kernel
theorem dX5_holdsByDraws_31 : decode cX5_holdsByDraws 31 = .ok (.iload_n 2, 1) := by decide +kernel
theorem dX5_holdsByDraws_32 : decode cX5_holdsByDraws 32 = .ok (.ldc_w 324, 3) := by decide +kernel
theorem dX5_holdsByDraws_35 : decode cX5_holdsByDraws 35 = .ok (.iand, 1) := by decide +kernel
theorem dX5_holdsByDraws_36 : decode cX5_holdsByDraws 36 = .ok (.ldc_w 325, 3) := by decide +kernel
theorem dX5_holdsByDraws_39 : decode cX5_holdsByDraws 39 = .ok (.idiv, 1) := by decide +kernel
theorem dX5_holdsByDraws_40 : decode cX5_holdsByDraws 40 = .ok (.bipush 21, 2) := by decide +kernel
theorem dX5_holdsByDraws_42 : decode cX5_holdsByDraws 42 = .ok (.irem, 1) := by decide +kernel
theorem dX5_holdsByDraws_43 : decode cX5_holdsByDraws 43 = .ok (.istore 4, 2) := by decide +kernel
theorem dX5_holdsByDraws_45 : decode cX5_holdsByDraws 45 = .ok (.aload_n 0, 1) := by decide +kernel
theorem dX5_holdsByDraws_46 : decode cX5_holdsByDraws 46 = .ok (.getfield 25, 3) := by decide +kernel
theorem dX5_holdsByDraws_49 : decode cX5_holdsByDraws 49 = .ok (.aload_n 0, 1) := by decide +kernel
theorem dX5_holdsByDraws_50 : decode cX5_holdsByDraws 50 = .ok (.getfield 10, 3) := by decide +kernel
theorem dX5_holdsByDraws_53 : decode cX5_holdsByDraws 53 = .ok (.getfield 106, 3) := by decide +kernel
theorem dX5_holdsByDraws_56 : decode cX5_holdsByDraws 56 = .ok (.iconst 0, 1) := by decide +kernel
theorem dX5_holdsByDraws_57 : decode cX5_holdsByDraws 57 = .ok (.iaload, 1) := by decide +kernel
theorem dX5_holdsByDraws_58 : decode cX5_holdsByDraws 58 = .ok (.iload 4, 2) := by decide +kernel
theorem dX5_holdsByDraws_60 : decode cX5_holdsByDraws 60 = .ok (.iadd, 1) := by decide +kernel
theorem dX5_holdsByDraws_61 : decode cX5_holdsByDraws 61 = .ok (.bipush 10, 2) := by decide +kernel
theorem dX5_holdsByDraws_63 : decode cX5_holdsByDraws 63 = .ok (.isub, 1) := by decide +kernel
theorem dX5_holdsByDraws_64 : decode cX5_holdsByDraws 64 = .ok (.getstatic 178, 3) := by decide +kernel
theorem dX5_holdsByDraws_67 : decode cX5_holdsByDraws 67 = .ok (.iconst 0, 1) := by decide +kernel
theorem dX5_holdsByDraws_68 : decode cX5_holdsByDraws 68 = .ok (.iaload, 1) := by decide +kernel
theorem dX5_holdsByDraws_69 : decode cX5_holdsByDraws 69 = .ok (.getstatic 152, 3) := by decide +kernel
theorem dX5_holdsByDraws_72 : decode cX5_holdsByDraws 72 = .ok (.iconst 0, 1) := by decide +kernel
theorem dX5_holdsByDraws_73 : decode cX5_holdsByDraws 73 = .ok (.iaload, 1) := by decide +kernel
theorem dX5_holdsByDraws_74 : decode cX5_holdsByDraws 74 = .ok (.invokestatic 225, 3) := by decide +kernel
theorem dX5_holdsByDraws_77 : decode cX5_holdsByDraws 77 = .ok (.putfield 326, 3) := by decide +kernel
theorem dX5_holdsByDraws_80 : decode cX5_holdsByDraws 80 = .ok (.aload_n 0, 1) := by decide +kernel
theorem dX5_holdsByDraws_81 : decode cX5_holdsByDraws 81 = .ok (.getfield 19, 3) := by decide +kernel
theorem dX5_holdsByDraws_84 : decode cX5_holdsByDraws 84 = .ok (.aload_n 0, 1) := by decide +kernel
theorem dX5_holdsByDraws_85 : decode cX5_holdsByDraws 85 = .ok (.getfield 25, 3) := by decide +kernel
theorem dX5_holdsByDraws_88 : decode cX5_holdsByDraws 88 = .ok (.invokevirtual 139, 3) := by decide +kernel
theorem dX5_holdsByDraws_91 : decode cX5_holdsByDraws 91 = .ok (.pop, 1) := by decide +kernel
theorem dX5_holdsByDraws_92 : decode cX5_holdsByDraws 92 = .ok (.aload_n 0, 1) := by decide +kernel
theorem dX5_holdsByDraws_93 : decode cX5_holdsByDraws 93 = .ok (.getfield 19, 3) := by decide +kernel
theorem dX5_holdsByDraws_96 : decode cX5_holdsByDraws 96 = .ok (.getfield 99, 3) := by decide +kernel
theorem dX5_holdsByDraws_99 : decode cX5_holdsByDraws 99 = .ok (.bipush (-4), 2) := by decide +kernel
theorem dX5_holdsByDraws_101 : decode cX5_holdsByDraws 101 = .ok (.if_icmp .eq 5, 3) := by decide +kernel
theorem dX5_holdsByDraws_104 : decode cX5_holdsByDraws 104 = .ok (.iconst 0, 1) := by decide +kernel
theorem dX5_holdsByDraws_105 : decode cX5_holdsByDraws 105 = .ok (.ireturn, 1) := by decide +kernel
theorem dX5_holdsByDraws_106 : decode cX5_holdsByDraws 106 = .ok (.iinc 3 1, 3) := by decide +kernel
theorem dX5_holdsByDraws_109 : decode cX5_holdsByDraws 109 = .ok (.goto (-94), 3) := by decide +kernel
theorem dX5_holdsByDraws_112 : decode cX5_holdsByDraws 112 = .ok (.iconst 1, 1) := by decide +kernel
theorem dX5_holdsByDraws_113 : decode cX5_holdsByDraws 113 = .ok (.ireturn, 1) := by decide +kernel
theorem dX5_odds_0 : decode cX5_odds 0 = .ok (.iload_n 1, 1) := by decide +kernel
theorem dX5_odds_1 : decode cX5_odds 1 = .ok (.iconst 1, 1) := by decide +kernel
theorem dX5_odds_2 : decode cX5_odds 2 = .ok (.bipush 20, 2) := by decide +kernel
theorem dX5_odds_4 : decode cX5_odds 4 = .ok (.invokestatic 129, 3) := by decide +kernel
theorem dX5_odds_7 : decode cX5_odds 7 = .ok (.ifCond .ne 5, 3) := by decide +kernel
theorem dX5_odds_10 : decode cX5_odds 10 = .ok (.iconst (-1), 1) := by decide +kernel
theorem dX5_odds_11 : decode cX5_odds 11 = .ok (.ireturn, 1) := by decide +kernel
theorem dX5_odds_12 : decode cX5_odds 12 = .ok (.aload_n 0, 1) := by decide +kernel
theorem dX5_odds_13 : decode cX5_odds 13 = .ok (.invokevirtual 110, 3) := by decide +kernel
theorem dX5_odds_16 : decode cX5_odds 16 = .ok (.ifCond .ne 6, 3) := by decide +kernel
theorem dX5_odds_19 : decode cX5_odds 19 = .ok (.bipush (-3), 2) := by decide +kernel
theorem dX5_odds_21 : decode cX5_odds 21 = .ok (.ireturn, 1) := by decide +kernel
theorem dX5_odds_22 : decode cX5_odds 22 = .ok (.iconst 0, 1) := by decide +kernel
theorem dX5_odds_23 : decode cX5_odds 23 = .ok (.istore_n 3, 1) := by decide +kernel
theorem dX5_odds_24 : decode cX5_odds 24 = .ok (.iconst 0, 1) := by decide +kernel
theorem dX5_odds_25 : decode cX5_odds 25 = .ok (.istore 4, 2) := by decide +kernel
theorem dX5_odds_27 : decode cX5_odds 27 = .ok (.iload 4, 2) := by decide +kernel
theorem dX5_odds_29 : decode cX5_odds 29 = .ok (.iload_n 1, 1) := by decide +kernel
theorem dX5_odds_30 : decode cX5_odds 30 = .ok (.if_icmp .ge 23, 3) := by decide +kernel
theorem dX5_odds_33 : decode cX5_odds 33 = .ok (.aload_n 0, 1) := by decide +kernel
theorem dX5_odds_34 : decode cX5_odds 34 = .ok (.iload_n 2, 1) := by decide +kernel
theorem dX5_odds_35 : decode cX5_odds 35 = .ok (.iload 4, 2) := by decide +kernel
theorem dX5_odds_37 : decode cX5_odds 37 = .ok (.iadd, 1) := by decide +kernel
theorem dX5_odds_38 : decode cX5_odds 38 = .ok (.invokevirtual 187, 3) := by decide +kernel
theorem dX5_odds_41 : decode cX5_odds 41 = .ok (.ifCond .eq 6, 3) := by decide +kernel
theorem dX5_odds_44 : decode cX5_odds 44 = .ok (.iinc 3 1, 3) := by decide +kernel
theorem dX5_odds_47 : decode cX5_odds 47 = .ok (.iinc 4 1, 3) := by decide +kernel
theorem dX5_odds_50 : decode cX5_odds 50 = .ok (.goto (-23), 3) := by decide +kernel
theorem dX5_odds_53 : decode cX5_odds 53 = .ok (.iload_n 3, 1) := by decide +kernel
theorem dX5_odds_54 : decode cX5_odds 54 = .ok (.ireturn, 1) := by decide +kernel
section WALK
variable {p : Program} {l : Launch} {e : Env} {s : State} {m : MethodId} {args : Array Value} {below : List Frame} {meth : Method} {c : Code} {G : GG}

def b_X6_bridge_56 (k56 : Mem → Int32 → Int32 → Int32 → Int32 → Int32 → Prop) (post : Int32 → Mem → Prop) (M : Mem) (x1 : Int32) (x2 : Int32) (x3 : Int32) (x4 : Int32) (x5 : Int32) : Prop := ((M 58 0) ≤ x5 → (∀ M2 : Mem, M2 = (mup M 57 18 ((M 57 18) + x2)) → (q_X6_heftBy M2 x1 (0 : Int32) (fun r3 M4 => ∀ M5 : Mem, M5 = (mup M4 57 19 ((M2 57 19) + (x2 * r3))) → (q_X6_giveBy M5 x1 (0 : Int32) (fun r6 M7 => ∀ M8 : Mem, M8 = (mup M7 57 20 (x4 + (x2 * r6))) → (q_X6_rounds M8  (fun M10 => q_X6_greatestOf M10  (fun r11 M12 => post (x3 - r11) M12))))))))) ∧ (¬ ((M 58 0) ≤ x5) → (q_X6_get M x5 (2 : Int32) (fun r13 M14 => q_X6_get M14 x5 (0 : Int32) (fun r15 M16 => q_X6_get M16 x5 (1 : Int32) (fun r17 M18 => q_X6_giveBy M18 r15 r17 (fun r19 M20 => k56 M20 x1 x2 x3 (x4 + (r13 * r19)) (x5 + (1 : Int32))))))))
def lp_X6_bridge_56 (post : Int32 → Mem → Prop) : Nat → Mem → Int32 → Int32 → Int32 → Int32 → Int32 → Prop
  | 0 => fun _ _ _ _ _ _ => False
  | n + 1 => fun M x1 x2 x3 x4 x5 => b_X6_bridge_56 (lp_X6_bridge_56 post n) post M x1 x2 x3 x4 x5
def j_X6_bridge_24 (post : Int32 → Mem → Prop) (M : Mem) : Prop := post (-1000000001 : Int32) M
def q_X6_bridge (M : Mem) (x1 : Int32) (x2 : Int32) (post : Int32 → Mem → Prop) : Prop := q_X6_isIn M x1.toInt64 (0 : Int64) (7 : Int64) (fun r21 M22 => (r21 = 0 → (j_X6_bridge_24 post M22)) ∧ (¬ (r21 = 0) → (q_X6_isIn M22 x2.toInt64 (1 : Int64) (99 : Int64) (fun r24 M25 => (r24 = 0 → (j_X6_bridge_24 post M25)) ∧ (¬ (r24 = 0) → (q_X6_isLine M25  (fun r27 M28 => (r27 = 0 → (post (-1000000003 : Int32) M28)) ∧ (¬ (r27 = 0) → (q_X6_allPieces M28  (fun r30 M31 => q_X6_sumsUp M31 r30 (fun M33 => q_X6_greatestOf M33  (fun r34 M35 => ∃ n, lp_X6_bridge_56 post n M35 x1 x2 r34 (0 : Int32) (0 : Int32)))))))))))))
set_option maxHeartbeats 4000000 in
set_option maxRecDepth 100000 in
theorem t_X6_bridge_56 (C : Cx G p s m args meth c RX6 cX6_bridge 6 (some .int)) {post : Int32 → Mem → Prop} : ∀ (n : Nat) (M : Mem) (x1 : Int32) (x2 : Int32) (x3 : Int32) (x4 : Int32) (x5 : Int32) {H : Heap} {locs : List Loc} {ls : Array Slot} (w : Wd G s M H locs) (hl : lv_has ls 6 [(0, .ref (ga G 57)), (1, .int x1), (2, .int x2), (3, .int x3), (4, .int x4), (5, .int x5)]) (h : lp_X6_bridge_56 post n M x1 x2 x3 x4 x5), W p l e (rmk 5) s m args below meth c H locs 0 0 (MQ below (va_Qi post (Qw G) (Af G s.heap.size)) args s 0 0 (Af G s.heap.size)) (F0 m 56 ls []) := by
  have hx := C.1.1
  have hb := C.1.2.1
  intro n9
  induction n9 with
  | zero => intro M x1 x2 x3 x4 x5 H locs ls w hl h; exact absurd h id
  | succ n9 ih9 =>
    intro M x1 x2 x3 x4 x5 H locs ls w hl h
    have hk56 : ∀ (M : Mem) (x1 : Int32) (x2 : Int32) (x3 : Int32) (x4 : Int32) (x5 : Int32) (H : Heap) (locs : List Loc) (ls : Array Slot), Wd G s M H locs → lv_has ls 6 [(0, .ref (ga G 57)), (1, .int x1), (2, .int x2), (3, .int x3), (4, .int x4), (5, .int x5)] → lp_X6_bridge_56 post n9 M x1 x2 x3 x4 x5 → W p l e (rmk 5) s m args below meth c H locs 0 0 (MQ below (va_Qi post (Qw G) (Af G s.heap.size)) args s 0 0 (Af G s.heap.size)) (F0 m 56 ls []) := fun M x1 x2 x3 x4 x5 H locs ls w hl h => ih9 M x1 x2 x3 x4 x5 w hl h
    replace h : b_X6_bridge_56 (lp_X6_bridge_56 post n9) post M x1 x2 x3 x4 x5 := h
    unfold b_X6_bridge_56 at h
    refine lv_iload hx hb dX6_bridge_56 (lv_at hl 5 rfl) ?_
    refine lv_aload_n hx hb dX6_bridge_58 rfl (lv_at hl 0 rfl) ?_
    refine gt_6_0 C w kw_5_0 dX6_bridge_59 ?_
    refine lv_iconst (v := 0) hx hb dX6_bridge_62 (by decide) ?_
    refine pw_ld C w (i := 58) (by decide) pE_58 (vl (x := (0 : Int32)) (by decide)) (k := 0) (by decide) dX6_bridge_63 ?_
    refine lv_icmp_ge (tgt := 103) hx hb dX6_bridge_64 (by decide) (fun c1 => ?_) (fun c1 => ?_)
    · replace h := h.1 c1
      refine lv_aload_n hx hb dX6_bridge_103 rfl (lv_at hl 0 rfl) ?_
      refine lv_dup hx hb dX6_bridge_104 rfl ?_
      refine gt_6_18 C w kw_17_5 dX6_bridge_105 ?_
      refine lv_iload_n hx hb dX6_bridge_108 rfl (lv_at hl 2 rfl) ?_
      refine lv_iadd hx hb dX6_bridge_109 ?_
      refine pt_6_18 C w kw_17_5 dX6_bridge_110 (fun H locs w => ?_)
      obtain ⟨M2, eM2⟩ : ∃ z : Mem, z = (mup M 57 18 ((M 57 18) + x2)) := ⟨_, rfl⟩
      replace w : Wd G s M2 H locs := by rw [eM2]; exact w
      replace h := h M2 eM2
      refine lv_aload_n hx hb dX6_bridge_113 rfl (lv_at hl 0 rfl) ?_
      refine lv_dup hx hb dX6_bridge_114 rfl ?_
      refine gt_6_19 C w kw_17_6 dX6_bridge_115 ?_
      refine lv_iload_n hx hb dX6_bridge_118 rfl (lv_at hl 2 rfl) ?_
      refine lv_iload_n hx hb dX6_bridge_119 rfl (lv_at hl 1 rfl) ?_
      refine lv_iconst (v := 0) hx hb dX6_bridge_120 (by decide) ?_
      refine end_i w (run_S (As := [.int x1, .int (0 : Int32)]) C w hl.1 (c_X6_heftBy l G C.2.2.1 _ _ x1 (0 : Int32)  _ h) kw_14_13 kw_1_5 kw_14_11 kw_14_12 hd_X6_heftBy ⟨by decide, by decide⟩ rfl (Nat.le_of_ble_eq_true rfl) dX6_bridge_121) (fun r3 M4 H locs h w => ?_)
      refine lv_imul hx hb dX6_bridge_124 ?_
      refine lv_iadd hx hb dX6_bridge_125 ?_
      refine pt_6_19 C w kw_17_6 dX6_bridge_126 (fun H locs w => ?_)
      obtain ⟨M5, eM5⟩ : ∃ z : Mem, z = (mup M4 57 19 ((M2 57 19) + (x2 * r3))) := ⟨_, rfl⟩
      replace w : Wd G s M5 H locs := by rw [eM5]; exact w
      replace h := h M5 eM5
      refine lv_aload_n hx hb dX6_bridge_129 rfl (lv_at hl 0 rfl) ?_
      refine lv_iload hx hb dX6_bridge_130 (lv_at hl 4 rfl) ?_
      refine lv_iload_n hx hb dX6_bridge_132 rfl (lv_at hl 2 rfl) ?_
      refine lv_iload_n hx hb dX6_bridge_133 rfl (lv_at hl 1 rfl) ?_
      refine lv_iconst (v := 0) hx hb dX6_bridge_134 (by decide) ?_
      refine end_i w (run_S (As := [.int x1, .int (0 : Int32)]) C w hl.1 (c_X6_giveBy l G C.2.2.1 _ _ x1 (0 : Int32)  _ h) kw_14_16 kw_1_5 kw_14_14 kw_14_15 hd_X6_giveBy ⟨by decide, by decide⟩ rfl (Nat.le_of_ble_eq_true rfl) dX6_bridge_135) (fun r6 M7 H locs h w => ?_)
      refine lv_imul hx hb dX6_bridge_138 ?_
      refine lv_iadd hx hb dX6_bridge_139 ?_
      refine pt_6_20 C w kw_17_7 dX6_bridge_140 (fun H locs w => ?_)
      obtain ⟨M8, eM8⟩ : ∃ z : Mem, z = (mup M7 57 20 (x4 + (x2 * r6))) := ⟨_, rfl⟩
      replace w : Wd G s M8 H locs := by rw [eM8]; exact w
      replace h := h M8 eM8
      refine lv_aload_n hx hb dX6_bridge_143 rfl (lv_at hl 0 rfl) ?_
      refine end_v w (run_V (As := []) C w hl.1 (c_X6_rounds l G C.2.2.1 _ _   _ h) kw_17_23 kw_1_5 kw_17_20 kw_17_21 kw_17_22 hd_X6_rounds ⟨by decide, by decide⟩ (w.recv C (i := 57) (by decide) (pE_6) rfl) rfl (Nat.le_of_ble_eq_true rfl) dX6_bridge_144) (fun M10 H locs h w => ?_)
      refine lv_iload_n hx hb dX6_bridge_147 rfl (lv_at hl 3 rfl) ?_
      refine lv_aload_n hx hb dX6_bridge_148 rfl (lv_at hl 0 rfl) ?_
      refine end_i w (run_V (As := []) C w hl.1 (c_X6_greatestOf l G C.2.2.1 _ _   _ h) kw_23_4 kw_1_5 kw_23_1 kw_23_2 kw_23_3 hd_X6_greatestOf ⟨by decide, by decide⟩ (w.recv C (i := 57) (by decide) (pE_6) rfl) rfl (Nat.le_of_ble_eq_true rfl) dX6_bridge_149) (fun r11 M12 H locs h w => ?_)
      refine lv_isub hx hb dX6_bridge_152 ?_
      exact ret_i C w h dX6_bridge_153
    replace h := h.2 c1
    refine lv_iload hx hb dX6_bridge_67 (lv_at hl 4 rfl) ?_
    refine lv_aload_n hx hb dX6_bridge_69 rfl (lv_at hl 0 rfl) ?_
    refine lv_iload hx hb dX6_bridge_70 (lv_at hl 5 rfl) ?_
    refine lv_iconst (v := 2) hx hb dX6_bridge_72 (by decide) ?_
    refine end_i w (run_V (As := [.int x5, .int (2 : Int32)]) C w hl.1 (c_X6_get l G C.2.2.1 _ _ x5 (2 : Int32)  _ h) kw_14_10 kw_1_5 kw_14_7 kw_14_8 kw_14_9 hd_X6_get ⟨by decide, by decide⟩ (w.recv C (i := 57) (by decide) (pE_6) rfl) rfl (Nat.le_of_ble_eq_true rfl) dX6_bridge_73) (fun r13 M14 H locs h w => ?_)
    refine lv_aload_n hx hb dX6_bridge_76 rfl (lv_at hl 0 rfl) ?_
    refine lv_iload hx hb dX6_bridge_77 (lv_at hl 5 rfl) ?_
    refine lv_iconst (v := 0) hx hb dX6_bridge_79 (by decide) ?_
    refine end_i w (run_V (As := [.int x5, .int (0 : Int32)]) C w hl.1 (c_X6_get l G C.2.2.1 _ _ x5 (0 : Int32)  _ h) kw_14_10 kw_1_5 kw_14_7 kw_14_8 kw_14_9 hd_X6_get ⟨by decide, by decide⟩ (w.recv C (i := 57) (by decide) (pE_6) rfl) rfl (Nat.le_of_ble_eq_true rfl) dX6_bridge_80) (fun r15 M16 H locs h w => ?_)
    refine lv_aload_n hx hb dX6_bridge_83 rfl (lv_at hl 0 rfl) ?_
    refine lv_iload hx hb dX6_bridge_84 (lv_at hl 5 rfl) ?_
    refine lv_iconst (v := 1) hx hb dX6_bridge_86 (by decide) ?_
    refine end_i w (run_V (As := [.int x5, .int (1 : Int32)]) C w hl.1 (c_X6_get l G C.2.2.1 _ _ x5 (1 : Int32)  _ h) kw_14_10 kw_1_5 kw_14_7 kw_14_8 kw_14_9 hd_X6_get ⟨by decide, by decide⟩ (w.recv C (i := 57) (by decide) (pE_6) rfl) rfl (Nat.le_of_ble_eq_true rfl) dX6_bridge_87) (fun r17 M18 H locs h w => ?_)
    refine end_i w (run_S (As := [.int r15, .int r17]) C w hl.1 (c_X6_giveBy l G C.2.2.1 _ _ r15 r17  _ h) kw_14_16 kw_1_5 kw_14_14 kw_14_15 hd_X6_giveBy ⟨by decide, by decide⟩ rfl (Nat.le_of_ble_eq_true rfl) dX6_bridge_90) (fun r19 M20 H locs h w => ?_)
    refine lv_imul hx hb dX6_bridge_93 ?_
    refine lv_iadd hx hb dX6_bridge_94 ?_
    refine lv_istore (lv' := [(4, .int (x4 + (r13 * r19))), (0, .ref (ga G 57)), (1, .int x1), (2, .int x2), (3, .int x3), (5, .int x5)]) hx hb dX6_bridge_95 hl (by decide) rfl (fun ls hl => ?_)
    refine lv_iinc (v := (x5 + (1 : Int32))) (lv' := [(5, .int (x5 + (1 : Int32))), (4, .int (x4 + (r13 * r19))), (0, .ref (ga G 57)), (1, .int x1), (2, .int x2), (3, .int x3)]) hx hb dX6_bridge_97 hl (k := 5) rfl rfl (by decide) rfl (fun ls hl => ?_)
    refine lv_goto (tgt := 56) hx hb dX6_bridge_100 (by decide) ?_
    exact hk56 M20 x1 x2 x3 (x4 + (r13 * r19)) (x5 + (1 : Int32)) _ _ _  w (lv_sub hl [2, 3, 4, 5, 1, 0] rfl) h
set_option maxHeartbeats 4000000 in
set_option maxRecDepth 100000 in
theorem t_X6_bridge_24 (C : Cx G p s m args meth c RX6 cX6_bridge 6 (some .int)) {post : Int32 → Mem → Prop} (M : Mem) {H : Heap} {locs : List Loc} {ls : Array Slot} (w : Wd G s M H locs) (hl : lv_has ls 6 []) (h : j_X6_bridge_24 post M) : W p l e (rmk 5) s m args below meth c H locs 0 0 (MQ below (va_Qi post (Qw G) (Af G s.heap.size)) args s 0 0 (Af G s.heap.size)) (F0 m 24 ls []) := by
  have hx := C.1.1
  have hb := C.1.2.1
  unfold j_X6_bridge_24 at h
  refine lv_ldc hx hb C.1.2.2.2.1 (C.ws kw_25_15) dX6_bridge_24 ?_
  exact ret_i C w h dX6_bridge_26
set_option maxHeartbeats 4000000 in
set_option maxRecDepth 100000 in
theorem c_X6_bridge (l : Launch) (G : GG) (hG : Ag G) (sz : Nat) (M : Mem) (x1 : Int32) (x2 : Int32) (post : Int32 → Mem → Prop) (h : q_X6_bridge M x1 x2 post) : Met l yX6_bridge (Cond.code yX6_bridge cX6_bridge 6 (some .int) :: wsL_law) (rmk 5) (va_Pc [.ref (ga G 57), .int x1, .int x2] (Pw G sz M)) (va_Qi post (Qw G) (Af G sz)) 0 0 (Af G sz) := by
  refine Met.ofW (cc := cX6_bridge) (maxL := 6) (ret := (some .int)) (by decide) rfl ?_
  intro p e s m args below meth c s₁ B hml hv
  obtain ⟨rfl, hsz, hE, hP⟩ := hv
  subst hsz
  have C := Cx.of (own := RX6) hG hE rfl hml B
  have w : Wd G s M s.heap [] := ⟨hP, va_S.rf⟩
  have hl := lv_entry [.ref (ga G 57), .int x1, .int x2] (n := 6) (Nat.le_of_ble_eq_true rfl)
  rw [lg_entry_eq]
  generalize (lg_sl [.ref (ga G 57), .int x1, .int x2] ++ List.replicate (6 - (lg_sl [.ref (ga G 57), .int x1, .int x2]).length) Slot.unset).toArray = ls at hl ⊢
  have hl : lv_has ls 6 [(0, .ref (ga G 57)), (1, .int x1), (2, .int x2)] := hl
  have hx := C.1.1
  have hb := C.1.2.1
  show W p l e (rmk 5) s m _ below meth c s.heap [] 0 0 _ _
  unfold q_X6_bridge at h
  refine lv_iload_n hx hb dX6_bridge_0 rfl (lv_at hl 1 rfl) ?_
  refine lv_i2l hx hb dX6_bridge_1 rfl ?_
  refine lv_lconst (v := 0) hx hb dX6_bridge_2 (by decide) ?_
  refine lv_ldc2 hx hb C.1.2.2.2.1 (C.ws kw_12_2) dX6_bridge_3 ?_
  refine end_i w (run_S (As := [.long x1.toInt64, .long (0 : Int64), .long (7 : Int64)]) C w hl.1 (c_X6_isIn l G C.2.2.1 _ _ x1.toInt64 (0 : Int64) (7 : Int64)  _ h) kw_12_5 kw_1_5 kw_12_3 kw_12_4 hd_X6_isIn ⟨by decide, by decide⟩ rfl (Nat.le_of_ble_eq_true rfl) dX6_bridge_6) (fun r21 M22 H locs h w => ?_)
  refine lv_if_eq (tgt := 24) hx hb dX6_bridge_9 (by decide) (fun c23 => ?_) (fun c23 => ?_)
  · replace h := h.1 c23
    exact t_X6_bridge_24 C M22   w (lv_sub hl [] rfl) h
  replace h := h.2 c23
  refine lv_iload_n hx hb dX6_bridge_12 rfl (lv_at hl 2 rfl) ?_
  refine lv_i2l hx hb dX6_bridge_13 rfl ?_
  refine lv_lconst (v := 1) hx hb dX6_bridge_14 (by decide) ?_
  refine lv_ldc2 hx hb C.1.2.2.2.1 (C.ws kw_13_13) dX6_bridge_15 ?_
  refine end_i w (run_S (As := [.long x2.toInt64, .long (1 : Int64), .long (99 : Int64)]) C w hl.1 (c_X6_isIn l G C.2.2.1 _ _ x2.toInt64 (1 : Int64) (99 : Int64)  _ h) kw_12_5 kw_1_5 kw_12_3 kw_12_4 hd_X6_isIn ⟨by decide, by decide⟩ rfl (Nat.le_of_ble_eq_true rfl) dX6_bridge_18) (fun r24 M25 H locs h w => ?_)
  refine lv_if_ne (tgt := 27) hx hb dX6_bridge_21 (by decide) (fun c26 => ?_) (fun c26 => ?_)
  · replace h := h.2 c26
    refine lv_aload_n hx hb dX6_bridge_27 rfl (lv_at hl 0 rfl) ?_
    refine end_i w (run_V (As := []) C w hl.1 (c_X6_isLine l G C.2.2.1 _ _   _ h) kw_17_11 kw_1_5 kw_17_8 kw_17_9 kw_17_10 hd_X6_isLine ⟨by decide, by decide⟩ (w.recv C (i := 57) (by decide) (pE_6) rfl) rfl (Nat.le_of_ble_eq_true rfl) dX6_bridge_28) (fun r27 M28 H locs h w => ?_)
    refine lv_if_ne (tgt := 37) hx hb dX6_bridge_31 (by decide) (fun c29 => ?_) (fun c29 => ?_)
    · replace h := h.2 c29
      refine lv_aload_n hx hb dX6_bridge_37 rfl (lv_at hl 0 rfl) ?_
      refine lv_aload_n hx hb dX6_bridge_38 rfl (lv_at hl 0 rfl) ?_
      refine end_i w (run_V (As := []) C w hl.1 (c_X6_allPieces l G C.2.2.1 _ _   _ h) kw_17_15 kw_1_5 kw_17_12 kw_17_13 kw_17_14 hd_X6_allPieces ⟨by decide, by decide⟩ (w.recv C (i := 57) (by decide) (pE_6) rfl) rfl (Nat.le_of_ble_eq_true rfl) dX6_bridge_39) (fun r30 M31 H locs h w => ?_)
      refine end_v w (run_V (As := [.int r30]) C w hl.1 (c_X6_sumsUp l G C.2.2.1 _ _ r30  _ h) kw_17_19 kw_1_5 kw_17_16 kw_17_17 kw_17_18 hd_X6_sumsUp ⟨by decide, by decide⟩ (w.recv C (i := 57) (by decide) (pE_6) rfl) rfl (Nat.le_of_ble_eq_true rfl) dX6_bridge_42) (fun M33 H locs h w => ?_)
      refine lv_aload_n hx hb dX6_bridge_45 rfl (lv_at hl 0 rfl) ?_
      refine end_i w (run_V (As := []) C w hl.1 (c_X6_greatestOf l G C.2.2.1 _ _   _ h) kw_23_4 kw_1_5 kw_23_1 kw_23_2 kw_23_3 hd_X6_greatestOf ⟨by decide, by decide⟩ (w.recv C (i := 57) (by decide) (pE_6) rfl) rfl (Nat.le_of_ble_eq_true rfl) dX6_bridge_46) (fun r34 M35 H locs h w => ?_)
      refine lv_istore_n (lv' := [(3, .int r34), (0, .ref (ga G 57)), (1, .int x1), (2, .int x2)]) hx hb dX6_bridge_49 rfl hl (by decide) rfl (fun ls hl => ?_)
      refine lv_iconst (v := 0) hx hb dX6_bridge_50 (by decide) ?_
      refine lv_istore (lv' := [(4, .int (0 : Int32)), (3, .int r34), (0, .ref (ga G 57)), (1, .int x1), (2, .int x2)]) hx hb dX6_bridge_51 hl (by decide) rfl (fun ls hl => ?_)
      refine lv_iconst (v := 0) hx hb dX6_bridge_53 (by decide) ?_
      refine lv_istore (lv' := [(5, .int (0 : Int32)), (4, .int (0 : Int32)), (3, .int r34), (0, .ref (ga G 57)), (1, .int x1), (2, .int x2)]) hx hb dX6_bridge_54 hl (by decide) rfl (fun ls hl => ?_)
      obtain ⟨n, h⟩ := h
      exact t_X6_bridge_56 C n M35 x1 x2 r34 (0 : Int32) (0 : Int32)  w (lv_sub hl [3, 4, 5, 2, 1, 0] rfl) h
    replace h := h.1 c29
    refine lv_ldc hx hb C.1.2.2.2.1 (C.ws kw_25_16) dX6_bridge_34 ?_
    exact ret_i C w h dX6_bridge_36
  replace h := h.1 c26
  exact t_X6_bridge_24 C M25   w (lv_sub hl [] rfl) h
def j_X5_fouls_34 (post : Int32 → Mem → Prop) (M : Mem) (y0 : Int32) : Prop := post y0 M
def q_X5_fouls (M : Mem) (post : Int32 → Mem → Prop) : Prop := q_X5_layLine M  (fun r1 M2 => (r1 = 0 → (post (-3 : Int32) M2)) ∧ (¬ (r1 = 0) → (q_X0_hang M2  (fun r4 M5 => (r4 ≤ (M5 11 3) → (j_X5_fouls_34 post M5 (0 : Int32))) ∧ (¬ (r4 ≤ (M5 11 3)) → (j_X5_fouls_34 post M5 (1 : Int32)))))))
set_option maxHeartbeats 4000000 in
set_option maxRecDepth 100000 in
theorem t_X5_fouls_34 (C : Cx G p s m args meth c RX5 cX5_fouls 1 (some .int)) {post : Int32 → Mem → Prop} (M : Mem) (y0 : Int32) {H : Heap} {locs : List Loc} {ls : Array Slot} (w : Wd G s M H locs) (hl : lv_has ls 1 []) (h : j_X5_fouls_34 post M y0) : W p l e (rmk 3) s m args below meth c H locs 0 0 (MQ below (va_Qi post (Qw G) (Af G s.heap.size)) args s 0 0 (Af G s.heap.size)) (F0 m 34 ls [.int y0]) := by
  have hx := C.1.1
  have hb := C.1.2.1
  unfold j_X5_fouls_34 at h
  exact ret_i C w h dX5_fouls_34
set_option maxHeartbeats 4000000 in
set_option maxRecDepth 100000 in
theorem c_X5_fouls (l : Launch) (G : GG) (hG : Ag G) (sz : Nat) (M : Mem) (post : Int32 → Mem → Prop) (h : q_X5_fouls M post) : Met l yX5_fouls (Cond.code yX5_fouls cX5_fouls 1 (some .int) :: wsL_law) (rmk 3) (va_Pc [.ref (ga G 0)] (Pw G sz M)) (va_Qi post (Qw G) (Af G sz)) 0 0 (Af G sz) := by
  refine Met.ofW (cc := cX5_fouls) (maxL := 1) (ret := (some .int)) (by decide) rfl ?_
  intro p e s m args below meth c s₁ B hml hv
  obtain ⟨rfl, hsz, hE, hP⟩ := hv
  subst hsz
  have C := Cx.of (own := RX5) hG hE rfl hml B
  have w : Wd G s M s.heap [] := ⟨hP, va_S.rf⟩
  have hl := lv_entry [.ref (ga G 0)] (n := 1) (Nat.le_of_ble_eq_true rfl)
  rw [lg_entry_eq]
  generalize (lg_sl [.ref (ga G 0)] ++ List.replicate (1 - (lg_sl [.ref (ga G 0)]).length) Slot.unset).toArray = ls at hl ⊢
  have hl : lv_has ls 1 [(0, .ref (ga G 0))] := hl
  have hx := C.1.1
  have hb := C.1.2.1
  show W p l e (rmk 3) s m _ below meth c s.heap [] 0 0 _ _
  unfold q_X5_fouls at h
  refine lv_aload_n hx hb dX5_fouls_0 rfl (lv_at hl 0 rfl) ?_
  refine end_i w (run_V (As := []) C w hl.1 (c_X5_layLine l G C.2.2.1 _ _   _ h) kw_15_21 kw_1_2 kw_15_18 kw_15_19 kw_15_20 hd_X5_layLine ⟨by decide, by decide⟩ (w.recv C (i := 0) (by decide) (pE_5) rfl) rfl (Nat.le_of_ble_eq_true rfl) dX5_fouls_1) (fun r1 M2 H locs h w => ?_)
  refine lv_if_ne (tgt := 10) hx hb dX5_fouls_4 (by decide) (fun c3 => ?_) (fun c3 => ?_)
  · replace h := h.2 c3
    refine lv_aload_n hx hb dX5_fouls_10 rfl (lv_at hl 0 rfl) ?_
    refine gt_5_3 C w kw_1_22 dX5_fouls_11 ?_
    refine end_i w (run_VN (As := []) C w hl.1 (c_X0_hang l G C.2.2.1 _ _   _ h) kw_16_16 kw_1_21 kn_59 kw_16_14 kw_16_15 hd_X0_hang ⟨by decide, by decide⟩ (w.recv C (i := 4) (by decide) (pE_0) rfl) rfl (Nat.le_of_ble_eq_true rfl) dX5_fouls_14) (fun r4 M5 H locs h w => ?_)
    refine lv_aload_n hx hb dX5_fouls_17 rfl (lv_at hl 0 rfl) ?_
    refine gt_5_0 C w kw_1_16 dX5_fouls_18 ?_
    refine gn_4_2 C w ⟨by decide, by decide⟩ kn_16 dX5_fouls_21 ?_
    refine lv_iconst (v := 3) hx hb dX5_fouls_24 (by decide) ?_
    refine pw_ld C w (i := 11) (by decide) (pE_st ⟨by decide, by decide⟩) (vl (x := (3 : Int32)) (by decide)) (k := 3) (by decide) dX5_fouls_25 ?_
    refine lv_icmp_le (tgt := 33) hx hb dX5_fouls_26 (by decide) (fun c6 => ?_) (fun c6 => ?_)
    · replace h := h.1 c6
      refine lv_iconst (v := 0) hx hb dX5_fouls_33 (by decide) ?_
      exact t_X5_fouls_34 C M5 (0 : Int32)  w (lv_sub hl [] rfl) h
    replace h := h.2 c6
    refine lv_iconst (v := 1) hx hb dX5_fouls_29 (by decide) ?_
    refine lv_goto (tgt := 34) hx hb dX5_fouls_30 (by decide) ?_
    exact t_X5_fouls_34 C M5 (1 : Int32)  w (lv_sub hl [] rfl) h
  replace h := h.1 c3
  refine lv_bipush (v := -3) hx hb dX5_fouls_7 (by decide) ?_
  exact ret_i C w h dX5_fouls_9
def j_X6_isFoul_27 (post : Int32 → Mem → Prop) (M : Mem) (y0 : Int32) : Prop := (y0 = 0 ∨ y0 = 1) ∧ post y0 M
def q_X6_isFoul (M : Mem) (post : Int32 → Mem → Prop) : Prop := q_X6_allPieces M  (fun r1 M2 => q_X6_sumsUp M2 r1 (fun M4 => q_X6_hang M4  (fun r5 M6 => (r5 ≤ (M6 58 8) → (j_X6_isFoul_27 post M6 (0 : Int32))) ∧ (¬ (r5 ≤ (M6 58 8)) → (j_X6_isFoul_27 post M6 (1 : Int32))))))
set_option maxHeartbeats 4000000 in
set_option maxRecDepth 100000 in
theorem t_X6_isFoul_27 (C : Cx G p s m args meth c RX6 cX6_isFoul 1 (some .boolean)) {post : Int32 → Mem → Prop} (M : Mem) (y0 : Int32) {H : Heap} {locs : List Loc} {ls : Array Slot} (w : Wd G s M H locs) (hl : lv_has ls 1 []) (h : j_X6_isFoul_27 post M y0) : W p l e (rmk 3) s m args below meth c H locs 0 0 (MQ below (va_Qi post (Qw G) (Af G s.heap.size)) args s 0 0 (Af G s.heap.size)) (F0 m 27 ls [.int y0]) := by
  have hx := C.1.1
  have hb := C.1.2.1
  unfold j_X6_isFoul_27 at h
  exact ret_z C w h dX6_isFoul_27
set_option maxHeartbeats 4000000 in
set_option maxRecDepth 100000 in
theorem c_X6_isFoul (l : Launch) (G : GG) (hG : Ag G) (sz : Nat) (M : Mem) (post : Int32 → Mem → Prop) (h : q_X6_isFoul M post) : Met l yX6_isFoul (Cond.code yX6_isFoul cX6_isFoul 1 (some .boolean) :: wsL_law) (rmk 3) (va_Pc [.ref (ga G 57)] (Pw G sz M)) (va_Qi post (Qw G) (Af G sz)) 0 0 (Af G sz) := by
  refine Met.ofW (cc := cX6_isFoul) (maxL := 1) (ret := (some .boolean)) (by decide) rfl ?_
  intro p e s m args below meth c s₁ B hml hv
  obtain ⟨rfl, hsz, hE, hP⟩ := hv
  subst hsz
  have C := Cx.of (own := RX6) hG hE rfl hml B
  have w : Wd G s M s.heap [] := ⟨hP, va_S.rf⟩
  have hl := lv_entry [.ref (ga G 57)] (n := 1) (Nat.le_of_ble_eq_true rfl)
  rw [lg_entry_eq]
  generalize (lg_sl [.ref (ga G 57)] ++ List.replicate (1 - (lg_sl [.ref (ga G 57)]).length) Slot.unset).toArray = ls at hl ⊢
  have hl : lv_has ls 1 [(0, .ref (ga G 57))] := hl
  have hx := C.1.1
  have hb := C.1.2.1
  show W p l e (rmk 3) s m _ below meth c s.heap [] 0 0 _ _
  unfold q_X6_isFoul at h
  refine lv_aload_n hx hb dX6_isFoul_0 rfl (lv_at hl 0 rfl) ?_
  refine lv_aload_n hx hb dX6_isFoul_1 rfl (lv_at hl 0 rfl) ?_
  refine end_i w (run_V (As := []) C w hl.1 (c_X6_allPieces l G C.2.2.1 _ _   _ h) kw_17_15 kw_1_5 kw_17_12 kw_17_13 kw_17_14 hd_X6_allPieces ⟨by decide, by decide⟩ (w.recv C (i := 57) (by decide) (pE_6) rfl) rfl (Nat.le_of_ble_eq_true rfl) dX6_isFoul_2) (fun r1 M2 H locs h w => ?_)
  refine end_v w (run_V (As := [.int r1]) C w hl.1 (c_X6_sumsUp l G C.2.2.1 _ _ r1  _ h) kw_17_19 kw_1_5 kw_17_16 kw_17_17 kw_17_18 hd_X6_sumsUp ⟨by decide, by decide⟩ (w.recv C (i := 57) (by decide) (pE_6) rfl) rfl (Nat.le_of_ble_eq_true rfl) dX6_isFoul_5) (fun M4 H locs h w => ?_)
  refine lv_aload_n hx hb dX6_isFoul_8 rfl (lv_at hl 0 rfl) ?_
  refine end_i w (run_V (As := []) C w hl.1 (c_X6_hang l G C.2.2.1 _ _   _ h) kw_18_3 kw_1_5 kw_18_0 kw_18_1 kw_18_2 hd_X6_hang ⟨by decide, by decide⟩ (w.recv C (i := 57) (by decide) (pE_6) rfl) rfl (Nat.le_of_ble_eq_true rfl) dX6_isFoul_9) (fun r5 M6 H locs h w => ?_)
  refine lv_aload_n hx hb dX6_isFoul_12 rfl (lv_at hl 0 rfl) ?_
  refine gt_6_0 C w kw_5_0 dX6_isFoul_13 ?_
  refine lv_bipush (v := 8) hx hb dX6_isFoul_16 (by decide) ?_
  refine pw_ld C w (i := 58) (by decide) pE_58 (vl (x := (8 : Int32)) (by decide)) (k := 8) (by decide) dX6_isFoul_18 ?_
  refine lv_icmp_le (tgt := 26) hx hb dX6_isFoul_19 (by decide) (fun c7 => ?_) (fun c7 => ?_)
  · replace h := h.1 c7
    refine lv_iconst (v := 0) hx hb dX6_isFoul_26 (by decide) ?_
    exact t_X6_isFoul_27 C M6 (0 : Int32)  w (lv_sub hl [] rfl) h
  replace h := h.2 c7
  refine lv_iconst (v := 1) hx hb dX6_isFoul_22 (by decide) ?_
  refine lv_goto (tgt := 27) hx hb dX6_isFoul_23 (by decide) ?_
  exact t_X6_isFoul_27 C M6 (1 : Int32)  w (lv_sub hl [] rfl) h
def j_X6_fouls_24 (post : Int32 → Mem → Prop) (M : Mem) (y0 : Int32) : Prop := post y0 M
def q_X6_fouls (M : Mem) (post : Int32 → Mem → Prop) : Prop := q_X6_isLine M  (fun r1 M2 => (r1 = 0 → (j_X6_fouls_24 post M2 (-3 : Int32))) ∧ (¬ (r1 = 0) → (q_X6_isFoul M2  (fun r4 M5 => (r4 = 0 → (j_X6_fouls_24 post M5 (0 : Int32))) ∧ (¬ (r4 = 0) → (j_X6_fouls_24 post M5 (1 : Int32)))))))
set_option maxHeartbeats 4000000 in
set_option maxRecDepth 100000 in
theorem t_X6_fouls_24 (C : Cx G p s m args meth c RX6 cX6_fouls 1 (some .int)) {post : Int32 → Mem → Prop} (M : Mem) (y0 : Int32) {H : Heap} {locs : List Loc} {ls : Array Slot} (w : Wd G s M H locs) (hl : lv_has ls 1 []) (h : j_X6_fouls_24 post M y0) : W p l e (rmk 4) s m args below meth c H locs 0 0 (MQ below (va_Qi post (Qw G) (Af G s.heap.size)) args s 0 0 (Af G s.heap.size)) (F0 m 24 ls [.int y0]) := by
  have hx := C.1.1
  have hb := C.1.2.1
  unfold j_X6_fouls_24 at h
  exact ret_i C w h dX6_fouls_24
set_option maxHeartbeats 4000000 in
set_option maxRecDepth 100000 in
theorem c_X6_fouls (l : Launch) (G : GG) (hG : Ag G) (sz : Nat) (M : Mem) (post : Int32 → Mem → Prop) (h : q_X6_fouls M post) : Met l yX6_fouls (Cond.code yX6_fouls cX6_fouls 1 (some .int) :: wsL_law) (rmk 4) (va_Pc [.ref (ga G 57)] (Pw G sz M)) (va_Qi post (Qw G) (Af G sz)) 0 0 (Af G sz) := by
  refine Met.ofW (cc := cX6_fouls) (maxL := 1) (ret := (some .int)) (by decide) rfl ?_
  intro p e s m args below meth c s₁ B hml hv
  obtain ⟨rfl, hsz, hE, hP⟩ := hv
  subst hsz
  have C := Cx.of (own := RX6) hG hE rfl hml B
  have w : Wd G s M s.heap [] := ⟨hP, va_S.rf⟩
  have hl := lv_entry [.ref (ga G 57)] (n := 1) (Nat.le_of_ble_eq_true rfl)
  rw [lg_entry_eq]
  generalize (lg_sl [.ref (ga G 57)] ++ List.replicate (1 - (lg_sl [.ref (ga G 57)]).length) Slot.unset).toArray = ls at hl ⊢
  have hl : lv_has ls 1 [(0, .ref (ga G 57))] := hl
  have hx := C.1.1
  have hb := C.1.2.1
  show W p l e (rmk 4) s m _ below meth c s.heap [] 0 0 _ _
  unfold q_X6_fouls at h
  refine lv_aload_n hx hb dX6_fouls_0 rfl (lv_at hl 0 rfl) ?_
  refine end_i w (run_V (As := []) C w hl.1 (c_X6_isLine l G C.2.2.1 _ _   _ h) kw_17_11 kw_1_5 kw_17_8 kw_17_9 kw_17_10 hd_X6_isLine ⟨by decide, by decide⟩ (w.recv C (i := 57) (by decide) (pE_6) rfl) rfl (Nat.le_of_ble_eq_true rfl) dX6_fouls_1) (fun r1 M2 H locs h w => ?_)
  refine lv_if_ne (tgt := 12) hx hb dX6_fouls_4 (by decide) (fun c3 => ?_) (fun c3 => ?_)
  · replace h := h.2 c3
    refine lv_aload_n hx hb dX6_fouls_12 rfl (lv_at hl 0 rfl) ?_
    refine end_i w (run_V (As := []) C w hl.1 (c_X6_isFoul l G C.2.2.1 _ _   _ h) kw_26_4 kw_1_5 kw_26_1 kw_26_2 kw_26_3 hd_X6_isFoul ⟨by decide, by decide⟩ (w.recv C (i := 57) (by decide) (pE_6) rfl) rfl (Nat.le_of_ble_eq_true rfl) dX6_fouls_13) (fun r4 M5 H locs h w => ?_)
    refine lv_if_eq (tgt := 23) hx hb dX6_fouls_16 (by decide) (fun c6 => ?_) (fun c6 => ?_)
    · replace h := h.1 c6
      refine lv_iconst (v := 0) hx hb dX6_fouls_23 (by decide) ?_
      exact t_X6_fouls_24 C M5 (0 : Int32)  w (lv_sub hl [] rfl) h
    replace h := h.2 c6
    refine lv_iconst (v := 1) hx hb dX6_fouls_19 (by decide) ?_
    refine lv_goto (tgt := 24) hx hb dX6_fouls_20 (by decide) ?_
    exact t_X6_fouls_24 C M5 (1 : Int32)  w (lv_sub hl [] rfl) h
  replace h := h.1 c3
  refine lv_bipush (v := -3) hx hb dX6_fouls_7 (by decide) ?_
  refine lv_goto (tgt := 24) hx hb dX6_fouls_9 (by decide) ?_
  exact t_X6_fouls_24 C M2 (-3 : Int32)  w (lv_sub hl [] rfl) h
def j_X5_fewestTakenIn_68 (post : Int32 → Mem → Prop) (M : Mem) (x3 : Int32) (x4 : Int32) : Prop := ∀ M1 : Mem, M1 = (mup M 4 1 x3) → (post x4 M1)
def j_X5_fewestTakenIn_62 (k15 : Mem → Nat → Int32 → Int32 → Int32 → Int32 → Prop) (post : Int32 → Mem → Prop) (M : Mem) (a1 : Nat) (x2 : Int32) (x3 : Int32) (x4 : Int32) (x5 : Int32) : Prop := k15 M a1 x2 x3 x4 (x5 + (1 : Int32))
def b_X5_fewestTakenIn_15 (k15 : Mem → Nat → Int32 → Int32 → Int32 → Int32 → Prop) (post : Int32 → Mem → Prop) (M : Mem) (a1 : Nat) (x2 : Int32) (x3 : Int32) (x4 : Int32) (x5 : Int32) : Prop := ((M a1 2) < x5 → (j_X5_fewestTakenIn_68 post M x3 x4)) ∧ (¬ ((M a1 2) < x5) → ((x4 = (-4 : Int32) → (∀ M4 : Mem, M4 = (mup M 4 1 (x3 - (x5 * (M a1 5)))) → (q_X0_hang M4  (fun r5 M6 => (x2 < r5 → (j_X5_fewestTakenIn_62 k15 post M6 a1 x2 x3 x4 x5)) ∧ (¬ (x2 < r5) → (j_X5_fewestTakenIn_62 k15 post M6 a1 x2 x3 x5 x5)))))) ∧ (¬ (x4 = (-4 : Int32)) → (j_X5_fewestTakenIn_68 post M x3 x4))))
def lp_X5_fewestTakenIn_15 (post : Int32 → Mem → Prop) : Nat → Mem → Nat → Int32 → Int32 → Int32 → Int32 → Prop
  | 0 => fun _ _ _ _ _ _ => False
  | n + 1 => fun M a1 x2 x3 x4 x5 => b_X5_fewestTakenIn_15 (lp_X5_fewestTakenIn_15 post n) post M a1 x2 x3 x4 x5
def q_X5_fewestTakenIn (M : Mem) (a1 : Nat) (x2 : Int32) (post : Int32 → Mem → Prop) : Prop := ∃ n, lp_X5_fewestTakenIn_15 post n M a1 x2 (M 4 1) (-4 : Int32) (1 : Int32)
set_option maxHeartbeats 4000000 in
set_option maxRecDepth 100000 in
theorem t_X5_fewestTakenIn_68 (C : Cx G p s m args meth c RX5 cX5_fewestTakenIn 6 (some .int)) {post : Int32 → Mem → Prop} (M : Mem) (x3 : Int32) (x4 : Int32) {H : Heap} {locs : List Loc} {ls : Array Slot} (w : Wd G s M H locs) (hl : lv_has ls 6 [(0, .ref (ga G 0)), (3, .int x3), (4, .int x4)]) (h : j_X5_fewestTakenIn_68 post M x3 x4) : W p l e (rmk 2) s m args below meth c H locs 0 0 (MQ below (va_Qi post (Qw G) (Af G s.heap.size)) args s 0 0 (Af G s.heap.size)) (F0 m 68 ls []) := by
  have hx := C.1.1
  have hb := C.1.2.1
  unfold j_X5_fewestTakenIn_68 at h
  refine lv_aload_n hx hb dX5_fewestTakenIn_68 rfl (lv_at hl 0 rfl) ?_
  refine gt_5_3 C w kw_1_22 dX5_fewestTakenIn_69 ?_
  refine lv_iload_n hx hb dX5_fewestTakenIn_72 rfl (lv_at hl 1 rfl) ?_
  refine pn_0_1 C w kn_25 dX5_fewestTakenIn_73 (fun H locs w => ?_)
  obtain ⟨M1, eM1⟩ : ∃ z : Mem, z = (mup M 4 1 x3) := ⟨_, rfl⟩
  replace w : Wd G s M1 H locs := by rw [eM1]; exact w
  replace h := h M1 eM1
  refine lv_iload hx hb dX5_fewestTakenIn_76 (lv_at hl 2 rfl) ?_
  exact ret_i C w h dX5_fewestTakenIn_78
set_option maxHeartbeats 4000000 in
set_option maxRecDepth 100000 in
theorem t_X5_fewestTakenIn_62 (C : Cx G p s m args meth c RX5 cX5_fewestTakenIn 6 (some .int)) {post : Int32 → Mem → Prop} {k15 : Mem → Nat → Int32 → Int32 → Int32 → Int32 → Prop} (hk15 : ∀ (M : Mem) (a1 : Nat) (x2 : Int32) (x3 : Int32) (x4 : Int32) (x5 : Int32) (H : Heap) (locs : List Loc) (ls : Array Slot), (30 ≤ a1 ∧ a1 < 57) → Wd G s M H locs → lv_has ls 6 [(0, .ref (ga G 0)), (1, .ref (ga G a1)), (2, .int x2), (3, .int x3), (4, .int x4), (5, .int x5)] → k15 M a1 x2 x3 x4 x5 → W p l e (rmk 2) s m args below meth c H locs 0 0 (MQ below (va_Qi post (Qw G) (Af G s.heap.size)) args s 0 0 (Af G s.heap.size)) (F0 m 15 ls [])) (M : Mem) (a1 : Nat) (x2 : Int32) (x3 : Int32) (x4 : Int32) (x5 : Int32) {H : Heap} {locs : List Loc} {ls : Array Slot} (ha1 : 30 ≤ a1 ∧ a1 < 57) (w : Wd G s M H locs) (hl : lv_has ls 6 [(0, .ref (ga G 0)), (1, .ref (ga G a1)), (2, .int x2), (3, .int x3), (4, .int x4), (5, .int x5)]) (h : j_X5_fewestTakenIn_62 k15 post M a1 x2 x3 x4 x5) : W p l e (rmk 2) s m args below meth c H locs 0 0 (MQ below (va_Qi post (Qw G) (Af G s.heap.size)) args s 0 0 (Af G s.heap.size)) (F0 m 62 ls []) := by
  have hx := C.1.1
  have hb := C.1.2.1
  unfold j_X5_fewestTakenIn_62 at h
  refine lv_iinc (v := (x5 + (1 : Int32))) (lv' := [(5, .int (x5 + (1 : Int32))), (0, .ref (ga G 0)), (1, .ref (ga G a1)), (2, .int x2), (3, .int x3), (4, .int x4)]) hx hb dX5_fewestTakenIn_62 hl (k := 5) rfl rfl (by decide) rfl (fun ls hl => ?_)
  refine lv_goto (tgt := 15) hx hb dX5_fewestTakenIn_65 (by decide) ?_
  exact hk15 M a1 x2 x3 x4 (x5 + (1 : Int32)) _ _ _ ha1 w (lv_sub hl [1, 2, 3, 4, 5, 0] rfl) h
set_option maxHeartbeats 4000000 in
set_option maxRecDepth 100000 in
theorem t_X5_fewestTakenIn_15 (C : Cx G p s m args meth c RX5 cX5_fewestTakenIn 6 (some .int)) {post : Int32 → Mem → Prop} : ∀ (n : Nat) (M : Mem) (a1 : Nat) (x2 : Int32) (x3 : Int32) (x4 : Int32) (x5 : Int32) {H : Heap} {locs : List Loc} {ls : Array Slot} (ha1 : 30 ≤ a1 ∧ a1 < 57) (w : Wd G s M H locs) (hl : lv_has ls 6 [(0, .ref (ga G 0)), (1, .ref (ga G a1)), (2, .int x2), (3, .int x3), (4, .int x4), (5, .int x5)]) (h : lp_X5_fewestTakenIn_15 post n M a1 x2 x3 x4 x5), W p l e (rmk 2) s m args below meth c H locs 0 0 (MQ below (va_Qi post (Qw G) (Af G s.heap.size)) args s 0 0 (Af G s.heap.size)) (F0 m 15 ls []) := by
  have hx := C.1.1
  have hb := C.1.2.1
  intro n9
  induction n9 with
  | zero => intro M a1 x2 x3 x4 x5 H locs ls ha1 w hl h; exact absurd h id
  | succ n9 ih9 =>
    intro M a1 x2 x3 x4 x5 H locs ls ha1 w hl h
    have hk15 : ∀ (M : Mem) (a1 : Nat) (x2 : Int32) (x3 : Int32) (x4 : Int32) (x5 : Int32) (H : Heap) (locs : List Loc) (ls : Array Slot), (30 ≤ a1 ∧ a1 < 57) → Wd G s M H locs → lv_has ls 6 [(0, .ref (ga G 0)), (1, .ref (ga G a1)), (2, .int x2), (3, .int x3), (4, .int x4), (5, .int x5)] → lp_X5_fewestTakenIn_15 post n9 M a1 x2 x3 x4 x5 → W p l e (rmk 2) s m args below meth c H locs 0 0 (MQ below (va_Qi post (Qw G) (Af G s.heap.size)) args s 0 0 (Af G s.heap.size)) (F0 m 15 ls []) := fun M a1 x2 x3 x4 x5 H locs ls ha1 w hl h => ih9 M a1 x2 x3 x4 x5 ha1 w hl h
    replace h : b_X5_fewestTakenIn_15 (lp_X5_fewestTakenIn_15 post n9) post M a1 x2 x3 x4 x5 := h
    unfold b_X5_fewestTakenIn_15 at h
    refine lv_iload hx hb dX5_fewestTakenIn_15 (lv_at hl 5 rfl) ?_
    refine lv_aload_n hx hb dX5_fewestTakenIn_17 rfl (lv_at hl 1 rfl) ?_
    refine gn_1_2 C w ha1 kn_3 dX5_fewestTakenIn_18 ?_
    refine lv_icmp_gt (tgt := 68) hx hb dX5_fewestTakenIn_21 (by decide) (fun c2 => ?_) (fun c2 => ?_)
    · replace h := h.1 c2
      exact t_X5_fewestTakenIn_68 C M x3 x4  w (lv_sub hl [0, 3, 4] rfl) h
    replace h := h.2 c2
    refine lv_iload hx hb dX5_fewestTakenIn_24 (lv_at hl 4 rfl) ?_
    refine lv_bipush (v := -4) hx hb dX5_fewestTakenIn_26 (by decide) ?_
    refine lv_icmp_ne (tgt := 68) hx hb dX5_fewestTakenIn_28 (by decide) (fun c3 => ?_) (fun c3 => ?_)
    · replace h := h.2 c3
      exact t_X5_fewestTakenIn_68 C M x3 x4  w (lv_sub hl [0, 3, 4] rfl) h
    replace h := h.1 c3
    refine lv_aload_n hx hb dX5_fewestTakenIn_31 rfl (lv_at hl 0 rfl) ?_
    refine gt_5_3 C w kw_1_22 dX5_fewestTakenIn_32 ?_
    refine lv_iload_n hx hb dX5_fewestTakenIn_35 rfl (lv_at hl 3 rfl) ?_
    refine lv_iload hx hb dX5_fewestTakenIn_36 (lv_at hl 5 rfl) ?_
    refine lv_aload_n hx hb dX5_fewestTakenIn_38 rfl (lv_at hl 1 rfl) ?_
    refine gn_1_5 C w ha1 kn_7 dX5_fewestTakenIn_39 ?_
    refine lv_imul hx hb dX5_fewestTakenIn_42 ?_
    refine lv_isub hx hb dX5_fewestTakenIn_43 ?_
    refine pn_0_1 C w kn_25 dX5_fewestTakenIn_44 (fun H locs w => ?_)
    obtain ⟨M4, eM4⟩ : ∃ z : Mem, z = (mup M 4 1 (x3 - (x5 * (M a1 5)))) := ⟨_, rfl⟩
    replace w : Wd G s M4 H locs := by rw [eM4]; exact w
    replace h := h M4 eM4
    refine lv_aload_n hx hb dX5_fewestTakenIn_47 rfl (lv_at hl 0 rfl) ?_
    refine gt_5_3 C w kw_1_22 dX5_fewestTakenIn_48 ?_
    refine end_i w (run_VN (As := []) C w hl.1 (c_X0_hang l G C.2.2.1 _ _   _ h) kw_16_16 kw_1_21 kn_59 kw_16_14 kw_16_15 hd_X0_hang ⟨by decide, by decide⟩ (w.recv C (i := 4) (by decide) (pE_0) rfl) rfl (Nat.le_of_ble_eq_true rfl) dX5_fewestTakenIn_51) (fun r5 M6 H locs h w => ?_)
    refine lv_iload_n hx hb dX5_fewestTakenIn_54 rfl (lv_at hl 2 rfl) ?_
    refine lv_icmp_gt (tgt := 62) hx hb dX5_fewestTakenIn_55 (by decide) (fun c7 => ?_) (fun c7 => ?_)
    · replace h := h.1 c7
      exact t_X5_fewestTakenIn_62 C hk15 M6 a1 x2 x3 x4 x5 ha1 w (lv_sub hl [0, 1, 2, 3, 4, 5] rfl) h
    replace h := h.2 c7
    refine lv_iload hx hb dX5_fewestTakenIn_58 (lv_at hl 5 rfl) ?_
    refine lv_istore (lv' := [(4, .int x5), (0, .ref (ga G 0)), (1, .ref (ga G a1)), (2, .int x2), (3, .int x3), (5, .int x5)]) hx hb dX5_fewestTakenIn_60 hl (by decide) rfl (fun ls hl => ?_)
    exact t_X5_fewestTakenIn_62 C hk15 M6 a1 x2 x3 x5 x5 ha1 w (lv_sub hl [1, 2, 3, 4, 0, 5] rfl) h
set_option maxHeartbeats 4000000 in
set_option maxRecDepth 100000 in
theorem c_X5_fewestTakenIn (l : Launch) (G : GG) (hG : Ag G) (sz : Nat) (M : Mem) (a1 : Nat) (x2 : Int32) (ha1 : 30 ≤ a1 ∧ a1 < 57) (post : Int32 → Mem → Prop) (h : q_X5_fewestTakenIn M a1 x2 post) : Met l yX5_fewestTakenIn (Cond.code yX5_fewestTakenIn cX5_fewestTakenIn 6 (some .int) :: wsL_law) (rmk 2) (va_Pc [.ref (ga G 0), .ref (ga G a1), .int x2] (Pw G sz M)) (va_Qi post (Qw G) (Af G sz)) 0 0 (Af G sz) := by
  refine Met.ofW (cc := cX5_fewestTakenIn) (maxL := 6) (ret := (some .int)) (by decide) rfl ?_
  intro p e s m args below meth c s₁ B hml hv
  obtain ⟨rfl, hsz, hE, hP⟩ := hv
  subst hsz
  have C := Cx.of (own := RX5) hG hE rfl hml B
  have w : Wd G s M s.heap [] := ⟨hP, va_S.rf⟩
  have hl := lv_entry [.ref (ga G 0), .ref (ga G a1), .int x2] (n := 6) (Nat.le_of_ble_eq_true rfl)
  rw [lg_entry_eq]
  generalize (lg_sl [.ref (ga G 0), .ref (ga G a1), .int x2] ++ List.replicate (6 - (lg_sl [.ref (ga G 0), .ref (ga G a1), .int x2]).length) Slot.unset).toArray = ls at hl ⊢
  have hl : lv_has ls 6 [(0, .ref (ga G 0)), (1, .ref (ga G a1)), (2, .int x2)] := hl
  have hx := C.1.1
  have hb := C.1.2.1
  show W p l e (rmk 2) s m _ below meth c s.heap [] 0 0 _ _
  unfold q_X5_fewestTakenIn at h
  refine lv_aload_n hx hb dX5_fewestTakenIn_0 rfl (lv_at hl 0 rfl) ?_
  refine gt_5_3 C w kw_1_22 dX5_fewestTakenIn_1 ?_
  refine gn_0_1 C w kn_25 dX5_fewestTakenIn_4 ?_
  refine lv_istore_n (lv' := [(3, .int (M 4 1)), (0, .ref (ga G 0)), (1, .ref (ga G a1)), (2, .int x2)]) hx hb dX5_fewestTakenIn_7 rfl hl (by decide) rfl (fun ls hl => ?_)
  refine lv_bipush (v := -4) hx hb dX5_fewestTakenIn_8 (by decide) ?_
  refine lv_istore (lv' := [(4, .int (-4 : Int32)), (3, .int (M 4 1)), (0, .ref (ga G 0)), (1, .ref (ga G a1)), (2, .int x2)]) hx hb dX5_fewestTakenIn_10 hl (by decide) rfl (fun ls hl => ?_)
  refine lv_iconst (v := 1) hx hb dX5_fewestTakenIn_12 (by decide) ?_
  refine lv_istore (lv' := [(5, .int (1 : Int32)), (4, .int (-4 : Int32)), (3, .int (M 4 1)), (0, .ref (ga G 0)), (1, .ref (ga G a1)), (2, .int x2)]) hx hb dX5_fewestTakenIn_13 hl (by decide) rfl (fun ls hl => ?_)
  obtain ⟨n, h⟩ := h
  exact t_X5_fewestTakenIn_15 C n M a1 x2 (M 4 1) (-4 : Int32) (1 : Int32) ha1 w (lv_sub hl [3, 4, 5, 2, 1, 0] rfl) h
def j_X5_takeIn_96 (k42 : Mem → Int32 → Int32 → Int32 → Int32 → Prop) (post : Int32 → Mem → Prop) (M : Mem) (x1 : Int32) (x2 : Int32) (x3 : Int32) (x4 : Int32) : Prop := k42 M x1 x2 x3 (x4 + (1 : Int32))
def b_X5_takeIn_42 (k42 : Mem → Int32 → Int32 → Int32 → Int32 → Prop) (post : Int32 → Mem → Prop) (M : Mem) (x1 : Int32) (x2 : Int32) (x3 : Int32) (x4 : Int32) : Prop := ((M 1 1) ≤ x4 → (post x2 M)) ∧ (¬ ((M 1 1) ≤ x4) → (vp_in x4 6 ∧ (q_X5_fewestTakenIn M (38 + x4.toNatClampNeg) x1 (fun r3 M4 => (r3 = (-4 : Int32) → (j_X5_takeIn_96 k42 post M4 x1 x2 x3 x4)) ∧ (¬ (r3 = (-4 : Int32)) → ((x3 ≤ r3 → (j_X5_takeIn_96 k42 post M4 x1 x2 x3 x4)) ∧ (¬ (x3 ≤ r3) → (j_X5_takeIn_96 k42 post M4 x1 (((100 : Int32) * x4) + r3) r3 x4))))))))
def lp_X5_takeIn_42 (post : Int32 → Mem → Prop) : Nat → Mem → Int32 → Int32 → Int32 → Int32 → Prop
  | 0 => fun _ _ _ _ _ => False
  | n + 1 => fun M x1 x2 x3 x4 => b_X5_takeIn_42 (lp_X5_takeIn_42 post n) post M x1 x2 x3 x4
def q_X5_takeIn (M : Mem) (post : Int32 → Mem → Prop) : Prop := q_X5_layLine M  (fun r7 M8 => (r7 = 0 → (post (-3 : Int32) M8)) ∧ (¬ (r7 = 0) → (q_X0_hang M8  (fun r10 M11 => ((M8 11 3) < r10 → (∃ n, lp_X5_takeIn_42 post n M11 (M8 11 3) (-4 : Int32) (100 : Int32) (0 : Int32))) ∧ (¬ ((M8 11 3) < r10) → (post (0 : Int32) M11))))))
set_option maxHeartbeats 4000000 in
set_option maxRecDepth 100000 in
theorem t_X5_takeIn_96 (C : Cx G p s m args meth c RX5 cX5_takeIn 6 (some .int)) {post : Int32 → Mem → Prop} {k42 : Mem → Int32 → Int32 → Int32 → Int32 → Prop} (hk42 : ∀ (M : Mem) (x1 : Int32) (x2 : Int32) (x3 : Int32) (x4 : Int32) (H : Heap) (locs : List Loc) (ls : Array Slot), Wd G s M H locs → lv_has ls 6 [(0, .ref (ga G 0)), (1, .int x1), (2, .int x2), (3, .int x3), (4, .int x4)] → k42 M x1 x2 x3 x4 → W p l e (rmk 3) s m args below meth c H locs 0 0 (MQ below (va_Qi post (Qw G) (Af G s.heap.size)) args s 0 0 (Af G s.heap.size)) (F0 m 42 ls [])) (M : Mem) (x1 : Int32) (x2 : Int32) (x3 : Int32) (x4 : Int32) {H : Heap} {locs : List Loc} {ls : Array Slot} (w : Wd G s M H locs) (hl : lv_has ls 6 [(0, .ref (ga G 0)), (1, .int x1), (2, .int x2), (3, .int x3), (4, .int x4)]) (h : j_X5_takeIn_96 k42 post M x1 x2 x3 x4) : W p l e (rmk 3) s m args below meth c H locs 0 0 (MQ below (va_Qi post (Qw G) (Af G s.heap.size)) args s 0 0 (Af G s.heap.size)) (F0 m 96 ls []) := by
  have hx := C.1.1
  have hb := C.1.2.1
  unfold j_X5_takeIn_96 at h
  refine lv_iinc (v := (x4 + (1 : Int32))) (lv' := [(4, .int (x4 + (1 : Int32))), (0, .ref (ga G 0)), (1, .int x1), (2, .int x2), (3, .int x3)]) hx hb dX5_takeIn_96 hl (k := 4) rfl rfl (by decide) rfl (fun ls hl => ?_)
  refine lv_goto (tgt := 42) hx hb dX5_takeIn_99 (by decide) ?_
  exact hk42 M x1 x2 x3 (x4 + (1 : Int32)) _ _ _  w (lv_sub hl [1, 2, 3, 4, 0] rfl) h
set_option maxHeartbeats 4000000 in
set_option maxRecDepth 100000 in
theorem t_X5_takeIn_42 (C : Cx G p s m args meth c RX5 cX5_takeIn 6 (some .int)) {post : Int32 → Mem → Prop} : ∀ (n : Nat) (M : Mem) (x1 : Int32) (x2 : Int32) (x3 : Int32) (x4 : Int32) {H : Heap} {locs : List Loc} {ls : Array Slot} (w : Wd G s M H locs) (hl : lv_has ls 6 [(0, .ref (ga G 0)), (1, .int x1), (2, .int x2), (3, .int x3), (4, .int x4)]) (h : lp_X5_takeIn_42 post n M x1 x2 x3 x4), W p l e (rmk 3) s m args below meth c H locs 0 0 (MQ below (va_Qi post (Qw G) (Af G s.heap.size)) args s 0 0 (Af G s.heap.size)) (F0 m 42 ls []) := by
  have hx := C.1.1
  have hb := C.1.2.1
  intro n9
  induction n9 with
  | zero => intro M x1 x2 x3 x4 H locs ls w hl h; exact absurd h id
  | succ n9 ih9 =>
    intro M x1 x2 x3 x4 H locs ls w hl h
    have hk42 : ∀ (M : Mem) (x1 : Int32) (x2 : Int32) (x3 : Int32) (x4 : Int32) (H : Heap) (locs : List Loc) (ls : Array Slot), Wd G s M H locs → lv_has ls 6 [(0, .ref (ga G 0)), (1, .int x1), (2, .int x2), (3, .int x3), (4, .int x4)] → lp_X5_takeIn_42 post n9 M x1 x2 x3 x4 → W p l e (rmk 3) s m args below meth c H locs 0 0 (MQ below (va_Qi post (Qw G) (Af G s.heap.size)) args s 0 0 (Af G s.heap.size)) (F0 m 42 ls []) := fun M x1 x2 x3 x4 H locs ls w hl h => ih9 M x1 x2 x3 x4 w hl h
    replace h : b_X5_takeIn_42 (lp_X5_takeIn_42 post n9) post M x1 x2 x3 x4 := h
    unfold b_X5_takeIn_42 at h
    refine lv_iload hx hb dX5_takeIn_42 (lv_at hl 4 rfl) ?_
    refine lv_aload_n hx hb dX5_takeIn_44 rfl (lv_at hl 0 rfl) ?_
    refine gt_5_0 C w kw_1_16 dX5_takeIn_45 ?_
    refine gn_4_1 C w ⟨by decide, by decide⟩ kn_14 dX5_takeIn_48 ?_
    refine lv_icmp_ge (tgt := 102) hx hb dX5_takeIn_51 (by decide) (fun c1 => ?_) (fun c1 => ?_)
    · replace h := h.1 c1
      refine lv_iload_n hx hb dX5_takeIn_102 rfl (lv_at hl 2 rfl) ?_
      exact ret_i C w h dX5_takeIn_103
    replace h := h.2 c1
    refine lv_aload_n hx hb dX5_takeIn_54 rfl (lv_at hl 0 rfl) ?_
    refine lv_aload_n hx hb dX5_takeIn_55 rfl (lv_at hl 0 rfl) ?_
    refine gt_5_0 C w kw_1_16 dX5_takeIn_56 ?_
    refine gn_4_0 C w ⟨by decide, by decide⟩ kn_13 dX5_takeIn_59 ?_
    refine lv_iload hx hb dX5_takeIn_62 (lv_at hl 4 rfl) ?_
    have hin2 := h.1
    replace h := h.2
    have hz_hin2 := in_lt hin2
    refine pw_ldP C w (i := 8) ⟨by decide, by decide⟩ hin2 dX5_takeIn_64 (j := (38 + x4.toNatClampNeg)) (by omega) ?_
    refine lv_iload_n hx hb dX5_takeIn_65 rfl (lv_at hl 1 rfl) ?_
    refine end_i w (run_V (As := [.ref (ga G (38 + x4.toNatClampNeg)), .int x1]) C w hl.1 (c_X5_fewestTakenIn l G C.2.2.1 _ _ (38 + x4.toNatClampNeg) x1 (by omega) _ h) kw_26_12 kw_1_2 kw_26_9 kw_26_10 kw_26_11 hd_X5_fewestTakenIn ⟨by decide, by decide⟩ (w.recv C (i := 0) (by decide) (pE_5) rfl) rfl (Nat.le_of_ble_eq_true rfl) dX5_takeIn_66) (fun r3 M4 H locs h w => ?_)
    refine lv_istore (lv' := [(5, .int r3), (0, .ref (ga G 0)), (1, .int x1), (2, .int x2), (3, .int x3), (4, .int x4)]) hx hb dX5_takeIn_69 hl (by decide) rfl (fun ls hl => ?_)
    refine lv_iload hx hb dX5_takeIn_71 (lv_at hl 0 rfl) ?_
    refine lv_bipush (v := -4) hx hb dX5_takeIn_73 (by decide) ?_
    refine lv_icmp_eq (tgt := 96) hx hb dX5_takeIn_75 (by decide) (fun c5 => ?_) (fun c5 => ?_)
    · replace h := h.1 c5
      exact t_X5_takeIn_96 C hk42 M4 x1 x2 x3 x4  w (lv_sub hl [1, 2, 3, 4, 5] rfl) h
    replace h := h.2 c5
    refine lv_iload hx hb dX5_takeIn_78 (lv_at hl 0 rfl) ?_
    refine lv_iload_n hx hb dX5_takeIn_80 rfl (lv_at hl 4 rfl) ?_
    refine lv_icmp_ge (tgt := 96) hx hb dX5_takeIn_81 (by decide) (fun c6 => ?_) (fun c6 => ?_)
    · replace h := h.1 c6
      exact t_X5_takeIn_96 C hk42 M4 x1 x2 x3 x4  w (lv_sub hl [1, 2, 3, 4, 5] rfl) h
    replace h := h.2 c6
    refine lv_iload hx hb dX5_takeIn_84 (lv_at hl 0 rfl) ?_
    refine lv_istore_n (lv' := [(3, .int r3), (5, .int r3), (0, .ref (ga G 0)), (1, .int x1), (2, .int x2), (4, .int x4)]) hx hb dX5_takeIn_86 rfl hl (by decide) rfl (fun ls hl => ?_)
    refine lv_bipush (v := 100) hx hb dX5_takeIn_87 (by decide) ?_
    refine lv_iload hx hb dX5_takeIn_89 (lv_at hl 5 rfl) ?_
    refine lv_imul hx hb dX5_takeIn_91 ?_
    refine lv_iload hx hb dX5_takeIn_92 (lv_at hl 1 rfl) ?_
    refine lv_iadd hx hb dX5_takeIn_94 ?_
    refine lv_istore_n (lv' := [(2, .int (((100 : Int32) * x4) + r3)), (3, .int r3), (5, .int r3), (0, .ref (ga G 0)), (1, .int x1), (4, .int x4)]) hx hb dX5_takeIn_95 rfl hl (by decide) rfl (fun ls hl => ?_)
    exact t_X5_takeIn_96 C hk42 M4 x1 (((100 : Int32) * x4) + r3) r3 x4  w (lv_sub hl [3, 4, 0, 1, 5] rfl) h
set_option maxHeartbeats 4000000 in
set_option maxRecDepth 100000 in
theorem c_X5_takeIn (l : Launch) (G : GG) (hG : Ag G) (sz : Nat) (M : Mem) (post : Int32 → Mem → Prop) (h : q_X5_takeIn M post) : Met l yX5_takeIn (Cond.code yX5_takeIn cX5_takeIn 6 (some .int) :: wsL_law) (rmk 3) (va_Pc [.ref (ga G 0)] (Pw G sz M)) (va_Qi post (Qw G) (Af G sz)) 0 0 (Af G sz) := by
  refine Met.ofW (cc := cX5_takeIn) (maxL := 6) (ret := (some .int)) (by decide) rfl ?_
  intro p e s m args below meth c s₁ B hml hv
  obtain ⟨rfl, hsz, hE, hP⟩ := hv
  subst hsz
  have C := Cx.of (own := RX5) hG hE rfl hml B
  have w : Wd G s M s.heap [] := ⟨hP, va_S.rf⟩
  have hl := lv_entry [.ref (ga G 0)] (n := 6) (Nat.le_of_ble_eq_true rfl)
  rw [lg_entry_eq]
  generalize (lg_sl [.ref (ga G 0)] ++ List.replicate (6 - (lg_sl [.ref (ga G 0)]).length) Slot.unset).toArray = ls at hl ⊢
  have hl : lv_has ls 6 [(0, .ref (ga G 0))] := hl
  have hx := C.1.1
  have hb := C.1.2.1
  show W p l e (rmk 3) s m _ below meth c s.heap [] 0 0 _ _
  unfold q_X5_takeIn at h
  refine lv_aload_n hx hb dX5_takeIn_0 rfl (lv_at hl 0 rfl) ?_
  refine end_i w (run_V (As := []) C w hl.1 (c_X5_layLine l G C.2.2.1 _ _   _ h) kw_15_21 kw_1_2 kw_15_18 kw_15_19 kw_15_20 hd_X5_layLine ⟨by decide, by decide⟩ (w.recv C (i := 0) (by decide) (pE_5) rfl) rfl (Nat.le_of_ble_eq_true rfl) dX5_takeIn_1) (fun r7 M8 H locs h w => ?_)
  refine lv_if_ne (tgt := 10) hx hb dX5_takeIn_4 (by decide) (fun c9 => ?_) (fun c9 => ?_)
  · replace h := h.2 c9
    refine lv_aload_n hx hb dX5_takeIn_10 rfl (lv_at hl 0 rfl) ?_
    refine gt_5_0 C w kw_1_16 dX5_takeIn_11 ?_
    refine gn_4_2 C w ⟨by decide, by decide⟩ kn_16 dX5_takeIn_14 ?_
    refine lv_iconst (v := 3) hx hb dX5_takeIn_17 (by decide) ?_
    refine pw_ld C w (i := 11) (by decide) (pE_st ⟨by decide, by decide⟩) (vl (x := (3 : Int32)) (by decide)) (k := 3) (by decide) dX5_takeIn_18 ?_
    refine lv_istore_n (lv' := [(1, .int (M8 11 3)), (0, .ref (ga G 0))]) hx hb dX5_takeIn_19 rfl hl (by decide) rfl (fun ls hl => ?_)
    refine lv_aload_n hx hb dX5_takeIn_20 rfl (lv_at hl 1 rfl) ?_
    refine gt_5_3 C w kw_1_22 dX5_takeIn_21 ?_
    refine end_i w (run_VN (As := []) C w hl.1 (c_X0_hang l G C.2.2.1 _ _   _ h) kw_16_16 kw_1_21 kn_59 kw_16_14 kw_16_15 hd_X0_hang ⟨by decide, by decide⟩ (w.recv C (i := 4) (by decide) (pE_0) rfl) rfl (Nat.le_of_ble_eq_true rfl) dX5_takeIn_24) (fun r10 M11 H locs h w => ?_)
    refine lv_iload_n hx hb dX5_takeIn_27 rfl (lv_at hl 0 rfl) ?_
    refine lv_icmp_gt (tgt := 33) hx hb dX5_takeIn_28 (by decide) (fun c12 => ?_) (fun c12 => ?_)
    · replace h := h.1 c12
      refine lv_bipush (v := -4) hx hb dX5_takeIn_33 (by decide) ?_
      refine lv_istore_n (lv' := [(2, .int (-4 : Int32)), (1, .int (M8 11 3)), (0, .ref (ga G 0))]) hx hb dX5_takeIn_35 rfl hl (by decide) rfl (fun ls hl => ?_)
      refine lv_bipush (v := 100) hx hb dX5_takeIn_36 (by decide) ?_
      refine lv_istore_n (lv' := [(3, .int (100 : Int32)), (2, .int (-4 : Int32)), (1, .int (M8 11 3)), (0, .ref (ga G 0))]) hx hb dX5_takeIn_38 rfl hl (by decide) rfl (fun ls hl => ?_)
      refine lv_iconst (v := 0) hx hb dX5_takeIn_39 (by decide) ?_
      refine lv_istore (lv' := [(4, .int (0 : Int32)), (3, .int (100 : Int32)), (2, .int (-4 : Int32)), (1, .int (M8 11 3)), (0, .ref (ga G 0))]) hx hb dX5_takeIn_40 hl (by decide) rfl (fun ls hl => ?_)
      obtain ⟨n, h⟩ := h
      exact t_X5_takeIn_42 C n M11 (M8 11 3) (-4 : Int32) (100 : Int32) (0 : Int32)  w (lv_sub hl [4, 3, 2, 1, 0] rfl) h
    replace h := h.2 c12
    refine lv_iconst (v := 0) hx hb dX5_takeIn_31 (by decide) ?_
    exact ret_i C w h dX5_takeIn_32
  replace h := h.1 c9
  refine lv_bipush (v := -3) hx hb dX5_takeIn_7 (by decide) ?_
  exact ret_i C w h dX5_takeIn_9
def j_X6_takeIn_127 (k26 : Mem → Int32 → Int32 → Int32 → Prop) (post : Int32 → Mem → Prop) (M : Mem) (x1 : Int32) (x2 : Int32) (x3 : Int32) : Prop := k26 M x1 x2 (x3 + (1 : Int32))
def j_X6_takeIn_116 (k26 : Mem → Int32 → Int32 → Int32 → Prop) (post : Int32 → Mem → Prop) (M : Mem) (x3 : Int32) (x5 : Int32) : Prop := j_X6_takeIn_127 k26 post M (((100 : Int32) * x3) + x5) x5 x3
def j_X6_takeIn_90 (k26 : Mem → Int32 → Int32 → Int32 → Prop) (post : Int32 → Mem → Prop) (M : Mem) (x1 : Int32) (x2 : Int32) (x3 : Int32) (x4 : Int32) (x5 : Int32) : Prop := q_X6_puts M x3 (2 : Int32) x4 (fun M2 => (x5 = 0 → (j_X6_takeIn_127 k26 post M2 x1 x2 x3)) ∧ (¬ (x5 = 0) → ((x1 < 0 → (j_X6_takeIn_116 k26 post M2 x3 x5)) ∧ (¬ (x1 < 0) → ((x5 < x2 → (j_X6_takeIn_116 k26 post M2 x3 x5)) ∧ (¬ (x5 < x2) → (j_X6_takeIn_127 k26 post M2 x1 x2 x3)))))))
def j_X6_takeIn_84 (k26 : Mem → Int32 → Int32 → Int32 → Prop) (k50 : Mem → Int32 → Int32 → Int32 → Int32 → Int32 → Int32 → Prop) (post : Int32 → Mem → Prop) (M : Mem) (x1 : Int32) (x2 : Int32) (x3 : Int32) (x4 : Int32) (x5 : Int32) (x6 : Int32) : Prop := k50 M x1 x2 x3 x4 x5 (x6 + (1 : Int32))
def b_X6_takeIn_50 (k26 : Mem → Int32 → Int32 → Int32 → Prop) (k50 : Mem → Int32 → Int32 → Int32 → Int32 → Int32 → Int32 → Prop) (post : Int32 → Mem → Prop) (M : Mem) (x1 : Int32) (x2 : Int32) (x3 : Int32) (x4 : Int32) (x5 : Int32) (x6 : Int32) : Prop := (x4 < x6 → (j_X6_takeIn_90 k26 post M x1 x2 x3 x4 x5)) ∧ (¬ (x4 < x6) → ((x5 = 0 → (q_X6_puts M x3 (2 : Int32) (x4 - x6) (fun M9 => q_X6_isFoul M9  (fun r10 M11 => (r10 = 0 → (j_X6_takeIn_84 k26 k50 post M11 x1 x2 x3 x4 x6 x6)) ∧ (¬ (r10 = 0) → (j_X6_takeIn_84 k26 k50 post M11 x1 x2 x3 x4 x5 x6)))))) ∧ (¬ (x5 = 0) → (j_X6_takeIn_90 k26 post M x1 x2 x3 x4 x5))))
def lp_X6_takeIn_50 (k26 : Mem → Int32 → Int32 → Int32 → Prop) (post : Int32 → Mem → Prop) : Nat → Mem → Int32 → Int32 → Int32 → Int32 → Int32 → Int32 → Prop
  | 0 => fun _ _ _ _ _ _ _ => False
  | n + 1 => fun M x1 x2 x3 x4 x5 x6 => b_X6_takeIn_50 k26 (lp_X6_takeIn_50 k26 post n) post M x1 x2 x3 x4 x5 x6
def b_X6_takeIn_26 (k26 : Mem → Int32 → Int32 → Int32 → Prop) (post : Int32 → Mem → Prop) (M : Mem) (x1 : Int32) (x2 : Int32) (x3 : Int32) : Prop := ((M 58 0) ≤ x3 → (post x1 M)) ∧ (¬ ((M 58 0) ≤ x3) → (q_X6_get M x3 (2 : Int32) (fun r14 M15 => ∃ n, lp_X6_takeIn_50 k26 post n M15 x1 x2 x3 r14 (0 : Int32) (1 : Int32))))
def lp_X6_takeIn_26 (post : Int32 → Mem → Prop) : Nat → Mem → Int32 → Int32 → Int32 → Prop
  | 0 => fun _ _ _ _ => False
  | n + 1 => fun M x1 x2 x3 => b_X6_takeIn_26 (lp_X6_takeIn_26 post n) post M x1 x2 x3
def q_X6_takeIn (M : Mem) (post : Int32 → Mem → Prop) : Prop := q_X6_isLine M  (fun r16 M17 => (r16 = 0 → (post (-3 : Int32) M17)) ∧ (¬ (r16 = 0) → (q_X6_isFoul M17  (fun r19 M20 => (r19 = 0 → (post (0 : Int32) M20)) ∧ (¬ (r19 = 0) → (∃ n, lp_X6_takeIn_26 post n M20 (-4 : Int32) (0 : Int32) (0 : Int32)))))))
set_option maxHeartbeats 4000000 in
set_option maxRecDepth 100000 in
theorem t_X6_takeIn_127 (C : Cx G p s m args meth c RX6 cX6_takeIn 7 (some .int)) {post : Int32 → Mem → Prop} {k26 : Mem → Int32 → Int32 → Int32 → Prop} (hk26 : ∀ (M : Mem) (x1 : Int32) (x2 : Int32) (x3 : Int32) (H : Heap) (locs : List Loc) (ls : Array Slot), Wd G s M H locs → lv_has ls 7 [(0, .ref (ga G 57)), (1, .int x1), (2, .int x2), (3, .int x3)] → k26 M x1 x2 x3 → W p l e (rmk 4) s m args below meth c H locs 0 0 (MQ below (va_Qi post (Qw G) (Af G s.heap.size)) args s 0 0 (Af G s.heap.size)) (F0 m 26 ls [])) (M : Mem) (x1 : Int32) (x2 : Int32) (x3 : Int32) {H : Heap} {locs : List Loc} {ls : Array Slot} (w : Wd G s M H locs) (hl : lv_has ls 7 [(0, .ref (ga G 57)), (1, .int x1), (2, .int x2), (3, .int x3)]) (h : j_X6_takeIn_127 k26 post M x1 x2 x3) : W p l e (rmk 4) s m args below meth c H locs 0 0 (MQ below (va_Qi post (Qw G) (Af G s.heap.size)) args s 0 0 (Af G s.heap.size)) (F0 m 127 ls []) := by
  have hx := C.1.1
  have hb := C.1.2.1
  unfold j_X6_takeIn_127 at h
  refine lv_iinc (v := (x3 + (1 : Int32))) (lv' := [(3, .int (x3 + (1 : Int32))), (0, .ref (ga G 57)), (1, .int x1), (2, .int x2)]) hx hb dX6_takeIn_127 hl (k := 3) rfl rfl (by decide) rfl (fun ls hl => ?_)
  refine lv_goto (tgt := 26) hx hb dX6_takeIn_130 (by decide) ?_
  exact hk26 M x1 x2 (x3 + (1 : Int32)) _ _ _  w (lv_sub hl [1, 2, 3, 0] rfl) h
set_option maxHeartbeats 4000000 in
set_option maxRecDepth 100000 in
theorem t_X6_takeIn_116 (C : Cx G p s m args meth c RX6 cX6_takeIn 7 (some .int)) {post : Int32 → Mem → Prop} {k26 : Mem → Int32 → Int32 → Int32 → Prop} (hk26 : ∀ (M : Mem) (x1 : Int32) (x2 : Int32) (x3 : Int32) (H : Heap) (locs : List Loc) (ls : Array Slot), Wd G s M H locs → lv_has ls 7 [(0, .ref (ga G 57)), (1, .int x1), (2, .int x2), (3, .int x3)] → k26 M x1 x2 x3 → W p l e (rmk 4) s m args below meth c H locs 0 0 (MQ below (va_Qi post (Qw G) (Af G s.heap.size)) args s 0 0 (Af G s.heap.size)) (F0 m 26 ls [])) (M : Mem) (x3 : Int32) (x5 : Int32) {H : Heap} {locs : List Loc} {ls : Array Slot} (w : Wd G s M H locs) (hl : lv_has ls 7 [(0, .ref (ga G 57)), (3, .int x3), (5, .int x5)]) (h : j_X6_takeIn_116 k26 post M x3 x5) : W p l e (rmk 4) s m args below meth c H locs 0 0 (MQ below (va_Qi post (Qw G) (Af G s.heap.size)) args s 0 0 (Af G s.heap.size)) (F0 m 116 ls []) := by
  have hx := C.1.1
  have hb := C.1.2.1
  unfold j_X6_takeIn_116 at h
  refine lv_bipush (v := 100) hx hb dX6_takeIn_116 (by decide) ?_
  refine lv_iload_n hx hb dX6_takeIn_118 rfl (lv_at hl 1 rfl) ?_
  refine lv_imul hx hb dX6_takeIn_119 ?_
  refine lv_iload hx hb dX6_takeIn_120 (lv_at hl 2 rfl) ?_
  refine lv_iadd hx hb dX6_takeIn_122 ?_
  refine lv_istore_n (lv' := [(1, .int (((100 : Int32) * x3) + x5)), (0, .ref (ga G 57)), (3, .int x3), (5, .int x5)]) hx hb dX6_takeIn_123 rfl hl (by decide) rfl (fun ls hl => ?_)
  refine lv_iload hx hb dX6_takeIn_124 (lv_at hl 3 rfl) ?_
  refine lv_istore_n (lv' := [(2, .int x5), (1, .int (((100 : Int32) * x3) + x5)), (0, .ref (ga G 57)), (3, .int x3), (5, .int x5)]) hx hb dX6_takeIn_126 rfl hl (by decide) rfl (fun ls hl => ?_)
  exact t_X6_takeIn_127 C hk26 M (((100 : Int32) * x3) + x5) x5 x3  w (lv_sub hl [2, 1, 0, 3] rfl) h
set_option maxHeartbeats 4000000 in
set_option maxRecDepth 100000 in
theorem t_X6_takeIn_90 (C : Cx G p s m args meth c RX6 cX6_takeIn 7 (some .int)) {post : Int32 → Mem → Prop} {k26 : Mem → Int32 → Int32 → Int32 → Prop} (hk26 : ∀ (M : Mem) (x1 : Int32) (x2 : Int32) (x3 : Int32) (H : Heap) (locs : List Loc) (ls : Array Slot), Wd G s M H locs → lv_has ls 7 [(0, .ref (ga G 57)), (1, .int x1), (2, .int x2), (3, .int x3)] → k26 M x1 x2 x3 → W p l e (rmk 4) s m args below meth c H locs 0 0 (MQ below (va_Qi post (Qw G) (Af G s.heap.size)) args s 0 0 (Af G s.heap.size)) (F0 m 26 ls [])) (M : Mem) (x1 : Int32) (x2 : Int32) (x3 : Int32) (x4 : Int32) (x5 : Int32) {H : Heap} {locs : List Loc} {ls : Array Slot} (w : Wd G s M H locs) (hl : lv_has ls 7 [(0, .ref (ga G 57)), (1, .int x1), (2, .int x2), (3, .int x3), (4, .int x4), (5, .int x5)]) (h : j_X6_takeIn_90 k26 post M x1 x2 x3 x4 x5) : W p l e (rmk 4) s m args below meth c H locs 0 0 (MQ below (va_Qi post (Qw G) (Af G s.heap.size)) args s 0 0 (Af G s.heap.size)) (F0 m 90 ls []) := by
  have hx := C.1.1
  have hb := C.1.2.1
  unfold j_X6_takeIn_90 at h
  refine lv_aload_n hx hb dX6_takeIn_90 rfl (lv_at hl 0 rfl) ?_
  refine lv_iload_n hx hb dX6_takeIn_91 rfl (lv_at hl 3 rfl) ?_
  refine lv_iconst (v := 2) hx hb dX6_takeIn_92 (by decide) ?_
  refine lv_iload hx hb dX6_takeIn_93 (lv_at hl 4 rfl) ?_
  refine end_v w (run_V (As := [.int x3, .int (2 : Int32), .int x4]) C w hl.1 (c_X6_puts l G C.2.2.1 _ _ x3 (2 : Int32) x4  _ h) kw_22_7 kw_1_5 kw_22_4 kw_22_5 kw_22_6 hd_X6_puts ⟨by decide, by decide⟩ (w.recv C (i := 57) (by decide) (pE_6) rfl) rfl (Nat.le_of_ble_eq_true rfl) dX6_takeIn_95) (fun M2 H locs h w => ?_)
  refine lv_iload hx hb dX6_takeIn_98 (lv_at hl 5 rfl) ?_
  refine lv_if_eq (tgt := 127) hx hb dX6_takeIn_100 (by decide) (fun c3 => ?_) (fun c3 => ?_)
  · replace h := h.1 c3
    exact t_X6_takeIn_127 C hk26 M2 x1 x2 x3  w (lv_sub hl [0, 1, 2, 3] rfl) h
  replace h := h.2 c3
  refine lv_iload_n hx hb dX6_takeIn_103 rfl (lv_at hl 1 rfl) ?_
  refine lv_if_lt (tgt := 116) hx hb dX6_takeIn_104 (by decide) (fun c4 => ?_) (fun c4 => ?_)
  · replace h := h.1 c4
    exact t_X6_takeIn_116 C hk26 M2 x3 x5  w (lv_sub hl [0, 3, 5] rfl) h
  replace h := h.2 c4
  refine lv_iload hx hb dX6_takeIn_107 (lv_at hl 5 rfl) ?_
  refine lv_iload_n hx hb dX6_takeIn_109 rfl (lv_at hl 2 rfl) ?_
  refine lv_icmp_lt (tgt := 116) hx hb dX6_takeIn_110 (by decide) (fun c5 => ?_) (fun c5 => ?_)
  · replace h := h.1 c5
    exact t_X6_takeIn_116 C hk26 M2 x3 x5  w (lv_sub hl [0, 3, 5] rfl) h
  replace h := h.2 c5
  refine lv_goto (tgt := 127) hx hb dX6_takeIn_113 (by decide) ?_
  exact t_X6_takeIn_127 C hk26 M2 x1 x2 x3  w (lv_sub hl [0, 1, 2, 3] rfl) h
set_option maxHeartbeats 4000000 in
set_option maxRecDepth 100000 in
theorem t_X6_takeIn_84 (C : Cx G p s m args meth c RX6 cX6_takeIn 7 (some .int)) {post : Int32 → Mem → Prop} {k26 : Mem → Int32 → Int32 → Int32 → Prop} {k50 : Mem → Int32 → Int32 → Int32 → Int32 → Int32 → Int32 → Prop} (hk26 : ∀ (M : Mem) (x1 : Int32) (x2 : Int32) (x3 : Int32) (H : Heap) (locs : List Loc) (ls : Array Slot), Wd G s M H locs → lv_has ls 7 [(0, .ref (ga G 57)), (1, .int x1), (2, .int x2), (3, .int x3)] → k26 M x1 x2 x3 → W p l e (rmk 4) s m args below meth c H locs 0 0 (MQ below (va_Qi post (Qw G) (Af G s.heap.size)) args s 0 0 (Af G s.heap.size)) (F0 m 26 ls [])) (hk50 : ∀ (M : Mem) (x1 : Int32) (x2 : Int32) (x3 : Int32) (x4 : Int32) (x5 : Int32) (x6 : Int32) (H : Heap) (locs : List Loc) (ls : Array Slot), Wd G s M H locs → lv_has ls 7 [(0, .ref (ga G 57)), (1, .int x1), (2, .int x2), (3, .int x3), (4, .int x4), (5, .int x5), (6, .int x6)] → k50 M x1 x2 x3 x4 x5 x6 → W p l e (rmk 4) s m args below meth c H locs 0 0 (MQ below (va_Qi post (Qw G) (Af G s.heap.size)) args s 0 0 (Af G s.heap.size)) (F0 m 50 ls [])) (M : Mem) (x1 : Int32) (x2 : Int32) (x3 : Int32) (x4 : Int32) (x5 : Int32) (x6 : Int32) {H : Heap} {locs : List Loc} {ls : Array Slot} (w : Wd G s M H locs) (hl : lv_has ls 7 [(0, .ref (ga G 57)), (1, .int x1), (2, .int x2), (3, .int x3), (4, .int x4), (5, .int x5), (6, .int x6)]) (h : j_X6_takeIn_84 k26 k50 post M x1 x2 x3 x4 x5 x6) : W p l e (rmk 4) s m args below meth c H locs 0 0 (MQ below (va_Qi post (Qw G) (Af G s.heap.size)) args s 0 0 (Af G s.heap.size)) (F0 m 84 ls []) := by
  have hx := C.1.1
  have hb := C.1.2.1
  unfold j_X6_takeIn_84 at h
  refine lv_iinc (v := (x6 + (1 : Int32))) (lv' := [(6, .int (x6 + (1 : Int32))), (0, .ref (ga G 57)), (1, .int x1), (2, .int x2), (3, .int x3), (4, .int x4), (5, .int x5)]) hx hb dX6_takeIn_84 hl (k := 6) rfl rfl (by decide) rfl (fun ls hl => ?_)
  refine lv_goto (tgt := 50) hx hb dX6_takeIn_87 (by decide) ?_
  exact hk50 M x1 x2 x3 x4 x5 (x6 + (1 : Int32)) _ _ _  w (lv_sub hl [1, 2, 3, 4, 5, 6, 0] rfl) h
set_option maxHeartbeats 4000000 in
set_option maxRecDepth 100000 in
theorem t_X6_takeIn_50 (C : Cx G p s m args meth c RX6 cX6_takeIn 7 (some .int)) {post : Int32 → Mem → Prop} {k26 : Mem → Int32 → Int32 → Int32 → Prop} (hk26 : ∀ (M : Mem) (x1 : Int32) (x2 : Int32) (x3 : Int32) (H : Heap) (locs : List Loc) (ls : Array Slot), Wd G s M H locs → lv_has ls 7 [(0, .ref (ga G 57)), (1, .int x1), (2, .int x2), (3, .int x3)] → k26 M x1 x2 x3 → W p l e (rmk 4) s m args below meth c H locs 0 0 (MQ below (va_Qi post (Qw G) (Af G s.heap.size)) args s 0 0 (Af G s.heap.size)) (F0 m 26 ls [])) : ∀ (n : Nat) (M : Mem) (x1 : Int32) (x2 : Int32) (x3 : Int32) (x4 : Int32) (x5 : Int32) (x6 : Int32) {H : Heap} {locs : List Loc} {ls : Array Slot} (w : Wd G s M H locs) (hl : lv_has ls 7 [(0, .ref (ga G 57)), (1, .int x1), (2, .int x2), (3, .int x3), (4, .int x4), (5, .int x5), (6, .int x6)]) (h : lp_X6_takeIn_50 k26 post n M x1 x2 x3 x4 x5 x6), W p l e (rmk 4) s m args below meth c H locs 0 0 (MQ below (va_Qi post (Qw G) (Af G s.heap.size)) args s 0 0 (Af G s.heap.size)) (F0 m 50 ls []) := by
  have hx := C.1.1
  have hb := C.1.2.1
  intro n9
  induction n9 with
  | zero => intro M x1 x2 x3 x4 x5 x6 H locs ls w hl h; exact absurd h id
  | succ n9 ih9 =>
    intro M x1 x2 x3 x4 x5 x6 H locs ls w hl h
    have hk50 : ∀ (M : Mem) (x1 : Int32) (x2 : Int32) (x3 : Int32) (x4 : Int32) (x5 : Int32) (x6 : Int32) (H : Heap) (locs : List Loc) (ls : Array Slot), Wd G s M H locs → lv_has ls 7 [(0, .ref (ga G 57)), (1, .int x1), (2, .int x2), (3, .int x3), (4, .int x4), (5, .int x5), (6, .int x6)] → lp_X6_takeIn_50 k26 post n9 M x1 x2 x3 x4 x5 x6 → W p l e (rmk 4) s m args below meth c H locs 0 0 (MQ below (va_Qi post (Qw G) (Af G s.heap.size)) args s 0 0 (Af G s.heap.size)) (F0 m 50 ls []) := fun M x1 x2 x3 x4 x5 x6 H locs ls w hl h => ih9 M x1 x2 x3 x4 x5 x6 w hl h
    replace h : b_X6_takeIn_50 k26 (lp_X6_takeIn_50 k26 post n9) post M x1 x2 x3 x4 x5 x6 := h
    unfold b_X6_takeIn_50 at h
    refine lv_iload hx hb dX6_takeIn_50 (lv_at hl 6 rfl) ?_
    refine lv_iload hx hb dX6_takeIn_52 (lv_at hl 4 rfl) ?_
    refine lv_icmp_gt (tgt := 90) hx hb dX6_takeIn_54 (by decide) (fun c6 => ?_) (fun c6 => ?_)
    · replace h := h.1 c6
      exact t_X6_takeIn_90 C hk26 M x1 x2 x3 x4 x5  w (lv_sub hl [0, 1, 2, 3, 4, 5] rfl) h
    replace h := h.2 c6
    refine lv_iload hx hb dX6_takeIn_57 (lv_at hl 5 rfl) ?_
    refine lv_if_ne (tgt := 90) hx hb dX6_takeIn_59 (by decide) (fun c7 => ?_) (fun c7 => ?_)
    · replace h := h.2 c7
      exact t_X6_takeIn_90 C hk26 M x1 x2 x3 x4 x5  w (lv_sub hl [0, 1, 2, 3, 4, 5] rfl) h
    replace h := h.1 c7
    refine lv_aload_n hx hb dX6_takeIn_62 rfl (lv_at hl 0 rfl) ?_
    refine lv_iload_n hx hb dX6_takeIn_63 rfl (lv_at hl 3 rfl) ?_
    refine lv_iconst (v := 2) hx hb dX6_takeIn_64 (by decide) ?_
    refine lv_iload hx hb dX6_takeIn_65 (lv_at hl 4 rfl) ?_
    refine lv_iload hx hb dX6_takeIn_67 (lv_at hl 6 rfl) ?_
    refine lv_isub hx hb dX6_takeIn_69 ?_
    refine end_v w (run_V (As := [.int x3, .int (2 : Int32), .int (x4 - x6)]) C w hl.1 (c_X6_puts l G C.2.2.1 _ _ x3 (2 : Int32) (x4 - x6)  _ h) kw_22_7 kw_1_5 kw_22_4 kw_22_5 kw_22_6 hd_X6_puts ⟨by decide, by decide⟩ (w.recv C (i := 57) (by decide) (pE_6) rfl) rfl (Nat.le_of_ble_eq_true rfl) dX6_takeIn_70) (fun M9 H locs h w => ?_)
    refine lv_aload_n hx hb dX6_takeIn_73 rfl (lv_at hl 0 rfl) ?_
    refine end_i w (run_V (As := []) C w hl.1 (c_X6_isFoul l G C.2.2.1 _ _   _ h) kw_26_4 kw_1_5 kw_26_1 kw_26_2 kw_26_3 hd_X6_isFoul ⟨by decide, by decide⟩ (w.recv C (i := 57) (by decide) (pE_6) rfl) rfl (Nat.le_of_ble_eq_true rfl) dX6_takeIn_74) (fun r10 M11 H locs h w => ?_)
    refine lv_if_ne (tgt := 84) hx hb dX6_takeIn_77 (by decide) (fun c12 => ?_) (fun c12 => ?_)
    · replace h := h.2 c12
      exact t_X6_takeIn_84 C hk26 hk50 M11 x1 x2 x3 x4 x5 x6  w (lv_sub hl [0, 1, 2, 3, 4, 5, 6] rfl) h
    replace h := h.1 c12
    refine lv_iload hx hb dX6_takeIn_80 (lv_at hl 6 rfl) ?_
    refine lv_istore (lv' := [(5, .int x6), (0, .ref (ga G 57)), (1, .int x1), (2, .int x2), (3, .int x3), (4, .int x4), (6, .int x6)]) hx hb dX6_takeIn_82 hl (by decide) rfl (fun ls hl => ?_)
    exact t_X6_takeIn_84 C hk26 hk50 M11 x1 x2 x3 x4 x6 x6  w (lv_sub hl [1, 2, 3, 4, 5, 0, 6] rfl) h
set_option maxHeartbeats 4000000 in
set_option maxRecDepth 100000 in
theorem t_X6_takeIn_26 (C : Cx G p s m args meth c RX6 cX6_takeIn 7 (some .int)) {post : Int32 → Mem → Prop} : ∀ (n : Nat) (M : Mem) (x1 : Int32) (x2 : Int32) (x3 : Int32) {H : Heap} {locs : List Loc} {ls : Array Slot} (w : Wd G s M H locs) (hl : lv_has ls 7 [(0, .ref (ga G 57)), (1, .int x1), (2, .int x2), (3, .int x3)]) (h : lp_X6_takeIn_26 post n M x1 x2 x3), W p l e (rmk 4) s m args below meth c H locs 0 0 (MQ below (va_Qi post (Qw G) (Af G s.heap.size)) args s 0 0 (Af G s.heap.size)) (F0 m 26 ls []) := by
  have hx := C.1.1
  have hb := C.1.2.1
  intro n9
  induction n9 with
  | zero => intro M x1 x2 x3 H locs ls w hl h; exact absurd h id
  | succ n9 ih9 =>
    intro M x1 x2 x3 H locs ls w hl h
    have hk26 : ∀ (M : Mem) (x1 : Int32) (x2 : Int32) (x3 : Int32) (H : Heap) (locs : List Loc) (ls : Array Slot), Wd G s M H locs → lv_has ls 7 [(0, .ref (ga G 57)), (1, .int x1), (2, .int x2), (3, .int x3)] → lp_X6_takeIn_26 post n9 M x1 x2 x3 → W p l e (rmk 4) s m args below meth c H locs 0 0 (MQ below (va_Qi post (Qw G) (Af G s.heap.size)) args s 0 0 (Af G s.heap.size)) (F0 m 26 ls []) := fun M x1 x2 x3 H locs ls w hl h => ih9 M x1 x2 x3 w hl h
    replace h : b_X6_takeIn_26 (lp_X6_takeIn_26 post n9) post M x1 x2 x3 := h
    unfold b_X6_takeIn_26 at h
    refine lv_iload_n hx hb dX6_takeIn_26 rfl (lv_at hl 3 rfl) ?_
    refine lv_aload_n hx hb dX6_takeIn_27 rfl (lv_at hl 0 rfl) ?_
    refine gt_6_0 C w kw_5_0 dX6_takeIn_28 ?_
    refine lv_iconst (v := 0) hx hb dX6_takeIn_31 (by decide) ?_
    refine pw_ld C w (i := 58) (by decide) pE_58 (vl (x := (0 : Int32)) (by decide)) (k := 0) (by decide) dX6_takeIn_32 ?_
    refine lv_icmp_ge (tgt := 133) hx hb dX6_takeIn_33 (by decide) (fun c13 => ?_) (fun c13 => ?_)
    · replace h := h.1 c13
      refine lv_iload_n hx hb dX6_takeIn_133 rfl (lv_at hl 1 rfl) ?_
      exact ret_i C w h dX6_takeIn_134
    replace h := h.2 c13
    refine lv_aload_n hx hb dX6_takeIn_36 rfl (lv_at hl 0 rfl) ?_
    refine lv_iload_n hx hb dX6_takeIn_37 rfl (lv_at hl 3 rfl) ?_
    refine lv_iconst (v := 2) hx hb dX6_takeIn_38 (by decide) ?_
    refine end_i w (run_V (As := [.int x3, .int (2 : Int32)]) C w hl.1 (c_X6_get l G C.2.2.1 _ _ x3 (2 : Int32)  _ h) kw_14_10 kw_1_5 kw_14_7 kw_14_8 kw_14_9 hd_X6_get ⟨by decide, by decide⟩ (w.recv C (i := 57) (by decide) (pE_6) rfl) rfl (Nat.le_of_ble_eq_true rfl) dX6_takeIn_39) (fun r14 M15 H locs h w => ?_)
    refine lv_istore (lv' := [(4, .int r14), (0, .ref (ga G 57)), (1, .int x1), (2, .int x2), (3, .int x3)]) hx hb dX6_takeIn_42 hl (by decide) rfl (fun ls hl => ?_)
    refine lv_iconst (v := 0) hx hb dX6_takeIn_44 (by decide) ?_
    refine lv_istore (lv' := [(5, .int (0 : Int32)), (4, .int r14), (0, .ref (ga G 57)), (1, .int x1), (2, .int x2), (3, .int x3)]) hx hb dX6_takeIn_45 hl (by decide) rfl (fun ls hl => ?_)
    refine lv_iconst (v := 1) hx hb dX6_takeIn_47 (by decide) ?_
    refine lv_istore (lv' := [(6, .int (1 : Int32)), (5, .int (0 : Int32)), (4, .int r14), (0, .ref (ga G 57)), (1, .int x1), (2, .int x2), (3, .int x3)]) hx hb dX6_takeIn_48 hl (by decide) rfl (fun ls hl => ?_)
    obtain ⟨n, h⟩ := h
    exact t_X6_takeIn_50 C hk26 n M15 x1 x2 x3 r14 (0 : Int32) (1 : Int32)  w (lv_sub hl [3, 4, 5, 6, 2, 1, 0] rfl) h
set_option maxHeartbeats 4000000 in
set_option maxRecDepth 100000 in
theorem c_X6_takeIn (l : Launch) (G : GG) (hG : Ag G) (sz : Nat) (M : Mem) (post : Int32 → Mem → Prop) (h : q_X6_takeIn M post) : Met l yX6_takeIn (Cond.code yX6_takeIn cX6_takeIn 7 (some .int) :: wsL_law) (rmk 4) (va_Pc [.ref (ga G 57)] (Pw G sz M)) (va_Qi post (Qw G) (Af G sz)) 0 0 (Af G sz) := by
  refine Met.ofW (cc := cX6_takeIn) (maxL := 7) (ret := (some .int)) (by decide) rfl ?_
  intro p e s m args below meth c s₁ B hml hv
  obtain ⟨rfl, hsz, hE, hP⟩ := hv
  subst hsz
  have C := Cx.of (own := RX6) hG hE rfl hml B
  have w : Wd G s M s.heap [] := ⟨hP, va_S.rf⟩
  have hl := lv_entry [.ref (ga G 57)] (n := 7) (Nat.le_of_ble_eq_true rfl)
  rw [lg_entry_eq]
  generalize (lg_sl [.ref (ga G 57)] ++ List.replicate (7 - (lg_sl [.ref (ga G 57)]).length) Slot.unset).toArray = ls at hl ⊢
  have hl : lv_has ls 7 [(0, .ref (ga G 57))] := hl
  have hx := C.1.1
  have hb := C.1.2.1
  show W p l e (rmk 4) s m _ below meth c s.heap [] 0 0 _ _
  unfold q_X6_takeIn at h
  refine lv_aload_n hx hb dX6_takeIn_0 rfl (lv_at hl 0 rfl) ?_
  refine end_i w (run_V (As := []) C w hl.1 (c_X6_isLine l G C.2.2.1 _ _   _ h) kw_17_11 kw_1_5 kw_17_8 kw_17_9 kw_17_10 hd_X6_isLine ⟨by decide, by decide⟩ (w.recv C (i := 57) (by decide) (pE_6) rfl) rfl (Nat.le_of_ble_eq_true rfl) dX6_takeIn_1) (fun r16 M17 H locs h w => ?_)
  refine lv_if_ne (tgt := 10) hx hb dX6_takeIn_4 (by decide) (fun c18 => ?_) (fun c18 => ?_)
  · replace h := h.2 c18
    refine lv_aload_n hx hb dX6_takeIn_10 rfl (lv_at hl 0 rfl) ?_
    refine end_i w (run_V (As := []) C w hl.1 (c_X6_isFoul l G C.2.2.1 _ _   _ h) kw_26_4 kw_1_5 kw_26_1 kw_26_2 kw_26_3 hd_X6_isFoul ⟨by decide, by decide⟩ (w.recv C (i := 57) (by decide) (pE_6) rfl) rfl (Nat.le_of_ble_eq_true rfl) dX6_takeIn_11) (fun r19 M20 H locs h w => ?_)
    refine lv_if_ne (tgt := 19) hx hb dX6_takeIn_14 (by decide) (fun c21 => ?_) (fun c21 => ?_)
    · replace h := h.2 c21
      refine lv_bipush (v := -4) hx hb dX6_takeIn_19 (by decide) ?_
      refine lv_istore_n (lv' := [(1, .int (-4 : Int32)), (0, .ref (ga G 57))]) hx hb dX6_takeIn_21 rfl hl (by decide) rfl (fun ls hl => ?_)
      refine lv_iconst (v := 0) hx hb dX6_takeIn_22 (by decide) ?_
      refine lv_istore_n (lv' := [(2, .int (0 : Int32)), (1, .int (-4 : Int32)), (0, .ref (ga G 57))]) hx hb dX6_takeIn_23 rfl hl (by decide) rfl (fun ls hl => ?_)
      refine lv_iconst (v := 0) hx hb dX6_takeIn_24 (by decide) ?_
      refine lv_istore_n (lv' := [(3, .int (0 : Int32)), (2, .int (0 : Int32)), (1, .int (-4 : Int32)), (0, .ref (ga G 57))]) hx hb dX6_takeIn_25 rfl hl (by decide) rfl (fun ls hl => ?_)
      obtain ⟨n, h⟩ := h
      exact t_X6_takeIn_26 C n M20 (-4 : Int32) (0 : Int32) (0 : Int32)  w (lv_sub hl [3, 2, 1, 0] rfl) h
    replace h := h.1 c21
    refine lv_iconst (v := 0) hx hb dX6_takeIn_17 (by decide) ?_
    exact ret_i C w h dX6_takeIn_18
  replace h := h.1 c18
  refine lv_bipush (v := -3) hx hb dX6_takeIn_7 (by decide) ?_
  exact ret_i C w h dX6_takeIn_9
def j_X5_shallowest_72 (post : Int32 → Mem → Prop) (M : Mem) (y0 : Int32) : Prop := post y0 M
def b_X5_shallowest_18 (k18 : Mem → Int32 → Int32 → Prop) (post : Int32 → Mem → Prop) (M : Mem) (x1 : Int32) (x2 : Int32) : Prop := ((M 11 2) < x2 → ((x1 ≤ (mostT 3) → (j_X5_shallowest_72 post M x1)) ∧ (¬ (x1 ≤ (mostT 3)) → (j_X5_shallowest_72 post M (-4 : Int32))))) ∧ (¬ ((M 11 2) < x2) → (∀ M3 : Mem, M3 = (mup M 4 5 x2) → (q_X0_hang M3  (fun r4 M5 => k18 M5 (if x1 < r4 then r4 else x1) (x2 + (1 : Int32))))))
def lp_X5_shallowest_18 (post : Int32 → Mem → Prop) : Nat → Mem → Int32 → Int32 → Prop
  | 0 => fun _ _ _ => False
  | n + 1 => fun M x1 x2 => b_X5_shallowest_18 (lp_X5_shallowest_18 post n) post M x1 x2
def q_X5_shallowest (M : Mem) (post : Int32 → Mem → Prop) : Prop := q_X5_layLine M  (fun r6 M7 => (r6 = 0 → (post (-3 : Int32) M7)) ∧ (¬ (r6 = 0) → (∃ n, lp_X5_shallowest_18 post n M7 (leastT 3) (0 : Int32))))
set_option maxHeartbeats 4000000 in
set_option maxRecDepth 100000 in
theorem t_X5_shallowest_72 (C : Cx G p s m args meth c RX5 cX5_shallowest 3 (some .int)) {post : Int32 → Mem → Prop} (M : Mem) (y0 : Int32) {H : Heap} {locs : List Loc} {ls : Array Slot} (w : Wd G s M H locs) (hl : lv_has ls 3 []) (h : j_X5_shallowest_72 post M y0) : W p l e (rmk 3) s m args below meth c H locs 0 0 (MQ below (va_Qi post (Qw G) (Af G s.heap.size)) args s 0 0 (Af G s.heap.size)) (F0 m 72 ls [.int y0]) := by
  have hx := C.1.1
  have hb := C.1.2.1
  unfold j_X5_shallowest_72 at h
  exact ret_i C w h dX5_shallowest_72
set_option maxHeartbeats 4000000 in
set_option maxRecDepth 100000 in
theorem t_X5_shallowest_18 (C : Cx G p s m args meth c RX5 cX5_shallowest 3 (some .int)) {post : Int32 → Mem → Prop} : ∀ (n : Nat) (M : Mem) (x1 : Int32) (x2 : Int32) {H : Heap} {locs : List Loc} {ls : Array Slot} (w : Wd G s M H locs) (hl : lv_has ls 3 [(0, .ref (ga G 0)), (1, .int x1), (2, .int x2)]) (h : lp_X5_shallowest_18 post n M x1 x2), W p l e (rmk 3) s m args below meth c H locs 0 0 (MQ below (va_Qi post (Qw G) (Af G s.heap.size)) args s 0 0 (Af G s.heap.size)) (F0 m 18 ls []) := by
  have hx := C.1.1
  have hb := C.1.2.1
  intro n9
  induction n9 with
  | zero => intro M x1 x2 H locs ls w hl h; exact absurd h id
  | succ n9 ih9 =>
    intro M x1 x2 H locs ls w hl h
    have hk18 : ∀ (M : Mem) (x1 : Int32) (x2 : Int32) (H : Heap) (locs : List Loc) (ls : Array Slot), Wd G s M H locs → lv_has ls 3 [(0, .ref (ga G 0)), (1, .int x1), (2, .int x2)] → lp_X5_shallowest_18 post n9 M x1 x2 → W p l e (rmk 3) s m args below meth c H locs 0 0 (MQ below (va_Qi post (Qw G) (Af G s.heap.size)) args s 0 0 (Af G s.heap.size)) (F0 m 18 ls []) := fun M x1 x2 H locs ls w hl h => ih9 M x1 x2 w hl h
    replace h : b_X5_shallowest_18 (lp_X5_shallowest_18 post n9) post M x1 x2 := h
    unfold b_X5_shallowest_18 at h
    refine lv_iload_n hx hb dX5_shallowest_18 rfl (lv_at hl 2 rfl) ?_
    refine lv_aload_n hx hb dX5_shallowest_19 rfl (lv_at hl 0 rfl) ?_
    refine gt_5_0 C w kw_1_16 dX5_shallowest_20 ?_
    refine gn_4_2 C w ⟨by decide, by decide⟩ kn_16 dX5_shallowest_23 ?_
    refine lv_iconst (v := 2) hx hb dX5_shallowest_26 (by decide) ?_
    refine pw_ld C w (i := 11) (by decide) (pE_st ⟨by decide, by decide⟩) (vl (x := (2 : Int32)) (by decide)) (k := 2) (by decide) dX5_shallowest_27 ?_
    refine lv_icmp_gt (tgt := 57) hx hb dX5_shallowest_28 (by decide) (fun c1 => ?_) (fun c1 => ?_)
    · replace h := h.1 c1
      refine lv_iload_n hx hb dX5_shallowest_57 rfl (lv_at hl 1 rfl) ?_
      refine gs_gM C w kw_24_3 dX5_shallowest_58 ?_
      refine lv_iconst (v := 3) hx hb dX5_shallowest_61 (by decide) ?_
      refine ts_gM C w (vl (x := (3 : Int32)) (by decide)) (k := 3) (by decide) dX5_shallowest_62 ?_
      refine lv_icmp_le (tgt := 71) hx hb dX5_shallowest_63 (by decide) (fun c2 => ?_) (fun c2 => ?_)
      · replace h := h.1 c2
        refine lv_iload_n hx hb dX5_shallowest_71 rfl (lv_at hl 1 rfl) ?_
        exact t_X5_shallowest_72 C M x1  w (lv_sub hl [] rfl) h
      replace h := h.2 c2
      refine lv_bipush (v := -4) hx hb dX5_shallowest_66 (by decide) ?_
      refine lv_goto (tgt := 72) hx hb dX5_shallowest_68 (by decide) ?_
      exact t_X5_shallowest_72 C M (-4 : Int32)  w (lv_sub hl [] rfl) h
    replace h := h.2 c1
    refine lv_aload_n hx hb dX5_shallowest_31 rfl (lv_at hl 0 rfl) ?_
    refine gt_5_3 C w kw_1_22 dX5_shallowest_32 ?_
    refine lv_iload_n hx hb dX5_shallowest_35 rfl (lv_at hl 2 rfl) ?_
    refine pn_0_5 C w kn_28 dX5_shallowest_36 (fun H locs w => ?_)
    obtain ⟨M3, eM3⟩ : ∃ z : Mem, z = (mup M 4 5 x2) := ⟨_, rfl⟩
    replace w : Wd G s M3 H locs := by rw [eM3]; exact w
    replace h := h M3 eM3
    refine lv_iload_n hx hb dX5_shallowest_39 rfl (lv_at hl 1 rfl) ?_
    refine lv_aload_n hx hb dX5_shallowest_40 rfl (lv_at hl 0 rfl) ?_
    refine gt_5_3 C w kw_1_22 dX5_shallowest_41 ?_
    refine end_i w (run_VN (As := []) C w hl.1 (c_X0_hang l G C.2.2.1 _ _   _ h) kw_16_16 kw_1_21 kn_59 kw_16_14 kw_16_15 hd_X0_hang ⟨by decide, by decide⟩ (w.recv C (i := 4) (by decide) (pE_0) rfl) rfl (Nat.le_of_ble_eq_true rfl) dX5_shallowest_44) (fun r4 M5 H locs h w => ?_)
    refine va_mmax hx hb (C.ml hl) C.1.2.2.2.1 (C.ws kw_26_22) (C.ws kw_16_11) (C.ws kw_16_12) (C.ws kw_16_13) (Nat.le_of_ble_eq_true rfl) (Nat.le_of_ble_eq_true rfl) (Nat.le_refl 0) (Nat.le_refl 0) dX5_shallowest_47 ?_
    refine lv_istore_n (lv' := [(1, .int (if x1 < r4 then r4 else x1)), (0, .ref (ga G 0)), (2, .int x2)]) hx hb dX5_shallowest_50 rfl hl (by decide) rfl (fun ls hl => ?_)
    refine lv_iinc (v := (x2 + (1 : Int32))) (lv' := [(2, .int (x2 + (1 : Int32))), (1, .int (if x1 < r4 then r4 else x1)), (0, .ref (ga G 0))]) hx hb dX5_shallowest_51 hl (k := 2) rfl rfl (by decide) rfl (fun ls hl => ?_)
    refine lv_goto (tgt := 18) hx hb dX5_shallowest_54 (by decide) ?_
    exact hk18 M5 (if x1 < r4 then r4 else x1) (x2 + (1 : Int32)) _ _ _  w (lv_sub hl [2, 1, 0] rfl) h
set_option maxHeartbeats 4000000 in
set_option maxRecDepth 100000 in
theorem c_X5_shallowest (l : Launch) (G : GG) (hG : Ag G) (sz : Nat) (M : Mem) (post : Int32 → Mem → Prop) (h : q_X5_shallowest M post) : Met l yX5_shallowest (Cond.code yX5_shallowest cX5_shallowest 3 (some .int) :: wsL_law) (rmk 3) (va_Pc [.ref (ga G 0)] (Pw G sz M)) (va_Qi post (Qw G) (Af G sz)) 0 0 (Af G sz) := by
  refine Met.ofW (cc := cX5_shallowest) (maxL := 3) (ret := (some .int)) (by decide) rfl ?_
  intro p e s m args below meth c s₁ B hml hv
  obtain ⟨rfl, hsz, hE, hP⟩ := hv
  subst hsz
  have C := Cx.of (own := RX5) hG hE rfl hml B
  have w : Wd G s M s.heap [] := ⟨hP, va_S.rf⟩
  have hl := lv_entry [.ref (ga G 0)] (n := 3) (Nat.le_of_ble_eq_true rfl)
  rw [lg_entry_eq]
  generalize (lg_sl [.ref (ga G 0)] ++ List.replicate (3 - (lg_sl [.ref (ga G 0)]).length) Slot.unset).toArray = ls at hl ⊢
  have hl : lv_has ls 3 [(0, .ref (ga G 0))] := hl
  have hx := C.1.1
  have hb := C.1.2.1
  show W p l e (rmk 3) s m _ below meth c s.heap [] 0 0 _ _
  unfold q_X5_shallowest at h
  refine lv_aload_n hx hb dX5_shallowest_0 rfl (lv_at hl 0 rfl) ?_
  refine end_i w (run_V (As := []) C w hl.1 (c_X5_layLine l G C.2.2.1 _ _   _ h) kw_15_21 kw_1_2 kw_15_18 kw_15_19 kw_15_20 hd_X5_layLine ⟨by decide, by decide⟩ (w.recv C (i := 0) (by decide) (pE_5) rfl) rfl (Nat.le_of_ble_eq_true rfl) dX5_shallowest_1) (fun r6 M7 H locs h w => ?_)
  refine lv_if_ne (tgt := 10) hx hb dX5_shallowest_4 (by decide) (fun c8 => ?_) (fun c8 => ?_)
  · replace h := h.2 c8
    refine gs_gL C w kw_26_21 dX5_shallowest_10 ?_
    refine lv_iconst (v := 3) hx hb dX5_shallowest_13 (by decide) ?_
    refine ts_gL C w (vl (x := (3 : Int32)) (by decide)) (k := 3) (by decide) dX5_shallowest_14 ?_
    refine lv_istore_n (lv' := [(1, .int (leastT 3)), (0, .ref (ga G 0))]) hx hb dX5_shallowest_15 rfl hl (by decide) rfl (fun ls hl => ?_)
    refine lv_iconst (v := 0) hx hb dX5_shallowest_16 (by decide) ?_
    refine lv_istore_n (lv' := [(2, .int (0 : Int32)), (1, .int (leastT 3)), (0, .ref (ga G 0))]) hx hb dX5_shallowest_17 rfl hl (by decide) rfl (fun ls hl => ?_)
    obtain ⟨n, h⟩ := h
    exact t_X5_shallowest_18 C n M7 (leastT 3) (0 : Int32)  w (lv_sub hl [2, 1, 0] rfl) h
  replace h := h.1 c8
  refine lv_bipush (v := -3) hx hb dX5_shallowest_7 (by decide) ?_
  exact ret_i C w h dX5_shallowest_9
def j_X6_shallowest_47 (post : Int32 → Mem → Prop) (M : Mem) (y0 : Int32) : Prop := post y0 M
def q_X6_shallowest (M : Mem) (post : Int32 → Mem → Prop) : Prop := q_X6_isLine M  (fun r1 M2 => (r1 = 0 → (post (-3 : Int32) M2)) ∧ (¬ (r1 = 0) → (q_X6_allPieces M2  (fun r4 M5 => q_X6_sumsUp M5 r4 (fun M7 => (((M7 57 19) / (4 : Int32)) ≤ (999 : Int32) → (((1 : Int32) ≤ ((M7 57 19) / (4 : Int32)) → (j_X6_shallowest_47 post M7 ((M7 57 19) / (4 : Int32)))) ∧ (¬ ((1 : Int32) ≤ ((M7 57 19) / (4 : Int32))) → (j_X6_shallowest_47 post M7 (1 : Int32))))) ∧ (¬ (((M7 57 19) / (4 : Int32)) ≤ (999 : Int32)) → (j_X6_shallowest_47 post M7 (-4 : Int32))))))))
set_option maxHeartbeats 4000000 in
set_option maxRecDepth 100000 in
theorem t_X6_shallowest_47 (C : Cx G p s m args meth c RX6 cX6_shallowest 2 (some .int)) {post : Int32 → Mem → Prop} (M : Mem) (y0 : Int32) {H : Heap} {locs : List Loc} {ls : Array Slot} (w : Wd G s M H locs) (hl : lv_has ls 2 []) (h : j_X6_shallowest_47 post M y0) : W p l e (rmk 3) s m args below meth c H locs 0 0 (MQ below (va_Qi post (Qw G) (Af G s.heap.size)) args s 0 0 (Af G s.heap.size)) (F0 m 47 ls [.int y0]) := by
  have hx := C.1.1
  have hb := C.1.2.1
  unfold j_X6_shallowest_47 at h
  exact ret_i C w h dX6_shallowest_47
set_option maxHeartbeats 4000000 in
set_option maxRecDepth 100000 in
theorem c_X6_shallowest (l : Launch) (G : GG) (hG : Ag G) (sz : Nat) (M : Mem) (post : Int32 → Mem → Prop) (h : q_X6_shallowest M post) : Met l yX6_shallowest (Cond.code yX6_shallowest cX6_shallowest 2 (some .int) :: wsL_law) (rmk 3) (va_Pc [.ref (ga G 57)] (Pw G sz M)) (va_Qi post (Qw G) (Af G sz)) 0 0 (Af G sz) := by
  refine Met.ofW (cc := cX6_shallowest) (maxL := 2) (ret := (some .int)) (by decide) rfl ?_
  intro p e s m args below meth c s₁ B hml hv
  obtain ⟨rfl, hsz, hE, hP⟩ := hv
  subst hsz
  have C := Cx.of (own := RX6) hG hE rfl hml B
  have w : Wd G s M s.heap [] := ⟨hP, va_S.rf⟩
  have hl := lv_entry [.ref (ga G 57)] (n := 2) (Nat.le_of_ble_eq_true rfl)
  rw [lg_entry_eq]
  generalize (lg_sl [.ref (ga G 57)] ++ List.replicate (2 - (lg_sl [.ref (ga G 57)]).length) Slot.unset).toArray = ls at hl ⊢
  have hl : lv_has ls 2 [(0, .ref (ga G 57))] := hl
  have hx := C.1.1
  have hb := C.1.2.1
  show W p l e (rmk 3) s m _ below meth c s.heap [] 0 0 _ _
  unfold q_X6_shallowest at h
  refine lv_aload_n hx hb dX6_shallowest_0 rfl (lv_at hl 0 rfl) ?_
  refine end_i w (run_V (As := []) C w hl.1 (c_X6_isLine l G C.2.2.1 _ _   _ h) kw_17_11 kw_1_5 kw_17_8 kw_17_9 kw_17_10 hd_X6_isLine ⟨by decide, by decide⟩ (w.recv C (i := 57) (by decide) (pE_6) rfl) rfl (Nat.le_of_ble_eq_true rfl) dX6_shallowest_1) (fun r1 M2 H locs h w => ?_)
  refine lv_if_ne (tgt := 10) hx hb dX6_shallowest_4 (by decide) (fun c3 => ?_) (fun c3 => ?_)
  · replace h := h.2 c3
    refine lv_aload_n hx hb dX6_shallowest_10 rfl (lv_at hl 0 rfl) ?_
    refine lv_aload_n hx hb dX6_shallowest_11 rfl (lv_at hl 0 rfl) ?_
    refine end_i w (run_V (As := []) C w hl.1 (c_X6_allPieces l G C.2.2.1 _ _   _ h) kw_17_15 kw_1_5 kw_17_12 kw_17_13 kw_17_14 hd_X6_allPieces ⟨by decide, by decide⟩ (w.recv C (i := 57) (by decide) (pE_6) rfl) rfl (Nat.le_of_ble_eq_true rfl) dX6_shallowest_12) (fun r4 M5 H locs h w => ?_)
    refine end_v w (run_V (As := [.int r4]) C w hl.1 (c_X6_sumsUp l G C.2.2.1 _ _ r4  _ h) kw_17_19 kw_1_5 kw_17_16 kw_17_17 kw_17_18 hd_X6_sumsUp ⟨by decide, by decide⟩ (w.recv C (i := 57) (by decide) (pE_6) rfl) rfl (Nat.le_of_ble_eq_true rfl) dX6_shallowest_15) (fun M7 H locs h w => ?_)
    refine lv_aload_n hx hb dX6_shallowest_18 rfl (lv_at hl 0 rfl) ?_
    refine gt_6_19 C w kw_17_6 dX6_shallowest_19 ?_
    refine lv_iconst (v := 4) hx hb dX6_shallowest_22 (by decide) ?_
    refine lv_idiv hx hb dX6_shallowest_23 (by decide) ?_
    refine lv_istore_n (lv' := [(1, .int ((M7 57 19) / (4 : Int32))), (0, .ref (ga G 57))]) hx hb dX6_shallowest_24 rfl hl (by decide) rfl (fun ls hl => ?_)
    refine lv_iload_n hx hb dX6_shallowest_25 rfl (lv_at hl 0 rfl) ?_
    refine lv_sipush (v := 999) hx hb dX6_shallowest_26 (by decide) ?_
    refine lv_icmp_le (tgt := 37) hx hb dX6_shallowest_29 (by decide) (fun c8 => ?_) (fun c8 => ?_)
    · replace h := h.1 c8
      refine lv_iload_n hx hb dX6_shallowest_37 rfl (lv_at hl 0 rfl) ?_
      refine lv_iconst (v := 1) hx hb dX6_shallowest_38 (by decide) ?_
      refine lv_icmp_ge (tgt := 46) hx hb dX6_shallowest_39 (by decide) (fun c9 => ?_) (fun c9 => ?_)
      · replace h := h.1 c9
        refine lv_iload_n hx hb dX6_shallowest_46 rfl (lv_at hl 0 rfl) ?_
        exact t_X6_shallowest_47 C M7 ((M7 57 19) / (4 : Int32))  w (lv_sub hl [] rfl) h
      replace h := h.2 c9
      refine lv_iconst (v := 1) hx hb dX6_shallowest_42 (by decide) ?_
      refine lv_goto (tgt := 47) hx hb dX6_shallowest_43 (by decide) ?_
      exact t_X6_shallowest_47 C M7 (1 : Int32)  w (lv_sub hl [] rfl) h
    replace h := h.2 c8
    refine lv_bipush (v := -4) hx hb dX6_shallowest_32 (by decide) ?_
    refine lv_goto (tgt := 47) hx hb dX6_shallowest_34 (by decide) ?_
    exact t_X6_shallowest_47 C M7 (-4 : Int32)  w (lv_sub hl [] rfl) h
  replace h := h.1 c3
  refine lv_bipush (v := -3) hx hb dX6_shallowest_7 (by decide) ?_
  exact ret_i C w h dX6_shallowest_9
def q_X5_heldWithin (M : Mem) (x0 : Int32) (x1 : Int32) (x2 : Int32) (post : Int32 → Mem → Prop) : Prop := post (if x1 < (if x0 < x2 then x0 else x2) then (if x0 < x2 then x0 else x2) else x1) M
set_option maxHeartbeats 4000000 in
set_option maxRecDepth 100000 in
theorem c_X5_heldWithin (l : Launch) (G : GG) (hG : Ag G) (sz : Nat) (M : Mem) (x0 : Int32) (x1 : Int32) (x2 : Int32) (post : Int32 → Mem → Prop) (h : q_X5_heldWithin M x0 x1 x2 post) : Met l yX5_heldWithin (Cond.code yX5_heldWithin cX5_heldWithin 3 (some .int) :: wsL_law) (rmk 1) (va_Pc [.int x0, .int x1, .int x2] (Pw G sz M)) (va_Qi post (Qw G) (Af G sz)) 0 0 (Af G sz) := by
  refine Met.ofW (cc := cX5_heldWithin) (maxL := 3) (ret := (some .int)) (by decide) rfl ?_
  intro p e s m args below meth c s₁ B hml hv
  obtain ⟨rfl, hsz, hE, hP⟩ := hv
  subst hsz
  have C := Cx.of (own := RX5) hG hE rfl hml B
  have w : Wd G s M s.heap [] := ⟨hP, va_S.rf⟩
  have hl := lv_entry [.int x0, .int x1, .int x2] (n := 3) (Nat.le_of_ble_eq_true rfl)
  rw [lg_entry_eq]
  generalize (lg_sl [.int x0, .int x1, .int x2] ++ List.replicate (3 - (lg_sl [.int x0, .int x1, .int x2]).length) Slot.unset).toArray = ls at hl ⊢
  have hl : lv_has ls 3 [(0, .int x0), (1, .int x1), (2, .int x2)] := hl
  have hx := C.1.1
  have hb := C.1.2.1
  show W p l e (rmk 1) s m _ below meth c s.heap [] 0 0 _ _
  unfold q_X5_heldWithin at h
  refine lv_iload_n hx hb dX5_heldWithin_0 rfl (lv_at hl 1 rfl) ?_
  refine lv_iload_n hx hb dX5_heldWithin_1 rfl (lv_at hl 2 rfl) ?_
  refine lv_iload_n hx hb dX5_heldWithin_2 rfl (lv_at hl 0 rfl) ?_
  refine va_mmin hx hb (C.ml hl) C.1.2.2.2.1 (C.ws kw_27_17) (C.ws kw_21_13) (C.ws kw_16_12) (C.ws kw_21_14) (Nat.le_of_ble_eq_true rfl) (Nat.le_of_ble_eq_true rfl) (Nat.le_refl 0) (Nat.le_refl 0) dX5_heldWithin_3 ?_
  refine va_mmax hx hb (C.ml hl) C.1.2.2.2.1 (C.ws kw_26_22) (C.ws kw_16_11) (C.ws kw_16_12) (C.ws kw_16_13) (Nat.le_of_ble_eq_true rfl) (Nat.le_of_ble_eq_true rfl) (Nat.le_refl 0) (Nat.le_refl 0) dX5_heldWithin_6 ?_
  exact ret_i C w h dX5_heldWithin_9
def b_X5_holdsByDraws_15 (k15 : Mem → Int32 → Int32 → Prop) (post : Int32 → Mem → Prop) (M : Mem) (x2 : Int32) (x3 : Int32) : Prop := ((100 : Int32) ≤ x3 → (post (1 : Int32) M)) ∧ (¬ ((100 : Int32) ≤ x3) → (∀ v2 : Int32, v2 = ((x2 * (1103515245 : Int32)) + (12345 : Int32)) → (∀ v3 : Int32, v3 = (((v2 &&& (2147483647 : Int32)) / (65536 : Int32)) - ((v2 &&& (2147483647 : Int32)) / (65536 : Int32)) / (21 : Int32) * (21 : Int32)) → (q_X5_heldWithin M (((M 11 0) + v3) - (10 : Int32)) (leastT 0) (mostT 0) (fun r4 M5 => ∀ M6 : Mem, M6 = (mup M5 4 3 r4) → (q_X4_passTenth M6 3 (fun r7 M8 => ((M8 3 7) = (-4 : Int32) → (k15 M8 v2 (x3 + (1 : Int32)))) ∧ (¬ ((M8 3 7) = (-4 : Int32)) → (post (0 : Int32) M8)))))))))
def lp_X5_holdsByDraws_15 (post : Int32 → Mem → Prop) : Nat → Mem → Int32 → Int32 → Prop
  | 0 => fun _ _ _ => False
  | n + 1 => fun M x2 x3 => b_X5_holdsByDraws_15 (lp_X5_holdsByDraws_15 post n) post M x2 x3
def q_X5_holdsByDraws (M : Mem) (x1 : Int32) (post : Int32 → Mem → Prop) : Prop := q_X4_become M 3 1 (fun M11 => ∃ n, lp_X5_holdsByDraws_15 post n M11 x1 (0 : Int32))
set_option maxHeartbeats 4000000 in
set_option maxRecDepth 100000 in
theorem t_X5_holdsByDraws_15 (C : Cx G p s m args meth c RX5 cX5_holdsByDraws 5 (some .boolean)) {post : Int32 → Mem → Prop} : ∀ (n : Nat) (M : Mem) (x2 : Int32) (x3 : Int32) {H : Heap} {locs : List Loc} {ls : Array Slot} (w : Wd G s M H locs) (hl : lv_has ls 5 [(0, .ref (ga G 0)), (2, .int x2), (3, .int x3)]) (h : lp_X5_holdsByDraws_15 post n M x2 x3), W p l e (rmk 5) s m args below meth c H locs 0 0 (MQ below (va_Qi post (Qw G) (Af G s.heap.size)) args s 0 0 (Af G s.heap.size)) (F0 m 15 ls []) := by
  have hx := C.1.1
  have hb := C.1.2.1
  intro n9
  induction n9 with
  | zero => intro M x2 x3 H locs ls w hl h; exact absurd h id
  | succ n9 ih9 =>
    intro M x2 x3 H locs ls w hl h
    have hk15 : ∀ (M : Mem) (x2 : Int32) (x3 : Int32) (H : Heap) (locs : List Loc) (ls : Array Slot), Wd G s M H locs → lv_has ls 5 [(0, .ref (ga G 0)), (2, .int x2), (3, .int x3)] → lp_X5_holdsByDraws_15 post n9 M x2 x3 → W p l e (rmk 5) s m args below meth c H locs 0 0 (MQ below (va_Qi post (Qw G) (Af G s.heap.size)) args s 0 0 (Af G s.heap.size)) (F0 m 15 ls []) := fun M x2 x3 H locs ls w hl h => ih9 M x2 x3 w hl h
    replace h : b_X5_holdsByDraws_15 (lp_X5_holdsByDraws_15 post n9) post M x2 x3 := h
    unfold b_X5_holdsByDraws_15 at h
    refine lv_iload_n hx hb dX5_holdsByDraws_15 rfl (lv_at hl 2 rfl) ?_
    refine lv_bipush (v := 100) hx hb dX5_holdsByDraws_16 (by decide) ?_
    refine lv_icmp_ge (tgt := 112) hx hb dX5_holdsByDraws_18 (by decide) (fun c1 => ?_) (fun c1 => ?_)
    · replace h := h.1 c1
      refine lv_iconst (v := 1) hx hb dX5_holdsByDraws_112 (by decide) ?_
      exact ret_z C w ⟨Or.inr rfl, h⟩ dX5_holdsByDraws_113
    replace h := h.2 c1
    refine lv_iload_n hx hb dX5_holdsByDraws_21 rfl (lv_at hl 1 rfl) ?_
    refine lv_ldcw hx hb C.1.2.2.2.1 (C.ws kw_27_11) dX5_holdsByDraws_22 ?_
    refine lv_imul hx hb dX5_holdsByDraws_25 ?_
    refine lv_sipush (v := 12345) hx hb dX5_holdsByDraws_26 (by decide) ?_
    refine lv_iadd hx hb dX5_holdsByDraws_29 ?_
    refine lv_topi (fun v2 ev2 => ?_)
    replace h := h v2 ev2
    refine lv_istore_n (lv' := [(2, .int v2), (0, .ref (ga G 0)), (3, .int x3)]) hx hb dX5_holdsByDraws_30 rfl hl (by decide) rfl (fun ls hl => ?_)
    refine lv_iload_n hx hb dX5_holdsByDraws_31 rfl (lv_at hl 0 rfl) ?_
    refine lv_ldcw hx hb C.1.2.2.2.1 (C.ws kw_27_12) dX5_holdsByDraws_32 ?_
    refine lv_iand hx hb dX5_holdsByDraws_35 ?_
    refine lv_ldcw hx hb C.1.2.2.2.1 (C.ws kw_27_13) dX5_holdsByDraws_36 ?_
    refine lv_idiv hx hb dX5_holdsByDraws_39 (by decide) ?_
    refine lv_bipush (v := 21) hx hb dX5_holdsByDraws_40 (by decide) ?_
    refine lv_irem hx hb dX5_holdsByDraws_42 (by decide) ?_
    refine lv_topi (fun v3 ev3 => ?_)
    replace h := h v3 ev3
    refine lv_istore (lv' := [(4, .int v3), (2, .int v2), (0, .ref (ga G 0)), (3, .int x3)]) hx hb dX5_holdsByDraws_43 hl (by decide) rfl (fun ls hl => ?_)
    refine lv_aload_n hx hb dX5_holdsByDraws_45 rfl (lv_at hl 2 rfl) ?_
    refine gt_5_3 C w kw_1_22 dX5_holdsByDraws_46 ?_
    refine lv_aload_n hx hb dX5_holdsByDraws_49 rfl (lv_at hl 2 rfl) ?_
    refine gt_5_0 C w kw_1_16 dX5_holdsByDraws_50 ?_
    refine gn_4_2 C w ⟨by decide, by decide⟩ kn_16 dX5_holdsByDraws_53 ?_
    refine lv_iconst (v := 0) hx hb dX5_holdsByDraws_56 (by decide) ?_
    refine pw_ld C w (i := 11) (by decide) (pE_st ⟨by decide, by decide⟩) (vl (x := (0 : Int32)) (by decide)) (k := 0) (by decide) dX5_holdsByDraws_57 ?_
    refine lv_iload hx hb dX5_holdsByDraws_58 (lv_at hl 0 rfl) ?_
    refine lv_iadd hx hb dX5_holdsByDraws_60 ?_
    refine lv_bipush (v := 10) hx hb dX5_holdsByDraws_61 (by decide) ?_
    refine lv_isub hx hb dX5_holdsByDraws_63 ?_
    refine gs_gL C w kw_26_21 dX5_holdsByDraws_64 ?_
    refine lv_iconst (v := 0) hx hb dX5_holdsByDraws_67 (by decide) ?_
    refine ts_gL C w (vl (x := (0 : Int32)) (by decide)) (k := 0) (by decide) dX5_holdsByDraws_68 ?_
    refine gs_gM C w kw_24_3 dX5_holdsByDraws_69 ?_
    refine lv_iconst (v := 0) hx hb dX5_holdsByDraws_72 (by decide) ?_
    refine ts_gM C w (vl (x := (0 : Int32)) (by decide)) (k := 0) (by decide) dX5_holdsByDraws_73 ?_
    refine end_i w (run_S (As := [.int (((M 11 0) + v3) - (10 : Int32)), .int (leastT 0), .int (mostT 0)]) C w hl.1 (c_X5_heldWithin l G C.2.2.1 _ _ (((M 11 0) + v3) - (10 : Int32)) (leastT 0) (mostT 0)  _ h) kw_27_16 kw_1_2 kw_27_14 kw_27_15 hd_X5_heldWithin ⟨by decide, by decide⟩ rfl (Nat.le_of_ble_eq_true rfl) dX5_holdsByDraws_74) (fun r4 M5 H locs h w => ?_)
    refine pn_0_3 C w kn_26 dX5_holdsByDraws_77 (fun H locs w => ?_)
    obtain ⟨M6, eM6⟩ : ∃ z : Mem, z = (mup M5 4 3 r4) := ⟨_, rfl⟩
    replace w : Wd G s M6 H locs := by rw [eM6]; exact w
    replace h := h M6 eM6
    refine lv_aload_n hx hb dX5_holdsByDraws_80 rfl (lv_at hl 2 rfl) ?_
    refine gt_5_2 C w kw_1_18 dX5_holdsByDraws_81 ?_
    refine lv_aload_n hx hb dX5_holdsByDraws_84 rfl (lv_at hl 2 rfl) ?_
    refine gt_5_3 C w kw_1_22 dX5_holdsByDraws_85 ?_
    refine end_i w (run_VN (As := [.ref (ga G 4)]) C w hl.1 (c_X4_passTenth l G C.2.2.1 _ _ 3 ⟨by decide, by decide⟩ _ h) kw_21_0 kw_1_15 kn_64 kw_20_22 kw_20_23 hd_X4_passTenth ⟨by decide, by decide⟩ (w.recv C (i := 3) (by decide) (pE_4 ⟨by decide, by decide⟩) rfl) rfl (Nat.le_of_ble_eq_true rfl) dX5_holdsByDraws_88) (fun r7 M8 H locs h w => ?_)
    refine lv_pop hx hb dX5_holdsByDraws_91 rfl ?_
    refine lv_aload_n hx hb dX5_holdsByDraws_92 rfl (lv_at hl 2 rfl) ?_
    refine gt_5_2 C w kw_1_18 dX5_holdsByDraws_93 ?_
    refine gn_4_7 C w ⟨by decide, by decide⟩ kn_22 dX5_holdsByDraws_96 ?_
    refine lv_bipush (v := -4) hx hb dX5_holdsByDraws_99 (by decide) ?_
    refine lv_icmp_eq (tgt := 106) hx hb dX5_holdsByDraws_101 (by decide) (fun c9 => ?_) (fun c9 => ?_)
    · replace h := h.1 c9
      refine lv_iinc (v := (x3 + (1 : Int32))) (lv' := [(3, .int (x3 + (1 : Int32))), (4, .int v3), (2, .int v2), (0, .ref (ga G 0))]) hx hb dX5_holdsByDraws_106 hl (k := 3) rfl rfl (by decide) rfl (fun ls hl => ?_)
      refine lv_goto (tgt := 15) hx hb dX5_holdsByDraws_109 (by decide) ?_
      exact hk15 M8 v2 (x3 + (1 : Int32)) _ _ _  w (lv_sub hl [3, 2, 0] rfl) h
    replace h := h.2 c9
    refine lv_iconst (v := 0) hx hb dX5_holdsByDraws_104 (by decide) ?_
    exact ret_z C w ⟨Or.inl rfl, h⟩ dX5_holdsByDraws_105
set_option maxHeartbeats 4000000 in
set_option maxRecDepth 100000 in
theorem c_X5_holdsByDraws (l : Launch) (G : GG) (hG : Ag G) (sz : Nat) (M : Mem) (x1 : Int32) (post : Int32 → Mem → Prop) (h : q_X5_holdsByDraws M x1 post) : Met l yX5_holdsByDraws (Cond.code yX5_holdsByDraws cX5_holdsByDraws 5 (some .boolean) :: wsL_law) (rmk 5) (va_Pc [.ref (ga G 0), .int x1] (Pw G sz M)) (va_Qi post (Qw G) (Af G sz)) 0 0 (Af G sz) := by
  refine Met.ofW (cc := cX5_holdsByDraws) (maxL := 5) (ret := (some .boolean)) (by decide) rfl ?_
  intro p e s m args below meth c s₁ B hml hv
  obtain ⟨rfl, hsz, hE, hP⟩ := hv
  subst hsz
  have C := Cx.of (own := RX5) hG hE rfl hml B
  have w : Wd G s M s.heap [] := ⟨hP, va_S.rf⟩
  have hl := lv_entry [.ref (ga G 0), .int x1] (n := 5) (Nat.le_of_ble_eq_true rfl)
  rw [lg_entry_eq]
  generalize (lg_sl [.ref (ga G 0), .int x1] ++ List.replicate (5 - (lg_sl [.ref (ga G 0), .int x1]).length) Slot.unset).toArray = ls at hl ⊢
  have hl : lv_has ls 5 [(0, .ref (ga G 0)), (1, .int x1)] := hl
  have hx := C.1.1
  have hb := C.1.2.1
  show W p l e (rmk 5) s m _ below meth c s.heap [] 0 0 _ _
  unfold q_X5_holdsByDraws at h
  refine lv_aload_n hx hb dX5_holdsByDraws_0 rfl (lv_at hl 0 rfl) ?_
  refine gt_5_2 C w kw_1_18 dX5_holdsByDraws_1 ?_
  refine lv_aload_n hx hb dX5_holdsByDraws_4 rfl (lv_at hl 0 rfl) ?_
  refine gt_5_0 C w kw_1_16 dX5_holdsByDraws_5 ?_
  refine end_v w (run_VN (As := [.ref (ga G 1)]) C w hl.1 (c_X4_become l G C.2.2.1 _ _ 3 1 ⟨by decide, by decide⟩ ⟨by decide, by decide⟩ _ h) kw_6_11 kw_1_15 kn_44 kw_6_9 kw_6_10 hd_X4_become ⟨by decide, by decide⟩ (w.recv C (i := 3) (by decide) (pE_4 ⟨by decide, by decide⟩) rfl) rfl (Nat.le_of_ble_eq_true rfl) dX5_holdsByDraws_8) (fun M11 H locs h w => ?_)
  refine lv_iload_n hx hb dX5_holdsByDraws_11 rfl (lv_at hl 1 rfl) ?_
  refine lv_istore_n (lv' := [(2, .int x1), (0, .ref (ga G 0)), (1, .int x1)]) hx hb dX5_holdsByDraws_12 rfl hl (by decide) rfl (fun ls hl => ?_)
  refine lv_iconst (v := 0) hx hb dX5_holdsByDraws_13 (by decide) ?_
  refine lv_istore_n (lv' := [(3, .int (0 : Int32)), (2, .int x1), (0, .ref (ga G 0)), (1, .int x1)]) hx hb dX5_holdsByDraws_14 rfl hl (by decide) rfl (fun ls hl => ?_)
  obtain ⟨n, h⟩ := h
  exact t_X5_holdsByDraws_15 C n M11 x1 (0 : Int32)  w (lv_sub hl [2, 1, 0] rfl) h
def j_X5_odds_47 (k27 : Mem → Int32 → Int32 → Int32 → Int32 → Prop) (post : Int32 → Mem → Prop) (M : Mem) (x1 : Int32) (x2 : Int32) (x3 : Int32) (x4 : Int32) : Prop := k27 M x1 x2 x3 (x4 + (1 : Int32))
def b_X5_odds_27 (k27 : Mem → Int32 → Int32 → Int32 → Int32 → Prop) (post : Int32 → Mem → Prop) (M : Mem) (x1 : Int32) (x2 : Int32) (x3 : Int32) (x4 : Int32) : Prop := (x1 ≤ x4 → (post x3 M)) ∧ (¬ (x1 ≤ x4) → (q_X5_holdsByDraws M (x2 + x4) (fun r2 M3 => (r2 = 0 → (j_X5_odds_47 k27 post M3 x1 x2 x3 x4)) ∧ (¬ (r2 = 0) → (j_X5_odds_47 k27 post M3 x1 x2 (x3 + (1 : Int32)) x4)))))
def lp_X5_odds_27 (post : Int32 → Mem → Prop) : Nat → Mem → Int32 → Int32 → Int32 → Int32 → Prop
  | 0 => fun _ _ _ _ _ => False
  | n + 1 => fun M x1 x2 x3 x4 => b_X5_odds_27 (lp_X5_odds_27 post n) post M x1 x2 x3 x4
def q_X5_odds (M : Mem) (x1 : Int32) (x2 : Int32) (post : Int32 → Mem → Prop) : Prop := q_X5_isWithin M x1 (1 : Int32) (20 : Int32) (fun r5 M6 => (r5 = 0 → (post (-1 : Int32) M6)) ∧ (¬ (r5 = 0) → (q_X5_layLine M6  (fun r8 M9 => (r8 = 0 → (post (-3 : Int32) M9)) ∧ (¬ (r8 = 0) → (∃ n, lp_X5_odds_27 post n M9 x1 x2 (0 : Int32) (0 : Int32)))))))
set_option maxHeartbeats 4000000 in
set_option maxRecDepth 100000 in
theorem t_X5_odds_47 (C : Cx G p s m args meth c RX5 cX5_odds 5 (some .int)) {post : Int32 → Mem → Prop} {k27 : Mem → Int32 → Int32 → Int32 → Int32 → Prop} (hk27 : ∀ (M : Mem) (x1 : Int32) (x2 : Int32) (x3 : Int32) (x4 : Int32) (H : Heap) (locs : List Loc) (ls : Array Slot), Wd G s M H locs → lv_has ls 5 [(0, .ref (ga G 0)), (1, .int x1), (2, .int x2), (3, .int x3), (4, .int x4)] → k27 M x1 x2 x3 x4 → W p l e (rmk 6) s m args below meth c H locs 0 0 (MQ below (va_Qi post (Qw G) (Af G s.heap.size)) args s 0 0 (Af G s.heap.size)) (F0 m 27 ls [])) (M : Mem) (x1 : Int32) (x2 : Int32) (x3 : Int32) (x4 : Int32) {H : Heap} {locs : List Loc} {ls : Array Slot} (w : Wd G s M H locs) (hl : lv_has ls 5 [(0, .ref (ga G 0)), (1, .int x1), (2, .int x2), (3, .int x3), (4, .int x4)]) (h : j_X5_odds_47 k27 post M x1 x2 x3 x4) : W p l e (rmk 6) s m args below meth c H locs 0 0 (MQ below (va_Qi post (Qw G) (Af G s.heap.size)) args s 0 0 (Af G s.heap.size)) (F0 m 47 ls []) := by
  have hx := C.1.1
  have hb := C.1.2.1
  unfold j_X5_odds_47 at h
  refine lv_iinc (v := (x4 + (1 : Int32))) (lv' := [(4, .int (x4 + (1 : Int32))), (0, .ref (ga G 0)), (1, .int x1), (2, .int x2), (3, .int x3)]) hx hb dX5_odds_47 hl (k := 4) rfl rfl (by decide) rfl (fun ls hl => ?_)
  refine lv_goto (tgt := 27) hx hb dX5_odds_50 (by decide) ?_
  exact hk27 M x1 x2 x3 (x4 + (1 : Int32)) _ _ _  w (lv_sub hl [1, 2, 3, 4, 0] rfl) h
set_option maxHeartbeats 4000000 in
set_option maxRecDepth 100000 in
theorem t_X5_odds_27 (C : Cx G p s m args meth c RX5 cX5_odds 5 (some .int)) {post : Int32 → Mem → Prop} : ∀ (n : Nat) (M : Mem) (x1 : Int32) (x2 : Int32) (x3 : Int32) (x4 : Int32) {H : Heap} {locs : List Loc} {ls : Array Slot} (w : Wd G s M H locs) (hl : lv_has ls 5 [(0, .ref (ga G 0)), (1, .int x1), (2, .int x2), (3, .int x3), (4, .int x4)]) (h : lp_X5_odds_27 post n M x1 x2 x3 x4), W p l e (rmk 6) s m args below meth c H locs 0 0 (MQ below (va_Qi post (Qw G) (Af G s.heap.size)) args s 0 0 (Af G s.heap.size)) (F0 m 27 ls []) := by
  have hx := C.1.1
  have hb := C.1.2.1
  intro n9
  induction n9 with
  | zero => intro M x1 x2 x3 x4 H locs ls w hl h; exact absurd h id
  | succ n9 ih9 =>
    intro M x1 x2 x3 x4 H locs ls w hl h
    have hk27 : ∀ (M : Mem) (x1 : Int32) (x2 : Int32) (x3 : Int32) (x4 : Int32) (H : Heap) (locs : List Loc) (ls : Array Slot), Wd G s M H locs → lv_has ls 5 [(0, .ref (ga G 0)), (1, .int x1), (2, .int x2), (3, .int x3), (4, .int x4)] → lp_X5_odds_27 post n9 M x1 x2 x3 x4 → W p l e (rmk 6) s m args below meth c H locs 0 0 (MQ below (va_Qi post (Qw G) (Af G s.heap.size)) args s 0 0 (Af G s.heap.size)) (F0 m 27 ls []) := fun M x1 x2 x3 x4 H locs ls w hl h => ih9 M x1 x2 x3 x4 w hl h
    replace h : b_X5_odds_27 (lp_X5_odds_27 post n9) post M x1 x2 x3 x4 := h
    unfold b_X5_odds_27 at h
    refine lv_iload hx hb dX5_odds_27 (lv_at hl 4 rfl) ?_
    refine lv_iload_n hx hb dX5_odds_29 rfl (lv_at hl 1 rfl) ?_
    refine lv_icmp_ge (tgt := 53) hx hb dX5_odds_30 (by decide) (fun c1 => ?_) (fun c1 => ?_)
    · replace h := h.1 c1
      refine lv_iload_n hx hb dX5_odds_53 rfl (lv_at hl 3 rfl) ?_
      exact ret_i C w h dX5_odds_54
    replace h := h.2 c1
    refine lv_aload_n hx hb dX5_odds_33 rfl (lv_at hl 0 rfl) ?_
    refine lv_iload_n hx hb dX5_odds_34 rfl (lv_at hl 2 rfl) ?_
    refine lv_iload hx hb dX5_odds_35 (lv_at hl 4 rfl) ?_
    refine lv_iadd hx hb dX5_odds_37 ?_
    refine end_i w (run_V (As := [.int (x2 + x4)]) C w hl.1 (c_X5_holdsByDraws l G C.2.2.1 _ _ (x2 + x4)  _ h) kw_27_10 kw_1_2 kw_27_7 kw_27_8 kw_27_9 hd_X5_holdsByDraws ⟨by decide, by decide⟩ (w.recv C (i := 0) (by decide) (pE_5) rfl) rfl (Nat.le_of_ble_eq_true rfl) dX5_odds_38) (fun r2 M3 H locs h w => ?_)
    refine lv_if_eq (tgt := 47) hx hb dX5_odds_41 (by decide) (fun c4 => ?_) (fun c4 => ?_)
    · replace h := h.1 c4
      exact t_X5_odds_47 C hk27 M3 x1 x2 x3 x4  w (lv_sub hl [0, 1, 2, 3, 4] rfl) h
    replace h := h.2 c4
    refine lv_iinc (v := (x3 + (1 : Int32))) (lv' := [(3, .int (x3 + (1 : Int32))), (0, .ref (ga G 0)), (1, .int x1), (2, .int x2), (4, .int x4)]) hx hb dX5_odds_44 hl (k := 3) rfl rfl (by decide) rfl (fun ls hl => ?_)
    exact t_X5_odds_47 C hk27 M3 x1 x2 (x3 + (1 : Int32)) x4  w (lv_sub hl [1, 2, 3, 0, 4] rfl) h
set_option maxHeartbeats 4000000 in
set_option maxRecDepth 100000 in
theorem c_X5_odds (l : Launch) (G : GG) (hG : Ag G) (sz : Nat) (M : Mem) (x1 : Int32) (x2 : Int32) (post : Int32 → Mem → Prop) (h : q_X5_odds M x1 x2 post) : Met l yX5_odds (Cond.code yX5_odds cX5_odds 5 (some .int) :: wsL_law) (rmk 6) (va_Pc [.ref (ga G 0), .int x1, .int x2] (Pw G sz M)) (va_Qi post (Qw G) (Af G sz)) 0 0 (Af G sz) := by
  refine Met.ofW (cc := cX5_odds) (maxL := 5) (ret := (some .int)) (by decide) rfl ?_
  intro p e s m args below meth c s₁ B hml hv
  obtain ⟨rfl, hsz, hE, hP⟩ := hv
  subst hsz
  have C := Cx.of (own := RX5) hG hE rfl hml B
  have w : Wd G s M s.heap [] := ⟨hP, va_S.rf⟩
  have hl := lv_entry [.ref (ga G 0), .int x1, .int x2] (n := 5) (Nat.le_of_ble_eq_true rfl)
  rw [lg_entry_eq]
  generalize (lg_sl [.ref (ga G 0), .int x1, .int x2] ++ List.replicate (5 - (lg_sl [.ref (ga G 0), .int x1, .int x2]).length) Slot.unset).toArray = ls at hl ⊢
  have hl : lv_has ls 5 [(0, .ref (ga G 0)), (1, .int x1), (2, .int x2)] := hl
  have hx := C.1.1
  have hb := C.1.2.1
  show W p l e (rmk 6) s m _ below meth c s.heap [] 0 0 _ _
  unfold q_X5_odds at h
  refine lv_iload_n hx hb dX5_odds_0 rfl (lv_at hl 1 rfl) ?_
  refine lv_iconst (v := 1) hx hb dX5_odds_1 (by decide) ?_
  refine lv_bipush (v := 20) hx hb dX5_odds_2 (by decide) ?_
  refine end_i w (run_S (As := [.int x1, .int (1 : Int32), .int (20 : Int32)]) C w hl.1 (c_X5_isWithin l G C.2.2.1 _ _ x1 (1 : Int32) (20 : Int32)  _ h) kw_6_8 kw_1_2 kw_6_6 kw_6_7 hd_X5_isWithin ⟨by decide, by decide⟩ rfl (Nat.le_of_ble_eq_true rfl) dX5_odds_4) (fun r5 M6 H locs h w => ?_)
  refine lv_if_ne (tgt := 12) hx hb dX5_odds_7 (by decide) (fun c7 => ?_) (fun c7 => ?_)
  · replace h := h.2 c7
    refine lv_aload_n hx hb dX5_odds_12 rfl (lv_at hl 0 rfl) ?_
    refine end_i w (run_V (As := []) C w hl.1 (c_X5_layLine l G C.2.2.1 _ _   _ h) kw_15_21 kw_1_2 kw_15_18 kw_15_19 kw_15_20 hd_X5_layLine ⟨by decide, by decide⟩ (w.recv C (i := 0) (by decide) (pE_5) rfl) rfl (Nat.le_of_ble_eq_true rfl) dX5_odds_13) (fun r8 M9 H locs h w => ?_)
    refine lv_if_ne (tgt := 22) hx hb dX5_odds_16 (by decide) (fun c10 => ?_) (fun c10 => ?_)
    · replace h := h.2 c10
      refine lv_iconst (v := 0) hx hb dX5_odds_22 (by decide) ?_
      refine lv_istore_n (lv' := [(3, .int (0 : Int32)), (0, .ref (ga G 0)), (1, .int x1), (2, .int x2)]) hx hb dX5_odds_23 rfl hl (by decide) rfl (fun ls hl => ?_)
      refine lv_iconst (v := 0) hx hb dX5_odds_24 (by decide) ?_
      refine lv_istore (lv' := [(4, .int (0 : Int32)), (3, .int (0 : Int32)), (0, .ref (ga G 0)), (1, .int x1), (2, .int x2)]) hx hb dX5_odds_25 hl (by decide) rfl (fun ls hl => ?_)
      obtain ⟨n, h⟩ := h
      exact t_X5_odds_27 C n M9 x1 x2 (0 : Int32) (0 : Int32)  w (lv_sub hl [2, 3, 4, 1, 0] rfl) h
    replace h := h.1 c10
    refine lv_bipush (v := -3) hx hb dX5_odds_19 (by decide) ?_
    exact ret_i C w h dX5_odds_21
  replace h := h.1 c7
  refine lv_iconst (v := -1) hx hb dX5_odds_10 (by decide) ?_
  exact ret_i C w h dX5_odds_11
end WALK
