theorem dX5_layStock_0 : decode cX5_layStock 0 = .ok (.aload_n 0, 1) := by decide +kernel
theorem dX5_layStock_1 : decode cX5_layStock 1 = .ok (.getfield 25, 3) := by decide +kernel
theorem dX5_layStock_4 : decode cX5_layStock 4 = .ok (.aload_n 0, 1) := by decide +kernel
theorem dX5_layStock_5 : decode cX5_layStock 5 = .ok (.getfield 10, 3) := by decide +kernel
theorem dX5_layStock_8 : decode cX5_layStock 8 = .ok (.invokevirtual 321, 3) := by decide +kernel
theorem dX5_layStock_11 : decode cX5_layStock 11 = .ok (.iconst 0, 1) := by decide +kernel
theorem dX5_layStock_12 : decode cX5_layStock 12 = .ok (.istore_n 2, 1) := by decide +kernel
theorem dX5_layStock_13 : decode cX5_layStock 13 = .ok (.iload_n 2, 1) := by decide +kernel
theorem dX5_layStock_14 : decode cX5_layStock 14 = .ok (.aload_n 0, 1) := by decide +kernel
theorem dX5_layStock_15 : decode cX5_layStock 15 = .ok (.getfield 10, 3) := by decide +kernel
theorem dX5_layStock_18 : decode cX5_layStock 18 = .ok (.getfield 162, 3) := by decide +kernel
theorem dX5_layStock_21 : decode cX5_layStock 21 = .ok (.if_icmp .ge 61, 3) := by decide +kernel
theorem dX5_layStock_24 : decode cX5_layStock 24 = .ok (.iload_n 1, 1) := by decide +kernel
theorem dX5_layStock_25 : decode cX5_layStock 25 = .ok (.iload_n 2, 1) := by decide +kernel
theorem dX5_layStock_26 : decode cX5_layStock 26 = .ok (.ishr, 1) := by decide +kernel
theorem dX5_layStock_27 : decode cX5_layStock 27 = .ok (.iconst 1, 1) := by decide +kernel
theorem dX5_layStock_28 : decode cX5_layStock 28 = .ok (.iand, 1) := by decide +kernel
theorem dX5_layStock_29 : decode cX5_layStock 29 = .ok (.ifCond .ne 6, 3) := by decide +kernel
theorem dX5_layStock_32 : decode cX5_layStock 32 = .ok (.goto 44, 3) := by decide +kernel
theorem dX5_layStock_35 : decode cX5_layStock 35 = .ok (.aload_n 0, 1) := by decide +kernel
theorem dX5_layStock_36 : decode cX5_layStock 36 = .ok (.getfield 10, 3) := by decide +kernel
theorem dX5_layStock_39 : decode cX5_layStock 39 = .ok (.getfield 99, 3) := by decide +kernel
theorem dX5_layStock_42 : decode cX5_layStock 42 = .ok (.iload_n 2, 1) := by decide +kernel
theorem dX5_layStock_43 : decode cX5_layStock 43 = .ok (.if_icmp .ne 5, 3) := by decide +kernel
theorem dX5_layStock_46 : decode cX5_layStock 46 = .ok (.iconst 0, 1) := by decide +kernel
theorem dX5_layStock_47 : decode cX5_layStock 47 = .ok (.ireturn, 1) := by decide +kernel
theorem dX5_layStock_48 : decode cX5_layStock 48 = .ok (.aload_n 0, 1) := by decide +kernel
theorem dX5_layStock_49 : decode cX5_layStock 49 = .ok (.getfield 25, 3) := by decide +kernel
theorem dX5_layStock_52 : decode cX5_layStock 52 = .ok (.aload_n 0, 1) := by decide +kernel
theorem dX5_layStock_53 : decode cX5_layStock 53 = .ok (.getfield 10, 3) := by decide +kernel
theorem dX5_layStock_56 : decode cX5_layStock 56 = .ok (.getfield 70, 3) := by decide +kernel
theorem dX5_layStock_59 : decode cX5_layStock 59 = .ok (.iload_n 2, 1) := by decide +kernel
theorem dX5_layStock_60 : decode cX5_layStock 60 = .ok (.aaload, 1) := by decide +kernel
theorem dX5_layStock_61 : decode cX5_layStock 61 = .ok (.aload_n 0, 1) := by decide +kernel
theorem dX5_layStock_62 : decode cX5_layStock 62 = .ok (.getfield 10, 3) := by decide +kernel
theorem dX5_layStock_65 : decode cX5_layStock 65 = .ok (.getfield 70, 3) := by decide +kernel
theorem dX5_layStock_68 : decode cX5_layStock 68 = .ok (.iload_n 2, 1) := by decide +kernel
theorem dX5_layStock_69 : decode cX5_layStock 69 = .ok (.aaload, 1) := by decide +kernel
theorem dX5_layStock_70 : decode cX5_layStock 70 = .ok (.getfield 78, 3) := by decide +kernel
theorem dX5_layStock_73 : decode cX5_layStock 73 = .ok (.invokevirtual 158, 3) := by decide +kernel
theorem dX5_layStock_76 : decode cX5_layStock 76 = .ok (.iinc 2 1, 3) := by decide +kernel
theorem dX5_layStock_79 : decode cX5_layStock 79 = .ok (.goto (-66), 3) := by decide +kernel
theorem dX5_layStock_82 : decode cX5_layStock 82 = .ok (.iconst 1, 1) := by decide +kernel
theorem dX5_layStock_83 : decode cX5_layStock 83 = .ok (.ireturn, 1) := by decide +kernel
theorem dX5_stock_0 : decode cX5_stock 0 = .ok (.iload_n 1, 1) := by decide +kernel
theorem dX5_stock_1 : decode cX5_stock 1 = .ok (.iconst 1, 1) := by decide +kernel
theorem dX5_stock_2 : decode cX5_stock 2 = .ok (.sipush 999, 3) := by decide +kernel
theorem dX5_stock_5 : decode cX5_stock 5 = .ok (.invokestatic 129, 3) := by decide +kernel
theorem dX5_stock_8 : decode cX5_stock 8 = .ok (.ifCond .eq 12, 3) := by decide +kernel
theorem dX5_stock_11 : decode cX5_stock 11 = .ok (.iload_n 2, 1) := by decide +kernel
theorem dX5_stock_12 : decode cX5_stock 12 = .ok (.iconst 0, 1) := by decide +kernel
theorem dX5_stock_13 : decode cX5_stock 13 = .ok (.iconst 1, 1) := by decide +kernel
theorem dX5_stock_14 : decode cX5_stock 14 = .ok (.invokestatic 129, 3) := by decide +kernel
theorem dX5_stock_17 : decode cX5_stock 17 = .ok (.ifCond .ne 5, 3) := by decide +kernel
theorem dX5_stock_20 : decode cX5_stock 20 = .ok (.iconst (-1), 1) := by decide +kernel
theorem dX5_stock_21 : decode cX5_stock 21 = .ok (.ireturn, 1) := by decide +kernel
theorem dX5_stock_22 : decode cX5_stock 22 = .ok (.bipush (-4), 2) := by decide +kernel
theorem dX5_stock_24 : decode cX5_stock 24 = .ok (.istore_n 3, 1) := by decide +kernel
theorem dX5_stock_25 : decode cX5_stock 25 = .ok (.bipush (-4), 2) := by decide +kernel
theorem dX5_stock_27 : decode cX5_stock 27 = .ok (.istore 4, 2) := by decide +kernel
theorem dX5_stock_29 : decode cX5_stock 29 = .ok (.iconst 1, 1) := by decide +kernel
theorem dX5_stock_30 : decode cX5_stock 30 = .ok (.istore 5, 2) := by decide +kernel
theorem dX5_stock_32 : decode cX5_stock 32 = .ok (.iload 5, 2) := by decide +kernel
theorem dX5_stock_34 : decode cX5_stock 34 = .ok (.iconst 1, 1) := by decide +kernel
theorem dX5_stock_35 : decode cX5_stock 35 = .ok (.aload_n 0, 1) := by decide +kernel
theorem dX5_stock_36 : decode cX5_stock 36 = .ok (.getfield 10, 3) := by decide +kernel
theorem dX5_stock_39 : decode cX5_stock 39 = .ok (.getfield 162, 3) := by decide +kernel
theorem dX5_stock_42 : decode cX5_stock 42 = .ok (.ishl, 1) := by decide +kernel
theorem dX5_stock_43 : decode cX5_stock 43 = .ok (.if_icmp .ge 61, 3) := by decide +kernel
theorem dX5_stock_46 : decode cX5_stock 46 = .ok (.aload_n 0, 1) := by decide +kernel
theorem dX5_stock_47 : decode cX5_stock 47 = .ok (.iload 5, 2) := by decide +kernel
theorem dX5_stock_49 : decode cX5_stock 49 = .ok (.invokevirtual 165, 3) := by decide +kernel
theorem dX5_stock_52 : decode cX5_stock 52 = .ok (.ifCond .eq 46, 3) := by decide +kernel
theorem dX5_stock_55 : decode cX5_stock 55 = .ok (.aload_n 0, 1) := by decide +kernel
theorem dX5_stock_56 : decode cX5_stock 56 = .ok (.getfield 25, 3) := by decide +kernel
theorem dX5_stock_59 : decode cX5_stock 59 = .ok (.getfield 114, 3) := by decide +kernel
theorem dX5_stock_62 : decode cX5_stock 62 = .ok (.iload_n 1, 1) := by decide +kernel
theorem dX5_stock_63 : decode cX5_stock 63 = .ok (.if_icmp .le 6, 3) := by decide +kernel
theorem dX5_stock_66 : decode cX5_stock 66 = .ok (.goto 32, 3) := by decide +kernel
theorem dX5_stock_69 : decode cX5_stock 69 = .ok (.aload_n 0, 1) := by decide +kernel
theorem dX5_stock_70 : decode cX5_stock 70 = .ok (.getfield 25, 3) := by decide +kernel
theorem dX5_stock_73 : decode cX5_stock 73 = .ok (.invokevirtual 143, 3) := by decide +kernel
theorem dX5_stock_76 : decode cX5_stock 76 = .ok (.istore 6, 2) := by decide +kernel
theorem dX5_stock_78 : decode cX5_stock 78 = .ok (.iload_n 3, 1) := by decide +kernel
theorem dX5_stock_79 : decode cX5_stock 79 = .ok (.bipush (-4), 2) := by decide +kernel
theorem dX5_stock_81 : decode cX5_stock 81 = .ok (.if_icmp .eq 10, 3) := by decide +kernel
theorem dX5_stock_84 : decode cX5_stock 84 = .ok (.iload 6, 2) := by decide +kernel
theorem dX5_stock_86 : decode cX5_stock 86 = .ok (.iload 4, 2) := by decide +kernel
theorem dX5_stock_88 : decode cX5_stock 88 = .ok (.if_icmp .ge 10, 3) := by decide +kernel
theorem dX5_stock_91 : decode cX5_stock 91 = .ok (.iload 5, 2) := by decide +kernel
theorem dX5_stock_93 : decode cX5_stock 93 = .ok (.istore_n 3, 1) := by decide +kernel
theorem dX5_stock_94 : decode cX5_stock 94 = .ok (.iload 6, 2) := by decide +kernel
theorem dX5_stock_96 : decode cX5_stock 96 = .ok (.istore 4, 2) := by decide +kernel
theorem dX5_stock_98 : decode cX5_stock 98 = .ok (.iinc 5 1, 3) := by decide +kernel
theorem dX5_stock_101 : decode cX5_stock 101 = .ok (.goto (-69), 3) := by decide +kernel
theorem dX5_stock_104 : decode cX5_stock 104 = .ok (.iload_n 2, 1) := by decide +kernel
theorem dX5_stock_105 : decode cX5_stock 105 = .ok (.ifCond .ne 7, 3) := by decide +kernel
theorem dX5_stock_108 : decode cX5_stock 108 = .ok (.iload_n 3, 1) := by decide +kernel
theorem dX5_stock_109 : decode cX5_stock 109 = .ok (.goto 5, 3) := by decide +kernel
theorem dX5_stock_112 : decode cX5_stock 112 = .ok (.iload 4, 2) := by decide +kernel
theorem dX5_stock_114 : decode cX5_stock 114 = .ok (.ireturn, 1) := by decide +kernel
theorem dX6_stock_0 : decode cX6_stock 0 = .ok (.iload_n 1, 1) := by decide +kernel
theorem dX6_stock_1 : decode cX6_stock 1 = .ok (.i2l, 1) := by decide +kernel
theorem dX6_stock_2 : decode cX6_stock 2 = .ok (.lconst 1, 1) := by decide +kernel
theorem dX6_stock_3 : decode cX6_stock 3 = .ok (.ldc2_w 211, 3) := by decide +kernel
theorem dX6_stock_6 : decode cX6_stock 6 = .ok (.invokestatic 47, 3) := by decide +kernel
theorem dX6_stock_9 : decode cX6_stock 9 = .ok (.ifCond .eq 13, 3) := by decide +kernel
theorem dX6_stock_12 : decode cX6_stock 12 = .ok (.iload_n 2, 1) := by decide +kernel
theorem dX6_stock_13 : decode cX6_stock 13 = .ok (.i2l, 1) := by decide +kernel
theorem dX6_stock_14 : decode cX6_stock 14 = .ok (.lconst 0, 1) := by decide +kernel
theorem dX6_stock_15 : decode cX6_stock 15 = .ok (.lconst 1, 1) := by decide +kernel
theorem dX6_stock_16 : decode cX6_stock 16 = .ok (.invokestatic 47, 3) := by decide +kernel
theorem dX6_stock_19 : decode cX6_stock 19 = .ok (.ifCond .ne 5, 3) := by decide +kernel
theorem dX6_stock_22 : decode cX6_stock 22 = .ok (.iconst (-1), 1) := by decide +kernel
theorem dX6_stock_23 : decode cX6_stock 23 = .ok (.ireturn, 1) := by decide +kernel
theorem dX6_stock_24 : decode cX6_stock 24 = .ok (.bipush (-4), 2) := by decide +kernel
theorem dX6_stock_26 : decode cX6_stock 26 = .ok (.istore_n 3, 1) := by decide +kernel
theorem dX6_stock_27 : decode cX6_stock 27 = .ok (.iconst 0, 1) := by decide +kernel
theorem dX6_stock_28 : decode cX6_stock 28 = .ok (.istore 4, 2) := by decide +kernel
theorem dX6_stock_30 : decode cX6_stock 30 = .ok (.iconst 1, 1) := by decide +kernel
theorem dX6_stock_31 : decode cX6_stock 31 = .ok (.istore 5, 2) := by decide +kernel
theorem dX6_stock_33 : decode cX6_stock 33 = .ok (.iload 5, 2) := by decide +kernel
theorem dX6_stock_35 : decode cX6_stock 35 = .ok (.aload_n 0, 1) := by decide +kernel
theorem dX6_stock_36 : decode cX6_stock 36 = .ok (.invokevirtual 173, 3) := by decide +kernel
theorem dX6_stock_39 : decode cX6_stock 39 = .ok (.if_icmp .gt 116, 3) := by decide +kernel
theorem dX6_stock_42 : decode cX6_stock 42 = .ok (.iconst 1, 1) := by decide +kernel
theorem dX6_stock_43 : decode cX6_stock 43 = .ok (.istore 6, 2) := by decide +kernel
theorem dX6_stock_45 : decode cX6_stock 45 = .ok (.iconst 0, 1) := by decide +kernel
theorem dX6_stock_46 : decode cX6_stock 46 = .ok (.istore 7, 2) := by decide +kernel
theorem dX6_stock_48 : decode cX6_stock 48 = .ok (.iload 7, 2) := by decide +kernel
theorem dX6_stock_50 : decode cX6_stock 50 = .ok (.aload_n 0, 1) := by decide +kernel
theorem dX6_stock_51 : decode cX6_stock 51 = .ok (.getfield 9, 3) := by decide +kernel
theorem dX6_stock_54 : decode cX6_stock 54 = .ok (.iconst 0, 1) := by decide +kernel
theorem dX6_stock_55 : decode cX6_stock 55 = .ok (.iaload, 1) := by decide +kernel
theorem dX6_stock_56 : decode cX6_stock 56 = .ok (.if_icmp .ge 41, 3) := by decide +kernel
theorem dX6_stock_59 : decode cX6_stock 59 = .ok (.iload 6, 2) := by decide +kernel
theorem dX6_stock_61 : decode cX6_stock 61 = .ok (.ifCond .eq 27, 3) := by decide +kernel
theorem dX6_stock_64 : decode cX6_stock 64 = .ok (.iload 5, 2) := by decide +kernel
theorem dX6_stock_66 : decode cX6_stock 66 = .ok (.iload 7, 2) := by decide +kernel
theorem dX6_stock_68 : decode cX6_stock 68 = .ok (.ishr, 1) := by decide +kernel
theorem dX6_stock_69 : decode cX6_stock 69 = .ok (.iconst 1, 1) := by decide +kernel
theorem dX6_stock_70 : decode cX6_stock 70 = .ok (.iand, 1) := by decide +kernel
theorem dX6_stock_71 : decode cX6_stock 71 = .ok (.ifCond .eq 13, 3) := by decide +kernel
theorem dX6_stock_74 : decode cX6_stock 74 = .ok (.aload_n 0, 1) := by decide +kernel
theorem dX6_stock_75 : decode cX6_stock 75 = .ok (.iload 7, 2) := by decide +kernel
theorem dX6_stock_77 : decode cX6_stock 77 = .ok (.iconst 4, 1) := by decide +kernel
theorem dX6_stock_78 : decode cX6_stock 78 = .ok (.invokevirtual 111, 3) := by decide +kernel
theorem dX6_stock_81 : decode cX6_stock 81 = .ok (.ifCond .ne 7, 3) := by decide +kernel
theorem dX6_stock_84 : decode cX6_stock 84 = .ok (.iconst 1, 1) := by decide +kernel
theorem dX6_stock_85 : decode cX6_stock 85 = .ok (.goto 4, 3) := by decide +kernel
theorem dX6_stock_88 : decode cX6_stock 88 = .ok (.iconst 0, 1) := by decide +kernel
theorem dX6_stock_89 : decode cX6_stock 89 = .ok (.istore 6, 2) := by decide +kernel
theorem dX6_stock_91 : decode cX6_stock 91 = .ok (.iinc 7 1, 3) := by decide +kernel
theorem dX6_stock_94 : decode cX6_stock 94 = .ok (.goto (-46), 3) := by decide +kernel
theorem dX6_stock_97 : decode cX6_stock 97 = .ok (.iload 6, 2) := by decide +kernel
theorem dX6_stock_99 : decode cX6_stock 99 = .ok (.ifCond .ne 6, 3) := by decide +kernel
theorem dX6_stock_102 : decode cX6_stock 102 = .ok (.goto 47, 3) := by decide +kernel
theorem dX6_stock_105 : decode cX6_stock 105 = .ok (.aload_n 0, 1) := by decide +kernel
theorem dX6_stock_106 : decode cX6_stock 106 = .ok (.iload 5, 2) := by decide +kernel
theorem dX6_stock_108 : decode cX6_stock 108 = .ok (.invokevirtual 176, 3) := by decide +kernel
theorem dX6_stock_111 : decode cX6_stock 111 = .ok (.aload_n 0, 1) := by decide +kernel
theorem dX6_stock_112 : decode cX6_stock 112 = .ok (.getfield 138, 3) := by decide +kernel
theorem dX6_stock_115 : decode cX6_stock 115 = .ok (.iload_n 1, 1) := by decide +kernel
theorem dX6_stock_116 : decode cX6_stock 116 = .ok (.if_icmp .le 6, 3) := by decide +kernel
theorem dX6_stock_119 : decode cX6_stock 119 = .ok (.goto 30, 3) := by decide +kernel
theorem dX6_stock_122 : decode cX6_stock 122 = .ok (.aload_n 0, 1) := by decide +kernel
theorem dX6_stock_123 : decode cX6_stock 123 = .ok (.invokevirtual 201, 3) := by decide +kernel
theorem dX6_stock_126 : decode cX6_stock 126 = .ok (.istore 7, 2) := by decide +kernel
theorem dX6_stock_128 : decode cX6_stock 128 = .ok (.iload_n 3, 1) := by decide +kernel
theorem dX6_stock_129 : decode cX6_stock 129 = .ok (.ifCond .lt 13, 3) := by decide +kernel
theorem dX6_stock_132 : decode cX6_stock 132 = .ok (.iload 7, 2) := by decide +kernel
theorem dX6_stock_134 : decode cX6_stock 134 = .ok (.iload 4, 2) := by decide +kernel
theorem dX6_stock_136 : decode cX6_stock 136 = .ok (.if_icmp .lt 6, 3) := by decide +kernel
theorem dX6_stock_139 : decode cX6_stock 139 = .ok (.goto 10, 3) := by decide +kernel
theorem dX6_stock_142 : decode cX6_stock 142 = .ok (.iload 5, 2) := by decide +kernel
theorem dX6_stock_144 : decode cX6_stock 144 = .ok (.istore_n 3, 1) := by decide +kernel
theorem dX6_stock_145 : decode cX6_stock 145 = .ok (.iload 7, 2) := by decide +kernel
theorem dX6_stock_147 : decode cX6_stock 147 = .ok (.istore 4, 2) := by decide +kernel
theorem dX6_stock_149 : decode cX6_stock 149 = .ok (.iinc 5 1, 3) := by decide +kernel
theorem dX6_stock_152 : decode cX6_stock 152 = .ok (.goto (-119), 3) := by decide +kernel
theorem dX6_stock_155 : decode cX6_stock 155 = .ok (.iload_n 3, 1) := by decide +kernel
theorem dX6_stock_156 : decode cX6_stock 156 = .ok (.ifCond .ge 8, 3) := by decide +kernel
theorem dX6_stock_159 : decode cX6_stock 159 = .ok (.bipush (-4), 2) := by decide +kernel
theorem dX6_stock_161 : decode cX6_stock 161 = .ok (.goto 13, 3) := by decide +kernel
theorem dX6_stock_164 : decode cX6_stock 164 = .ok (.iload_n 2, 1) := by decide +kernel
theorem dX6_stock_165 : decode cX6_stock 165 = .ok (.ifCond .ne 7, 3) := by decide +kernel
theorem dX6_stock_168 : decode cX6_stock 168 = .ok (.iload_n 3, 1) := by decide +kernel
theorem dX6_stock_169 : decode cX6_stock 169 = .ok (.goto 5, 3) := by decide +kernel
theorem dX6_stock_172 : decode cX6_stock 172 = .ok (.iload 4, 2) := by decide +kernel
theorem dX6_stock_174 : decode cX6_stock 174 = .ok (.ireturn, 1) := by decide +kernel
theorem dX5_bridge_0 : decode cX5_bridge 0 = .ok (.iload_n 1, 1) := by decide +kernel
theorem dX5_bridge_1 : decode cX5_bridge 1 = .ok (.iconst 0, 1) := by decide +kernel
theorem dX5_bridge_2 : decode cX5_bridge 2 = .ok (.bipush 7, 2) := by decide +kernel
theorem dX5_bridge_4 : decode cX5_bridge 4 = .ok (.invokestatic 129, 3) := by decide +kernel
theorem dX5_bridge_7 : decode cX5_bridge 7 = .ok (.ifCond .eq 13, 3) := by decide +kernel
theorem dX5_bridge_10 : decode cX5_bridge 10 = .ok (.iload_n 2, 1) := by decide +kernel
theorem dX5_bridge_11 : decode cX5_bridge 11 = .ok (.iconst 1, 1) := by decide +kernel
theorem dX5_bridge_12 : decode cX5_bridge 12 = .ok (.bipush 99, 2) := by decide +kernel
theorem dX5_bridge_14 : decode cX5_bridge 14 = .ok (.invokestatic 129, 3) := by decide +kernel
theorem dX5_bridge_17 : decode cX5_bridge 17 = .ok (.ifCond .ne 6, 3) := by decide +kernel
theorem dX5_bridge_20 : decode cX5_bridge 20 = .ok (.ldc 168, 2) := by decide +kernel
theorem dX5_bridge_22 : decode cX5_bridge 22 = .ok (.ireturn, 1) := by decide +kernel
theorem dX5_bridge_23 : decode cX5_bridge 23 = .ok (.aload_n 0, 1) := by decide +kernel
theorem dX5_bridge_24 : decode cX5_bridge 24 = .ok (.invokevirtual 110, 3) := by decide +kernel
theorem dX5_bridge_27 : decode cX5_bridge 27 = .ok (.ifCond .ne 6, 3) := by decide +kernel
theorem dX5_bridge_30 : decode cX5_bridge 30 = .ok (.ldc 169, 2) := by decide +kernel
theorem dX5_bridge_32 : decode cX5_bridge 32 = .ok (.ireturn, 1) := by decide +kernel
theorem dX5_bridge_33 : decode cX5_bridge 33 = .ok (.aload_n 0, 1) := by decide +kernel
theorem dX5_bridge_34 : decode cX5_bridge 34 = .ok (.getfield 25, 3) := by decide +kernel
theorem dX5_bridge_37 : decode cX5_bridge 37 = .ok (.invokevirtual 143, 3) := by decide +kernel
theorem dX5_bridge_40 : decode cX5_bridge 40 = .ok (.istore_n 3, 1) := by decide +kernel
theorem dX5_bridge_41 : decode cX5_bridge 41 = .ok (.aload_n 0, 1) := by decide +kernel
theorem dX5_bridge_42 : decode cX5_bridge 42 = .ok (.getfield 32, 3) := by decide +kernel
theorem dX5_bridge_45 : decode cX5_bridge 45 = .ok (.iload_n 1, 1) := by decide +kernel
theorem dX5_bridge_46 : decode cX5_bridge 46 = .ok (.iconst 0, 1) := by decide +kernel
theorem dX5_bridge_47 : decode cX5_bridge 47 = .ok (.iload_n 2, 1) := by decide +kernel
theorem dX5_bridge_48 : decode cX5_bridge 48 = .ok (.bipush 6, 2) := by decide +kernel
theorem dX5_bridge_50 : decode cX5_bridge 50 = .ok (.invokevirtual 170, 3) := by decide +kernel
theorem dX5_bridge_53 : decode cX5_bridge 53 = .ok (.aload_n 0, 1) := by decide +kernel
theorem dX5_bridge_54 : decode cX5_bridge 54 = .ok (.getfield 25, 3) := by decide +kernel
theorem dX5_bridge_57 : decode cX5_bridge 57 = .ok (.aload_n 0, 1) := by decide +kernel
theorem dX5_bridge_58 : decode cX5_bridge 58 = .ok (.getfield 32, 3) := by decide +kernel
theorem dX5_bridge_61 : decode cX5_bridge 61 = .ok (.iload_n 2, 1) := by decide +kernel
theorem dX5_bridge_62 : decode cX5_bridge 62 = .ok (.invokevirtual 158, 3) := by decide +kernel
theorem dX5_bridge_65 : decode cX5_bridge 65 = .ok (.iload_n 3, 1) := by decide +kernel
theorem dX5_bridge_66 : decode cX5_bridge 66 = .ok (.aload_n 0, 1) := by decide +kernel
theorem dX5_bridge_67 : decode cX5_bridge 67 = .ok (.getfield 25, 3) := by decide +kernel
theorem dX5_bridge_70 : decode cX5_bridge 70 = .ok (.invokevirtual 143, 3) := by decide +kernel
theorem dX5_bridge_73 : decode cX5_bridge 73 = .ok (.isub, 1) := by decide +kernel
theorem dX5_bridge_74 : decode cX5_bridge 74 = .ok (.ireturn, 1) := by decide +kernel
theorem dX6_bridge_0 : decode cX6_bridge 0 = .ok (.iload_n 1, 1) := by decide +kernel
theorem dX6_bridge_1 : decode cX6_bridge 1 = .ok (.i2l, 1) := by decide +kernel
theorem dX6_bridge_2 : decode cX6_bridge 2 = .ok (.lconst 0, 1) := by decide +kernel
theorem dX6_bridge_3 : decode cX6_bridge 3 = .ok (.ldc2_w 51, 3) := by decide +kernel
theorem dX6_bridge_6 : decode cX6_bridge 6 = .ok (.invokestatic 47, 3) := by decide +kernel
theorem dX6_bridge_9 : decode cX6_bridge 9 = .ok (.ifCond .eq 15, 3) := by decide +kernel
theorem dX6_bridge_12 : decode cX6_bridge 12 = .ok (.iload_n 2, 1) := by decide +kernel
theorem dX6_bridge_13 : decode cX6_bridge 13 = .ok (.i2l, 1) := by decide +kernel
theorem dX6_bridge_14 : decode cX6_bridge 14 = .ok (.lconst 1, 1) := by decide +kernel
theorem dX6_bridge_15 : decode cX6_bridge 15 = .ok (.ldc2_w 88, 3) := by decide +kernel
theorem dX6_bridge_18 : decode cX6_bridge 18 = .ok (.invokestatic 47, 3) := by decide +kernel
theorem dX6_bridge_21 : decode cX6_bridge 21 = .ok (.ifCond .ne 6, 3) := by decide +kernel
theorem dX6_bridge_24 : decode cX6_bridge 24 = .ok (.ldc 213, 2) := by decide +kernel
theorem dX6_bridge_26 : decode cX6_bridge 26 = .ok (.ireturn, 1) := by decide +kernel
theorem dX6_bridge_27 : decode cX6_bridge 27 = .ok (.aload_n 0, 1) := by decide +kernel
theorem dX6_bridge_28 : decode cX6_bridge 28 = .ok (.invokevirtual 170, 3) := by decide +kernel
theorem dX6_bridge_31 : decode cX6_bridge 31 = .ok (.ifCond .ne 6, 3) := by decide +kernel
theorem dX6_bridge_34 : decode cX6_bridge 34 = .ok (.ldc 214, 2) := by decide +kernel
theorem dX6_bridge_36 : decode cX6_bridge 36 = .ok (.ireturn, 1) := by decide +kernel
theorem dX6_bridge_37 : decode cX6_bridge 37 = .ok (.aload_n 0, 1) := by decide +kernel
theorem dX6_bridge_38 : decode cX6_bridge 38 = .ok (.aload_n 0, 1) := by decide +kernel
theorem dX6_bridge_39 : decode cX6_bridge 39 = .ok (.invokevirtual 173, 3) := by decide +kernel
theorem dX6_bridge_42 : decode cX6_bridge 42 = .ok (.invokevirtual 176, 3) := by decide +kernel
theorem dX6_bridge_45 : decode cX6_bridge 45 = .ok (.aload_n 0, 1) := by decide +kernel
theorem dX6_bridge_46 : decode cX6_bridge 46 = .ok (.invokevirtual 201, 3) := by decide +kernel
theorem dX6_bridge_49 : decode cX6_bridge 49 = .ok (.istore_n 3, 1) := by decide +kernel
theorem dX6_bridge_50 : decode cX6_bridge 50 = .ok (.iconst 0, 1) := by decide +kernel
theorem dX6_bridge_51 : decode cX6_bridge 51 = .ok (.istore 4, 2) := by decide +kernel
theorem dX6_bridge_53 : decode cX6_bridge 53 = .ok (.iconst 0, 1) := by decide +kernel
theorem dX6_bridge_54 : decode cX6_bridge 54 = .ok (.istore 5, 2) := by decide +kernel
theorem dX6_bridge_56 : decode cX6_bridge 56 = .ok (.iload 5, 2) := by decide +kernel
theorem dX6_bridge_58 : decode cX6_bridge 58 = .ok (.aload_n 0, 1) := by decide +kernel
theorem dX6_bridge_59 : decode cX6_bridge 59 = .ok (.getfield 9, 3) := by decide +kernel
theorem dX6_bridge_62 : decode cX6_bridge 62 = .ok (.iconst 0, 1) := by decide +kernel
theorem dX6_bridge_63 : decode cX6_bridge 63 = .ok (.iaload, 1) := by decide +kernel
theorem dX6_bridge_64 : decode cX6_bridge 64 = .ok (.if_icmp .ge 39, 3) := by decide +kernel
theorem dX6_bridge_67 : decode cX6_bridge 67 = .ok (.iload 4, 2) := by decide +kernel
theorem dX6_bridge_69 : decode cX6_bridge 69 = .ok (.aload_n 0, 1) := by decide +kernel
theorem dX6_bridge_70 : decode cX6_bridge 70 = .ok (.iload 5, 2) := by decide +kernel
theorem dX6_bridge_72 : decode cX6_bridge 72 = .ok (.iconst 2, 1) := by decide +kernel
theorem dX6_bridge_73 : decode cX6_bridge 73 = .ok (.invokevirtual 111, 3) := by decide +kernel
theorem dX6_bridge_76 : decode cX6_bridge 76 = .ok (.aload_n 0, 1) := by decide +kernel
theorem dX6_bridge_77 : decode cX6_bridge 77 = .ok (.iload 5, 2) := by decide +kernel
theorem dX6_bridge_79 : decode cX6_bridge 79 = .ok (.iconst 0, 1) := by decide +kernel
theorem dX6_bridge_80 : decode cX6_bridge 80 = .ok (.invokevirtual 111, 3) := by decide +kernel
theorem dX6_bridge_83 : decode cX6_bridge 83 = .ok (.aload_n 0, 1) := by decide +kernel
theorem dX6_bridge_84 : decode cX6_bridge 84 = .ok (.iload 5, 2) := by decide +kernel
theorem dX6_bridge_86 : decode cX6_bridge 86 = .ok (.iconst 1, 1) := by decide +kernel
theorem dX6_bridge_87 : decode cX6_bridge 87 = .ok (.invokevirtual 111, 3) := by decide +kernel
theorem dX6_bridge_90 : decode cX6_bridge 90 = .ok (.invokestatic 123, 3) := by decide +kernel
theorem dX6_bridge_93 : decode cX6_bridge 93 = .ok (.imul, 1) := by decide +kernel
theorem dX6_bridge_94 : decode cX6_bridge 94 = .ok (.iadd, 1) := by decide +kernel
theorem dX6_bridge_95 : decode cX6_bridge 95 = .ok (.istore 4, 2) := by decide +kernel
theorem dX6_bridge_97 : decode cX6_bridge 97 = .ok (.iinc 5 1, 3) := by decide +kernel
theorem dX6_bridge_100 : decode cX6_bridge 100 = .ok (.goto (-44), 3) := by decide +kernel
theorem dX6_bridge_103 : decode cX6_bridge 103 = .ok (.aload_n 0, 1) := by decide +kernel
theorem dX6_bridge_104 : decode cX6_bridge 104 = .ok (.dup, 1) := by decide +kernel
theorem dX6_bridge_105 : decode cX6_bridge 105 = .ok (.getfield 138, 3) := by decide +kernel
theorem dX6_bridge_108 : decode cX6_bridge 108 = .ok (.iload_n 2, 1) := by decide +kernel
theorem dX6_bridge_109 : decode cX6_bridge 109 = .ok (.iadd, 1) := by decide +kernel
theorem dX6_bridge_110 : decode cX6_bridge 110 = .ok (.putfield 138, 3) := by decide +kernel
theorem dX6_bridge_113 : decode cX6_bridge 113 = .ok (.aload_n 0, 1) := by decide +kernel
theorem dX6_bridge_114 : decode cX6_bridge 114 = .ok (.dup, 1) := by decide +kernel
theorem dX6_bridge_115 : decode cX6_bridge 115 = .ok (.getfield 141, 3) := by decide +kernel
theorem dX6_bridge_118 : decode cX6_bridge 118 = .ok (.iload_n 2, 1) := by decide +kernel
theorem dX6_bridge_119 : decode cX6_bridge 119 = .ok (.iload_n 1, 1) := by decide +kernel
theorem dX6_bridge_120 : decode cX6_bridge 120 = .ok (.iconst 0, 1) := by decide +kernel
theorem dX6_bridge_121 : decode cX6_bridge 121 = .ok (.invokestatic 120, 3) := by decide +kernel
theorem dX6_bridge_124 : decode cX6_bridge 124 = .ok (.imul, 1) := by decide +kernel
theorem dX6_bridge_125 : decode cX6_bridge 125 = .ok (.iadd, 1) := by decide +kernel
theorem dX6_bridge_126 : decode cX6_bridge 126 = .ok (.putfield 141, 3) := by decide +kernel
theorem dX6_bridge_129 : decode cX6_bridge 129 = .ok (.aload_n 0, 1) := by decide +kernel
theorem dX6_bridge_130 : decode cX6_bridge 130 = .ok (.iload 4, 2) := by decide +kernel
theorem dX6_bridge_132 : decode cX6_bridge 132 = .ok (.iload_n 2, 1) := by decide +kernel
theorem dX6_bridge_133 : decode cX6_bridge 133 = .ok (.iload_n 1, 1) := by decide +kernel
theorem dX6_bridge_134 : decode cX6_bridge 134 = .ok (.iconst 0, 1) := by decide +kernel
theorem dX6_bridge_135 : decode cX6_bridge 135 = .ok (.invokestatic 123, 3) := by decide +kernel
theorem dX6_bridge_138 : decode cX6_bridge 138 = .ok (.imul, 1) := by decide +kernel
theorem dX6_bridge_139 : decode cX6_bridge 139 = .ok (.iadd, 1) := by decide +kernel
theorem dX6_bridge_140 : decode cX6_bridge 140 = .ok (.putfield 144, 3) := by decide +kernel
theorem dX6_bridge_143 : decode cX6_bridge 143 = .ok (.aload_n 0, 1) := by decide +kernel
theorem dX6_bridge_144 : decode cX6_bridge 144 = .ok (.invokevirtual 147, 3) := by decide +kernel
theorem dX6_bridge_147 : decode cX6_bridge 147 = .ok (.iload_n 3, 1) := by decide +kernel
theorem dX6_bridge_148 : decode cX6_bridge 148 = .ok (.aload_n 0, 1) := by decide +kernel
theorem dX6_bridge_149 : decode cX6_bridge 149 = .ok (.invokevirtual 201, 3) := by decide +kernel
theorem dX6_bridge_152 : decode cX6_bridge 152 = .ok (.isub, 1) := by decide +kernel
theorem dX6_bridge_153 : decode cX6_bridge 153 = .ok (.ireturn, 1) := by decide +kernel
theorem dX5_fouls_0 : decode cX5_fouls 0 = .ok (.aload_n 0, 1) := by decide +kernel
theorem dX5_fouls_1 : decode cX5_fouls 1 = .ok (.invokevirtual 110, 3) := by decide +kernel
theorem dX5_fouls_4 : decode cX5_fouls 4 = .ok (.ifCond .ne 6, 3) := by decide +kernel
theorem dX5_fouls_7 : decode cX5_fouls 7 = .ok (.bipush (-3), 2) := by decide +kernel
theorem dX5_fouls_9 : decode cX5_fouls 9 = .ok (.ireturn, 1) := by decide +kernel
theorem dX5_fouls_10 : decode cX5_fouls 10 = .ok (.aload_n 0, 1) := by decide +kernel
theorem dX5_fouls_11 : decode cX5_fouls 11 = .ok (.getfield 25, 3) := by decide +kernel
theorem dX5_fouls_14 : decode cX5_fouls 14 = .ok (.invokevirtual 120, 3) := by decide +kernel
theorem dX5_fouls_17 : decode cX5_fouls 17 = .ok (.aload_n 0, 1) := by decide +kernel
theorem dX5_fouls_18 : decode cX5_fouls 18 = .ok (.getfield 10, 3) := by decide +kernel
theorem dX5_fouls_21 : decode cX5_fouls 21 = .ok (.getfield 106, 3) := by decide +kernel
theorem dX5_fouls_24 : decode cX5_fouls 24 = .ok (.iconst 3, 1) := by decide +kernel
theorem dX5_fouls_25 : decode cX5_fouls 25 = .ok (.iaload, 1) := by decide +kernel
theorem dX5_fouls_26 : decode cX5_fouls 26 = .ok (.if_icmp .le 7, 3) := by decide +kernel
theorem dX5_fouls_29 : decode cX5_fouls 29 = .ok (.iconst 1, 1) := by decide +kernel
theorem dX5_fouls_30 : decode cX5_fouls 30 = .ok (.goto 4, 3) := by decide +kernel
theorem dX5_fouls_33 : decode cX5_fouls 33 = .ok (.iconst 0, 1) := by decide +kernel
theorem dX5_fouls_34 : decode cX5_fouls 34 = .ok (.ireturn, 1) := by decide +kernel
theorem dX6_isFoul_0 : decode cX6_isFoul 0 = .ok (.aload_n 0, 1) := by decide +kernel
theorem dX6_isFoul_1 : decode cX6_isFoul 1 = .ok (.aload_n 0, 1) := by decide +kernel
theorem dX6_isFoul_2 : decode cX6_isFoul 2 = .ok (.invokevirtual 173, 3) := by decide +kernel
theorem dX6_isFoul_5 : decode cX6_isFoul 5 = .ok (.invokevirtual 176, 3) := by decide +kernel
theorem dX6_isFoul_8 : decode cX6_isFoul 8 = .ok (.aload_n 0, 1) := by decide +kernel
theorem dX6_isFoul_9 : decode cX6_isFoul 9 = .ok (.invokevirtual 159, 3) := by decide +kernel
theorem dX6_isFoul_12 : decode cX6_isFoul 12 = .ok (.aload_n 0, 1) := by decide +kernel
theorem dX6_isFoul_13 : decode cX6_isFoul 13 = .ok (.getfield 9, 3) := by decide +kernel
theorem dX6_isFoul_16 : decode cX6_isFoul 16 = .ok (.bipush 8, 2) := by decide +kernel
theorem dX6_isFoul_18 : decode cX6_isFoul 18 = .ok (.iaload, 1) := by decide +kernel
theorem dX6_isFoul_19 : decode cX6_isFoul 19 = .ok (.if_icmp .le 7, 3) := by decide +kernel
theorem dX6_isFoul_22 : decode cX6_isFoul 22 = .ok (.iconst 1, 1) := by decide +kernel
theorem dX6_isFoul_23 : decode cX6_isFoul 23 = .ok (.goto 4, 3) := by decide +kernel
theorem dX6_isFoul_26 : decode cX6_isFoul 26 = .ok (.iconst 0, 1) := by decide +kernel
theorem dX6_isFoul_27 : decode cX6_isFoul 27 = .ok (.ireturn, 1) := by decide +kernel
theorem dX6_fouls_0 : decode cX6_fouls 0 = .ok (.aload_n 0, 1) := by decide +kernel
theorem dX6_fouls_1 : decode cX6_fouls 1 = .ok (.invokevirtual 170, 3) := by decide +kernel
theorem dX6_fouls_4 : decode cX6_fouls 4 = .ok (.ifCond .ne 8, 3) := by decide +kernel
theorem dX6_fouls_7 : decode cX6_fouls 7 = .ok (.bipush (-3), 2) := by decide +kernel
theorem dX6_fouls_9 : decode cX6_fouls 9 = .ok (.goto 15, 3) := by decide +kernel
theorem dX6_fouls_12 : decode cX6_fouls 12 = .ok (.aload_n 0, 1) := by decide +kernel
theorem dX6_fouls_13 : decode cX6_fouls 13 = .ok (.invokevirtual 215, 3) := by decide +kernel
theorem dX6_fouls_16 : decode cX6_fouls 16 = .ok (.ifCond .eq 7, 3) := by decide +kernel
theorem dX6_fouls_19 : decode cX6_fouls 19 = .ok (.iconst 1, 1) := by decide +kernel
theorem dX6_fouls_20 : decode cX6_fouls 20 = .ok (.goto 4, 3) := by decide +kernel
theorem dX6_fouls_23 : decode cX6_fouls 23 = .ok (.iconst 0, 1) := by decide +kernel
theorem dX6_fouls_24 : decode cX6_fouls 24 = .ok (.ireturn, 1) := by decide +kernel
theorem dX5_fewestTakenIn_0 : decode cX5_fewestTakenIn 0 = .ok (.aload_n 0, 1) := by decide +kernel
theorem dX5_fewestTakenIn_1 : decode cX5_fewestTakenIn 1 = .ok (.getfield 25, 3) := by decide +kernel
theorem dX5_fewestTakenIn_4 : decode cX5_fewestTakenIn 4 = .ok (.getfield 115, 3) := by decide +kernel
theorem dX5_fewestTakenIn_7 : decode cX5_fewestTakenIn 7 = .ok (.istore_n 3, 1) := by decide +kernel
theorem dX5_fewestTakenIn_8 : decode cX5_fewestTakenIn 8 = .ok (.bipush (-4), 2) := by decide +kernel
theorem dX5_fewestTakenIn_10 : decode cX5_fewestTakenIn 10 = .ok (.istore 4, 2) := by decide +kernel
theorem dX5_fewestTakenIn_12 : decode cX5_fewestTakenIn 12 = .ok (.iconst 1, 1) := by decide +kernel
theorem dX5_fewestTakenIn_13 : decode cX5_fewestTakenIn 13 = .ok (.istore 5, 2) := by decide +kernel
theorem dX5_fewestTakenIn_15 : decode cX5_fewestTakenIn 15 = .ok (.iload 5, 2) := by decide +kernel
theorem dX5_fewestTakenIn_17 : decode cX5_fewestTakenIn 17 = .ok (.aload_n 1, 1) := by decide +kernel
theorem dX5_fewestTakenIn_18 : decode cX5_fewestTakenIn 18 = .ok (.getfield 78, 3) := by decide +kernel
theorem dX5_fewestTakenIn_21 : decode cX5_fewestTakenIn 21 = .ok (.if_icmp .gt 47, 3) := by decide +kernel
theorem dX5_fewestTakenIn_24 : decode cX5_fewestTakenIn 24 = .ok (.iload 4, 2) := by decide +kernel
theorem dX5_fewestTakenIn_26 : decode cX5_fewestTakenIn 26 = .ok (.bipush (-4), 2) := by decide +kernel
theorem dX5_fewestTakenIn_28 : decode cX5_fewestTakenIn 28 = .ok (.if_icmp .ne 40, 3) := by decide +kernel
theorem dX5_fewestTakenIn_31 : decode cX5_fewestTakenIn 31 = .ok (.aload_n 0, 1) := by decide +kernel
theorem dX5_fewestTakenIn_32 : decode cX5_fewestTakenIn 32 = .ok (.getfield 25, 3) := by decide +kernel
theorem dX5_fewestTakenIn_35 : decode cX5_fewestTakenIn 35 = .ok (.iload_n 3, 1) := by decide +kernel
theorem dX5_fewestTakenIn_36 : decode cX5_fewestTakenIn 36 = .ok (.iload 5, 2) := by decide +kernel
theorem dX5_fewestTakenIn_38 : decode cX5_fewestTakenIn 38 = .ok (.aload_n 1, 1) := by decide +kernel
theorem dX5_fewestTakenIn_39 : decode cX5_fewestTakenIn 39 = .ok (.getfield 84, 3) := by decide +kernel
theorem dX5_fewestTakenIn_42 : decode cX5_fewestTakenIn 42 = .ok (.imul, 1) := by decide +kernel
theorem dX5_fewestTakenIn_43 : decode cX5_fewestTakenIn 43 = .ok (.isub, 1) := by decide +kernel
theorem dX5_fewestTakenIn_44 : decode cX5_fewestTakenIn 44 = .ok (.putfield 115, 3) := by decide +kernel
theorem dX5_fewestTakenIn_47 : decode cX5_fewestTakenIn 47 = .ok (.aload_n 0, 1) := by decide +kernel
theorem dX5_fewestTakenIn_48 : decode cX5_fewestTakenIn 48 = .ok (.getfield 25, 3) := by decide +kernel
theorem dX5_fewestTakenIn_51 : decode cX5_fewestTakenIn 51 = .ok (.invokevirtual 120, 3) := by decide +kernel
theorem dX5_fewestTakenIn_54 : decode cX5_fewestTakenIn 54 = .ok (.iload_n 2, 1) := by decide +kernel
theorem dX5_fewestTakenIn_55 : decode cX5_fewestTakenIn 55 = .ok (.if_icmp .gt 7, 3) := by decide +kernel
theorem dX5_fewestTakenIn_58 : decode cX5_fewestTakenIn 58 = .ok (.iload 5, 2) := by decide +kernel
theorem dX5_fewestTakenIn_60 : decode cX5_fewestTakenIn 60 = .ok (.istore 4, 2) := by decide +kernel
theorem dX5_fewestTakenIn_62 : decode cX5_fewestTakenIn 62 = .ok (.iinc 5 1, 3) := by decide +kernel
theorem dX5_fewestTakenIn_65 : decode cX5_fewestTakenIn 65 = .ok (.goto (-50), 3) := by decide +kernel
theorem dX5_fewestTakenIn_68 : decode cX5_fewestTakenIn 68 = .ok (.aload_n 0, 1) := by decide +kernel
theorem dX5_fewestTakenIn_69 : decode cX5_fewestTakenIn 69 = .ok (.getfield 25, 3) := by decide +kernel
theorem dX5_fewestTakenIn_72 : decode cX5_fewestTakenIn 72 = .ok (.iload_n 3, 1) := by decide +kernel
theorem dX5_fewestTakenIn_73 : decode cX5_fewestTakenIn 73 = .ok (.putfield 115, 3) := by decide +kernel
theorem dX5_fewestTakenIn_76 : decode cX5_fewestTakenIn 76 = .ok (.iload 4, 2) := by decide +kernel
theorem dX5_fewestTakenIn_78 : decode cX5_fewestTakenIn 78 = .ok (.ireturn, 1) := by decide +kernel
theorem dX5_takeIn_0 : decode cX5_takeIn 0 = .ok (.aload_n 0, 1) := by decide +kernel
theorem dX5_takeIn_1 : decode cX5_takeIn 1 = .ok (.invokevirtual 110, 3) := by decide +kernel
theorem dX5_takeIn_4 : decode cX5_takeIn 4 = .ok (.ifCond .ne 6, 3) := by decide +kernel
theorem dX5_takeIn_7 : decode cX5_takeIn 7 = .ok (.bipush (-3), 2) := by decide +kernel
theorem dX5_takeIn_9 : decode cX5_takeIn 9 = .ok (.ireturn, 1) := by decide +kernel
theorem dX5_takeIn_10 : decode cX5_takeIn 10 = .ok (.aload_n 0, 1) := by decide +kernel
theorem dX5_takeIn_11 : decode cX5_takeIn 11 = .ok (.getfield 10, 3) := by decide +kernel
theorem dX5_takeIn_14 : decode cX5_takeIn 14 = .ok (.getfield 106, 3) := by decide +kernel
theorem dX5_takeIn_17 : decode cX5_takeIn 17 = .ok (.iconst 3, 1) := by decide +kernel
theorem dX5_takeIn_18 : decode cX5_takeIn 18 = .ok (.iaload, 1) := by decide +kernel
theorem dX5_takeIn_19 : decode cX5_takeIn 19 = .ok (.istore_n 1, 1) := by decide +kernel
theorem dX5_takeIn_20 : decode cX5_takeIn 20 = .ok (.aload_n 0, 1) := by decide +kernel
theorem dX5_takeIn_21 : decode cX5_takeIn 21 = .ok (.getfield 25, 3) := by decide +kernel
theorem dX5_takeIn_24 : decode cX5_takeIn 24 = .ok (.invokevirtual 120, 3) := by decide +kernel
theorem dX5_takeIn_27 : decode cX5_takeIn 27 = .ok (.iload_n 1, 1) := by decide +kernel
theorem dX5_takeIn_28 : decode cX5_takeIn 28 = .ok (.if_icmp .gt 5, 3) := by decide +kernel
theorem dX5_takeIn_31 : decode cX5_takeIn 31 = .ok (.iconst 0, 1) := by decide +kernel
theorem dX5_takeIn_32 : decode cX5_takeIn 32 = .ok (.ireturn, 1) := by decide +kernel
theorem dX5_takeIn_33 : decode cX5_takeIn 33 = .ok (.bipush (-4), 2) := by decide +kernel
theorem dX5_takeIn_35 : decode cX5_takeIn 35 = .ok (.istore_n 2, 1) := by decide +kernel
theorem dX5_takeIn_36 : decode cX5_takeIn 36 = .ok (.bipush 100, 2) := by decide +kernel
theorem dX5_takeIn_38 : decode cX5_takeIn 38 = .ok (.istore_n 3, 1) := by decide +kernel
theorem dX5_takeIn_39 : decode cX5_takeIn 39 = .ok (.iconst 0, 1) := by decide +kernel
theorem dX5_takeIn_40 : decode cX5_takeIn 40 = .ok (.istore 4, 2) := by decide +kernel
theorem dX5_takeIn_42 : decode cX5_takeIn 42 = .ok (.iload 4, 2) := by decide +kernel
theorem dX5_takeIn_44 : decode cX5_takeIn 44 = .ok (.aload_n 0, 1) := by decide +kernel
theorem dX5_takeIn_45 : decode cX5_takeIn 45 = .ok (.getfield 10, 3) := by decide +kernel
theorem dX5_takeIn_48 : decode cX5_takeIn 48 = .ok (.getfield 162, 3) := by decide +kernel
theorem dX5_takeIn_51 : decode cX5_takeIn 51 = .ok (.if_icmp .ge 51, 3) := by decide +kernel
theorem dX5_takeIn_54 : decode cX5_takeIn 54 = .ok (.aload_n 0, 1) := by decide +kernel
theorem dX5_takeIn_55 : decode cX5_takeIn 55 = .ok (.aload_n 0, 1) := by decide +kernel
theorem dX5_takeIn_56 : decode cX5_takeIn 56 = .ok (.getfield 10, 3) := by decide +kernel
theorem dX5_takeIn_59 : decode cX5_takeIn 59 = .ok (.getfield 70, 3) := by decide +kernel
theorem dX5_takeIn_62 : decode cX5_takeIn 62 = .ok (.iload 4, 2) := by decide +kernel
theorem dX5_takeIn_64 : decode cX5_takeIn 64 = .ok (.aaload, 1) := by decide +kernel
theorem dX5_takeIn_65 : decode cX5_takeIn 65 = .ok (.iload_n 1, 1) := by decide +kernel
theorem dX5_takeIn_66 : decode cX5_takeIn 66 = .ok (.invokevirtual 174, 3) := by decide +kernel
theorem dX5_takeIn_69 : decode cX5_takeIn 69 = .ok (.istore 5, 2) := by decide +kernel
theorem dX5_takeIn_71 : decode cX5_takeIn 71 = .ok (.iload 5, 2) := by decide +kernel
theorem dX5_takeIn_73 : decode cX5_takeIn 73 = .ok (.bipush (-4), 2) := by decide +kernel
theorem dX5_takeIn_75 : decode cX5_takeIn 75 = .ok (.if_icmp .eq 21, 3) := by decide +kernel
theorem dX5_takeIn_78 : decode cX5_takeIn 78 = .ok (.iload 5, 2) := by decide +kernel
theorem dX5_takeIn_80 : decode cX5_takeIn 80 = .ok (.iload_n 3, 1) := by decide +kernel
theorem dX5_takeIn_81 : decode cX5_takeIn 81 = .ok (.if_icmp .ge 15, 3) := by decide +kernel
theorem dX5_takeIn_84 : decode cX5_takeIn 84 = .ok (.iload 5, 2) := by decide +kernel
theorem dX5_takeIn_86 : decode cX5_takeIn 86 = .ok (.istore_n 3, 1) := by decide +kernel
theorem dX5_takeIn_87 : decode cX5_takeIn 87 = .ok (.bipush 100, 2) := by decide +kernel
theorem dX5_takeIn_89 : decode cX5_takeIn 89 = .ok (.iload 4, 2) := by decide +kernel
theorem dX5_takeIn_91 : decode cX5_takeIn 91 = .ok (.imul, 1) := by decide +kernel
theorem dX5_takeIn_92 : decode cX5_takeIn 92 = .ok (.iload 5, 2) := by decide +kernel
theorem dX5_takeIn_94 : decode cX5_takeIn 94 = .ok (.iadd, 1) := by decide +kernel
theorem dX5_takeIn_95 : decode cX5_takeIn 95 = .ok (.istore_n 2, 1) := by decide +kernel
theorem dX5_takeIn_96 : decode cX5_takeIn 96 = .ok (.iinc 4 1, 3) := by decide +kernel
theorem dX5_takeIn_99 : decode cX5_takeIn 99 = .ok (.goto (-57), 3) := by decide +kernel
theorem dX5_takeIn_102 : decode cX5_takeIn 102 = .ok (.iload_n 2, 1) := by decide +kernel
theorem dX5_takeIn_103 : decode cX5_takeIn 103 = .ok (.ireturn, 1) := by decide +kernel
section WALK
variable {p : Program} {l : Launch} {e : Env} {s : State} {m : MethodId} {args : Array Value} {below : List Frame} {meth : Method} {c : Code} {G : GG}

def j_X5_layStock_76 (k13 : Mem → Int32 → Int32 → Prop) (post : Int32 → Mem → Prop) (M : Mem) (x1 : Int32) (x2 : Int32) : Prop := k13 M x1 (x2 + (1 : Int32))
def b_X5_layStock_13 (k13 : Mem → Int32 → Int32 → Prop) (post : Int32 → Mem → Prop) (M : Mem) (x1 : Int32) (x2 : Int32) : Prop := ((M 1 1) ≤ x2 → (post (1 : Int32) M)) ∧ (¬ ((M 1 1) ≤ x2) → ((((x1 >>> (x2 &&& 31)) &&& (1 : Int32)) = 0 → (j_X5_layStock_76 k13 post M x1 x2)) ∧ (¬ (((x1 >>> (x2 &&& 31)) &&& (1 : Int32)) = 0) → (((M 1 7) = x2 → (post (0 : Int32) M)) ∧ (¬ ((M 1 7) = x2) → (vp_in x2 6 ∧ (q_X0_add M (38 + x2.toNatClampNeg) (M (38 + x2.toNatClampNeg) 2) (fun M6 => j_X5_layStock_76 k13 post M6 x1 x2))))))))
def lp_X5_layStock_13 (post : Int32 → Mem → Prop) : Nat → Mem → Int32 → Int32 → Prop
  | 0 => fun _ _ _ => False
  | n + 1 => fun M x1 x2 => b_X5_layStock_13 (lp_X5_layStock_13 post n) post M x1 x2
def q_X5_layStock (M : Mem) (x1 : Int32) (post : Int32 → Mem → Prop) : Prop := q_X0_begin M 1 (fun M8 => ∃ n, lp_X5_layStock_13 post n M8 x1 (0 : Int32))
set_option maxHeartbeats 4000000 in
set_option maxRecDepth 100000 in
theorem t_X5_layStock_76 (C : Cx G p s m args meth c RX5 cX5_layStock 3 (some .boolean)) {post : Int32 → Mem → Prop} {k13 : Mem → Int32 → Int32 → Prop} (hk13 : ∀ (M : Mem) (x1 : Int32) (x2 : Int32) (H : Heap) (locs : List Loc) (ls : Array Slot), Wd G s M H locs → lv_has ls 3 [(0, .ref (ga G 0)), (1, .int x1), (2, .int x2)] → k13 M x1 x2 → W p l e (rmk 2) s m args below meth c H locs 0 0 (MQ below (va_Qi post (Qw G) (Af G s.heap.size)) args s 0 0 (Af G s.heap.size)) (F0 m 13 ls [])) (M : Mem) (x1 : Int32) (x2 : Int32) {H : Heap} {locs : List Loc} {ls : Array Slot} (w : Wd G s M H locs) (hl : lv_has ls 3 [(0, .ref (ga G 0)), (1, .int x1), (2, .int x2)]) (h : j_X5_layStock_76 k13 post M x1 x2) : W p l e (rmk 2) s m args below meth c H locs 0 0 (MQ below (va_Qi post (Qw G) (Af G s.heap.size)) args s 0 0 (Af G s.heap.size)) (F0 m 76 ls []) := by
  have hx := C.1.1
  have hb := C.1.2.1
  unfold j_X5_layStock_76 at h
  refine lv_iinc (v := (x2 + (1 : Int32))) (lv' := [(2, .int (x2 + (1 : Int32))), (0, .ref (ga G 0)), (1, .int x1)]) hx hb dX5_layStock_76 hl (k := 2) rfl rfl (by decide) rfl (fun ls hl => ?_)
  refine lv_goto (tgt := 13) hx hb dX5_layStock_79 (by decide) ?_
  exact hk13 M x1 (x2 + (1 : Int32)) _ _ _  w (lv_sub hl [1, 2, 0] rfl) h
set_option maxHeartbeats 4000000 in
set_option maxRecDepth 100000 in
theorem t_X5_layStock_13 (C : Cx G p s m args meth c RX5 cX5_layStock 3 (some .boolean)) {post : Int32 → Mem → Prop} : ∀ (n : Nat) (M : Mem) (x1 : Int32) (x2 : Int32) {H : Heap} {locs : List Loc} {ls : Array Slot} (w : Wd G s M H locs) (hl : lv_has ls 3 [(0, .ref (ga G 0)), (1, .int x1), (2, .int x2)]) (h : lp_X5_layStock_13 post n M x1 x2), W p l e (rmk 2) s m args below meth c H locs 0 0 (MQ below (va_Qi post (Qw G) (Af G s.heap.size)) args s 0 0 (Af G s.heap.size)) (F0 m 13 ls []) := by
  have hx := C.1.1
  have hb := C.1.2.1
  intro n9
  induction n9 with
  | zero => intro M x1 x2 H locs ls w hl h; exact absurd h id
  | succ n9 ih9 =>
    intro M x1 x2 H locs ls w hl h
    have hk13 : ∀ (M : Mem) (x1 : Int32) (x2 : Int32) (H : Heap) (locs : List Loc) (ls : Array Slot), Wd G s M H locs → lv_has ls 3 [(0, .ref (ga G 0)), (1, .int x1), (2, .int x2)] → lp_X5_layStock_13 post n9 M x1 x2 → W p l e (rmk 2) s m args below meth c H locs 0 0 (MQ below (va_Qi post (Qw G) (Af G s.heap.size)) args s 0 0 (Af G s.heap.size)) (F0 m 13 ls []) := fun M x1 x2 H locs ls w hl h => ih9 M x1 x2 w hl h
    replace h : b_X5_layStock_13 (lp_X5_layStock_13 post n9) post M x1 x2 := h
    unfold b_X5_layStock_13 at h
    refine lv_iload_n hx hb dX5_layStock_13 rfl (lv_at hl 2 rfl) ?_
    refine lv_aload_n hx hb dX5_layStock_14 rfl (lv_at hl 0 rfl) ?_
    refine gt_5_0 C w kw_1_16 dX5_layStock_15 ?_
    refine gn_4_1 C w ⟨by decide, by decide⟩ kn_14 dX5_layStock_18 ?_
    refine lv_icmp_ge (tgt := 82) hx hb dX5_layStock_21 (by decide) (fun c1 => ?_) (fun c1 => ?_)
    · replace h := h.1 c1
      refine lv_iconst (v := 1) hx hb dX5_layStock_82 (by decide) ?_
      exact ret_z C w ⟨Or.inr rfl, h⟩ dX5_layStock_83
    replace h := h.2 c1
    refine lv_iload_n hx hb dX5_layStock_24 rfl (lv_at hl 1 rfl) ?_
    refine lv_iload_n hx hb dX5_layStock_25 rfl (lv_at hl 2 rfl) ?_
    refine lv_ishr hx hb dX5_layStock_26 ?_
    refine lv_iconst (v := 1) hx hb dX5_layStock_27 (by decide) ?_
    refine lv_iand hx hb dX5_layStock_28 ?_
    refine lv_if_ne (tgt := 35) hx hb dX5_layStock_29 (by decide) (fun c2 => ?_) (fun c2 => ?_)
    · replace h := h.2 c2
      refine lv_aload_n hx hb dX5_layStock_35 rfl (lv_at hl 0 rfl) ?_
      refine gt_5_0 C w kw_1_16 dX5_layStock_36 ?_
      refine gn_4_7 C w ⟨by decide, by decide⟩ kn_22 dX5_layStock_39 ?_
      refine lv_iload_n hx hb dX5_layStock_42 rfl (lv_at hl 2 rfl) ?_
      refine lv_icmp_ne (tgt := 48) hx hb dX5_layStock_43 (by decide) (fun c3 => ?_) (fun c3 => ?_)
      · replace h := h.2 c3
        refine lv_aload_n hx hb dX5_layStock_48 rfl (lv_at hl 0 rfl) ?_
        refine gt_5_3 C w kw_1_22 dX5_layStock_49 ?_
        refine lv_aload_n hx hb dX5_layStock_52 rfl (lv_at hl 0 rfl) ?_
        refine gt_5_0 C w kw_1_16 dX5_layStock_53 ?_
        refine gn_4_0 C w ⟨by decide, by decide⟩ kn_13 dX5_layStock_56 ?_
        refine lv_iload_n hx hb dX5_layStock_59 rfl (lv_at hl 2 rfl) ?_
        have hin4 := h.1
        replace h := h.2
        have hz_hin4 := in_lt hin4
        refine pw_ldP C w (i := 8) ⟨by decide, by decide⟩ hin4 dX5_layStock_60 (j := (38 + x2.toNatClampNeg)) (by omega) ?_
        refine lv_aload_n hx hb dX5_layStock_61 rfl (lv_at hl 0 rfl) ?_
        refine gt_5_0 C w kw_1_16 dX5_layStock_62 ?_
        refine gn_4_0 C w ⟨by decide, by decide⟩ kn_13 dX5_layStock_65 ?_
        refine lv_iload_n hx hb dX5_layStock_68 rfl (lv_at hl 2 rfl) ?_
        refine pw_ldP C w (i := 8) ⟨by decide, by decide⟩ hin4 dX5_layStock_69 (j := (38 + x2.toNatClampNeg)) (by omega) ?_
        refine gn_1_2 C w (by omega) kn_3 dX5_layStock_70 ?_
        refine end_v w (run_VN (As := [.ref (ga G (38 + x2.toNatClampNeg)), .int (M (38 + x2.toNatClampNeg) 2)]) C w hl.1 (c_X0_add l G C.2.2.1 _ _ (38 + x2.toNatClampNeg) (M (38 + x2.toNatClampNeg) 2) (by omega) _ h) kw_16_6 kw_1_21 kn_57 kw_16_4 kw_16_5 hd_X0_add ⟨by decide, by decide⟩ (w.recv C (i := 4) (by decide) (pE_0) rfl) rfl (Nat.le_of_ble_eq_true rfl) dX5_layStock_73) (fun M6 H locs h w => ?_)
        exact t_X5_layStock_76 C hk13 M6 x1 x2  w (lv_sub hl [0, 1, 2] rfl) h
      replace h := h.1 c3
      refine lv_iconst (v := 0) hx hb dX5_layStock_46 (by decide) ?_
      exact ret_z C w ⟨Or.inl rfl, h⟩ dX5_layStock_47
    replace h := h.1 c2
    refine lv_goto (tgt := 76) hx hb dX5_layStock_32 (by decide) ?_
    exact t_X5_layStock_76 C hk13 M x1 x2  w (lv_sub hl [0, 1, 2] rfl) h
set_option maxHeartbeats 4000000 in
set_option maxRecDepth 100000 in
theorem c_X5_layStock (l : Launch) (G : GG) (hG : Ag G) (sz : Nat) (M : Mem) (x1 : Int32) (post : Int32 → Mem → Prop) (h : q_X5_layStock M x1 post) : Met l yX5_layStock (Cond.code yX5_layStock cX5_layStock 3 (some .boolean) :: wsL_law) (rmk 2) (va_Pc [.ref (ga G 0), .int x1] (Pw G sz M)) (va_Qi post (Qw G) (Af G sz)) 0 0 (Af G sz) := by
  refine Met.ofW (cc := cX5_layStock) (maxL := 3) (ret := (some .boolean)) (by decide) rfl ?_
  intro p e s m args below meth c s₁ B hml hv
  obtain ⟨rfl, hsz, hE, hP⟩ := hv
  subst hsz
  have C := Cx.of (own := RX5) hG hE rfl hml B
  have w : Wd G s M s.heap [] := ⟨hP, va_S.rf⟩
  have hl := lv_entry [.ref (ga G 0), .int x1] (n := 3) (Nat.le_of_ble_eq_true rfl)
  rw [lg_entry_eq]
  generalize (lg_sl [.ref (ga G 0), .int x1] ++ List.replicate (3 - (lg_sl [.ref (ga G 0), .int x1]).length) Slot.unset).toArray = ls at hl ⊢
  have hl : lv_has ls 3 [(0, .ref (ga G 0)), (1, .int x1)] := hl
  have hx := C.1.1
  have hb := C.1.2.1
  show W p l e (rmk 2) s m _ below meth c s.heap [] 0 0 _ _
  unfold q_X5_layStock at h
  refine lv_aload_n hx hb dX5_layStock_0 rfl (lv_at hl 0 rfl) ?_
  refine gt_5_3 C w kw_1_22 dX5_layStock_1 ?_
  refine lv_aload_n hx hb dX5_layStock_4 rfl (lv_at hl 0 rfl) ?_
  refine gt_5_0 C w kw_1_16 dX5_layStock_5 ?_
  refine end_v w (run_VN (As := [.ref (ga G 1)]) C w hl.1 (c_X0_begin l G C.2.2.1 _ _ 1 ⟨by decide, by decide⟩ _ h) kw_16_3 kw_1_21 kn_56 kw_16_1 kw_16_2 hd_X0_begin ⟨by decide, by decide⟩ (w.recv C (i := 4) (by decide) (pE_0) rfl) rfl (Nat.le_of_ble_eq_true rfl) dX5_layStock_8) (fun M8 H locs h w => ?_)
  refine lv_iconst (v := 0) hx hb dX5_layStock_11 (by decide) ?_
  refine lv_istore_n (lv' := [(2, .int (0 : Int32)), (0, .ref (ga G 0)), (1, .int x1)]) hx hb dX5_layStock_12 rfl hl (by decide) rfl (fun ls hl => ?_)
  obtain ⟨n, h⟩ := h
  exact t_X5_layStock_13 C n M8 x1 (0 : Int32)  w (lv_sub hl [1, 2, 0] rfl) h
def j_X5_stock_114 (post : Int32 → Mem → Prop) (M : Mem) (y0 : Int32) : Prop := post y0 M
def j_X5_stock_98 (k32 : Mem → Int32 → Int32 → Int32 → Int32 → Int32 → Prop) (post : Int32 → Mem → Prop) (M : Mem) (x1 : Int32) (x2 : Int32) (x3 : Int32) (x4 : Int32) (x5 : Int32) : Prop := k32 M x1 x2 x3 x4 (x5 + (1 : Int32))
def j_X5_stock_91 (k32 : Mem → Int32 → Int32 → Int32 → Int32 → Int32 → Prop) (post : Int32 → Mem → Prop) (M : Mem) (x1 : Int32) (x2 : Int32) (x5 : Int32) (x6 : Int32) : Prop := j_X5_stock_98 k32 post M x1 x2 x5 x6 x5
def b_X5_stock_32 (k32 : Mem → Int32 → Int32 → Int32 → Int32 → Int32 → Prop) (post : Int32 → Mem → Prop) (M : Mem) (x1 : Int32) (x2 : Int32) (x3 : Int32) (x4 : Int32) (x5 : Int32) : Prop := (((1 : Int32) <<< ((M 1 1) &&& 31)) ≤ x5 → ((x2 = 0 → (j_X5_stock_114 post M x3)) ∧ (¬ (x2 = 0) → (j_X5_stock_114 post M x4)))) ∧ (¬ (((1 : Int32) <<< ((M 1 1) &&& 31)) ≤ x5) → (q_X5_layStock M x5 (fun r3 M4 => (r3 = 0 → (j_X5_stock_98 k32 post M4 x1 x2 x3 x4 x5)) ∧ (¬ (r3 = 0) → (((M4 4 0) ≤ x1 → (q_X0_greatestPull M4  (fun r7 M8 => (x3 = (-4 : Int32) → (j_X5_stock_91 k32 post M8 x1 x2 x5 r7)) ∧ (¬ (x3 = (-4 : Int32)) → ((x4 ≤ r7 → (j_X5_stock_98 k32 post M8 x1 x2 x3 x4 x5)) ∧ (¬ (x4 ≤ r7) → (j_X5_stock_91 k32 post M8 x1 x2 x5 r7))))))) ∧ (¬ ((M4 4 0) ≤ x1) → (j_X5_stock_98 k32 post M4 x1 x2 x3 x4 x5)))))))
def lp_X5_stock_32 (post : Int32 → Mem → Prop) : Nat → Mem → Int32 → Int32 → Int32 → Int32 → Int32 → Prop
  | 0 => fun _ _ _ _ _ _ => False
  | n + 1 => fun M x1 x2 x3 x4 x5 => b_X5_stock_32 (lp_X5_stock_32 post n) post M x1 x2 x3 x4 x5
def j_X5_stock_20 (post : Int32 → Mem → Prop) (M : Mem) : Prop := post (-1 : Int32) M
def q_X5_stock (M : Mem) (x1 : Int32) (x2 : Int32) (post : Int32 → Mem → Prop) : Prop := q_X5_isWithin M x1 (1 : Int32) (999 : Int32) (fun r11 M12 => (r11 = 0 → (j_X5_stock_20 post M12)) ∧ (¬ (r11 = 0) → (q_X5_isWithin M12 x2 (0 : Int32) (1 : Int32) (fun r14 M15 => (r14 = 0 → (j_X5_stock_20 post M15)) ∧ (¬ (r14 = 0) → (∃ n, lp_X5_stock_32 post n M15 x1 x2 (-4 : Int32) (-4 : Int32) (1 : Int32)))))))
set_option maxHeartbeats 4000000 in
set_option maxRecDepth 100000 in
theorem t_X5_stock_114 (C : Cx G p s m args meth c RX5 cX5_stock 7 (some .int)) {post : Int32 → Mem → Prop} (M : Mem) (y0 : Int32) {H : Heap} {locs : List Loc} {ls : Array Slot} (w : Wd G s M H locs) (hl : lv_has ls 7 []) (h : j_X5_stock_114 post M y0) : W p l e (rmk 5) s m args below meth c H locs 0 0 (MQ below (va_Qi post (Qw G) (Af G s.heap.size)) args s 0 0 (Af G s.heap.size)) (F0 m 114 ls [.int y0]) := by
  have hx := C.1.1
  have hb := C.1.2.1
  unfold j_X5_stock_114 at h
  exact ret_i C w h dX5_stock_114
set_option maxHeartbeats 4000000 in
set_option maxRecDepth 100000 in
theorem t_X5_stock_98 (C : Cx G p s m args meth c RX5 cX5_stock 7 (some .int)) {post : Int32 → Mem → Prop} {k32 : Mem → Int32 → Int32 → Int32 → Int32 → Int32 → Prop} (hk32 : ∀ (M : Mem) (x1 : Int32) (x2 : Int32) (x3 : Int32) (x4 : Int32) (x5 : Int32) (H : Heap) (locs : List Loc) (ls : Array Slot), Wd G s M H locs → lv_has ls 7 [(0, .ref (ga G 0)), (1, .int x1), (2, .int x2), (3, .int x3), (4, .int x4), (5, .int x5)] → k32 M x1 x2 x3 x4 x5 → W p l e (rmk 5) s m args below meth c H locs 0 0 (MQ below (va_Qi post (Qw G) (Af G s.heap.size)) args s 0 0 (Af G s.heap.size)) (F0 m 32 ls [])) (M : Mem) (x1 : Int32) (x2 : Int32) (x3 : Int32) (x4 : Int32) (x5 : Int32) {H : Heap} {locs : List Loc} {ls : Array Slot} (w : Wd G s M H locs) (hl : lv_has ls 7 [(0, .ref (ga G 0)), (1, .int x1), (2, .int x2), (3, .int x3), (4, .int x4), (5, .int x5)]) (h : j_X5_stock_98 k32 post M x1 x2 x3 x4 x5) : W p l e (rmk 5) s m args below meth c H locs 0 0 (MQ below (va_Qi post (Qw G) (Af G s.heap.size)) args s 0 0 (Af G s.heap.size)) (F0 m 98 ls []) := by
  have hx := C.1.1
  have hb := C.1.2.1
  unfold j_X5_stock_98 at h
  refine lv_iinc (v := (x5 + (1 : Int32))) (lv' := [(5, .int (x5 + (1 : Int32))), (0, .ref (ga G 0)), (1, .int x1), (2, .int x2), (3, .int x3), (4, .int x4)]) hx hb dX5_stock_98 hl (k := 5) rfl rfl (by decide) rfl (fun ls hl => ?_)
  refine lv_goto (tgt := 32) hx hb dX5_stock_101 (by decide) ?_
  exact hk32 M x1 x2 x3 x4 (x5 + (1 : Int32)) _ _ _  w (lv_sub hl [1, 2, 3, 4, 5, 0] rfl) h
set_option maxHeartbeats 4000000 in
set_option maxRecDepth 100000 in
theorem t_X5_stock_91 (C : Cx G p s m args meth c RX5 cX5_stock 7 (some .int)) {post : Int32 → Mem → Prop} {k32 : Mem → Int32 → Int32 → Int32 → Int32 → Int32 → Prop} (hk32 : ∀ (M : Mem) (x1 : Int32) (x2 : Int32) (x3 : Int32) (x4 : Int32) (x5 : Int32) (H : Heap) (locs : List Loc) (ls : Array Slot), Wd G s M H locs → lv_has ls 7 [(0, .ref (ga G 0)), (1, .int x1), (2, .int x2), (3, .int x3), (4, .int x4), (5, .int x5)] → k32 M x1 x2 x3 x4 x5 → W p l e (rmk 5) s m args below meth c H locs 0 0 (MQ below (va_Qi post (Qw G) (Af G s.heap.size)) args s 0 0 (Af G s.heap.size)) (F0 m 32 ls [])) (M : Mem) (x1 : Int32) (x2 : Int32) (x5 : Int32) (x6 : Int32) {H : Heap} {locs : List Loc} {ls : Array Slot} (w : Wd G s M H locs) (hl : lv_has ls 7 [(0, .ref (ga G 0)), (1, .int x1), (2, .int x2), (5, .int x5), (6, .int x6)]) (h : j_X5_stock_91 k32 post M x1 x2 x5 x6) : W p l e (rmk 5) s m args below meth c H locs 0 0 (MQ below (va_Qi post (Qw G) (Af G s.heap.size)) args s 0 0 (Af G s.heap.size)) (F0 m 91 ls []) := by
  have hx := C.1.1
  have hb := C.1.2.1
  unfold j_X5_stock_91 at h
  refine lv_iload hx hb dX5_stock_91 (lv_at hl 3 rfl) ?_
  refine lv_istore_n (lv' := [(3, .int x5), (0, .ref (ga G 0)), (1, .int x1), (2, .int x2), (5, .int x5), (6, .int x6)]) hx hb dX5_stock_93 rfl hl (by decide) rfl (fun ls hl => ?_)
  refine lv_iload hx hb dX5_stock_94 (lv_at hl 5 rfl) ?_
  refine lv_istore (lv' := [(4, .int x6), (3, .int x5), (0, .ref (ga G 0)), (1, .int x1), (2, .int x2), (5, .int x5), (6, .int x6)]) hx hb dX5_stock_96 hl (by decide) rfl (fun ls hl => ?_)
  exact t_X5_stock_98 C hk32 M x1 x2 x5 x6 x5  w (lv_sub hl [2, 3, 4, 1, 0, 5] rfl) h
set_option maxHeartbeats 4000000 in
set_option maxRecDepth 100000 in
theorem t_X5_stock_32 (C : Cx G p s m args meth c RX5 cX5_stock 7 (some .int)) {post : Int32 → Mem → Prop} : ∀ (n : Nat) (M : Mem) (x1 : Int32) (x2 : Int32) (x3 : Int32) (x4 : Int32) (x5 : Int32) {H : Heap} {locs : List Loc} {ls : Array Slot} (w : Wd G s M H locs) (hl : lv_has ls 7 [(0, .ref (ga G 0)), (1, .int x1), (2, .int x2), (3, .int x3), (4, .int x4), (5, .int x5)]) (h : lp_X5_stock_32 post n M x1 x2 x3 x4 x5), W p l e (rmk 5) s m args below meth c H locs 0 0 (MQ below (va_Qi post (Qw G) (Af G s.heap.size)) args s 0 0 (Af G s.heap.size)) (F0 m 32 ls []) := by
  have hx := C.1.1
  have hb := C.1.2.1
  intro n9
  induction n9 with
  | zero => intro M x1 x2 x3 x4 x5 H locs ls w hl h; exact absurd h id
  | succ n9 ih9 =>
    intro M x1 x2 x3 x4 x5 H locs ls w hl h
    have hk32 : ∀ (M : Mem) (x1 : Int32) (x2 : Int32) (x3 : Int32) (x4 : Int32) (x5 : Int32) (H : Heap) (locs : List Loc) (ls : Array Slot), Wd G s M H locs → lv_has ls 7 [(0, .ref (ga G 0)), (1, .int x1), (2, .int x2), (3, .int x3), (4, .int x4), (5, .int x5)] → lp_X5_stock_32 post n9 M x1 x2 x3 x4 x5 → W p l e (rmk 5) s m args below meth c H locs 0 0 (MQ below (va_Qi post (Qw G) (Af G s.heap.size)) args s 0 0 (Af G s.heap.size)) (F0 m 32 ls []) := fun M x1 x2 x3 x4 x5 H locs ls w hl h => ih9 M x1 x2 x3 x4 x5 w hl h
    replace h : b_X5_stock_32 (lp_X5_stock_32 post n9) post M x1 x2 x3 x4 x5 := h
    unfold b_X5_stock_32 at h
    refine lv_iload hx hb dX5_stock_32 (lv_at hl 5 rfl) ?_
    refine lv_iconst (v := 1) hx hb dX5_stock_34 (by decide) ?_
    refine lv_aload_n hx hb dX5_stock_35 rfl (lv_at hl 0 rfl) ?_
    refine gt_5_0 C w kw_1_16 dX5_stock_36 ?_
    refine gn_4_1 C w ⟨by decide, by decide⟩ kn_14 dX5_stock_39 ?_
    refine lv_ishl hx hb dX5_stock_42 ?_
    refine lv_icmp_ge (tgt := 104) hx hb dX5_stock_43 (by decide) (fun c1 => ?_) (fun c1 => ?_)
    · replace h := h.1 c1
      refine lv_iload_n hx hb dX5_stock_104 rfl (lv_at hl 2 rfl) ?_
      refine lv_if_ne (tgt := 112) hx hb dX5_stock_105 (by decide) (fun c2 => ?_) (fun c2 => ?_)
      · replace h := h.2 c2
        refine lv_iload hx hb dX5_stock_112 (lv_at hl 4 rfl) ?_
        exact t_X5_stock_114 C M x4  w (lv_sub hl [] rfl) h
      replace h := h.1 c2
      refine lv_iload_n hx hb dX5_stock_108 rfl (lv_at hl 3 rfl) ?_
      refine lv_goto (tgt := 114) hx hb dX5_stock_109 (by decide) ?_
      exact t_X5_stock_114 C M x3  w (lv_sub hl [] rfl) h
    replace h := h.2 c1
    refine lv_aload_n hx hb dX5_stock_46 rfl (lv_at hl 0 rfl) ?_
    refine lv_iload hx hb dX5_stock_47 (lv_at hl 5 rfl) ?_
    refine end_i w (run_V (As := [.int x5]) C w hl.1 (c_X5_layStock l G C.2.2.1 _ _ x5  _ h) kw_24_23 kw_1_2 kw_24_20 kw_24_21 kw_24_22 hd_X5_layStock ⟨by decide, by decide⟩ (w.recv C (i := 0) (by decide) (pE_5) rfl) rfl (Nat.le_of_ble_eq_true rfl) dX5_stock_49) (fun r3 M4 H locs h w => ?_)
    refine lv_if_eq (tgt := 98) hx hb dX5_stock_52 (by decide) (fun c5 => ?_) (fun c5 => ?_)
    · replace h := h.1 c5
      exact t_X5_stock_98 C hk32 M4 x1 x2 x3 x4 x5  w (lv_sub hl [0, 1, 2, 3, 4, 5] rfl) h
    replace h := h.2 c5
    refine lv_aload_n hx hb dX5_stock_55 rfl (lv_at hl 0 rfl) ?_
    refine gt_5_3 C w kw_1_22 dX5_stock_56 ?_
    refine gn_0_0 C w kn_24 dX5_stock_59 ?_
    refine lv_iload_n hx hb dX5_stock_62 rfl (lv_at hl 1 rfl) ?_
    refine lv_icmp_le (tgt := 69) hx hb dX5_stock_63 (by decide) (fun c6 => ?_) (fun c6 => ?_)
    · replace h := h.1 c6
      refine lv_aload_n hx hb dX5_stock_69 rfl (lv_at hl 0 rfl) ?_
      refine gt_5_3 C w kw_1_22 dX5_stock_70 ?_
      refine end_i w (run_VN (As := []) C w hl.1 (c_X0_greatestPull l G C.2.2.1 _ _   _ h) kw_22_14 kw_1_21 kn_68 kw_22_12 kw_22_13 hd_X0_greatestPull ⟨by decide, by decide⟩ (w.recv C (i := 4) (by decide) (pE_0) rfl) rfl (Nat.le_of_ble_eq_true rfl) dX5_stock_73) (fun r7 M8 H locs h w => ?_)
      refine lv_istore (lv' := [(6, .int r7), (0, .ref (ga G 0)), (1, .int x1), (2, .int x2), (3, .int x3), (4, .int x4), (5, .int x5)]) hx hb dX5_stock_76 hl (by decide) rfl (fun ls hl => ?_)
      refine lv_iload_n hx hb dX5_stock_78 rfl (lv_at hl 4 rfl) ?_
      refine lv_bipush (v := -4) hx hb dX5_stock_79 (by decide) ?_
      refine lv_icmp_eq (tgt := 91) hx hb dX5_stock_81 (by decide) (fun c9 => ?_) (fun c9 => ?_)
      · replace h := h.1 c9
        exact t_X5_stock_91 C hk32 M8 x1 x2 x5 r7  w (lv_sub hl [1, 2, 3, 6, 0] rfl) h
      replace h := h.2 c9
      refine lv_iload hx hb dX5_stock_84 (lv_at hl 0 rfl) ?_
      refine lv_iload hx hb dX5_stock_86 (lv_at hl 5 rfl) ?_
      refine lv_icmp_ge (tgt := 98) hx hb dX5_stock_88 (by decide) (fun c10 => ?_) (fun c10 => ?_)
      · replace h := h.1 c10
        exact t_X5_stock_98 C hk32 M8 x1 x2 x3 x4 x5  w (lv_sub hl [1, 2, 3, 4, 5, 6] rfl) h
      replace h := h.2 c10
      exact t_X5_stock_91 C hk32 M8 x1 x2 x5 r7  w (lv_sub hl [1, 2, 3, 6, 0] rfl) h
    replace h := h.2 c6
    refine lv_goto (tgt := 98) hx hb dX5_stock_66 (by decide) ?_
    exact t_X5_stock_98 C hk32 M4 x1 x2 x3 x4 x5  w (lv_sub hl [0, 1, 2, 3, 4, 5] rfl) h
set_option maxHeartbeats 4000000 in
set_option maxRecDepth 100000 in
theorem t_X5_stock_20 (C : Cx G p s m args meth c RX5 cX5_stock 7 (some .int)) {post : Int32 → Mem → Prop} (M : Mem) {H : Heap} {locs : List Loc} {ls : Array Slot} (w : Wd G s M H locs) (hl : lv_has ls 7 []) (h : j_X5_stock_20 post M) : W p l e (rmk 5) s m args below meth c H locs 0 0 (MQ below (va_Qi post (Qw G) (Af G s.heap.size)) args s 0 0 (Af G s.heap.size)) (F0 m 20 ls []) := by
  have hx := C.1.1
  have hb := C.1.2.1
  unfold j_X5_stock_20 at h
  refine lv_iconst (v := -1) hx hb dX5_stock_20 (by decide) ?_
  exact ret_i C w h dX5_stock_21
set_option maxHeartbeats 4000000 in
set_option maxRecDepth 100000 in
theorem c_X5_stock (l : Launch) (G : GG) (hG : Ag G) (sz : Nat) (M : Mem) (x1 : Int32) (x2 : Int32) (post : Int32 → Mem → Prop) (h : q_X5_stock M x1 x2 post) : Met l yX5_stock (Cond.code yX5_stock cX5_stock 7 (some .int) :: wsL_law) (rmk 5) (va_Pc [.ref (ga G 0), .int x1, .int x2] (Pw G sz M)) (va_Qi post (Qw G) (Af G sz)) 0 0 (Af G sz) := by
  refine Met.ofW (cc := cX5_stock) (maxL := 7) (ret := (some .int)) (by decide) rfl ?_
  intro p e s m args below meth c s₁ B hml hv
  obtain ⟨rfl, hsz, hE, hP⟩ := hv
  subst hsz
  have C := Cx.of (own := RX5) hG hE rfl hml B
  have w : Wd G s M s.heap [] := ⟨hP, va_S.rf⟩
  have hl := lv_entry [.ref (ga G 0), .int x1, .int x2] (n := 7) (Nat.le_of_ble_eq_true rfl)
  rw [lg_entry_eq]
  generalize (lg_sl [.ref (ga G 0), .int x1, .int x2] ++ List.replicate (7 - (lg_sl [.ref (ga G 0), .int x1, .int x2]).length) Slot.unset).toArray = ls at hl ⊢
  have hl : lv_has ls 7 [(0, .ref (ga G 0)), (1, .int x1), (2, .int x2)] := hl
  have hx := C.1.1
  have hb := C.1.2.1
  show W p l e (rmk 5) s m _ below meth c s.heap [] 0 0 _ _
  unfold q_X5_stock at h
  refine lv_iload_n hx hb dX5_stock_0 rfl (lv_at hl 1 rfl) ?_
  refine lv_iconst (v := 1) hx hb dX5_stock_1 (by decide) ?_
  refine lv_sipush (v := 999) hx hb dX5_stock_2 (by decide) ?_
  refine end_i w (run_S (As := [.int x1, .int (1 : Int32), .int (999 : Int32)]) C w hl.1 (c_X5_isWithin l G C.2.2.1 _ _ x1 (1 : Int32) (999 : Int32)  _ h) kw_6_8 kw_1_2 kw_6_6 kw_6_7 hd_X5_isWithin ⟨by decide, by decide⟩ rfl (Nat.le_of_ble_eq_true rfl) dX5_stock_5) (fun r11 M12 H locs h w => ?_)
  refine lv_if_eq (tgt := 20) hx hb dX5_stock_8 (by decide) (fun c13 => ?_) (fun c13 => ?_)
  · replace h := h.1 c13
    exact t_X5_stock_20 C M12   w (lv_sub hl [] rfl) h
  replace h := h.2 c13
  refine lv_iload_n hx hb dX5_stock_11 rfl (lv_at hl 2 rfl) ?_
  refine lv_iconst (v := 0) hx hb dX5_stock_12 (by decide) ?_
  refine lv_iconst (v := 1) hx hb dX5_stock_13 (by decide) ?_
  refine end_i w (run_S (As := [.int x2, .int (0 : Int32), .int (1 : Int32)]) C w hl.1 (c_X5_isWithin l G C.2.2.1 _ _ x2 (0 : Int32) (1 : Int32)  _ h) kw_6_8 kw_1_2 kw_6_6 kw_6_7 hd_X5_isWithin ⟨by decide, by decide⟩ rfl (Nat.le_of_ble_eq_true rfl) dX5_stock_14) (fun r14 M15 H locs h w => ?_)
  refine lv_if_ne (tgt := 22) hx hb dX5_stock_17 (by decide) (fun c16 => ?_) (fun c16 => ?_)
  · replace h := h.2 c16
    refine lv_bipush (v := -4) hx hb dX5_stock_22 (by decide) ?_
    refine lv_istore_n (lv' := [(3, .int (-4 : Int32)), (0, .ref (ga G 0)), (1, .int x1), (2, .int x2)]) hx hb dX5_stock_24 rfl hl (by decide) rfl (fun ls hl => ?_)
    refine lv_bipush (v := -4) hx hb dX5_stock_25 (by decide) ?_
    refine lv_istore (lv' := [(4, .int (-4 : Int32)), (3, .int (-4 : Int32)), (0, .ref (ga G 0)), (1, .int x1), (2, .int x2)]) hx hb dX5_stock_27 hl (by decide) rfl (fun ls hl => ?_)
    refine lv_iconst (v := 1) hx hb dX5_stock_29 (by decide) ?_
    refine lv_istore (lv' := [(5, .int (1 : Int32)), (4, .int (-4 : Int32)), (3, .int (-4 : Int32)), (0, .ref (ga G 0)), (1, .int x1), (2, .int x2)]) hx hb dX5_stock_30 hl (by decide) rfl (fun ls hl => ?_)
    obtain ⟨n, h⟩ := h
    exact t_X5_stock_32 C n M15 x1 x2 (-4 : Int32) (-4 : Int32) (1 : Int32)  w (lv_sub hl [3, 4, 5, 2, 1, 0] rfl) h
  replace h := h.1 c16
  exact t_X5_stock_20 C M15   w (lv_sub hl [] rfl) h
def j_X6_stock_174 (post : Int32 → Mem → Prop) (M : Mem) (y0 : Int32) : Prop := post y0 M
def j_X6_stock_149 (k33 : Mem → Int32 → Int32 → Int32 → Int32 → Int32 → Prop) (post : Int32 → Mem → Prop) (M : Mem) (x1 : Int32) (x2 : Int32) (x3 : Int32) (x4 : Int32) (x5 : Int32) : Prop := k33 M x1 x2 x3 x4 (x5 + (1 : Int32))
def j_X6_stock_142 (k33 : Mem → Int32 → Int32 → Int32 → Int32 → Int32 → Prop) (post : Int32 → Mem → Prop) (M : Mem) (x1 : Int32) (x2 : Int32) (x5 : Int32) (x7 : Int32) : Prop := j_X6_stock_149 k33 post M x1 x2 x5 x7 x5
def j_X6_stock_89 (k33 : Mem → Int32 → Int32 → Int32 → Int32 → Int32 → Prop) (k48 : Mem → Int32 → Int32 → Int32 → Int32 → Int32 → Int32 → Int32 → Prop) (post : Int32 → Mem → Prop) (M : Mem) (y0 : Int32) (x1 : Int32) (x2 : Int32) (x3 : Int32) (x4 : Int32) (x5 : Int32) (x7 : Int32) : Prop := k48 M x1 x2 x3 x4 x5 y0 (x7 + (1 : Int32))
def j_X6_stock_88 (k33 : Mem → Int32 → Int32 → Int32 → Int32 → Int32 → Prop) (k48 : Mem → Int32 → Int32 → Int32 → Int32 → Int32 → Int32 → Int32 → Prop) (post : Int32 → Mem → Prop) (M : Mem) (x1 : Int32) (x2 : Int32) (x3 : Int32) (x4 : Int32) (x5 : Int32) (x7 : Int32) : Prop := j_X6_stock_89 k33 k48 post M (0 : Int32) x1 x2 x3 x4 x5 x7
def j_X6_stock_84 (k33 : Mem → Int32 → Int32 → Int32 → Int32 → Int32 → Prop) (k48 : Mem → Int32 → Int32 → Int32 → Int32 → Int32 → Int32 → Int32 → Prop) (post : Int32 → Mem → Prop) (M : Mem) (x1 : Int32) (x2 : Int32) (x3 : Int32) (x4 : Int32) (x5 : Int32) (x7 : Int32) : Prop := j_X6_stock_89 k33 k48 post M (1 : Int32) x1 x2 x3 x4 x5 x7
def b_X6_stock_48 (k33 : Mem → Int32 → Int32 → Int32 → Int32 → Int32 → Prop) (k48 : Mem → Int32 → Int32 → Int32 → Int32 → Int32 → Int32 → Int32 → Prop) (post : Int32 → Mem → Prop) (M : Mem) (x1 : Int32) (x2 : Int32) (x3 : Int32) (x4 : Int32) (x5 : Int32) (x6 : Int32) (x7 : Int32) : Prop := ((M 58 0) ≤ x7 → ((x6 = 0 → (j_X6_stock_149 k33 post M x1 x2 x3 x4 x5)) ∧ (¬ (x6 = 0) → (q_X6_sumsUp M x5 (fun M4 => ((M4 57 18) ≤ x1 → (q_X6_greatestOf M4  (fun r6 M7 => (x3 < 0 → (j_X6_stock_142 k33 post M7 x1 x2 x5 r6)) ∧ (¬ (x3 < 0) → ((r6 < x4 → (j_X6_stock_142 k33 post M7 x1 x2 x5 r6)) ∧ (¬ (r6 < x4) → (j_X6_stock_149 k33 post M7 x1 x2 x3 x4 x5))))))) ∧ (¬ ((M4 57 18) ≤ x1) → (j_X6_stock_149 k33 post M4 x1 x2 x3 x4 x5))))))) ∧ (¬ ((M 58 0) ≤ x7) → ((x6 = 0 → (j_X6_stock_88 k33 k48 post M x1 x2 x3 x4 x5 x7)) ∧ (¬ (x6 = 0) → ((((x5 >>> (x7 &&& 31)) &&& (1 : Int32)) = 0 → (j_X6_stock_84 k33 k48 post M x1 x2 x3 x4 x5 x7)) ∧ (¬ (((x5 >>> (x7 &&& 31)) &&& (1 : Int32)) = 0) → (q_X6_get M x7 (4 : Int32) (fun r12 M13 => (r12 = 0 → (j_X6_stock_84 k33 k48 post M13 x1 x2 x3 x4 x5 x7)) ∧ (¬ (r12 = 0) → (j_X6_stock_88 k33 k48 post M13 x1 x2 x3 x4 x5 x7)))))))))
def lp_X6_stock_48 (k33 : Mem → Int32 → Int32 → Int32 → Int32 → Int32 → Prop) (post : Int32 → Mem → Prop) : Nat → Mem → Int32 → Int32 → Int32 → Int32 → Int32 → Int32 → Int32 → Prop
  | 0 => fun _ _ _ _ _ _ _ _ => False
  | n + 1 => fun M x1 x2 x3 x4 x5 x6 x7 => b_X6_stock_48 k33 (lp_X6_stock_48 k33 post n) post M x1 x2 x3 x4 x5 x6 x7
def b_X6_stock_33 (k33 : Mem → Int32 → Int32 → Int32 → Int32 → Int32 → Prop) (post : Int32 → Mem → Prop) (M : Mem) (x1 : Int32) (x2 : Int32) (x3 : Int32) (x4 : Int32) (x5 : Int32) : Prop := q_X6_allPieces M  (fun r15 M16 => (r15 < x5 → ((0 ≤ x3 → ((x2 = 0 → (j_X6_stock_174 post M16 x3)) ∧ (¬ (x2 = 0) → (j_X6_stock_174 post M16 x4)))) ∧ (¬ (0 ≤ x3) → (j_X6_stock_174 post M16 (-4 : Int32))))) ∧ (¬ (r15 < x5) → (∃ n, lp_X6_stock_48 k33 post n M16 x1 x2 x3 x4 x5 (1 : Int32) (0 : Int32))))
def lp_X6_stock_33 (post : Int32 → Mem → Prop) : Nat → Mem → Int32 → Int32 → Int32 → Int32 → Int32 → Prop
  | 0 => fun _ _ _ _ _ _ => False
  | n + 1 => fun M x1 x2 x3 x4 x5 => b_X6_stock_33 (lp_X6_stock_33 post n) post M x1 x2 x3 x4 x5
def j_X6_stock_22 (post : Int32 → Mem → Prop) (M : Mem) : Prop := post (-1 : Int32) M
def q_X6_stock (M : Mem) (x1 : Int32) (x2 : Int32) (post : Int32 → Mem → Prop) : Prop := q_X6_isIn M x1.toInt64 (1 : Int64) (999 : Int64) (fun r20 M21 => (r20 = 0 → (j_X6_stock_22 post M21)) ∧ (¬ (r20 = 0) → (q_X6_isIn M21 x2.toInt64 (0 : Int64) (1 : Int64) (fun r23 M24 => (r23 = 0 → (j_X6_stock_22 post M24)) ∧ (¬ (r23 = 0) → (∃ n, lp_X6_stock_33 post n M24 x1 x2 (-4 : Int32) (0 : Int32) (1 : Int32)))))))
set_option maxHeartbeats 4000000 in
set_option maxRecDepth 100000 in
theorem t_X6_stock_174 (C : Cx G p s m args meth c RX6 cX6_stock 8 (some .int)) {post : Int32 → Mem → Prop} (M : Mem) (y0 : Int32) {H : Heap} {locs : List Loc} {ls : Array Slot} (w : Wd G s M H locs) (hl : lv_has ls 8 []) (h : j_X6_stock_174 post M y0) : W p l e (rmk 5) s m args below meth c H locs 0 0 (MQ below (va_Qi post (Qw G) (Af G s.heap.size)) args s 0 0 (Af G s.heap.size)) (F0 m 174 ls [.int y0]) := by
  have hx := C.1.1
  have hb := C.1.2.1
  unfold j_X6_stock_174 at h
  exact ret_i C w h dX6_stock_174
set_option maxHeartbeats 4000000 in
set_option maxRecDepth 100000 in
theorem t_X6_stock_149 (C : Cx G p s m args meth c RX6 cX6_stock 8 (some .int)) {post : Int32 → Mem → Prop} {k33 : Mem → Int32 → Int32 → Int32 → Int32 → Int32 → Prop} (hk33 : ∀ (M : Mem) (x1 : Int32) (x2 : Int32) (x3 : Int32) (x4 : Int32) (x5 : Int32) (H : Heap) (locs : List Loc) (ls : Array Slot), Wd G s M H locs → lv_has ls 8 [(0, .ref (ga G 57)), (1, .int x1), (2, .int x2), (3, .int x3), (4, .int x4), (5, .int x5)] → k33 M x1 x2 x3 x4 x5 → W p l e (rmk 5) s m args below meth c H locs 0 0 (MQ below (va_Qi post (Qw G) (Af G s.heap.size)) args s 0 0 (Af G s.heap.size)) (F0 m 33 ls [])) (M : Mem) (x1 : Int32) (x2 : Int32) (x3 : Int32) (x4 : Int32) (x5 : Int32) {H : Heap} {locs : List Loc} {ls : Array Slot} (w : Wd G s M H locs) (hl : lv_has ls 8 [(0, .ref (ga G 57)), (1, .int x1), (2, .int x2), (3, .int x3), (4, .int x4), (5, .int x5)]) (h : j_X6_stock_149 k33 post M x1 x2 x3 x4 x5) : W p l e (rmk 5) s m args below meth c H locs 0 0 (MQ below (va_Qi post (Qw G) (Af G s.heap.size)) args s 0 0 (Af G s.heap.size)) (F0 m 149 ls []) := by
  have hx := C.1.1
  have hb := C.1.2.1
  unfold j_X6_stock_149 at h
  refine lv_iinc (v := (x5 + (1 : Int32))) (lv' := [(5, .int (x5 + (1 : Int32))), (0, .ref (ga G 57)), (1, .int x1), (2, .int x2), (3, .int x3), (4, .int x4)]) hx hb dX6_stock_149 hl (k := 5) rfl rfl (by decide) rfl (fun ls hl => ?_)
  refine lv_goto (tgt := 33) hx hb dX6_stock_152 (by decide) ?_
  exact hk33 M x1 x2 x3 x4 (x5 + (1 : Int32)) _ _ _  w (lv_sub hl [1, 2, 3, 4, 5, 0] rfl) h
set_option maxHeartbeats 4000000 in
set_option maxRecDepth 100000 in
theorem t_X6_stock_142 (C : Cx G p s m args meth c RX6 cX6_stock 8 (some .int)) {post : Int32 → Mem → Prop} {k33 : Mem → Int32 → Int32 → Int32 → Int32 → Int32 → Prop} (hk33 : ∀ (M : Mem) (x1 : Int32) (x2 : Int32) (x3 : Int32) (x4 : Int32) (x5 : Int32) (H : Heap) (locs : List Loc) (ls : Array Slot), Wd G s M H locs → lv_has ls 8 [(0, .ref (ga G 57)), (1, .int x1), (2, .int x2), (3, .int x3), (4, .int x4), (5, .int x5)] → k33 M x1 x2 x3 x4 x5 → W p l e (rmk 5) s m args below meth c H locs 0 0 (MQ below (va_Qi post (Qw G) (Af G s.heap.size)) args s 0 0 (Af G s.heap.size)) (F0 m 33 ls [])) (M : Mem) (x1 : Int32) (x2 : Int32) (x5 : Int32) (x7 : Int32) {H : Heap} {locs : List Loc} {ls : Array Slot} (w : Wd G s M H locs) (hl : lv_has ls 8 [(0, .ref (ga G 57)), (1, .int x1), (2, .int x2), (5, .int x5), (7, .int x7)]) (h : j_X6_stock_142 k33 post M x1 x2 x5 x7) : W p l e (rmk 5) s m args below meth c H locs 0 0 (MQ below (va_Qi post (Qw G) (Af G s.heap.size)) args s 0 0 (Af G s.heap.size)) (F0 m 142 ls []) := by
  have hx := C.1.1
  have hb := C.1.2.1
  unfold j_X6_stock_142 at h
  refine lv_iload hx hb dX6_stock_142 (lv_at hl 3 rfl) ?_
  refine lv_istore_n (lv' := [(3, .int x5), (0, .ref (ga G 57)), (1, .int x1), (2, .int x2), (5, .int x5), (7, .int x7)]) hx hb dX6_stock_144 rfl hl (by decide) rfl (fun ls hl => ?_)
  refine lv_iload hx hb dX6_stock_145 (lv_at hl 5 rfl) ?_
  refine lv_istore (lv' := [(4, .int x7), (3, .int x5), (0, .ref (ga G 57)), (1, .int x1), (2, .int x2), (5, .int x5), (7, .int x7)]) hx hb dX6_stock_147 hl (by decide) rfl (fun ls hl => ?_)
  exact t_X6_stock_149 C hk33 M x1 x2 x5 x7 x5  w (lv_sub hl [2, 3, 4, 1, 0, 5] rfl) h
set_option maxHeartbeats 4000000 in
set_option maxRecDepth 100000 in
theorem t_X6_stock_89 (C : Cx G p s m args meth c RX6 cX6_stock 8 (some .int)) {post : Int32 → Mem → Prop} {k33 : Mem → Int32 → Int32 → Int32 → Int32 → Int32 → Prop} {k48 : Mem → Int32 → Int32 → Int32 → Int32 → Int32 → Int32 → Int32 → Prop} (hk33 : ∀ (M : Mem) (x1 : Int32) (x2 : Int32) (x3 : Int32) (x4 : Int32) (x5 : Int32) (H : Heap) (locs : List Loc) (ls : Array Slot), Wd G s M H locs → lv_has ls 8 [(0, .ref (ga G 57)), (1, .int x1), (2, .int x2), (3, .int x3), (4, .int x4), (5, .int x5)] → k33 M x1 x2 x3 x4 x5 → W p l e (rmk 5) s m args below meth c H locs 0 0 (MQ below (va_Qi post (Qw G) (Af G s.heap.size)) args s 0 0 (Af G s.heap.size)) (F0 m 33 ls [])) (hk48 : ∀ (M : Mem) (x1 : Int32) (x2 : Int32) (x3 : Int32) (x4 : Int32) (x5 : Int32) (x6 : Int32) (x7 : Int32) (H : Heap) (locs : List Loc) (ls : Array Slot), Wd G s M H locs → lv_has ls 8 [(0, .ref (ga G 57)), (1, .int x1), (2, .int x2), (3, .int x3), (4, .int x4), (5, .int x5), (6, .int x6), (7, .int x7)] → k48 M x1 x2 x3 x4 x5 x6 x7 → W p l e (rmk 5) s m args below meth c H locs 0 0 (MQ below (va_Qi post (Qw G) (Af G s.heap.size)) args s 0 0 (Af G s.heap.size)) (F0 m 48 ls [])) (M : Mem) (y0 : Int32) (x1 : Int32) (x2 : Int32) (x3 : Int32) (x4 : Int32) (x5 : Int32) (x7 : Int32) {H : Heap} {locs : List Loc} {ls : Array Slot} (w : Wd G s M H locs) (hl : lv_has ls 8 [(0, .ref (ga G 57)), (1, .int x1), (2, .int x2), (3, .int x3), (4, .int x4), (5, .int x5), (7, .int x7)]) (h : j_X6_stock_89 k33 k48 post M y0 x1 x2 x3 x4 x5 x7) : W p l e (rmk 5) s m args below meth c H locs 0 0 (MQ below (va_Qi post (Qw G) (Af G s.heap.size)) args s 0 0 (Af G s.heap.size)) (F0 m 89 ls [.int y0]) := by
  have hx := C.1.1
  have hb := C.1.2.1
  unfold j_X6_stock_89 at h
  refine lv_istore (lv' := [(6, .int y0), (0, .ref (ga G 57)), (1, .int x1), (2, .int x2), (3, .int x3), (4, .int x4), (5, .int x5), (7, .int x7)]) hx hb dX6_stock_89 hl (by decide) rfl (fun ls hl => ?_)
  refine lv_iinc (v := (x7 + (1 : Int32))) (lv' := [(7, .int (x7 + (1 : Int32))), (6, .int y0), (0, .ref (ga G 57)), (1, .int x1), (2, .int x2), (3, .int x3), (4, .int x4), (5, .int x5)]) hx hb dX6_stock_91 hl (k := 7) rfl rfl (by decide) rfl (fun ls hl => ?_)
  refine lv_goto (tgt := 48) hx hb dX6_stock_94 (by decide) ?_
  exact hk48 M x1 x2 x3 x4 x5 y0 (x7 + (1 : Int32)) _ _ _  w (lv_sub hl [2, 3, 4, 5, 6, 7, 1, 0] rfl) h
set_option maxHeartbeats 4000000 in
set_option maxRecDepth 100000 in
theorem t_X6_stock_88 (C : Cx G p s m args meth c RX6 cX6_stock 8 (some .int)) {post : Int32 → Mem → Prop} {k33 : Mem → Int32 → Int32 → Int32 → Int32 → Int32 → Prop} {k48 : Mem → Int32 → Int32 → Int32 → Int32 → Int32 → Int32 → Int32 → Prop} (hk33 : ∀ (M : Mem) (x1 : Int32) (x2 : Int32) (x3 : Int32) (x4 : Int32) (x5 : Int32) (H : Heap) (locs : List Loc) (ls : Array Slot), Wd G s M H locs → lv_has ls 8 [(0, .ref (ga G 57)), (1, .int x1), (2, .int x2), (3, .int x3), (4, .int x4), (5, .int x5)] → k33 M x1 x2 x3 x4 x5 → W p l e (rmk 5) s m args below meth c H locs 0 0 (MQ below (va_Qi post (Qw G) (Af G s.heap.size)) args s 0 0 (Af G s.heap.size)) (F0 m 33 ls [])) (hk48 : ∀ (M : Mem) (x1 : Int32) (x2 : Int32) (x3 : Int32) (x4 : Int32) (x5 : Int32) (x6 : Int32) (x7 : Int32) (H : Heap) (locs : List Loc) (ls : Array Slot), Wd G s M H locs → lv_has ls 8 [(0, .ref (ga G 57)), (1, .int x1), (2, .int x2), (3, .int x3), (4, .int x4), (5, .int x5), (6, .int x6), (7, .int x7)] → k48 M x1 x2 x3 x4 x5 x6 x7 → W p l e (rmk 5) s m args below meth c H locs 0 0 (MQ below (va_Qi post (Qw G) (Af G s.heap.size)) args s 0 0 (Af G s.heap.size)) (F0 m 48 ls [])) (M : Mem) (x1 : Int32) (x2 : Int32) (x3 : Int32) (x4 : Int32) (x5 : Int32) (x7 : Int32) {H : Heap} {locs : List Loc} {ls : Array Slot} (w : Wd G s M H locs) (hl : lv_has ls 8 [(0, .ref (ga G 57)), (1, .int x1), (2, .int x2), (3, .int x3), (4, .int x4), (5, .int x5), (7, .int x7)]) (h : j_X6_stock_88 k33 k48 post M x1 x2 x3 x4 x5 x7) : W p l e (rmk 5) s m args below meth c H locs 0 0 (MQ below (va_Qi post (Qw G) (Af G s.heap.size)) args s 0 0 (Af G s.heap.size)) (F0 m 88 ls []) := by
  have hx := C.1.1
  have hb := C.1.2.1
  unfold j_X6_stock_88 at h
  refine lv_iconst (v := 0) hx hb dX6_stock_88 (by decide) ?_
  exact t_X6_stock_89 C hk33 hk48 M (0 : Int32) x1 x2 x3 x4 x5 x7  w (lv_sub hl [0, 1, 2, 3, 4, 5, 6] rfl) h
set_option maxHeartbeats 4000000 in
set_option maxRecDepth 100000 in
theorem t_X6_stock_84 (C : Cx G p s m args meth c RX6 cX6_stock 8 (some .int)) {post : Int32 → Mem → Prop} {k33 : Mem → Int32 → Int32 → Int32 → Int32 → Int32 → Prop} {k48 : Mem → Int32 → Int32 → Int32 → Int32 → Int32 → Int32 → Int32 → Prop} (hk33 : ∀ (M : Mem) (x1 : Int32) (x2 : Int32) (x3 : Int32) (x4 : Int32) (x5 : Int32) (H : Heap) (locs : List Loc) (ls : Array Slot), Wd G s M H locs → lv_has ls 8 [(0, .ref (ga G 57)), (1, .int x1), (2, .int x2), (3, .int x3), (4, .int x4), (5, .int x5)] → k33 M x1 x2 x3 x4 x5 → W p l e (rmk 5) s m args below meth c H locs 0 0 (MQ below (va_Qi post (Qw G) (Af G s.heap.size)) args s 0 0 (Af G s.heap.size)) (F0 m 33 ls [])) (hk48 : ∀ (M : Mem) (x1 : Int32) (x2 : Int32) (x3 : Int32) (x4 : Int32) (x5 : Int32) (x6 : Int32) (x7 : Int32) (H : Heap) (locs : List Loc) (ls : Array Slot), Wd G s M H locs → lv_has ls 8 [(0, .ref (ga G 57)), (1, .int x1), (2, .int x2), (3, .int x3), (4, .int x4), (5, .int x5), (6, .int x6), (7, .int x7)] → k48 M x1 x2 x3 x4 x5 x6 x7 → W p l e (rmk 5) s m args below meth c H locs 0 0 (MQ below (va_Qi post (Qw G) (Af G s.heap.size)) args s 0 0 (Af G s.heap.size)) (F0 m 48 ls [])) (M : Mem) (x1 : Int32) (x2 : Int32) (x3 : Int32) (x4 : Int32) (x5 : Int32) (x7 : Int32) {H : Heap} {locs : List Loc} {ls : Array Slot} (w : Wd G s M H locs) (hl : lv_has ls 8 [(0, .ref (ga G 57)), (1, .int x1), (2, .int x2), (3, .int x3), (4, .int x4), (5, .int x5), (7, .int x7)]) (h : j_X6_stock_84 k33 k48 post M x1 x2 x3 x4 x5 x7) : W p l e (rmk 5) s m args below meth c H locs 0 0 (MQ below (va_Qi post (Qw G) (Af G s.heap.size)) args s 0 0 (Af G s.heap.size)) (F0 m 84 ls []) := by
  have hx := C.1.1
  have hb := C.1.2.1
  unfold j_X6_stock_84 at h
  refine lv_iconst (v := 1) hx hb dX6_stock_84 (by decide) ?_
  refine lv_goto (tgt := 89) hx hb dX6_stock_85 (by decide) ?_
  exact t_X6_stock_89 C hk33 hk48 M (1 : Int32) x1 x2 x3 x4 x5 x7  w (lv_sub hl [0, 1, 2, 3, 4, 5, 6] rfl) h
set_option maxHeartbeats 4000000 in
set_option maxRecDepth 100000 in
theorem t_X6_stock_48 (C : Cx G p s m args meth c RX6 cX6_stock 8 (some .int)) {post : Int32 → Mem → Prop} {k33 : Mem → Int32 → Int32 → Int32 → Int32 → Int32 → Prop} (hk33 : ∀ (M : Mem) (x1 : Int32) (x2 : Int32) (x3 : Int32) (x4 : Int32) (x5 : Int32) (H : Heap) (locs : List Loc) (ls : Array Slot), Wd G s M H locs → lv_has ls 8 [(0, .ref (ga G 57)), (1, .int x1), (2, .int x2), (3, .int x3), (4, .int x4), (5, .int x5)] → k33 M x1 x2 x3 x4 x5 → W p l e (rmk 5) s m args below meth c H locs 0 0 (MQ below (va_Qi post (Qw G) (Af G s.heap.size)) args s 0 0 (Af G s.heap.size)) (F0 m 33 ls [])) : ∀ (n : Nat) (M : Mem) (x1 : Int32) (x2 : Int32) (x3 : Int32) (x4 : Int32) (x5 : Int32) (x6 : Int32) (x7 : Int32) {H : Heap} {locs : List Loc} {ls : Array Slot} (w : Wd G s M H locs) (hl : lv_has ls 8 [(0, .ref (ga G 57)), (1, .int x1), (2, .int x2), (3, .int x3), (4, .int x4), (5, .int x5), (6, .int x6), (7, .int x7)]) (h : lp_X6_stock_48 k33 post n M x1 x2 x3 x4 x5 x6 x7), W p l e (rmk 5) s m args below meth c H locs 0 0 (MQ below (va_Qi post (Qw G) (Af G s.heap.size)) args s 0 0 (Af G s.heap.size)) (F0 m 48 ls []) := by
  have hx := C.1.1
  have hb := C.1.2.1
  intro n9
  induction n9 with
  | zero => intro M x1 x2 x3 x4 x5 x6 x7 H locs ls w hl h; exact absurd h id
  | succ n9 ih9 =>
    intro M x1 x2 x3 x4 x5 x6 x7 H locs ls w hl h
    have hk48 : ∀ (M : Mem) (x1 : Int32) (x2 : Int32) (x3 : Int32) (x4 : Int32) (x5 : Int32) (x6 : Int32) (x7 : Int32) (H : Heap) (locs : List Loc) (ls : Array Slot), Wd G s M H locs → lv_has ls 8 [(0, .ref (ga G 57)), (1, .int x1), (2, .int x2), (3, .int x3), (4, .int x4), (5, .int x5), (6, .int x6), (7, .int x7)] → lp_X6_stock_48 k33 post n9 M x1 x2 x3 x4 x5 x6 x7 → W p l e (rmk 5) s m args below meth c H locs 0 0 (MQ below (va_Qi post (Qw G) (Af G s.heap.size)) args s 0 0 (Af G s.heap.size)) (F0 m 48 ls []) := fun M x1 x2 x3 x4 x5 x6 x7 H locs ls w hl h => ih9 M x1 x2 x3 x4 x5 x6 x7 w hl h
    replace h : b_X6_stock_48 k33 (lp_X6_stock_48 k33 post n9) post M x1 x2 x3 x4 x5 x6 x7 := h
    unfold b_X6_stock_48 at h
    refine lv_iload hx hb dX6_stock_48 (lv_at hl 7 rfl) ?_
    refine lv_aload_n hx hb dX6_stock_50 rfl (lv_at hl 0 rfl) ?_
    refine gt_6_0 C w kw_5_0 dX6_stock_51 ?_
    refine lv_iconst (v := 0) hx hb dX6_stock_54 (by decide) ?_
    refine pw_ld C w (i := 58) (by decide) pE_58 (vl (x := (0 : Int32)) (by decide)) (k := 0) (by decide) dX6_stock_55 ?_
    refine lv_icmp_ge (tgt := 97) hx hb dX6_stock_56 (by decide) (fun c1 => ?_) (fun c1 => ?_)
    · replace h := h.1 c1
      refine lv_iload hx hb dX6_stock_97 (lv_at hl 6 rfl) ?_
      refine lv_if_ne (tgt := 105) hx hb dX6_stock_99 (by decide) (fun c2 => ?_) (fun c2 => ?_)
      · replace h := h.2 c2
        refine lv_aload_n hx hb dX6_stock_105 rfl (lv_at hl 0 rfl) ?_
        refine lv_iload hx hb dX6_stock_106 (lv_at hl 5 rfl) ?_
        refine end_v w (run_V (As := [.int x5]) C w hl.1 (c_X6_sumsUp l G C.2.2.1 _ _ x5  _ h) kw_17_19 kw_1_5 kw_17_16 kw_17_17 kw_17_18 hd_X6_sumsUp ⟨by decide, by decide⟩ (w.recv C (i := 57) (by decide) (pE_6) rfl) rfl (Nat.le_of_ble_eq_true rfl) dX6_stock_108) (fun M4 H locs h w => ?_)
        refine lv_aload_n hx hb dX6_stock_111 rfl (lv_at hl 0 rfl) ?_
        refine gt_6_18 C w kw_17_5 dX6_stock_112 ?_
        refine lv_iload_n hx hb dX6_stock_115 rfl (lv_at hl 1 rfl) ?_
        refine lv_icmp_le (tgt := 122) hx hb dX6_stock_116 (by decide) (fun c5 => ?_) (fun c5 => ?_)
        · replace h := h.1 c5
          refine lv_aload_n hx hb dX6_stock_122 rfl (lv_at hl 0 rfl) ?_
          refine end_i w (run_V (As := []) C w hl.1 (c_X6_greatestOf l G C.2.2.1 _ _   _ h) kw_23_4 kw_1_5 kw_23_1 kw_23_2 kw_23_3 hd_X6_greatestOf ⟨by decide, by decide⟩ (w.recv C (i := 57) (by decide) (pE_6) rfl) rfl (Nat.le_of_ble_eq_true rfl) dX6_stock_123) (fun r6 M7 H locs h w => ?_)
          refine lv_istore (lv' := [(7, .int r6), (0, .ref (ga G 57)), (1, .int x1), (2, .int x2), (3, .int x3), (4, .int x4), (5, .int x5), (6, .int x6)]) hx hb dX6_stock_126 hl (by decide) rfl (fun ls hl => ?_)
          refine lv_iload_n hx hb dX6_stock_128 rfl (lv_at hl 4 rfl) ?_
          refine lv_if_lt (tgt := 142) hx hb dX6_stock_129 (by decide) (fun c8 => ?_) (fun c8 => ?_)
          · replace h := h.1 c8
            exact t_X6_stock_142 C hk33 M7 x1 x2 x5 r6  w (lv_sub hl [1, 2, 3, 6, 0] rfl) h
          replace h := h.2 c8
          refine lv_iload hx hb dX6_stock_132 (lv_at hl 0 rfl) ?_
          refine lv_iload hx hb dX6_stock_134 (lv_at hl 5 rfl) ?_
          refine lv_icmp_lt (tgt := 142) hx hb dX6_stock_136 (by decide) (fun c9 => ?_) (fun c9 => ?_)
          · replace h := h.1 c9
            exact t_X6_stock_142 C hk33 M7 x1 x2 x5 r6  w (lv_sub hl [1, 2, 3, 6, 0] rfl) h
          replace h := h.2 c9
          refine lv_goto (tgt := 149) hx hb dX6_stock_139 (by decide) ?_
          exact t_X6_stock_149 C hk33 M7 x1 x2 x3 x4 x5  w (lv_sub hl [1, 2, 3, 4, 5, 6] rfl) h
        replace h := h.2 c5
        refine lv_goto (tgt := 149) hx hb dX6_stock_119 (by decide) ?_
        exact t_X6_stock_149 C hk33 M4 x1 x2 x3 x4 x5  w (lv_sub hl [0, 1, 2, 3, 4, 5] rfl) h
      replace h := h.1 c2
      refine lv_goto (tgt := 149) hx hb dX6_stock_102 (by decide) ?_
      exact t_X6_stock_149 C hk33 M x1 x2 x3 x4 x5  w (lv_sub hl [0, 1, 2, 3, 4, 5] rfl) h
    replace h := h.2 c1
    refine lv_iload hx hb dX6_stock_59 (lv_at hl 6 rfl) ?_
    refine lv_if_eq (tgt := 88) hx hb dX6_stock_61 (by decide) (fun c10 => ?_) (fun c10 => ?_)
    · replace h := h.1 c10
      exact t_X6_stock_88 C hk33 hk48 M x1 x2 x3 x4 x5 x7  w (lv_sub hl [0, 1, 2, 3, 4, 5, 7] rfl) h
    replace h := h.2 c10
    refine lv_iload hx hb dX6_stock_64 (lv_at hl 5 rfl) ?_
    refine lv_iload hx hb dX6_stock_66 (lv_at hl 7 rfl) ?_
    refine lv_ishr hx hb dX6_stock_68 ?_
    refine lv_iconst (v := 1) hx hb dX6_stock_69 (by decide) ?_
    refine lv_iand hx hb dX6_stock_70 ?_
    refine lv_if_eq (tgt := 84) hx hb dX6_stock_71 (by decide) (fun c11 => ?_) (fun c11 => ?_)
    · replace h := h.1 c11
      exact t_X6_stock_84 C hk33 hk48 M x1 x2 x3 x4 x5 x7  w (lv_sub hl [0, 1, 2, 3, 4, 5, 7] rfl) h
    replace h := h.2 c11
    refine lv_aload_n hx hb dX6_stock_74 rfl (lv_at hl 0 rfl) ?_
    refine lv_iload hx hb dX6_stock_75 (lv_at hl 7 rfl) ?_
    refine lv_iconst (v := 4) hx hb dX6_stock_77 (by decide) ?_
    refine end_i w (run_V (As := [.int x7, .int (4 : Int32)]) C w hl.1 (c_X6_get l G C.2.2.1 _ _ x7 (4 : Int32)  _ h) kw_14_10 kw_1_5 kw_14_7 kw_14_8 kw_14_9 hd_X6_get ⟨by decide, by decide⟩ (w.recv C (i := 57) (by decide) (pE_6) rfl) rfl (Nat.le_of_ble_eq_true rfl) dX6_stock_78) (fun r12 M13 H locs h w => ?_)
    refine lv_if_ne (tgt := 88) hx hb dX6_stock_81 (by decide) (fun c14 => ?_) (fun c14 => ?_)
    · replace h := h.2 c14
      exact t_X6_stock_88 C hk33 hk48 M13 x1 x2 x3 x4 x5 x7  w (lv_sub hl [0, 1, 2, 3, 4, 5, 7] rfl) h
    replace h := h.1 c14
    exact t_X6_stock_84 C hk33 hk48 M13 x1 x2 x3 x4 x5 x7  w (lv_sub hl [0, 1, 2, 3, 4, 5, 7] rfl) h
set_option maxHeartbeats 4000000 in
set_option maxRecDepth 100000 in
theorem t_X6_stock_33 (C : Cx G p s m args meth c RX6 cX6_stock 8 (some .int)) {post : Int32 → Mem → Prop} : ∀ (n : Nat) (M : Mem) (x1 : Int32) (x2 : Int32) (x3 : Int32) (x4 : Int32) (x5 : Int32) {H : Heap} {locs : List Loc} {ls : Array Slot} (w : Wd G s M H locs) (hl : lv_has ls 8 [(0, .ref (ga G 57)), (1, .int x1), (2, .int x2), (3, .int x3), (4, .int x4), (5, .int x5)]) (h : lp_X6_stock_33 post n M x1 x2 x3 x4 x5), W p l e (rmk 5) s m args below meth c H locs 0 0 (MQ below (va_Qi post (Qw G) (Af G s.heap.size)) args s 0 0 (Af G s.heap.size)) (F0 m 33 ls []) := by
  have hx := C.1.1
  have hb := C.1.2.1
  intro n9
  induction n9 with
  | zero => intro M x1 x2 x3 x4 x5 H locs ls w hl h; exact absurd h id
  | succ n9 ih9 =>
    intro M x1 x2 x3 x4 x5 H locs ls w hl h
    have hk33 : ∀ (M : Mem) (x1 : Int32) (x2 : Int32) (x3 : Int32) (x4 : Int32) (x5 : Int32) (H : Heap) (locs : List Loc) (ls : Array Slot), Wd G s M H locs → lv_has ls 8 [(0, .ref (ga G 57)), (1, .int x1), (2, .int x2), (3, .int x3), (4, .int x4), (5, .int x5)] → lp_X6_stock_33 post n9 M x1 x2 x3 x4 x5 → W p l e (rmk 5) s m args below meth c H locs 0 0 (MQ below (va_Qi post (Qw G) (Af G s.heap.size)) args s 0 0 (Af G s.heap.size)) (F0 m 33 ls []) := fun M x1 x2 x3 x4 x5 H locs ls w hl h => ih9 M x1 x2 x3 x4 x5 w hl h
    replace h : b_X6_stock_33 (lp_X6_stock_33 post n9) post M x1 x2 x3 x4 x5 := h
    unfold b_X6_stock_33 at h
    refine lv_iload hx hb dX6_stock_33 (lv_at hl 5 rfl) ?_
    refine lv_aload_n hx hb dX6_stock_35 rfl (lv_at hl 0 rfl) ?_
    refine end_i w (run_V (As := []) C w hl.1 (c_X6_allPieces l G C.2.2.1 _ _   _ h) kw_17_15 kw_1_5 kw_17_12 kw_17_13 kw_17_14 hd_X6_allPieces ⟨by decide, by decide⟩ (w.recv C (i := 57) (by decide) (pE_6) rfl) rfl (Nat.le_of_ble_eq_true rfl) dX6_stock_36) (fun r15 M16 H locs h w => ?_)
    refine lv_icmp_gt (tgt := 155) hx hb dX6_stock_39 (by decide) (fun c17 => ?_) (fun c17 => ?_)
    · replace h := h.1 c17
      refine lv_iload_n hx hb dX6_stock_155 rfl (lv_at hl 3 rfl) ?_
      refine lv_if_ge (tgt := 164) hx hb dX6_stock_156 (by decide) (fun c18 => ?_) (fun c18 => ?_)
      · replace h := h.1 c18
        refine lv_iload_n hx hb dX6_stock_164 rfl (lv_at hl 2 rfl) ?_
        refine lv_if_ne (tgt := 172) hx hb dX6_stock_165 (by decide) (fun c19 => ?_) (fun c19 => ?_)
        · replace h := h.2 c19
          refine lv_iload hx hb dX6_stock_172 (lv_at hl 4 rfl) ?_
          exact t_X6_stock_174 C M16 x4  w (lv_sub hl [] rfl) h
        replace h := h.1 c19
        refine lv_iload_n hx hb dX6_stock_168 rfl (lv_at hl 3 rfl) ?_
        refine lv_goto (tgt := 174) hx hb dX6_stock_169 (by decide) ?_
        exact t_X6_stock_174 C M16 x3  w (lv_sub hl [] rfl) h
      replace h := h.2 c18
      refine lv_bipush (v := -4) hx hb dX6_stock_159 (by decide) ?_
      refine lv_goto (tgt := 174) hx hb dX6_stock_161 (by decide) ?_
      exact t_X6_stock_174 C M16 (-4 : Int32)  w (lv_sub hl [] rfl) h
    replace h := h.2 c17
    refine lv_iconst (v := 1) hx hb dX6_stock_42 (by decide) ?_
    refine lv_istore (lv' := [(6, .int (1 : Int32)), (0, .ref (ga G 57)), (1, .int x1), (2, .int x2), (3, .int x3), (4, .int x4), (5, .int x5)]) hx hb dX6_stock_43 hl (by decide) rfl (fun ls hl => ?_)
    refine lv_iconst (v := 0) hx hb dX6_stock_45 (by decide) ?_
    refine lv_istore (lv' := [(7, .int (0 : Int32)), (6, .int (1 : Int32)), (0, .ref (ga G 57)), (1, .int x1), (2, .int x2), (3, .int x3), (4, .int x4), (5, .int x5)]) hx hb dX6_stock_46 hl (by decide) rfl (fun ls hl => ?_)
    obtain ⟨n, h⟩ := h
    exact t_X6_stock_48 C hk33 n M16 x1 x2 x3 x4 x5 (1 : Int32) (0 : Int32)  w (lv_sub hl [2, 3, 4, 5, 6, 7, 1, 0] rfl) h
set_option maxHeartbeats 4000000 in
set_option maxRecDepth 100000 in
theorem t_X6_stock_22 (C : Cx G p s m args meth c RX6 cX6_stock 8 (some .int)) {post : Int32 → Mem → Prop} (M : Mem) {H : Heap} {locs : List Loc} {ls : Array Slot} (w : Wd G s M H locs) (hl : lv_has ls 8 []) (h : j_X6_stock_22 post M) : W p l e (rmk 5) s m args below meth c H locs 0 0 (MQ below (va_Qi post (Qw G) (Af G s.heap.size)) args s 0 0 (Af G s.heap.size)) (F0 m 22 ls []) := by
  have hx := C.1.1
  have hb := C.1.2.1
  unfold j_X6_stock_22 at h
  refine lv_iconst (v := -1) hx hb dX6_stock_22 (by decide) ?_
  exact ret_i C w h dX6_stock_23
set_option maxHeartbeats 4000000 in
set_option maxRecDepth 100000 in
theorem c_X6_stock (l : Launch) (G : GG) (hG : Ag G) (sz : Nat) (M : Mem) (x1 : Int32) (x2 : Int32) (post : Int32 → Mem → Prop) (h : q_X6_stock M x1 x2 post) : Met l yX6_stock (Cond.code yX6_stock cX6_stock 8 (some .int) :: wsL_law) (rmk 5) (va_Pc [.ref (ga G 57), .int x1, .int x2] (Pw G sz M)) (va_Qi post (Qw G) (Af G sz)) 0 0 (Af G sz) := by
  refine Met.ofW (cc := cX6_stock) (maxL := 8) (ret := (some .int)) (by decide) rfl ?_
  intro p e s m args below meth c s₁ B hml hv
  obtain ⟨rfl, hsz, hE, hP⟩ := hv
  subst hsz
  have C := Cx.of (own := RX6) hG hE rfl hml B
  have w : Wd G s M s.heap [] := ⟨hP, va_S.rf⟩
  have hl := lv_entry [.ref (ga G 57), .int x1, .int x2] (n := 8) (Nat.le_of_ble_eq_true rfl)
  rw [lg_entry_eq]
  generalize (lg_sl [.ref (ga G 57), .int x1, .int x2] ++ List.replicate (8 - (lg_sl [.ref (ga G 57), .int x1, .int x2]).length) Slot.unset).toArray = ls at hl ⊢
  have hl : lv_has ls 8 [(0, .ref (ga G 57)), (1, .int x1), (2, .int x2)] := hl
  have hx := C.1.1
  have hb := C.1.2.1
  show W p l e (rmk 5) s m _ below meth c s.heap [] 0 0 _ _
  unfold q_X6_stock at h
  refine lv_iload_n hx hb dX6_stock_0 rfl (lv_at hl 1 rfl) ?_
  refine lv_i2l hx hb dX6_stock_1 rfl ?_
  refine lv_lconst (v := 1) hx hb dX6_stock_2 (by decide) ?_
  refine lv_ldc2 hx hb C.1.2.2.2.1 (C.ws kw_25_4) dX6_stock_3 ?_
  refine end_i w (run_S (As := [.long x1.toInt64, .long (1 : Int64), .long (999 : Int64)]) C w hl.1 (c_X6_isIn l G C.2.2.1 _ _ x1.toInt64 (1 : Int64) (999 : Int64)  _ h) kw_12_5 kw_1_5 kw_12_3 kw_12_4 hd_X6_isIn ⟨by decide, by decide⟩ rfl (Nat.le_of_ble_eq_true rfl) dX6_stock_6) (fun r20 M21 H locs h w => ?_)
  refine lv_if_eq (tgt := 22) hx hb dX6_stock_9 (by decide) (fun c22 => ?_) (fun c22 => ?_)
  · replace h := h.1 c22
    exact t_X6_stock_22 C M21   w (lv_sub hl [] rfl) h
  replace h := h.2 c22
  refine lv_iload_n hx hb dX6_stock_12 rfl (lv_at hl 2 rfl) ?_
  refine lv_i2l hx hb dX6_stock_13 rfl ?_
  refine lv_lconst (v := 0) hx hb dX6_stock_14 (by decide) ?_
  refine lv_lconst (v := 1) hx hb dX6_stock_15 (by decide) ?_
  refine end_i w (run_S (As := [.long x2.toInt64, .long (0 : Int64), .long (1 : Int64)]) C w hl.1 (c_X6_isIn l G C.2.2.1 _ _ x2.toInt64 (0 : Int64) (1 : Int64)  _ h) kw_12_5 kw_1_5 kw_12_3 kw_12_4 hd_X6_isIn ⟨by decide, by decide⟩ rfl (Nat.le_of_ble_eq_true rfl) dX6_stock_16) (fun r23 M24 H locs h w => ?_)
  refine lv_if_ne (tgt := 24) hx hb dX6_stock_19 (by decide) (fun c25 => ?_) (fun c25 => ?_)
  · replace h := h.2 c25
    refine lv_bipush (v := -4) hx hb dX6_stock_24 (by decide) ?_
    refine lv_istore_n (lv' := [(3, .int (-4 : Int32)), (0, .ref (ga G 57)), (1, .int x1), (2, .int x2)]) hx hb dX6_stock_26 rfl hl (by decide) rfl (fun ls hl => ?_)
    refine lv_iconst (v := 0) hx hb dX6_stock_27 (by decide) ?_
    refine lv_istore (lv' := [(4, .int (0 : Int32)), (3, .int (-4 : Int32)), (0, .ref (ga G 57)), (1, .int x1), (2, .int x2)]) hx hb dX6_stock_28 hl (by decide) rfl (fun ls hl => ?_)
    refine lv_iconst (v := 1) hx hb dX6_stock_30 (by decide) ?_
    refine lv_istore (lv' := [(5, .int (1 : Int32)), (4, .int (0 : Int32)), (3, .int (-4 : Int32)), (0, .ref (ga G 57)), (1, .int x1), (2, .int x2)]) hx hb dX6_stock_31 hl (by decide) rfl (fun ls hl => ?_)
    obtain ⟨n, h⟩ := h
    exact t_X6_stock_33 C n M24 x1 x2 (-4 : Int32) (0 : Int32) (1 : Int32)  w (lv_sub hl [3, 4, 5, 2, 1, 0] rfl) h
  replace h := h.1 c25
  exact t_X6_stock_22 C M24   w (lv_sub hl [] rfl) h
def j_X5_bridge_20 (post : Int32 → Mem → Prop) (M : Mem) : Prop := post (-1000000001 : Int32) M
def q_X5_bridge (M : Mem) (x1 : Int32) (x2 : Int32) (post : Int32 → Mem → Prop) : Prop := q_X5_isWithin M x1 (0 : Int32) (7 : Int32) (fun r1 M2 => (r1 = 0 → (j_X5_bridge_20 post M2)) ∧ (¬ (r1 = 0) → (q_X5_isWithin M2 x2 (1 : Int32) (99 : Int32) (fun r4 M5 => (r4 = 0 → (j_X5_bridge_20 post M5)) ∧ (¬ (r4 = 0) → (q_X5_layLine M5  (fun r7 M8 => (r7 = 0 → (post (-1000000003 : Int32) M8)) ∧ (¬ (r7 = 0) → (q_X0_greatestPull M8  (fun r10 M11 => q_X1_begin M11 56 x1 (0 : Int32) x2 (6 : Int32) (fun M13 => q_X0_add M13 56 x2 (fun M15 => q_X0_greatestPull M15  (fun r16 M17 => post (r10 - r16) M17)))))))))))))
set_option maxHeartbeats 4000000 in
set_option maxRecDepth 100000 in
theorem t_X5_bridge_20 (C : Cx G p s m args meth c RX5 cX5_bridge 4 (some .int)) {post : Int32 → Mem → Prop} (M : Mem) {H : Heap} {locs : List Loc} {ls : Array Slot} (w : Wd G s M H locs) (hl : lv_has ls 4 []) (h : j_X5_bridge_20 post M) : W p l e (rmk 6) s m args below meth c H locs 0 0 (MQ below (va_Qi post (Qw G) (Af G s.heap.size)) args s 0 0 (Af G s.heap.size)) (F0 m 20 ls []) := by
  have hx := C.1.1
  have hb := C.1.2.1
  unfold j_X5_bridge_20 at h
  refine lv_ldc hx hb C.1.2.2.2.1 (C.ws kw_25_9) dX5_bridge_20 ?_
  exact ret_i C w h dX5_bridge_22
set_option maxHeartbeats 4000000 in
set_option maxRecDepth 100000 in
theorem c_X5_bridge (l : Launch) (G : GG) (hG : Ag G) (sz : Nat) (M : Mem) (x1 : Int32) (x2 : Int32) (post : Int32 → Mem → Prop) (h : q_X5_bridge M x1 x2 post) : Met l yX5_bridge (Cond.code yX5_bridge cX5_bridge 4 (some .int) :: wsL_law) (rmk 6) (va_Pc [.ref (ga G 0), .int x1, .int x2] (Pw G sz M)) (va_Qi post (Qw G) (Af G sz)) 0 0 (Af G sz) := by
  refine Met.ofW (cc := cX5_bridge) (maxL := 4) (ret := (some .int)) (by decide) rfl ?_
  intro p e s m args below meth c s₁ B hml hv
  obtain ⟨rfl, hsz, hE, hP⟩ := hv
  subst hsz
  have C := Cx.of (own := RX5) hG hE rfl hml B
  have w : Wd G s M s.heap [] := ⟨hP, va_S.rf⟩
  have hl := lv_entry [.ref (ga G 0), .int x1, .int x2] (n := 4) (Nat.le_of_ble_eq_true rfl)
  rw [lg_entry_eq]
  generalize (lg_sl [.ref (ga G 0), .int x1, .int x2] ++ List.replicate (4 - (lg_sl [.ref (ga G 0), .int x1, .int x2]).length) Slot.unset).toArray = ls at hl ⊢
  have hl : lv_has ls 4 [(0, .ref (ga G 0)), (1, .int x1), (2, .int x2)] := hl
  have hx := C.1.1
  have hb := C.1.2.1
  show W p l e (rmk 6) s m _ below meth c s.heap [] 0 0 _ _
  unfold q_X5_bridge at h
  refine lv_iload_n hx hb dX5_bridge_0 rfl (lv_at hl 1 rfl) ?_
  refine lv_iconst (v := 0) hx hb dX5_bridge_1 (by decide) ?_
  refine lv_bipush (v := 7) hx hb dX5_bridge_2 (by decide) ?_
  refine end_i w (run_S (As := [.int x1, .int (0 : Int32), .int (7 : Int32)]) C w hl.1 (c_X5_isWithin l G C.2.2.1 _ _ x1 (0 : Int32) (7 : Int32)  _ h) kw_6_8 kw_1_2 kw_6_6 kw_6_7 hd_X5_isWithin ⟨by decide, by decide⟩ rfl (Nat.le_of_ble_eq_true rfl) dX5_bridge_4) (fun r1 M2 H locs h w => ?_)
  refine lv_if_eq (tgt := 20) hx hb dX5_bridge_7 (by decide) (fun c3 => ?_) (fun c3 => ?_)
  · replace h := h.1 c3
    exact t_X5_bridge_20 C M2   w (lv_sub hl [] rfl) h
  replace h := h.2 c3
  refine lv_iload_n hx hb dX5_bridge_10 rfl (lv_at hl 2 rfl) ?_
  refine lv_iconst (v := 1) hx hb dX5_bridge_11 (by decide) ?_
  refine lv_bipush (v := 99) hx hb dX5_bridge_12 (by decide) ?_
  refine end_i w (run_S (As := [.int x2, .int (1 : Int32), .int (99 : Int32)]) C w hl.1 (c_X5_isWithin l G C.2.2.1 _ _ x2 (1 : Int32) (99 : Int32)  _ h) kw_6_8 kw_1_2 kw_6_6 kw_6_7 hd_X5_isWithin ⟨by decide, by decide⟩ rfl (Nat.le_of_ble_eq_true rfl) dX5_bridge_14) (fun r4 M5 H locs h w => ?_)
  refine lv_if_ne (tgt := 23) hx hb dX5_bridge_17 (by decide) (fun c6 => ?_) (fun c6 => ?_)
  · replace h := h.2 c6
    refine lv_aload_n hx hb dX5_bridge_23 rfl (lv_at hl 0 rfl) ?_
    refine end_i w (run_V (As := []) C w hl.1 (c_X5_layLine l G C.2.2.1 _ _   _ h) kw_15_21 kw_1_2 kw_15_18 kw_15_19 kw_15_20 hd_X5_layLine ⟨by decide, by decide⟩ (w.recv C (i := 0) (by decide) (pE_5) rfl) rfl (Nat.le_of_ble_eq_true rfl) dX5_bridge_24) (fun r7 M8 H locs h w => ?_)
    refine lv_if_ne (tgt := 33) hx hb dX5_bridge_27 (by decide) (fun c9 => ?_) (fun c9 => ?_)
    · replace h := h.2 c9
      refine lv_aload_n hx hb dX5_bridge_33 rfl (lv_at hl 0 rfl) ?_
      refine gt_5_3 C w kw_1_22 dX5_bridge_34 ?_
      refine end_i w (run_VN (As := []) C w hl.1 (c_X0_greatestPull l G C.2.2.1 _ _   _ h) kw_22_14 kw_1_21 kn_68 kw_22_12 kw_22_13 hd_X0_greatestPull ⟨by decide, by decide⟩ (w.recv C (i := 4) (by decide) (pE_0) rfl) rfl (Nat.le_of_ble_eq_true rfl) dX5_bridge_37) (fun r10 M11 H locs h w => ?_)
      refine lv_istore_n (lv' := [(3, .int r10), (0, .ref (ga G 0)), (1, .int x1), (2, .int x2)]) hx hb dX5_bridge_40 rfl hl (by decide) rfl (fun ls hl => ?_)
      refine lv_aload_n hx hb dX5_bridge_41 rfl (lv_at hl 1 rfl) ?_
      refine gt_5_4 C w kw_2_2 dX5_bridge_42 ?_
      refine lv_iload_n hx hb dX5_bridge_45 rfl (lv_at hl 2 rfl) ?_
      refine lv_iconst (v := 0) hx hb dX5_bridge_46 (by decide) ?_
      refine lv_iload_n hx hb dX5_bridge_47 rfl (lv_at hl 3 rfl) ?_
      refine lv_bipush (v := 6) hx hb dX5_bridge_48 (by decide) ?_
      refine end_v w (run_VN (As := [.int x1, .int (0 : Int32), .int x2, .int (6 : Int32)]) C w hl.1 (c_X1_begin l G C.2.2.1 _ _ 56 x1 (0 : Int32) x2 (6 : Int32) ⟨by decide, by decide⟩ _ h) kw_10_17 kw_2_1 kn_70 kw_10_15 kw_10_16 hd_X1_begin ⟨by decide, by decide⟩ (w.recv C (i := 56) (by decide) (pE_1 ⟨by decide, by decide⟩) rfl) rfl (Nat.le_of_ble_eq_true rfl) dX5_bridge_50) (fun M13 H locs h w => ?_)
      refine lv_aload_n hx hb dX5_bridge_53 rfl (lv_at hl 1 rfl) ?_
      refine gt_5_3 C w kw_1_22 dX5_bridge_54 ?_
      refine lv_aload_n hx hb dX5_bridge_57 rfl (lv_at hl 1 rfl) ?_
      refine gt_5_4 C w kw_2_2 dX5_bridge_58 ?_
      refine lv_iload_n hx hb dX5_bridge_61 rfl (lv_at hl 3 rfl) ?_
      refine end_v w (run_VN (As := [.ref (ga G 56), .int x2]) C w hl.1 (c_X0_add l G C.2.2.1 _ _ 56 x2 ⟨by decide, by decide⟩ _ h) kw_16_6 kw_1_21 kn_57 kw_16_4 kw_16_5 hd_X0_add ⟨by decide, by decide⟩ (w.recv C (i := 4) (by decide) (pE_0) rfl) rfl (Nat.le_of_ble_eq_true rfl) dX5_bridge_62) (fun M15 H locs h w => ?_)
      refine lv_iload_n hx hb dX5_bridge_65 rfl (lv_at hl 0 rfl) ?_
      refine lv_aload_n hx hb dX5_bridge_66 rfl (lv_at hl 1 rfl) ?_
      refine gt_5_3 C w kw_1_22 dX5_bridge_67 ?_
      refine end_i w (run_VN (As := []) C w hl.1 (c_X0_greatestPull l G C.2.2.1 _ _   _ h) kw_22_14 kw_1_21 kn_68 kw_22_12 kw_22_13 hd_X0_greatestPull ⟨by decide, by decide⟩ (w.recv C (i := 4) (by decide) (pE_0) rfl) rfl (Nat.le_of_ble_eq_true rfl) dX5_bridge_70) (fun r16 M17 H locs h w => ?_)
      refine lv_isub hx hb dX5_bridge_73 ?_
      exact ret_i C w h dX5_bridge_74
    replace h := h.1 c9
    refine lv_ldc hx hb C.1.2.2.2.1 (C.ws kw_25_10) dX5_bridge_30 ?_
    exact ret_i C w h dX5_bridge_32
  replace h := h.1 c6
  exact t_X5_bridge_20 C M5   w (lv_sub hl [] rfl) h
def b_X6_bridge_56 (k56 : Mem → Int32 → Int32 → Int32 → Int32 → Int32 → Prop) (post : Int32 → Mem → Prop) (M : Mem) (x1 : Int32) (x2 : Int32) (x3 : Int32) (x4 : Int32) (x5 : Int32) : Prop := ((M 58 0) ≤ x5 → (∀ M2 : Mem, M2 = (mup M 57 18 ((M 57 18) + x2)) → (q_X6_heftBy M2 x1 (0 : Int32) (fun r3 M4 => ∀ M5 : Mem, M5 = (mup M4 57 19 ((M2 57 19) + (x2 * r3))) → (q_X6_giveBy M5 x1 (0 : Int32) (fun r6 M7 => ∀ M8 : Mem, M8 = (mup M7 57 20 (x4 + (x2 * r6))) → (q_X6_rounds M8  (fun M10 => q_X6_greatestOf M10  (fun r11 M12 => post (x3 - r11) M12))))))))) ∧ (¬ ((M 58 0) ≤ x5) → (q_X6_get M x5 (2 : Int32) (fun r13 M14 => q_X6_get M14 x5 (0 : Int32) (fun r15 M16 => q_X6_get M16 x5 (1 : Int32) (fun r17 M18 => q_X6_giveBy M18 r15 r17 (fun r19 M20 => k56 M20 x1 x2 x3 (x4 + (r13 * r19)) (x5 + (1 : Int32))))))))
def lp_X6_bridge_56 (post : Int32 → Mem → Prop) : Nat → Mem → Int32 → Int32 → Int32 → Int32 → Int32 → Prop
  | 0 => fun _ _ _ _ _ _ => False
  | n + 1 => fun M x1 x2 x3 x4 x5 => b_X6_bridge_56 (lp_X6_bridge_56 post n) post M x1 x2 x3 x4 x5
def j_X6_bridge_24 (post : Int32 → Mem → Prop) (M : Mem) : Prop := post (-1000000001 : Int32) M
def q_X6_bridge (M : Mem) (x1 : Int32) (x2 : Int32) (post : Int32 → Mem → Prop) : Prop := q_X6_isIn M x1.toInt64 (0 : Int64) (7 : Int64) (fun r21 M22 => (r21 = 0 → (j_X6_bridge_24 post M22)) ∧ (¬ (r21 = 0) → (q_X6_isIn M22 x2.toInt64 (1 : Int64) (99 : Int64) (fun r24 M25 => (r24 = 0 → (j_X6_bridge_24 post M25)) ∧ (¬ (r24 = 0) → (q_X6_isLine M25  (fun r27 M28 => (r27 = 0 → (post (-1000000003 : Int32) M28)) ∧ (¬ (r27 = 0) → (q_X6_allPieces M28  (fun r30 M31 => q_X6_sumsUp M31 r30 (fun M33 => q_X6_greatestOf M33  (fun r34 M35 => ∃ n, lp_X6_bridge_56 post n M35 x1 x2 r34 (0 : Int32) (0 : Int32)))))))))))))
set_option maxHeartbeats 4000000 in
set_option maxRecDepth 100000 in
theorem t_X6_bridge_56 (C : Cx G p s m args meth c RX6 cX6_bridge 6 (some .int)) {post : Int32 → Mem → Prop} : ∀ (n : Nat) (M : Mem) (x1 : Int32) (x2 : Int32) (x3 : Int32) (x4 : Int32) (x5 : Int32) {H : Heap} {locs : List Loc} {ls : Array Slot} (w : Wd G s M H locs) (hl : lv_has ls 6 [(0, .ref (ga G 57)), (1, .int x1), (2, .int x2), (3, .int x3), (4, .int x4), (5, .int x5)]) (h : lp_X6_bridge_56 post n M x1 x2 x3 x4 x5), W p l e (rmk 5) s m args below meth c H locs 0 0 (MQ below (va_Qi post (Qw G) (Af G s.heap.size)) args s 0 0 (Af G s.heap.size)) (F0 m 56 ls []) := by
  have hx := C.1.1
  have hb := C.1.2.1
  intro n9
  induction n9 with
  | zero => intro M x1 x2 x3 x4 x5 H locs ls w hl h; exact absurd h id
  | succ n9 ih9 =>
    intro M x1 x2 x3 x4 x5 H locs ls w hl h
    have hk56 : ∀ (M : Mem) (x1 : Int32) (x2 : Int32) (x3 : Int32) (x4 : Int32) (x5 : Int32) (H : Heap) (locs : List Loc) (ls : Array Slot), Wd G s M H locs → lv_has ls 6 [(0, .ref (ga G 57)), (1, .int x1), (2, .int x2), (3, .int x3), (4, .int x4), (5, .int x5)] → lp_X6_bridge_56 post n9 M x1 x2 x3 x4 x5 → W p l e (rmk 5) s m args below meth c H locs 0 0 (MQ below (va_Qi post (Qw G) (Af G s.heap.size)) args s 0 0 (Af G s.heap.size)) (F0 m 56 ls []) := fun M x1 x2 x3 x4 x5 H locs ls w hl h => ih9 M x1 x2 x3 x4 x5 w hl h
    replace h : b_X6_bridge_56 (lp_X6_bridge_56 post n9) post M x1 x2 x3 x4 x5 := h
    unfold b_X6_bridge_56 at h
    refine lv_iload hx hb dX6_bridge_56 (lv_at hl 5 rfl) ?_
    refine lv_aload_n hx hb dX6_bridge_58 rfl (lv_at hl 0 rfl) ?_
    refine gt_6_0 C w kw_5_0 dX6_bridge_59 ?_
    refine lv_iconst (v := 0) hx hb dX6_bridge_62 (by decide) ?_
    refine pw_ld C w (i := 58) (by decide) pE_58 (vl (x := (0 : Int32)) (by decide)) (k := 0) (by decide) dX6_bridge_63 ?_
    refine lv_icmp_ge (tgt := 103) hx hb dX6_bridge_64 (by decide) (fun c1 => ?_) (fun c1 => ?_)
    · replace h := h.1 c1
      refine lv_aload_n hx hb dX6_bridge_103 rfl (lv_at hl 0 rfl) ?_
      refine lv_dup hx hb dX6_bridge_104 rfl ?_
      refine gt_6_18 C w kw_17_5 dX6_bridge_105 ?_
      refine lv_iload_n hx hb dX6_bridge_108 rfl (lv_at hl 2 rfl) ?_
      refine lv_iadd hx hb dX6_bridge_109 ?_
      refine pt_6_18 C w kw_17_5 dX6_bridge_110 (fun H locs w => ?_)
      obtain ⟨M2, eM2⟩ : ∃ z : Mem, z = (mup M 57 18 ((M 57 18) + x2)) := ⟨_, rfl⟩
      replace w : Wd G s M2 H locs := by rw [eM2]; exact w
      replace h := h M2 eM2
      refine lv_aload_n hx hb dX6_bridge_113 rfl (lv_at hl 0 rfl) ?_
      refine lv_dup hx hb dX6_bridge_114 rfl ?_
      refine gt_6_19 C w kw_17_6 dX6_bridge_115 ?_
      refine lv_iload_n hx hb dX6_bridge_118 rfl (lv_at hl 2 rfl) ?_
      refine lv_iload_n hx hb dX6_bridge_119 rfl (lv_at hl 1 rfl) ?_
      refine lv_iconst (v := 0) hx hb dX6_bridge_120 (by decide) ?_
      refine end_i w (run_S (As := [.int x1, .int (0 : Int32)]) C w hl.1 (c_X6_heftBy l G C.2.2.1 _ _ x1 (0 : Int32)  _ h) kw_14_13 kw_1_5 kw_14_11 kw_14_12 hd_X6_heftBy ⟨by decide, by decide⟩ rfl (Nat.le_of_ble_eq_true rfl) dX6_bridge_121) (fun r3 M4 H locs h w => ?_)
      refine lv_imul hx hb dX6_bridge_124 ?_
      refine lv_iadd hx hb dX6_bridge_125 ?_
      refine pt_6_19 C w kw_17_6 dX6_bridge_126 (fun H locs w => ?_)
      obtain ⟨M5, eM5⟩ : ∃ z : Mem, z = (mup M4 57 19 ((M2 57 19) + (x2 * r3))) := ⟨_, rfl⟩
      replace w : Wd G s M5 H locs := by rw [eM5]; exact w
      replace h := h M5 eM5
      refine lv_aload_n hx hb dX6_bridge_129 rfl (lv_at hl 0 rfl) ?_
      refine lv_iload hx hb dX6_bridge_130 (lv_at hl 4 rfl) ?_
      refine lv_iload_n hx hb dX6_bridge_132 rfl (lv_at hl 2 rfl) ?_
      refine lv_iload_n hx hb dX6_bridge_133 rfl (lv_at hl 1 rfl) ?_
      refine lv_iconst (v := 0) hx hb dX6_bridge_134 (by decide) ?_
      refine end_i w (run_S (As := [.int x1, .int (0 : Int32)]) C w hl.1 (c_X6_giveBy l G C.2.2.1 _ _ x1 (0 : Int32)  _ h) kw_14_16 kw_1_5 kw_14_14 kw_14_15 hd_X6_giveBy ⟨by decide, by decide⟩ rfl (Nat.le_of_ble_eq_true rfl) dX6_bridge_135) (fun r6 M7 H locs h w => ?_)
      refine lv_imul hx hb dX6_bridge_138 ?_
      refine lv_iadd hx hb dX6_bridge_139 ?_
      refine pt_6_20 C w kw_17_7 dX6_bridge_140 (fun H locs w => ?_)
      obtain ⟨M8, eM8⟩ : ∃ z : Mem, z = (mup M7 57 20 (x4 + (x2 * r6))) := ⟨_, rfl⟩
      replace w : Wd G s M8 H locs := by rw [eM8]; exact w
      replace h := h M8 eM8
      refine lv_aload_n hx hb dX6_bridge_143 rfl (lv_at hl 0 rfl) ?_
      refine end_v w (run_V (As := []) C w hl.1 (c_X6_rounds l G C.2.2.1 _ _   _ h) kw_17_23 kw_1_5 kw_17_20 kw_17_21 kw_17_22 hd_X6_rounds ⟨by decide, by decide⟩ (w.recv C (i := 57) (by decide) (pE_6) rfl) rfl (Nat.le_of_ble_eq_true rfl) dX6_bridge_144) (fun M10 H locs h w => ?_)
      refine lv_iload_n hx hb dX6_bridge_147 rfl (lv_at hl 3 rfl) ?_
      refine lv_aload_n hx hb dX6_bridge_148 rfl (lv_at hl 0 rfl) ?_
      refine end_i w (run_V (As := []) C w hl.1 (c_X6_greatestOf l G C.2.2.1 _ _   _ h) kw_23_4 kw_1_5 kw_23_1 kw_23_2 kw_23_3 hd_X6_greatestOf ⟨by decide, by decide⟩ (w.recv C (i := 57) (by decide) (pE_6) rfl) rfl (Nat.le_of_ble_eq_true rfl) dX6_bridge_149) (fun r11 M12 H locs h w => ?_)
      refine lv_isub hx hb dX6_bridge_152 ?_
      exact ret_i C w h dX6_bridge_153
    replace h := h.2 c1
    refine lv_iload hx hb dX6_bridge_67 (lv_at hl 4 rfl) ?_
    refine lv_aload_n hx hb dX6_bridge_69 rfl (lv_at hl 0 rfl) ?_
    refine lv_iload hx hb dX6_bridge_70 (lv_at hl 5 rfl) ?_
    refine lv_iconst (v := 2) hx hb dX6_bridge_72 (by decide) ?_
    refine end_i w (run_V (As := [.int x5, .int (2 : Int32)]) C w hl.1 (c_X6_get l G C.2.2.1 _ _ x5 (2 : Int32)  _ h) kw_14_10 kw_1_5 kw_14_7 kw_14_8 kw_14_9 hd_X6_get ⟨by decide, by decide⟩ (w.recv C (i := 57) (by decide) (pE_6) rfl) rfl (Nat.le_of_ble_eq_true rfl) dX6_bridge_73) (fun r13 M14 H locs h w => ?_)
    refine lv_aload_n hx hb dX6_bridge_76 rfl (lv_at hl 0 rfl) ?_
    refine lv_iload hx hb dX6_bridge_77 (lv_at hl 5 rfl) ?_
    refine lv_iconst (v := 0) hx hb dX6_bridge_79 (by decide) ?_
    refine end_i w (run_V (As := [.int x5, .int (0 : Int32)]) C w hl.1 (c_X6_get l G C.2.2.1 _ _ x5 (0 : Int32)  _ h) kw_14_10 kw_1_5 kw_14_7 kw_14_8 kw_14_9 hd_X6_get ⟨by decide, by decide⟩ (w.recv C (i := 57) (by decide) (pE_6) rfl) rfl (Nat.le_of_ble_eq_true rfl) dX6_bridge_80) (fun r15 M16 H locs h w => ?_)
    refine lv_aload_n hx hb dX6_bridge_83 rfl (lv_at hl 0 rfl) ?_
    refine lv_iload hx hb dX6_bridge_84 (lv_at hl 5 rfl) ?_
    refine lv_iconst (v := 1) hx hb dX6_bridge_86 (by decide) ?_
    refine end_i w (run_V (As := [.int x5, .int (1 : Int32)]) C w hl.1 (c_X6_get l G C.2.2.1 _ _ x5 (1 : Int32)  _ h) kw_14_10 kw_1_5 kw_14_7 kw_14_8 kw_14_9 hd_X6_get ⟨by decide, by decide⟩ (w.recv C (i := 57) (by decide) (pE_6) rfl) rfl (Nat.le_of_ble_eq_true rfl) dX6_bridge_87) (fun r17 M18 H locs h w => ?_)
    refine end_i w (run_S (As := [.int r15, .int r17]) C w hl.1 (c_X6_giveBy l G C.2.2.1 _ _ r15 r17  _ h) kw_14_16 kw_1_5 kw_14_14 kw_14_15 hd_X6_giveBy ⟨by decide, by decide⟩ rfl (Nat.le_of_ble_eq_true rfl) dX6_bridge_90) (fun r19 M20 H locs h w => ?_)
    refine lv_imul hx hb dX6_bridge_93 ?_
    refine lv_iadd hx hb dX6_bridge_94 ?_
    refine lv_istore (lv' := [(4, .int (x4 + (r13 * r19))), (0, .ref (ga G 57)), (1, .int x1), (2, .int x2), (3, .int x3), (5, .int x5)]) hx hb dX6_bridge_95 hl (by decide) rfl (fun ls hl => ?_)
    refine lv_iinc (v := (x5 + (1 : Int32))) (lv' := [(5, .int (x5 + (1 : Int32))), (4, .int (x4 + (r13 * r19))), (0, .ref (ga G 57)), (1, .int x1), (2, .int x2), (3, .int x3)]) hx hb dX6_bridge_97 hl (k := 5) rfl rfl (by decide) rfl (fun ls hl => ?_)
    refine lv_goto (tgt := 56) hx hb dX6_bridge_100 (by decide) ?_
    exact hk56 M20 x1 x2 x3 (x4 + (r13 * r19)) (x5 + (1 : Int32)) _ _ _  w (lv_sub hl [2, 3, 4, 5, 1, 0] rfl) h
set_option maxHeartbeats 4000000 in
set_option maxRecDepth 100000 in
theorem t_X6_bridge_24 (C : Cx G p s m args meth c RX6 cX6_bridge 6 (some .int)) {post : Int32 → Mem → Prop} (M : Mem) {H : Heap} {locs : List Loc} {ls : Array Slot} (w : Wd G s M H locs) (hl : lv_has ls 6 []) (h : j_X6_bridge_24 post M) : W p l e (rmk 5) s m args below meth c H locs 0 0 (MQ below (va_Qi post (Qw G) (Af G s.heap.size)) args s 0 0 (Af G s.heap.size)) (F0 m 24 ls []) := by
  have hx := C.1.1
  have hb := C.1.2.1
  unfold j_X6_bridge_24 at h
  refine lv_ldc hx hb C.1.2.2.2.1 (C.ws kw_25_15) dX6_bridge_24 ?_
  exact ret_i C w h dX6_bridge_26
set_option maxHeartbeats 4000000 in
set_option maxRecDepth 100000 in
theorem c_X6_bridge (l : Launch) (G : GG) (hG : Ag G) (sz : Nat) (M : Mem) (x1 : Int32) (x2 : Int32) (post : Int32 → Mem → Prop) (h : q_X6_bridge M x1 x2 post) : Met l yX6_bridge (Cond.code yX6_bridge cX6_bridge 6 (some .int) :: wsL_law) (rmk 5) (va_Pc [.ref (ga G 57), .int x1, .int x2] (Pw G sz M)) (va_Qi post (Qw G) (Af G sz)) 0 0 (Af G sz) := by
  refine Met.ofW (cc := cX6_bridge) (maxL := 6) (ret := (some .int)) (by decide) rfl ?_
  intro p e s m args below meth c s₁ B hml hv
  obtain ⟨rfl, hsz, hE, hP⟩ := hv
  subst hsz
  have C := Cx.of (own := RX6) hG hE rfl hml B
  have w : Wd G s M s.heap [] := ⟨hP, va_S.rf⟩
  have hl := lv_entry [.ref (ga G 57), .int x1, .int x2] (n := 6) (Nat.le_of_ble_eq_true rfl)
  rw [lg_entry_eq]
  generalize (lg_sl [.ref (ga G 57), .int x1, .int x2] ++ List.replicate (6 - (lg_sl [.ref (ga G 57), .int x1, .int x2]).length) Slot.unset).toArray = ls at hl ⊢
  have hl : lv_has ls 6 [(0, .ref (ga G 57)), (1, .int x1), (2, .int x2)] := hl
  have hx := C.1.1
  have hb := C.1.2.1
  show W p l e (rmk 5) s m _ below meth c s.heap [] 0 0 _ _
  unfold q_X6_bridge at h
  refine lv_iload_n hx hb dX6_bridge_0 rfl (lv_at hl 1 rfl) ?_
  refine lv_i2l hx hb dX6_bridge_1 rfl ?_
  refine lv_lconst (v := 0) hx hb dX6_bridge_2 (by decide) ?_
  refine lv_ldc2 hx hb C.1.2.2.2.1 (C.ws kw_12_2) dX6_bridge_3 ?_
  refine end_i w (run_S (As := [.long x1.toInt64, .long (0 : Int64), .long (7 : Int64)]) C w hl.1 (c_X6_isIn l G C.2.2.1 _ _ x1.toInt64 (0 : Int64) (7 : Int64)  _ h) kw_12_5 kw_1_5 kw_12_3 kw_12_4 hd_X6_isIn ⟨by decide, by decide⟩ rfl (Nat.le_of_ble_eq_true rfl) dX6_bridge_6) (fun r21 M22 H locs h w => ?_)
  refine lv_if_eq (tgt := 24) hx hb dX6_bridge_9 (by decide) (fun c23 => ?_) (fun c23 => ?_)
  · replace h := h.1 c23
    exact t_X6_bridge_24 C M22   w (lv_sub hl [] rfl) h
  replace h := h.2 c23
  refine lv_iload_n hx hb dX6_bridge_12 rfl (lv_at hl 2 rfl) ?_
  refine lv_i2l hx hb dX6_bridge_13 rfl ?_
  refine lv_lconst (v := 1) hx hb dX6_bridge_14 (by decide) ?_
  refine lv_ldc2 hx hb C.1.2.2.2.1 (C.ws kw_13_13) dX6_bridge_15 ?_
  refine end_i w (run_S (As := [.long x2.toInt64, .long (1 : Int64), .long (99 : Int64)]) C w hl.1 (c_X6_isIn l G C.2.2.1 _ _ x2.toInt64 (1 : Int64) (99 : Int64)  _ h) kw_12_5 kw_1_5 kw_12_3 kw_12_4 hd_X6_isIn ⟨by decide, by decide⟩ rfl (Nat.le_of_ble_eq_true rfl) dX6_bridge_18) (fun r24 M25 H locs h w => ?_)
  refine lv_if_ne (tgt := 27) hx hb dX6_bridge_21 (by decide) (fun c26 => ?_) (fun c26 => ?_)
  · replace h := h.2 c26
    refine lv_aload_n hx hb dX6_bridge_27 rfl (lv_at hl 0 rfl) ?_
    refine end_i w (run_V (As := []) C w hl.1 (c_X6_isLine l G C.2.2.1 _ _   _ h) kw_17_11 kw_1_5 kw_17_8 kw_17_9 kw_17_10 hd_X6_isLine ⟨by decide, by decide⟩ (w.recv C (i := 57) (by decide) (pE_6) rfl) rfl (Nat.le_of_ble_eq_true rfl) dX6_bridge_28) (fun r27 M28 H locs h w => ?_)
    refine lv_if_ne (tgt := 37) hx hb dX6_bridge_31 (by decide) (fun c29 => ?_) (fun c29 => ?_)
    · replace h := h.2 c29
      refine lv_aload_n hx hb dX6_bridge_37 rfl (lv_at hl 0 rfl) ?_
      refine lv_aload_n hx hb dX6_bridge_38 rfl (lv_at hl 0 rfl) ?_
      refine end_i w (run_V (As := []) C w hl.1 (c_X6_allPieces l G C.2.2.1 _ _   _ h) kw_17_15 kw_1_5 kw_17_12 kw_17_13 kw_17_14 hd_X6_allPieces ⟨by decide, by decide⟩ (w.recv C (i := 57) (by decide) (pE_6) rfl) rfl (Nat.le_of_ble_eq_true rfl) dX6_bridge_39) (fun r30 M31 H locs h w => ?_)
      refine end_v w (run_V (As := [.int r30]) C w hl.1 (c_X6_sumsUp l G C.2.2.1 _ _ r30  _ h) kw_17_19 kw_1_5 kw_17_16 kw_17_17 kw_17_18 hd_X6_sumsUp ⟨by decide, by decide⟩ (w.recv C (i := 57) (by decide) (pE_6) rfl) rfl (Nat.le_of_ble_eq_true rfl) dX6_bridge_42) (fun M33 H locs h w => ?_)
      refine lv_aload_n hx hb dX6_bridge_45 rfl (lv_at hl 0 rfl) ?_
      refine end_i w (run_V (As := []) C w hl.1 (c_X6_greatestOf l G C.2.2.1 _ _   _ h) kw_23_4 kw_1_5 kw_23_1 kw_23_2 kw_23_3 hd_X6_greatestOf ⟨by decide, by decide⟩ (w.recv C (i := 57) (by decide) (pE_6) rfl) rfl (Nat.le_of_ble_eq_true rfl) dX6_bridge_46) (fun r34 M35 H locs h w => ?_)
      refine lv_istore_n (lv' := [(3, .int r34), (0, .ref (ga G 57)), (1, .int x1), (2, .int x2)]) hx hb dX6_bridge_49 rfl hl (by decide) rfl (fun ls hl => ?_)
      refine lv_iconst (v := 0) hx hb dX6_bridge_50 (by decide) ?_
      refine lv_istore (lv' := [(4, .int (0 : Int32)), (3, .int r34), (0, .ref (ga G 57)), (1, .int x1), (2, .int x2)]) hx hb dX6_bridge_51 hl (by decide) rfl (fun ls hl => ?_)
      refine lv_iconst (v := 0) hx hb dX6_bridge_53 (by decide) ?_
      refine lv_istore (lv' := [(5, .int (0 : Int32)), (4, .int (0 : Int32)), (3, .int r34), (0, .ref (ga G 57)), (1, .int x1), (2, .int x2)]) hx hb dX6_bridge_54 hl (by decide) rfl (fun ls hl => ?_)
      obtain ⟨n, h⟩ := h
      exact t_X6_bridge_56 C n M35 x1 x2 r34 (0 : Int32) (0 : Int32)  w (lv_sub hl [3, 4, 5, 2, 1, 0] rfl) h
    replace h := h.1 c29
    refine lv_ldc hx hb C.1.2.2.2.1 (C.ws kw_25_16) dX6_bridge_34 ?_
    exact ret_i C w h dX6_bridge_36
  replace h := h.1 c26
  exact t_X6_bridge_24 C M25   w (lv_sub hl [] rfl) h
def j_X5_fouls_34 (post : Int32 → Mem → Prop) (M : Mem) (y0 : Int32) : Prop := post y0 M
def q_X5_fouls (M : Mem) (post : Int32 → Mem → Prop) : Prop := q_X5_layLine M  (fun r1 M2 => (r1 = 0 → (post (-3 : Int32) M2)) ∧ (¬ (r1 = 0) → (q_X0_hang M2  (fun r4 M5 => (r4 ≤ (M5 11 3) → (j_X5_fouls_34 post M5 (0 : Int32))) ∧ (¬ (r4 ≤ (M5 11 3)) → (j_X5_fouls_34 post M5 (1 : Int32)))))))
set_option maxHeartbeats 4000000 in
set_option maxRecDepth 100000 in
theorem t_X5_fouls_34 (C : Cx G p s m args meth c RX5 cX5_fouls 1 (some .int)) {post : Int32 → Mem → Prop} (M : Mem) (y0 : Int32) {H : Heap} {locs : List Loc} {ls : Array Slot} (w : Wd G s M H locs) (hl : lv_has ls 1 []) (h : j_X5_fouls_34 post M y0) : W p l e (rmk 3) s m args below meth c H locs 0 0 (MQ below (va_Qi post (Qw G) (Af G s.heap.size)) args s 0 0 (Af G s.heap.size)) (F0 m 34 ls [.int y0]) := by
  have hx := C.1.1
  have hb := C.1.2.1
  unfold j_X5_fouls_34 at h
  exact ret_i C w h dX5_fouls_34
set_option maxHeartbeats 4000000 in
set_option maxRecDepth 100000 in
theorem c_X5_fouls (l : Launch) (G : GG) (hG : Ag G) (sz : Nat) (M : Mem) (post : Int32 → Mem → Prop) (h : q_X5_fouls M post) : Met l yX5_fouls (Cond.code yX5_fouls cX5_fouls 1 (some .int) :: wsL_law) (rmk 3) (va_Pc [.ref (ga G 0)] (Pw G sz M)) (va_Qi post (Qw G) (Af G sz)) 0 0 (Af G sz) := by
  refine Met.ofW (cc := cX5_fouls) (maxL := 1) (ret := (some .int)) (by decide) rfl ?_
  intro p e s m args below meth c s₁ B hml hv
  obtain ⟨rfl, hsz, hE, hP⟩ := hv
  subst hsz
  have C := Cx.of (own := RX5) hG hE rfl hml B
  have w : Wd G s M s.heap [] := ⟨hP, va_S.rf⟩
  have hl := lv_entry [.ref (ga G 0)] (n := 1) (Nat.le_of_ble_eq_true rfl)
  rw [lg_entry_eq]
  generalize (lg_sl [.ref (ga G 0)] ++ List.replicate (1 - (lg_sl [.ref (ga G 0)]).length) Slot.unset).toArray = ls at hl ⊢
  have hl : lv_has ls 1 [(0, .ref (ga G 0))] := hl
  have hx := C.1.1
  have hb := C.1.2.1
  show W p l e (rmk 3) s m _ below meth c s.heap [] 0 0 _ _
  unfold q_X5_fouls at h
  refine lv_aload_n hx hb dX5_fouls_0 rfl (lv_at hl 0 rfl) ?_
  refine end_i w (run_V (As := []) C w hl.1 (c_X5_layLine l G C.2.2.1 _ _   _ h) kw_15_21 kw_1_2 kw_15_18 kw_15_19 kw_15_20 hd_X5_layLine ⟨by decide, by decide⟩ (w.recv C (i := 0) (by decide) (pE_5) rfl) rfl (Nat.le_of_ble_eq_true rfl) dX5_fouls_1) (fun r1 M2 H locs h w => ?_)
  refine lv_if_ne (tgt := 10) hx hb dX5_fouls_4 (by decide) (fun c3 => ?_) (fun c3 => ?_)
  · replace h := h.2 c3
    refine lv_aload_n hx hb dX5_fouls_10 rfl (lv_at hl 0 rfl) ?_
    refine gt_5_3 C w kw_1_22 dX5_fouls_11 ?_
    refine end_i w (run_VN (As := []) C w hl.1 (c_X0_hang l G C.2.2.1 _ _   _ h) kw_16_16 kw_1_21 kn_59 kw_16_14 kw_16_15 hd_X0_hang ⟨by decide, by decide⟩ (w.recv C (i := 4) (by decide) (pE_0) rfl) rfl (Nat.le_of_ble_eq_true rfl) dX5_fouls_14) (fun r4 M5 H locs h w => ?_)
    refine lv_aload_n hx hb dX5_fouls_17 rfl (lv_at hl 0 rfl) ?_
    refine gt_5_0 C w kw_1_16 dX5_fouls_18 ?_
    refine gn_4_2 C w ⟨by decide, by decide⟩ kn_16 dX5_fouls_21 ?_
    refine lv_iconst (v := 3) hx hb dX5_fouls_24 (by decide) ?_
    refine pw_ld C w (i := 11) (by decide) (pE_st ⟨by decide, by decide⟩) (vl (x := (3 : Int32)) (by decide)) (k := 3) (by decide) dX5_fouls_25 ?_
    refine lv_icmp_le (tgt := 33) hx hb dX5_fouls_26 (by decide) (fun c6 => ?_) (fun c6 => ?_)
    · replace h := h.1 c6
      refine lv_iconst (v := 0) hx hb dX5_fouls_33 (by decide) ?_
      exact t_X5_fouls_34 C M5 (0 : Int32)  w (lv_sub hl [] rfl) h
    replace h := h.2 c6
    refine lv_iconst (v := 1) hx hb dX5_fouls_29 (by decide) ?_
    refine lv_goto (tgt := 34) hx hb dX5_fouls_30 (by decide) ?_
    exact t_X5_fouls_34 C M5 (1 : Int32)  w (lv_sub hl [] rfl) h
  replace h := h.1 c3
  refine lv_bipush (v := -3) hx hb dX5_fouls_7 (by decide) ?_
  exact ret_i C w h dX5_fouls_9
def j_X6_isFoul_27 (post : Int32 → Mem → Prop) (M : Mem) (y0 : Int32) : Prop := (y0 = 0 ∨ y0 = 1) ∧ post y0 M
def q_X6_isFoul (M : Mem) (post : Int32 → Mem → Prop) : Prop := q_X6_allPieces M  (fun r1 M2 => q_X6_sumsUp M2 r1 (fun M4 => q_X6_hang M4  (fun r5 M6 => (r5 ≤ (M6 58 8) → (j_X6_isFoul_27 post M6 (0 : Int32))) ∧ (¬ (r5 ≤ (M6 58 8)) → (j_X6_isFoul_27 post M6 (1 : Int32))))))
set_option maxHeartbeats 4000000 in
set_option maxRecDepth 100000 in
theorem t_X6_isFoul_27 (C : Cx G p s m args meth c RX6 cX6_isFoul 1 (some .boolean)) {post : Int32 → Mem → Prop} (M : Mem) (y0 : Int32) {H : Heap} {locs : List Loc} {ls : Array Slot} (w : Wd G s M H locs) (hl : lv_has ls 1 []) (h : j_X6_isFoul_27 post M y0) : W p l e (rmk 3) s m args below meth c H locs 0 0 (MQ below (va_Qi post (Qw G) (Af G s.heap.size)) args s 0 0 (Af G s.heap.size)) (F0 m 27 ls [.int y0]) := by
  have hx := C.1.1
  have hb := C.1.2.1
  unfold j_X6_isFoul_27 at h
  exact ret_z C w h dX6_isFoul_27
set_option maxHeartbeats 4000000 in
set_option maxRecDepth 100000 in
theorem c_X6_isFoul (l : Launch) (G : GG) (hG : Ag G) (sz : Nat) (M : Mem) (post : Int32 → Mem → Prop) (h : q_X6_isFoul M post) : Met l yX6_isFoul (Cond.code yX6_isFoul cX6_isFoul 1 (some .boolean) :: wsL_law) (rmk 3) (va_Pc [.ref (ga G 57)] (Pw G sz M)) (va_Qi post (Qw G) (Af G sz)) 0 0 (Af G sz) := by
  refine Met.ofW (cc := cX6_isFoul) (maxL := 1) (ret := (some .boolean)) (by decide) rfl ?_
  intro p e s m args below meth c s₁ B hml hv
  obtain ⟨rfl, hsz, hE, hP⟩ := hv
  subst hsz
  have C := Cx.of (own := RX6) hG hE rfl hml B
  have w : Wd G s M s.heap [] := ⟨hP, va_S.rf⟩
  have hl := lv_entry [.ref (ga G 57)] (n := 1) (Nat.le_of_ble_eq_true rfl)
  rw [lg_entry_eq]
  generalize (lg_sl [.ref (ga G 57)] ++ List.replicate (1 - (lg_sl [.ref (ga G 57)]).length) Slot.unset).toArray = ls at hl ⊢
  have hl : lv_has ls 1 [(0, .ref (ga G 57))] := hl
  have hx := C.1.1
  have hb := C.1.2.1
  show W p l e (rmk 3) s m _ below meth c s.heap [] 0 0 _ _
  unfold q_X6_isFoul at h
  refine lv_aload_n hx hb dX6_isFoul_0 rfl (lv_at hl 0 rfl) ?_
  refine lv_aload_n hx hb dX6_isFoul_1 rfl (lv_at hl 0 rfl) ?_
  refine end_i w (run_V (As := []) C w hl.1 (c_X6_allPieces l G C.2.2.1 _ _   _ h) kw_17_15 kw_1_5 kw_17_12 kw_17_13 kw_17_14 hd_X6_allPieces ⟨by decide, by decide⟩ (w.recv C (i := 57) (by decide) (pE_6) rfl) rfl (Nat.le_of_ble_eq_true rfl) dX6_isFoul_2) (fun r1 M2 H locs h w => ?_)
  refine end_v w (run_V (As := [.int r1]) C w hl.1 (c_X6_sumsUp l G C.2.2.1 _ _ r1  _ h) kw_17_19 kw_1_5 kw_17_16 kw_17_17 kw_17_18 hd_X6_sumsUp ⟨by decide, by decide⟩ (w.recv C (i := 57) (by decide) (pE_6) rfl) rfl (Nat.le_of_ble_eq_true rfl) dX6_isFoul_5) (fun M4 H locs h w => ?_)
  refine lv_aload_n hx hb dX6_isFoul_8 rfl (lv_at hl 0 rfl) ?_
  refine end_i w (run_V (As := []) C w hl.1 (c_X6_hang l G C.2.2.1 _ _   _ h) kw_18_3 kw_1_5 kw_18_0 kw_18_1 kw_18_2 hd_X6_hang ⟨by decide, by decide⟩ (w.recv C (i := 57) (by decide) (pE_6) rfl) rfl (Nat.le_of_ble_eq_true rfl) dX6_isFoul_9) (fun r5 M6 H locs h w => ?_)
  refine lv_aload_n hx hb dX6_isFoul_12 rfl (lv_at hl 0 rfl) ?_
  refine gt_6_0 C w kw_5_0 dX6_isFoul_13 ?_
  refine lv_bipush (v := 8) hx hb dX6_isFoul_16 (by decide) ?_
  refine pw_ld C w (i := 58) (by decide) pE_58 (vl (x := (8 : Int32)) (by decide)) (k := 8) (by decide) dX6_isFoul_18 ?_
  refine lv_icmp_le (tgt := 26) hx hb dX6_isFoul_19 (by decide) (fun c7 => ?_) (fun c7 => ?_)
  · replace h := h.1 c7
    refine lv_iconst (v := 0) hx hb dX6_isFoul_26 (by decide) ?_
    exact t_X6_isFoul_27 C M6 (0 : Int32)  w (lv_sub hl [] rfl) h
  replace h := h.2 c7
  refine lv_iconst (v := 1) hx hb dX6_isFoul_22 (by decide) ?_
  refine lv_goto (tgt := 27) hx hb dX6_isFoul_23 (by decide) ?_
  exact t_X6_isFoul_27 C M6 (1 : Int32)  w (lv_sub hl [] rfl) h
def j_X6_fouls_24 (post : Int32 → Mem → Prop) (M : Mem) (y0 : Int32) : Prop := post y0 M
def q_X6_fouls (M : Mem) (post : Int32 → Mem → Prop) : Prop := q_X6_isLine M  (fun r1 M2 => (r1 = 0 → (j_X6_fouls_24 post M2 (-3 : Int32))) ∧ (¬ (r1 = 0) → (q_X6_isFoul M2  (fun r4 M5 => (r4 = 0 → (j_X6_fouls_24 post M5 (0 : Int32))) ∧ (¬ (r4 = 0) → (j_X6_fouls_24 post M5 (1 : Int32)))))))
set_option maxHeartbeats 4000000 in
set_option maxRecDepth 100000 in
theorem t_X6_fouls_24 (C : Cx G p s m args meth c RX6 cX6_fouls 1 (some .int)) {post : Int32 → Mem → Prop} (M : Mem) (y0 : Int32) {H : Heap} {locs : List Loc} {ls : Array Slot} (w : Wd G s M H locs) (hl : lv_has ls 1 []) (h : j_X6_fouls_24 post M y0) : W p l e (rmk 4) s m args below meth c H locs 0 0 (MQ below (va_Qi post (Qw G) (Af G s.heap.size)) args s 0 0 (Af G s.heap.size)) (F0 m 24 ls [.int y0]) := by
  have hx := C.1.1
  have hb := C.1.2.1
  unfold j_X6_fouls_24 at h
  exact ret_i C w h dX6_fouls_24
set_option maxHeartbeats 4000000 in
set_option maxRecDepth 100000 in
theorem c_X6_fouls (l : Launch) (G : GG) (hG : Ag G) (sz : Nat) (M : Mem) (post : Int32 → Mem → Prop) (h : q_X6_fouls M post) : Met l yX6_fouls (Cond.code yX6_fouls cX6_fouls 1 (some .int) :: wsL_law) (rmk 4) (va_Pc [.ref (ga G 57)] (Pw G sz M)) (va_Qi post (Qw G) (Af G sz)) 0 0 (Af G sz) := by
  refine Met.ofW (cc := cX6_fouls) (maxL := 1) (ret := (some .int)) (by decide) rfl ?_
  intro p e s m args below meth c s₁ B hml hv
  obtain ⟨rfl, hsz, hE, hP⟩ := hv
  subst hsz
  have C := Cx.of (own := RX6) hG hE rfl hml B
  have w : Wd G s M s.heap [] := ⟨hP, va_S.rf⟩
  have hl := lv_entry [.ref (ga G 57)] (n := 1) (Nat.le_of_ble_eq_true rfl)
  rw [lg_entry_eq]
  generalize (lg_sl [.ref (ga G 57)] ++ List.replicate (1 - (lg_sl [.ref (ga G 57)]).length) Slot.unset).toArray = ls at hl ⊢
  have hl : lv_has ls 1 [(0, .ref (ga G 57))] := hl
  have hx := C.1.1
  have hb := C.1.2.1
  show W p l e (rmk 4) s m _ below meth c s.heap [] 0 0 _ _
  unfold q_X6_fouls at h
  refine lv_aload_n hx hb dX6_fouls_0 rfl (lv_at hl 0 rfl) ?_
  refine end_i w (run_V (As := []) C w hl.1 (c_X6_isLine l G C.2.2.1 _ _   _ h) kw_17_11 kw_1_5 kw_17_8 kw_17_9 kw_17_10 hd_X6_isLine ⟨by decide, by decide⟩ (w.recv C (i := 57) (by decide) (pE_6) rfl) rfl (Nat.le_of_ble_eq_true rfl) dX6_fouls_1) (fun r1 M2 H locs h w => ?_)
  refine lv_if_ne (tgt := 12) hx hb dX6_fouls_4 (by decide) (fun c3 => ?_) (fun c3 => ?_)
  · replace h := h.2 c3
    refine lv_aload_n hx hb dX6_fouls_12 rfl (lv_at hl 0 rfl) ?_
    refine end_i w (run_V (As := []) C w hl.1 (c_X6_isFoul l G C.2.2.1 _ _   _ h) kw_26_4 kw_1_5 kw_26_1 kw_26_2 kw_26_3 hd_X6_isFoul ⟨by decide, by decide⟩ (w.recv C (i := 57) (by decide) (pE_6) rfl) rfl (Nat.le_of_ble_eq_true rfl) dX6_fouls_13) (fun r4 M5 H locs h w => ?_)
    refine lv_if_eq (tgt := 23) hx hb dX6_fouls_16 (by decide) (fun c6 => ?_) (fun c6 => ?_)
    · replace h := h.1 c6
      refine lv_iconst (v := 0) hx hb dX6_fouls_23 (by decide) ?_
      exact t_X6_fouls_24 C M5 (0 : Int32)  w (lv_sub hl [] rfl) h
    replace h := h.2 c6
    refine lv_iconst (v := 1) hx hb dX6_fouls_19 (by decide) ?_
    refine lv_goto (tgt := 24) hx hb dX6_fouls_20 (by decide) ?_
    exact t_X6_fouls_24 C M5 (1 : Int32)  w (lv_sub hl [] rfl) h
  replace h := h.1 c3
  refine lv_bipush (v := -3) hx hb dX6_fouls_7 (by decide) ?_
  refine lv_goto (tgt := 24) hx hb dX6_fouls_9 (by decide) ?_
  exact t_X6_fouls_24 C M2 (-3 : Int32)  w (lv_sub hl [] rfl) h
def j_X5_fewestTakenIn_68 (post : Int32 → Mem → Prop) (M : Mem) (x3 : Int32) (x4 : Int32) : Prop := ∀ M1 : Mem, M1 = (mup M 4 1 x3) → (post x4 M1)
def j_X5_fewestTakenIn_62 (k15 : Mem → Nat → Int32 → Int32 → Int32 → Int32 → Prop) (post : Int32 → Mem → Prop) (M : Mem) (a1 : Nat) (x2 : Int32) (x3 : Int32) (x4 : Int32) (x5 : Int32) : Prop := k15 M a1 x2 x3 x4 (x5 + (1 : Int32))
def b_X5_fewestTakenIn_15 (k15 : Mem → Nat → Int32 → Int32 → Int32 → Int32 → Prop) (post : Int32 → Mem → Prop) (M : Mem) (a1 : Nat) (x2 : Int32) (x3 : Int32) (x4 : Int32) (x5 : Int32) : Prop := ((M a1 2) < x5 → (j_X5_fewestTakenIn_68 post M x3 x4)) ∧ (¬ ((M a1 2) < x5) → ((x4 = (-4 : Int32) → (∀ M4 : Mem, M4 = (mup M 4 1 (x3 - (x5 * (M a1 5)))) → (q_X0_hang M4  (fun r5 M6 => (x2 < r5 → (j_X5_fewestTakenIn_62 k15 post M6 a1 x2 x3 x4 x5)) ∧ (¬ (x2 < r5) → (j_X5_fewestTakenIn_62 k15 post M6 a1 x2 x3 x5 x5)))))) ∧ (¬ (x4 = (-4 : Int32)) → (j_X5_fewestTakenIn_68 post M x3 x4))))
def lp_X5_fewestTakenIn_15 (post : Int32 → Mem → Prop) : Nat → Mem → Nat → Int32 → Int32 → Int32 → Int32 → Prop
  | 0 => fun _ _ _ _ _ _ => False
  | n + 1 => fun M a1 x2 x3 x4 x5 => b_X5_fewestTakenIn_15 (lp_X5_fewestTakenIn_15 post n) post M a1 x2 x3 x4 x5
def q_X5_fewestTakenIn (M : Mem) (a1 : Nat) (x2 : Int32) (post : Int32 → Mem → Prop) : Prop := ∃ n, lp_X5_fewestTakenIn_15 post n M a1 x2 (M 4 1) (-4 : Int32) (1 : Int32)
set_option maxHeartbeats 4000000 in
set_option maxRecDepth 100000 in
theorem t_X5_fewestTakenIn_68 (C : Cx G p s m args meth c RX5 cX5_fewestTakenIn 6 (some .int)) {post : Int32 → Mem → Prop} (M : Mem) (x3 : Int32) (x4 : Int32) {H : Heap} {locs : List Loc} {ls : Array Slot} (w : Wd G s M H locs) (hl : lv_has ls 6 [(0, .ref (ga G 0)), (3, .int x3), (4, .int x4)]) (h : j_X5_fewestTakenIn_68 post M x3 x4) : W p l e (rmk 2) s m args below meth c H locs 0 0 (MQ below (va_Qi post (Qw G) (Af G s.heap.size)) args s 0 0 (Af G s.heap.size)) (F0 m 68 ls []) := by
  have hx := C.1.1
  have hb := C.1.2.1
  unfold j_X5_fewestTakenIn_68 at h
  refine lv_aload_n hx hb dX5_fewestTakenIn_68 rfl (lv_at hl 0 rfl) ?_
  refine gt_5_3 C w kw_1_22 dX5_fewestTakenIn_69 ?_
  refine lv_iload_n hx hb dX5_fewestTakenIn_72 rfl (lv_at hl 1 rfl) ?_
  refine pn_0_1 C w kn_25 dX5_fewestTakenIn_73 (fun H locs w => ?_)
  obtain ⟨M1, eM1⟩ : ∃ z : Mem, z = (mup M 4 1 x3) := ⟨_, rfl⟩
  replace w : Wd G s M1 H locs := by rw [eM1]; exact w
  replace h := h M1 eM1
  refine lv_iload hx hb dX5_fewestTakenIn_76 (lv_at hl 2 rfl) ?_
  exact ret_i C w h dX5_fewestTakenIn_78
set_option maxHeartbeats 4000000 in
set_option maxRecDepth 100000 in
theorem t_X5_fewestTakenIn_62 (C : Cx G p s m args meth c RX5 cX5_fewestTakenIn 6 (some .int)) {post : Int32 → Mem → Prop} {k15 : Mem → Nat → Int32 → Int32 → Int32 → Int32 → Prop} (hk15 : ∀ (M : Mem) (a1 : Nat) (x2 : Int32) (x3 : Int32) (x4 : Int32) (x5 : Int32) (H : Heap) (locs : List Loc) (ls : Array Slot), (30 ≤ a1 ∧ a1 < 57) → Wd G s M H locs → lv_has ls 6 [(0, .ref (ga G 0)), (1, .ref (ga G a1)), (2, .int x2), (3, .int x3), (4, .int x4), (5, .int x5)] → k15 M a1 x2 x3 x4 x5 → W p l e (rmk 2) s m args below meth c H locs 0 0 (MQ below (va_Qi post (Qw G) (Af G s.heap.size)) args s 0 0 (Af G s.heap.size)) (F0 m 15 ls [])) (M : Mem) (a1 : Nat) (x2 : Int32) (x3 : Int32) (x4 : Int32) (x5 : Int32) {H : Heap} {locs : List Loc} {ls : Array Slot} (ha1 : 30 ≤ a1 ∧ a1 < 57) (w : Wd G s M H locs) (hl : lv_has ls 6 [(0, .ref (ga G 0)), (1, .ref (ga G a1)), (2, .int x2), (3, .int x3), (4, .int x4), (5, .int x5)]) (h : j_X5_fewestTakenIn_62 k15 post M a1 x2 x3 x4 x5) : W p l e (rmk 2) s m args below meth c H locs 0 0 (MQ below (va_Qi post (Qw G) (Af G s.heap.size)) args s 0 0 (Af G s.heap.size)) (F0 m 62 ls []) := by
  have hx := C.1.1
  have hb := C.1.2.1
  unfold j_X5_fewestTakenIn_62 at h
  refine lv_iinc (v := (x5 + (1 : Int32))) (lv' := [(5, .int (x5 + (1 : Int32))), (0, .ref (ga G 0)), (1, .ref (ga G a1)), (2, .int x2), (3, .int x3), (4, .int x4)]) hx hb dX5_fewestTakenIn_62 hl (k := 5) rfl rfl (by decide) rfl (fun ls hl => ?_)
  refine lv_goto (tgt := 15) hx hb dX5_fewestTakenIn_65 (by decide) ?_
  exact hk15 M a1 x2 x3 x4 (x5 + (1 : Int32)) _ _ _ ha1 w (lv_sub hl [1, 2, 3, 4, 5, 0] rfl) h
set_option maxHeartbeats 4000000 in
set_option maxRecDepth 100000 in
theorem t_X5_fewestTakenIn_15 (C : Cx G p s m args meth c RX5 cX5_fewestTakenIn 6 (some .int)) {post : Int32 → Mem → Prop} : ∀ (n : Nat) (M : Mem) (a1 : Nat) (x2 : Int32) (x3 : Int32) (x4 : Int32) (x5 : Int32) {H : Heap} {locs : List Loc} {ls : Array Slot} (ha1 : 30 ≤ a1 ∧ a1 < 57) (w : Wd G s M H locs) (hl : lv_has ls 6 [(0, .ref (ga G 0)), (1, .ref (ga G a1)), (2, .int x2), (3, .int x3), (4, .int x4), (5, .int x5)]) (h : lp_X5_fewestTakenIn_15 post n M a1 x2 x3 x4 x5), W p l e (rmk 2) s m args below meth c H locs 0 0 (MQ below (va_Qi post (Qw G) (Af G s.heap.size)) args s 0 0 (Af G s.heap.size)) (F0 m 15 ls []) := by
  have hx := C.1.1
  have hb := C.1.2.1
  intro n9
  induction n9 with
  | zero => intro M a1 x2 x3 x4 x5 H locs ls ha1 w hl h; exact absurd h id
  | succ n9 ih9 =>
    intro M a1 x2 x3 x4 x5 H locs ls ha1 w hl h
    have hk15 : ∀ (M : Mem) (a1 : Nat) (x2 : Int32) (x3 : Int32) (x4 : Int32) (x5 : Int32) (H : Heap) (locs : List Loc) (ls : Array Slot), (30 ≤ a1 ∧ a1 < 57) → Wd G s M H locs → lv_has ls 6 [(0, .ref (ga G 0)), (1, .ref (ga G a1)), (2, .int x2), (3, .int x3), (4, .int x4), (5, .int x5)] → lp_X5_fewestTakenIn_15 post n9 M a1 x2 x3 x4 x5 → W p l e (rmk 2) s m args below meth c H locs 0 0 (MQ below (va_Qi post (Qw G) (Af G s.heap.size)) args s 0 0 (Af G s.heap.size)) (F0 m 15 ls []) := fun M a1 x2 x3 x4 x5 H locs ls ha1 w hl h => ih9 M a1 x2 x3 x4 x5 ha1 w hl h
    replace h : b_X5_fewestTakenIn_15 (lp_X5_fewestTakenIn_15 post n9) post M a1 x2 x3 x4 x5 := h
    unfold b_X5_fewestTakenIn_15 at h
    refine lv_iload hx hb dX5_fewestTakenIn_15 (lv_at hl 5 rfl) ?_
    refine lv_aload_n hx hb dX5_fewestTakenIn_17 rfl (lv_at hl 1 rfl) ?_
    refine gn_1_2 C w ha1 kn_3 dX5_fewestTakenIn_18 ?_
    refine lv_icmp_gt (tgt := 68) hx hb dX5_fewestTakenIn_21 (by decide) (fun c2 => ?_) (fun c2 => ?_)
    · replace h := h.1 c2
      exact t_X5_fewestTakenIn_68 C M x3 x4  w (lv_sub hl [0, 3, 4] rfl) h
    replace h := h.2 c2
    refine lv_iload hx hb dX5_fewestTakenIn_24 (lv_at hl 4 rfl) ?_
    refine lv_bipush (v := -4) hx hb dX5_fewestTakenIn_26 (by decide) ?_
    refine lv_icmp_ne (tgt := 68) hx hb dX5_fewestTakenIn_28 (by decide) (fun c3 => ?_) (fun c3 => ?_)
    · replace h := h.2 c3
      exact t_X5_fewestTakenIn_68 C M x3 x4  w (lv_sub hl [0, 3, 4] rfl) h
    replace h := h.1 c3
    refine lv_aload_n hx hb dX5_fewestTakenIn_31 rfl (lv_at hl 0 rfl) ?_
    refine gt_5_3 C w kw_1_22 dX5_fewestTakenIn_32 ?_
    refine lv_iload_n hx hb dX5_fewestTakenIn_35 rfl (lv_at hl 3 rfl) ?_
    refine lv_iload hx hb dX5_fewestTakenIn_36 (lv_at hl 5 rfl) ?_
    refine lv_aload_n hx hb dX5_fewestTakenIn_38 rfl (lv_at hl 1 rfl) ?_
    refine gn_1_5 C w ha1 kn_7 dX5_fewestTakenIn_39 ?_
    refine lv_imul hx hb dX5_fewestTakenIn_42 ?_
    refine lv_isub hx hb dX5_fewestTakenIn_43 ?_
    refine pn_0_1 C w kn_25 dX5_fewestTakenIn_44 (fun H locs w => ?_)
    obtain ⟨M4, eM4⟩ : ∃ z : Mem, z = (mup M 4 1 (x3 - (x5 * (M a1 5)))) := ⟨_, rfl⟩
    replace w : Wd G s M4 H locs := by rw [eM4]; exact w
    replace h := h M4 eM4
    refine lv_aload_n hx hb dX5_fewestTakenIn_47 rfl (lv_at hl 0 rfl) ?_
    refine gt_5_3 C w kw_1_22 dX5_fewestTakenIn_48 ?_
    refine end_i w (run_VN (As := []) C w hl.1 (c_X0_hang l G C.2.2.1 _ _   _ h) kw_16_16 kw_1_21 kn_59 kw_16_14 kw_16_15 hd_X0_hang ⟨by decide, by decide⟩ (w.recv C (i := 4) (by decide) (pE_0) rfl) rfl (Nat.le_of_ble_eq_true rfl) dX5_fewestTakenIn_51) (fun r5 M6 H locs h w => ?_)
    refine lv_iload_n hx hb dX5_fewestTakenIn_54 rfl (lv_at hl 2 rfl) ?_
    refine lv_icmp_gt (tgt := 62) hx hb dX5_fewestTakenIn_55 (by decide) (fun c7 => ?_) (fun c7 => ?_)
    · replace h := h.1 c7
      exact t_X5_fewestTakenIn_62 C hk15 M6 a1 x2 x3 x4 x5 ha1 w (lv_sub hl [0, 1, 2, 3, 4, 5] rfl) h
    replace h := h.2 c7
    refine lv_iload hx hb dX5_fewestTakenIn_58 (lv_at hl 5 rfl) ?_
    refine lv_istore (lv' := [(4, .int x5), (0, .ref (ga G 0)), (1, .ref (ga G a1)), (2, .int x2), (3, .int x3), (5, .int x5)]) hx hb dX5_fewestTakenIn_60 hl (by decide) rfl (fun ls hl => ?_)
    exact t_X5_fewestTakenIn_62 C hk15 M6 a1 x2 x3 x5 x5 ha1 w (lv_sub hl [1, 2, 3, 4, 0, 5] rfl) h
set_option maxHeartbeats 4000000 in
set_option maxRecDepth 100000 in
theorem c_X5_fewestTakenIn (l : Launch) (G : GG) (hG : Ag G) (sz : Nat) (M : Mem) (a1 : Nat) (x2 : Int32) (ha1 : 30 ≤ a1 ∧ a1 < 57) (post : Int32 → Mem → Prop) (h : q_X5_fewestTakenIn M a1 x2 post) : Met l yX5_fewestTakenIn (Cond.code yX5_fewestTakenIn cX5_fewestTakenIn 6 (some .int) :: wsL_law) (rmk 2) (va_Pc [.ref (ga G 0), .ref (ga G a1), .int x2] (Pw G sz M)) (va_Qi post (Qw G) (Af G sz)) 0 0 (Af G sz) := by
  refine Met.ofW (cc := cX5_fewestTakenIn) (maxL := 6) (ret := (some .int)) (by decide) rfl ?_
  intro p e s m args below meth c s₁ B hml hv
  obtain ⟨rfl, hsz, hE, hP⟩ := hv
  subst hsz
  have C := Cx.of (own := RX5) hG hE rfl hml B
  have w : Wd G s M s.heap [] := ⟨hP, va_S.rf⟩
  have hl := lv_entry [.ref (ga G 0), .ref (ga G a1), .int x2] (n := 6) (Nat.le_of_ble_eq_true rfl)
  rw [lg_entry_eq]
  generalize (lg_sl [.ref (ga G 0), .ref (ga G a1), .int x2] ++ List.replicate (6 - (lg_sl [.ref (ga G 0), .ref (ga G a1), .int x2]).length) Slot.unset).toArray = ls at hl ⊢
  have hl : lv_has ls 6 [(0, .ref (ga G 0)), (1, .ref (ga G a1)), (2, .int x2)] := hl
  have hx := C.1.1
  have hb := C.1.2.1
  show W p l e (rmk 2) s m _ below meth c s.heap [] 0 0 _ _
  unfold q_X5_fewestTakenIn at h
  refine lv_aload_n hx hb dX5_fewestTakenIn_0 rfl (lv_at hl 0 rfl) ?_
  refine gt_5_3 C w kw_1_22 dX5_fewestTakenIn_1 ?_
  refine gn_0_1 C w kn_25 dX5_fewestTakenIn_4 ?_
  refine lv_istore_n (lv' := [(3, .int (M 4 1)), (0, .ref (ga G 0)), (1, .ref (ga G a1)), (2, .int x2)]) hx hb dX5_fewestTakenIn_7 rfl hl (by decide) rfl (fun ls hl => ?_)
  refine lv_bipush (v := -4) hx hb dX5_fewestTakenIn_8 (by decide) ?_
  refine lv_istore (lv' := [(4, .int (-4 : Int32)), (3, .int (M 4 1)), (0, .ref (ga G 0)), (1, .ref (ga G a1)), (2, .int x2)]) hx hb dX5_fewestTakenIn_10 hl (by decide) rfl (fun ls hl => ?_)
  refine lv_iconst (v := 1) hx hb dX5_fewestTakenIn_12 (by decide) ?_
  refine lv_istore (lv' := [(5, .int (1 : Int32)), (4, .int (-4 : Int32)), (3, .int (M 4 1)), (0, .ref (ga G 0)), (1, .ref (ga G a1)), (2, .int x2)]) hx hb dX5_fewestTakenIn_13 hl (by decide) rfl (fun ls hl => ?_)
  obtain ⟨n, h⟩ := h
  exact t_X5_fewestTakenIn_15 C n M a1 x2 (M 4 1) (-4 : Int32) (1 : Int32) ha1 w (lv_sub hl [3, 4, 5, 2, 1, 0] rfl) h
def j_X5_takeIn_96 (k42 : Mem → Int32 → Int32 → Int32 → Int32 → Prop) (post : Int32 → Mem → Prop) (M : Mem) (x1 : Int32) (x2 : Int32) (x3 : Int32) (x4 : Int32) : Prop := k42 M x1 x2 x3 (x4 + (1 : Int32))
def b_X5_takeIn_42 (k42 : Mem → Int32 → Int32 → Int32 → Int32 → Prop) (post : Int32 → Mem → Prop) (M : Mem) (x1 : Int32) (x2 : Int32) (x3 : Int32) (x4 : Int32) : Prop := ((M 1 1) ≤ x4 → (post x2 M)) ∧ (¬ ((M 1 1) ≤ x4) → (vp_in x4 6 ∧ (q_X5_fewestTakenIn M (38 + x4.toNatClampNeg) x1 (fun r3 M4 => (r3 = (-4 : Int32) → (j_X5_takeIn_96 k42 post M4 x1 x2 x3 x4)) ∧ (¬ (r3 = (-4 : Int32)) → ((x3 ≤ r3 → (j_X5_takeIn_96 k42 post M4 x1 x2 x3 x4)) ∧ (¬ (x3 ≤ r3) → (j_X5_takeIn_96 k42 post M4 x1 (((100 : Int32) * x4) + r3) r3 x4))))))))
def lp_X5_takeIn_42 (post : Int32 → Mem → Prop) : Nat → Mem → Int32 → Int32 → Int32 → Int32 → Prop
  | 0 => fun _ _ _ _ _ => False
  | n + 1 => fun M x1 x2 x3 x4 => b_X5_takeIn_42 (lp_X5_takeIn_42 post n) post M x1 x2 x3 x4
def q_X5_takeIn (M : Mem) (post : Int32 → Mem → Prop) : Prop := q_X5_layLine M  (fun r7 M8 => (r7 = 0 → (post (-3 : Int32) M8)) ∧ (¬ (r7 = 0) → (q_X0_hang M8  (fun r10 M11 => ((M8 11 3) < r10 → (∃ n, lp_X5_takeIn_42 post n M11 (M8 11 3) (-4 : Int32) (100 : Int32) (0 : Int32))) ∧ (¬ ((M8 11 3) < r10) → (post (0 : Int32) M11))))))
set_option maxHeartbeats 4000000 in
set_option maxRecDepth 100000 in
theorem t_X5_takeIn_96 (C : Cx G p s m args meth c RX5 cX5_takeIn 6 (some .int)) {post : Int32 → Mem → Prop} {k42 : Mem → Int32 → Int32 → Int32 → Int32 → Prop} (hk42 : ∀ (M : Mem) (x1 : Int32) (x2 : Int32) (x3 : Int32) (x4 : Int32) (H : Heap) (locs : List Loc) (ls : Array Slot), Wd G s M H locs → lv_has ls 6 [(0, .ref (ga G 0)), (1, .int x1), (2, .int x2), (3, .int x3), (4, .int x4)] → k42 M x1 x2 x3 x4 → W p l e (rmk 3) s m args below meth c H locs 0 0 (MQ below (va_Qi post (Qw G) (Af G s.heap.size)) args s 0 0 (Af G s.heap.size)) (F0 m 42 ls [])) (M : Mem) (x1 : Int32) (x2 : Int32) (x3 : Int32) (x4 : Int32) {H : Heap} {locs : List Loc} {ls : Array Slot} (w : Wd G s M H locs) (hl : lv_has ls 6 [(0, .ref (ga G 0)), (1, .int x1), (2, .int x2), (3, .int x3), (4, .int x4)]) (h : j_X5_takeIn_96 k42 post M x1 x2 x3 x4) : W p l e (rmk 3) s m args below meth c H locs 0 0 (MQ below (va_Qi post (Qw G) (Af G s.heap.size)) args s 0 0 (Af G s.heap.size)) (F0 m 96 ls []) := by
  have hx := C.1.1
  have hb := C.1.2.1
  unfold j_X5_takeIn_96 at h
  refine lv_iinc (v := (x4 + (1 : Int32))) (lv' := [(4, .int (x4 + (1 : Int32))), (0, .ref (ga G 0)), (1, .int x1), (2, .int x2), (3, .int x3)]) hx hb dX5_takeIn_96 hl (k := 4) rfl rfl (by decide) rfl (fun ls hl => ?_)
  refine lv_goto (tgt := 42) hx hb dX5_takeIn_99 (by decide) ?_
  exact hk42 M x1 x2 x3 (x4 + (1 : Int32)) _ _ _  w (lv_sub hl [1, 2, 3, 4, 0] rfl) h
set_option maxHeartbeats 4000000 in
set_option maxRecDepth 100000 in
theorem t_X5_takeIn_42 (C : Cx G p s m args meth c RX5 cX5_takeIn 6 (some .int)) {post : Int32 → Mem → Prop} : ∀ (n : Nat) (M : Mem) (x1 : Int32) (x2 : Int32) (x3 : Int32) (x4 : Int32) {H : Heap} {locs : List Loc} {ls : Array Slot} (w : Wd G s M H locs) (hl : lv_has ls 6 [(0, .ref (ga G 0)), (1, .int x1), (2, .int x2), (3, .int x3), (4, .int x4)]) (h : lp_X5_takeIn_42 post n M x1 x2 x3 x4), W p l e (rmk 3) s m args below meth c H locs 0 0 (MQ below (va_Qi post (Qw G) (Af G s.heap.size)) args s 0 0 (Af G s.heap.size)) (F0 m 42 ls []) := by
  have hx := C.1.1
  have hb := C.1.2.1
  intro n9
  induction n9 with
  | zero => intro M x1 x2 x3 x4 H locs ls w hl h; exact absurd h id
  | succ n9 ih9 =>
    intro M x1 x2 x3 x4 H locs ls w hl h
    have hk42 : ∀ (M : Mem) (x1 : Int32) (x2 : Int32) (x3 : Int32) (x4 : Int32) (H : Heap) (locs : List Loc) (ls : Array Slot), Wd G s M H locs → lv_has ls 6 [(0, .ref (ga G 0)), (1, .int x1), (2, .int x2), (3, .int x3), (4, .int x4)] → lp_X5_takeIn_42 post n9 M x1 x2 x3 x4 → W p l e (rmk 3) s m args below meth c H locs 0 0 (MQ below (va_Qi post (Qw G) (Af G s.heap.size)) args s 0 0 (Af G s.heap.size)) (F0 m 42 ls []) := fun M x1 x2 x3 x4 H locs ls w hl h => ih9 M x1 x2 x3 x4 w hl h
    replace h : b_X5_takeIn_42 (lp_X5_takeIn_42 post n9) post M x1 x2 x3 x4 := h
    unfold b_X5_takeIn_42 at h
    refine lv_iload hx hb dX5_takeIn_42 (lv_at hl 4 rfl) ?_
    refine lv_aload_n hx hb dX5_takeIn_44 rfl (lv_at hl 0 rfl) ?_
    refine gt_5_0 C w kw_1_16 dX5_takeIn_45 ?_
    refine gn_4_1 C w ⟨by decide, by decide⟩ kn_14 dX5_takeIn_48 ?_
    refine lv_icmp_ge (tgt := 102) hx hb dX5_takeIn_51 (by decide) (fun c1 => ?_) (fun c1 => ?_)
    · replace h := h.1 c1
      refine lv_iload_n hx hb dX5_takeIn_102 rfl (lv_at hl 2 rfl) ?_
      exact ret_i C w h dX5_takeIn_103
    replace h := h.2 c1
    refine lv_aload_n hx hb dX5_takeIn_54 rfl (lv_at hl 0 rfl) ?_
    refine lv_aload_n hx hb dX5_takeIn_55 rfl (lv_at hl 0 rfl) ?_
    refine gt_5_0 C w kw_1_16 dX5_takeIn_56 ?_
    refine gn_4_0 C w ⟨by decide, by decide⟩ kn_13 dX5_takeIn_59 ?_
    refine lv_iload hx hb dX5_takeIn_62 (lv_at hl 4 rfl) ?_
    have hin2 := h.1
    replace h := h.2
    have hz_hin2 := in_lt hin2
    refine pw_ldP C w (i := 8) ⟨by decide, by decide⟩ hin2 dX5_takeIn_64 (j := (38 + x4.toNatClampNeg)) (by omega) ?_
    refine lv_iload_n hx hb dX5_takeIn_65 rfl (lv_at hl 1 rfl) ?_
    refine end_i w (run_V (As := [.ref (ga G (38 + x4.toNatClampNeg)), .int x1]) C w hl.1 (c_X5_fewestTakenIn l G C.2.2.1 _ _ (38 + x4.toNatClampNeg) x1 (by omega) _ h) kw_26_12 kw_1_2 kw_26_9 kw_26_10 kw_26_11 hd_X5_fewestTakenIn ⟨by decide, by decide⟩ (w.recv C (i := 0) (by decide) (pE_5) rfl) rfl (Nat.le_of_ble_eq_true rfl) dX5_takeIn_66) (fun r3 M4 H locs h w => ?_)
    refine lv_istore (lv' := [(5, .int r3), (0, .ref (ga G 0)), (1, .int x1), (2, .int x2), (3, .int x3), (4, .int x4)]) hx hb dX5_takeIn_69 hl (by decide) rfl (fun ls hl => ?_)
    refine lv_iload hx hb dX5_takeIn_71 (lv_at hl 0 rfl) ?_
    refine lv_bipush (v := -4) hx hb dX5_takeIn_73 (by decide) ?_
    refine lv_icmp_eq (tgt := 96) hx hb dX5_takeIn_75 (by decide) (fun c5 => ?_) (fun c5 => ?_)
    · replace h := h.1 c5
      exact t_X5_takeIn_96 C hk42 M4 x1 x2 x3 x4  w (lv_sub hl [1, 2, 3, 4, 5] rfl) h
    replace h := h.2 c5
    refine lv_iload hx hb dX5_takeIn_78 (lv_at hl 0 rfl) ?_
    refine lv_iload_n hx hb dX5_takeIn_80 rfl (lv_at hl 4 rfl) ?_
    refine lv_icmp_ge (tgt := 96) hx hb dX5_takeIn_81 (by decide) (fun c6 => ?_) (fun c6 => ?_)
    · replace h := h.1 c6
      exact t_X5_takeIn_96 C hk42 M4 x1 x2 x3 x4  w (lv_sub hl [1, 2, 3, 4, 5] rfl) h
    replace h := h.2 c6
    refine lv_iload hx hb dX5_takeIn_84 (lv_at hl 0 rfl) ?_
    refine lv_istore_n (lv' := [(3, .int r3), (5, .int r3), (0, .ref (ga G 0)), (1, .int x1), (2, .int x2), (4, .int x4)]) hx hb dX5_takeIn_86 rfl hl (by decide) rfl (fun ls hl => ?_)
    refine lv_bipush (v := 100) hx hb dX5_takeIn_87 (by decide) ?_
    refine lv_iload hx hb dX5_takeIn_89 (lv_at hl 5 rfl) ?_
    refine lv_imul hx hb dX5_takeIn_91 ?_
    refine lv_iload hx hb dX5_takeIn_92 (lv_at hl 1 rfl) ?_
    refine lv_iadd hx hb dX5_takeIn_94 ?_
    refine lv_istore_n (lv' := [(2, .int (((100 : Int32) * x4) + r3)), (3, .int r3), (5, .int r3), (0, .ref (ga G 0)), (1, .int x1), (4, .int x4)]) hx hb dX5_takeIn_95 rfl hl (by decide) rfl (fun ls hl => ?_)
    exact t_X5_takeIn_96 C hk42 M4 x1 (((100 : Int32) * x4) + r3) r3 x4  w (lv_sub hl [3, 4, 0, 1, 5] rfl) h
set_option maxHeartbeats 4000000 in
set_option maxRecDepth 100000 in
theorem c_X5_takeIn (l : Launch) (G : GG) (hG : Ag G) (sz : Nat) (M : Mem) (post : Int32 → Mem → Prop) (h : q_X5_takeIn M post) : Met l yX5_takeIn (Cond.code yX5_takeIn cX5_takeIn 6 (some .int) :: wsL_law) (rmk 3) (va_Pc [.ref (ga G 0)] (Pw G sz M)) (va_Qi post (Qw G) (Af G sz)) 0 0 (Af G sz) := by
  refine Met.ofW (cc := cX5_takeIn) (maxL := 6) (ret := (some .int)) (by decide) rfl ?_
  intro p e s m args below meth c s₁ B hml hv
  obtain ⟨rfl, hsz, hE, hP⟩ := hv
  subst hsz
  have C := Cx.of (own := RX5) hG hE rfl hml B
  have w : Wd G s M s.heap [] := ⟨hP, va_S.rf⟩
  have hl := lv_entry [.ref (ga G 0)] (n := 6) (Nat.le_of_ble_eq_true rfl)
  rw [lg_entry_eq]
  generalize (lg_sl [.ref (ga G 0)] ++ List.replicate (6 - (lg_sl [.ref (ga G 0)]).length) Slot.unset).toArray = ls at hl ⊢
  have hl : lv_has ls 6 [(0, .ref (ga G 0))] := hl
  have hx := C.1.1
  have hb := C.1.2.1
  show W p l e (rmk 3) s m _ below meth c s.heap [] 0 0 _ _
  unfold q_X5_takeIn at h
  refine lv_aload_n hx hb dX5_takeIn_0 rfl (lv_at hl 0 rfl) ?_
  refine end_i w (run_V (As := []) C w hl.1 (c_X5_layLine l G C.2.2.1 _ _   _ h) kw_15_21 kw_1_2 kw_15_18 kw_15_19 kw_15_20 hd_X5_layLine ⟨by decide, by decide⟩ (w.recv C (i := 0) (by decide) (pE_5) rfl) rfl (Nat.le_of_ble_eq_true rfl) dX5_takeIn_1) (fun r7 M8 H locs h w => ?_)
  refine lv_if_ne (tgt := 10) hx hb dX5_takeIn_4 (by decide) (fun c9 => ?_) (fun c9 => ?_)
  · replace h := h.2 c9
    refine lv_aload_n hx hb dX5_takeIn_10 rfl (lv_at hl 0 rfl) ?_
    refine gt_5_0 C w kw_1_16 dX5_takeIn_11 ?_
    refine gn_4_2 C w ⟨by decide, by decide⟩ kn_16 dX5_takeIn_14 ?_
    refine lv_iconst (v := 3) hx hb dX5_takeIn_17 (by decide) ?_
    refine pw_ld C w (i := 11) (by decide) (pE_st ⟨by decide, by decide⟩) (vl (x := (3 : Int32)) (by decide)) (k := 3) (by decide) dX5_takeIn_18 ?_
    refine lv_istore_n (lv' := [(1, .int (M8 11 3)), (0, .ref (ga G 0))]) hx hb dX5_takeIn_19 rfl hl (by decide) rfl (fun ls hl => ?_)
    refine lv_aload_n hx hb dX5_takeIn_20 rfl (lv_at hl 1 rfl) ?_
    refine gt_5_3 C w kw_1_22 dX5_takeIn_21 ?_
    refine end_i w (run_VN (As := []) C w hl.1 (c_X0_hang l G C.2.2.1 _ _   _ h) kw_16_16 kw_1_21 kn_59 kw_16_14 kw_16_15 hd_X0_hang ⟨by decide, by decide⟩ (w.recv C (i := 4) (by decide) (pE_0) rfl) rfl (Nat.le_of_ble_eq_true rfl) dX5_takeIn_24) (fun r10 M11 H locs h w => ?_)
    refine lv_iload_n hx hb dX5_takeIn_27 rfl (lv_at hl 0 rfl) ?_
    refine lv_icmp_gt (tgt := 33) hx hb dX5_takeIn_28 (by decide) (fun c12 => ?_) (fun c12 => ?_)
    · replace h := h.1 c12
      refine lv_bipush (v := -4) hx hb dX5_takeIn_33 (by decide) ?_
      refine lv_istore_n (lv' := [(2, .int (-4 : Int32)), (1, .int (M8 11 3)), (0, .ref (ga G 0))]) hx hb dX5_takeIn_35 rfl hl (by decide) rfl (fun ls hl => ?_)
      refine lv_bipush (v := 100) hx hb dX5_takeIn_36 (by decide) ?_
      refine lv_istore_n (lv' := [(3, .int (100 : Int32)), (2, .int (-4 : Int32)), (1, .int (M8 11 3)), (0, .ref (ga G 0))]) hx hb dX5_takeIn_38 rfl hl (by decide) rfl (fun ls hl => ?_)
      refine lv_iconst (v := 0) hx hb dX5_takeIn_39 (by decide) ?_
      refine lv_istore (lv' := [(4, .int (0 : Int32)), (3, .int (100 : Int32)), (2, .int (-4 : Int32)), (1, .int (M8 11 3)), (0, .ref (ga G 0))]) hx hb dX5_takeIn_40 hl (by decide) rfl (fun ls hl => ?_)
      obtain ⟨n, h⟩ := h
      exact t_X5_takeIn_42 C n M11 (M8 11 3) (-4 : Int32) (100 : Int32) (0 : Int32)  w (lv_sub hl [4, 3, 2, 1, 0] rfl) h
    replace h := h.2 c12
    refine lv_iconst (v := 0) hx hb dX5_takeIn_31 (by decide) ?_
    exact ret_i C w h dX5_takeIn_32
  replace h := h.1 c9
  refine lv_bipush (v := -3) hx hb dX5_takeIn_7 (by decide) ?_
  exact ret_i C w h dX5_takeIn_9
end WALK
