theorem dX5_line_0 : decode cX5_line 0 = .ok (.iload_n 1, 1) := by decide +kernel
theorem dX5_line_1 : decode cX5_line 1 = .ok (.ifCond .lt 8, 3) := by decide +kernel
theorem dX5_line_4 : decode cX5_line 4 = .ok (.iload_n 1, 1) := by decide +kernel
theorem dX5_line_5 : decode cX5_line 5 = .ok (.iconst 5, 1) := by decide +kernel
theorem dX5_line_6 : decode cX5_line 6 = .ok (.if_icmp .le 5, 3) := by decide +kernel
theorem dX5_line_9 : decode cX5_line 9 = .ok (.iconst (-1), 1) := by decide +kernel
theorem dX5_line_10 : decode cX5_line 10 = .ok (.ireturn, 1) := by decide +kernel
theorem dX5_line_11 : decode cX5_line 11 = .ok (.aload_n 0, 1) := by decide +kernel
theorem dX5_line_12 : decode cX5_line 12 = .ok (.invokevirtual 110, 3) := by decide +kernel
theorem dX5_line_15 : decode cX5_line 15 = .ok (.ifCond .ne 6, 3) := by decide +kernel
theorem dX5_line_18 : decode cX5_line 18 = .ok (.bipush (-3), 2) := by decide +kernel
theorem dX5_line_20 : decode cX5_line 20 = .ok (.ireturn, 1) := by decide +kernel
theorem dX5_line_21 : decode cX5_line 21 = .ok (.iload_n 1, 1) := by decide +kernel
theorem dX5_line_22 : decode cX5_line 22 = .ok (.tableswitch 74 0 4 #[34, 42, 50, 58, 66], 34) := by decide +kernel
theorem dX5_line_56 : decode cX5_line 56 = .ok (.aload_n 0, 1) := by decide +kernel
theorem dX5_line_57 : decode cX5_line 57 = .ok (.getfield 25, 3) := by decide +kernel
theorem dX5_line_60 : decode cX5_line 60 = .ok (.getfield 114, 3) := by decide +kernel
theorem dX5_line_63 : decode cX5_line 63 = .ok (.ireturn, 1) := by decide +kernel
theorem dX5_line_64 : decode cX5_line 64 = .ok (.aload_n 0, 1) := by decide +kernel
theorem dX5_line_65 : decode cX5_line 65 = .ok (.getfield 25, 3) := by decide +kernel
theorem dX5_line_68 : decode cX5_line 68 = .ok (.getfield 115, 3) := by decide +kernel
theorem dX5_line_71 : decode cX5_line 71 = .ok (.ireturn, 1) := by decide +kernel
theorem dX5_line_72 : decode cX5_line 72 = .ok (.aload_n 0, 1) := by decide +kernel
theorem dX5_line_73 : decode cX5_line 73 = .ok (.getfield 25, 3) := by decide +kernel
theorem dX5_line_76 : decode cX5_line 76 = .ok (.invokevirtual 116, 3) := by decide +kernel
theorem dX5_line_79 : decode cX5_line 79 = .ok (.ireturn, 1) := by decide +kernel
theorem dX5_line_80 : decode cX5_line 80 = .ok (.aload_n 0, 1) := by decide +kernel
theorem dX5_line_81 : decode cX5_line 81 = .ok (.getfield 25, 3) := by decide +kernel
theorem dX5_line_84 : decode cX5_line 84 = .ok (.invokevirtual 120, 3) := by decide +kernel
theorem dX5_line_87 : decode cX5_line 87 = .ok (.ireturn, 1) := by decide +kernel
theorem dX5_line_88 : decode cX5_line 88 = .ok (.aload_n 0, 1) := by decide +kernel
theorem dX5_line_89 : decode cX5_line 89 = .ok (.getfield 25, 3) := by decide +kernel
theorem dX5_line_92 : decode cX5_line 92 = .ok (.invokevirtual 123, 3) := by decide +kernel
theorem dX5_line_95 : decode cX5_line 95 = .ok (.ireturn, 1) := by decide +kernel
theorem dX5_line_96 : decode cX5_line 96 = .ok (.aload_n 0, 1) := by decide +kernel
theorem dX5_line_97 : decode cX5_line 97 = .ok (.getfield 25, 3) := by decide +kernel
theorem dX5_line_100 : decode cX5_line 100 = .ok (.invokevirtual 126, 3) := by decide +kernel
theorem dX5_line_103 : decode cX5_line 103 = .ok (.ireturn, 1) := by decide +kernel
theorem dX6_allPieces_0 : decode cX6_allPieces 0 = .ok (.iconst 1, 1) := by decide +kernel
theorem dX6_allPieces_1 : decode cX6_allPieces 1 = .ok (.aload_n 0, 1) := by decide +kernel
theorem dX6_allPieces_2 : decode cX6_allPieces 2 = .ok (.getfield 9, 3) := by decide +kernel
theorem dX6_allPieces_5 : decode cX6_allPieces 5 = .ok (.iconst 0, 1) := by decide +kernel
theorem dX6_allPieces_6 : decode cX6_allPieces 6 = .ok (.iaload, 1) := by decide +kernel
theorem dX6_allPieces_7 : decode cX6_allPieces 7 = .ok (.ishl, 1) := by decide +kernel
theorem dX6_allPieces_8 : decode cX6_allPieces 8 = .ok (.iconst 1, 1) := by decide +kernel
theorem dX6_allPieces_9 : decode cX6_allPieces 9 = .ok (.isub, 1) := by decide +kernel
theorem dX6_allPieces_10 : decode cX6_allPieces 10 = .ok (.ireturn, 1) := by decide +kernel
theorem dX6_baseOf_0 : decode cX6_baseOf 0 = .ok (.iconst 2, 1) := by decide +kernel
theorem dX6_baseOf_1 : decode cX6_baseOf 1 = .ok (.aload_n 0, 1) := by decide +kernel
theorem dX6_baseOf_2 : decode cX6_baseOf 2 = .ok (.getfield 9, 3) := by decide +kernel
theorem dX6_baseOf_5 : decode cX6_baseOf 5 = .ok (.bipush 7, 2) := by decide +kernel
theorem dX6_baseOf_7 : decode cX6_baseOf 7 = .ok (.iaload, 1) := by decide +kernel
theorem dX6_baseOf_8 : decode cX6_baseOf 8 = .ok (.imul, 1) := by decide +kernel
theorem dX6_baseOf_9 : decode cX6_baseOf 9 = .ok (.aload_n 0, 1) := by decide +kernel
theorem dX6_baseOf_10 : decode cX6_baseOf 10 = .ok (.getfield 9, 3) := by decide +kernel
theorem dX6_baseOf_13 : decode cX6_baseOf 13 = .ok (.bipush 7, 2) := by decide +kernel
theorem dX6_baseOf_15 : decode cX6_baseOf 15 = .ok (.iaload, 1) := by decide +kernel
theorem dX6_baseOf_16 : decode cX6_baseOf 16 = .ok (.imul, 1) := by decide +kernel
theorem dX6_baseOf_17 : decode cX6_baseOf 17 = .ok (.aload_n 0, 1) := by decide +kernel
theorem dX6_baseOf_18 : decode cX6_baseOf 18 = .ok (.getfield 141, 3) := by decide +kernel
theorem dX6_baseOf_21 : decode cX6_baseOf 21 = .ok (.bipush 10, 2) := by decide +kernel
theorem dX6_baseOf_23 : decode cX6_baseOf 23 = .ok (.idiv, 1) := by decide +kernel
theorem dX6_baseOf_24 : decode cX6_baseOf 24 = .ok (.iadd, 1) := by decide +kernel
theorem dX6_baseOf_25 : decode cX6_baseOf 25 = .ok (.ireturn, 1) := by decide +kernel
theorem dX6_hang_0 : decode cX6_hang 0 = .ok (.aload_n 0, 1) := by decide +kernel
theorem dX6_hang_1 : decode cX6_hang 1 = .ok (.getfield 141, 3) := by decide +kernel
theorem dX6_hang_4 : decode cX6_hang 4 = .ok (.iconst 4, 1) := by decide +kernel
theorem dX6_hang_5 : decode cX6_hang 5 = .ok (.aload_n 0, 1) := by decide +kernel
theorem dX6_hang_6 : decode cX6_hang 6 = .ok (.getfield 9, 3) := by decide +kernel
theorem dX6_hang_9 : decode cX6_hang 9 = .ok (.bipush 7, 2) := by decide +kernel
theorem dX6_hang_11 : decode cX6_hang 11 = .ok (.iaload, 1) := by decide +kernel
theorem dX6_hang_12 : decode cX6_hang 12 = .ok (.aload_n 0, 1) := by decide +kernel
theorem dX6_hang_13 : decode cX6_hang 13 = .ok (.getfield 9, 3) := by decide +kernel
theorem dX6_hang_16 : decode cX6_hang 16 = .ok (.bipush 7, 2) := by decide +kernel
theorem dX6_hang_18 : decode cX6_hang 18 = .ok (.iaload, 1) := by decide +kernel
theorem dX6_hang_19 : decode cX6_hang 19 = .ok (.imul, 1) := by decide +kernel
theorem dX6_hang_20 : decode cX6_hang 20 = .ok (.iadd, 1) := by decide +kernel
theorem dX6_hang_21 : decode cX6_hang 21 = .ok (.idiv, 1) := by decide +kernel
theorem dX6_hang_22 : decode cX6_hang 22 = .ok (.ireturn, 1) := by decide +kernel
theorem dX6_isLine_0 : decode cX6_isLine 0 = .ok (.iconst 0, 1) := by decide +kernel
theorem dX6_isLine_1 : decode cX6_isLine 1 = .ok (.istore_n 1, 1) := by decide +kernel
theorem dX6_isLine_2 : decode cX6_isLine 2 = .ok (.iload_n 1, 1) := by decide +kernel
theorem dX6_isLine_3 : decode cX6_isLine 3 = .ok (.aload_n 0, 1) := by decide +kernel
theorem dX6_isLine_4 : decode cX6_isLine 4 = .ok (.getfield 9, 3) := by decide +kernel
theorem dX6_isLine_7 : decode cX6_isLine 7 = .ok (.iconst 0, 1) := by decide +kernel
theorem dX6_isLine_8 : decode cX6_isLine 8 = .ok (.iaload, 1) := by decide +kernel
theorem dX6_isLine_9 : decode cX6_isLine 9 = .ok (.if_icmp .ge 21, 3) := by decide +kernel
theorem dX6_isLine_12 : decode cX6_isLine 12 = .ok (.aload_n 0, 1) := by decide +kernel
theorem dX6_isLine_13 : decode cX6_isLine 13 = .ok (.iload_n 1, 1) := by decide +kernel
theorem dX6_isLine_14 : decode cX6_isLine 14 = .ok (.iconst 4, 1) := by decide +kernel
theorem dX6_isLine_15 : decode cX6_isLine 15 = .ok (.invokevirtual 111, 3) := by decide +kernel
theorem dX6_isLine_18 : decode cX6_isLine 18 = .ok (.iconst 1, 1) := by decide +kernel
theorem dX6_isLine_19 : decode cX6_isLine 19 = .ok (.if_icmp .ne 5, 3) := by decide +kernel
theorem dX6_isLine_22 : decode cX6_isLine 22 = .ok (.iconst 0, 1) := by decide +kernel
theorem dX6_isLine_23 : decode cX6_isLine 23 = .ok (.ireturn, 1) := by decide +kernel
theorem dX6_isLine_24 : decode cX6_isLine 24 = .ok (.iinc 1 1, 3) := by decide +kernel
theorem dX6_isLine_27 : decode cX6_isLine 27 = .ok (.goto (-25), 3) := by decide +kernel
theorem dX6_isLine_30 : decode cX6_isLine 30 = .ok (.aload_n 0, 1) := by decide +kernel
theorem dX6_isLine_31 : decode cX6_isLine 31 = .ok (.getfield 9, 3) := by decide +kernel
theorem dX6_isLine_34 : decode cX6_isLine 34 = .ok (.iconst 0, 1) := by decide +kernel
theorem dX6_isLine_35 : decode cX6_isLine 35 = .ok (.iaload, 1) := by decide +kernel
theorem dX6_isLine_36 : decode cX6_isLine 36 = .ok (.ifCond .le 7, 3) := by decide +kernel
theorem dX6_isLine_39 : decode cX6_isLine 39 = .ok (.iconst 1, 1) := by decide +kernel
theorem dX6_isLine_40 : decode cX6_isLine 40 = .ok (.goto 4, 3) := by decide +kernel
theorem dX6_isLine_43 : decode cX6_isLine 43 = .ok (.iconst 0, 1) := by decide +kernel
theorem dX6_isLine_44 : decode cX6_isLine 44 = .ok (.ireturn, 1) := by decide +kernel
theorem dX6_rounds_0 : decode cX6_rounds 0 = .ok (.aload_n 0, 1) := by decide +kernel
theorem dX6_rounds_1 : decode cX6_rounds 1 = .ok (.aload_n 0, 1) := by decide +kernel
theorem dX6_rounds_2 : decode cX6_rounds 2 = .ok (.getfield 144, 3) := by decide +kernel
theorem dX6_rounds_5 : decode cX6_rounds 5 = .ok (.bipush 100, 2) := by decide +kernel
theorem dX6_rounds_7 : decode cX6_rounds 7 = .ok (.if_icmp .ge 7, 3) := by decide +kernel
theorem dX6_rounds_10 : decode cX6_rounds 10 = .ok (.iconst 1, 1) := by decide +kernel
theorem dX6_rounds_11 : decode cX6_rounds 11 = .ok (.goto 10, 3) := by decide +kernel
theorem dX6_rounds_14 : decode cX6_rounds 14 = .ok (.aload_n 0, 1) := by decide +kernel
theorem dX6_rounds_15 : decode cX6_rounds 15 = .ok (.getfield 144, 3) := by decide +kernel
theorem dX6_rounds_18 : decode cX6_rounds 18 = .ok (.bipush 100, 2) := by decide +kernel
theorem dX6_rounds_20 : decode cX6_rounds 20 = .ok (.idiv, 1) := by decide +kernel
theorem dX6_rounds_21 : decode cX6_rounds 21 = .ok (.putfield 144, 3) := by decide +kernel
theorem dX6_rounds_24 : decode cX6_rounds 24 = .ok (.return_, 1) := by decide +kernel
theorem dX6_sumsUp_0 : decode cX6_sumsUp 0 = .ok (.aload_n 0, 1) := by decide +kernel
theorem dX6_sumsUp_1 : decode cX6_sumsUp 1 = .ok (.iconst 0, 1) := by decide +kernel
theorem dX6_sumsUp_2 : decode cX6_sumsUp 2 = .ok (.putfield 138, 3) := by decide +kernel
theorem dX6_sumsUp_5 : decode cX6_sumsUp 5 = .ok (.aload_n 0, 1) := by decide +kernel
theorem dX6_sumsUp_6 : decode cX6_sumsUp 6 = .ok (.iconst 0, 1) := by decide +kernel
theorem dX6_sumsUp_7 : decode cX6_sumsUp 7 = .ok (.putfield 141, 3) := by decide +kernel
theorem dX6_sumsUp_10 : decode cX6_sumsUp 10 = .ok (.aload_n 0, 1) := by decide +kernel
theorem dX6_sumsUp_11 : decode cX6_sumsUp 11 = .ok (.iconst 0, 1) := by decide +kernel
theorem dX6_sumsUp_12 : decode cX6_sumsUp 12 = .ok (.putfield 144, 3) := by decide +kernel
theorem dX6_sumsUp_15 : decode cX6_sumsUp 15 = .ok (.iconst 0, 1) := by decide +kernel
theorem dX6_sumsUp_16 : decode cX6_sumsUp 16 = .ok (.istore_n 2, 1) := by decide +kernel
theorem dX6_sumsUp_17 : decode cX6_sumsUp 17 = .ok (.iload_n 2, 1) := by decide +kernel
theorem dX6_sumsUp_18 : decode cX6_sumsUp 18 = .ok (.aload_n 0, 1) := by decide +kernel
theorem dX6_sumsUp_19 : decode cX6_sumsUp 19 = .ok (.getfield 9, 3) := by decide +kernel
theorem dX6_sumsUp_22 : decode cX6_sumsUp 22 = .ok (.iconst 0, 1) := by decide +kernel
theorem dX6_sumsUp_23 : decode cX6_sumsUp 23 = .ok (.iaload, 1) := by decide +kernel
theorem dX6_sumsUp_24 : decode cX6_sumsUp 24 = .ok (.if_icmp .ge 89, 3) := by decide +kernel
theorem dX6_sumsUp_27 : decode cX6_sumsUp 27 = .ok (.iload_n 1, 1) := by decide +kernel
theorem dX6_sumsUp_28 : decode cX6_sumsUp 28 = .ok (.iload_n 2, 1) := by decide +kernel
theorem dX6_sumsUp_29 : decode cX6_sumsUp 29 = .ok (.ishr, 1) := by decide +kernel
theorem dX6_sumsUp_30 : decode cX6_sumsUp 30 = .ok (.iconst 1, 1) := by decide +kernel
theorem dX6_sumsUp_31 : decode cX6_sumsUp 31 = .ok (.iand, 1) := by decide +kernel
theorem dX6_sumsUp_32 : decode cX6_sumsUp 32 = .ok (.ifCond .ne 6, 3) := by decide +kernel
theorem dX6_sumsUp_35 : decode cX6_sumsUp 35 = .ok (.goto 72, 3) := by decide +kernel
theorem dX6_sumsUp_38 : decode cX6_sumsUp 38 = .ok (.aload_n 0, 1) := by decide +kernel
theorem dX6_sumsUp_39 : decode cX6_sumsUp 39 = .ok (.iload_n 2, 1) := by decide +kernel
theorem dX6_sumsUp_40 : decode cX6_sumsUp 40 = .ok (.iconst 2, 1) := by decide +kernel
theorem dX6_sumsUp_41 : decode cX6_sumsUp 41 = .ok (.invokevirtual 111, 3) := by decide +kernel
theorem dX6_sumsUp_44 : decode cX6_sumsUp 44 = .ok (.istore_n 3, 1) := by decide +kernel
theorem dX6_sumsUp_45 : decode cX6_sumsUp 45 = .ok (.aload_n 0, 1) := by decide +kernel
theorem dX6_sumsUp_46 : decode cX6_sumsUp 46 = .ok (.dup, 1) := by decide +kernel
theorem dX6_sumsUp_47 : decode cX6_sumsUp 47 = .ok (.getfield 138, 3) := by decide +kernel
theorem dX6_sumsUp_50 : decode cX6_sumsUp 50 = .ok (.iload_n 3, 1) := by decide +kernel
theorem dX6_sumsUp_51 : decode cX6_sumsUp 51 = .ok (.iadd, 1) := by decide +kernel
theorem dX6_sumsUp_52 : decode cX6_sumsUp 52 = .ok (.putfield 138, 3) := by decide +kernel
theorem dX6_sumsUp_55 : decode cX6_sumsUp 55 = .ok (.aload_n 0, 1) := by decide +kernel
theorem dX6_sumsUp_56 : decode cX6_sumsUp 56 = .ok (.dup, 1) := by decide +kernel
theorem dX6_sumsUp_57 : decode cX6_sumsUp 57 = .ok (.getfield 141, 3) := by decide +kernel
theorem dX6_sumsUp_60 : decode cX6_sumsUp 60 = .ok (.iload_n 3, 1) := by decide +kernel
theorem dX6_sumsUp_61 : decode cX6_sumsUp 61 = .ok (.aload_n 0, 1) := by decide +kernel
theorem dX6_sumsUp_62 : decode cX6_sumsUp 62 = .ok (.iload_n 2, 1) := by decide +kernel
theorem dX6_sumsUp_63 : decode cX6_sumsUp 63 = .ok (.iconst 0, 1) := by decide +kernel
theorem dX6_sumsUp_64 : decode cX6_sumsUp 64 = .ok (.invokevirtual 111, 3) := by decide +kernel
theorem dX6_sumsUp_67 : decode cX6_sumsUp 67 = .ok (.aload_n 0, 1) := by decide +kernel
theorem dX6_sumsUp_68 : decode cX6_sumsUp 68 = .ok (.iload_n 2, 1) := by decide +kernel
theorem dX6_sumsUp_69 : decode cX6_sumsUp 69 = .ok (.iconst 1, 1) := by decide +kernel
theorem dX6_sumsUp_70 : decode cX6_sumsUp 70 = .ok (.invokevirtual 111, 3) := by decide +kernel
theorem dX6_sumsUp_73 : decode cX6_sumsUp 73 = .ok (.invokestatic 120, 3) := by decide +kernel
theorem dX6_sumsUp_76 : decode cX6_sumsUp 76 = .ok (.imul, 1) := by decide +kernel
theorem dX6_sumsUp_77 : decode cX6_sumsUp 77 = .ok (.iadd, 1) := by decide +kernel
theorem dX6_sumsUp_78 : decode cX6_sumsUp 78 = .ok (.putfield 141, 3) := by decide +kernel
theorem dX6_sumsUp_81 : decode cX6_sumsUp 81 = .ok (.aload_n 0, 1) := by decide +kernel
theorem dX6_sumsUp_82 : decode cX6_sumsUp 82 = .ok (.dup, 1) := by decide +kernel
theorem dX6_sumsUp_83 : decode cX6_sumsUp 83 = .ok (.getfield 144, 3) := by decide +kernel
theorem dX6_sumsUp_86 : decode cX6_sumsUp 86 = .ok (.iload_n 3, 1) := by decide +kernel
theorem dX6_sumsUp_87 : decode cX6_sumsUp 87 = .ok (.aload_n 0, 1) := by decide +kernel
theorem dX6_sumsUp_88 : decode cX6_sumsUp 88 = .ok (.iload_n 2, 1) := by decide +kernel
theorem dX6_sumsUp_89 : decode cX6_sumsUp 89 = .ok (.iconst 0, 1) := by decide +kernel
theorem dX6_sumsUp_90 : decode cX6_sumsUp 90 = .ok (.invokevirtual 111, 3) := by decide +kernel
theorem dX6_sumsUp_93 : decode cX6_sumsUp 93 = .ok (.aload_n 0, 1) := by decide +kernel
theorem dX6_sumsUp_94 : decode cX6_sumsUp 94 = .ok (.iload_n 2, 1) := by decide +kernel
theorem dX6_sumsUp_95 : decode cX6_sumsUp 95 = .ok (.iconst 1, 1) := by decide +kernel
theorem dX6_sumsUp_96 : decode cX6_sumsUp 96 = .ok (.invokevirtual 111, 3) := by decide +kernel
theorem dX6_sumsUp_99 : decode cX6_sumsUp 99 = .ok (.invokestatic 123, 3) := by decide +kernel
theorem dX6_sumsUp_102 : decode cX6_sumsUp 102 = .ok (.imul, 1) := by decide +kernel
theorem dX6_sumsUp_103 : decode cX6_sumsUp 103 = .ok (.iadd, 1) := by decide +kernel
theorem dX6_sumsUp_104 : decode cX6_sumsUp 104 = .ok (.putfield 144, 3) := by decide +kernel
theorem dX6_sumsUp_107 : decode cX6_sumsUp 107 = .ok (.iinc 2 1, 3) := by decide +kernel
theorem dX6_sumsUp_110 : decode cX6_sumsUp 110 = .ok (.goto (-93), 3) := by decide +kernel
theorem dX6_sumsUp_113 : decode cX6_sumsUp 113 = .ok (.aload_n 0, 1) := by decide +kernel
theorem dX6_sumsUp_114 : decode cX6_sumsUp 114 = .ok (.invokevirtual 147, 3) := by decide +kernel
theorem dX6_sumsUp_117 : decode cX6_sumsUp 117 = .ok (.return_, 1) := by decide +kernel
theorem dX6_line_0 : decode cX6_line 0 = .ok (.iload_n 1, 1) := by decide +kernel
theorem dX6_line_1 : decode cX6_line 1 = .ok (.i2l, 1) := by decide +kernel
theorem dX6_line_2 : decode cX6_line 2 = .ok (.lconst 0, 1) := by decide +kernel
theorem dX6_line_3 : decode cX6_line 3 = .ok (.ldc2_w 168, 3) := by decide +kernel
theorem dX6_line_6 : decode cX6_line 6 = .ok (.invokestatic 47, 3) := by decide +kernel
theorem dX6_line_9 : decode cX6_line 9 = .ok (.ifCond .ne 5, 3) := by decide +kernel
theorem dX6_line_12 : decode cX6_line 12 = .ok (.iconst (-1), 1) := by decide +kernel
theorem dX6_line_13 : decode cX6_line 13 = .ok (.ireturn, 1) := by decide +kernel
theorem dX6_line_14 : decode cX6_line 14 = .ok (.aload_n 0, 1) := by decide +kernel
theorem dX6_line_15 : decode cX6_line 15 = .ok (.invokevirtual 170, 3) := by decide +kernel
theorem dX6_line_18 : decode cX6_line 18 = .ok (.ifCond .ne 6, 3) := by decide +kernel
theorem dX6_line_21 : decode cX6_line 21 = .ok (.bipush (-3), 2) := by decide +kernel
theorem dX6_line_23 : decode cX6_line 23 = .ok (.ireturn, 1) := by decide +kernel
theorem dX6_line_24 : decode cX6_line 24 = .ok (.aload_n 0, 1) := by decide +kernel
theorem dX6_line_25 : decode cX6_line 25 = .ok (.aload_n 0, 1) := by decide +kernel
theorem dX6_line_26 : decode cX6_line 26 = .ok (.invokevirtual 173, 3) := by decide +kernel
theorem dX6_line_29 : decode cX6_line 29 = .ok (.invokevirtual 176, 3) := by decide +kernel
theorem dX6_line_32 : decode cX6_line 32 = .ok (.iload_n 1, 1) := by decide +kernel
theorem dX6_line_33 : decode cX6_line 33 = .ok (.ifCond .ne 10, 3) := by decide +kernel
theorem dX6_line_36 : decode cX6_line 36 = .ok (.aload_n 0, 1) := by decide +kernel
theorem dX6_line_37 : decode cX6_line 37 = .ok (.getfield 138, 3) := by decide +kernel
theorem dX6_line_40 : decode cX6_line 40 = .ok (.goto 57, 3) := by decide +kernel
theorem dX6_line_43 : decode cX6_line 43 = .ok (.iload_n 1, 1) := by decide +kernel
theorem dX6_line_44 : decode cX6_line 44 = .ok (.iconst 1, 1) := by decide +kernel
theorem dX6_line_45 : decode cX6_line 45 = .ok (.if_icmp .ne 10, 3) := by decide +kernel
theorem dX6_line_48 : decode cX6_line 48 = .ok (.aload_n 0, 1) := by decide +kernel
theorem dX6_line_49 : decode cX6_line 49 = .ok (.getfield 141, 3) := by decide +kernel
theorem dX6_line_52 : decode cX6_line 52 = .ok (.goto 45, 3) := by decide +kernel
theorem dX6_line_55 : decode cX6_line 55 = .ok (.iload_n 1, 1) := by decide +kernel
theorem dX6_line_56 : decode cX6_line 56 = .ok (.iconst 2, 1) := by decide +kernel
theorem dX6_line_57 : decode cX6_line 57 = .ok (.if_icmp .ne 10, 3) := by decide +kernel
theorem dX6_line_60 : decode cX6_line 60 = .ok (.aload_n 0, 1) := by decide +kernel
theorem dX6_line_61 : decode cX6_line 61 = .ok (.getfield 144, 3) := by decide +kernel
theorem dX6_line_64 : decode cX6_line 64 = .ok (.goto 33, 3) := by decide +kernel
theorem dX6_line_67 : decode cX6_line 67 = .ok (.iload_n 1, 1) := by decide +kernel
theorem dX6_line_68 : decode cX6_line 68 = .ok (.iconst 3, 1) := by decide +kernel
theorem dX6_line_69 : decode cX6_line 69 = .ok (.if_icmp .ne 10, 3) := by decide +kernel
theorem dX6_line_72 : decode cX6_line 72 = .ok (.aload_n 0, 1) := by decide +kernel
theorem dX6_line_73 : decode cX6_line 73 = .ok (.invokevirtual 159, 3) := by decide +kernel
theorem dX6_line_76 : decode cX6_line 76 = .ok (.goto 21, 3) := by decide +kernel
theorem dX6_line_79 : decode cX6_line 79 = .ok (.iload_n 1, 1) := by decide +kernel
theorem dX6_line_80 : decode cX6_line 80 = .ok (.iconst 4, 1) := by decide +kernel
theorem dX6_line_81 : decode cX6_line 81 = .ok (.if_icmp .ne 12, 3) := by decide +kernel
theorem dX6_line_84 : decode cX6_line 84 = .ok (.aload_n 0, 1) := by decide +kernel
theorem dX6_line_85 : decode cX6_line 85 = .ok (.invokevirtual 159, 3) := by decide +kernel
theorem dX6_line_88 : decode cX6_line 88 = .ok (.iconst 4, 1) := by decide +kernel
theorem dX6_line_89 : decode cX6_line 89 = .ok (.idiv, 1) := by decide +kernel
theorem dX6_line_90 : decode cX6_line 90 = .ok (.goto 7, 3) := by decide +kernel
theorem dX6_line_93 : decode cX6_line 93 = .ok (.aload_n 0, 1) := by decide +kernel
theorem dX6_line_94 : decode cX6_line 94 = .ok (.invokevirtual 165, 3) := by decide +kernel
theorem dX6_line_97 : decode cX6_line 97 = .ok (.ireturn, 1) := by decide +kernel
theorem dX0_riseAt_0 : decode cX0_riseAt 0 = .ok (.iconst 1, 1) := by decide +kernel
theorem dX0_riseAt_1 : decode cX0_riseAt 1 = .ok (.aload_n 0, 1) := by decide +kernel
theorem dX0_riseAt_2 : decode cX0_riseAt 2 = .ok (.getfield 24, 3) := by decide +kernel
theorem dX0_riseAt_5 : decode cX0_riseAt 5 = .ok (.invokestatic 42, 3) := by decide +kernel
theorem dX0_riseAt_8 : decode cX0_riseAt 8 = .ok (.istore_n 2, 1) := by decide +kernel
theorem dX0_riseAt_9 : decode cX0_riseAt 9 = .ok (.iload_n 1, 1) := by decide +kernel
theorem dX0_riseAt_10 : decode cX0_riseAt 10 = .ok (.iload_n 2, 1) := by decide +kernel
theorem dX0_riseAt_11 : decode cX0_riseAt 11 = .ok (.irem, 1) := by decide +kernel
theorem dX0_riseAt_12 : decode cX0_riseAt 12 = .ok (.istore_n 3, 1) := by decide +kernel
theorem dX0_riseAt_13 : decode cX0_riseAt 13 = .ok (.iconst 2, 1) := by decide +kernel
theorem dX0_riseAt_14 : decode cX0_riseAt 14 = .ok (.iload_n 3, 1) := by decide +kernel
theorem dX0_riseAt_15 : decode cX0_riseAt 15 = .ok (.imul, 1) := by decide +kernel
theorem dX0_riseAt_16 : decode cX0_riseAt 16 = .ok (.iload_n 2, 1) := by decide +kernel
theorem dX0_riseAt_17 : decode cX0_riseAt 17 = .ok (.if_icmp .gt 9, 3) := by decide +kernel
theorem dX0_riseAt_20 : decode cX0_riseAt 20 = .ok (.iconst 2, 1) := by decide +kernel
theorem dX0_riseAt_21 : decode cX0_riseAt 21 = .ok (.iload_n 3, 1) := by decide +kernel
theorem dX0_riseAt_22 : decode cX0_riseAt 22 = .ok (.imul, 1) := by decide +kernel
theorem dX0_riseAt_23 : decode cX0_riseAt 23 = .ok (.goto 8, 3) := by decide +kernel
theorem dX0_riseAt_26 : decode cX0_riseAt 26 = .ok (.iconst 2, 1) := by decide +kernel
theorem dX0_riseAt_27 : decode cX0_riseAt 27 = .ok (.iload_n 2, 1) := by decide +kernel
theorem dX0_riseAt_28 : decode cX0_riseAt 28 = .ok (.iload_n 3, 1) := by decide +kernel
theorem dX0_riseAt_29 : decode cX0_riseAt 29 = .ok (.isub, 1) := by decide +kernel
theorem dX0_riseAt_30 : decode cX0_riseAt 30 = .ok (.imul, 1) := by decide +kernel
theorem dX0_riseAt_31 : decode cX0_riseAt 31 = .ok (.istore 4, 2) := by decide +kernel
theorem dX0_riseAt_33 : decode cX0_riseAt 33 = .ok (.aload_n 0, 1) := by decide +kernel
theorem dX0_riseAt_34 : decode cX0_riseAt 34 = .ok (.getfield 21, 3) := by decide +kernel
theorem dX0_riseAt_37 : decode cX0_riseAt 37 = .ok (.iload 4, 2) := by decide +kernel
theorem dX0_riseAt_39 : decode cX0_riseAt 39 = .ok (.imul, 1) := by decide +kernel
theorem dX0_riseAt_40 : decode cX0_riseAt 40 = .ok (.iload_n 2, 1) := by decide +kernel
theorem dX0_riseAt_41 : decode cX0_riseAt 41 = .ok (.idiv, 1) := by decide +kernel
theorem dX0_riseAt_42 : decode cX0_riseAt 42 = .ok (.ireturn, 1) := by decide +kernel
theorem dX0_apartAt_0 : decode cX0_apartAt 0 = .ok (.aload_n 0, 1) := by decide +kernel
theorem dX0_apartAt_1 : decode cX0_apartAt 1 = .ok (.iload_n 1, 1) := by decide +kernel
theorem dX0_apartAt_2 : decode cX0_apartAt 2 = .ok (.invokevirtual 52, 3) := by decide +kernel
theorem dX0_apartAt_5 : decode cX0_apartAt 5 = .ok (.aload_n 0, 1) := by decide +kernel
theorem dX0_apartAt_6 : decode cX0_apartAt 6 = .ok (.iload_n 1, 1) := by decide +kernel
theorem dX0_apartAt_7 : decode cX0_apartAt 7 = .ok (.aload_n 0, 1) := by decide +kernel
theorem dX0_apartAt_8 : decode cX0_apartAt 8 = .ok (.getfield 9, 3) := by decide +kernel
theorem dX0_apartAt_11 : decode cX0_apartAt 11 = .ok (.iadd, 1) := by decide +kernel
theorem dX0_apartAt_12 : decode cX0_apartAt 12 = .ok (.invokevirtual 52, 3) := by decide +kernel
theorem dX0_apartAt_15 : decode cX0_apartAt 15 = .ok (.isub, 1) := by decide +kernel
theorem dX0_apartAt_16 : decode cX0_apartAt 16 = .ok (.invokestatic 56, 3) := by decide +kernel
theorem dX0_apartAt_19 : decode cX0_apartAt 19 = .ok (.ireturn, 1) := by decide +kernel
theorem dX5_apart_0 : decode cX5_apart 0 = .ok (.iload_n 1, 1) := by decide +kernel
theorem dX5_apart_1 : decode cX5_apart 1 = .ok (.iconst 0, 1) := by decide +kernel
theorem dX5_apart_2 : decode cX5_apart 2 = .ok (.sipush 9999, 3) := by decide +kernel
theorem dX5_apart_5 : decode cX5_apart 5 = .ok (.invokestatic 129, 3) := by decide +kernel
theorem dX5_apart_8 : decode cX5_apart 8 = .ok (.ifCond .ne 5, 3) := by decide +kernel
theorem dX5_apart_11 : decode cX5_apart 11 = .ok (.iconst (-1), 1) := by decide +kernel
theorem dX5_apart_12 : decode cX5_apart 12 = .ok (.ireturn, 1) := by decide +kernel
theorem dX5_apart_13 : decode cX5_apart 13 = .ok (.aload_n 0, 1) := by decide +kernel
theorem dX5_apart_14 : decode cX5_apart 14 = .ok (.invokevirtual 110, 3) := by decide +kernel
theorem dX5_apart_17 : decode cX5_apart 17 = .ok (.ifCond .eq 14, 3) := by decide +kernel
theorem dX5_apart_20 : decode cX5_apart 20 = .ok (.aload_n 0, 1) := by decide +kernel
theorem dX5_apart_21 : decode cX5_apart 21 = .ok (.getfield 25, 3) := by decide +kernel
theorem dX5_apart_24 : decode cX5_apart 24 = .ok (.iload_n 1, 1) := by decide +kernel
theorem dX5_apart_25 : decode cX5_apart 25 = .ok (.invokevirtual 133, 3) := by decide +kernel
theorem dX5_apart_28 : decode cX5_apart 28 = .ok (.goto 5, 3) := by decide +kernel
theorem dX5_apart_31 : decode cX5_apart 31 = .ok (.bipush (-3), 2) := by decide +kernel
theorem dX5_apart_33 : decode cX5_apart 33 = .ok (.ireturn, 1) := by decide +kernel
theorem dX6_amount_0 : decode cX6_amount 0 = .ok (.iload_n 0, 1) := by decide +kernel
theorem dX6_amount_1 : decode cX6_amount 1 = .ok (.ifCond .ge 8, 3) := by decide +kernel
theorem dX6_amount_4 : decode cX6_amount 4 = .ok (.iload_n 0, 1) := by decide +kernel
theorem dX6_amount_5 : decode cX6_amount 5 = .ok (.ineg, 1) := by decide +kernel
theorem dX6_amount_6 : decode cX6_amount 6 = .ok (.goto 4, 3) := by decide +kernel
theorem dX6_amount_9 : decode cX6_amount 9 = .ok (.iload_n 0, 1) := by decide +kernel
theorem dX6_amount_10 : decode cX6_amount 10 = .ok (.ireturn, 1) := by decide +kernel
theorem dX6_rise_0 : decode cX6_rise 0 = .ok (.iload_n 1, 1) := by decide +kernel
theorem dX6_rise_1 : decode cX6_rise 1 = .ok (.aload_n 0, 1) := by decide +kernel
theorem dX6_rise_2 : decode cX6_rise 2 = .ok (.getfield 9, 3) := by decide +kernel
theorem dX6_rise_5 : decode cX6_rise 5 = .ok (.bipush 6, 2) := by decide +kernel
theorem dX6_rise_7 : decode cX6_rise 7 = .ok (.iaload, 1) := by decide +kernel
theorem dX6_rise_8 : decode cX6_rise 8 = .ok (.irem, 1) := by decide +kernel
theorem dX6_rise_9 : decode cX6_rise 9 = .ok (.istore_n 3, 1) := by decide +kernel
theorem dX6_rise_10 : decode cX6_rise 10 = .ok (.iconst 2, 1) := by decide +kernel
theorem dX6_rise_11 : decode cX6_rise 11 = .ok (.iload_n 3, 1) := by decide +kernel
theorem dX6_rise_12 : decode cX6_rise 12 = .ok (.imul, 1) := by decide +kernel
theorem dX6_rise_13 : decode cX6_rise 13 = .ok (.aload_n 0, 1) := by decide +kernel
theorem dX6_rise_14 : decode cX6_rise 14 = .ok (.getfield 9, 3) := by decide +kernel
theorem dX6_rise_17 : decode cX6_rise 17 = .ok (.bipush 6, 2) := by decide +kernel
theorem dX6_rise_19 : decode cX6_rise 19 = .ok (.iaload, 1) := by decide +kernel
theorem dX6_rise_20 : decode cX6_rise 20 = .ok (.if_icmp .gt 9, 3) := by decide +kernel
theorem dX6_rise_23 : decode cX6_rise 23 = .ok (.iconst 2, 1) := by decide +kernel
theorem dX6_rise_24 : decode cX6_rise 24 = .ok (.iload_n 3, 1) := by decide +kernel
theorem dX6_rise_25 : decode cX6_rise 25 = .ok (.imul, 1) := by decide +kernel
theorem dX6_rise_26 : decode cX6_rise 26 = .ok (.goto 14, 3) := by decide +kernel
theorem dX6_rise_29 : decode cX6_rise 29 = .ok (.iconst 2, 1) := by decide +kernel
theorem dX6_rise_30 : decode cX6_rise 30 = .ok (.aload_n 0, 1) := by decide +kernel
theorem dX6_rise_31 : decode cX6_rise 31 = .ok (.getfield 9, 3) := by decide +kernel
theorem dX6_rise_34 : decode cX6_rise 34 = .ok (.bipush 6, 2) := by decide +kernel
theorem dX6_rise_36 : decode cX6_rise 36 = .ok (.iaload, 1) := by decide +kernel
theorem dX6_rise_37 : decode cX6_rise 37 = .ok (.iload_n 3, 1) := by decide +kernel
theorem dX6_rise_38 : decode cX6_rise 38 = .ok (.isub, 1) := by decide +kernel
theorem dX6_rise_39 : decode cX6_rise 39 = .ok (.imul, 1) := by decide +kernel
theorem dX6_rise_40 : decode cX6_rise 40 = .ok (.istore 4, 2) := by decide +kernel
theorem dX6_rise_42 : decode cX6_rise 42 = .ok (.iload_n 2, 1) := by decide +kernel
theorem dX6_rise_43 : decode cX6_rise 43 = .ok (.iload 4, 2) := by decide +kernel
theorem dX6_rise_45 : decode cX6_rise 45 = .ok (.imul, 1) := by decide +kernel
theorem dX6_rise_46 : decode cX6_rise 46 = .ok (.aload_n 0, 1) := by decide +kernel
theorem dX6_rise_47 : decode cX6_rise 47 = .ok (.getfield 9, 3) := by decide +kernel
theorem dX6_rise_50 : decode cX6_rise 50 = .ok (.bipush 6, 2) := by decide +kernel
theorem dX6_rise_52 : decode cX6_rise 52 = .ok (.iaload, 1) := by decide +kernel
theorem dX6_rise_53 : decode cX6_rise 53 = .ok (.idiv, 1) := by decide +kernel
theorem dX6_rise_54 : decode cX6_rise 54 = .ok (.ireturn, 1) := by decide +kernel
theorem dX6_apartAt_0 : decode cX6_apartAt 0 = .ok (.aload_n 0, 1) := by decide +kernel
theorem dX6_apartAt_1 : decode cX6_apartAt 1 = .ok (.iload_n 1, 1) := by decide +kernel
theorem dX6_apartAt_2 : decode cX6_apartAt 2 = .ok (.iload_n 2, 1) := by decide +kernel
theorem dX6_apartAt_3 : decode cX6_apartAt 3 = .ok (.invokevirtual 150, 3) := by decide +kernel
theorem dX6_apartAt_6 : decode cX6_apartAt 6 = .ok (.aload_n 0, 1) := by decide +kernel
theorem dX6_apartAt_7 : decode cX6_apartAt 7 = .ok (.iload_n 1, 1) := by decide +kernel
theorem dX6_apartAt_8 : decode cX6_apartAt 8 = .ok (.aload_n 0, 1) := by decide +kernel
theorem dX6_apartAt_9 : decode cX6_apartAt 9 = .ok (.getfield 138, 3) := by decide +kernel
theorem dX6_apartAt_12 : decode cX6_apartAt 12 = .ok (.iadd, 1) := by decide +kernel
theorem dX6_apartAt_13 : decode cX6_apartAt 13 = .ok (.iload_n 2, 1) := by decide +kernel
theorem dX6_apartAt_14 : decode cX6_apartAt 14 = .ok (.invokevirtual 150, 3) := by decide +kernel
theorem dX6_apartAt_17 : decode cX6_apartAt 17 = .ok (.isub, 1) := by decide +kernel
theorem dX6_apartAt_18 : decode cX6_apartAt 18 = .ok (.invokestatic 153, 3) := by decide +kernel
theorem dX6_apartAt_21 : decode cX6_apartAt 21 = .ok (.ireturn, 1) := by decide +kernel
theorem dX6_apart_0 : decode cX6_apart 0 = .ok (.iload_n 1, 1) := by decide +kernel
theorem dX6_apart_1 : decode cX6_apart 1 = .ok (.i2l, 1) := by decide +kernel
theorem dX6_apart_2 : decode cX6_apart 2 = .ok (.lconst 0, 1) := by decide +kernel
theorem dX6_apart_3 : decode cX6_apart 3 = .ok (.ldc2_w 180, 3) := by decide +kernel
theorem dX6_apart_6 : decode cX6_apart 6 = .ok (.invokestatic 47, 3) := by decide +kernel
theorem dX6_apart_9 : decode cX6_apart 9 = .ok (.ifCond .ne 5, 3) := by decide +kernel
theorem dX6_apart_12 : decode cX6_apart 12 = .ok (.iconst (-1), 1) := by decide +kernel
theorem dX6_apart_13 : decode cX6_apart 13 = .ok (.ireturn, 1) := by decide +kernel
theorem dX6_apart_14 : decode cX6_apart 14 = .ok (.aload_n 0, 1) := by decide +kernel
theorem dX6_apart_15 : decode cX6_apart 15 = .ok (.invokevirtual 170, 3) := by decide +kernel
theorem dX6_apart_18 : decode cX6_apart 18 = .ok (.ifCond .ne 6, 3) := by decide +kernel
theorem dX6_apart_21 : decode cX6_apart 21 = .ok (.bipush (-3), 2) := by decide +kernel
theorem dX6_apart_23 : decode cX6_apart 23 = .ok (.ireturn, 1) := by decide +kernel
theorem dX6_apart_24 : decode cX6_apart 24 = .ok (.aload_n 0, 1) := by decide +kernel
theorem dX6_apart_25 : decode cX6_apart 25 = .ok (.aload_n 0, 1) := by decide +kernel
theorem dX6_apart_26 : decode cX6_apart 26 = .ok (.invokevirtual 173, 3) := by decide +kernel
theorem dX6_apart_29 : decode cX6_apart 29 = .ok (.invokevirtual 176, 3) := by decide +kernel
theorem dX6_apart_32 : decode cX6_apart 32 = .ok (.aload_n 0, 1) := by decide +kernel
theorem dX6_apart_33 : decode cX6_apart 33 = .ok (.iload_n 1, 1) := by decide +kernel
theorem dX6_apart_34 : decode cX6_apart 34 = .ok (.aload_n 0, 1) := by decide +kernel
theorem dX6_apart_35 : decode cX6_apart 35 = .ok (.getfield 9, 3) := by decide +kernel
theorem dX6_apart_38 : decode cX6_apart 38 = .ok (.iconst 5, 1) := by decide +kernel
theorem dX6_apart_39 : decode cX6_apart 39 = .ok (.iaload, 1) := by decide +kernel
theorem dX6_apart_40 : decode cX6_apart 40 = .ok (.invokevirtual 156, 3) := by decide +kernel
theorem dX6_apart_43 : decode cX6_apart 43 = .ok (.ireturn, 1) := by decide +kernel
theorem dX0_overAt_0 : decode cX0_overAt 0 = .ok (.aload_n 0, 1) := by decide +kernel
theorem dX0_overAt_1 : decode cX0_overAt 1 = .ok (.iload_n 1, 1) := by decide +kernel
theorem dX0_overAt_2 : decode cX0_overAt 2 = .ok (.invokevirtual 59, 3) := by decide +kernel
theorem dX0_overAt_5 : decode cX0_overAt 5 = .ok (.aload_n 0, 1) := by decide +kernel
theorem dX0_overAt_6 : decode cX0_overAt 6 = .ok (.invokevirtual 62, 3) := by decide +kernel
theorem dX0_overAt_9 : decode cX0_overAt 9 = .ok (.isub, 1) := by decide +kernel
theorem dX0_overAt_10 : decode cX0_overAt 10 = .ok (.ireturn, 1) := by decide +kernel
theorem dX0_pullOver_0 : decode cX0_pullOver 0 = .ok (.iload_n 1, 1) := by decide +kernel
theorem dX0_pullOver_1 : decode cX0_pullOver 1 = .ok (.ifCond .gt 10, 3) := by decide +kernel
theorem dX0_pullOver_4 : decode cX0_pullOver 4 = .ok (.aload_n 0, 1) := by decide +kernel
theorem dX0_pullOver_5 : decode cX0_pullOver 5 = .ok (.invokevirtual 65, 3) := by decide +kernel
theorem dX0_pullOver_8 : decode cX0_pullOver 8 = .ok (.goto 17, 3) := by decide +kernel
theorem dX0_pullOver_11 : decode cX0_pullOver 11 = .ok (.aload_n 0, 1) := by decide +kernel
theorem dX0_pullOver_12 : decode cX0_pullOver 12 = .ok (.invokevirtual 65, 3) := by decide +kernel
theorem dX0_pullOver_15 : decode cX0_pullOver 15 = .ok (.bipush 20, 2) := by decide +kernel
theorem dX0_pullOver_17 : decode cX0_pullOver 17 = .ok (.iload_n 1, 1) := by decide +kernel
theorem dX0_pullOver_18 : decode cX0_pullOver 18 = .ok (.imul, 1) := by decide +kernel
theorem dX0_pullOver_19 : decode cX0_pullOver 19 = .ok (.aload_n 0, 1) := by decide +kernel
theorem dX0_pullOver_20 : decode cX0_pullOver 20 = .ok (.invokevirtual 68, 3) := by decide +kernel
theorem dX0_pullOver_23 : decode cX0_pullOver 23 = .ok (.idiv, 1) := by decide +kernel
theorem dX0_pullOver_24 : decode cX0_pullOver 24 = .ok (.iadd, 1) := by decide +kernel
theorem dX0_pullOver_25 : decode cX0_pullOver 25 = .ok (.ireturn, 1) := by decide +kernel
theorem dX0_pullAt_0 : decode cX0_pullAt 0 = .ok (.aload_n 0, 1) := by decide +kernel
theorem dX0_pullAt_1 : decode cX0_pullAt 1 = .ok (.aload_n 0, 1) := by decide +kernel
theorem dX0_pullAt_2 : decode cX0_pullAt 2 = .ok (.iload_n 1, 1) := by decide +kernel
theorem dX0_pullAt_3 : decode cX0_pullAt 3 = .ok (.invokevirtual 71, 3) := by decide +kernel
theorem dX0_pullAt_6 : decode cX0_pullAt 6 = .ok (.invokevirtual 74, 3) := by decide +kernel
theorem dX0_pullAt_9 : decode cX0_pullAt 9 = .ok (.ireturn, 1) := by decide +kernel
theorem dX5_pull_0 : decode cX5_pull 0 = .ok (.iload_n 1, 1) := by decide +kernel
theorem dX5_pull_1 : decode cX5_pull 1 = .ok (.iconst 0, 1) := by decide +kernel
theorem dX5_pull_2 : decode cX5_pull 2 = .ok (.sipush 9999, 3) := by decide +kernel
theorem dX5_pull_5 : decode cX5_pull 5 = .ok (.invokestatic 129, 3) := by decide +kernel
theorem dX5_pull_8 : decode cX5_pull 8 = .ok (.ifCond .ne 5, 3) := by decide +kernel
theorem dX5_pull_11 : decode cX5_pull 11 = .ok (.iconst (-1), 1) := by decide +kernel
theorem dX5_pull_12 : decode cX5_pull 12 = .ok (.ireturn, 1) := by decide +kernel
theorem dX5_pull_13 : decode cX5_pull 13 = .ok (.aload_n 0, 1) := by decide +kernel
theorem dX5_pull_14 : decode cX5_pull 14 = .ok (.invokevirtual 110, 3) := by decide +kernel
theorem dX5_pull_17 : decode cX5_pull 17 = .ok (.ifCond .eq 14, 3) := by decide +kernel
theorem dX5_pull_20 : decode cX5_pull 20 = .ok (.aload_n 0, 1) := by decide +kernel
theorem dX5_pull_21 : decode cX5_pull 21 = .ok (.getfield 25, 3) := by decide +kernel
theorem dX5_pull_24 : decode cX5_pull 24 = .ok (.iload_n 1, 1) := by decide +kernel
theorem dX5_pull_25 : decode cX5_pull 25 = .ok (.invokevirtual 136, 3) := by decide +kernel
theorem dX5_pull_28 : decode cX5_pull 28 = .ok (.goto 5, 3) := by decide +kernel
theorem dX5_pull_31 : decode cX5_pull 31 = .ok (.bipush (-3), 2) := by decide +kernel
theorem dX5_pull_33 : decode cX5_pull 33 = .ok (.ireturn, 1) := by decide +kernel
theorem dX6_pullAt_0 : decode cX6_pullAt 0 = .ok (.aload_n 0, 1) := by decide +kernel
theorem dX6_pullAt_1 : decode cX6_pullAt 1 = .ok (.iload_n 1, 1) := by decide +kernel
theorem dX6_pullAt_2 : decode cX6_pullAt 2 = .ok (.iload_n 2, 1) := by decide +kernel
theorem dX6_pullAt_3 : decode cX6_pullAt 3 = .ok (.invokevirtual 156, 3) := by decide +kernel
theorem dX6_pullAt_6 : decode cX6_pullAt 6 = .ok (.aload_n 0, 1) := by decide +kernel
theorem dX6_pullAt_7 : decode cX6_pullAt 7 = .ok (.invokevirtual 159, 3) := by decide +kernel
theorem dX6_pullAt_10 : decode cX6_pullAt 10 = .ok (.iconst 4, 1) := by decide +kernel
theorem dX6_pullAt_11 : decode cX6_pullAt 11 = .ok (.idiv, 1) := by decide +kernel
theorem dX6_pullAt_12 : decode cX6_pullAt 12 = .ok (.isub, 1) := by decide +kernel
theorem dX6_pullAt_13 : decode cX6_pullAt 13 = .ok (.istore_n 3, 1) := by decide +kernel
theorem dX6_pullAt_14 : decode cX6_pullAt 14 = .ok (.aload_n 0, 1) := by decide +kernel
theorem dX6_pullAt_15 : decode cX6_pullAt 15 = .ok (.iload_n 3, 1) := by decide +kernel
theorem dX6_pullAt_16 : decode cX6_pullAt 16 = .ok (.ifCond .le 7, 3) := by decide +kernel
theorem dX6_pullAt_19 : decode cX6_pullAt 19 = .ok (.iconst 1, 1) := by decide +kernel
theorem dX6_pullAt_20 : decode cX6_pullAt 20 = .ok (.goto 4, 3) := by decide +kernel
theorem dX6_pullAt_23 : decode cX6_pullAt 23 = .ok (.iconst 0, 1) := by decide +kernel
theorem dX6_pullAt_24 : decode cX6_pullAt 24 = .ok (.putfield 162, 3) := by decide +kernel
theorem dX6_pullAt_27 : decode cX6_pullAt 27 = .ok (.aload_n 0, 1) := by decide +kernel
theorem dX6_pullAt_28 : decode cX6_pullAt 28 = .ok (.invokevirtual 165, 3) := by decide +kernel
theorem dX6_pullAt_31 : decode cX6_pullAt 31 = .ok (.aload_n 0, 1) := by decide +kernel
theorem dX6_pullAt_32 : decode cX6_pullAt 32 = .ok (.getfield 162, 3) := by decide +kernel
theorem dX6_pullAt_35 : decode cX6_pullAt 35 = .ok (.ifCond .eq 15, 3) := by decide +kernel
theorem dX6_pullAt_38 : decode cX6_pullAt 38 = .ok (.bipush 20, 2) := by decide +kernel
theorem dX6_pullAt_40 : decode cX6_pullAt 40 = .ok (.iload_n 3, 1) := by decide +kernel
theorem dX6_pullAt_41 : decode cX6_pullAt 41 = .ok (.imul, 1) := by decide +kernel
theorem dX6_pullAt_42 : decode cX6_pullAt 42 = .ok (.aload_n 0, 1) := by decide +kernel
theorem dX6_pullAt_43 : decode cX6_pullAt 43 = .ok (.getfield 144, 3) := by decide +kernel
theorem dX6_pullAt_46 : decode cX6_pullAt 46 = .ok (.idiv, 1) := by decide +kernel
theorem dX6_pullAt_47 : decode cX6_pullAt 47 = .ok (.goto 4, 3) := by decide +kernel
theorem dX6_pullAt_50 : decode cX6_pullAt 50 = .ok (.iconst 0, 1) := by decide +kernel
theorem dX6_pullAt_51 : decode cX6_pullAt 51 = .ok (.iadd, 1) := by decide +kernel
theorem dX6_pullAt_52 : decode cX6_pullAt 52 = .ok (.ireturn, 1) := by decide +kernel
section WALK
variable {p : Program} {l : Launch} {e : Env} {s : State} {m : MethodId} {args : Array Value} {below : List Frame} {meth : Method} {c : Code} {G : GG}

def j_X5_line_9 (post : Int32 → Mem → Prop) (M : Mem) : Prop := post (-1 : Int32) M
def q_X5_line (M : Mem) (x1 : Int32) (post : Int32 → Mem → Prop) : Prop := (x1 < 0 → (j_X5_line_9 post M)) ∧ (¬ (x1 < 0) → ((x1 ≤ (5 : Int32) → (q_X5_layLine M  (fun r3 M4 => (r3 = 0 → (post (-3 : Int32) M4)) ∧ (¬ (r3 = 0) → ((x1 = (0 : Int32) → (post (M4 4 0) M4)) ∧ (¬ x1 = (0 : Int32) → ((x1 = (1 : Int32) → (post (M4 4 1) M4)) ∧ (¬ x1 = (1 : Int32) → ((x1 = (2 : Int32) → (q_X0_giveOfAll M4  (fun r9 M10 => post r9 M10))) ∧ (¬ x1 = (2 : Int32) → ((x1 = (3 : Int32) → (q_X0_hang M4  (fun r12 M13 => post r12 M13))) ∧ (¬ x1 = (3 : Int32) → ((x1 = (4 : Int32) → (q_X0_slack M4  (fun r15 M16 => post r15 M16))) ∧ (¬ x1 = (4 : Int32) → (q_X0_base M4  (fun r17 M18 => post r17 M18)))))))))))))))) ∧ (¬ (x1 ≤ (5 : Int32)) → (j_X5_line_9 post M))))
set_option maxHeartbeats 4000000 in
set_option maxRecDepth 100000 in
theorem t_X5_line_9 (C : Cx G p s m args meth c RX5 cX5_line 2 (some .int)) {post : Int32 → Mem → Prop} (M : Mem) {H : Heap} {locs : List Loc} {ls : Array Slot} (w : Wd G s M H locs) (hl : lv_has ls 2 []) (h : j_X5_line_9 post M) : W p l e (rmk 3) s m args below meth c H locs 0 0 (MQ below (va_Qi post (Qw G) (Af G s.heap.size)) args s 0 0 (Af G s.heap.size)) (F0 m 9 ls []) := by
  have hx := C.1.1
  have hb := C.1.2.1
  unfold j_X5_line_9 at h
  refine lv_iconst (v := -1) hx hb dX5_line_9 (by decide) ?_
  exact ret_i C w h dX5_line_10
set_option maxHeartbeats 4000000 in
set_option maxRecDepth 100000 in
theorem c_X5_line (l : Launch) (G : GG) (hG : Ag G) (sz : Nat) (M : Mem) (x1 : Int32) (post : Int32 → Mem → Prop) (h : q_X5_line M x1 post) : Met l yX5_line (Cond.code yX5_line cX5_line 2 (some .int) :: wsL_law) (rmk 3) (va_Pc [.ref (ga G 0), .int x1] (Pw G sz M)) (va_Qi post (Qw G) (Af G sz)) 0 0 (Af G sz) := by
  refine Met.ofW (cc := cX5_line) (maxL := 2) (ret := (some .int)) (by decide) rfl ?_
  intro p e s m args below meth c s₁ B hml hv
  obtain ⟨rfl, hsz, hE, hP⟩ := hv
  subst hsz
  have C := Cx.of (own := RX5) hG hE rfl hml B
  have w : Wd G s M s.heap [] := ⟨hP, va_S.rf⟩
  have hl := lv_entry [.ref (ga G 0), .int x1] (n := 2) (Nat.le_of_ble_eq_true rfl)
  rw [lg_entry_eq]
  generalize (lg_sl [.ref (ga G 0), .int x1] ++ List.replicate (2 - (lg_sl [.ref (ga G 0), .int x1]).length) Slot.unset).toArray = ls at hl ⊢
  have hl : lv_has ls 2 [(0, .ref (ga G 0)), (1, .int x1)] := hl
  have hx := C.1.1
  have hb := C.1.2.1
  show W p l e (rmk 3) s m _ below meth c s.heap [] 0 0 _ _
  unfold q_X5_line at h
  refine lv_iload_n hx hb dX5_line_0 rfl (lv_at hl 1 rfl) ?_
  refine lv_if_lt (tgt := 9) hx hb dX5_line_1 (by decide) (fun c1 => ?_) (fun c1 => ?_)
  · replace h := h.1 c1
    exact t_X5_line_9 C M   w (lv_sub hl [] rfl) h
  replace h := h.2 c1
  refine lv_iload_n hx hb dX5_line_4 rfl (lv_at hl 1 rfl) ?_
  refine lv_iconst (v := 5) hx hb dX5_line_5 (by decide) ?_
  refine lv_icmp_le (tgt := 11) hx hb dX5_line_6 (by decide) (fun c2 => ?_) (fun c2 => ?_)
  · replace h := h.1 c2
    refine lv_aload_n hx hb dX5_line_11 rfl (lv_at hl 0 rfl) ?_
    refine end_i w (run_V (As := []) C w hl.1 (c_X5_layLine l G C.2.2.1 _ _   _ h) kw_15_21 kw_1_2 kw_15_18 kw_15_19 kw_15_20 hd_X5_layLine ⟨by decide, by decide⟩ (w.recv C (i := 0) (by decide) (pE_5) rfl) rfl (Nat.le_of_ble_eq_true rfl) dX5_line_12) (fun r3 M4 H locs h w => ?_)
    refine lv_if_ne (tgt := 21) hx hb dX5_line_15 (by decide) (fun c5 => ?_) (fun c5 => ?_)
    · replace h := h.2 c5
      refine lv_iload_n hx hb dX5_line_21 rfl (lv_at hl 1 rfl) ?_
      by_cases c6 : x1 = (0 : Int32)
      · replace h := h.1 c6
        refine lv_tableIn (off := 34) (tgt := 56) hx hb dX5_line_22 (by rw [c6]; decide) (by rw [c6]; decide) (by rw [c6]; decide) (by decide) ?_
        refine lv_aload_n hx hb dX5_line_56 rfl (lv_at hl 0 rfl) ?_
        refine gt_5_3 C w kw_1_22 dX5_line_57 ?_
        refine gn_0_0 C w kn_24 dX5_line_60 ?_
        exact ret_i C w h dX5_line_63
      replace h := h.2 c6
      by_cases c7 : x1 = (1 : Int32)
      · replace h := h.1 c7
        refine lv_tableIn (off := 42) (tgt := 64) hx hb dX5_line_22 (by rw [c7]; decide) (by rw [c7]; decide) (by rw [c7]; decide) (by decide) ?_
        refine lv_aload_n hx hb dX5_line_64 rfl (lv_at hl 0 rfl) ?_
        refine gt_5_3 C w kw_1_22 dX5_line_65 ?_
        refine gn_0_1 C w kn_25 dX5_line_68 ?_
        exact ret_i C w h dX5_line_71
      replace h := h.2 c7
      by_cases c8 : x1 = (2 : Int32)
      · replace h := h.1 c8
        refine lv_tableIn (off := 50) (tgt := 72) hx hb dX5_line_22 (by rw [c8]; decide) (by rw [c8]; decide) (by rw [c8]; decide) (by decide) ?_
        refine lv_aload_n hx hb dX5_line_72 rfl (lv_at hl 0 rfl) ?_
        refine gt_5_3 C w kw_1_22 dX5_line_73 ?_
        refine end_i w (run_VN (As := []) C w hl.1 (c_X0_giveOfAll l G C.2.2.1 _ _   _ h) kw_16_9 kw_1_21 kn_58 kw_16_7 kw_16_8 hd_X0_giveOfAll ⟨by decide, by decide⟩ (w.recv C (i := 4) (by decide) (pE_0) rfl) rfl (Nat.le_of_ble_eq_true rfl) dX5_line_76) (fun r9 M10 H locs h w => ?_)
        exact ret_i C w h dX5_line_79
      replace h := h.2 c8
      by_cases c11 : x1 = (3 : Int32)
      · replace h := h.1 c11
        refine lv_tableIn (off := 58) (tgt := 80) hx hb dX5_line_22 (by rw [c11]; decide) (by rw [c11]; decide) (by rw [c11]; decide) (by decide) ?_
        refine lv_aload_n hx hb dX5_line_80 rfl (lv_at hl 0 rfl) ?_
        refine gt_5_3 C w kw_1_22 dX5_line_81 ?_
        refine end_i w (run_VN (As := []) C w hl.1 (c_X0_hang l G C.2.2.1 _ _   _ h) kw_16_16 kw_1_21 kn_59 kw_16_14 kw_16_15 hd_X0_hang ⟨by decide, by decide⟩ (w.recv C (i := 4) (by decide) (pE_0) rfl) rfl (Nat.le_of_ble_eq_true rfl) dX5_line_84) (fun r12 M13 H locs h w => ?_)
        exact ret_i C w h dX5_line_87
      replace h := h.2 c11
      by_cases c14 : x1 = (4 : Int32)
      · replace h := h.1 c14
        refine lv_tableIn (off := 66) (tgt := 88) hx hb dX5_line_22 (by rw [c14]; decide) (by rw [c14]; decide) (by rw [c14]; decide) (by decide) ?_
        refine lv_aload_n hx hb dX5_line_88 rfl (lv_at hl 0 rfl) ?_
        refine gt_5_3 C w kw_1_22 dX5_line_89 ?_
        refine end_i w (run_VN (As := []) C w hl.1 (c_X0_slack l G C.2.2.1 _ _   _ h) kw_16_19 kw_1_21 kn_60 kw_16_17 kw_16_18 hd_X0_slack ⟨by decide, by decide⟩ (w.recv C (i := 4) (by decide) (pE_0) rfl) rfl (Nat.le_of_ble_eq_true rfl) dX5_line_92) (fun r15 M16 H locs h w => ?_)
        exact ret_i C w h dX5_line_95
      replace h := h.2 c14
      have nc6 := lv_neT c6 (a := 0) (by decide)
      have nc7 := lv_neT c7 (a := 1) (by decide)
      have nc8 := lv_neT c8 (a := 2) (by decide)
      have nc11 := lv_neT c11 (a := 3) (by decide)
      have nc14 := lv_neT c14 (a := 4) (by decide)
      refine lv_tableOut (tgt := 96) hx hb dX5_line_22 (by omega) (by decide) ?_
      refine lv_aload_n hx hb dX5_line_96 rfl (lv_at hl 0 rfl) ?_
      refine gt_5_3 C w kw_1_22 dX5_line_97 ?_
      refine end_i w (run_VN (As := []) C w hl.1 (c_X0_base l G C.2.2.1 _ _   _ h) kw_16_23 kw_1_21 kn_61 kw_16_21 kw_16_22 hd_X0_base ⟨by decide, by decide⟩ (w.recv C (i := 4) (by decide) (pE_0) rfl) rfl (Nat.le_of_ble_eq_true rfl) dX5_line_100) (fun r17 M18 H locs h w => ?_)
      exact ret_i C w h dX5_line_103
    replace h := h.1 c5
    refine lv_bipush (v := -3) hx hb dX5_line_18 (by decide) ?_
    exact ret_i C w h dX5_line_20
  replace h := h.2 c2
  exact t_X5_line_9 C M   w (lv_sub hl [] rfl) h
def q_X6_allPieces (M : Mem) (post : Int32 → Mem → Prop) : Prop := post (((1 : Int32) <<< ((M 58 0) &&& 31)) - (1 : Int32)) M
set_option maxHeartbeats 4000000 in
set_option maxRecDepth 100000 in
theorem c_X6_allPieces (l : Launch) (G : GG) (hG : Ag G) (sz : Nat) (M : Mem) (post : Int32 → Mem → Prop) (h : q_X6_allPieces M post) : Met l yX6_allPieces (Cond.code yX6_allPieces cX6_allPieces 1 (some .int) :: wsL_law) (rmk 1) (va_Pc [.ref (ga G 57)] (Pw G sz M)) (va_Qi post (Qw G) (Af G sz)) 0 0 (Af G sz) := by
  refine Met.ofW (cc := cX6_allPieces) (maxL := 1) (ret := (some .int)) (by decide) rfl ?_
  intro p e s m args below meth c s₁ B hml hv
  obtain ⟨rfl, hsz, hE, hP⟩ := hv
  subst hsz
  have C := Cx.of (own := RX6) hG hE rfl hml B
  have w : Wd G s M s.heap [] := ⟨hP, va_S.rf⟩
  have hl := lv_entry [.ref (ga G 57)] (n := 1) (Nat.le_of_ble_eq_true rfl)
  rw [lg_entry_eq]
  generalize (lg_sl [.ref (ga G 57)] ++ List.replicate (1 - (lg_sl [.ref (ga G 57)]).length) Slot.unset).toArray = ls at hl ⊢
  have hl : lv_has ls 1 [(0, .ref (ga G 57))] := hl
  have hx := C.1.1
  have hb := C.1.2.1
  show W p l e (rmk 1) s m _ below meth c s.heap [] 0 0 _ _
  unfold q_X6_allPieces at h
  refine lv_iconst (v := 1) hx hb dX6_allPieces_0 (by decide) ?_
  refine lv_aload_n hx hb dX6_allPieces_1 rfl (lv_at hl 0 rfl) ?_
  refine gt_6_0 C w kw_5_0 dX6_allPieces_2 ?_
  refine lv_iconst (v := 0) hx hb dX6_allPieces_5 (by decide) ?_
  refine pw_ld C w (i := 58) (by decide) pE_58 (vl (x := (0 : Int32)) (by decide)) (k := 0) (by decide) dX6_allPieces_6 ?_
  refine lv_ishl hx hb dX6_allPieces_7 ?_
  refine lv_iconst (v := 1) hx hb dX6_allPieces_8 (by decide) ?_
  refine lv_isub hx hb dX6_allPieces_9 ?_
  exact ret_i C w h dX6_allPieces_10
def q_X6_baseOf (M : Mem) (post : Int32 → Mem → Prop) : Prop := post ((((2 : Int32) * (M 58 7)) * (M 58 7)) + ((M 57 19) / (10 : Int32))) M
set_option maxHeartbeats 4000000 in
set_option maxRecDepth 100000 in
theorem c_X6_baseOf (l : Launch) (G : GG) (hG : Ag G) (sz : Nat) (M : Mem) (post : Int32 → Mem → Prop) (h : q_X6_baseOf M post) : Met l yX6_baseOf (Cond.code yX6_baseOf cX6_baseOf 1 (some .int) :: wsL_law) (rmk 1) (va_Pc [.ref (ga G 57)] (Pw G sz M)) (va_Qi post (Qw G) (Af G sz)) 0 0 (Af G sz) := by
  refine Met.ofW (cc := cX6_baseOf) (maxL := 1) (ret := (some .int)) (by decide) rfl ?_
  intro p e s m args below meth c s₁ B hml hv
  obtain ⟨rfl, hsz, hE, hP⟩ := hv
  subst hsz
  have C := Cx.of (own := RX6) hG hE rfl hml B
  have w : Wd G s M s.heap [] := ⟨hP, va_S.rf⟩
  have hl := lv_entry [.ref (ga G 57)] (n := 1) (Nat.le_of_ble_eq_true rfl)
  rw [lg_entry_eq]
  generalize (lg_sl [.ref (ga G 57)] ++ List.replicate (1 - (lg_sl [.ref (ga G 57)]).length) Slot.unset).toArray = ls at hl ⊢
  have hl : lv_has ls 1 [(0, .ref (ga G 57))] := hl
  have hx := C.1.1
  have hb := C.1.2.1
  show W p l e (rmk 1) s m _ below meth c s.heap [] 0 0 _ _
  unfold q_X6_baseOf at h
  refine lv_iconst (v := 2) hx hb dX6_baseOf_0 (by decide) ?_
  refine lv_aload_n hx hb dX6_baseOf_1 rfl (lv_at hl 0 rfl) ?_
  refine gt_6_0 C w kw_5_0 dX6_baseOf_2 ?_
  refine lv_bipush (v := 7) hx hb dX6_baseOf_5 (by decide) ?_
  refine pw_ld C w (i := 58) (by decide) pE_58 (vl (x := (7 : Int32)) (by decide)) (k := 7) (by decide) dX6_baseOf_7 ?_
  refine lv_imul hx hb dX6_baseOf_8 ?_
  refine lv_aload_n hx hb dX6_baseOf_9 rfl (lv_at hl 0 rfl) ?_
  refine gt_6_0 C w kw_5_0 dX6_baseOf_10 ?_
  refine lv_bipush (v := 7) hx hb dX6_baseOf_13 (by decide) ?_
  refine pw_ld C w (i := 58) (by decide) pE_58 (vl (x := (7 : Int32)) (by decide)) (k := 7) (by decide) dX6_baseOf_15 ?_
  refine lv_imul hx hb dX6_baseOf_16 ?_
  refine lv_aload_n hx hb dX6_baseOf_17 rfl (lv_at hl 0 rfl) ?_
  refine gt_6_19 C w kw_17_6 dX6_baseOf_18 ?_
  refine lv_bipush (v := 10) hx hb dX6_baseOf_21 (by decide) ?_
  refine lv_idiv hx hb dX6_baseOf_23 (by decide) ?_
  refine lv_iadd hx hb dX6_baseOf_24 ?_
  exact ret_i C w h dX6_baseOf_25
def q_X6_hang (M : Mem) (post : Int32 → Mem → Prop) : Prop := ¬ ((4 : Int32) + ((M 58 7) * (M 58 7))) = 0 ∧ (post ((M 57 19) / ((4 : Int32) + ((M 58 7) * (M 58 7)))) M)
set_option maxHeartbeats 4000000 in
set_option maxRecDepth 100000 in
theorem c_X6_hang (l : Launch) (G : GG) (hG : Ag G) (sz : Nat) (M : Mem) (post : Int32 → Mem → Prop) (h : q_X6_hang M post) : Met l yX6_hang (Cond.code yX6_hang cX6_hang 1 (some .int) :: wsL_law) (rmk 1) (va_Pc [.ref (ga G 57)] (Pw G sz M)) (va_Qi post (Qw G) (Af G sz)) 0 0 (Af G sz) := by
  refine Met.ofW (cc := cX6_hang) (maxL := 1) (ret := (some .int)) (by decide) rfl ?_
  intro p e s m args below meth c s₁ B hml hv
  obtain ⟨rfl, hsz, hE, hP⟩ := hv
  subst hsz
  have C := Cx.of (own := RX6) hG hE rfl hml B
  have w : Wd G s M s.heap [] := ⟨hP, va_S.rf⟩
  have hl := lv_entry [.ref (ga G 57)] (n := 1) (Nat.le_of_ble_eq_true rfl)
  rw [lg_entry_eq]
  generalize (lg_sl [.ref (ga G 57)] ++ List.replicate (1 - (lg_sl [.ref (ga G 57)]).length) Slot.unset).toArray = ls at hl ⊢
  have hl : lv_has ls 1 [(0, .ref (ga G 57))] := hl
  have hx := C.1.1
  have hb := C.1.2.1
  show W p l e (rmk 1) s m _ below meth c s.heap [] 0 0 _ _
  unfold q_X6_hang at h
  refine lv_aload_n hx hb dX6_hang_0 rfl (lv_at hl 0 rfl) ?_
  refine gt_6_19 C w kw_17_6 dX6_hang_1 ?_
  refine lv_iconst (v := 4) hx hb dX6_hang_4 (by decide) ?_
  refine lv_aload_n hx hb dX6_hang_5 rfl (lv_at hl 0 rfl) ?_
  refine gt_6_0 C w kw_5_0 dX6_hang_6 ?_
  refine lv_bipush (v := 7) hx hb dX6_hang_9 (by decide) ?_
  refine pw_ld C w (i := 58) (by decide) pE_58 (vl (x := (7 : Int32)) (by decide)) (k := 7) (by decide) dX6_hang_11 ?_
  refine lv_aload_n hx hb dX6_hang_12 rfl (lv_at hl 0 rfl) ?_
  refine gt_6_0 C w kw_5_0 dX6_hang_13 ?_
  refine lv_bipush (v := 7) hx hb dX6_hang_16 (by decide) ?_
  refine pw_ld C w (i := 58) (by decide) pE_58 (vl (x := (7 : Int32)) (by decide)) (k := 7) (by decide) dX6_hang_18 ?_
  refine lv_imul hx hb dX6_hang_19 ?_
  refine lv_iadd hx hb dX6_hang_20 ?_
  refine lv_idiv hx hb dX6_hang_21 h.1 ?_
  replace h := h.2
  exact ret_i C w h dX6_hang_22
def j_X6_isLine_44 (post : Int32 → Mem → Prop) (M : Mem) (y0 : Int32) : Prop := (y0 = 0 ∨ y0 = 1) ∧ post y0 M
def b_X6_isLine_2 (k2 : Mem → Int32 → Prop) (post : Int32 → Mem → Prop) (M : Mem) (x1 : Int32) : Prop := ((M 58 0) ≤ x1 → (((M 58 0) ≤ 0 → (j_X6_isLine_44 post M (0 : Int32))) ∧ (¬ ((M 58 0) ≤ 0) → (j_X6_isLine_44 post M (1 : Int32))))) ∧ (¬ ((M 58 0) ≤ x1) → (q_X6_get M x1 (4 : Int32) (fun r3 M4 => (r3 = (1 : Int32) → (post (0 : Int32) M4)) ∧ (¬ (r3 = (1 : Int32)) → (k2 M4 (x1 + (1 : Int32)))))))
def lp_X6_isLine_2 (post : Int32 → Mem → Prop) : Nat → Mem → Int32 → Prop
  | 0 => fun _ _ => False
  | n + 1 => fun M x1 => b_X6_isLine_2 (lp_X6_isLine_2 post n) post M x1
def q_X6_isLine (M : Mem) (post : Int32 → Mem → Prop) : Prop := ∃ n, lp_X6_isLine_2 post n M (0 : Int32)
set_option maxHeartbeats 4000000 in
set_option maxRecDepth 100000 in
theorem t_X6_isLine_44 (C : Cx G p s m args meth c RX6 cX6_isLine 2 (some .boolean)) {post : Int32 → Mem → Prop} (M : Mem) (y0 : Int32) {H : Heap} {locs : List Loc} {ls : Array Slot} (w : Wd G s M H locs) (hl : lv_has ls 2 []) (h : j_X6_isLine_44 post M y0) : W p l e (rmk 2) s m args below meth c H locs 0 0 (MQ below (va_Qi post (Qw G) (Af G s.heap.size)) args s 0 0 (Af G s.heap.size)) (F0 m 44 ls [.int y0]) := by
  have hx := C.1.1
  have hb := C.1.2.1
  unfold j_X6_isLine_44 at h
  exact ret_z C w h dX6_isLine_44
set_option maxHeartbeats 4000000 in
set_option maxRecDepth 100000 in
theorem t_X6_isLine_2 (C : Cx G p s m args meth c RX6 cX6_isLine 2 (some .boolean)) {post : Int32 → Mem → Prop} : ∀ (n : Nat) (M : Mem) (x1 : Int32) {H : Heap} {locs : List Loc} {ls : Array Slot} (w : Wd G s M H locs) (hl : lv_has ls 2 [(0, .ref (ga G 57)), (1, .int x1)]) (h : lp_X6_isLine_2 post n M x1), W p l e (rmk 2) s m args below meth c H locs 0 0 (MQ below (va_Qi post (Qw G) (Af G s.heap.size)) args s 0 0 (Af G s.heap.size)) (F0 m 2 ls []) := by
  have hx := C.1.1
  have hb := C.1.2.1
  intro n9
  induction n9 with
  | zero => intro M x1 H locs ls w hl h; exact absurd h id
  | succ n9 ih9 =>
    intro M x1 H locs ls w hl h
    have hk2 : ∀ (M : Mem) (x1 : Int32) (H : Heap) (locs : List Loc) (ls : Array Slot), Wd G s M H locs → lv_has ls 2 [(0, .ref (ga G 57)), (1, .int x1)] → lp_X6_isLine_2 post n9 M x1 → W p l e (rmk 2) s m args below meth c H locs 0 0 (MQ below (va_Qi post (Qw G) (Af G s.heap.size)) args s 0 0 (Af G s.heap.size)) (F0 m 2 ls []) := fun M x1 H locs ls w hl h => ih9 M x1 w hl h
    replace h : b_X6_isLine_2 (lp_X6_isLine_2 post n9) post M x1 := h
    unfold b_X6_isLine_2 at h
    refine lv_iload_n hx hb dX6_isLine_2 rfl (lv_at hl 1 rfl) ?_
    refine lv_aload_n hx hb dX6_isLine_3 rfl (lv_at hl 0 rfl) ?_
    refine gt_6_0 C w kw_5_0 dX6_isLine_4 ?_
    refine lv_iconst (v := 0) hx hb dX6_isLine_7 (by decide) ?_
    refine pw_ld C w (i := 58) (by decide) pE_58 (vl (x := (0 : Int32)) (by decide)) (k := 0) (by decide) dX6_isLine_8 ?_
    refine lv_icmp_ge (tgt := 30) hx hb dX6_isLine_9 (by decide) (fun c1 => ?_) (fun c1 => ?_)
    · replace h := h.1 c1
      refine lv_aload_n hx hb dX6_isLine_30 rfl (lv_at hl 0 rfl) ?_
      refine gt_6_0 C w kw_5_0 dX6_isLine_31 ?_
      refine lv_iconst (v := 0) hx hb dX6_isLine_34 (by decide) ?_
      refine pw_ld C w (i := 58) (by decide) pE_58 (vl (x := (0 : Int32)) (by decide)) (k := 0) (by decide) dX6_isLine_35 ?_
      refine lv_if_le (tgt := 43) hx hb dX6_isLine_36 (by decide) (fun c2 => ?_) (fun c2 => ?_)
      · replace h := h.1 c2
        refine lv_iconst (v := 0) hx hb dX6_isLine_43 (by decide) ?_
        exact t_X6_isLine_44 C M (0 : Int32)  w (lv_sub hl [] rfl) h
      replace h := h.2 c2
      refine lv_iconst (v := 1) hx hb dX6_isLine_39 (by decide) ?_
      refine lv_goto (tgt := 44) hx hb dX6_isLine_40 (by decide) ?_
      exact t_X6_isLine_44 C M (1 : Int32)  w (lv_sub hl [] rfl) h
    replace h := h.2 c1
    refine lv_aload_n hx hb dX6_isLine_12 rfl (lv_at hl 0 rfl) ?_
    refine lv_iload_n hx hb dX6_isLine_13 rfl (lv_at hl 1 rfl) ?_
    refine lv_iconst (v := 4) hx hb dX6_isLine_14 (by decide) ?_
    refine end_i w (run_V (As := [.int x1, .int (4 : Int32)]) C w hl.1 (c_X6_get l G C.2.2.1 _ _ x1 (4 : Int32)  _ h) kw_14_10 kw_1_5 kw_14_7 kw_14_8 kw_14_9 hd_X6_get ⟨by decide, by decide⟩ (w.recv C (i := 57) (by decide) (pE_6) rfl) rfl (Nat.le_of_ble_eq_true rfl) dX6_isLine_15) (fun r3 M4 H locs h w => ?_)
    refine lv_iconst (v := 1) hx hb dX6_isLine_18 (by decide) ?_
    refine lv_icmp_ne (tgt := 24) hx hb dX6_isLine_19 (by decide) (fun c5 => ?_) (fun c5 => ?_)
    · replace h := h.2 c5
      refine lv_iinc (v := (x1 + (1 : Int32))) (lv' := [(1, .int (x1 + (1 : Int32))), (0, .ref (ga G 57))]) hx hb dX6_isLine_24 hl (k := 1) rfl rfl (by decide) rfl (fun ls hl => ?_)
      refine lv_goto (tgt := 2) hx hb dX6_isLine_27 (by decide) ?_
      exact hk2 M4 (x1 + (1 : Int32)) _ _ _  w (lv_sub hl [1, 0] rfl) h
    replace h := h.1 c5
    refine lv_iconst (v := 0) hx hb dX6_isLine_22 (by decide) ?_
    exact ret_z C w ⟨Or.inl rfl, h⟩ dX6_isLine_23
set_option maxHeartbeats 4000000 in
set_option maxRecDepth 100000 in
theorem c_X6_isLine (l : Launch) (G : GG) (hG : Ag G) (sz : Nat) (M : Mem) (post : Int32 → Mem → Prop) (h : q_X6_isLine M post) : Met l yX6_isLine (Cond.code yX6_isLine cX6_isLine 2 (some .boolean) :: wsL_law) (rmk 2) (va_Pc [.ref (ga G 57)] (Pw G sz M)) (va_Qi post (Qw G) (Af G sz)) 0 0 (Af G sz) := by
  refine Met.ofW (cc := cX6_isLine) (maxL := 2) (ret := (some .boolean)) (by decide) rfl ?_
  intro p e s m args below meth c s₁ B hml hv
  obtain ⟨rfl, hsz, hE, hP⟩ := hv
  subst hsz
  have C := Cx.of (own := RX6) hG hE rfl hml B
  have w : Wd G s M s.heap [] := ⟨hP, va_S.rf⟩
  have hl := lv_entry [.ref (ga G 57)] (n := 2) (Nat.le_of_ble_eq_true rfl)
  rw [lg_entry_eq]
  generalize (lg_sl [.ref (ga G 57)] ++ List.replicate (2 - (lg_sl [.ref (ga G 57)]).length) Slot.unset).toArray = ls at hl ⊢
  have hl : lv_has ls 2 [(0, .ref (ga G 57))] := hl
  have hx := C.1.1
  have hb := C.1.2.1
  show W p l e (rmk 2) s m _ below meth c s.heap [] 0 0 _ _
  unfold q_X6_isLine at h
  refine lv_iconst (v := 0) hx hb dX6_isLine_0 (by decide) ?_
  refine lv_istore_n (lv' := [(1, .int (0 : Int32)), (0, .ref (ga G 57))]) hx hb dX6_isLine_1 rfl hl (by decide) rfl (fun ls hl => ?_)
  obtain ⟨n, h⟩ := h
  exact t_X6_isLine_2 C n M (0 : Int32)  w (lv_sub hl [1, 0] rfl) h
def j_X6_rounds_21 (post : Mem → Prop) (M : Mem) (y0 : Int32) : Prop := ∀ M1 : Mem, M1 = (mup M 57 20 y0) → (post M1)
def q_X6_rounds (M : Mem) (post : Mem → Prop) : Prop := ((100 : Int32) ≤ (M 57 20) → (j_X6_rounds_21 post M ((M 57 20) / (100 : Int32)))) ∧ (¬ ((100 : Int32) ≤ (M 57 20)) → (j_X6_rounds_21 post M (1 : Int32)))
set_option maxHeartbeats 4000000 in
set_option maxRecDepth 100000 in
theorem t_X6_rounds_21 (C : Cx G p s m args meth c RX6 cX6_rounds 1 none) {post : Mem → Prop} (M : Mem) (y0 : Int32) {H : Heap} {locs : List Loc} {ls : Array Slot} (w : Wd G s M H locs) (hl : lv_has ls 1 []) (h : j_X6_rounds_21 post M y0) : W p l e (rmk 1) s m args below meth c H locs 0 0 (MQ below (va_Qv post (Qw G) (Af G s.heap.size)) args s 0 0 (Af G s.heap.size)) (F0 m 21 ls [.int y0, .ref (ga G 57)]) := by
  have hx := C.1.1
  have hb := C.1.2.1
  unfold j_X6_rounds_21 at h
  refine pt_6_20 C w kw_17_7 dX6_rounds_21 (fun H locs w => ?_)
  obtain ⟨M1, eM1⟩ : ∃ z : Mem, z = (mup M 57 20 y0) := ⟨_, rfl⟩
  replace w : Wd G s M1 H locs := by rw [eM1]; exact w
  replace h := h M1 eM1
  exact ret_v C w h dX6_rounds_24
set_option maxHeartbeats 4000000 in
set_option maxRecDepth 100000 in
theorem c_X6_rounds (l : Launch) (G : GG) (hG : Ag G) (sz : Nat) (M : Mem) (post : Mem → Prop) (h : q_X6_rounds M post) : Met l yX6_rounds (Cond.code yX6_rounds cX6_rounds 1 none :: wsL_law) (rmk 1) (va_Pc [.ref (ga G 57)] (Pw G sz M)) (va_Qv post (Qw G) (Af G sz)) 0 0 (Af G sz) := by
  refine Met.ofW (cc := cX6_rounds) (maxL := 1) (ret := none) (by decide) rfl ?_
  intro p e s m args below meth c s₁ B hml hv
  obtain ⟨rfl, hsz, hE, hP⟩ := hv
  subst hsz
  have C := Cx.of (own := RX6) hG hE rfl hml B
  have w : Wd G s M s.heap [] := ⟨hP, va_S.rf⟩
  have hl := lv_entry [.ref (ga G 57)] (n := 1) (Nat.le_of_ble_eq_true rfl)
  rw [lg_entry_eq]
  generalize (lg_sl [.ref (ga G 57)] ++ List.replicate (1 - (lg_sl [.ref (ga G 57)]).length) Slot.unset).toArray = ls at hl ⊢
  have hl : lv_has ls 1 [(0, .ref (ga G 57))] := hl
  have hx := C.1.1
  have hb := C.1.2.1
  show W p l e (rmk 1) s m _ below meth c s.heap [] 0 0 _ _
  unfold q_X6_rounds at h
  refine lv_aload_n hx hb dX6_rounds_0 rfl (lv_at hl 0 rfl) ?_
  refine lv_aload_n hx hb dX6_rounds_1 rfl (lv_at hl 0 rfl) ?_
  refine gt_6_20 C w kw_17_7 dX6_rounds_2 ?_
  refine lv_bipush (v := 100) hx hb dX6_rounds_5 (by decide) ?_
  refine lv_icmp_ge (tgt := 14) hx hb dX6_rounds_7 (by decide) (fun c2 => ?_) (fun c2 => ?_)
  · replace h := h.1 c2
    refine lv_aload_n hx hb dX6_rounds_14 rfl (lv_at hl 0 rfl) ?_
    refine gt_6_20 C w kw_17_7 dX6_rounds_15 ?_
    refine lv_bipush (v := 100) hx hb dX6_rounds_18 (by decide) ?_
    refine lv_idiv hx hb dX6_rounds_20 (by decide) ?_
    exact t_X6_rounds_21 C M ((M 57 20) / (100 : Int32))  w (lv_sub hl [] rfl) h
  replace h := h.2 c2
  refine lv_iconst (v := 1) hx hb dX6_rounds_10 (by decide) ?_
  refine lv_goto (tgt := 21) hx hb dX6_rounds_11 (by decide) ?_
  exact t_X6_rounds_21 C M (1 : Int32)  w (lv_sub hl [] rfl) h
def j_X6_sumsUp_107 (k17 : Mem → Int32 → Int32 → Prop) (post : Mem → Prop) (M : Mem) (x1 : Int32) (x2 : Int32) : Prop := k17 M x1 (x2 + (1 : Int32))
def b_X6_sumsUp_17 (k17 : Mem → Int32 → Int32 → Prop) (post : Mem → Prop) (M : Mem) (x1 : Int32) (x2 : Int32) : Prop := ((M 58 0) ≤ x2 → (q_X6_rounds M  (fun M3 => post M3))) ∧ (¬ ((M 58 0) ≤ x2) → ((((x1 >>> (x2 &&& 31)) &&& (1 : Int32)) = 0 → (j_X6_sumsUp_107 k17 post M x1 x2)) ∧ (¬ (((x1 >>> (x2 &&& 31)) &&& (1 : Int32)) = 0) → (q_X6_get M x2 (2 : Int32) (fun r5 M6 => ∀ M7 : Mem, M7 = (mup M6 57 18 ((M6 57 18) + r5)) → (q_X6_get M7 x2 (0 : Int32) (fun r8 M9 => q_X6_get M9 x2 (1 : Int32) (fun r10 M11 => q_X6_heftBy M11 r8 r10 (fun r12 M13 => ∀ M14 : Mem, M14 = (mup M13 57 19 ((M7 57 19) + (r5 * r12))) → (q_X6_get M14 x2 (0 : Int32) (fun r15 M16 => q_X6_get M16 x2 (1 : Int32) (fun r17 M18 => q_X6_giveBy M18 r15 r17 (fun r19 M20 => ∀ M21 : Mem, M21 = (mup M20 57 20 ((M14 57 20) + (r5 * r19))) → (j_X6_sumsUp_107 k17 post M21 x1 x2))))))))))))))
def lp_X6_sumsUp_17 (post : Mem → Prop) : Nat → Mem → Int32 → Int32 → Prop
  | 0 => fun _ _ _ => False
  | n + 1 => fun M x1 x2 => b_X6_sumsUp_17 (lp_X6_sumsUp_17 post n) post M x1 x2
def q_X6_sumsUp (M : Mem) (x1 : Int32) (post : Mem → Prop) : Prop := ∀ M22 : Mem, M22 = (mup M 57 18 (0 : Int32)) → (∀ M23 : Mem, M23 = (mup M22 57 19 (0 : Int32)) → (∀ M24 : Mem, M24 = (mup M23 57 20 (0 : Int32)) → (∃ n, lp_X6_sumsUp_17 post n M24 x1 (0 : Int32))))
set_option maxHeartbeats 4000000 in
set_option maxRecDepth 100000 in
theorem t_X6_sumsUp_107 (C : Cx G p s m args meth c RX6 cX6_sumsUp 4 none) {post : Mem → Prop} {k17 : Mem → Int32 → Int32 → Prop} (hk17 : ∀ (M : Mem) (x1 : Int32) (x2 : Int32) (H : Heap) (locs : List Loc) (ls : Array Slot), Wd G s M H locs → lv_has ls 4 [(0, .ref (ga G 57)), (1, .int x1), (2, .int x2)] → k17 M x1 x2 → W p l e (rmk 2) s m args below meth c H locs 0 0 (MQ below (va_Qv post (Qw G) (Af G s.heap.size)) args s 0 0 (Af G s.heap.size)) (F0 m 17 ls [])) (M : Mem) (x1 : Int32) (x2 : Int32) {H : Heap} {locs : List Loc} {ls : Array Slot} (w : Wd G s M H locs) (hl : lv_has ls 4 [(0, .ref (ga G 57)), (1, .int x1), (2, .int x2)]) (h : j_X6_sumsUp_107 k17 post M x1 x2) : W p l e (rmk 2) s m args below meth c H locs 0 0 (MQ below (va_Qv post (Qw G) (Af G s.heap.size)) args s 0 0 (Af G s.heap.size)) (F0 m 107 ls []) := by
  have hx := C.1.1
  have hb := C.1.2.1
  unfold j_X6_sumsUp_107 at h
  refine lv_iinc (v := (x2 + (1 : Int32))) (lv' := [(2, .int (x2 + (1 : Int32))), (0, .ref (ga G 57)), (1, .int x1)]) hx hb dX6_sumsUp_107 hl (k := 2) rfl rfl (by decide) rfl (fun ls hl => ?_)
  refine lv_goto (tgt := 17) hx hb dX6_sumsUp_110 (by decide) ?_
  exact hk17 M x1 (x2 + (1 : Int32)) _ _ _  w (lv_sub hl [1, 2, 0] rfl) h
set_option maxHeartbeats 4000000 in
set_option maxRecDepth 100000 in
theorem t_X6_sumsUp_17 (C : Cx G p s m args meth c RX6 cX6_sumsUp 4 none) {post : Mem → Prop} : ∀ (n : Nat) (M : Mem) (x1 : Int32) (x2 : Int32) {H : Heap} {locs : List Loc} {ls : Array Slot} (w : Wd G s M H locs) (hl : lv_has ls 4 [(0, .ref (ga G 57)), (1, .int x1), (2, .int x2)]) (h : lp_X6_sumsUp_17 post n M x1 x2), W p l e (rmk 2) s m args below meth c H locs 0 0 (MQ below (va_Qv post (Qw G) (Af G s.heap.size)) args s 0 0 (Af G s.heap.size)) (F0 m 17 ls []) := by
  have hx := C.1.1
  have hb := C.1.2.1
  intro n9
  induction n9 with
  | zero => intro M x1 x2 H locs ls w hl h; exact absurd h id
  | succ n9 ih9 =>
    intro M x1 x2 H locs ls w hl h
    have hk17 : ∀ (M : Mem) (x1 : Int32) (x2 : Int32) (H : Heap) (locs : List Loc) (ls : Array Slot), Wd G s M H locs → lv_has ls 4 [(0, .ref (ga G 57)), (1, .int x1), (2, .int x2)] → lp_X6_sumsUp_17 post n9 M x1 x2 → W p l e (rmk 2) s m args below meth c H locs 0 0 (MQ below (va_Qv post (Qw G) (Af G s.heap.size)) args s 0 0 (Af G s.heap.size)) (F0 m 17 ls []) := fun M x1 x2 H locs ls w hl h => ih9 M x1 x2 w hl h
    replace h : b_X6_sumsUp_17 (lp_X6_sumsUp_17 post n9) post M x1 x2 := h
    unfold b_X6_sumsUp_17 at h
    refine lv_iload_n hx hb dX6_sumsUp_17 rfl (lv_at hl 2 rfl) ?_
    refine lv_aload_n hx hb dX6_sumsUp_18 rfl (lv_at hl 0 rfl) ?_
    refine gt_6_0 C w kw_5_0 dX6_sumsUp_19 ?_
    refine lv_iconst (v := 0) hx hb dX6_sumsUp_22 (by decide) ?_
    refine pw_ld C w (i := 58) (by decide) pE_58 (vl (x := (0 : Int32)) (by decide)) (k := 0) (by decide) dX6_sumsUp_23 ?_
    refine lv_icmp_ge (tgt := 113) hx hb dX6_sumsUp_24 (by decide) (fun c1 => ?_) (fun c1 => ?_)
    · replace h := h.1 c1
      refine lv_aload_n hx hb dX6_sumsUp_113 rfl (lv_at hl 0 rfl) ?_
      refine end_v w (run_V (As := []) C w hl.1 (c_X6_rounds l G C.2.2.1 _ _   _ h) kw_17_23 kw_1_5 kw_17_20 kw_17_21 kw_17_22 hd_X6_rounds ⟨by decide, by decide⟩ (w.recv C (i := 57) (by decide) (pE_6) rfl) rfl (Nat.le_of_ble_eq_true rfl) dX6_sumsUp_114) (fun M3 H locs h w => ?_)
      exact ret_v C w h dX6_sumsUp_117
    replace h := h.2 c1
    refine lv_iload_n hx hb dX6_sumsUp_27 rfl (lv_at hl 1 rfl) ?_
    refine lv_iload_n hx hb dX6_sumsUp_28 rfl (lv_at hl 2 rfl) ?_
    refine lv_ishr hx hb dX6_sumsUp_29 ?_
    refine lv_iconst (v := 1) hx hb dX6_sumsUp_30 (by decide) ?_
    refine lv_iand hx hb dX6_sumsUp_31 ?_
    refine lv_if_ne (tgt := 38) hx hb dX6_sumsUp_32 (by decide) (fun c4 => ?_) (fun c4 => ?_)
    · replace h := h.2 c4
      refine lv_aload_n hx hb dX6_sumsUp_38 rfl (lv_at hl 0 rfl) ?_
      refine lv_iload_n hx hb dX6_sumsUp_39 rfl (lv_at hl 2 rfl) ?_
      refine lv_iconst (v := 2) hx hb dX6_sumsUp_40 (by decide) ?_
      refine end_i w (run_V (As := [.int x2, .int (2 : Int32)]) C w hl.1 (c_X6_get l G C.2.2.1 _ _ x2 (2 : Int32)  _ h) kw_14_10 kw_1_5 kw_14_7 kw_14_8 kw_14_9 hd_X6_get ⟨by decide, by decide⟩ (w.recv C (i := 57) (by decide) (pE_6) rfl) rfl (Nat.le_of_ble_eq_true rfl) dX6_sumsUp_41) (fun r5 M6 H locs h w => ?_)
      refine lv_istore_n (lv' := [(3, .int r5), (0, .ref (ga G 57)), (1, .int x1), (2, .int x2)]) hx hb dX6_sumsUp_44 rfl hl (by decide) rfl (fun ls hl => ?_)
      refine lv_aload_n hx hb dX6_sumsUp_45 rfl (lv_at hl 1 rfl) ?_
      refine lv_dup hx hb dX6_sumsUp_46 rfl ?_
      refine gt_6_18 C w kw_17_5 dX6_sumsUp_47 ?_
      refine lv_iload_n hx hb dX6_sumsUp_50 rfl (lv_at hl 0 rfl) ?_
      refine lv_iadd hx hb dX6_sumsUp_51 ?_
      refine pt_6_18 C w kw_17_5 dX6_sumsUp_52 (fun H locs w => ?_)
      obtain ⟨M7, eM7⟩ : ∃ z : Mem, z = (mup M6 57 18 ((M6 57 18) + r5)) := ⟨_, rfl⟩
      replace w : Wd G s M7 H locs := by rw [eM7]; exact w
      replace h := h M7 eM7
      refine lv_aload_n hx hb dX6_sumsUp_55 rfl (lv_at hl 1 rfl) ?_
      refine lv_dup hx hb dX6_sumsUp_56 rfl ?_
      refine gt_6_19 C w kw_17_6 dX6_sumsUp_57 ?_
      refine lv_iload_n hx hb dX6_sumsUp_60 rfl (lv_at hl 0 rfl) ?_
      refine lv_aload_n hx hb dX6_sumsUp_61 rfl (lv_at hl 1 rfl) ?_
      refine lv_iload_n hx hb dX6_sumsUp_62 rfl (lv_at hl 3 rfl) ?_
      refine lv_iconst (v := 0) hx hb dX6_sumsUp_63 (by decide) ?_
      refine end_i w (run_V (As := [.int x2, .int (0 : Int32)]) C w hl.1 (c_X6_get l G C.2.2.1 _ _ x2 (0 : Int32)  _ h) kw_14_10 kw_1_5 kw_14_7 kw_14_8 kw_14_9 hd_X6_get ⟨by decide, by decide⟩ (w.recv C (i := 57) (by decide) (pE_6) rfl) rfl (Nat.le_of_ble_eq_true rfl) dX6_sumsUp_64) (fun r8 M9 H locs h w => ?_)
      refine lv_aload_n hx hb dX6_sumsUp_67 rfl (lv_at hl 1 rfl) ?_
      refine lv_iload_n hx hb dX6_sumsUp_68 rfl (lv_at hl 3 rfl) ?_
      refine lv_iconst (v := 1) hx hb dX6_sumsUp_69 (by decide) ?_
      refine end_i w (run_V (As := [.int x2, .int (1 : Int32)]) C w hl.1 (c_X6_get l G C.2.2.1 _ _ x2 (1 : Int32)  _ h) kw_14_10 kw_1_5 kw_14_7 kw_14_8 kw_14_9 hd_X6_get ⟨by decide, by decide⟩ (w.recv C (i := 57) (by decide) (pE_6) rfl) rfl (Nat.le_of_ble_eq_true rfl) dX6_sumsUp_70) (fun r10 M11 H locs h w => ?_)
      refine end_i w (run_S (As := [.int r8, .int r10]) C w hl.1 (c_X6_heftBy l G C.2.2.1 _ _ r8 r10  _ h) kw_14_13 kw_1_5 kw_14_11 kw_14_12 hd_X6_heftBy ⟨by decide, by decide⟩ rfl (Nat.le_of_ble_eq_true rfl) dX6_sumsUp_73) (fun r12 M13 H locs h w => ?_)
      refine lv_imul hx hb dX6_sumsUp_76 ?_
      refine lv_iadd hx hb dX6_sumsUp_77 ?_
      refine pt_6_19 C w kw_17_6 dX6_sumsUp_78 (fun H locs w => ?_)
      obtain ⟨M14, eM14⟩ : ∃ z : Mem, z = (mup M13 57 19 ((M7 57 19) + (r5 * r12))) := ⟨_, rfl⟩
      replace w : Wd G s M14 H locs := by rw [eM14]; exact w
      replace h := h M14 eM14
      refine lv_aload_n hx hb dX6_sumsUp_81 rfl (lv_at hl 1 rfl) ?_
      refine lv_dup hx hb dX6_sumsUp_82 rfl ?_
      refine gt_6_20 C w kw_17_7 dX6_sumsUp_83 ?_
      refine lv_iload_n hx hb dX6_sumsUp_86 rfl (lv_at hl 0 rfl) ?_
      refine lv_aload_n hx hb dX6_sumsUp_87 rfl (lv_at hl 1 rfl) ?_
      refine lv_iload_n hx hb dX6_sumsUp_88 rfl (lv_at hl 3 rfl) ?_
      refine lv_iconst (v := 0) hx hb dX6_sumsUp_89 (by decide) ?_
      refine end_i w (run_V (As := [.int x2, .int (0 : Int32)]) C w hl.1 (c_X6_get l G C.2.2.1 _ _ x2 (0 : Int32)  _ h) kw_14_10 kw_1_5 kw_14_7 kw_14_8 kw_14_9 hd_X6_get ⟨by decide, by decide⟩ (w.recv C (i := 57) (by decide) (pE_6) rfl) rfl (Nat.le_of_ble_eq_true rfl) dX6_sumsUp_90) (fun r15 M16 H locs h w => ?_)
      refine lv_aload_n hx hb dX6_sumsUp_93 rfl (lv_at hl 1 rfl) ?_
      refine lv_iload_n hx hb dX6_sumsUp_94 rfl (lv_at hl 3 rfl) ?_
      refine lv_iconst (v := 1) hx hb dX6_sumsUp_95 (by decide) ?_
      refine end_i w (run_V (As := [.int x2, .int (1 : Int32)]) C w hl.1 (c_X6_get l G C.2.2.1 _ _ x2 (1 : Int32)  _ h) kw_14_10 kw_1_5 kw_14_7 kw_14_8 kw_14_9 hd_X6_get ⟨by decide, by decide⟩ (w.recv C (i := 57) (by decide) (pE_6) rfl) rfl (Nat.le_of_ble_eq_true rfl) dX6_sumsUp_96) (fun r17 M18 H locs h w => ?_)
      refine end_i w (run_S (As := [.int r15, .int r17]) C w hl.1 (c_X6_giveBy l G C.2.2.1 _ _ r15 r17  _ h) kw_14_16 kw_1_5 kw_14_14 kw_14_15 hd_X6_giveBy ⟨by decide, by decide⟩ rfl (Nat.le_of_ble_eq_true rfl) dX6_sumsUp_99) (fun r19 M20 H locs h w => ?_)
      refine lv_imul hx hb dX6_sumsUp_102 ?_
      refine lv_iadd hx hb dX6_sumsUp_103 ?_
      refine pt_6_20 C w kw_17_7 dX6_sumsUp_104 (fun H locs w => ?_)
      obtain ⟨M21, eM21⟩ : ∃ z : Mem, z = (mup M20 57 20 ((M14 57 20) + (r5 * r19))) := ⟨_, rfl⟩
      replace w : Wd G s M21 H locs := by rw [eM21]; exact w
      replace h := h M21 eM21
      exact t_X6_sumsUp_107 C hk17 M21 x1 x2  w (lv_sub hl [1, 2, 3] rfl) h
    replace h := h.1 c4
    refine lv_goto (tgt := 107) hx hb dX6_sumsUp_35 (by decide) ?_
    exact t_X6_sumsUp_107 C hk17 M x1 x2  w (lv_sub hl [0, 1, 2] rfl) h
set_option maxHeartbeats 4000000 in
set_option maxRecDepth 100000 in
theorem c_X6_sumsUp (l : Launch) (G : GG) (hG : Ag G) (sz : Nat) (M : Mem) (x1 : Int32) (post : Mem → Prop) (h : q_X6_sumsUp M x1 post) : Met l yX6_sumsUp (Cond.code yX6_sumsUp cX6_sumsUp 4 none :: wsL_law) (rmk 2) (va_Pc [.ref (ga G 57), .int x1] (Pw G sz M)) (va_Qv post (Qw G) (Af G sz)) 0 0 (Af G sz) := by
  refine Met.ofW (cc := cX6_sumsUp) (maxL := 4) (ret := none) (by decide) rfl ?_
  intro p e s m args below meth c s₁ B hml hv
  obtain ⟨rfl, hsz, hE, hP⟩ := hv
  subst hsz
  have C := Cx.of (own := RX6) hG hE rfl hml B
  have w : Wd G s M s.heap [] := ⟨hP, va_S.rf⟩
  have hl := lv_entry [.ref (ga G 57), .int x1] (n := 4) (Nat.le_of_ble_eq_true rfl)
  rw [lg_entry_eq]
  generalize (lg_sl [.ref (ga G 57), .int x1] ++ List.replicate (4 - (lg_sl [.ref (ga G 57), .int x1]).length) Slot.unset).toArray = ls at hl ⊢
  have hl : lv_has ls 4 [(0, .ref (ga G 57)), (1, .int x1)] := hl
  have hx := C.1.1
  have hb := C.1.2.1
  show W p l e (rmk 2) s m _ below meth c s.heap [] 0 0 _ _
  unfold q_X6_sumsUp at h
  refine lv_aload_n hx hb dX6_sumsUp_0 rfl (lv_at hl 0 rfl) ?_
  refine lv_iconst (v := 0) hx hb dX6_sumsUp_1 (by decide) ?_
  refine pt_6_18 C w kw_17_5 dX6_sumsUp_2 (fun H locs w => ?_)
  obtain ⟨M22, eM22⟩ : ∃ z : Mem, z = (mup M 57 18 (0 : Int32)) := ⟨_, rfl⟩
  replace w : Wd G s M22 H locs := by rw [eM22]; exact w
  replace h := h M22 eM22
  refine lv_aload_n hx hb dX6_sumsUp_5 rfl (lv_at hl 0 rfl) ?_
  refine lv_iconst (v := 0) hx hb dX6_sumsUp_6 (by decide) ?_
  refine pt_6_19 C w kw_17_6 dX6_sumsUp_7 (fun H locs w => ?_)
  obtain ⟨M23, eM23⟩ : ∃ z : Mem, z = (mup M22 57 19 (0 : Int32)) := ⟨_, rfl⟩
  replace w : Wd G s M23 H locs := by rw [eM23]; exact w
  replace h := h M23 eM23
  refine lv_aload_n hx hb dX6_sumsUp_10 rfl (lv_at hl 0 rfl) ?_
  refine lv_iconst (v := 0) hx hb dX6_sumsUp_11 (by decide) ?_
  refine pt_6_20 C w kw_17_7 dX6_sumsUp_12 (fun H locs w => ?_)
  obtain ⟨M24, eM24⟩ : ∃ z : Mem, z = (mup M23 57 20 (0 : Int32)) := ⟨_, rfl⟩
  replace w : Wd G s M24 H locs := by rw [eM24]; exact w
  replace h := h M24 eM24
  refine lv_iconst (v := 0) hx hb dX6_sumsUp_15 (by decide) ?_
  refine lv_istore_n (lv' := [(2, .int (0 : Int32)), (0, .ref (ga G 57)), (1, .int x1)]) hx hb dX6_sumsUp_16 rfl hl (by decide) rfl (fun ls hl => ?_)
  obtain ⟨n, h⟩ := h
  exact t_X6_sumsUp_17 C n M24 x1 (0 : Int32)  w (lv_sub hl [1, 2, 0] rfl) h
def j_X6_line_97 (post : Int32 → Mem → Prop) (M : Mem) (y0 : Int32) : Prop := post y0 M
def q_X6_line (M : Mem) (x1 : Int32) (post : Int32 → Mem → Prop) : Prop := q_X6_isIn M x1.toInt64 (0 : Int64) (5 : Int64) (fun r1 M2 => (r1 = 0 → (post (-1 : Int32) M2)) ∧ (¬ (r1 = 0) → (q_X6_isLine M2  (fun r4 M5 => (r4 = 0 → (post (-3 : Int32) M5)) ∧ (¬ (r4 = 0) → (q_X6_allPieces M5  (fun r7 M8 => q_X6_sumsUp M8 r7 (fun M10 => (x1 = 0 → (j_X6_line_97 post M10 (M10 57 18))) ∧ (¬ (x1 = 0) → ((x1 = (1 : Int32) → (j_X6_line_97 post M10 (M10 57 19))) ∧ (¬ (x1 = (1 : Int32)) → ((x1 = (2 : Int32) → (j_X6_line_97 post M10 (M10 57 20))) ∧ (¬ (x1 = (2 : Int32)) → ((x1 = (3 : Int32) → (q_X6_hang M10  (fun r20 M21 => j_X6_line_97 post M21 r20))) ∧ (¬ (x1 = (3 : Int32)) → ((x1 = (4 : Int32) → (q_X6_hang M10  (fun r18 M19 => j_X6_line_97 post M19 (r18 / (4 : Int32))))) ∧ (¬ (x1 = (4 : Int32)) → (q_X6_baseOf M10  (fun r16 M17 => j_X6_line_97 post M17 r16)))))))))))))))))))
set_option maxHeartbeats 4000000 in
set_option maxRecDepth 100000 in
theorem t_X6_line_97 (C : Cx G p s m args meth c RX6 cX6_line 2 (some .int)) {post : Int32 → Mem → Prop} (M : Mem) (y0 : Int32) {H : Heap} {locs : List Loc} {ls : Array Slot} (w : Wd G s M H locs) (hl : lv_has ls 2 []) (h : j_X6_line_97 post M y0) : W p l e (rmk 3) s m args below meth c H locs 0 0 (MQ below (va_Qi post (Qw G) (Af G s.heap.size)) args s 0 0 (Af G s.heap.size)) (F0 m 97 ls [.int y0]) := by
  have hx := C.1.1
  have hb := C.1.2.1
  unfold j_X6_line_97 at h
  exact ret_i C w h dX6_line_97
set_option maxHeartbeats 4000000 in
set_option maxRecDepth 100000 in
theorem c_X6_line (l : Launch) (G : GG) (hG : Ag G) (sz : Nat) (M : Mem) (x1 : Int32) (post : Int32 → Mem → Prop) (h : q_X6_line M x1 post) : Met l yX6_line (Cond.code yX6_line cX6_line 2 (some .int) :: wsL_law) (rmk 3) (va_Pc [.ref (ga G 57), .int x1] (Pw G sz M)) (va_Qi post (Qw G) (Af G sz)) 0 0 (Af G sz) := by
  refine Met.ofW (cc := cX6_line) (maxL := 2) (ret := (some .int)) (by decide) rfl ?_
  intro p e s m args below meth c s₁ B hml hv
  obtain ⟨rfl, hsz, hE, hP⟩ := hv
  subst hsz
  have C := Cx.of (own := RX6) hG hE rfl hml B
  have w : Wd G s M s.heap [] := ⟨hP, va_S.rf⟩
  have hl := lv_entry [.ref (ga G 57), .int x1] (n := 2) (Nat.le_of_ble_eq_true rfl)
  rw [lg_entry_eq]
  generalize (lg_sl [.ref (ga G 57), .int x1] ++ List.replicate (2 - (lg_sl [.ref (ga G 57), .int x1]).length) Slot.unset).toArray = ls at hl ⊢
  have hl : lv_has ls 2 [(0, .ref (ga G 57)), (1, .int x1)] := hl
  have hx := C.1.1
  have hb := C.1.2.1
  show W p l e (rmk 3) s m _ below meth c s.heap [] 0 0 _ _
  unfold q_X6_line at h
  refine lv_iload_n hx hb dX6_line_0 rfl (lv_at hl 1 rfl) ?_
  refine lv_i2l hx hb dX6_line_1 rfl ?_
  refine lv_lconst (v := 0) hx hb dX6_line_2 (by decide) ?_
  refine lv_ldc2 hx hb C.1.2.2.2.1 (C.ws kw_17_4) dX6_line_3 ?_
  refine end_i w (run_S (As := [.long x1.toInt64, .long (0 : Int64), .long (5 : Int64)]) C w hl.1 (c_X6_isIn l G C.2.2.1 _ _ x1.toInt64 (0 : Int64) (5 : Int64)  _ h) kw_12_5 kw_1_5 kw_12_3 kw_12_4 hd_X6_isIn ⟨by decide, by decide⟩ rfl (Nat.le_of_ble_eq_true rfl) dX6_line_6) (fun r1 M2 H locs h w => ?_)
  refine lv_if_ne (tgt := 14) hx hb dX6_line_9 (by decide) (fun c3 => ?_) (fun c3 => ?_)
  · replace h := h.2 c3
    refine lv_aload_n hx hb dX6_line_14 rfl (lv_at hl 0 rfl) ?_
    refine end_i w (run_V (As := []) C w hl.1 (c_X6_isLine l G C.2.2.1 _ _   _ h) kw_17_11 kw_1_5 kw_17_8 kw_17_9 kw_17_10 hd_X6_isLine ⟨by decide, by decide⟩ (w.recv C (i := 57) (by decide) (pE_6) rfl) rfl (Nat.le_of_ble_eq_true rfl) dX6_line_15) (fun r4 M5 H locs h w => ?_)
    refine lv_if_ne (tgt := 24) hx hb dX6_line_18 (by decide) (fun c6 => ?_) (fun c6 => ?_)
    · replace h := h.2 c6
      refine lv_aload_n hx hb dX6_line_24 rfl (lv_at hl 0 rfl) ?_
      refine lv_aload_n hx hb dX6_line_25 rfl (lv_at hl 0 rfl) ?_
      refine end_i w (run_V (As := []) C w hl.1 (c_X6_allPieces l G C.2.2.1 _ _   _ h) kw_17_15 kw_1_5 kw_17_12 kw_17_13 kw_17_14 hd_X6_allPieces ⟨by decide, by decide⟩ (w.recv C (i := 57) (by decide) (pE_6) rfl) rfl (Nat.le_of_ble_eq_true rfl) dX6_line_26) (fun r7 M8 H locs h w => ?_)
      refine end_v w (run_V (As := [.int r7]) C w hl.1 (c_X6_sumsUp l G C.2.2.1 _ _ r7  _ h) kw_17_19 kw_1_5 kw_17_16 kw_17_17 kw_17_18 hd_X6_sumsUp ⟨by decide, by decide⟩ (w.recv C (i := 57) (by decide) (pE_6) rfl) rfl (Nat.le_of_ble_eq_true rfl) dX6_line_29) (fun M10 H locs h w => ?_)
      refine lv_iload_n hx hb dX6_line_32 rfl (lv_at hl 1 rfl) ?_
      refine lv_if_ne (tgt := 43) hx hb dX6_line_33 (by decide) (fun c11 => ?_) (fun c11 => ?_)
      · replace h := h.2 c11
        refine lv_iload_n hx hb dX6_line_43 rfl (lv_at hl 1 rfl) ?_
        refine lv_iconst (v := 1) hx hb dX6_line_44 (by decide) ?_
        refine lv_icmp_ne (tgt := 55) hx hb dX6_line_45 (by decide) (fun c12 => ?_) (fun c12 => ?_)
        · replace h := h.2 c12
          refine lv_iload_n hx hb dX6_line_55 rfl (lv_at hl 1 rfl) ?_
          refine lv_iconst (v := 2) hx hb dX6_line_56 (by decide) ?_
          refine lv_icmp_ne (tgt := 67) hx hb dX6_line_57 (by decide) (fun c13 => ?_) (fun c13 => ?_)
          · replace h := h.2 c13
            refine lv_iload_n hx hb dX6_line_67 rfl (lv_at hl 1 rfl) ?_
            refine lv_iconst (v := 3) hx hb dX6_line_68 (by decide) ?_
            refine lv_icmp_ne (tgt := 79) hx hb dX6_line_69 (by decide) (fun c14 => ?_) (fun c14 => ?_)
            · replace h := h.2 c14
              refine lv_iload_n hx hb dX6_line_79 rfl (lv_at hl 1 rfl) ?_
              refine lv_iconst (v := 4) hx hb dX6_line_80 (by decide) ?_
              refine lv_icmp_ne (tgt := 93) hx hb dX6_line_81 (by decide) (fun c15 => ?_) (fun c15 => ?_)
              · replace h := h.2 c15
                refine lv_aload_n hx hb dX6_line_93 rfl (lv_at hl 0 rfl) ?_
                refine end_i w (run_V (As := []) C w hl.1 (c_X6_baseOf l G C.2.2.1 _ _   _ h) kw_18_7 kw_1_5 kw_18_4 kw_18_5 kw_18_6 hd_X6_baseOf ⟨by decide, by decide⟩ (w.recv C (i := 57) (by decide) (pE_6) rfl) rfl (Nat.le_of_ble_eq_true rfl) dX6_line_94) (fun r16 M17 H locs h w => ?_)
                exact t_X6_line_97 C M17 r16  w (lv_sub hl [] rfl) h
              replace h := h.1 c15
              refine lv_aload_n hx hb dX6_line_84 rfl (lv_at hl 0 rfl) ?_
              refine end_i w (run_V (As := []) C w hl.1 (c_X6_hang l G C.2.2.1 _ _   _ h) kw_18_3 kw_1_5 kw_18_0 kw_18_1 kw_18_2 hd_X6_hang ⟨by decide, by decide⟩ (w.recv C (i := 57) (by decide) (pE_6) rfl) rfl (Nat.le_of_ble_eq_true rfl) dX6_line_85) (fun r18 M19 H locs h w => ?_)
              refine lv_iconst (v := 4) hx hb dX6_line_88 (by decide) ?_
              refine lv_idiv hx hb dX6_line_89 (by decide) ?_
              refine lv_goto (tgt := 97) hx hb dX6_line_90 (by decide) ?_
              exact t_X6_line_97 C M19 (r18 / (4 : Int32))  w (lv_sub hl [] rfl) h
            replace h := h.1 c14
            refine lv_aload_n hx hb dX6_line_72 rfl (lv_at hl 0 rfl) ?_
            refine end_i w (run_V (As := []) C w hl.1 (c_X6_hang l G C.2.2.1 _ _   _ h) kw_18_3 kw_1_5 kw_18_0 kw_18_1 kw_18_2 hd_X6_hang ⟨by decide, by decide⟩ (w.recv C (i := 57) (by decide) (pE_6) rfl) rfl (Nat.le_of_ble_eq_true rfl) dX6_line_73) (fun r20 M21 H locs h w => ?_)
            refine lv_goto (tgt := 97) hx hb dX6_line_76 (by decide) ?_
            exact t_X6_line_97 C M21 r20  w (lv_sub hl [] rfl) h
          replace h := h.1 c13
          refine lv_aload_n hx hb dX6_line_60 rfl (lv_at hl 0 rfl) ?_
          refine gt_6_20 C w kw_17_7 dX6_line_61 ?_
          refine lv_goto (tgt := 97) hx hb dX6_line_64 (by decide) ?_
          exact t_X6_line_97 C M10 (M10 57 20)  w (lv_sub hl [] rfl) h
        replace h := h.1 c12
        refine lv_aload_n hx hb dX6_line_48 rfl (lv_at hl 0 rfl) ?_
        refine gt_6_19 C w kw_17_6 dX6_line_49 ?_
        refine lv_goto (tgt := 97) hx hb dX6_line_52 (by decide) ?_
        exact t_X6_line_97 C M10 (M10 57 19)  w (lv_sub hl [] rfl) h
      replace h := h.1 c11
      refine lv_aload_n hx hb dX6_line_36 rfl (lv_at hl 0 rfl) ?_
      refine gt_6_18 C w kw_17_5 dX6_line_37 ?_
      refine lv_goto (tgt := 97) hx hb dX6_line_40 (by decide) ?_
      exact t_X6_line_97 C M10 (M10 57 18)  w (lv_sub hl [] rfl) h
    replace h := h.1 c6
    refine lv_bipush (v := -3) hx hb dX6_line_21 (by decide) ?_
    exact ret_i C w h dX6_line_23
  replace h := h.1 c3
  refine lv_iconst (v := -1) hx hb dX6_line_12 (by decide) ?_
  exact ret_i C w h dX6_line_13
def j_X0_riseAt_31 (post : Int32 → Mem → Prop) (M : Mem) (y0 : Int32) (x2 : Int32) : Prop := ¬ x2 = 0 ∧ (post (((M 4 3) * y0) / x2) M)
def q_X0_riseAt (M : Mem) (x1 : Int32) (post : Int32 → Mem → Prop) : Prop := ∀ v1 : Int32, v1 = (if (1 : Int32) < (M 4 4) then (M 4 4) else (1 : Int32)) → (¬ v1 = 0 ∧ ((v1 < ((2 : Int32) * (x1 - x1 / v1 * v1)) → (j_X0_riseAt_31 post M ((2 : Int32) * (v1 - (x1 - x1 / v1 * v1))) v1)) ∧ (¬ (v1 < ((2 : Int32) * (x1 - x1 / v1 * v1))) → (j_X0_riseAt_31 post M ((2 : Int32) * (x1 - x1 / v1 * v1)) v1))))
set_option maxHeartbeats 4000000 in
set_option maxRecDepth 100000 in
theorem t_X0_riseAt_31 (C : Cx G p s m args meth c RX0 cX0_riseAt 5 (some .int)) {post : Int32 → Mem → Prop} (M : Mem) (y0 : Int32) (x2 : Int32) {H : Heap} {locs : List Loc} {ls : Array Slot} (w : Wd G s M H locs) (hl : lv_has ls 5 [(0, .ref (ga G 4)), (2, .int x2)]) (h : j_X0_riseAt_31 post M y0 x2) : W p l e (rmk 1) s m args below meth c H locs 0 0 (MQ below (va_Qi post (Qw G) (Af G s.heap.size)) args s 0 0 (Af G s.heap.size)) (F0 m 31 ls [.int y0]) := by
  have hx := C.1.1
  have hb := C.1.2.1
  unfold j_X0_riseAt_31 at h
  refine lv_istore (lv' := [(4, .int y0), (0, .ref (ga G 4)), (2, .int x2)]) hx hb dX0_riseAt_31 hl (by decide) rfl (fun ls hl => ?_)
  refine lv_aload_n hx hb dX0_riseAt_33 rfl (lv_at hl 1 rfl) ?_
  refine gt_0_3 C w kw_4_1 dX0_riseAt_34 ?_
  refine lv_iload hx hb dX0_riseAt_37 (lv_at hl 0 rfl) ?_
  refine lv_imul hx hb dX0_riseAt_39 ?_
  refine lv_iload_n hx hb dX0_riseAt_40 rfl (lv_at hl 2 rfl) ?_
  refine lv_idiv hx hb dX0_riseAt_41 h.1 ?_
  replace h := h.2
  exact ret_i C w h dX0_riseAt_42
set_option maxHeartbeats 4000000 in
set_option maxRecDepth 100000 in
theorem c_X0_riseAt (l : Launch) (G : GG) (hG : Ag G) (sz : Nat) (M : Mem) (x1 : Int32) (post : Int32 → Mem → Prop) (h : q_X0_riseAt M x1 post) : Met l yX0_riseAt (Cond.code yX0_riseAt cX0_riseAt 5 (some .int) :: wsL_law) (rmk 1) (va_Pc [.ref (ga G 4), .int x1] (Pw G sz M)) (va_Qi post (Qw G) (Af G sz)) 0 0 (Af G sz) := by
  refine Met.ofW (cc := cX0_riseAt) (maxL := 5) (ret := (some .int)) (by decide) rfl ?_
  intro p e s m args below meth c s₁ B hml hv
  obtain ⟨rfl, hsz, hE, hP⟩ := hv
  subst hsz
  have C := Cx.of (own := RX0) hG hE rfl hml B
  have w : Wd G s M s.heap [] := ⟨hP, va_S.rf⟩
  have hl := lv_entry [.ref (ga G 4), .int x1] (n := 5) (Nat.le_of_ble_eq_true rfl)
  rw [lg_entry_eq]
  generalize (lg_sl [.ref (ga G 4), .int x1] ++ List.replicate (5 - (lg_sl [.ref (ga G 4), .int x1]).length) Slot.unset).toArray = ls at hl ⊢
  have hl : lv_has ls 5 [(0, .ref (ga G 4)), (1, .int x1)] := hl
  have hx := C.1.1
  have hb := C.1.2.1
  show W p l e (rmk 1) s m _ below meth c s.heap [] 0 0 _ _
  unfold q_X0_riseAt at h
  refine lv_iconst (v := 1) hx hb dX0_riseAt_0 (by decide) ?_
  refine lv_aload_n hx hb dX0_riseAt_1 rfl (lv_at hl 0 rfl) ?_
  refine gt_0_4 C w kw_4_2 dX0_riseAt_2 ?_
  refine va_mmax hx hb (C.ml hl) C.1.2.2.2.1 (C.ws kw_16_10) (C.ws kw_16_11) (C.ws kw_16_12) (C.ws kw_16_13) (Nat.le_of_ble_eq_true rfl) (Nat.le_of_ble_eq_true rfl) (Nat.le_refl 0) (Nat.le_refl 0) dX0_riseAt_5 ?_
  refine lv_topi (fun v1 ev1 => ?_)
  replace h := h v1 ev1
  refine lv_istore_n (lv' := [(2, .int v1), (0, .ref (ga G 4)), (1, .int x1)]) hx hb dX0_riseAt_8 rfl hl (by decide) rfl (fun ls hl => ?_)
  refine lv_iload_n hx hb dX0_riseAt_9 rfl (lv_at hl 2 rfl) ?_
  refine lv_iload_n hx hb dX0_riseAt_10 rfl (lv_at hl 0 rfl) ?_
  refine lv_irem hx hb dX0_riseAt_11 h.1 ?_
  replace h := h.2
  refine lv_istore_n (lv' := [(3, .int (x1 - x1 / v1 * v1)), (2, .int v1), (0, .ref (ga G 4)), (1, .int x1)]) hx hb dX0_riseAt_12 rfl hl (by decide) rfl (fun ls hl => ?_)
  refine lv_iconst (v := 2) hx hb dX0_riseAt_13 (by decide) ?_
  refine lv_iload_n hx hb dX0_riseAt_14 rfl (lv_at hl 0 rfl) ?_
  refine lv_imul hx hb dX0_riseAt_15 ?_
  refine lv_iload_n hx hb dX0_riseAt_16 rfl (lv_at hl 1 rfl) ?_
  refine lv_icmp_gt (tgt := 26) hx hb dX0_riseAt_17 (by decide) (fun c2 => ?_) (fun c2 => ?_)
  · replace h := h.1 c2
    refine lv_iconst (v := 2) hx hb dX0_riseAt_26 (by decide) ?_
    refine lv_iload_n hx hb dX0_riseAt_27 rfl (lv_at hl 1 rfl) ?_
    refine lv_iload_n hx hb dX0_riseAt_28 rfl (lv_at hl 0 rfl) ?_
    refine lv_isub hx hb dX0_riseAt_29 ?_
    refine lv_imul hx hb dX0_riseAt_30 ?_
    exact t_X0_riseAt_31 C M ((2 : Int32) * (v1 - (x1 - x1 / v1 * v1))) v1  w (lv_sub hl [2, 1] rfl) h
  replace h := h.2 c2
  refine lv_iconst (v := 2) hx hb dX0_riseAt_20 (by decide) ?_
  refine lv_iload_n hx hb dX0_riseAt_21 rfl (lv_at hl 0 rfl) ?_
  refine lv_imul hx hb dX0_riseAt_22 ?_
  refine lv_goto (tgt := 31) hx hb dX0_riseAt_23 (by decide) ?_
  exact t_X0_riseAt_31 C M ((2 : Int32) * (x1 - x1 / v1 * v1)) v1  w (lv_sub hl [2, 1] rfl) h
def q_X0_apartAt (M : Mem) (x1 : Int32) (post : Int32 → Mem → Prop) : Prop := q_X0_riseAt M x1 (fun r1 M2 => q_X0_riseAt M2 (x1 + (M2 4 0)) (fun r3 M4 => post (if 0 ≤ (r1 - r3) then (r1 - r3) else 0 - (r1 - r3)) M4))
set_option maxHeartbeats 4000000 in
set_option maxRecDepth 100000 in
theorem c_X0_apartAt (l : Launch) (G : GG) (hG : Ag G) (sz : Nat) (M : Mem) (x1 : Int32) (post : Int32 → Mem → Prop) (h : q_X0_apartAt M x1 post) : Met l yX0_apartAt (Cond.code yX0_apartAt cX0_apartAt 2 (some .int) :: wsL_law) (rmk 2) (va_Pc [.ref (ga G 4), .int x1] (Pw G sz M)) (va_Qi post (Qw G) (Af G sz)) 0 0 (Af G sz) := by
  refine Met.ofW (cc := cX0_apartAt) (maxL := 2) (ret := (some .int)) (by decide) rfl ?_
  intro p e s m args below meth c s₁ B hml hv
  obtain ⟨rfl, hsz, hE, hP⟩ := hv
  subst hsz
  have C := Cx.of (own := RX0) hG hE rfl hml B
  have w : Wd G s M s.heap [] := ⟨hP, va_S.rf⟩
  have hl := lv_entry [.ref (ga G 4), .int x1] (n := 2) (Nat.le_of_ble_eq_true rfl)
  rw [lg_entry_eq]
  generalize (lg_sl [.ref (ga G 4), .int x1] ++ List.replicate (2 - (lg_sl [.ref (ga G 4), .int x1]).length) Slot.unset).toArray = ls at hl ⊢
  have hl : lv_has ls 2 [(0, .ref (ga G 4)), (1, .int x1)] := hl
  have hx := C.1.1
  have hb := C.1.2.1
  show W p l e (rmk 2) s m _ below meth c s.heap [] 0 0 _ _
  unfold q_X0_apartAt at h
  refine lv_aload_n hx hb dX0_apartAt_0 rfl (lv_at hl 0 rfl) ?_
  refine lv_iload_n hx hb dX0_apartAt_1 rfl (lv_at hl 1 rfl) ?_
  refine end_i w (run_V (As := [.int x1]) C w hl.1 (c_X0_riseAt l G C.2.2.1 _ _ x1  _ h) kw_18_21 kw_1_21 kw_18_18 kw_18_19 kw_18_20 hd_X0_riseAt ⟨by decide, by decide⟩ (w.recv C (i := 4) (by decide) (pE_0) rfl) rfl (Nat.le_of_ble_eq_true rfl) dX0_apartAt_2) (fun r1 M2 H locs h w => ?_)
  refine lv_aload_n hx hb dX0_apartAt_5 rfl (lv_at hl 0 rfl) ?_
  refine lv_iload_n hx hb dX0_apartAt_6 rfl (lv_at hl 1 rfl) ?_
  refine lv_aload_n hx hb dX0_apartAt_7 rfl (lv_at hl 0 rfl) ?_
  refine gt_0_0 C w kw_3_22 dX0_apartAt_8 ?_
  refine lv_iadd hx hb dX0_apartAt_11 ?_
  refine end_i w (run_V (As := [.int (x1 + (M2 4 0))]) C w hl.1 (c_X0_riseAt l G C.2.2.1 _ _ (x1 + (M2 4 0))  _ h) kw_18_21 kw_1_21 kw_18_18 kw_18_19 kw_18_20 hd_X0_riseAt ⟨by decide, by decide⟩ (w.recv C (i := 4) (by decide) (pE_0) rfl) rfl (Nat.le_of_ble_eq_true rfl) dX0_apartAt_12) (fun r3 M4 H locs h w => ?_)
  refine lv_isub hx hb dX0_apartAt_15 ?_
  refine va_mabs hx hb (C.ml hl) C.1.2.2.2.1 (C.ws kw_18_15) (C.ws kw_18_16) (C.ws kw_16_12) (C.ws kw_18_17) (Nat.le_of_ble_eq_true rfl) (Nat.le_of_ble_eq_true rfl) (Nat.le_refl 0) (Nat.le_refl 0) dX0_apartAt_16 ?_
  exact ret_i C w h dX0_apartAt_19
def j_X5_apart_33 (post : Int32 → Mem → Prop) (M : Mem) (y0 : Int32) : Prop := post y0 M
def q_X5_apart (M : Mem) (x1 : Int32) (post : Int32 → Mem → Prop) : Prop := q_X5_isWithin M x1 (0 : Int32) (9999 : Int32) (fun r1 M2 => (r1 = 0 → (post (-1 : Int32) M2)) ∧ (¬ (r1 = 0) → (q_X5_layLine M2  (fun r4 M5 => (r4 = 0 → (j_X5_apart_33 post M5 (-3 : Int32))) ∧ (¬ (r4 = 0) → (q_X0_apartAt M5 x1 (fun r7 M8 => j_X5_apart_33 post M8 r7)))))))
set_option maxHeartbeats 4000000 in
set_option maxRecDepth 100000 in
theorem t_X5_apart_33 (C : Cx G p s m args meth c RX5 cX5_apart 2 (some .int)) {post : Int32 → Mem → Prop} (M : Mem) (y0 : Int32) {H : Heap} {locs : List Loc} {ls : Array Slot} (w : Wd G s M H locs) (hl : lv_has ls 2 []) (h : j_X5_apart_33 post M y0) : W p l e (rmk 3) s m args below meth c H locs 0 0 (MQ below (va_Qi post (Qw G) (Af G s.heap.size)) args s 0 0 (Af G s.heap.size)) (F0 m 33 ls [.int y0]) := by
  have hx := C.1.1
  have hb := C.1.2.1
  unfold j_X5_apart_33 at h
  exact ret_i C w h dX5_apart_33
set_option maxHeartbeats 4000000 in
set_option maxRecDepth 100000 in
theorem c_X5_apart (l : Launch) (G : GG) (hG : Ag G) (sz : Nat) (M : Mem) (x1 : Int32) (post : Int32 → Mem → Prop) (h : q_X5_apart M x1 post) : Met l yX5_apart (Cond.code yX5_apart cX5_apart 2 (some .int) :: wsL_law) (rmk 3) (va_Pc [.ref (ga G 0), .int x1] (Pw G sz M)) (va_Qi post (Qw G) (Af G sz)) 0 0 (Af G sz) := by
  refine Met.ofW (cc := cX5_apart) (maxL := 2) (ret := (some .int)) (by decide) rfl ?_
  intro p e s m args below meth c s₁ B hml hv
  obtain ⟨rfl, hsz, hE, hP⟩ := hv
  subst hsz
  have C := Cx.of (own := RX5) hG hE rfl hml B
  have w : Wd G s M s.heap [] := ⟨hP, va_S.rf⟩
  have hl := lv_entry [.ref (ga G 0), .int x1] (n := 2) (Nat.le_of_ble_eq_true rfl)
  rw [lg_entry_eq]
  generalize (lg_sl [.ref (ga G 0), .int x1] ++ List.replicate (2 - (lg_sl [.ref (ga G 0), .int x1]).length) Slot.unset).toArray = ls at hl ⊢
  have hl : lv_has ls 2 [(0, .ref (ga G 0)), (1, .int x1)] := hl
  have hx := C.1.1
  have hb := C.1.2.1
  show W p l e (rmk 3) s m _ below meth c s.heap [] 0 0 _ _
  unfold q_X5_apart at h
  refine lv_iload_n hx hb dX5_apart_0 rfl (lv_at hl 1 rfl) ?_
  refine lv_iconst (v := 0) hx hb dX5_apart_1 (by decide) ?_
  refine lv_sipush (v := 9999) hx hb dX5_apart_2 (by decide) ?_
  refine end_i w (run_S (As := [.int x1, .int (0 : Int32), .int (9999 : Int32)]) C w hl.1 (c_X5_isWithin l G C.2.2.1 _ _ x1 (0 : Int32) (9999 : Int32)  _ h) kw_6_8 kw_1_2 kw_6_6 kw_6_7 hd_X5_isWithin ⟨by decide, by decide⟩ rfl (Nat.le_of_ble_eq_true rfl) dX5_apart_5) (fun r1 M2 H locs h w => ?_)
  refine lv_if_ne (tgt := 13) hx hb dX5_apart_8 (by decide) (fun c3 => ?_) (fun c3 => ?_)
  · replace h := h.2 c3
    refine lv_aload_n hx hb dX5_apart_13 rfl (lv_at hl 0 rfl) ?_
    refine end_i w (run_V (As := []) C w hl.1 (c_X5_layLine l G C.2.2.1 _ _   _ h) kw_15_21 kw_1_2 kw_15_18 kw_15_19 kw_15_20 hd_X5_layLine ⟨by decide, by decide⟩ (w.recv C (i := 0) (by decide) (pE_5) rfl) rfl (Nat.le_of_ble_eq_true rfl) dX5_apart_14) (fun r4 M5 H locs h w => ?_)
    refine lv_if_eq (tgt := 31) hx hb dX5_apart_17 (by decide) (fun c6 => ?_) (fun c6 => ?_)
    · replace h := h.1 c6
      refine lv_bipush (v := -3) hx hb dX5_apart_31 (by decide) ?_
      exact t_X5_apart_33 C M5 (-3 : Int32)  w (lv_sub hl [] rfl) h
    replace h := h.2 c6
    refine lv_aload_n hx hb dX5_apart_20 rfl (lv_at hl 0 rfl) ?_
    refine gt_5_3 C w kw_1_22 dX5_apart_21 ?_
    refine lv_iload_n hx hb dX5_apart_24 rfl (lv_at hl 1 rfl) ?_
    refine end_i w (run_VN (As := [.int x1]) C w hl.1 (c_X0_apartAt l G C.2.2.1 _ _ x1  _ h) kw_18_14 kw_1_21 kn_62 kw_18_12 kw_18_13 hd_X0_apartAt ⟨by decide, by decide⟩ (w.recv C (i := 4) (by decide) (pE_0) rfl) rfl (Nat.le_of_ble_eq_true rfl) dX5_apart_25) (fun r7 M8 H locs h w => ?_)
    refine lv_goto (tgt := 33) hx hb dX5_apart_28 (by decide) ?_
    exact t_X5_apart_33 C M8 r7  w (lv_sub hl [] rfl) h
  replace h := h.1 c3
  refine lv_iconst (v := -1) hx hb dX5_apart_11 (by decide) ?_
  exact ret_i C w h dX5_apart_12
def j_X6_amount_10 (post : Int32 → Mem → Prop) (M : Mem) (y0 : Int32) : Prop := post y0 M
def q_X6_amount (M : Mem) (x0 : Int32) (post : Int32 → Mem → Prop) : Prop := (0 ≤ x0 → (j_X6_amount_10 post M x0)) ∧ (¬ (0 ≤ x0) → (j_X6_amount_10 post M (-x0)))
set_option maxHeartbeats 4000000 in
set_option maxRecDepth 100000 in
theorem t_X6_amount_10 (C : Cx G p s m args meth c RX6 cX6_amount 1 (some .int)) {post : Int32 → Mem → Prop} (M : Mem) (y0 : Int32) {H : Heap} {locs : List Loc} {ls : Array Slot} (w : Wd G s M H locs) (hl : lv_has ls 1 []) (h : j_X6_amount_10 post M y0) : W p l e (rmk 1) s m args below meth c H locs 0 0 (MQ below (va_Qi post (Qw G) (Af G s.heap.size)) args s 0 0 (Af G s.heap.size)) (F0 m 10 ls [.int y0]) := by
  have hx := C.1.1
  have hb := C.1.2.1
  unfold j_X6_amount_10 at h
  exact ret_i C w h dX6_amount_10
set_option maxHeartbeats 4000000 in
set_option maxRecDepth 100000 in
theorem c_X6_amount (l : Launch) (G : GG) (hG : Ag G) (sz : Nat) (M : Mem) (x0 : Int32) (post : Int32 → Mem → Prop) (h : q_X6_amount M x0 post) : Met l yX6_amount (Cond.code yX6_amount cX6_amount 1 (some .int) :: wsL_law) (rmk 1) (va_Pc [.int x0] (Pw G sz M)) (va_Qi post (Qw G) (Af G sz)) 0 0 (Af G sz) := by
  refine Met.ofW (cc := cX6_amount) (maxL := 1) (ret := (some .int)) (by decide) rfl ?_
  intro p e s m args below meth c s₁ B hml hv
  obtain ⟨rfl, hsz, hE, hP⟩ := hv
  subst hsz
  have C := Cx.of (own := RX6) hG hE rfl hml B
  have w : Wd G s M s.heap [] := ⟨hP, va_S.rf⟩
  have hl := lv_entry [.int x0] (n := 1) (Nat.le_of_ble_eq_true rfl)
  rw [lg_entry_eq]
  generalize (lg_sl [.int x0] ++ List.replicate (1 - (lg_sl [.int x0]).length) Slot.unset).toArray = ls at hl ⊢
  have hl : lv_has ls 1 [(0, .int x0)] := hl
  have hx := C.1.1
  have hb := C.1.2.1
  show W p l e (rmk 1) s m _ below meth c s.heap [] 0 0 _ _
  unfold q_X6_amount at h
  refine lv_iload_n hx hb dX6_amount_0 rfl (lv_at hl 0 rfl) ?_
  refine lv_if_ge (tgt := 9) hx hb dX6_amount_1 (by decide) (fun c1 => ?_) (fun c1 => ?_)
  · replace h := h.1 c1
    refine lv_iload_n hx hb dX6_amount_9 rfl (lv_at hl 0 rfl) ?_
    exact t_X6_amount_10 C M x0  w (lv_sub hl [] rfl) h
  replace h := h.2 c1
  refine lv_iload_n hx hb dX6_amount_4 rfl (lv_at hl 0 rfl) ?_
  refine lv_ineg hx hb dX6_amount_5 ?_
  refine lv_goto (tgt := 10) hx hb dX6_amount_6 (by decide) ?_
  exact t_X6_amount_10 C M (-x0)  w (lv_sub hl [] rfl) h
def j_X6_rise_40 (post : Int32 → Mem → Prop) (M : Mem) (y0 : Int32) (x2 : Int32) : Prop := ¬ (M 58 6) = 0 ∧ (post ((x2 * y0) / (M 58 6)) M)
def q_X6_rise (M : Mem) (x1 : Int32) (x2 : Int32) (post : Int32 → Mem → Prop) : Prop := ¬ (M 58 6) = 0 ∧ (((M 58 6) < ((2 : Int32) * (x1 - x1 / (M 58 6) * (M 58 6))) → (j_X6_rise_40 post M ((2 : Int32) * ((M 58 6) - (x1 - x1 / (M 58 6) * (M 58 6)))) x2)) ∧ (¬ ((M 58 6) < ((2 : Int32) * (x1 - x1 / (M 58 6) * (M 58 6)))) → (j_X6_rise_40 post M ((2 : Int32) * (x1 - x1 / (M 58 6) * (M 58 6))) x2)))
set_option maxHeartbeats 4000000 in
set_option maxRecDepth 100000 in
theorem t_X6_rise_40 (C : Cx G p s m args meth c RX6 cX6_rise 5 (some .int)) {post : Int32 → Mem → Prop} (M : Mem) (y0 : Int32) (x2 : Int32) {H : Heap} {locs : List Loc} {ls : Array Slot} (w : Wd G s M H locs) (hl : lv_has ls 5 [(0, .ref (ga G 57)), (2, .int x2)]) (h : j_X6_rise_40 post M y0 x2) : W p l e (rmk 1) s m args below meth c H locs 0 0 (MQ below (va_Qi post (Qw G) (Af G s.heap.size)) args s 0 0 (Af G s.heap.size)) (F0 m 40 ls [.int y0]) := by
  have hx := C.1.1
  have hb := C.1.2.1
  unfold j_X6_rise_40 at h
  refine lv_istore (lv' := [(4, .int y0), (0, .ref (ga G 57)), (2, .int x2)]) hx hb dX6_rise_40 hl (by decide) rfl (fun ls hl => ?_)
  refine lv_iload_n hx hb dX6_rise_42 rfl (lv_at hl 2 rfl) ?_
  refine lv_iload hx hb dX6_rise_43 (lv_at hl 0 rfl) ?_
  refine lv_imul hx hb dX6_rise_45 ?_
  refine lv_aload_n hx hb dX6_rise_46 rfl (lv_at hl 1 rfl) ?_
  refine gt_6_0 C w kw_5_0 dX6_rise_47 ?_
  refine lv_bipush (v := 6) hx hb dX6_rise_50 (by decide) ?_
  refine pw_ld C w (i := 58) (by decide) pE_58 (vl (x := (6 : Int32)) (by decide)) (k := 6) (by decide) dX6_rise_52 ?_
  refine lv_idiv hx hb dX6_rise_53 h.1 ?_
  replace h := h.2
  exact ret_i C w h dX6_rise_54
set_option maxHeartbeats 4000000 in
set_option maxRecDepth 100000 in
theorem c_X6_rise (l : Launch) (G : GG) (hG : Ag G) (sz : Nat) (M : Mem) (x1 : Int32) (x2 : Int32) (post : Int32 → Mem → Prop) (h : q_X6_rise M x1 x2 post) : Met l yX6_rise (Cond.code yX6_rise cX6_rise 5 (some .int) :: wsL_law) (rmk 1) (va_Pc [.ref (ga G 57), .int x1, .int x2] (Pw G sz M)) (va_Qi post (Qw G) (Af G sz)) 0 0 (Af G sz) := by
  refine Met.ofW (cc := cX6_rise) (maxL := 5) (ret := (some .int)) (by decide) rfl ?_
  intro p e s m args below meth c s₁ B hml hv
  obtain ⟨rfl, hsz, hE, hP⟩ := hv
  subst hsz
  have C := Cx.of (own := RX6) hG hE rfl hml B
  have w : Wd G s M s.heap [] := ⟨hP, va_S.rf⟩
  have hl := lv_entry [.ref (ga G 57), .int x1, .int x2] (n := 5) (Nat.le_of_ble_eq_true rfl)
  rw [lg_entry_eq]
  generalize (lg_sl [.ref (ga G 57), .int x1, .int x2] ++ List.replicate (5 - (lg_sl [.ref (ga G 57), .int x1, .int x2]).length) Slot.unset).toArray = ls at hl ⊢
  have hl : lv_has ls 5 [(0, .ref (ga G 57)), (1, .int x1), (2, .int x2)] := hl
  have hx := C.1.1
  have hb := C.1.2.1
  show W p l e (rmk 1) s m _ below meth c s.heap [] 0 0 _ _
  unfold q_X6_rise at h
  refine lv_iload_n hx hb dX6_rise_0 rfl (lv_at hl 1 rfl) ?_
  refine lv_aload_n hx hb dX6_rise_1 rfl (lv_at hl 0 rfl) ?_
  refine gt_6_0 C w kw_5_0 dX6_rise_2 ?_
  refine lv_bipush (v := 6) hx hb dX6_rise_5 (by decide) ?_
  refine pw_ld C w (i := 58) (by decide) pE_58 (vl (x := (6 : Int32)) (by decide)) (k := 6) (by decide) dX6_rise_7 ?_
  refine lv_irem hx hb dX6_rise_8 h.1 ?_
  replace h := h.2
  refine lv_istore_n (lv' := [(3, .int (x1 - x1 / (M 58 6) * (M 58 6))), (0, .ref (ga G 57)), (1, .int x1), (2, .int x2)]) hx hb dX6_rise_9 rfl hl (by decide) rfl (fun ls hl => ?_)
  refine lv_iconst (v := 2) hx hb dX6_rise_10 (by decide) ?_
  refine lv_iload_n hx hb dX6_rise_11 rfl (lv_at hl 0 rfl) ?_
  refine lv_imul hx hb dX6_rise_12 ?_
  refine lv_aload_n hx hb dX6_rise_13 rfl (lv_at hl 1 rfl) ?_
  refine gt_6_0 C w kw_5_0 dX6_rise_14 ?_
  refine lv_bipush (v := 6) hx hb dX6_rise_17 (by decide) ?_
  refine pw_ld C w (i := 58) (by decide) pE_58 (vl (x := (6 : Int32)) (by decide)) (k := 6) (by decide) dX6_rise_19 ?_
  refine lv_icmp_gt (tgt := 29) hx hb dX6_rise_20 (by decide) (fun c1 => ?_) (fun c1 => ?_)
  · replace h := h.1 c1
    refine lv_iconst (v := 2) hx hb dX6_rise_29 (by decide) ?_
    refine lv_aload_n hx hb dX6_rise_30 rfl (lv_at hl 1 rfl) ?_
    refine gt_6_0 C w kw_5_0 dX6_rise_31 ?_
    refine lv_bipush (v := 6) hx hb dX6_rise_34 (by decide) ?_
    refine pw_ld C w (i := 58) (by decide) pE_58 (vl (x := (6 : Int32)) (by decide)) (k := 6) (by decide) dX6_rise_36 ?_
    refine lv_iload_n hx hb dX6_rise_37 rfl (lv_at hl 0 rfl) ?_
    refine lv_isub hx hb dX6_rise_38 ?_
    refine lv_imul hx hb dX6_rise_39 ?_
    exact t_X6_rise_40 C M ((2 : Int32) * ((M 58 6) - (x1 - x1 / (M 58 6) * (M 58 6)))) x2  w (lv_sub hl [1, 3] rfl) h
  replace h := h.2 c1
  refine lv_iconst (v := 2) hx hb dX6_rise_23 (by decide) ?_
  refine lv_iload_n hx hb dX6_rise_24 rfl (lv_at hl 0 rfl) ?_
  refine lv_imul hx hb dX6_rise_25 ?_
  refine lv_goto (tgt := 40) hx hb dX6_rise_26 (by decide) ?_
  exact t_X6_rise_40 C M ((2 : Int32) * (x1 - x1 / (M 58 6) * (M 58 6))) x2  w (lv_sub hl [1, 3] rfl) h
def q_X6_apartAt (M : Mem) (x1 : Int32) (x2 : Int32) (post : Int32 → Mem → Prop) : Prop := q_X6_rise M x1 x2 (fun r1 M2 => q_X6_rise M2 (x1 + (M2 57 18)) x2 (fun r3 M4 => q_X6_amount M4 (r1 - r3) (fun r5 M6 => post r5 M6)))
set_option maxHeartbeats 4000000 in
set_option maxRecDepth 100000 in
theorem c_X6_apartAt (l : Launch) (G : GG) (hG : Ag G) (sz : Nat) (M : Mem) (x1 : Int32) (x2 : Int32) (post : Int32 → Mem → Prop) (h : q_X6_apartAt M x1 x2 post) : Met l yX6_apartAt (Cond.code yX6_apartAt cX6_apartAt 3 (some .int) :: wsL_law) (rmk 2) (va_Pc [.ref (ga G 57), .int x1, .int x2] (Pw G sz M)) (va_Qi post (Qw G) (Af G sz)) 0 0 (Af G sz) := by
  refine Met.ofW (cc := cX6_apartAt) (maxL := 3) (ret := (some .int)) (by decide) rfl ?_
  intro p e s m args below meth c s₁ B hml hv
  obtain ⟨rfl, hsz, hE, hP⟩ := hv
  subst hsz
  have C := Cx.of (own := RX6) hG hE rfl hml B
  have w : Wd G s M s.heap [] := ⟨hP, va_S.rf⟩
  have hl := lv_entry [.ref (ga G 57), .int x1, .int x2] (n := 3) (Nat.le_of_ble_eq_true rfl)
  rw [lg_entry_eq]
  generalize (lg_sl [.ref (ga G 57), .int x1, .int x2] ++ List.replicate (3 - (lg_sl [.ref (ga G 57), .int x1, .int x2]).length) Slot.unset).toArray = ls at hl ⊢
  have hl : lv_has ls 3 [(0, .ref (ga G 57)), (1, .int x1), (2, .int x2)] := hl
  have hx := C.1.1
  have hb := C.1.2.1
  show W p l e (rmk 2) s m _ below meth c s.heap [] 0 0 _ _
  unfold q_X6_apartAt at h
  refine lv_aload_n hx hb dX6_apartAt_0 rfl (lv_at hl 0 rfl) ?_
  refine lv_iload_n hx hb dX6_apartAt_1 rfl (lv_at hl 1 rfl) ?_
  refine lv_iload_n hx hb dX6_apartAt_2 rfl (lv_at hl 2 rfl) ?_
  refine end_i w (run_V (As := [.int x1, .int x2]) C w hl.1 (c_X6_rise l G C.2.2.1 _ _ x1 x2  _ h) kw_19_10 kw_1_5 kw_19_7 kw_19_8 kw_19_9 hd_X6_rise ⟨by decide, by decide⟩ (w.recv C (i := 57) (by decide) (pE_6) rfl) rfl (Nat.le_of_ble_eq_true rfl) dX6_apartAt_3) (fun r1 M2 H locs h w => ?_)
  refine lv_aload_n hx hb dX6_apartAt_6 rfl (lv_at hl 0 rfl) ?_
  refine lv_iload_n hx hb dX6_apartAt_7 rfl (lv_at hl 1 rfl) ?_
  refine lv_aload_n hx hb dX6_apartAt_8 rfl (lv_at hl 0 rfl) ?_
  refine gt_6_18 C w kw_17_5 dX6_apartAt_9 ?_
  refine lv_iadd hx hb dX6_apartAt_12 ?_
  refine lv_iload_n hx hb dX6_apartAt_13 rfl (lv_at hl 2 rfl) ?_
  refine end_i w (run_V (As := [.int (x1 + (M2 57 18)), .int x2]) C w hl.1 (c_X6_rise l G C.2.2.1 _ _ (x1 + (M2 57 18)) x2  _ h) kw_19_10 kw_1_5 kw_19_7 kw_19_8 kw_19_9 hd_X6_rise ⟨by decide, by decide⟩ (w.recv C (i := 57) (by decide) (pE_6) rfl) rfl (Nat.le_of_ble_eq_true rfl) dX6_apartAt_14) (fun r3 M4 H locs h w => ?_)
  refine lv_isub hx hb dX6_apartAt_17 ?_
  refine end_i w (run_S (As := [.int (r1 - r3)]) C w hl.1 (c_X6_amount l G C.2.2.1 _ _ (r1 - r3)  _ h) kw_19_13 kw_1_5 kw_19_11 kw_19_12 hd_X6_amount ⟨by decide, by decide⟩ rfl (Nat.le_of_ble_eq_true rfl) dX6_apartAt_18) (fun r5 M6 H locs h w => ?_)
  exact ret_i C w h dX6_apartAt_21
def q_X6_apart (M : Mem) (x1 : Int32) (post : Int32 → Mem → Prop) : Prop := q_X6_isIn M x1.toInt64 (0 : Int64) (9999 : Int64) (fun r1 M2 => (r1 = 0 → (post (-1 : Int32) M2)) ∧ (¬ (r1 = 0) → (q_X6_isLine M2  (fun r4 M5 => (r4 = 0 → (post (-3 : Int32) M5)) ∧ (¬ (r4 = 0) → (q_X6_allPieces M5  (fun r7 M8 => q_X6_sumsUp M8 r7 (fun M10 => q_X6_apartAt M10 x1 (M10 58 5) (fun r11 M12 => post r11 M12)))))))))
set_option maxHeartbeats 4000000 in
set_option maxRecDepth 100000 in
theorem c_X6_apart (l : Launch) (G : GG) (hG : Ag G) (sz : Nat) (M : Mem) (x1 : Int32) (post : Int32 → Mem → Prop) (h : q_X6_apart M x1 post) : Met l yX6_apart (Cond.code yX6_apart cX6_apart 2 (some .int) :: wsL_law) (rmk 3) (va_Pc [.ref (ga G 57), .int x1] (Pw G sz M)) (va_Qi post (Qw G) (Af G sz)) 0 0 (Af G sz) := by
  refine Met.ofW (cc := cX6_apart) (maxL := 2) (ret := (some .int)) (by decide) rfl ?_
  intro p e s m args below meth c s₁ B hml hv
  obtain ⟨rfl, hsz, hE, hP⟩ := hv
  subst hsz
  have C := Cx.of (own := RX6) hG hE rfl hml B
  have w : Wd G s M s.heap [] := ⟨hP, va_S.rf⟩
  have hl := lv_entry [.ref (ga G 57), .int x1] (n := 2) (Nat.le_of_ble_eq_true rfl)
  rw [lg_entry_eq]
  generalize (lg_sl [.ref (ga G 57), .int x1] ++ List.replicate (2 - (lg_sl [.ref (ga G 57), .int x1]).length) Slot.unset).toArray = ls at hl ⊢
  have hl : lv_has ls 2 [(0, .ref (ga G 57)), (1, .int x1)] := hl
  have hx := C.1.1
  have hb := C.1.2.1
  show W p l e (rmk 3) s m _ below meth c s.heap [] 0 0 _ _
  unfold q_X6_apart at h
  refine lv_iload_n hx hb dX6_apart_0 rfl (lv_at hl 1 rfl) ?_
  refine lv_i2l hx hb dX6_apart_1 rfl ?_
  refine lv_lconst (v := 0) hx hb dX6_apart_2 (by decide) ?_
  refine lv_ldc2 hx hb C.1.2.2.2.1 (C.ws kw_19_2) dX6_apart_3 ?_
  refine end_i w (run_S (As := [.long x1.toInt64, .long (0 : Int64), .long (9999 : Int64)]) C w hl.1 (c_X6_isIn l G C.2.2.1 _ _ x1.toInt64 (0 : Int64) (9999 : Int64)  _ h) kw_12_5 kw_1_5 kw_12_3 kw_12_4 hd_X6_isIn ⟨by decide, by decide⟩ rfl (Nat.le_of_ble_eq_true rfl) dX6_apart_6) (fun r1 M2 H locs h w => ?_)
  refine lv_if_ne (tgt := 14) hx hb dX6_apart_9 (by decide) (fun c3 => ?_) (fun c3 => ?_)
  · replace h := h.2 c3
    refine lv_aload_n hx hb dX6_apart_14 rfl (lv_at hl 0 rfl) ?_
    refine end_i w (run_V (As := []) C w hl.1 (c_X6_isLine l G C.2.2.1 _ _   _ h) kw_17_11 kw_1_5 kw_17_8 kw_17_9 kw_17_10 hd_X6_isLine ⟨by decide, by decide⟩ (w.recv C (i := 57) (by decide) (pE_6) rfl) rfl (Nat.le_of_ble_eq_true rfl) dX6_apart_15) (fun r4 M5 H locs h w => ?_)
    refine lv_if_ne (tgt := 24) hx hb dX6_apart_18 (by decide) (fun c6 => ?_) (fun c6 => ?_)
    · replace h := h.2 c6
      refine lv_aload_n hx hb dX6_apart_24 rfl (lv_at hl 0 rfl) ?_
      refine lv_aload_n hx hb dX6_apart_25 rfl (lv_at hl 0 rfl) ?_
      refine end_i w (run_V (As := []) C w hl.1 (c_X6_allPieces l G C.2.2.1 _ _   _ h) kw_17_15 kw_1_5 kw_17_12 kw_17_13 kw_17_14 hd_X6_allPieces ⟨by decide, by decide⟩ (w.recv C (i := 57) (by decide) (pE_6) rfl) rfl (Nat.le_of_ble_eq_true rfl) dX6_apart_26) (fun r7 M8 H locs h w => ?_)
      refine end_v w (run_V (As := [.int r7]) C w hl.1 (c_X6_sumsUp l G C.2.2.1 _ _ r7  _ h) kw_17_19 kw_1_5 kw_17_16 kw_17_17 kw_17_18 hd_X6_sumsUp ⟨by decide, by decide⟩ (w.recv C (i := 57) (by decide) (pE_6) rfl) rfl (Nat.le_of_ble_eq_true rfl) dX6_apart_29) (fun M10 H locs h w => ?_)
      refine lv_aload_n hx hb dX6_apart_32 rfl (lv_at hl 0 rfl) ?_
      refine lv_iload_n hx hb dX6_apart_33 rfl (lv_at hl 1 rfl) ?_
      refine lv_aload_n hx hb dX6_apart_34 rfl (lv_at hl 0 rfl) ?_
      refine gt_6_0 C w kw_5_0 dX6_apart_35 ?_
      refine lv_iconst (v := 5) hx hb dX6_apart_38 (by decide) ?_
      refine pw_ld C w (i := 58) (by decide) pE_58 (vl (x := (5 : Int32)) (by decide)) (k := 5) (by decide) dX6_apart_39 ?_
      refine end_i w (run_V (As := [.int x1, .int (M10 58 5)]) C w hl.1 (c_X6_apartAt l G C.2.2.1 _ _ x1 (M10 58 5)  _ h) kw_19_6 kw_1_5 kw_19_3 kw_19_4 kw_19_5 hd_X6_apartAt ⟨by decide, by decide⟩ (w.recv C (i := 57) (by decide) (pE_6) rfl) rfl (Nat.le_of_ble_eq_true rfl) dX6_apart_40) (fun r11 M12 H locs h w => ?_)
      exact ret_i C w h dX6_apart_43
    replace h := h.1 c6
    refine lv_bipush (v := -3) hx hb dX6_apart_21 (by decide) ?_
    exact ret_i C w h dX6_apart_23
  replace h := h.1 c3
  refine lv_iconst (v := -1) hx hb dX6_apart_12 (by decide) ?_
  exact ret_i C w h dX6_apart_13
def q_X0_overAt (M : Mem) (x1 : Int32) (post : Int32 → Mem → Prop) : Prop := q_X0_apartAt M x1 (fun r1 M2 => q_X0_slack M2  (fun r3 M4 => post (r1 - r3) M4))
set_option maxHeartbeats 4000000 in
set_option maxRecDepth 100000 in
theorem c_X0_overAt (l : Launch) (G : GG) (hG : Ag G) (sz : Nat) (M : Mem) (x1 : Int32) (post : Int32 → Mem → Prop) (h : q_X0_overAt M x1 post) : Met l yX0_overAt (Cond.code yX0_overAt cX0_overAt 2 (some .int) :: wsL_law) (rmk 3) (va_Pc [.ref (ga G 4), .int x1] (Pw G sz M)) (va_Qi post (Qw G) (Af G sz)) 0 0 (Af G sz) := by
  refine Met.ofW (cc := cX0_overAt) (maxL := 2) (ret := (some .int)) (by decide) rfl ?_
  intro p e s m args below meth c s₁ B hml hv
  obtain ⟨rfl, hsz, hE, hP⟩ := hv
  subst hsz
  have C := Cx.of (own := RX0) hG hE rfl hml B
  have w : Wd G s M s.heap [] := ⟨hP, va_S.rf⟩
  have hl := lv_entry [.ref (ga G 4), .int x1] (n := 2) (Nat.le_of_ble_eq_true rfl)
  rw [lg_entry_eq]
  generalize (lg_sl [.ref (ga G 4), .int x1] ++ List.replicate (2 - (lg_sl [.ref (ga G 4), .int x1]).length) Slot.unset).toArray = ls at hl ⊢
  have hl : lv_has ls 2 [(0, .ref (ga G 4)), (1, .int x1)] := hl
  have hx := C.1.1
  have hb := C.1.2.1
  show W p l e (rmk 3) s m _ below meth c s.heap [] 0 0 _ _
  unfold q_X0_overAt at h
  refine lv_aload_n hx hb dX0_overAt_0 rfl (lv_at hl 0 rfl) ?_
  refine lv_iload_n hx hb dX0_overAt_1 rfl (lv_at hl 1 rfl) ?_
  refine end_i w (run_V (As := [.int x1]) C w hl.1 (c_X0_apartAt l G C.2.2.1 _ _ x1  _ h) kw_18_14 kw_1_21 kw_20_1 kw_18_12 kw_18_13 hd_X0_apartAt ⟨by decide, by decide⟩ (w.recv C (i := 4) (by decide) (pE_0) rfl) rfl (Nat.le_of_ble_eq_true rfl) dX0_overAt_2) (fun r1 M2 H locs h w => ?_)
  refine lv_aload_n hx hb dX0_overAt_5 rfl (lv_at hl 0 rfl) ?_
  refine end_i w (run_V (As := []) C w hl.1 (c_X0_slack l G C.2.2.1 _ _   _ h) kw_16_19 kw_1_21 kw_20_2 kw_16_17 kw_16_18 hd_X0_slack ⟨by decide, by decide⟩ (w.recv C (i := 4) (by decide) (pE_0) rfl) rfl (Nat.le_of_ble_eq_true rfl) dX0_overAt_6) (fun r3 M4 H locs h w => ?_)
  refine lv_isub hx hb dX0_overAt_9 ?_
  exact ret_i C w h dX0_overAt_10
def j_X0_pullOver_25 (post : Int32 → Mem → Prop) (M : Mem) (y0 : Int32) : Prop := post y0 M
def q_X0_pullOver (M : Mem) (x1 : Int32) (post : Int32 → Mem → Prop) : Prop := (0 < x1 → (q_X0_base M  (fun r2 M3 => q_X0_giveOfAll M3  (fun r4 M5 => ¬ r4 = 0 ∧ (j_X0_pullOver_25 post M5 (r2 + (((20 : Int32) * x1) / r4))))))) ∧ (¬ (0 < x1) → (q_X0_base M  (fun r6 M7 => j_X0_pullOver_25 post M7 r6)))
set_option maxHeartbeats 4000000 in
set_option maxRecDepth 100000 in
theorem t_X0_pullOver_25 (C : Cx G p s m args meth c RX0 cX0_pullOver 2 (some .int)) {post : Int32 → Mem → Prop} (M : Mem) (y0 : Int32) {H : Heap} {locs : List Loc} {ls : Array Slot} (w : Wd G s M H locs) (hl : lv_has ls 2 []) (h : j_X0_pullOver_25 post M y0) : W p l e (rmk 2) s m args below meth c H locs 0 0 (MQ below (va_Qi post (Qw G) (Af G s.heap.size)) args s 0 0 (Af G s.heap.size)) (F0 m 25 ls [.int y0]) := by
  have hx := C.1.1
  have hb := C.1.2.1
  unfold j_X0_pullOver_25 at h
  exact ret_i C w h dX0_pullOver_25
set_option maxHeartbeats 4000000 in
set_option maxRecDepth 100000 in
theorem c_X0_pullOver (l : Launch) (G : GG) (hG : Ag G) (sz : Nat) (M : Mem) (x1 : Int32) (post : Int32 → Mem → Prop) (h : q_X0_pullOver M x1 post) : Met l yX0_pullOver (Cond.code yX0_pullOver cX0_pullOver 2 (some .int) :: wsL_law) (rmk 2) (va_Pc [.ref (ga G 4), .int x1] (Pw G sz M)) (va_Qi post (Qw G) (Af G sz)) 0 0 (Af G sz) := by
  refine Met.ofW (cc := cX0_pullOver) (maxL := 2) (ret := (some .int)) (by decide) rfl ?_
  intro p e s m args below meth c s₁ B hml hv
  obtain ⟨rfl, hsz, hE, hP⟩ := hv
  subst hsz
  have C := Cx.of (own := RX0) hG hE rfl hml B
  have w : Wd G s M s.heap [] := ⟨hP, va_S.rf⟩
  have hl := lv_entry [.ref (ga G 4), .int x1] (n := 2) (Nat.le_of_ble_eq_true rfl)
  rw [lg_entry_eq]
  generalize (lg_sl [.ref (ga G 4), .int x1] ++ List.replicate (2 - (lg_sl [.ref (ga G 4), .int x1]).length) Slot.unset).toArray = ls at hl ⊢
  have hl : lv_has ls 2 [(0, .ref (ga G 4)), (1, .int x1)] := hl
  have hx := C.1.1
  have hb := C.1.2.1
  show W p l e (rmk 2) s m _ below meth c s.heap [] 0 0 _ _
  unfold q_X0_pullOver at h
  refine lv_iload_n hx hb dX0_pullOver_0 rfl (lv_at hl 1 rfl) ?_
  refine lv_if_gt (tgt := 11) hx hb dX0_pullOver_1 (by decide) (fun c1 => ?_) (fun c1 => ?_)
  · replace h := h.1 c1
    refine lv_aload_n hx hb dX0_pullOver_11 rfl (lv_at hl 0 rfl) ?_
    refine end_i w (run_V (As := []) C w hl.1 (c_X0_base l G C.2.2.1 _ _   _ h) kw_16_23 kw_1_21 kw_20_7 kw_16_21 kw_16_22 hd_X0_base ⟨by decide, by decide⟩ (w.recv C (i := 4) (by decide) (pE_0) rfl) rfl (Nat.le_of_ble_eq_true rfl) dX0_pullOver_12) (fun r2 M3 H locs h w => ?_)
    refine lv_bipush (v := 20) hx hb dX0_pullOver_15 (by decide) ?_
    refine lv_iload_n hx hb dX0_pullOver_17 rfl (lv_at hl 1 rfl) ?_
    refine lv_imul hx hb dX0_pullOver_18 ?_
    refine lv_aload_n hx hb dX0_pullOver_19 rfl (lv_at hl 0 rfl) ?_
    refine end_i w (run_V (As := []) C w hl.1 (c_X0_giveOfAll l G C.2.2.1 _ _   _ h) kw_16_9 kw_1_21 kw_20_8 kw_16_7 kw_16_8 hd_X0_giveOfAll ⟨by decide, by decide⟩ (w.recv C (i := 4) (by decide) (pE_0) rfl) rfl (Nat.le_of_ble_eq_true rfl) dX0_pullOver_20) (fun r4 M5 H locs h w => ?_)
    refine lv_idiv hx hb dX0_pullOver_23 h.1 ?_
    replace h := h.2
    refine lv_iadd hx hb dX0_pullOver_24 ?_
    exact t_X0_pullOver_25 C M5 (r2 + (((20 : Int32) * x1) / r4))  w (lv_sub hl [] rfl) h
  replace h := h.2 c1
  refine lv_aload_n hx hb dX0_pullOver_4 rfl (lv_at hl 0 rfl) ?_
  refine end_i w (run_V (As := []) C w hl.1 (c_X0_base l G C.2.2.1 _ _   _ h) kw_16_23 kw_1_21 kw_20_7 kw_16_21 kw_16_22 hd_X0_base ⟨by decide, by decide⟩ (w.recv C (i := 4) (by decide) (pE_0) rfl) rfl (Nat.le_of_ble_eq_true rfl) dX0_pullOver_5) (fun r6 M7 H locs h w => ?_)
  refine lv_goto (tgt := 25) hx hb dX0_pullOver_8 (by decide) ?_
  exact t_X0_pullOver_25 C M7 r6  w (lv_sub hl [] rfl) h
def q_X0_pullAt (M : Mem) (x1 : Int32) (post : Int32 → Mem → Prop) : Prop := q_X0_overAt M x1 (fun r1 M2 => q_X0_pullOver M2 r1 (fun r3 M4 => post r3 M4))
set_option maxHeartbeats 4000000 in
set_option maxRecDepth 100000 in
theorem c_X0_pullAt (l : Launch) (G : GG) (hG : Ag G) (sz : Nat) (M : Mem) (x1 : Int32) (post : Int32 → Mem → Prop) (h : q_X0_pullAt M x1 post) : Met l yX0_pullAt (Cond.code yX0_pullAt cX0_pullAt 2 (some .int) :: wsL_law) (rmk 4) (va_Pc [.ref (ga G 4), .int x1] (Pw G sz M)) (va_Qi post (Qw G) (Af G sz)) 0 0 (Af G sz) := by
  refine Met.ofW (cc := cX0_pullAt) (maxL := 2) (ret := (some .int)) (by decide) rfl ?_
  intro p e s m args below meth c s₁ B hml hv
  obtain ⟨rfl, hsz, hE, hP⟩ := hv
  subst hsz
  have C := Cx.of (own := RX0) hG hE rfl hml B
  have w : Wd G s M s.heap [] := ⟨hP, va_S.rf⟩
  have hl := lv_entry [.ref (ga G 4), .int x1] (n := 2) (Nat.le_of_ble_eq_true rfl)
  rw [lg_entry_eq]
  generalize (lg_sl [.ref (ga G 4), .int x1] ++ List.replicate (2 - (lg_sl [.ref (ga G 4), .int x1]).length) Slot.unset).toArray = ls at hl ⊢
  have hl : lv_has ls 2 [(0, .ref (ga G 4)), (1, .int x1)] := hl
  have hx := C.1.1
  have hb := C.1.2.1
  show W p l e (rmk 4) s m _ below meth c s.heap [] 0 0 _ _
  unfold q_X0_pullAt at h
  refine lv_aload_n hx hb dX0_pullAt_0 rfl (lv_at hl 0 rfl) ?_
  refine lv_aload_n hx hb dX0_pullAt_1 rfl (lv_at hl 0 rfl) ?_
  refine lv_iload_n hx hb dX0_pullAt_2 rfl (lv_at hl 1 rfl) ?_
  refine end_i w (run_V (As := [.int x1]) C w hl.1 (c_X0_overAt l G C.2.2.1 _ _ x1  _ h) kw_20_0 kw_1_21 kw_19_21 kw_19_22 kw_19_23 hd_X0_overAt ⟨by decide, by decide⟩ (w.recv C (i := 4) (by decide) (pE_0) rfl) rfl (Nat.le_of_ble_eq_true rfl) dX0_pullAt_3) (fun r1 M2 H locs h w => ?_)
  refine end_i w (run_V (As := [.int r1]) C w hl.1 (c_X0_pullOver l G C.2.2.1 _ _ r1  _ h) kw_20_6 kw_1_21 kw_20_3 kw_20_4 kw_20_5 hd_X0_pullOver ⟨by decide, by decide⟩ (w.recv C (i := 4) (by decide) (pE_0) rfl) rfl (Nat.le_of_ble_eq_true rfl) dX0_pullAt_6) (fun r3 M4 H locs h w => ?_)
  exact ret_i C w h dX0_pullAt_9
def j_X5_pull_33 (post : Int32 → Mem → Prop) (M : Mem) (y0 : Int32) : Prop := post y0 M
def q_X5_pull (M : Mem) (x1 : Int32) (post : Int32 → Mem → Prop) : Prop := q_X5_isWithin M x1 (0 : Int32) (9999 : Int32) (fun r1 M2 => (r1 = 0 → (post (-1 : Int32) M2)) ∧ (¬ (r1 = 0) → (q_X5_layLine M2  (fun r4 M5 => (r4 = 0 → (j_X5_pull_33 post M5 (-3 : Int32))) ∧ (¬ (r4 = 0) → (q_X0_pullAt M5 x1 (fun r7 M8 => j_X5_pull_33 post M8 r7)))))))
set_option maxHeartbeats 4000000 in
set_option maxRecDepth 100000 in
theorem t_X5_pull_33 (C : Cx G p s m args meth c RX5 cX5_pull 2 (some .int)) {post : Int32 → Mem → Prop} (M : Mem) (y0 : Int32) {H : Heap} {locs : List Loc} {ls : Array Slot} (w : Wd G s M H locs) (hl : lv_has ls 2 []) (h : j_X5_pull_33 post M y0) : W p l e (rmk 5) s m args below meth c H locs 0 0 (MQ below (va_Qi post (Qw G) (Af G s.heap.size)) args s 0 0 (Af G s.heap.size)) (F0 m 33 ls [.int y0]) := by
  have hx := C.1.1
  have hb := C.1.2.1
  unfold j_X5_pull_33 at h
  exact ret_i C w h dX5_pull_33
set_option maxHeartbeats 4000000 in
set_option maxRecDepth 100000 in
theorem c_X5_pull (l : Launch) (G : GG) (hG : Ag G) (sz : Nat) (M : Mem) (x1 : Int32) (post : Int32 → Mem → Prop) (h : q_X5_pull M x1 post) : Met l yX5_pull (Cond.code yX5_pull cX5_pull 2 (some .int) :: wsL_law) (rmk 5) (va_Pc [.ref (ga G 0), .int x1] (Pw G sz M)) (va_Qi post (Qw G) (Af G sz)) 0 0 (Af G sz) := by
  refine Met.ofW (cc := cX5_pull) (maxL := 2) (ret := (some .int)) (by decide) rfl ?_
  intro p e s m args below meth c s₁ B hml hv
  obtain ⟨rfl, hsz, hE, hP⟩ := hv
  subst hsz
  have C := Cx.of (own := RX5) hG hE rfl hml B
  have w : Wd G s M s.heap [] := ⟨hP, va_S.rf⟩
  have hl := lv_entry [.ref (ga G 0), .int x1] (n := 2) (Nat.le_of_ble_eq_true rfl)
  rw [lg_entry_eq]
  generalize (lg_sl [.ref (ga G 0), .int x1] ++ List.replicate (2 - (lg_sl [.ref (ga G 0), .int x1]).length) Slot.unset).toArray = ls at hl ⊢
  have hl : lv_has ls 2 [(0, .ref (ga G 0)), (1, .int x1)] := hl
  have hx := C.1.1
  have hb := C.1.2.1
  show W p l e (rmk 5) s m _ below meth c s.heap [] 0 0 _ _
  unfold q_X5_pull at h
  refine lv_iload_n hx hb dX5_pull_0 rfl (lv_at hl 1 rfl) ?_
  refine lv_iconst (v := 0) hx hb dX5_pull_1 (by decide) ?_
  refine lv_sipush (v := 9999) hx hb dX5_pull_2 (by decide) ?_
  refine end_i w (run_S (As := [.int x1, .int (0 : Int32), .int (9999 : Int32)]) C w hl.1 (c_X5_isWithin l G C.2.2.1 _ _ x1 (0 : Int32) (9999 : Int32)  _ h) kw_6_8 kw_1_2 kw_6_6 kw_6_7 hd_X5_isWithin ⟨by decide, by decide⟩ rfl (Nat.le_of_ble_eq_true rfl) dX5_pull_5) (fun r1 M2 H locs h w => ?_)
  refine lv_if_ne (tgt := 13) hx hb dX5_pull_8 (by decide) (fun c3 => ?_) (fun c3 => ?_)
  · replace h := h.2 c3
    refine lv_aload_n hx hb dX5_pull_13 rfl (lv_at hl 0 rfl) ?_
    refine end_i w (run_V (As := []) C w hl.1 (c_X5_layLine l G C.2.2.1 _ _   _ h) kw_15_21 kw_1_2 kw_15_18 kw_15_19 kw_15_20 hd_X5_layLine ⟨by decide, by decide⟩ (w.recv C (i := 0) (by decide) (pE_5) rfl) rfl (Nat.le_of_ble_eq_true rfl) dX5_pull_14) (fun r4 M5 H locs h w => ?_)
    refine lv_if_eq (tgt := 31) hx hb dX5_pull_17 (by decide) (fun c6 => ?_) (fun c6 => ?_)
    · replace h := h.1 c6
      refine lv_bipush (v := -3) hx hb dX5_pull_31 (by decide) ?_
      exact t_X5_pull_33 C M5 (-3 : Int32)  w (lv_sub hl [] rfl) h
    replace h := h.2 c6
    refine lv_aload_n hx hb dX5_pull_20 rfl (lv_at hl 0 rfl) ?_
    refine gt_5_3 C w kw_1_22 dX5_pull_21 ?_
    refine lv_iload_n hx hb dX5_pull_24 rfl (lv_at hl 1 rfl) ?_
    refine end_i w (run_VN (As := [.int x1]) C w hl.1 (c_X0_pullAt l G C.2.2.1 _ _ x1  _ h) kw_19_20 kw_1_21 kn_63 kw_19_18 kw_19_19 hd_X0_pullAt ⟨by decide, by decide⟩ (w.recv C (i := 4) (by decide) (pE_0) rfl) rfl (Nat.le_of_ble_eq_true rfl) dX5_pull_25) (fun r7 M8 H locs h w => ?_)
    refine lv_goto (tgt := 33) hx hb dX5_pull_28 (by decide) ?_
    exact t_X5_pull_33 C M8 r7  w (lv_sub hl [] rfl) h
  replace h := h.1 c3
  refine lv_iconst (v := -1) hx hb dX5_pull_11 (by decide) ?_
  exact ret_i C w h dX5_pull_12
def j_X6_pullAt_51 (post : Int32 → Mem → Prop) (M : Mem) (y0 : Int32) (y1 : Int32) : Prop := post (y1 + y0) M
def j_X6_pullAt_24 (post : Int32 → Mem → Prop) (M : Mem) (y0 : Int32) (x3 : Int32) : Prop := (y0 = 0 ∨ y0 = 1) ∧ (∀ M1 : Mem, M1 = (mup M 57 21 y0) → (q_X6_baseOf M1  (fun r2 M3 => ((M3 57 21) = 0 → (j_X6_pullAt_51 post M3 (0 : Int32) r2)) ∧ (¬ ((M3 57 21) = 0) → (¬ (M3 57 20) = 0 ∧ (j_X6_pullAt_51 post M3 (((20 : Int32) * x3) / (M3 57 20)) r2))))))
def q_X6_pullAt (M : Mem) (x1 : Int32) (x2 : Int32) (post : Int32 → Mem → Prop) : Prop := q_X6_apartAt M x1 x2 (fun r5 M6 => q_X6_hang M6  (fun r7 M8 => ((r5 - (r7 / (4 : Int32))) ≤ 0 → (j_X6_pullAt_24 post M8 (0 : Int32) (r5 - (r7 / (4 : Int32))))) ∧ (¬ ((r5 - (r7 / (4 : Int32))) ≤ 0) → (j_X6_pullAt_24 post M8 (1 : Int32) (r5 - (r7 / (4 : Int32)))))))
set_option maxHeartbeats 4000000 in
set_option maxRecDepth 100000 in
theorem t_X6_pullAt_51 (C : Cx G p s m args meth c RX6 cX6_pullAt 4 (some .int)) {post : Int32 → Mem → Prop} (M : Mem) (y0 : Int32) (y1 : Int32) {H : Heap} {locs : List Loc} {ls : Array Slot} (w : Wd G s M H locs) (hl : lv_has ls 4 []) (h : j_X6_pullAt_51 post M y0 y1) : W p l e (rmk 3) s m args below meth c H locs 0 0 (MQ below (va_Qi post (Qw G) (Af G s.heap.size)) args s 0 0 (Af G s.heap.size)) (F0 m 51 ls [.int y0, .int y1]) := by
  have hx := C.1.1
  have hb := C.1.2.1
  unfold j_X6_pullAt_51 at h
  refine lv_iadd hx hb dX6_pullAt_51 ?_
  exact ret_i C w h dX6_pullAt_52
set_option maxHeartbeats 4000000 in
set_option maxRecDepth 100000 in
theorem t_X6_pullAt_24 (C : Cx G p s m args meth c RX6 cX6_pullAt 4 (some .int)) {post : Int32 → Mem → Prop} (M : Mem) (y0 : Int32) (x3 : Int32) {H : Heap} {locs : List Loc} {ls : Array Slot} (w : Wd G s M H locs) (hl : lv_has ls 4 [(0, .ref (ga G 57)), (3, .int x3)]) (h : j_X6_pullAt_24 post M y0 x3) : W p l e (rmk 3) s m args below meth c H locs 0 0 (MQ below (va_Qi post (Qw G) (Af G s.heap.size)) args s 0 0 (Af G s.heap.size)) (F0 m 24 ls [.int y0, .ref (ga G 57)]) := by
  have hx := C.1.1
  have hb := C.1.2.1
  unfold j_X6_pullAt_24 at h
  refine pt_6_21 C w h.1 kw_20_17 dX6_pullAt_24 (fun H locs w => ?_)
  replace h := h.2
  obtain ⟨M1, eM1⟩ : ∃ z : Mem, z = (mup M 57 21 y0) := ⟨_, rfl⟩
  replace w : Wd G s M1 H locs := by rw [eM1]; exact w
  replace h := h M1 eM1
  refine lv_aload_n hx hb dX6_pullAt_27 rfl (lv_at hl 0 rfl) ?_
  refine end_i w (run_V (As := []) C w hl.1 (c_X6_baseOf l G C.2.2.1 _ _   _ h) kw_18_7 kw_1_5 kw_18_4 kw_18_5 kw_18_6 hd_X6_baseOf ⟨by decide, by decide⟩ (w.recv C (i := 57) (by decide) (pE_6) rfl) rfl (Nat.le_of_ble_eq_true rfl) dX6_pullAt_28) (fun r2 M3 H locs h w => ?_)
  refine lv_aload_n hx hb dX6_pullAt_31 rfl (lv_at hl 0 rfl) ?_
  refine gt_6_21 C w kw_20_17 dX6_pullAt_32 ?_
  refine lv_if_eq (tgt := 50) hx hb dX6_pullAt_35 (by decide) (fun c4 => ?_) (fun c4 => ?_)
  · replace h := h.1 c4
    refine lv_iconst (v := 0) hx hb dX6_pullAt_50 (by decide) ?_
    exact t_X6_pullAt_51 C M3 (0 : Int32) r2  w (lv_sub hl [] rfl) h
  replace h := h.2 c4
  refine lv_bipush (v := 20) hx hb dX6_pullAt_38 (by decide) ?_
  refine lv_iload_n hx hb dX6_pullAt_40 rfl (lv_at hl 1 rfl) ?_
  refine lv_imul hx hb dX6_pullAt_41 ?_
  refine lv_aload_n hx hb dX6_pullAt_42 rfl (lv_at hl 0 rfl) ?_
  refine gt_6_20 C w kw_17_7 dX6_pullAt_43 ?_
  refine lv_idiv hx hb dX6_pullAt_46 h.1 ?_
  replace h := h.2
  refine lv_goto (tgt := 51) hx hb dX6_pullAt_47 (by decide) ?_
  exact t_X6_pullAt_51 C M3 (((20 : Int32) * x3) / (M3 57 20)) r2  w (lv_sub hl [] rfl) h
set_option maxHeartbeats 4000000 in
set_option maxRecDepth 100000 in
theorem c_X6_pullAt (l : Launch) (G : GG) (hG : Ag G) (sz : Nat) (M : Mem) (x1 : Int32) (x2 : Int32) (post : Int32 → Mem → Prop) (h : q_X6_pullAt M x1 x2 post) : Met l yX6_pullAt (Cond.code yX6_pullAt cX6_pullAt 4 (some .int) :: wsL_law) (rmk 3) (va_Pc [.ref (ga G 57), .int x1, .int x2] (Pw G sz M)) (va_Qi post (Qw G) (Af G sz)) 0 0 (Af G sz) := by
  refine Met.ofW (cc := cX6_pullAt) (maxL := 4) (ret := (some .int)) (by decide) rfl ?_
  intro p e s m args below meth c s₁ B hml hv
  obtain ⟨rfl, hsz, hE, hP⟩ := hv
  subst hsz
  have C := Cx.of (own := RX6) hG hE rfl hml B
  have w : Wd G s M s.heap [] := ⟨hP, va_S.rf⟩
  have hl := lv_entry [.ref (ga G 57), .int x1, .int x2] (n := 4) (Nat.le_of_ble_eq_true rfl)
  rw [lg_entry_eq]
  generalize (lg_sl [.ref (ga G 57), .int x1, .int x2] ++ List.replicate (4 - (lg_sl [.ref (ga G 57), .int x1, .int x2]).length) Slot.unset).toArray = ls at hl ⊢
  have hl : lv_has ls 4 [(0, .ref (ga G 57)), (1, .int x1), (2, .int x2)] := hl
  have hx := C.1.1
  have hb := C.1.2.1
  show W p l e (rmk 3) s m _ below meth c s.heap [] 0 0 _ _
  unfold q_X6_pullAt at h
  refine lv_aload_n hx hb dX6_pullAt_0 rfl (lv_at hl 0 rfl) ?_
  refine lv_iload_n hx hb dX6_pullAt_1 rfl (lv_at hl 1 rfl) ?_
  refine lv_iload_n hx hb dX6_pullAt_2 rfl (lv_at hl 2 rfl) ?_
  refine end_i w (run_V (As := [.int x1, .int x2]) C w hl.1 (c_X6_apartAt l G C.2.2.1 _ _ x1 x2  _ h) kw_19_6 kw_1_5 kw_19_3 kw_19_4 kw_19_5 hd_X6_apartAt ⟨by decide, by decide⟩ (w.recv C (i := 57) (by decide) (pE_6) rfl) rfl (Nat.le_of_ble_eq_true rfl) dX6_pullAt_3) (fun r5 M6 H locs h w => ?_)
  refine lv_aload_n hx hb dX6_pullAt_6 rfl (lv_at hl 0 rfl) ?_
  refine end_i w (run_V (As := []) C w hl.1 (c_X6_hang l G C.2.2.1 _ _   _ h) kw_18_3 kw_1_5 kw_18_0 kw_18_1 kw_18_2 hd_X6_hang ⟨by decide, by decide⟩ (w.recv C (i := 57) (by decide) (pE_6) rfl) rfl (Nat.le_of_ble_eq_true rfl) dX6_pullAt_7) (fun r7 M8 H locs h w => ?_)
  refine lv_iconst (v := 4) hx hb dX6_pullAt_10 (by decide) ?_
  refine lv_idiv hx hb dX6_pullAt_11 (by decide) ?_
  refine lv_isub hx hb dX6_pullAt_12 ?_
  refine lv_istore_n (lv' := [(3, .int (r5 - (r7 / (4 : Int32)))), (0, .ref (ga G 57)), (1, .int x1), (2, .int x2)]) hx hb dX6_pullAt_13 rfl hl (by decide) rfl (fun ls hl => ?_)
  refine lv_aload_n hx hb dX6_pullAt_14 rfl (lv_at hl 1 rfl) ?_
  refine lv_iload_n hx hb dX6_pullAt_15 rfl (lv_at hl 0 rfl) ?_
  refine lv_if_le (tgt := 23) hx hb dX6_pullAt_16 (by decide) (fun c9 => ?_) (fun c9 => ?_)
  · replace h := h.1 c9
    refine lv_iconst (v := 0) hx hb dX6_pullAt_23 (by decide) ?_
    exact t_X6_pullAt_24 C M8 (0 : Int32) (r5 - (r7 / (4 : Int32)))  w (lv_sub hl [1, 0] rfl) h
  replace h := h.2 c9
  refine lv_iconst (v := 1) hx hb dX6_pullAt_19 (by decide) ?_
  refine lv_goto (tgt := 24) hx hb dX6_pullAt_20 (by decide) ?_
  exact t_X6_pullAt_24 C M8 (1 : Int32) (r5 - (r7 / (4 : Int32)))  w (lv_sub hl [1, 0] rfl) h
end WALK
