theorem dX3_empty_0 : decode cX3_empty 0 = .ok (.aload_n 0, 1) := by decide +kernel
theorem dX3_empty_1 : decode cX3_empty 1 = .ok (.iconst 0, 1) := by decide +kernel
theorem dX3_empty_2 : decode cX3_empty 2 = .ok (.putfield 11, 3) := by decide +kernel
theorem dX3_empty_5 : decode cX3_empty 5 = .ok (.return_, 1) := by decide +kernel
theorem dX3_keepPiece_0 : decode cX3_keepPiece 0 = .ok (.aload_n 0, 1) := by decide +kernel
theorem dX3_keepPiece_1 : decode cX3_keepPiece 1 = .ok (.iconst 1, 1) := by decide +kernel
theorem dX3_keepPiece_2 : decode cX3_keepPiece 2 = .ok (.putfield 11, 3) := by decide +kernel
theorem dX3_keepPiece_5 : decode cX3_keepPiece 5 = .ok (.aload_n 0, 1) := by decide +kernel
theorem dX3_keepPiece_6 : decode cX3_keepPiece 6 = .ok (.getfield 18, 3) := by decide +kernel
theorem dX3_keepPiece_9 : decode cX3_keepPiece 9 = .ok (.aload_n 1, 1) := by decide +kernel
theorem dX3_keepPiece_10 : decode cX3_keepPiece 10 = .ok (.invokevirtual 32, 3) := by decide +kernel
theorem dX3_keepPiece_13 : decode cX3_keepPiece 13 = .ok (.return_, 1) := by decide +kernel
theorem dX5_keep_0 : decode cX5_keep 0 = .ok (.iload_n 1, 1) := by decide +kernel
theorem dX5_keep_1 : decode cX5_keep 1 = .ok (.invokestatic 250, 3) := by decide +kernel
theorem dX5_keep_4 : decode cX5_keep 4 = .ok (.ifCond .eq 12, 3) := by decide +kernel
theorem dX5_keep_7 : decode cX5_keep 7 = .ok (.iload_n 2, 1) := by decide +kernel
theorem dX5_keep_8 : decode cX5_keep 8 = .ok (.iconst 0, 1) := by decide +kernel
theorem dX5_keep_9 : decode cX5_keep 9 = .ok (.iconst 1, 1) := by decide +kernel
theorem dX5_keep_10 : decode cX5_keep 10 = .ok (.invokestatic 129, 3) := by decide +kernel
theorem dX5_keep_13 : decode cX5_keep 13 = .ok (.ifCond .ne 5, 3) := by decide +kernel
theorem dX5_keep_16 : decode cX5_keep 16 = .ok (.iconst (-1), 1) := by decide +kernel
theorem dX5_keep_17 : decode cX5_keep 17 = .ok (.ireturn, 1) := by decide +kernel
theorem dX5_keep_18 : decode cX5_keep 18 = .ok (.iload_n 2, 1) := by decide +kernel
theorem dX5_keep_19 : decode cX5_keep 19 = .ok (.ifCond .ne 14, 3) := by decide +kernel
theorem dX5_keep_22 : decode cX5_keep 22 = .ok (.aload_n 0, 1) := by decide +kernel
theorem dX5_keep_23 : decode cX5_keep 23 = .ok (.getfield 45, 3) := by decide +kernel
theorem dX5_keep_26 : decode cX5_keep 26 = .ok (.iload_n 1, 1) := by decide +kernel
theorem dX5_keep_27 : decode cX5_keep 27 = .ok (.aaload, 1) := by decide +kernel
theorem dX5_keep_28 : decode cX5_keep 28 = .ok (.invokevirtual 253, 3) := by decide +kernel
theorem dX5_keep_31 : decode cX5_keep 31 = .ok (.iconst 0, 1) := by decide +kernel
theorem dX5_keep_32 : decode cX5_keep 32 = .ok (.ireturn, 1) := by decide +kernel
theorem dX5_keep_33 : decode cX5_keep 33 = .ok (.aload_n 0, 1) := by decide +kernel
theorem dX5_keep_34 : decode cX5_keep 34 = .ok (.getfield 10, 3) := by decide +kernel
theorem dX5_keep_37 : decode cX5_keep 37 = .ok (.iload_n 3, 1) := by decide +kernel
theorem dX5_keep_38 : decode cX5_keep 38 = .ok (.invokevirtual 66, 3) := by decide +kernel
theorem dX5_keep_41 : decode cX5_keep 41 = .ok (.ifCond .ne 5, 3) := by decide +kernel
theorem dX5_keep_44 : decode cX5_keep 44 = .ok (.iconst (-1), 1) := by decide +kernel
theorem dX5_keep_45 : decode cX5_keep 45 = .ok (.ireturn, 1) := by decide +kernel
theorem dX5_keep_46 : decode cX5_keep 46 = .ok (.aload_n 0, 1) := by decide +kernel
theorem dX5_keep_47 : decode cX5_keep 47 = .ok (.getfield 45, 3) := by decide +kernel
theorem dX5_keep_50 : decode cX5_keep 50 = .ok (.iload_n 1, 1) := by decide +kernel
theorem dX5_keep_51 : decode cX5_keep 51 = .ok (.aaload, 1) := by decide +kernel
theorem dX5_keep_52 : decode cX5_keep 52 = .ok (.aload_n 0, 1) := by decide +kernel
theorem dX5_keep_53 : decode cX5_keep 53 = .ok (.getfield 10, 3) := by decide +kernel
theorem dX5_keep_56 : decode cX5_keep 56 = .ok (.getfield 70, 3) := by decide +kernel
theorem dX5_keep_59 : decode cX5_keep 59 = .ok (.iload_n 3, 1) := by decide +kernel
theorem dX5_keep_60 : decode cX5_keep 60 = .ok (.aaload, 1) := by decide +kernel
theorem dX5_keep_61 : decode cX5_keep 61 = .ok (.invokevirtual 256, 3) := by decide +kernel
theorem dX5_keep_64 : decode cX5_keep 64 = .ok (.iconst 0, 1) := by decide +kernel
theorem dX5_keep_65 : decode cX5_keep 65 = .ok (.ireturn, 1) := by decide +kernel
theorem dX6_priceOf_0 : decode cX6_priceOf 0 = .ok (.aload_n 0, 1) := by decide +kernel
theorem dX6_priceOf_1 : decode cX6_priceOf 1 = .ok (.iload_n 1, 1) := by decide +kernel
theorem dX6_priceOf_2 : decode cX6_priceOf 2 = .ok (.iconst 2, 1) := by decide +kernel
theorem dX6_priceOf_3 : decode cX6_priceOf 3 = .ok (.invokevirtual 111, 3) := by decide +kernel
theorem dX6_priceOf_6 : decode cX6_priceOf 6 = .ok (.istore_n 2, 1) := by decide +kernel
theorem dX6_priceOf_7 : decode cX6_priceOf 7 = .ok (.aload_n 0, 1) := by decide +kernel
theorem dX6_priceOf_8 : decode cX6_priceOf 8 = .ok (.iload_n 1, 1) := by decide +kernel
theorem dX6_priceOf_9 : decode cX6_priceOf 9 = .ok (.iconst 1, 1) := by decide +kernel
theorem dX6_priceOf_10 : decode cX6_priceOf 10 = .ok (.invokevirtual 111, 3) := by decide +kernel
theorem dX6_priceOf_13 : decode cX6_priceOf 13 = .ok (.istore_n 3, 1) := by decide +kernel
theorem dX6_priceOf_14 : decode cX6_priceOf 14 = .ok (.aload_n 0, 1) := by decide +kernel
theorem dX6_priceOf_15 : decode cX6_priceOf 15 = .ok (.iload_n 1, 1) := by decide +kernel
theorem dX6_priceOf_16 : decode cX6_priceOf 16 = .ok (.iconst 0, 1) := by decide +kernel
theorem dX6_priceOf_17 : decode cX6_priceOf 17 = .ok (.invokevirtual 111, 3) := by decide +kernel
theorem dX6_priceOf_20 : decode cX6_priceOf 20 = .ok (.tableswitch 88 1 7 #[44, 48, 53, 59, 63, 70, 78], 44) := by decide +kernel
theorem dX6_priceOf_64 : decode cX6_priceOf 64 = .ok (.iconst 3, 1) := by decide +kernel
theorem dX6_priceOf_65 : decode cX6_priceOf 65 = .ok (.iload_n 2, 1) := by decide +kernel
theorem dX6_priceOf_66 : decode cX6_priceOf 66 = .ok (.imul, 1) := by decide +kernel
theorem dX6_priceOf_67 : decode cX6_priceOf 67 = .ok (.ireturn, 1) := by decide +kernel
theorem dX6_priceOf_68 : decode cX6_priceOf 68 = .ok (.iload_n 2, 1) := by decide +kernel
theorem dX6_priceOf_69 : decode cX6_priceOf 69 = .ok (.bipush 50, 2) := by decide +kernel
theorem dX6_priceOf_71 : decode cX6_priceOf 71 = .ok (.iadd, 1) := by decide +kernel
theorem dX6_priceOf_72 : decode cX6_priceOf 72 = .ok (.ireturn, 1) := by decide +kernel
theorem dX6_priceOf_73 : decode cX6_priceOf 73 = .ok (.iconst 2, 1) := by decide +kernel
theorem dX6_priceOf_74 : decode cX6_priceOf 74 = .ok (.iload_n 2, 1) := by decide +kernel
theorem dX6_priceOf_75 : decode cX6_priceOf 75 = .ok (.imul, 1) := by decide +kernel
theorem dX6_priceOf_76 : decode cX6_priceOf 76 = .ok (.iload_n 3, 1) := by decide +kernel
theorem dX6_priceOf_77 : decode cX6_priceOf 77 = .ok (.iadd, 1) := by decide +kernel
theorem dX6_priceOf_78 : decode cX6_priceOf 78 = .ok (.ireturn, 1) := by decide +kernel
theorem dX6_priceOf_79 : decode cX6_priceOf 79 = .ok (.iconst 2, 1) := by decide +kernel
theorem dX6_priceOf_80 : decode cX6_priceOf 80 = .ok (.iload_n 2, 1) := by decide +kernel
theorem dX6_priceOf_81 : decode cX6_priceOf 81 = .ok (.imul, 1) := by decide +kernel
theorem dX6_priceOf_82 : decode cX6_priceOf 82 = .ok (.ireturn, 1) := by decide +kernel
theorem dX6_priceOf_83 : decode cX6_priceOf 83 = .ok (.iload_n 2, 1) := by decide +kernel
theorem dX6_priceOf_84 : decode cX6_priceOf 84 = .ok (.bipush 50, 2) := by decide +kernel
theorem dX6_priceOf_86 : decode cX6_priceOf 86 = .ok (.iadd, 1) := by decide +kernel
theorem dX6_priceOf_87 : decode cX6_priceOf 87 = .ok (.iconst 2, 1) := by decide +kernel
theorem dX6_priceOf_88 : decode cX6_priceOf 88 = .ok (.idiv, 1) := by decide +kernel
theorem dX6_priceOf_89 : decode cX6_priceOf 89 = .ok (.ireturn, 1) := by decide +kernel
theorem dX6_priceOf_90 : decode cX6_priceOf 90 = .ok (.iconst 2, 1) := by decide +kernel
theorem dX6_priceOf_91 : decode cX6_priceOf 91 = .ok (.iload_n 2, 1) := by decide +kernel
theorem dX6_priceOf_92 : decode cX6_priceOf 92 = .ok (.imul, 1) := by decide +kernel
theorem dX6_priceOf_93 : decode cX6_priceOf 93 = .ok (.iload_n 3, 1) := by decide +kernel
theorem dX6_priceOf_94 : decode cX6_priceOf 94 = .ok (.iadd, 1) := by decide +kernel
theorem dX6_priceOf_95 : decode cX6_priceOf 95 = .ok (.iconst 3, 1) := by decide +kernel
theorem dX6_priceOf_96 : decode cX6_priceOf 96 = .ok (.idiv, 1) := by decide +kernel
theorem dX6_priceOf_97 : decode cX6_priceOf 97 = .ok (.ireturn, 1) := by decide +kernel
theorem dX6_priceOf_98 : decode cX6_priceOf 98 = .ok (.iconst 2, 1) := by decide +kernel
theorem dX6_priceOf_99 : decode cX6_priceOf 99 = .ok (.iload_n 2, 1) := by decide +kernel
theorem dX6_priceOf_100 : decode cX6_priceOf 100 = .ok (.imul, 1) := by decide +kernel
theorem dX6_priceOf_101 : decode cX6_priceOf 101 = .ok (.iload_n 3, 1) := by decide +kernel
theorem dX6_priceOf_102 : decode cX6_priceOf 102 = .ok (.iadd, 1) := by decide +kernel
theorem dX6_priceOf_103 : decode cX6_priceOf 103 = .ok (.iconst 3, 1) := by decide +kernel
theorem dX6_priceOf_104 : decode cX6_priceOf 104 = .ok (.idiv, 1) := by decide +kernel
theorem dX6_priceOf_105 : decode cX6_priceOf 105 = .ok (.iconst 1, 1) := by decide +kernel
theorem dX6_priceOf_106 : decode cX6_priceOf 106 = .ok (.isub, 1) := by decide +kernel
theorem dX6_priceOf_107 : decode cX6_priceOf 107 = .ok (.ireturn, 1) := by decide +kernel
theorem dX6_priceOf_108 : decode cX6_priceOf 108 = .ok (.iload_n 2, 1) := by decide +kernel
theorem dX6_priceOf_109 : decode cX6_priceOf 109 = .ok (.ireturn, 1) := by decide +kernel
theorem dX6_keep_0 : decode cX6_keep 0 = .ok (.iload_n 1, 1) := by decide +kernel
theorem dX6_keep_1 : decode cX6_keep 1 = .ok (.invokestatic 94, 3) := by decide +kernel
theorem dX6_keep_4 : decode cX6_keep 4 = .ok (.ifCond .eq 26, 3) := by decide +kernel
theorem dX6_keep_7 : decode cX6_keep 7 = .ok (.iload_n 2, 1) := by decide +kernel
theorem dX6_keep_8 : decode cX6_keep 8 = .ok (.i2l, 1) := by decide +kernel
theorem dX6_keep_9 : decode cX6_keep 9 = .ok (.lconst 0, 1) := by decide +kernel
theorem dX6_keep_10 : decode cX6_keep 10 = .ok (.lconst 1, 1) := by decide +kernel
theorem dX6_keep_11 : decode cX6_keep 11 = .ok (.invokestatic 47, 3) := by decide +kernel
theorem dX6_keep_14 : decode cX6_keep 14 = .ok (.ifCond .eq 16, 3) := by decide +kernel
theorem dX6_keep_17 : decode cX6_keep 17 = .ok (.iload_n 2, 1) := by decide +kernel
theorem dX6_keep_18 : decode cX6_keep 18 = .ok (.iconst 1, 1) := by decide +kernel
theorem dX6_keep_19 : decode cX6_keep 19 = .ok (.if_icmp .ne 13, 3) := by decide +kernel
theorem dX6_keep_22 : decode cX6_keep 22 = .ok (.aload_n 0, 1) := by decide +kernel
theorem dX6_keep_23 : decode cX6_keep 23 = .ok (.iload_n 3, 1) := by decide +kernel
theorem dX6_keep_24 : decode cX6_keep 24 = .ok (.invokevirtual 117, 3) := by decide +kernel
theorem dX6_keep_27 : decode cX6_keep 27 = .ok (.ifCond .ne 5, 3) := by decide +kernel
theorem dX6_keep_30 : decode cX6_keep 30 = .ok (.iconst (-1), 1) := by decide +kernel
theorem dX6_keep_31 : decode cX6_keep 31 = .ok (.ireturn, 1) := by decide +kernel
theorem dX6_keep_32 : decode cX6_keep 32 = .ok (.aload_n 0, 1) := by decide +kernel
theorem dX6_keep_33 : decode cX6_keep 33 = .ok (.getfield 22, 3) := by decide +kernel
theorem dX6_keep_36 : decode cX6_keep 36 = .ok (.iload_n 1, 1) := by decide +kernel
theorem dX6_keep_37 : decode cX6_keep 37 = .ok (.iload_n 2, 1) := by decide +kernel
theorem dX6_keep_38 : decode cX6_keep 38 = .ok (.iastore, 1) := by decide +kernel
theorem dX6_keep_39 : decode cX6_keep 39 = .ok (.iload_n 2, 1) := by decide +kernel
theorem dX6_keep_40 : decode cX6_keep 40 = .ok (.ifCond .ne 5, 3) := by decide +kernel
theorem dX6_keep_43 : decode cX6_keep 43 = .ok (.iconst 0, 1) := by decide +kernel
theorem dX6_keep_44 : decode cX6_keep 44 = .ok (.ireturn, 1) := by decide +kernel
theorem dX6_keep_45 : decode cX6_keep 45 = .ok (.aload_n 0, 1) := by decide +kernel
theorem dX6_keep_46 : decode cX6_keep 46 = .ok (.iload_n 3, 1) := by decide +kernel
theorem dX6_keep_47 : decode cX6_keep 47 = .ok (.iconst 0, 1) := by decide +kernel
theorem dX6_keep_48 : decode cX6_keep 48 = .ok (.invokevirtual 111, 3) := by decide +kernel
theorem dX6_keep_51 : decode cX6_keep 51 = .ok (.istore 4, 2) := by decide +kernel
theorem dX6_keep_53 : decode cX6_keep 53 = .ok (.aload_n 0, 1) := by decide +kernel
theorem dX6_keep_54 : decode cX6_keep 54 = .ok (.getfield 34, 3) := by decide +kernel
theorem dX6_keep_57 : decode cX6_keep 57 = .ok (.iload_n 1, 1) := by decide +kernel
theorem dX6_keep_58 : decode cX6_keep 58 = .ok (.aload_n 0, 1) := by decide +kernel
theorem dX6_keep_59 : decode cX6_keep 59 = .ok (.iload_n 3, 1) := by decide +kernel
theorem dX6_keep_60 : decode cX6_keep 60 = .ok (.invokevirtual 255, 3) := by decide +kernel
theorem dX6_keep_63 : decode cX6_keep 63 = .ok (.iastore, 1) := by decide +kernel
theorem dX6_keep_64 : decode cX6_keep 64 = .ok (.aload_n 0, 1) := by decide +kernel
theorem dX6_keep_65 : decode cX6_keep 65 = .ok (.getfield 37, 3) := by decide +kernel
theorem dX6_keep_68 : decode cX6_keep 68 = .ok (.iload_n 1, 1) := by decide +kernel
theorem dX6_keep_69 : decode cX6_keep 69 = .ok (.iload 4, 2) := by decide +kernel
theorem dX6_keep_71 : decode cX6_keep 71 = .ok (.iconst 5, 1) := by decide +kernel
theorem dX6_keep_72 : decode cX6_keep 72 = .ok (.if_icmp .eq 12, 3) := by decide +kernel
theorem dX6_keep_75 : decode cX6_keep 75 = .ok (.aload_n 0, 1) := by decide +kernel
theorem dX6_keep_76 : decode cX6_keep 76 = .ok (.iload_n 3, 1) := by decide +kernel
theorem dX6_keep_77 : decode cX6_keep 77 = .ok (.iconst 1, 1) := by decide +kernel
theorem dX6_keep_78 : decode cX6_keep 78 = .ok (.invokevirtual 111, 3) := by decide +kernel
theorem dX6_keep_81 : decode cX6_keep 81 = .ok (.ifCond .ne 8, 3) := by decide +kernel
theorem dX6_keep_84 : decode cX6_keep 84 = .ok (.bipush (-15), 2) := by decide +kernel
theorem dX6_keep_86 : decode cX6_keep 86 = .ok (.goto 42, 3) := by decide +kernel
theorem dX6_keep_89 : decode cX6_keep 89 = .ok (.iload 4, 2) := by decide +kernel
theorem dX6_keep_91 : decode cX6_keep 91 = .ok (.iconst 4, 1) := by decide +kernel
theorem dX6_keep_92 : decode cX6_keep 92 = .ok (.if_icmp .ne 10, 3) := by decide +kernel
theorem dX6_keep_95 : decode cX6_keep 95 = .ok (.bipush 100, 2) := by decide +kernel
theorem dX6_keep_97 : decode cX6_keep 97 = .ok (.iload_n 3, 1) := by decide +kernel
theorem dX6_keep_98 : decode cX6_keep 98 = .ok (.iadd, 1) := by decide +kernel
theorem dX6_keep_99 : decode cX6_keep 99 = .ok (.goto 29, 3) := by decide +kernel
theorem dX6_keep_102 : decode cX6_keep 102 = .ok (.iload 4, 2) := by decide +kernel
theorem dX6_keep_104 : decode cX6_keep 104 = .ok (.bipush 7, 2) := by decide +kernel
theorem dX6_keep_106 : decode cX6_keep 106 = .ok (.if_icmp .ne 21, 3) := by decide +kernel
theorem dX6_keep_109 : decode cX6_keep 109 = .ok (.sipush 200, 3) := by decide +kernel
theorem dX6_keep_112 : decode cX6_keep 112 = .ok (.iload 4, 2) := by decide +kernel
theorem dX6_keep_114 : decode cX6_keep 114 = .ok (.aload_n 0, 1) := by decide +kernel
theorem dX6_keep_115 : decode cX6_keep 115 = .ok (.iload_n 3, 1) := by decide +kernel
theorem dX6_keep_116 : decode cX6_keep 116 = .ok (.iconst 1, 1) := by decide +kernel
theorem dX6_keep_117 : decode cX6_keep 117 = .ok (.invokevirtual 111, 3) := by decide +kernel
theorem dX6_keep_120 : decode cX6_keep 120 = .ok (.invokestatic 126, 3) := by decide +kernel
theorem dX6_keep_123 : decode cX6_keep 123 = .ok (.iadd, 1) := by decide +kernel
theorem dX6_keep_124 : decode cX6_keep 124 = .ok (.goto 4, 3) := by decide +kernel
theorem dX6_keep_127 : decode cX6_keep 127 = .ok (.iload_n 3, 1) := by decide +kernel
theorem dX6_keep_128 : decode cX6_keep 128 = .ok (.iastore, 1) := by decide +kernel
theorem dX6_keep_129 : decode cX6_keep 129 = .ok (.iconst 0, 1) := by decide +kernel
theorem dX6_keep_130 : decode cX6_keep 130 = .ok (.ireturn, 1) := by decide +kernel
theorem dJ7_fill_53178_0 : decode cJ7_fill_53178 0 = .ok (.iconst 0, 1) := by decide +kernel
theorem dJ7_fill_53178_1 : decode cJ7_fill_53178 1 = .ok (.istore_n 2, 1) := by decide +kernel
theorem dJ7_fill_53178_2 : decode cJ7_fill_53178 2 = .ok (.aload_n 0, 1) := by decide +kernel
theorem dJ7_fill_53178_3 : decode cJ7_fill_53178 3 = .ok (.arraylength, 1) := by decide +kernel
theorem dJ7_fill_53178_4 : decode cJ7_fill_53178 4 = .ok (.istore_n 3, 1) := by decide +kernel
theorem dJ7_fill_53178_5 : decode cJ7_fill_53178 5 = .ok (.iload_n 2, 1) := by decide +kernel
theorem dJ7_fill_53178_6 : decode cJ7_fill_53178 6 = .ok (.iload_n 3, 1) := by decide +kernel
theorem dJ7_fill_53178_7 : decode cJ7_fill_53178 7 = .ok (.if_icmp .ge 13, 3) := by decide +kernel
theorem dJ7_fill_53178_10 : decode cJ7_fill_53178 10 = .ok (.aload_n 0, 1) := by decide +kernel
theorem dJ7_fill_53178_11 : decode cJ7_fill_53178 11 = .ok (.iload_n 2, 1) := by decide +kernel
theorem dJ7_fill_53178_12 : decode cJ7_fill_53178 12 = .ok (.iload_n 1, 1) := by decide +kernel
theorem dJ7_fill_53178_13 : decode cJ7_fill_53178 13 = .ok (.iastore, 1) := by decide +kernel
theorem dJ7_fill_53178_14 : decode cJ7_fill_53178 14 = .ok (.iinc 2 1, 3) := by decide +kernel
theorem dJ7_fill_53178_17 : decode cJ7_fill_53178 17 = .ok (.goto (-12), 3) := by decide +kernel
theorem dJ7_fill_53178_20 : decode cJ7_fill_53178 20 = .ok (.return_, 1) := by decide +kernel
theorem dX3_beginRow_0 : decode cX3_beginRow 0 = .ok (.aload_n 0, 1) := by decide +kernel
theorem dX3_beginRow_1 : decode cX3_beginRow 1 = .ok (.iconst 2, 1) := by decide +kernel
theorem dX3_beginRow_2 : decode cX3_beginRow 2 = .ok (.putfield 11, 3) := by decide +kernel
theorem dX3_beginRow_5 : decode cX3_beginRow 5 = .ok (.aload_n 0, 1) := by decide +kernel
theorem dX3_beginRow_6 : decode cX3_beginRow 6 = .ok (.iload_n 1, 1) := by decide +kernel
theorem dX3_beginRow_7 : decode cX3_beginRow 7 = .ok (.putfield 22, 3) := by decide +kernel
theorem dX3_beginRow_10 : decode cX3_beginRow 10 = .ok (.aload_n 0, 1) := by decide +kernel
theorem dX3_beginRow_11 : decode cX3_beginRow 11 = .ok (.iload_n 2, 1) := by decide +kernel
theorem dX3_beginRow_12 : decode cX3_beginRow 12 = .ok (.putfield 25, 3) := by decide +kernel
theorem dX3_beginRow_15 : decode cX3_beginRow 15 = .ok (.aload_n 0, 1) := by decide +kernel
theorem dX3_beginRow_16 : decode cX3_beginRow 16 = .ok (.getfield 28, 3) := by decide +kernel
theorem dX3_beginRow_19 : decode cX3_beginRow 19 = .ok (.iconst 0, 1) := by decide +kernel
theorem dX3_beginRow_20 : decode cX3_beginRow 20 = .ok (.invokestatic 36, 3) := by decide +kernel
theorem dX3_beginRow_23 : decode cX3_beginRow 23 = .ok (.return_, 1) := by decide +kernel
theorem dX5_row_0 : decode cX5_row 0 = .ok (.iload_n 1, 1) := by decide +kernel
theorem dX5_row_1 : decode cX5_row 1 = .ok (.invokestatic 250, 3) := by decide +kernel
theorem dX5_row_4 : decode cX5_row 4 = .ok (.ifCond .eq 18, 3) := by decide +kernel
theorem dX5_row_7 : decode cX5_row 7 = .ok (.iload_n 2, 1) := by decide +kernel
theorem dX5_row_8 : decode cX5_row 8 = .ok (.iconst 0, 1) := by decide +kernel
theorem dX5_row_9 : decode cX5_row 9 = .ok (.iconst 2, 1) := by decide +kernel
theorem dX5_row_10 : decode cX5_row 10 = .ok (.invokestatic 129, 3) := by decide +kernel
theorem dX5_row_13 : decode cX5_row 13 = .ok (.ifCond .eq 9, 3) := by decide +kernel
theorem dX5_row_16 : decode cX5_row 16 = .ok (.iload_n 3, 1) := by decide +kernel
theorem dX5_row_17 : decode cX5_row 17 = .ok (.bipush 100, 2) := by decide +kernel
theorem dX5_row_19 : decode cX5_row 19 = .ok (.if_icmp .le 5, 3) := by decide +kernel
theorem dX5_row_22 : decode cX5_row 22 = .ok (.iconst (-1), 1) := by decide +kernel
theorem dX5_row_23 : decode cX5_row 23 = .ok (.ireturn, 1) := by decide +kernel
theorem dX5_row_24 : decode cX5_row 24 = .ok (.iload_n 3, 1) := by decide +kernel
theorem dX5_row_25 : decode cX5_row 25 = .ok (.ifCond .ge 6, 3) := by decide +kernel
theorem dX5_row_28 : decode cX5_row 28 = .ok (.bipush (-14), 2) := by decide +kernel
theorem dX5_row_30 : decode cX5_row 30 = .ok (.ireturn, 1) := by decide +kernel
theorem dX5_row_31 : decode cX5_row 31 = .ok (.aload_n 0, 1) := by decide +kernel
theorem dX5_row_32 : decode cX5_row 32 = .ok (.getfield 45, 3) := by decide +kernel
theorem dX5_row_35 : decode cX5_row 35 = .ok (.iload_n 1, 1) := by decide +kernel
theorem dX5_row_36 : decode cX5_row 36 = .ok (.aaload, 1) := by decide +kernel
theorem dX5_row_37 : decode cX5_row 37 = .ok (.iload_n 2, 1) := by decide +kernel
theorem dX5_row_38 : decode cX5_row 38 = .ok (.iload_n 3, 1) := by decide +kernel
theorem dX5_row_39 : decode cX5_row 39 = .ok (.invokevirtual 260, 3) := by decide +kernel
theorem dX5_row_42 : decode cX5_row 42 = .ok (.iconst 0, 1) := by decide +kernel
theorem dX5_row_43 : decode cX5_row 43 = .ok (.ireturn, 1) := by decide +kernel
theorem dX6_row_0 : decode cX6_row 0 = .ok (.iload_n 1, 1) := by decide +kernel
theorem dX6_row_1 : decode cX6_row 1 = .ok (.invokestatic 94, 3) := by decide +kernel
theorem dX6_row_4 : decode cX6_row 4 = .ok (.ifCond .eq 21, 3) := by decide +kernel
theorem dX6_row_7 : decode cX6_row 7 = .ok (.iload_n 2, 1) := by decide +kernel
theorem dX6_row_8 : decode cX6_row 8 = .ok (.i2l, 1) := by decide +kernel
theorem dX6_row_9 : decode cX6_row 9 = .ok (.lconst 0, 1) := by decide +kernel
theorem dX6_row_10 : decode cX6_row 10 = .ok (.ldc2_w 206, 3) := by decide +kernel
theorem dX6_row_13 : decode cX6_row 13 = .ok (.invokestatic 47, 3) := by decide +kernel
theorem dX6_row_16 : decode cX6_row 16 = .ok (.ifCond .eq 9, 3) := by decide +kernel
theorem dX6_row_19 : decode cX6_row 19 = .ok (.iload_n 3, 1) := by decide +kernel
theorem dX6_row_20 : decode cX6_row 20 = .ok (.bipush 100, 2) := by decide +kernel
theorem dX6_row_22 : decode cX6_row 22 = .ok (.if_icmp .le 5, 3) := by decide +kernel
theorem dX6_row_25 : decode cX6_row 25 = .ok (.iconst (-1), 1) := by decide +kernel
theorem dX6_row_26 : decode cX6_row 26 = .ok (.ireturn, 1) := by decide +kernel
theorem dX6_row_27 : decode cX6_row 27 = .ok (.iload_n 3, 1) := by decide +kernel
theorem dX6_row_28 : decode cX6_row 28 = .ok (.ifCond .ge 6, 3) := by decide +kernel
theorem dX6_row_31 : decode cX6_row 31 = .ok (.bipush (-14), 2) := by decide +kernel
theorem dX6_row_33 : decode cX6_row 33 = .ok (.ireturn, 1) := by decide +kernel
theorem dX6_row_34 : decode cX6_row 34 = .ok (.aload_n 0, 1) := by decide +kernel
theorem dX6_row_35 : decode cX6_row 35 = .ok (.getfield 22, 3) := by decide +kernel
theorem dX6_row_38 : decode cX6_row 38 = .ok (.iload_n 1, 1) := by decide +kernel
theorem dX6_row_39 : decode cX6_row 39 = .ok (.iconst 2, 1) := by decide +kernel
theorem dX6_row_40 : decode cX6_row 40 = .ok (.iastore, 1) := by decide +kernel
theorem dX6_row_41 : decode cX6_row 41 = .ok (.aload_n 0, 1) := by decide +kernel
theorem dX6_row_42 : decode cX6_row 42 = .ok (.getfield 25, 3) := by decide +kernel
theorem dX6_row_45 : decode cX6_row 45 = .ok (.iload_n 1, 1) := by decide +kernel
theorem dX6_row_46 : decode cX6_row 46 = .ok (.iload_n 2, 1) := by decide +kernel
theorem dX6_row_47 : decode cX6_row 47 = .ok (.iastore, 1) := by decide +kernel
theorem dX6_row_48 : decode cX6_row 48 = .ok (.aload_n 0, 1) := by decide +kernel
theorem dX6_row_49 : decode cX6_row 49 = .ok (.getfield 28, 3) := by decide +kernel
theorem dX6_row_52 : decode cX6_row 52 = .ok (.iload_n 1, 1) := by decide +kernel
theorem dX6_row_53 : decode cX6_row 53 = .ok (.iload_n 3, 1) := by decide +kernel
theorem dX6_row_54 : decode cX6_row 54 = .ok (.iastore, 1) := by decide +kernel
theorem dX6_row_55 : decode cX6_row 55 = .ok (.iconst 0, 1) := by decide +kernel
theorem dX6_row_56 : decode cX6_row 56 = .ok (.istore 4, 2) := by decide +kernel
theorem dX6_row_58 : decode cX6_row 58 = .ok (.iload 4, 2) := by decide +kernel
theorem dX6_row_60 : decode cX6_row 60 = .ok (.bipush 100, 2) := by decide +kernel
theorem dX6_row_62 : decode cX6_row 62 = .ok (.if_icmp .ge 22, 3) := by decide +kernel
theorem dX6_row_65 : decode cX6_row 65 = .ok (.aload_n 0, 1) := by decide +kernel
theorem dX6_row_66 : decode cX6_row 66 = .ok (.getfield 31, 3) := by decide +kernel
theorem dX6_row_69 : decode cX6_row 69 = .ok (.bipush 100, 2) := by decide +kernel
theorem dX6_row_71 : decode cX6_row 71 = .ok (.iload_n 1, 1) := by decide +kernel
theorem dX6_row_72 : decode cX6_row 72 = .ok (.imul, 1) := by decide +kernel
theorem dX6_row_73 : decode cX6_row 73 = .ok (.iload 4, 2) := by decide +kernel
theorem dX6_row_75 : decode cX6_row 75 = .ok (.iadd, 1) := by decide +kernel
theorem dX6_row_76 : decode cX6_row 76 = .ok (.iconst 0, 1) := by decide +kernel
theorem dX6_row_77 : decode cX6_row 77 = .ok (.iastore, 1) := by decide +kernel
theorem dX6_row_78 : decode cX6_row 78 = .ok (.iinc 4 1, 3) := by decide +kernel
theorem dX6_row_81 : decode cX6_row 81 = .ok (.goto (-23), 3) := by decide +kernel
theorem dX6_row_84 : decode cX6_row 84 = .ok (.iconst 0, 1) := by decide +kernel
theorem dX6_row_85 : decode cX6_row 85 = .ok (.ireturn, 1) := by decide +kernel
theorem dX3_putLowestBits_0 : decode cX3_putLowestBits 0 = .ok (.aload_n 0, 1) := by decide +kernel
theorem dX3_putLowestBits_1 : decode cX3_putLowestBits 1 = .ok (.getfield 22, 3) := by decide +kernel
theorem dX3_putLowestBits_4 : decode cX3_putLowestBits 4 = .ok (.lookupswitch 50 #[(0, 28), (1, 39)], 28) := by decide +kernel
theorem dX3_putLowestBits_32 : decode cX3_putLowestBits 32 = .ok (.aload_n 0, 1) := by decide +kernel
theorem dX3_putLowestBits_33 : decode cX3_putLowestBits 33 = .ok (.getfield 28, 3) := by decide +kernel
theorem dX3_putLowestBits_36 : decode cX3_putLowestBits 36 = .ok (.iload_n 1, 1) := by decide +kernel
theorem dX3_putLowestBits_37 : decode cX3_putLowestBits 37 = .ok (.iload_n 2, 1) := by decide +kernel
theorem dX3_putLowestBits_38 : decode cX3_putLowestBits 38 = .ok (.i2b, 1) := by decide +kernel
theorem dX3_putLowestBits_39 : decode cX3_putLowestBits 39 = .ok (.iastore, 1) := by decide +kernel
theorem dX3_putLowestBits_40 : decode cX3_putLowestBits 40 = .ok (.goto 21, 3) := by decide +kernel
theorem dX3_putLowestBits_43 : decode cX3_putLowestBits 43 = .ok (.aload_n 0, 1) := by decide +kernel
theorem dX3_putLowestBits_44 : decode cX3_putLowestBits 44 = .ok (.getfield 28, 3) := by decide +kernel
theorem dX3_putLowestBits_47 : decode cX3_putLowestBits 47 = .ok (.iload_n 1, 1) := by decide +kernel
theorem dX3_putLowestBits_48 : decode cX3_putLowestBits 48 = .ok (.iload_n 2, 1) := by decide +kernel
theorem dX3_putLowestBits_49 : decode cX3_putLowestBits 49 = .ok (.i2s, 1) := by decide +kernel
theorem dX3_putLowestBits_50 : decode cX3_putLowestBits 50 = .ok (.iastore, 1) := by decide +kernel
theorem dX3_putLowestBits_51 : decode cX3_putLowestBits 51 = .ok (.goto 10, 3) := by decide +kernel
theorem dX3_putLowestBits_54 : decode cX3_putLowestBits 54 = .ok (.aload_n 0, 1) := by decide +kernel
theorem dX3_putLowestBits_55 : decode cX3_putLowestBits 55 = .ok (.getfield 28, 3) := by decide +kernel
theorem dX3_putLowestBits_58 : decode cX3_putLowestBits 58 = .ok (.iload_n 1, 1) := by decide +kernel
theorem dX3_putLowestBits_59 : decode cX3_putLowestBits 59 = .ok (.iload_n 2, 1) := by decide +kernel
theorem dX3_putLowestBits_60 : decode cX3_putLowestBits 60 = .ok (.iastore, 1) := by decide +kernel
theorem dX3_putLowestBits_61 : decode cX3_putLowestBits 61 = .ok (.return_, 1) := by decide +kernel
theorem dX5_put_0 : decode cX5_put 0 = .ok (.aload_n 0, 1) := by decide +kernel
theorem dX5_put_1 : decode cX5_put 1 = .ok (.iload_n 1, 1) := by decide +kernel
theorem dX5_put_2 : decode cX5_put 2 = .ok (.invokevirtual 229, 3) := by decide +kernel
theorem dX5_put_5 : decode cX5_put 5 = .ok (.istore 4, 2) := by decide +kernel
theorem dX5_put_7 : decode cX5_put 7 = .ok (.iload 4, 2) := by decide +kernel
theorem dX5_put_9 : decode cX5_put 9 = .ok (.ifCond .ge 6, 3) := by decide +kernel
theorem dX5_put_12 : decode cX5_put 12 = .ok (.iload 4, 2) := by decide +kernel
theorem dX5_put_14 : decode cX5_put 14 = .ok (.ireturn, 1) := by decide +kernel
theorem dX5_put_15 : decode cX5_put 15 = .ok (.aload_n 0, 1) := by decide +kernel
theorem dX5_put_16 : decode cX5_put 16 = .ok (.getfield 45, 3) := by decide +kernel
theorem dX5_put_19 : decode cX5_put 19 = .ok (.iload_n 1, 1) := by decide +kernel
theorem dX5_put_20 : decode cX5_put 20 = .ok (.aaload, 1) := by decide +kernel
theorem dX5_put_21 : decode cX5_put 21 = .ok (.iload_n 2, 1) := by decide +kernel
theorem dX5_put_22 : decode cX5_put 22 = .ok (.invokevirtual 264, 3) := by decide +kernel
theorem dX5_put_25 : decode cX5_put 25 = .ok (.ifCond .ne 6, 3) := by decide +kernel
theorem dX5_put_28 : decode cX5_put 28 = .ok (.bipush (-13), 2) := by decide +kernel
theorem dX5_put_30 : decode cX5_put 30 = .ok (.ireturn, 1) := by decide +kernel
theorem dX5_put_31 : decode cX5_put 31 = .ok (.aload_n 0, 1) := by decide +kernel
theorem dX5_put_32 : decode cX5_put 32 = .ok (.getfield 45, 3) := by decide +kernel
theorem dX5_put_35 : decode cX5_put 35 = .ok (.iload_n 1, 1) := by decide +kernel
theorem dX5_put_36 : decode cX5_put 36 = .ok (.aaload, 1) := by decide +kernel
theorem dX5_put_37 : decode cX5_put 37 = .ok (.iload_n 2, 1) := by decide +kernel
theorem dX5_put_38 : decode cX5_put 38 = .ok (.iload_n 3, 1) := by decide +kernel
theorem dX5_put_39 : decode cX5_put 39 = .ok (.invokevirtual 267, 3) := by decide +kernel
theorem dX5_put_42 : decode cX5_put 42 = .ok (.iconst 0, 1) := by decide +kernel
theorem dX5_put_43 : decode cX5_put 43 = .ok (.ireturn, 1) := by decide +kernel
theorem dX6_put_0 : decode cX6_put 0 = .ok (.aload_n 0, 1) := by decide +kernel
theorem dX6_put_1 : decode cX6_put 1 = .ok (.iload_n 1, 1) := by decide +kernel
theorem dX6_put_2 : decode cX6_put 2 = .ok (.iconst (-1), 1) := by decide +kernel
theorem dX6_put_3 : decode cX6_put 3 = .ok (.invokevirtual 97, 3) := by decide +kernel
theorem dX6_put_6 : decode cX6_put 6 = .ok (.istore 4, 2) := by decide +kernel
theorem dX6_put_8 : decode cX6_put 8 = .ok (.iload 4, 2) := by decide +kernel
theorem dX6_put_10 : decode cX6_put 10 = .ok (.ifCond .eq 6, 3) := by decide +kernel
theorem dX6_put_13 : decode cX6_put 13 = .ok (.iload 4, 2) := by decide +kernel
theorem dX6_put_15 : decode cX6_put 15 = .ok (.ireturn, 1) := by decide +kernel
theorem dX6_put_16 : decode cX6_put 16 = .ok (.iload_n 2, 1) := by decide +kernel
theorem dX6_put_17 : decode cX6_put 17 = .ok (.i2l, 1) := by decide +kernel
theorem dX6_put_18 : decode cX6_put 18 = .ok (.lconst 0, 1) := by decide +kernel
theorem dX6_put_19 : decode cX6_put 19 = .ok (.aload_n 0, 1) := by decide +kernel
theorem dX6_put_20 : decode cX6_put 20 = .ok (.getfield 28, 3) := by decide +kernel
theorem dX6_put_23 : decode cX6_put 23 = .ok (.iload_n 1, 1) := by decide +kernel
theorem dX6_put_24 : decode cX6_put 24 = .ok (.iaload, 1) := by decide +kernel
theorem dX6_put_25 : decode cX6_put 25 = .ok (.iconst 1, 1) := by decide +kernel
theorem dX6_put_26 : decode cX6_put 26 = .ok (.isub, 1) := by decide +kernel
theorem dX6_put_27 : decode cX6_put 27 = .ok (.i2l, 1) := by decide +kernel
theorem dX6_put_28 : decode cX6_put 28 = .ok (.invokestatic 47, 3) := by decide +kernel
theorem dX6_put_31 : decode cX6_put 31 = .ok (.ifCond .ne 6, 3) := by decide +kernel
theorem dX6_put_34 : decode cX6_put 34 = .ok (.bipush (-13), 2) := by decide +kernel
theorem dX6_put_36 : decode cX6_put 36 = .ok (.ireturn, 1) := by decide +kernel
theorem dX6_put_37 : decode cX6_put 37 = .ok (.aload_n 0, 1) := by decide +kernel
theorem dX6_put_38 : decode cX6_put 38 = .ok (.getfield 31, 3) := by decide +kernel
theorem dX6_put_41 : decode cX6_put 41 = .ok (.bipush 100, 2) := by decide +kernel
theorem dX6_put_43 : decode cX6_put 43 = .ok (.iload_n 1, 1) := by decide +kernel
theorem dX6_put_44 : decode cX6_put 44 = .ok (.imul, 1) := by decide +kernel
theorem dX6_put_45 : decode cX6_put 45 = .ok (.iload_n 2, 1) := by decide +kernel
theorem dX6_put_46 : decode cX6_put 46 = .ok (.iadd, 1) := by decide +kernel
theorem dX6_put_47 : decode cX6_put 47 = .ok (.aload_n 0, 1) := by decide +kernel
theorem dX6_put_48 : decode cX6_put 48 = .ok (.getfield 25, 3) := by decide +kernel
theorem dX6_put_51 : decode cX6_put 51 = .ok (.iload_n 1, 1) := by decide +kernel
theorem dX6_put_52 : decode cX6_put 52 = .ok (.iaload, 1) := by decide +kernel
theorem dX6_put_53 : decode cX6_put 53 = .ok (.ifCond .ne 8, 3) := by decide +kernel
theorem dX6_put_56 : decode cX6_put 56 = .ok (.iload_n 3, 1) := by decide +kernel
theorem dX6_put_57 : decode cX6_put 57 = .ok (.i2b, 1) := by decide +kernel
theorem dX6_put_58 : decode cX6_put 58 = .ok (.goto 19, 3) := by decide +kernel
theorem dX6_put_61 : decode cX6_put 61 = .ok (.aload_n 0, 1) := by decide +kernel
theorem dX6_put_62 : decode cX6_put 62 = .ok (.getfield 25, 3) := by decide +kernel
theorem dX6_put_65 : decode cX6_put 65 = .ok (.iload_n 1, 1) := by decide +kernel
theorem dX6_put_66 : decode cX6_put 66 = .ok (.iaload, 1) := by decide +kernel
theorem dX6_put_67 : decode cX6_put 67 = .ok (.iconst 1, 1) := by decide +kernel
theorem dX6_put_68 : decode cX6_put 68 = .ok (.if_icmp .ne 8, 3) := by decide +kernel
theorem dX6_put_71 : decode cX6_put 71 = .ok (.iload_n 3, 1) := by decide +kernel
theorem dX6_put_72 : decode cX6_put 72 = .ok (.i2s, 1) := by decide +kernel
theorem dX6_put_73 : decode cX6_put 73 = .ok (.goto 4, 3) := by decide +kernel
theorem dX6_put_76 : decode cX6_put 76 = .ok (.iload_n 3, 1) := by decide +kernel
theorem dX6_put_77 : decode cX6_put 77 = .ok (.iastore, 1) := by decide +kernel
theorem dX6_put_78 : decode cX6_put 78 = .ok (.iconst 0, 1) := by decide +kernel
theorem dX6_put_79 : decode cX6_put 79 = .ok (.ireturn, 1) := by decide +kernel
theorem dX6_thrown_0 : decode cX6_thrown 0 = .ok (.aload_n 0, 1) := by decide +kernel
theorem dX6_thrown_1 : decode cX6_thrown 1 = .ok (.getfield 43, 3) := by decide +kernel
theorem dX6_thrown_4 : decode cX6_thrown 4 = .ok (.ireturn, 1) := by decide +kernel
theorem dX3_hasPlaces_0 : decode cX3_hasPlaces 0 = .ok (.aload_n 0, 1) := by decide +kernel
theorem dX3_hasPlaces_1 : decode cX3_hasPlaces 1 = .ok (.getfield 11, 3) := by decide +kernel
theorem dX3_hasPlaces_4 : decode cX3_hasPlaces 4 = .ok (.iconst 2, 1) := by decide +kernel
theorem dX3_hasPlaces_5 : decode cX3_hasPlaces 5 = .ok (.if_icmp .ne 33, 3) := by decide +kernel
theorem dX3_hasPlaces_8 : decode cX3_hasPlaces 8 = .ok (.iload_n 1, 1) := by decide +kernel
theorem dX3_hasPlaces_9 : decode cX3_hasPlaces 9 = .ok (.iconst 0, 1) := by decide +kernel
theorem dX3_hasPlaces_10 : decode cX3_hasPlaces 10 = .ok (.aload_n 0, 1) := by decide +kernel
theorem dX3_hasPlaces_11 : decode cX3_hasPlaces 11 = .ok (.getfield 25, 3) := by decide +kernel
theorem dX3_hasPlaces_14 : decode cX3_hasPlaces 14 = .ok (.invokestatic 42, 3) := by decide +kernel
theorem dX3_hasPlaces_17 : decode cX3_hasPlaces 17 = .ok (.ifCond .eq 21, 3) := by decide +kernel
theorem dX3_hasPlaces_20 : decode cX3_hasPlaces 20 = .ok (.iload_n 2, 1) := by decide +kernel
theorem dX3_hasPlaces_21 : decode cX3_hasPlaces 21 = .ok (.iconst 0, 1) := by decide +kernel
theorem dX3_hasPlaces_22 : decode cX3_hasPlaces 22 = .ok (.aload_n 0, 1) := by decide +kernel
theorem dX3_hasPlaces_23 : decode cX3_hasPlaces 23 = .ok (.getfield 25, 3) := by decide +kernel
theorem dX3_hasPlaces_26 : decode cX3_hasPlaces 26 = .ok (.iload_n 1, 1) := by decide +kernel
theorem dX3_hasPlaces_27 : decode cX3_hasPlaces 27 = .ok (.isub, 1) := by decide +kernel
theorem dX3_hasPlaces_28 : decode cX3_hasPlaces 28 = .ok (.invokestatic 42, 3) := by decide +kernel
theorem dX3_hasPlaces_31 : decode cX3_hasPlaces 31 = .ok (.ifCond .eq 7, 3) := by decide +kernel
theorem dX3_hasPlaces_34 : decode cX3_hasPlaces 34 = .ok (.iconst 1, 1) := by decide +kernel
theorem dX3_hasPlaces_35 : decode cX3_hasPlaces 35 = .ok (.goto 4, 3) := by decide +kernel
theorem dX3_hasPlaces_38 : decode cX3_hasPlaces 38 = .ok (.iconst 0, 1) := by decide +kernel
theorem dX3_hasPlaces_39 : decode cX3_hasPlaces 39 = .ok (.ireturn, 1) := by decide +kernel
theorem dX5_copy_0 : decode cX5_copy 0 = .ok (.iload_n 1, 1) := by decide +kernel
theorem dX5_copy_1 : decode cX5_copy 1 = .ok (.invokestatic 250, 3) := by decide +kernel
theorem dX5_copy_4 : decode cX5_copy 4 = .ok (.ifCond .eq 10, 3) := by decide +kernel
theorem dX5_copy_7 : decode cX5_copy 7 = .ok (.iload_n 3, 1) := by decide +kernel
theorem dX5_copy_8 : decode cX5_copy 8 = .ok (.invokestatic 250, 3) := by decide +kernel
theorem dX5_copy_11 : decode cX5_copy 11 = .ok (.ifCond .ne 5, 3) := by decide +kernel
theorem dX5_copy_14 : decode cX5_copy 14 = .ok (.iconst (-1), 1) := by decide +kernel
theorem dX5_copy_15 : decode cX5_copy 15 = .ok (.ireturn, 1) := by decide +kernel
theorem dX5_copy_16 : decode cX5_copy 16 = .ok (.aload_n 0, 1) := by decide +kernel
theorem dX5_copy_17 : decode cX5_copy 17 = .ok (.getfield 45, 3) := by decide +kernel
theorem dX5_copy_20 : decode cX5_copy 20 = .ok (.iload_n 1, 1) := by decide +kernel
theorem dX5_copy_21 : decode cX5_copy 21 = .ok (.aaload, 1) := by decide +kernel
theorem dX5_copy_22 : decode cX5_copy 22 = .ok (.astore 6, 2) := by decide +kernel
theorem dX5_copy_24 : decode cX5_copy 24 = .ok (.aload_n 0, 1) := by decide +kernel
theorem dX5_copy_25 : decode cX5_copy 25 = .ok (.getfield 45, 3) := by decide +kernel
theorem dX5_copy_28 : decode cX5_copy 28 = .ok (.iload_n 3, 1) := by decide +kernel
theorem dX5_copy_29 : decode cX5_copy 29 = .ok (.aaload, 1) := by decide +kernel
theorem dX5_copy_30 : decode cX5_copy 30 = .ok (.astore 7, 2) := by decide +kernel
theorem dX5_copy_32 : decode cX5_copy 32 = .ok (.aload 6, 2) := by decide +kernel
theorem dX5_copy_34 : decode cX5_copy 34 = .ok (.getfield 282, 3) := by decide +kernel
theorem dX5_copy_37 : decode cX5_copy 37 = .ok (.ifCond .eq 11, 3) := by decide +kernel
theorem dX5_copy_40 : decode cX5_copy 40 = .ok (.aload 7, 2) := by decide +kernel
theorem dX5_copy_42 : decode cX5_copy 42 = .ok (.getfield 282, 3) := by decide +kernel
theorem dX5_copy_45 : decode cX5_copy 45 = .ok (.ifCond .ne 6, 3) := by decide +kernel
theorem dX5_copy_48 : decode cX5_copy 48 = .ok (.bipush (-11), 2) := by decide +kernel
theorem dX5_copy_50 : decode cX5_copy 50 = .ok (.ireturn, 1) := by decide +kernel
theorem dX5_copy_51 : decode cX5_copy 51 = .ok (.aload 6, 2) := by decide +kernel
theorem dX5_copy_53 : decode cX5_copy 53 = .ok (.getfield 282, 3) := by decide +kernel
theorem dX5_copy_56 : decode cX5_copy 56 = .ok (.iconst 2, 1) := by decide +kernel
theorem dX5_copy_57 : decode cX5_copy 57 = .ok (.if_icmp .ne 25, 3) := by decide +kernel
theorem dX5_copy_60 : decode cX5_copy 60 = .ok (.aload 7, 2) := by decide +kernel
theorem dX5_copy_62 : decode cX5_copy 62 = .ok (.getfield 282, 3) := by decide +kernel
theorem dX5_copy_65 : decode cX5_copy 65 = .ok (.iconst 2, 1) := by decide +kernel
theorem dX5_copy_66 : decode cX5_copy 66 = .ok (.if_icmp .ne 16, 3) := by decide +kernel
theorem dX5_copy_69 : decode cX5_copy 69 = .ok (.aload 6, 2) := by decide +kernel
theorem dX5_copy_71 : decode cX5_copy 71 = .ok (.getfield 285, 3) := by decide +kernel
theorem dX5_copy_74 : decode cX5_copy 74 = .ok (.aload 7, 2) := by decide +kernel
theorem dX5_copy_76 : decode cX5_copy 76 = .ok (.getfield 285, 3) := by decide +kernel
theorem dX5_copy_79 : decode cX5_copy 79 = .ok (.if_icmp .eq 6, 3) := by decide +kernel
theorem dX5_copy_82 : decode cX5_copy 82 = .ok (.bipush (-12), 2) := by decide +kernel
theorem dX5_copy_84 : decode cX5_copy 84 = .ok (.ireturn, 1) := by decide +kernel
theorem dX5_copy_85 : decode cX5_copy 85 = .ok (.aload 6, 2) := by decide +kernel
theorem dX5_copy_87 : decode cX5_copy 87 = .ok (.iload_n 2, 1) := by decide +kernel
theorem dX5_copy_88 : decode cX5_copy 88 = .ok (.iload 5, 2) := by decide +kernel
theorem dX5_copy_90 : decode cX5_copy 90 = .ok (.invokevirtual 288, 3) := by decide +kernel
theorem dX5_copy_93 : decode cX5_copy 93 = .ok (.ifCond .eq 15, 3) := by decide +kernel
theorem dX5_copy_96 : decode cX5_copy 96 = .ok (.aload 7, 2) := by decide +kernel
theorem dX5_copy_98 : decode cX5_copy 98 = .ok (.iload 4, 2) := by decide +kernel
theorem dX5_copy_100 : decode cX5_copy 100 = .ok (.iload 5, 2) := by decide +kernel
theorem dX5_copy_102 : decode cX5_copy 102 = .ok (.invokevirtual 288, 3) := by decide +kernel
theorem dX5_copy_105 : decode cX5_copy 105 = .ok (.ifCond .ne 6, 3) := by decide +kernel
theorem dX5_copy_108 : decode cX5_copy 108 = .ok (.bipush (-13), 2) := by decide +kernel
theorem dX5_copy_110 : decode cX5_copy 110 = .ok (.ireturn, 1) := by decide +kernel
theorem dX5_copy_111 : decode cX5_copy 111 = .ok (.aload 6, 2) := by decide +kernel
theorem dX5_copy_113 : decode cX5_copy 113 = .ok (.getfield 238, 3) := by decide +kernel
theorem dX5_copy_116 : decode cX5_copy 116 = .ok (.iload_n 2, 1) := by decide +kernel
theorem dX5_copy_117 : decode cX5_copy 117 = .ok (.aload 7, 2) := by decide +kernel
theorem dX5_copy_119 : decode cX5_copy 119 = .ok (.getfield 238, 3) := by decide +kernel
theorem dX5_copy_122 : decode cX5_copy 122 = .ok (.iload 4, 2) := by decide +kernel
theorem dX5_copy_124 : decode cX5_copy 124 = .ok (.iload 5, 2) := by decide +kernel
theorem dX5_copy_126 : decode cX5_copy 126 = .ok (.invokestatic 291, 3) := by decide +kernel
theorem dX5_copy_129 : decode cX5_copy 129 = .ok (.iload 5, 2) := by decide +kernel
theorem dX5_copy_131 : decode cX5_copy 131 = .ok (.ireturn, 1) := by decide +kernel
section WALK
variable {p : Program} {l : Launch} {e : Env} {s : State} {m : MethodId} {args : Array Value} {below : List Frame} {meth : Method} {c : Code} {G : GG}

def q_X3_empty (M : Mem) (a0 : Nat) (post : Mem → Prop) : Prop := ∀ M1 : Mem, M1 = (mup M a0 0 (0 : Int32)) → (post M1)
set_option maxHeartbeats 4000000 in
set_option maxRecDepth 100000 in
theorem c_X3_empty (l : Launch) (G : GG) (hG : Ag G) (sz : Nat) (M : Mem) (a0 : Nat) (ha0 : 14 ≤ a0 ∧ a0 < 22) (post : Mem → Prop) (h : q_X3_empty M a0 post) : Met l yX3_empty (Cond.code yX3_empty cX3_empty 1 none :: wsL_law) (rmk 1) (va_Pc [.ref (ga G a0)] (Pw G sz M)) (va_Qv post (Qw G) (Af G sz)) 0 0 (Af G sz) := by
  refine Met.ofW (cc := cX3_empty) (maxL := 1) (ret := none) (by decide) rfl ?_
  intro p e s m args below meth c s₁ B hml hv
  obtain ⟨rfl, hsz, hE, hP⟩ := hv
  subst hsz
  have C := Cx.of (own := RX3) hG hE rfl hml B
  have w : Wd G s M s.heap [] := ⟨hP, va_S.rf⟩
  have hl := lv_entry [.ref (ga G a0)] (n := 1) (Nat.le_of_ble_eq_true rfl)
  rw [lg_entry_eq]
  generalize (lg_sl [.ref (ga G a0)] ++ List.replicate (1 - (lg_sl [.ref (ga G a0)]).length) Slot.unset).toArray = ls at hl ⊢
  have hl : lv_has ls 1 [(0, .ref (ga G a0))] := hl
  have hx := C.1.1
  have hb := C.1.2.1
  show W p l e (rmk 1) s m _ below meth c s.heap [] 0 0 _ _
  unfold q_X3_empty at h
  refine lv_aload_n hx hb dX3_empty_0 rfl (lv_at hl 0 rfl) ?_
  refine lv_iconst (v := 0) hx hb dX3_empty_1 (by decide) ?_
  refine pt_3_0 C w ha0 kw_4_14 dX3_empty_2 (fun H locs w => ?_)
  obtain ⟨M1, eM1⟩ : ∃ z : Mem, z = (mup M a0 0 (0 : Int32)) := ⟨_, rfl⟩
  replace w : Wd G s M1 H locs := by rw [eM1]; exact w
  replace h := h M1 eM1
  exact ret_v C w h dX3_empty_5
def q_X3_keepPiece (M : Mem) (a0 : Nat) (a1 : Nat) (post : Mem → Prop) : Prop := ∀ M1 : Mem, M1 = (mup M a0 0 (1 : Int32)) → (q_X1_become M1 (16 + a0) a1 (fun M3 => post M3))
set_option maxHeartbeats 4000000 in
set_option maxRecDepth 100000 in
theorem c_X3_keepPiece (l : Launch) (G : GG) (hG : Ag G) (sz : Nat) (M : Mem) (a0 : Nat) (a1 : Nat) (ha0 : 14 ≤ a0 ∧ a0 < 22) (ha1 : 30 ≤ a1 ∧ a1 < 57) (post : Mem → Prop) (h : q_X3_keepPiece M a0 a1 post) : Met l yX3_keepPiece (Cond.code yX3_keepPiece cX3_keepPiece 2 none :: wsL_law) (rmk 2) (va_Pc [.ref (ga G a0), .ref (ga G a1)] (Pw G sz M)) (va_Qv post (Qw G) (Af G sz)) 0 0 (Af G sz) := by
  refine Met.ofW (cc := cX3_keepPiece) (maxL := 2) (ret := none) (by decide) rfl ?_
  intro p e s m args below meth c s₁ B hml hv
  obtain ⟨rfl, hsz, hE, hP⟩ := hv
  subst hsz
  have C := Cx.of (own := RX3) hG hE rfl hml B
  have w : Wd G s M s.heap [] := ⟨hP, va_S.rf⟩
  have hl := lv_entry [.ref (ga G a0), .ref (ga G a1)] (n := 2) (Nat.le_of_ble_eq_true rfl)
  rw [lg_entry_eq]
  generalize (lg_sl [.ref (ga G a0), .ref (ga G a1)] ++ List.replicate (2 - (lg_sl [.ref (ga G a0), .ref (ga G a1)]).length) Slot.unset).toArray = ls at hl ⊢
  have hl : lv_has ls 2 [(0, .ref (ga G a0)), (1, .ref (ga G a1))] := hl
  have hx := C.1.1
  have hb := C.1.2.1
  show W p l e (rmk 2) s m _ below meth c s.heap [] 0 0 _ _
  unfold q_X3_keepPiece at h
  refine lv_aload_n hx hb dX3_keepPiece_0 rfl (lv_at hl 0 rfl) ?_
  refine lv_iconst (v := 1) hx hb dX3_keepPiece_1 (by decide) ?_
  refine pt_3_0 C w ha0 kw_4_14 dX3_keepPiece_2 (fun H locs w => ?_)
  obtain ⟨M1, eM1⟩ : ∃ z : Mem, z = (mup M a0 0 (1 : Int32)) := ⟨_, rfl⟩
  replace w : Wd G s M1 H locs := by rw [eM1]; exact w
  replace h := h M1 eM1
  refine lv_aload_n hx hb dX3_keepPiece_5 rfl (lv_at hl 0 rfl) ?_
  refine gt_3_1 C w ha0 kw_4_16 dX3_keepPiece_6 ?_
  refine lv_aload_n hx hb dX3_keepPiece_9 rfl (lv_at hl 1 rfl) ?_
  refine end_v w (run_VN (As := [.ref (ga G a1)]) C w hl.1 (c_X1_become l G C.2.2.1 _ _ (16 + a0) a1 (by omega) ha1 _ h) kw_6_18 kw_2_1 kn_82 kw_6_16 kw_6_17 hd_X1_become ⟨by decide, by decide⟩ (w.recv C (i := (16 + a0)) (by omega) (pE_1 (by omega)) rfl) rfl (Nat.le_of_ble_eq_true rfl) dX3_keepPiece_10) (fun M3 H locs h w => ?_)
  exact ret_v C w h dX3_keepPiece_13
def j_X5_keep_16 (post : Int32 → Mem → Prop) (M : Mem) : Prop := post (-1 : Int32) M
def q_X5_keep (M : Mem) (x1 : Int32) (x2 : Int32) (x3 : Int32) (post : Int32 → Mem → Prop) : Prop := q_X5_isShelf M x1 (fun r1 M2 => (r1 = 0 → (j_X5_keep_16 post M2)) ∧ (¬ (r1 = 0) → (q_X5_isWithin M2 x2 (0 : Int32) (1 : Int32) (fun r4 M5 => (r4 = 0 → (j_X5_keep_16 post M5)) ∧ (¬ (r4 = 0) → ((x2 = 0 → (vp_in x1 8 ∧ (q_X3_empty M5 (14 + x1.toNatClampNeg) (fun M17 => post (0 : Int32) M17)))) ∧ (¬ (x2 = 0) → (q_X4_has M5 1 x3 (fun r8 M9 => (r8 = 0 → (post (-1 : Int32) M9)) ∧ (¬ (r8 = 0) → (vp_in x1 8 ∧ (vp_in x3 6 ∧ (q_X3_keepPiece M9 (14 + x1.toNatClampNeg) (38 + x3.toNatClampNeg) (fun M14 => post (0 : Int32) M14))))))))))))))
set_option maxHeartbeats 4000000 in
set_option maxRecDepth 100000 in
theorem t_X5_keep_16 (C : Cx G p s m args meth c RX5 cX5_keep 4 (some .int)) {post : Int32 → Mem → Prop} (M : Mem) {H : Heap} {locs : List Loc} {ls : Array Slot} (w : Wd G s M H locs) (hl : lv_has ls 4 []) (h : j_X5_keep_16 post M) : W p l e (rmk 3) s m args below meth c H locs 0 0 (MQ below (va_Qi post (Qw G) (Af G s.heap.size)) args s 0 0 (Af G s.heap.size)) (F0 m 16 ls []) := by
  have hx := C.1.1
  have hb := C.1.2.1
  unfold j_X5_keep_16 at h
  refine lv_iconst (v := -1) hx hb dX5_keep_16 (by decide) ?_
  exact ret_i C w h dX5_keep_17
set_option maxHeartbeats 4000000 in
set_option maxRecDepth 100000 in
theorem c_X5_keep (l : Launch) (G : GG) (hG : Ag G) (sz : Nat) (M : Mem) (x1 : Int32) (x2 : Int32) (x3 : Int32) (post : Int32 → Mem → Prop) (h : q_X5_keep M x1 x2 x3 post) : Met l yX5_keep (Cond.code yX5_keep cX5_keep 4 (some .int) :: wsL_law) (rmk 3) (va_Pc [.ref (ga G 0), .int x1, .int x2, .int x3] (Pw G sz M)) (va_Qi post (Qw G) (Af G sz)) 0 0 (Af G sz) := by
  refine Met.ofW (cc := cX5_keep) (maxL := 4) (ret := (some .int)) (by decide) rfl ?_
  intro p e s m args below meth c s₁ B hml hv
  obtain ⟨rfl, hsz, hE, hP⟩ := hv
  subst hsz
  have C := Cx.of (own := RX5) hG hE rfl hml B
  have w : Wd G s M s.heap [] := ⟨hP, va_S.rf⟩
  have hl := lv_entry [.ref (ga G 0), .int x1, .int x2, .int x3] (n := 4) (Nat.le_of_ble_eq_true rfl)
  rw [lg_entry_eq]
  generalize (lg_sl [.ref (ga G 0), .int x1, .int x2, .int x3] ++ List.replicate (4 - (lg_sl [.ref (ga G 0), .int x1, .int x2, .int x3]).length) Slot.unset).toArray = ls at hl ⊢
  have hl : lv_has ls 4 [(0, .ref (ga G 0)), (1, .int x1), (2, .int x2), (3, .int x3)] := hl
  have hx := C.1.1
  have hb := C.1.2.1
  show W p l e (rmk 3) s m _ below meth c s.heap [] 0 0 _ _
  unfold q_X5_keep at h
  refine lv_iload_n hx hb dX5_keep_0 rfl (lv_at hl 1 rfl) ?_
  refine end_i w (run_S (As := [.int x1]) C w hl.1 (c_X5_isShelf l G C.2.2.1 _ _ x1  _ h) kw_6_5 kw_1_2 kw_6_3 kw_6_4 hd_X5_isShelf ⟨by decide, by decide⟩ rfl (Nat.le_of_ble_eq_true rfl) dX5_keep_1) (fun r1 M2 H locs h w => ?_)
  refine lv_if_eq (tgt := 16) hx hb dX5_keep_4 (by decide) (fun c3 => ?_) (fun c3 => ?_)
  · replace h := h.1 c3
    exact t_X5_keep_16 C M2   w (lv_sub hl [] rfl) h
  replace h := h.2 c3
  refine lv_iload_n hx hb dX5_keep_7 rfl (lv_at hl 2 rfl) ?_
  refine lv_iconst (v := 0) hx hb dX5_keep_8 (by decide) ?_
  refine lv_iconst (v := 1) hx hb dX5_keep_9 (by decide) ?_
  refine end_i w (run_S (As := [.int x2, .int (0 : Int32), .int (1 : Int32)]) C w hl.1 (c_X5_isWithin l G C.2.2.1 _ _ x2 (0 : Int32) (1 : Int32)  _ h) kw_6_8 kw_1_2 kw_6_6 kw_6_7 hd_X5_isWithin ⟨by decide, by decide⟩ rfl (Nat.le_of_ble_eq_true rfl) dX5_keep_10) (fun r4 M5 H locs h w => ?_)
  refine lv_if_ne (tgt := 18) hx hb dX5_keep_13 (by decide) (fun c6 => ?_) (fun c6 => ?_)
  · replace h := h.2 c6
    refine lv_iload_n hx hb dX5_keep_18 rfl (lv_at hl 2 rfl) ?_
    refine lv_if_ne (tgt := 33) hx hb dX5_keep_19 (by decide) (fun c7 => ?_) (fun c7 => ?_)
    · replace h := h.2 c7
      refine lv_aload_n hx hb dX5_keep_33 rfl (lv_at hl 0 rfl) ?_
      refine gt_5_0 C w kw_1_16 dX5_keep_34 ?_
      refine lv_iload_n hx hb dX5_keep_37 rfl (lv_at hl 3 rfl) ?_
      refine end_i w (run_VN (As := [.int x3]) C w hl.1 (c_X4_has l G C.2.2.1 _ _ 1 x3 ⟨by decide, by decide⟩ _ h) kw_13_22 kw_1_15 kn_53 kw_13_20 kw_13_21 hd_X4_has ⟨by decide, by decide⟩ (w.recv C (i := 1) (by decide) (pE_4 ⟨by decide, by decide⟩) rfl) rfl (Nat.le_of_ble_eq_true rfl) dX5_keep_38) (fun r8 M9 H locs h w => ?_)
      refine lv_if_ne (tgt := 46) hx hb dX5_keep_41 (by decide) (fun c10 => ?_) (fun c10 => ?_)
      · replace h := h.2 c10
        refine lv_aload_n hx hb dX5_keep_46 rfl (lv_at hl 0 rfl) ?_
        refine gt_5_6 C w kw_2_8 dX5_keep_47 ?_
        refine lv_iload_n hx hb dX5_keep_50 rfl (lv_at hl 1 rfl) ?_
        have hin11 := h.1
        replace h := h.2
        have hz_hin11 := in_lt hin11
        refine pw_ldS C w hin11 rfl dX5_keep_51 ?_
        refine lv_aload_n hx hb dX5_keep_52 rfl (lv_at hl 0 rfl) ?_
        refine gt_5_0 C w kw_1_16 dX5_keep_53 ?_
        refine gn_4_0 C w ⟨by decide, by decide⟩ kn_13 dX5_keep_56 ?_
        refine lv_iload_n hx hb dX5_keep_59 rfl (lv_at hl 3 rfl) ?_
        have hin12 := h.1
        replace h := h.2
        have hz_hin12 := in_lt hin12
        refine pw_ldP C w (i := 8) ⟨by decide, by decide⟩ hin12 dX5_keep_60 (j := (38 + x3.toNatClampNeg)) (by omega) ?_
        refine end_v w (run_VN (As := [.ref (ga G (38 + x3.toNatClampNeg))]) C w hl.1 (c_X3_keepPiece l G C.2.2.1 _ _ (14 + x1.toNatClampNeg) (38 + x3.toNatClampNeg) (by omega) (by omega) _ h) kw_36_14 kw_2_11 kn_81 kw_36_12 kw_36_13 hd_X3_keepPiece ⟨by decide, by decide⟩ (w.recv C (i := (14 + x1.toNatClampNeg)) (by omega) (pE_3 (by omega)) rfl) rfl (Nat.le_of_ble_eq_true rfl) dX5_keep_61) (fun M14 H locs h w => ?_)
        refine lv_iconst (v := 0) hx hb dX5_keep_64 (by decide) ?_
        exact ret_i C w h dX5_keep_65
      replace h := h.1 c10
      refine lv_iconst (v := -1) hx hb dX5_keep_44 (by decide) ?_
      exact ret_i C w h dX5_keep_45
    replace h := h.1 c7
    refine lv_aload_n hx hb dX5_keep_22 rfl (lv_at hl 0 rfl) ?_
    refine gt_5_6 C w kw_2_8 dX5_keep_23 ?_
    refine lv_iload_n hx hb dX5_keep_26 rfl (lv_at hl 1 rfl) ?_
    have hin15 := h.1
    replace h := h.2
    have hz_hin15 := in_lt hin15
    refine pw_ldS C w hin15 rfl dX5_keep_27 ?_
    refine end_v w (run_VN (As := []) C w hl.1 (c_X3_empty l G C.2.2.1 _ _ (14 + x1.toNatClampNeg) (by omega) _ h) kw_36_11 kw_2_11 kn_80 kw_36_9 kw_36_10 hd_X3_empty ⟨by decide, by decide⟩ (w.recv C (i := (14 + x1.toNatClampNeg)) (by omega) (pE_3 (by omega)) rfl) rfl (Nat.le_of_ble_eq_true rfl) dX5_keep_28) (fun M17 H locs h w => ?_)
    refine lv_iconst (v := 0) hx hb dX5_keep_31 (by decide) ?_
    exact ret_i C w h dX5_keep_32
  replace h := h.1 c6
  exact t_X5_keep_16 C M5   w (lv_sub hl [] rfl) h
def q_X6_priceOf (M : Mem) (x1 : Int32) (post : Int32 → Mem → Prop) : Prop := q_X6_get M x1 (2 : Int32) (fun r1 M2 => q_X6_get M2 x1 (1 : Int32) (fun r3 M4 => q_X6_get M4 x1 (0 : Int32) (fun r5 M6 => (r5 = (1 : Int32) → (post ((3 : Int32) * r1) M6)) ∧ (¬ r5 = (1 : Int32) → ((r5 = (2 : Int32) → (post (r1 + (50 : Int32)) M6)) ∧ (¬ r5 = (2 : Int32) → ((r5 = (3 : Int32) → (post (((2 : Int32) * r1) + r3) M6)) ∧ (¬ r5 = (3 : Int32) → ((r5 = (4 : Int32) → (post ((2 : Int32) * r1) M6)) ∧ (¬ r5 = (4 : Int32) → ((r5 = (5 : Int32) → (post ((r1 + (50 : Int32)) / (2 : Int32)) M6)) ∧ (¬ r5 = (5 : Int32) → ((r5 = (6 : Int32) → (post ((((2 : Int32) * r1) + r3) / (3 : Int32)) M6)) ∧ (¬ r5 = (6 : Int32) → ((r5 = (7 : Int32) → (post (((((2 : Int32) * r1) + r3) / (3 : Int32)) - (1 : Int32)) M6)) ∧ (¬ r5 = (7 : Int32) → (post r1 M6)))))))))))))))))
set_option maxHeartbeats 4000000 in
set_option maxRecDepth 100000 in
theorem c_X6_priceOf (l : Launch) (G : GG) (hG : Ag G) (sz : Nat) (M : Mem) (x1 : Int32) (post : Int32 → Mem → Prop) (h : q_X6_priceOf M x1 post) : Met l yX6_priceOf (Cond.code yX6_priceOf cX6_priceOf 4 (some .int) :: wsL_law) (rmk 2) (va_Pc [.ref (ga G 57), .int x1] (Pw G sz M)) (va_Qi post (Qw G) (Af G sz)) 0 0 (Af G sz) := by
  refine Met.ofW (cc := cX6_priceOf) (maxL := 4) (ret := (some .int)) (by decide) rfl ?_
  intro p e s m args below meth c s₁ B hml hv
  obtain ⟨rfl, hsz, hE, hP⟩ := hv
  subst hsz
  have C := Cx.of (own := RX6) hG hE rfl hml B
  have w : Wd G s M s.heap [] := ⟨hP, va_S.rf⟩
  have hl := lv_entry [.ref (ga G 57), .int x1] (n := 4) (Nat.le_of_ble_eq_true rfl)
  rw [lg_entry_eq]
  generalize (lg_sl [.ref (ga G 57), .int x1] ++ List.replicate (4 - (lg_sl [.ref (ga G 57), .int x1]).length) Slot.unset).toArray = ls at hl ⊢
  have hl : lv_has ls 4 [(0, .ref (ga G 57)), (1, .int x1)] := hl
  have hx := C.1.1
  have hb := C.1.2.1
  show W p l e (rmk 2) s m _ below meth c s.heap [] 0 0 _ _
  unfold q_X6_priceOf at h
  refine lv_aload_n hx hb dX6_priceOf_0 rfl (lv_at hl 0 rfl) ?_
  refine lv_iload_n hx hb dX6_priceOf_1 rfl (lv_at hl 1 rfl) ?_
  refine lv_iconst (v := 2) hx hb dX6_priceOf_2 (by decide) ?_
  refine end_i w (run_V (As := [.int x1, .int (2 : Int32)]) C w hl.1 (c_X6_get l G C.2.2.1 _ _ x1 (2 : Int32)  _ h) kw_14_10 kw_1_5 kw_14_7 kw_14_8 kw_14_9 hd_X6_get ⟨by decide, by decide⟩ (w.recv C (i := 57) (by decide) (pE_6) rfl) rfl (Nat.le_of_ble_eq_true rfl) dX6_priceOf_3) (fun r1 M2 H locs h w => ?_)
  refine lv_istore_n (lv' := [(2, .int r1), (0, .ref (ga G 57)), (1, .int x1)]) hx hb dX6_priceOf_6 rfl hl (by decide) rfl (fun ls hl => ?_)
  refine lv_aload_n hx hb dX6_priceOf_7 rfl (lv_at hl 1 rfl) ?_
  refine lv_iload_n hx hb dX6_priceOf_8 rfl (lv_at hl 2 rfl) ?_
  refine lv_iconst (v := 1) hx hb dX6_priceOf_9 (by decide) ?_
  refine end_i w (run_V (As := [.int x1, .int (1 : Int32)]) C w hl.1 (c_X6_get l G C.2.2.1 _ _ x1 (1 : Int32)  _ h) kw_14_10 kw_1_5 kw_14_7 kw_14_8 kw_14_9 hd_X6_get ⟨by decide, by decide⟩ (w.recv C (i := 57) (by decide) (pE_6) rfl) rfl (Nat.le_of_ble_eq_true rfl) dX6_priceOf_10) (fun r3 M4 H locs h w => ?_)
  refine lv_istore_n (lv' := [(3, .int r3), (2, .int r1), (0, .ref (ga G 57)), (1, .int x1)]) hx hb dX6_priceOf_13 rfl hl (by decide) rfl (fun ls hl => ?_)
  refine lv_aload_n hx hb dX6_priceOf_14 rfl (lv_at hl 2 rfl) ?_
  refine lv_iload_n hx hb dX6_priceOf_15 rfl (lv_at hl 3 rfl) ?_
  refine lv_iconst (v := 0) hx hb dX6_priceOf_16 (by decide) ?_
  refine end_i w (run_V (As := [.int x1, .int (0 : Int32)]) C w hl.1 (c_X6_get l G C.2.2.1 _ _ x1 (0 : Int32)  _ h) kw_14_10 kw_1_5 kw_14_7 kw_14_8 kw_14_9 hd_X6_get ⟨by decide, by decide⟩ (w.recv C (i := 57) (by decide) (pE_6) rfl) rfl (Nat.le_of_ble_eq_true rfl) dX6_priceOf_17) (fun r5 M6 H locs h w => ?_)
  by_cases c7 : r5 = (1 : Int32)
  · replace h := h.1 c7
    refine lv_tableIn (off := 44) (tgt := 64) hx hb dX6_priceOf_20 (by rw [c7]; decide) (by rw [c7]; decide) (by rw [c7]; decide) (by decide) ?_
    refine lv_iconst (v := 3) hx hb dX6_priceOf_64 (by decide) ?_
    refine lv_iload_n hx hb dX6_priceOf_65 rfl (lv_at hl 1 rfl) ?_
    refine lv_imul hx hb dX6_priceOf_66 ?_
    exact ret_i C w h dX6_priceOf_67
  replace h := h.2 c7
  by_cases c8 : r5 = (2 : Int32)
  · replace h := h.1 c8
    refine lv_tableIn (off := 48) (tgt := 68) hx hb dX6_priceOf_20 (by rw [c8]; decide) (by rw [c8]; decide) (by rw [c8]; decide) (by decide) ?_
    refine lv_iload_n hx hb dX6_priceOf_68 rfl (lv_at hl 1 rfl) ?_
    refine lv_bipush (v := 50) hx hb dX6_priceOf_69 (by decide) ?_
    refine lv_iadd hx hb dX6_priceOf_71 ?_
    exact ret_i C w h dX6_priceOf_72
  replace h := h.2 c8
  by_cases c9 : r5 = (3 : Int32)
  · replace h := h.1 c9
    refine lv_tableIn (off := 53) (tgt := 73) hx hb dX6_priceOf_20 (by rw [c9]; decide) (by rw [c9]; decide) (by rw [c9]; decide) (by decide) ?_
    refine lv_iconst (v := 2) hx hb dX6_priceOf_73 (by decide) ?_
    refine lv_iload_n hx hb dX6_priceOf_74 rfl (lv_at hl 1 rfl) ?_
    refine lv_imul hx hb dX6_priceOf_75 ?_
    refine lv_iload_n hx hb dX6_priceOf_76 rfl (lv_at hl 0 rfl) ?_
    refine lv_iadd hx hb dX6_priceOf_77 ?_
    exact ret_i C w h dX6_priceOf_78
  replace h := h.2 c9
  by_cases c10 : r5 = (4 : Int32)
  · replace h := h.1 c10
    refine lv_tableIn (off := 59) (tgt := 79) hx hb dX6_priceOf_20 (by rw [c10]; decide) (by rw [c10]; decide) (by rw [c10]; decide) (by decide) ?_
    refine lv_iconst (v := 2) hx hb dX6_priceOf_79 (by decide) ?_
    refine lv_iload_n hx hb dX6_priceOf_80 rfl (lv_at hl 1 rfl) ?_
    refine lv_imul hx hb dX6_priceOf_81 ?_
    exact ret_i C w h dX6_priceOf_82
  replace h := h.2 c10
  by_cases c11 : r5 = (5 : Int32)
  · replace h := h.1 c11
    refine lv_tableIn (off := 63) (tgt := 83) hx hb dX6_priceOf_20 (by rw [c11]; decide) (by rw [c11]; decide) (by rw [c11]; decide) (by decide) ?_
    refine lv_iload_n hx hb dX6_priceOf_83 rfl (lv_at hl 1 rfl) ?_
    refine lv_bipush (v := 50) hx hb dX6_priceOf_84 (by decide) ?_
    refine lv_iadd hx hb dX6_priceOf_86 ?_
    refine lv_iconst (v := 2) hx hb dX6_priceOf_87 (by decide) ?_
    refine lv_idiv hx hb dX6_priceOf_88 (by decide) ?_
    exact ret_i C w h dX6_priceOf_89
  replace h := h.2 c11
  by_cases c12 : r5 = (6 : Int32)
  · replace h := h.1 c12
    refine lv_tableIn (off := 70) (tgt := 90) hx hb dX6_priceOf_20 (by rw [c12]; decide) (by rw [c12]; decide) (by rw [c12]; decide) (by decide) ?_
    refine lv_iconst (v := 2) hx hb dX6_priceOf_90 (by decide) ?_
    refine lv_iload_n hx hb dX6_priceOf_91 rfl (lv_at hl 1 rfl) ?_
    refine lv_imul hx hb dX6_priceOf_92 ?_
    refine lv_iload_n hx hb dX6_priceOf_93 rfl (lv_at hl 0 rfl) ?_
    refine lv_iadd hx hb dX6_priceOf_94 ?_
    refine lv_iconst (v := 3) hx hb dX6_priceOf_95 (by decide) ?_
    refine lv_idiv hx hb dX6_priceOf_96 (by decide) ?_
    exact ret_i C w h dX6_priceOf_97
  replace h := h.2 c12
  by_cases c13 : r5 = (7 : Int32)
  · replace h := h.1 c13
    refine lv_tableIn (off := 78) (tgt := 98) hx hb dX6_priceOf_20 (by rw [c13]; decide) (by rw [c13]; decide) (by rw [c13]; decide) (by decide) ?_
    refine lv_iconst (v := 2) hx hb dX6_priceOf_98 (by decide) ?_
    refine lv_iload_n hx hb dX6_priceOf_99 rfl (lv_at hl 1 rfl) ?_
    refine lv_imul hx hb dX6_priceOf_100 ?_
    refine lv_iload_n hx hb dX6_priceOf_101 rfl (lv_at hl 0 rfl) ?_
    refine lv_iadd hx hb dX6_priceOf_102 ?_
    refine lv_iconst (v := 3) hx hb dX6_priceOf_103 (by decide) ?_
    refine lv_idiv hx hb dX6_priceOf_104 (by decide) ?_
    refine lv_iconst (v := 1) hx hb dX6_priceOf_105 (by decide) ?_
    refine lv_isub hx hb dX6_priceOf_106 ?_
    exact ret_i C w h dX6_priceOf_107
  replace h := h.2 c13
  have nc7 := lv_neT c7 (a := 1) (by decide)
  have nc8 := lv_neT c8 (a := 2) (by decide)
  have nc9 := lv_neT c9 (a := 3) (by decide)
  have nc10 := lv_neT c10 (a := 4) (by decide)
  have nc11 := lv_neT c11 (a := 5) (by decide)
  have nc12 := lv_neT c12 (a := 6) (by decide)
  have nc13 := lv_neT c13 (a := 7) (by decide)
  refine lv_tableOut (tgt := 108) hx hb dX6_priceOf_20 (by omega) (by decide) ?_
  refine lv_iload_n hx hb dX6_priceOf_108 rfl (lv_at hl 1 rfl) ?_
  exact ret_i C w h dX6_priceOf_109
def j_X6_keep_128 (post : Int32 → Mem → Prop) (M : Mem) (y0 : Int32) (y1 : Int32) : Prop := vp_in y1 8 ∧ (∀ M2 : Mem, M2 = (mup M 67 y1.toNatClampNeg y0) → (post (0 : Int32) M2))
def j_X6_keep_84 (post : Int32 → Mem → Prop) (M : Mem) (y0 : Int32) : Prop := j_X6_keep_128 post M (-15 : Int32) y0
def j_X6_keep_32 (post : Int32 → Mem → Prop) (M : Mem) (x1 : Int32) (x2 : Int32) (x3 : Int32) : Prop := vp_in x1 8 ∧ (∀ M4 : Mem, M4 = (mup M 62 x1.toNatClampNeg x2) → ((x2 = 0 → (post (0 : Int32) M4)) ∧ (¬ (x2 = 0) → (q_X6_get M4 x3 (0 : Int32) (fun r6 M7 => q_X6_priceOf M7 x3 (fun r8 M9 => ∀ M10 : Mem, M10 = (mup M9 66 x1.toNatClampNeg r8) → ((r6 = (5 : Int32) → (j_X6_keep_84 post M10 x1)) ∧ (¬ (r6 = (5 : Int32)) → (q_X6_get M10 x3 (1 : Int32) (fun r12 M13 => (r12 = 0 → (j_X6_keep_84 post M13 x1)) ∧ (¬ (r12 = 0) → ((r6 = (4 : Int32) → (j_X6_keep_128 post M13 ((100 : Int32) + x3) x1)) ∧ (¬ (r6 = (4 : Int32)) → ((r6 = (7 : Int32) → (q_X6_get M13 x3 (1 : Int32) (fun r17 M18 => q_X6_wearBy M18 r6 r17 (fun r19 M20 => j_X6_keep_128 post M20 ((200 : Int32) + r19) x1)))) ∧ (¬ (r6 = (7 : Int32)) → (j_X6_keep_128 post M13 x3 x1))))))))))))))))
def j_X6_keep_30 (post : Int32 → Mem → Prop) (M : Mem) : Prop := post (-1 : Int32) M
def q_X6_keep (M : Mem) (x1 : Int32) (x2 : Int32) (x3 : Int32) (post : Int32 → Mem → Prop) : Prop := q_X6_isShelf M x1 (fun r21 M22 => (r21 = 0 → (j_X6_keep_30 post M22)) ∧ (¬ (r21 = 0) → (q_X6_isIn M22 x2.toInt64 (0 : Int64) (1 : Int64) (fun r24 M25 => (r24 = 0 → (j_X6_keep_30 post M25)) ∧ (¬ (r24 = 0) → ((x2 = (1 : Int32) → (q_X6_isPiece M25 x3 (fun r28 M29 => (r28 = 0 → (j_X6_keep_30 post M29)) ∧ (¬ (r28 = 0) → (j_X6_keep_32 post M29 x1 x2 x3))))) ∧ (¬ (x2 = (1 : Int32)) → (j_X6_keep_32 post M25 x1 x2 x3))))))))
set_option maxHeartbeats 4000000 in
set_option maxRecDepth 100000 in
theorem t_X6_keep_128 (C : Cx G p s m args meth c RX6 cX6_keep 5 (some .int)) {post : Int32 → Mem → Prop} (M : Mem) (y0 : Int32) (y1 : Int32) {H : Heap} {locs : List Loc} {ls : Array Slot} (w : Wd G s M H locs) (hl : lv_has ls 5 []) (h : j_X6_keep_128 post M y0 y1) : W p l e (rmk 3) s m args below meth c H locs 0 0 (MQ below (va_Qi post (Qw G) (Af G s.heap.size)) args s 0 0 (Af G s.heap.size)) (F0 m 128 ls [.int y0, .int y1, .ref (ga G 67)]) := by
  have hx := C.1.1
  have hb := C.1.2.1
  unfold j_X6_keep_128 at h
  have hin1 := h.1
  replace h := h.2
  have hz_hin1 := in_lt hin1
  refine pw_st C w (i := 67) (by decide) (fun _ => pE_67) hin1 rfl dX6_keep_128 (fun H locs w => ?_)
  obtain ⟨M2, eM2⟩ : ∃ z : Mem, z = (mup M 67 y1.toNatClampNeg y0) := ⟨_, rfl⟩
  replace w : Wd G s M2 H locs := by rw [eM2]; exact w
  replace h := h M2 eM2
  refine lv_iconst (v := 0) hx hb dX6_keep_129 (by decide) ?_
  exact ret_i C w h dX6_keep_130
set_option maxHeartbeats 4000000 in
set_option maxRecDepth 100000 in
theorem t_X6_keep_84 (C : Cx G p s m args meth c RX6 cX6_keep 5 (some .int)) {post : Int32 → Mem → Prop} (M : Mem) (y0 : Int32) {H : Heap} {locs : List Loc} {ls : Array Slot} (w : Wd G s M H locs) (hl : lv_has ls 5 []) (h : j_X6_keep_84 post M y0) : W p l e (rmk 3) s m args below meth c H locs 0 0 (MQ below (va_Qi post (Qw G) (Af G s.heap.size)) args s 0 0 (Af G s.heap.size)) (F0 m 84 ls [.int y0, .ref (ga G 67)]) := by
  have hx := C.1.1
  have hb := C.1.2.1
  unfold j_X6_keep_84 at h
  refine lv_bipush (v := -15) hx hb dX6_keep_84 (by decide) ?_
  refine lv_goto (tgt := 128) hx hb dX6_keep_86 (by decide) ?_
  exact t_X6_keep_128 C M (-15 : Int32) y0  w (lv_sub hl [] rfl) h
set_option maxHeartbeats 4000000 in
set_option maxRecDepth 100000 in
theorem t_X6_keep_32 (C : Cx G p s m args meth c RX6 cX6_keep 5 (some .int)) {post : Int32 → Mem → Prop} (M : Mem) (x1 : Int32) (x2 : Int32) (x3 : Int32) {H : Heap} {locs : List Loc} {ls : Array Slot} (w : Wd G s M H locs) (hl : lv_has ls 5 [(0, .ref (ga G 57)), (1, .int x1), (2, .int x2), (3, .int x3)]) (h : j_X6_keep_32 post M x1 x2 x3) : W p l e (rmk 3) s m args below meth c H locs 0 0 (MQ below (va_Qi post (Qw G) (Af G s.heap.size)) args s 0 0 (Af G s.heap.size)) (F0 m 32 ls []) := by
  have hx := C.1.1
  have hb := C.1.2.1
  unfold j_X6_keep_32 at h
  refine lv_aload_n hx hb dX6_keep_32 rfl (lv_at hl 0 rfl) ?_
  refine gt_6_4 C w kw_5_4 dX6_keep_33 ?_
  refine lv_iload_n hx hb dX6_keep_36 rfl (lv_at hl 1 rfl) ?_
  refine lv_iload_n hx hb dX6_keep_37 rfl (lv_at hl 2 rfl) ?_
  have hin3 := h.1
  replace h := h.2
  have hz_hin3 := in_lt hin3
  refine pw_st C w (i := 62) (by decide) (fun _ => pE_62) hin3 rfl dX6_keep_38 (fun H locs w => ?_)
  obtain ⟨M4, eM4⟩ : ∃ z : Mem, z = (mup M 62 x1.toNatClampNeg x2) := ⟨_, rfl⟩
  replace w : Wd G s M4 H locs := by rw [eM4]; exact w
  replace h := h M4 eM4
  refine lv_iload_n hx hb dX6_keep_39 rfl (lv_at hl 2 rfl) ?_
  refine lv_if_ne (tgt := 45) hx hb dX6_keep_40 (by decide) (fun c5 => ?_) (fun c5 => ?_)
  · replace h := h.2 c5
    refine lv_aload_n hx hb dX6_keep_45 rfl (lv_at hl 0 rfl) ?_
    refine lv_iload_n hx hb dX6_keep_46 rfl (lv_at hl 3 rfl) ?_
    refine lv_iconst (v := 0) hx hb dX6_keep_47 (by decide) ?_
    refine end_i w (run_V (As := [.int x3, .int (0 : Int32)]) C w hl.1 (c_X6_get l G C.2.2.1 _ _ x3 (0 : Int32)  _ h) kw_14_10 kw_1_5 kw_14_7 kw_14_8 kw_14_9 hd_X6_get ⟨by decide, by decide⟩ (w.recv C (i := 57) (by decide) (pE_6) rfl) rfl (Nat.le_of_ble_eq_true rfl) dX6_keep_48) (fun r6 M7 H locs h w => ?_)
    refine lv_istore (lv' := [(4, .int r6), (0, .ref (ga G 57)), (1, .int x1), (2, .int x2), (3, .int x3)]) hx hb dX6_keep_51 hl (by decide) rfl (fun ls hl => ?_)
    refine lv_aload_n hx hb dX6_keep_53 rfl (lv_at hl 1 rfl) ?_
    refine gt_6_8 C w kw_5_8 dX6_keep_54 ?_
    refine lv_iload_n hx hb dX6_keep_57 rfl (lv_at hl 2 rfl) ?_
    refine lv_aload_n hx hb dX6_keep_58 rfl (lv_at hl 1 rfl) ?_
    refine lv_iload_n hx hb dX6_keep_59 rfl (lv_at hl 4 rfl) ?_
    refine end_i w (run_V (As := [.int x3]) C w hl.1 (c_X6_priceOf l G C.2.2.1 _ _ x3  _ h) kw_36_22 kw_1_5 kw_36_19 kw_36_20 kw_36_21 hd_X6_priceOf ⟨by decide, by decide⟩ (w.recv C (i := 57) (by decide) (pE_6) rfl) rfl (Nat.le_of_ble_eq_true rfl) dX6_keep_60) (fun r8 M9 H locs h w => ?_)
    refine pw_st C w (i := 66) (by decide) (fun _ => pE_66) hin3 rfl dX6_keep_63 (fun H locs w => ?_)
    obtain ⟨M10, eM10⟩ : ∃ z : Mem, z = (mup M9 66 x1.toNatClampNeg r8) := ⟨_, rfl⟩
    replace w : Wd G s M10 H locs := by rw [eM10]; exact w
    replace h := h M10 eM10
    refine lv_aload_n hx hb dX6_keep_64 rfl (lv_at hl 1 rfl) ?_
    refine gt_6_9 C w kw_5_9 dX6_keep_65 ?_
    refine lv_iload_n hx hb dX6_keep_68 rfl (lv_at hl 2 rfl) ?_
    refine lv_iload hx hb dX6_keep_69 (lv_at hl 0 rfl) ?_
    refine lv_iconst (v := 5) hx hb dX6_keep_71 (by decide) ?_
    refine lv_icmp_eq (tgt := 84) hx hb dX6_keep_72 (by decide) (fun c11 => ?_) (fun c11 => ?_)
    · replace h := h.1 c11
      exact t_X6_keep_84 C M10 x1  w (lv_sub hl [] rfl) h
    replace h := h.2 c11
    refine lv_aload_n hx hb dX6_keep_75 rfl (lv_at hl 1 rfl) ?_
    refine lv_iload_n hx hb dX6_keep_76 rfl (lv_at hl 4 rfl) ?_
    refine lv_iconst (v := 1) hx hb dX6_keep_77 (by decide) ?_
    refine end_i w (run_V (As := [.int x3, .int (1 : Int32)]) C w hl.1 (c_X6_get l G C.2.2.1 _ _ x3 (1 : Int32)  _ h) kw_14_10 kw_1_5 kw_14_7 kw_14_8 kw_14_9 hd_X6_get ⟨by decide, by decide⟩ (w.recv C (i := 57) (by decide) (pE_6) rfl) rfl (Nat.le_of_ble_eq_true rfl) dX6_keep_78) (fun r12 M13 H locs h w => ?_)
    refine lv_if_ne (tgt := 89) hx hb dX6_keep_81 (by decide) (fun c14 => ?_) (fun c14 => ?_)
    · replace h := h.2 c14
      refine lv_iload hx hb dX6_keep_89 (lv_at hl 0 rfl) ?_
      refine lv_iconst (v := 4) hx hb dX6_keep_91 (by decide) ?_
      refine lv_icmp_ne (tgt := 102) hx hb dX6_keep_92 (by decide) (fun c15 => ?_) (fun c15 => ?_)
      · replace h := h.2 c15
        refine lv_iload hx hb dX6_keep_102 (lv_at hl 0 rfl) ?_
        refine lv_bipush (v := 7) hx hb dX6_keep_104 (by decide) ?_
        refine lv_icmp_ne (tgt := 127) hx hb dX6_keep_106 (by decide) (fun c16 => ?_) (fun c16 => ?_)
        · replace h := h.2 c16
          refine lv_iload_n hx hb dX6_keep_127 rfl (lv_at hl 4 rfl) ?_
          exact t_X6_keep_128 C M13 x3 x1  w (lv_sub hl [] rfl) h
        replace h := h.1 c16
        refine lv_sipush (v := 200) hx hb dX6_keep_109 (by decide) ?_
        refine lv_iload hx hb dX6_keep_112 (lv_at hl 0 rfl) ?_
        refine lv_aload_n hx hb dX6_keep_114 rfl (lv_at hl 1 rfl) ?_
        refine lv_iload_n hx hb dX6_keep_115 rfl (lv_at hl 4 rfl) ?_
        refine lv_iconst (v := 1) hx hb dX6_keep_116 (by decide) ?_
        refine end_i w (run_V (As := [.int x3, .int (1 : Int32)]) C w hl.1 (c_X6_get l G C.2.2.1 _ _ x3 (1 : Int32)  _ h) kw_14_10 kw_1_5 kw_14_7 kw_14_8 kw_14_9 hd_X6_get ⟨by decide, by decide⟩ (w.recv C (i := 57) (by decide) (pE_6) rfl) rfl (Nat.le_of_ble_eq_true rfl) dX6_keep_117) (fun r17 M18 H locs h w => ?_)
        refine end_i w (run_S (As := [.int r6, .int r17]) C w hl.1 (c_X6_wearBy l G C.2.2.1 _ _ r6 r17  _ h) kw_14_22 kw_1_5 kw_14_20 kw_14_21 hd_X6_wearBy ⟨by decide, by decide⟩ rfl (Nat.le_of_ble_eq_true rfl) dX6_keep_120) (fun r19 M20 H locs h w => ?_)
        refine lv_iadd hx hb dX6_keep_123 ?_
        refine lv_goto (tgt := 128) hx hb dX6_keep_124 (by decide) ?_
        exact t_X6_keep_128 C M20 ((200 : Int32) + r19) x1  w (lv_sub hl [] rfl) h
      replace h := h.1 c15
      refine lv_bipush (v := 100) hx hb dX6_keep_95 (by decide) ?_
      refine lv_iload_n hx hb dX6_keep_97 rfl (lv_at hl 4 rfl) ?_
      refine lv_iadd hx hb dX6_keep_98 ?_
      refine lv_goto (tgt := 128) hx hb dX6_keep_99 (by decide) ?_
      exact t_X6_keep_128 C M13 ((100 : Int32) + x3) x1  w (lv_sub hl [] rfl) h
    replace h := h.1 c14
    exact t_X6_keep_84 C M13 x1  w (lv_sub hl [] rfl) h
  replace h := h.1 c5
  refine lv_iconst (v := 0) hx hb dX6_keep_43 (by decide) ?_
  exact ret_i C w h dX6_keep_44
set_option maxHeartbeats 4000000 in
set_option maxRecDepth 100000 in
theorem t_X6_keep_30 (C : Cx G p s m args meth c RX6 cX6_keep 5 (some .int)) {post : Int32 → Mem → Prop} (M : Mem) {H : Heap} {locs : List Loc} {ls : Array Slot} (w : Wd G s M H locs) (hl : lv_has ls 5 []) (h : j_X6_keep_30 post M) : W p l e (rmk 3) s m args below meth c H locs 0 0 (MQ below (va_Qi post (Qw G) (Af G s.heap.size)) args s 0 0 (Af G s.heap.size)) (F0 m 30 ls []) := by
  have hx := C.1.1
  have hb := C.1.2.1
  unfold j_X6_keep_30 at h
  refine lv_iconst (v := -1) hx hb dX6_keep_30 (by decide) ?_
  exact ret_i C w h dX6_keep_31
set_option maxHeartbeats 4000000 in
set_option maxRecDepth 100000 in
theorem c_X6_keep (l : Launch) (G : GG) (hG : Ag G) (sz : Nat) (M : Mem) (x1 : Int32) (x2 : Int32) (x3 : Int32) (post : Int32 → Mem → Prop) (h : q_X6_keep M x1 x2 x3 post) : Met l yX6_keep (Cond.code yX6_keep cX6_keep 5 (some .int) :: wsL_law) (rmk 3) (va_Pc [.ref (ga G 57), .int x1, .int x2, .int x3] (Pw G sz M)) (va_Qi post (Qw G) (Af G sz)) 0 0 (Af G sz) := by
  refine Met.ofW (cc := cX6_keep) (maxL := 5) (ret := (some .int)) (by decide) rfl ?_
  intro p e s m args below meth c s₁ B hml hv
  obtain ⟨rfl, hsz, hE, hP⟩ := hv
  subst hsz
  have C := Cx.of (own := RX6) hG hE rfl hml B
  have w : Wd G s M s.heap [] := ⟨hP, va_S.rf⟩
  have hl := lv_entry [.ref (ga G 57), .int x1, .int x2, .int x3] (n := 5) (Nat.le_of_ble_eq_true rfl)
  rw [lg_entry_eq]
  generalize (lg_sl [.ref (ga G 57), .int x1, .int x2, .int x3] ++ List.replicate (5 - (lg_sl [.ref (ga G 57), .int x1, .int x2, .int x3]).length) Slot.unset).toArray = ls at hl ⊢
  have hl : lv_has ls 5 [(0, .ref (ga G 57)), (1, .int x1), (2, .int x2), (3, .int x3)] := hl
  have hx := C.1.1
  have hb := C.1.2.1
  show W p l e (rmk 3) s m _ below meth c s.heap [] 0 0 _ _
  unfold q_X6_keep at h
  refine lv_iload_n hx hb dX6_keep_0 rfl (lv_at hl 1 rfl) ?_
  refine end_i w (run_S (As := [.int x1]) C w hl.1 (c_X6_isShelf l G C.2.2.1 _ _ x1  _ h) kw_12_1 kw_1_5 kw_11_23 kw_12_0 hd_X6_isShelf ⟨by decide, by decide⟩ rfl (Nat.le_of_ble_eq_true rfl) dX6_keep_1) (fun r21 M22 H locs h w => ?_)
  refine lv_if_eq (tgt := 30) hx hb dX6_keep_4 (by decide) (fun c23 => ?_) (fun c23 => ?_)
  · replace h := h.1 c23
    exact t_X6_keep_30 C M22   w (lv_sub hl [] rfl) h
  replace h := h.2 c23
  refine lv_iload_n hx hb dX6_keep_7 rfl (lv_at hl 2 rfl) ?_
  refine lv_i2l hx hb dX6_keep_8 rfl ?_
  refine lv_lconst (v := 0) hx hb dX6_keep_9 (by decide) ?_
  refine lv_lconst (v := 1) hx hb dX6_keep_10 (by decide) ?_
  refine end_i w (run_S (As := [.long x2.toInt64, .long (0 : Int64), .long (1 : Int64)]) C w hl.1 (c_X6_isIn l G C.2.2.1 _ _ x2.toInt64 (0 : Int64) (1 : Int64)  _ h) kw_12_5 kw_1_5 kw_12_3 kw_12_4 hd_X6_isIn ⟨by decide, by decide⟩ rfl (Nat.le_of_ble_eq_true rfl) dX6_keep_11) (fun r24 M25 H locs h w => ?_)
  refine lv_if_eq (tgt := 30) hx hb dX6_keep_14 (by decide) (fun c26 => ?_) (fun c26 => ?_)
  · replace h := h.1 c26
    exact t_X6_keep_30 C M25   w (lv_sub hl [] rfl) h
  replace h := h.2 c26
  refine lv_iload_n hx hb dX6_keep_17 rfl (lv_at hl 2 rfl) ?_
  refine lv_iconst (v := 1) hx hb dX6_keep_18 (by decide) ?_
  refine lv_icmp_ne (tgt := 32) hx hb dX6_keep_19 (by decide) (fun c27 => ?_) (fun c27 => ?_)
  · replace h := h.2 c27
    exact t_X6_keep_32 C M25 x1 x2 x3  w (lv_sub hl [0, 1, 2, 3] rfl) h
  replace h := h.1 c27
  refine lv_aload_n hx hb dX6_keep_22 rfl (lv_at hl 0 rfl) ?_
  refine lv_iload_n hx hb dX6_keep_23 rfl (lv_at hl 3 rfl) ?_
  refine end_i w (run_V (As := [.int x3]) C w hl.1 (c_X6_isPiece l G C.2.2.1 _ _ x3  _ h) kw_14_6 kw_1_5 kw_14_3 kw_14_4 kw_14_5 hd_X6_isPiece ⟨by decide, by decide⟩ (w.recv C (i := 57) (by decide) (pE_6) rfl) rfl (Nat.le_of_ble_eq_true rfl) dX6_keep_24) (fun r28 M29 H locs h w => ?_)
  refine lv_if_ne (tgt := 32) hx hb dX6_keep_27 (by decide) (fun c30 => ?_) (fun c30 => ?_)
  · replace h := h.2 c30
    exact t_X6_keep_32 C M29 x1 x2 x3  w (lv_sub hl [0, 1, 2, 3] rfl) h
  replace h := h.1 c30
  exact t_X6_keep_30 C M29   w (lv_sub hl [] rfl) h
def b_J7_fill_53178_5 (k5 : Mem → Nat → Int32 → Int32 → Int32 → Prop) (post : Mem → Prop) (M : Mem) (a0 : Nat) (x1 : Int32) (x2 : Int32) (x3 : Int32) : Prop := (x3 ≤ x2 → (post M)) ∧ (¬ (x3 ≤ x2) → (vp_in x2 100 ∧ (∀ M3 : Mem, M3 = (mup M a0 x2.toNatClampNeg x1) → (k5 M3 a0 x1 (x2 + (1 : Int32)) x3))))
def lp_J7_fill_53178_5 (post : Mem → Prop) : Nat → Mem → Nat → Int32 → Int32 → Int32 → Prop
  | 0 => fun _ _ _ _ _ => False
  | n + 1 => fun M a0 x1 x2 x3 => b_J7_fill_53178_5 (lp_J7_fill_53178_5 post n) post M a0 x1 x2 x3
def q_J7_fill_53178 (M : Mem) (a0 : Nat) (x1 : Int32) (post : Mem → Prop) : Prop := ∃ n, lp_J7_fill_53178_5 post n M a0 x1 (0 : Int32) (100 : Int32)
set_option maxHeartbeats 4000000 in
set_option maxRecDepth 100000 in
theorem t_J7_fill_53178_5 (C : Cx G p s m args meth c RJ7 cJ7_fill_53178 4 none) {post : Mem → Prop} : ∀ (n : Nat) (M : Mem) (a0 : Nat) (x1 : Int32) (x2 : Int32) (x3 : Int32) {H : Heap} {locs : List Loc} {ls : Array Slot} (ha0 : 22 ≤ a0 ∧ a0 < 30) (w : Wd G s M H locs) (hl : lv_has ls 4 [(0, .ref (ga G a0)), (1, .int x1), (2, .int x2), (3, .int x3)]) (h : lp_J7_fill_53178_5 post n M a0 x1 x2 x3), W p l e (rmk 1) s m args below meth c H locs 0 0 (MQ below (va_Qv post (Qw G) (Af G s.heap.size)) args s 0 0 (Af G s.heap.size)) (F0 m 5 ls []) := by
  have hx := C.1.1
  have hb := C.1.2.1
  intro n9
  induction n9 with
  | zero => intro M a0 x1 x2 x3 H locs ls ha0 w hl h; exact absurd h id
  | succ n9 ih9 =>
    intro M a0 x1 x2 x3 H locs ls ha0 w hl h
    have hk5 : ∀ (M : Mem) (a0 : Nat) (x1 : Int32) (x2 : Int32) (x3 : Int32) (H : Heap) (locs : List Loc) (ls : Array Slot), (22 ≤ a0 ∧ a0 < 30) → Wd G s M H locs → lv_has ls 4 [(0, .ref (ga G a0)), (1, .int x1), (2, .int x2), (3, .int x3)] → lp_J7_fill_53178_5 post n9 M a0 x1 x2 x3 → W p l e (rmk 1) s m args below meth c H locs 0 0 (MQ below (va_Qv post (Qw G) (Af G s.heap.size)) args s 0 0 (Af G s.heap.size)) (F0 m 5 ls []) := fun M a0 x1 x2 x3 H locs ls ha0 w hl h => ih9 M a0 x1 x2 x3 ha0 w hl h
    replace h : b_J7_fill_53178_5 (lp_J7_fill_53178_5 post n9) post M a0 x1 x2 x3 := h
    unfold b_J7_fill_53178_5 at h
    refine lv_iload_n hx hb dJ7_fill_53178_5 rfl (lv_at hl 2 rfl) ?_
    refine lv_iload_n hx hb dJ7_fill_53178_6 rfl (lv_at hl 3 rfl) ?_
    refine lv_icmp_ge (tgt := 20) hx hb dJ7_fill_53178_7 (by decide) (fun c1 => ?_) (fun c1 => ?_)
    · replace h := h.1 c1
      exact ret_v C w h dJ7_fill_53178_20
    replace h := h.2 c1
    refine lv_aload_n hx hb dJ7_fill_53178_10 rfl (lv_at hl 0 rfl) ?_
    refine lv_iload_n hx hb dJ7_fill_53178_11 rfl (lv_at hl 2 rfl) ?_
    refine lv_iload_n hx hb dJ7_fill_53178_12 rfl (lv_at hl 1 rfl) ?_
    have hin2 := h.1
    replace h := h.2
    have hz_hin2 := in_lt hin2
    refine pw_st C w (i := a0) (by omega) (fun _ => (pE_el ha0)) hin2 rfl dJ7_fill_53178_13 (fun H locs w => ?_)
    obtain ⟨M3, eM3⟩ : ∃ z : Mem, z = (mup M a0 x2.toNatClampNeg x1) := ⟨_, rfl⟩
    replace w : Wd G s M3 H locs := by rw [eM3]; exact w
    replace h := h M3 eM3
    refine lv_iinc (v := (x2 + (1 : Int32))) (lv' := [(2, .int (x2 + (1 : Int32))), (0, .ref (ga G a0)), (1, .int x1), (3, .int x3)]) hx hb dJ7_fill_53178_14 hl (k := 2) rfl rfl (by decide) rfl (fun ls hl => ?_)
    refine lv_goto (tgt := 5) hx hb dJ7_fill_53178_17 (by decide) ?_
    exact hk5 M3 a0 x1 (x2 + (1 : Int32)) x3 _ _ _ ha0 w (lv_sub hl [1, 2, 0, 3] rfl) h
set_option maxHeartbeats 4000000 in
set_option maxRecDepth 100000 in
theorem c_J7_fill_53178 (l : Launch) (G : GG) (hG : Ag G) (sz : Nat) (M : Mem) (a0 : Nat) (x1 : Int32) (ha0 : 22 ≤ a0 ∧ a0 < 30) (post : Mem → Prop) (h : q_J7_fill_53178 M a0 x1 post) : Met l yJ7_fill_53178 (Cond.code yJ7_fill_53178 cJ7_fill_53178 4 none :: wsL_law) (rmk 1) (va_Pc [.ref (ga G a0), .int x1] (Pw G sz M)) (va_Qv post (Qw G) (Af G sz)) 0 0 (Af G sz) := by
  refine Met.ofW (cc := cJ7_fill_53178) (maxL := 4) (ret := none) (by decide) rfl ?_
  intro p e s m args below meth c s₁ B hml hv
  obtain ⟨rfl, hsz, hE, hP⟩ := hv
  subst hsz
  have C := Cx.of (own := RJ7) hG hE rfl hml B
  have w : Wd G s M s.heap [] := ⟨hP, va_S.rf⟩
  have hl := lv_entry [.ref (ga G a0), .int x1] (n := 4) (Nat.le_of_ble_eq_true rfl)
  rw [lg_entry_eq]
  generalize (lg_sl [.ref (ga G a0), .int x1] ++ List.replicate (4 - (lg_sl [.ref (ga G a0), .int x1]).length) Slot.unset).toArray = ls at hl ⊢
  have hl : lv_has ls 4 [(0, .ref (ga G a0)), (1, .int x1)] := hl
  have hx := C.1.1
  have hb := C.1.2.1
  show W p l e (rmk 1) s m _ below meth c s.heap [] 0 0 _ _
  unfold q_J7_fill_53178 at h
  refine lv_iconst (v := 0) hx hb dJ7_fill_53178_0 (by decide) ?_
  refine lv_istore_n (lv' := [(2, .int (0 : Int32)), (0, .ref (ga G a0)), (1, .int x1)]) hx hb dJ7_fill_53178_1 rfl hl (by decide) rfl (fun ls hl => ?_)
  refine lv_aload_n hx hb dJ7_fill_53178_2 rfl (lv_at hl 1 rfl) ?_
  refine pw_len C w (i := a0) (by omega) (pE_el ha0) (v := 100) rfl dJ7_fill_53178_3 ?_
  refine lv_istore_n (lv' := [(3, .int (100 : Int32)), (2, .int (0 : Int32)), (0, .ref (ga G a0)), (1, .int x1)]) hx hb dJ7_fill_53178_4 rfl hl (by decide) rfl (fun ls hl => ?_)
  obtain ⟨n, h⟩ := h
  exact t_J7_fill_53178_5 C n M a0 x1 (0 : Int32) (100 : Int32) ha0 w (lv_sub hl [2, 3, 1, 0] rfl) h
def q_X3_beginRow (M : Mem) (a0 : Nat) (x1 : Int32) (x2 : Int32) (post : Mem → Prop) : Prop := ∀ M1 : Mem, M1 = (mup M a0 0 (2 : Int32)) → (∀ M2 : Mem, M2 = (mup M1 a0 2 x1) → (∀ M3 : Mem, M3 = (mup M2 a0 3 x2) → (q_J7_fill_53178 M3 (8 + a0) (0 : Int32) (fun M5 => post M5))))
set_option maxHeartbeats 4000000 in
set_option maxRecDepth 100000 in
theorem c_X3_beginRow (l : Launch) (G : GG) (hG : Ag G) (sz : Nat) (M : Mem) (a0 : Nat) (x1 : Int32) (x2 : Int32) (ha0 : 14 ≤ a0 ∧ a0 < 22) (post : Mem → Prop) (h : q_X3_beginRow M a0 x1 x2 post) : Met l yX3_beginRow (Cond.code yX3_beginRow cX3_beginRow 3 none :: wsL_law) (rmk 2) (va_Pc [.ref (ga G a0), .int x1, .int x2] (Pw G sz M)) (va_Qv post (Qw G) (Af G sz)) 0 0 (Af G sz) := by
  refine Met.ofW (cc := cX3_beginRow) (maxL := 3) (ret := none) (by decide) rfl ?_
  intro p e s m args below meth c s₁ B hml hv
  obtain ⟨rfl, hsz, hE, hP⟩ := hv
  subst hsz
  have C := Cx.of (own := RX3) hG hE rfl hml B
  have w : Wd G s M s.heap [] := ⟨hP, va_S.rf⟩
  have hl := lv_entry [.ref (ga G a0), .int x1, .int x2] (n := 3) (Nat.le_of_ble_eq_true rfl)
  rw [lg_entry_eq]
  generalize (lg_sl [.ref (ga G a0), .int x1, .int x2] ++ List.replicate (3 - (lg_sl [.ref (ga G a0), .int x1, .int x2]).length) Slot.unset).toArray = ls at hl ⊢
  have hl : lv_has ls 3 [(0, .ref (ga G a0)), (1, .int x1), (2, .int x2)] := hl
  have hx := C.1.1
  have hb := C.1.2.1
  show W p l e (rmk 2) s m _ below meth c s.heap [] 0 0 _ _
  unfold q_X3_beginRow at h
  refine lv_aload_n hx hb dX3_beginRow_0 rfl (lv_at hl 0 rfl) ?_
  refine lv_iconst (v := 2) hx hb dX3_beginRow_1 (by decide) ?_
  refine pt_3_0 C w ha0 kw_4_14 dX3_beginRow_2 (fun H locs w => ?_)
  obtain ⟨M1, eM1⟩ : ∃ z : Mem, z = (mup M a0 0 (2 : Int32)) := ⟨_, rfl⟩
  replace w : Wd G s M1 H locs := by rw [eM1]; exact w
  replace h := h M1 eM1
  refine lv_aload_n hx hb dX3_beginRow_5 rfl (lv_at hl 0 rfl) ?_
  refine lv_iload_n hx hb dX3_beginRow_6 rfl (lv_at hl 1 rfl) ?_
  refine pt_3_2 C w ha0 kw_4_17 dX3_beginRow_7 (fun H locs w => ?_)
  obtain ⟨M2, eM2⟩ : ∃ z : Mem, z = (mup M1 a0 2 x1) := ⟨_, rfl⟩
  replace w : Wd G s M2 H locs := by rw [eM2]; exact w
  replace h := h M2 eM2
  refine lv_aload_n hx hb dX3_beginRow_10 rfl (lv_at hl 0 rfl) ?_
  refine lv_iload_n hx hb dX3_beginRow_11 rfl (lv_at hl 2 rfl) ?_
  refine pt_3_3 C w ha0 kw_4_18 dX3_beginRow_12 (fun H locs w => ?_)
  obtain ⟨M3, eM3⟩ : ∃ z : Mem, z = (mup M2 a0 3 x2) := ⟨_, rfl⟩
  replace w : Wd G s M3 H locs := by rw [eM3]; exact w
  replace h := h M3 eM3
  refine lv_aload_n hx hb dX3_beginRow_15 rfl (lv_at hl 0 rfl) ?_
  refine gt_3_4 C w ha0 kw_4_19 dX3_beginRow_16 ?_
  refine lv_iconst (v := 0) hx hb dX3_beginRow_19 (by decide) ?_
  refine end_v w (run_S (As := [.ref (ga G (8 + a0)), .int (0 : Int32)]) C w hl.1 (c_J7_fill_53178 l G C.2.2.1 _ _ (8 + a0) (0 : Int32) (by omega) _ h) kw_37_9 kw_37_8 kw_37_6 kw_37_7 hd_J7_fill_53178 ⟨by decide, by decide⟩ rfl (Nat.le_of_ble_eq_true rfl) dX3_beginRow_20) (fun M5 H locs h w => ?_)
  exact ret_v C w h dX3_beginRow_23
def j_X5_row_22 (post : Int32 → Mem → Prop) (M : Mem) : Prop := post (-1 : Int32) M
def q_X5_row (M : Mem) (x1 : Int32) (x2 : Int32) (x3 : Int32) (post : Int32 → Mem → Prop) : Prop := q_X5_isShelf M x1 (fun r1 M2 => (r1 = 0 → (j_X5_row_22 post M2)) ∧ (¬ (r1 = 0) → (q_X5_isWithin M2 x2 (0 : Int32) (2 : Int32) (fun r4 M5 => (r4 = 0 → (j_X5_row_22 post M5)) ∧ (¬ (r4 = 0) → ((x3 ≤ (100 : Int32) → ((0 ≤ x3 → (vp_in x1 8 ∧ (q_X3_beginRow M5 (14 + x1.toNatClampNeg) x2 x3 (fun M11 => post (0 : Int32) M11)))) ∧ (¬ (0 ≤ x3) → (post (-14 : Int32) M5)))) ∧ (¬ (x3 ≤ (100 : Int32)) → (j_X5_row_22 post M5))))))))
set_option maxHeartbeats 4000000 in
set_option maxRecDepth 100000 in
theorem t_X5_row_22 (C : Cx G p s m args meth c RX5 cX5_row 4 (some .int)) {post : Int32 → Mem → Prop} (M : Mem) {H : Heap} {locs : List Loc} {ls : Array Slot} (w : Wd G s M H locs) (hl : lv_has ls 4 []) (h : j_X5_row_22 post M) : W p l e (rmk 3) s m args below meth c H locs 0 0 (MQ below (va_Qi post (Qw G) (Af G s.heap.size)) args s 0 0 (Af G s.heap.size)) (F0 m 22 ls []) := by
  have hx := C.1.1
  have hb := C.1.2.1
  unfold j_X5_row_22 at h
  refine lv_iconst (v := -1) hx hb dX5_row_22 (by decide) ?_
  exact ret_i C w h dX5_row_23
set_option maxHeartbeats 4000000 in
set_option maxRecDepth 100000 in
theorem c_X5_row (l : Launch) (G : GG) (hG : Ag G) (sz : Nat) (M : Mem) (x1 : Int32) (x2 : Int32) (x3 : Int32) (post : Int32 → Mem → Prop) (h : q_X5_row M x1 x2 x3 post) : Met l yX5_row (Cond.code yX5_row cX5_row 4 (some .int) :: wsL_law) (rmk 3) (va_Pc [.ref (ga G 0), .int x1, .int x2, .int x3] (Pw G sz M)) (va_Qi post (Qw G) (Af G sz)) 0 0 (Af G sz) := by
  refine Met.ofW (cc := cX5_row) (maxL := 4) (ret := (some .int)) (by decide) rfl ?_
  intro p e s m args below meth c s₁ B hml hv
  obtain ⟨rfl, hsz, hE, hP⟩ := hv
  subst hsz
  have C := Cx.of (own := RX5) hG hE rfl hml B
  have w : Wd G s M s.heap [] := ⟨hP, va_S.rf⟩
  have hl := lv_entry [.ref (ga G 0), .int x1, .int x2, .int x3] (n := 4) (Nat.le_of_ble_eq_true rfl)
  rw [lg_entry_eq]
  generalize (lg_sl [.ref (ga G 0), .int x1, .int x2, .int x3] ++ List.replicate (4 - (lg_sl [.ref (ga G 0), .int x1, .int x2, .int x3]).length) Slot.unset).toArray = ls at hl ⊢
  have hl : lv_has ls 4 [(0, .ref (ga G 0)), (1, .int x1), (2, .int x2), (3, .int x3)] := hl
  have hx := C.1.1
  have hb := C.1.2.1
  show W p l e (rmk 3) s m _ below meth c s.heap [] 0 0 _ _
  unfold q_X5_row at h
  refine lv_iload_n hx hb dX5_row_0 rfl (lv_at hl 1 rfl) ?_
  refine end_i w (run_S (As := [.int x1]) C w hl.1 (c_X5_isShelf l G C.2.2.1 _ _ x1  _ h) kw_6_5 kw_1_2 kw_6_3 kw_6_4 hd_X5_isShelf ⟨by decide, by decide⟩ rfl (Nat.le_of_ble_eq_true rfl) dX5_row_1) (fun r1 M2 H locs h w => ?_)
  refine lv_if_eq (tgt := 22) hx hb dX5_row_4 (by decide) (fun c3 => ?_) (fun c3 => ?_)
  · replace h := h.1 c3
    exact t_X5_row_22 C M2   w (lv_sub hl [] rfl) h
  replace h := h.2 c3
  refine lv_iload_n hx hb dX5_row_7 rfl (lv_at hl 2 rfl) ?_
  refine lv_iconst (v := 0) hx hb dX5_row_8 (by decide) ?_
  refine lv_iconst (v := 2) hx hb dX5_row_9 (by decide) ?_
  refine end_i w (run_S (As := [.int x2, .int (0 : Int32), .int (2 : Int32)]) C w hl.1 (c_X5_isWithin l G C.2.2.1 _ _ x2 (0 : Int32) (2 : Int32)  _ h) kw_6_8 kw_1_2 kw_6_6 kw_6_7 hd_X5_isWithin ⟨by decide, by decide⟩ rfl (Nat.le_of_ble_eq_true rfl) dX5_row_10) (fun r4 M5 H locs h w => ?_)
  refine lv_if_eq (tgt := 22) hx hb dX5_row_13 (by decide) (fun c6 => ?_) (fun c6 => ?_)
  · replace h := h.1 c6
    exact t_X5_row_22 C M5   w (lv_sub hl [] rfl) h
  replace h := h.2 c6
  refine lv_iload_n hx hb dX5_row_16 rfl (lv_at hl 3 rfl) ?_
  refine lv_bipush (v := 100) hx hb dX5_row_17 (by decide) ?_
  refine lv_icmp_le (tgt := 24) hx hb dX5_row_19 (by decide) (fun c7 => ?_) (fun c7 => ?_)
  · replace h := h.1 c7
    refine lv_iload_n hx hb dX5_row_24 rfl (lv_at hl 3 rfl) ?_
    refine lv_if_ge (tgt := 31) hx hb dX5_row_25 (by decide) (fun c8 => ?_) (fun c8 => ?_)
    · replace h := h.1 c8
      refine lv_aload_n hx hb dX5_row_31 rfl (lv_at hl 0 rfl) ?_
      refine gt_5_6 C w kw_2_8 dX5_row_32 ?_
      refine lv_iload_n hx hb dX5_row_35 rfl (lv_at hl 1 rfl) ?_
      have hin9 := h.1
      replace h := h.2
      have hz_hin9 := in_lt hin9
      refine pw_ldS C w hin9 rfl dX5_row_36 ?_
      refine lv_iload_n hx hb dX5_row_37 rfl (lv_at hl 2 rfl) ?_
      refine lv_iload_n hx hb dX5_row_38 rfl (lv_at hl 3 rfl) ?_
      refine end_v w (run_VN (As := [.int x2, .int x3]) C w hl.1 (c_X3_beginRow l G C.2.2.1 _ _ (14 + x1.toNatClampNeg) x2 x3 (by omega) _ h) kw_37_5 kw_2_11 kn_83 kw_37_3 kw_37_4 hd_X3_beginRow ⟨by decide, by decide⟩ (w.recv C (i := (14 + x1.toNatClampNeg)) (by omega) (pE_3 (by omega)) rfl) rfl (Nat.le_of_ble_eq_true rfl) dX5_row_39) (fun M11 H locs h w => ?_)
      refine lv_iconst (v := 0) hx hb dX5_row_42 (by decide) ?_
      exact ret_i C w h dX5_row_43
    replace h := h.2 c8
    refine lv_bipush (v := -14) hx hb dX5_row_28 (by decide) ?_
    exact ret_i C w h dX5_row_30
  replace h := h.2 c7
  exact t_X5_row_22 C M5   w (lv_sub hl [] rfl) h
def b_X6_row_58 (k58 : Mem → Int32 → Int32 → Prop) (post : Int32 → Mem → Prop) (M : Mem) (x1 : Int32) (x4 : Int32) : Prop := ((100 : Int32) ≤ x4 → (post (0 : Int32) M)) ∧ (¬ ((100 : Int32) ≤ x4) → (vp_in (((100 : Int32) * x1) + x4) 800 ∧ (∀ M3 : Mem, M3 = (mup M 65 (((100 : Int32) * x1) + x4).toNatClampNeg (0 : Int32)) → (k58 M3 x1 (x4 + (1 : Int32))))))
def lp_X6_row_58 (post : Int32 → Mem → Prop) : Nat → Mem → Int32 → Int32 → Prop
  | 0 => fun _ _ _ => False
  | n + 1 => fun M x1 x4 => b_X6_row_58 (lp_X6_row_58 post n) post M x1 x4
def j_X6_row_25 (post : Int32 → Mem → Prop) (M : Mem) : Prop := post (-1 : Int32) M
def q_X6_row (M : Mem) (x1 : Int32) (x2 : Int32) (x3 : Int32) (post : Int32 → Mem → Prop) : Prop := q_X6_isShelf M x1 (fun r4 M5 => (r4 = 0 → (j_X6_row_25 post M5)) ∧ (¬ (r4 = 0) → (q_X6_isIn M5 x2.toInt64 (0 : Int64) (2 : Int64) (fun r7 M8 => (r7 = 0 → (j_X6_row_25 post M8)) ∧ (¬ (r7 = 0) → ((x3 ≤ (100 : Int32) → ((0 ≤ x3 → (vp_in x1 8 ∧ (∀ M13 : Mem, M13 = (mup M8 62 x1.toNatClampNeg (2 : Int32)) → (∀ M14 : Mem, M14 = (mup M13 63 x1.toNatClampNeg x2) → (∀ M15 : Mem, M15 = (mup M14 64 x1.toNatClampNeg x3) → (∃ n, lp_X6_row_58 post n M15 x1 (0 : Int32))))))) ∧ (¬ (0 ≤ x3) → (post (-14 : Int32) M8)))) ∧ (¬ (x3 ≤ (100 : Int32)) → (j_X6_row_25 post M8))))))))
set_option maxHeartbeats 4000000 in
set_option maxRecDepth 100000 in
theorem t_X6_row_58 (C : Cx G p s m args meth c RX6 cX6_row 5 (some .int)) {post : Int32 → Mem → Prop} : ∀ (n : Nat) (M : Mem) (x1 : Int32) (x4 : Int32) {H : Heap} {locs : List Loc} {ls : Array Slot} (w : Wd G s M H locs) (hl : lv_has ls 5 [(0, .ref (ga G 57)), (1, .int x1), (4, .int x4)]) (h : lp_X6_row_58 post n M x1 x4), W p l e (rmk 3) s m args below meth c H locs 0 0 (MQ below (va_Qi post (Qw G) (Af G s.heap.size)) args s 0 0 (Af G s.heap.size)) (F0 m 58 ls []) := by
  have hx := C.1.1
  have hb := C.1.2.1
  intro n9
  induction n9 with
  | zero => intro M x1 x4 H locs ls w hl h; exact absurd h id
  | succ n9 ih9 =>
    intro M x1 x4 H locs ls w hl h
    have hk58 : ∀ (M : Mem) (x1 : Int32) (x4 : Int32) (H : Heap) (locs : List Loc) (ls : Array Slot), Wd G s M H locs → lv_has ls 5 [(0, .ref (ga G 57)), (1, .int x1), (4, .int x4)] → lp_X6_row_58 post n9 M x1 x4 → W p l e (rmk 3) s m args below meth c H locs 0 0 (MQ below (va_Qi post (Qw G) (Af G s.heap.size)) args s 0 0 (Af G s.heap.size)) (F0 m 58 ls []) := fun M x1 x4 H locs ls w hl h => ih9 M x1 x4 w hl h
    replace h : b_X6_row_58 (lp_X6_row_58 post n9) post M x1 x4 := h
    unfold b_X6_row_58 at h
    refine lv_iload hx hb dX6_row_58 (lv_at hl 2 rfl) ?_
    refine lv_bipush (v := 100) hx hb dX6_row_60 (by decide) ?_
    refine lv_icmp_ge (tgt := 84) hx hb dX6_row_62 (by decide) (fun c1 => ?_) (fun c1 => ?_)
    · replace h := h.1 c1
      refine lv_iconst (v := 0) hx hb dX6_row_84 (by decide) ?_
      exact ret_i C w h dX6_row_85
    replace h := h.2 c1
    refine lv_aload_n hx hb dX6_row_65 rfl (lv_at hl 0 rfl) ?_
    refine gt_6_7 C w kw_5_7 dX6_row_66 ?_
    refine lv_bipush (v := 100) hx hb dX6_row_69 (by decide) ?_
    refine lv_iload_n hx hb dX6_row_71 rfl (lv_at hl 1 rfl) ?_
    refine lv_imul hx hb dX6_row_72 ?_
    refine lv_iload hx hb dX6_row_73 (lv_at hl 2 rfl) ?_
    refine lv_iadd hx hb dX6_row_75 ?_
    refine lv_iconst (v := 0) hx hb dX6_row_76 (by decide) ?_
    have hin2 := h.1
    replace h := h.2
    have hz_hin2 := in_lt hin2
    refine pw_st C w (i := 65) (by decide) (fun _ => pE_65) hin2 rfl dX6_row_77 (fun H locs w => ?_)
    obtain ⟨M3, eM3⟩ : ∃ z : Mem, z = (mup M 65 (((100 : Int32) * x1) + x4).toNatClampNeg (0 : Int32)) := ⟨_, rfl⟩
    replace w : Wd G s M3 H locs := by rw [eM3]; exact w
    replace h := h M3 eM3
    refine lv_iinc (v := (x4 + (1 : Int32))) (lv' := [(4, .int (x4 + (1 : Int32))), (0, .ref (ga G 57)), (1, .int x1)]) hx hb dX6_row_78 hl (k := 2) rfl rfl (by decide) rfl (fun ls hl => ?_)
    refine lv_goto (tgt := 58) hx hb dX6_row_81 (by decide) ?_
    exact hk58 M3 x1 (x4 + (1 : Int32)) _ _ _  w (lv_sub hl [1, 2, 0] rfl) h
set_option maxHeartbeats 4000000 in
set_option maxRecDepth 100000 in
theorem t_X6_row_25 (C : Cx G p s m args meth c RX6 cX6_row 5 (some .int)) {post : Int32 → Mem → Prop} (M : Mem) {H : Heap} {locs : List Loc} {ls : Array Slot} (w : Wd G s M H locs) (hl : lv_has ls 5 []) (h : j_X6_row_25 post M) : W p l e (rmk 3) s m args below meth c H locs 0 0 (MQ below (va_Qi post (Qw G) (Af G s.heap.size)) args s 0 0 (Af G s.heap.size)) (F0 m 25 ls []) := by
  have hx := C.1.1
  have hb := C.1.2.1
  unfold j_X6_row_25 at h
  refine lv_iconst (v := -1) hx hb dX6_row_25 (by decide) ?_
  exact ret_i C w h dX6_row_26
set_option maxHeartbeats 4000000 in
set_option maxRecDepth 100000 in
theorem c_X6_row (l : Launch) (G : GG) (hG : Ag G) (sz : Nat) (M : Mem) (x1 : Int32) (x2 : Int32) (x3 : Int32) (post : Int32 → Mem → Prop) (h : q_X6_row M x1 x2 x3 post) : Met l yX6_row (Cond.code yX6_row cX6_row 5 (some .int) :: wsL_law) (rmk 3) (va_Pc [.ref (ga G 57), .int x1, .int x2, .int x3] (Pw G sz M)) (va_Qi post (Qw G) (Af G sz)) 0 0 (Af G sz) := by
  refine Met.ofW (cc := cX6_row) (maxL := 5) (ret := (some .int)) (by decide) rfl ?_
  intro p e s m args below meth c s₁ B hml hv
  obtain ⟨rfl, hsz, hE, hP⟩ := hv
  subst hsz
  have C := Cx.of (own := RX6) hG hE rfl hml B
  have w : Wd G s M s.heap [] := ⟨hP, va_S.rf⟩
  have hl := lv_entry [.ref (ga G 57), .int x1, .int x2, .int x3] (n := 5) (Nat.le_of_ble_eq_true rfl)
  rw [lg_entry_eq]
  generalize (lg_sl [.ref (ga G 57), .int x1, .int x2, .int x3] ++ List.replicate (5 - (lg_sl [.ref (ga G 57), .int x1, .int x2, .int x3]).length) Slot.unset).toArray = ls at hl ⊢
  have hl : lv_has ls 5 [(0, .ref (ga G 57)), (1, .int x1), (2, .int x2), (3, .int x3)] := hl
  have hx := C.1.1
  have hb := C.1.2.1
  show W p l e (rmk 3) s m _ below meth c s.heap [] 0 0 _ _
  unfold q_X6_row at h
  refine lv_iload_n hx hb dX6_row_0 rfl (lv_at hl 1 rfl) ?_
  refine end_i w (run_S (As := [.int x1]) C w hl.1 (c_X6_isShelf l G C.2.2.1 _ _ x1  _ h) kw_12_1 kw_1_5 kw_11_23 kw_12_0 hd_X6_isShelf ⟨by decide, by decide⟩ rfl (Nat.le_of_ble_eq_true rfl) dX6_row_1) (fun r4 M5 H locs h w => ?_)
  refine lv_if_eq (tgt := 25) hx hb dX6_row_4 (by decide) (fun c6 => ?_) (fun c6 => ?_)
  · replace h := h.1 c6
    exact t_X6_row_25 C M5   w (lv_sub hl [] rfl) h
  replace h := h.2 c6
  refine lv_iload_n hx hb dX6_row_7 rfl (lv_at hl 2 rfl) ?_
  refine lv_i2l hx hb dX6_row_8 rfl ?_
  refine lv_lconst (v := 0) hx hb dX6_row_9 (by decide) ?_
  refine lv_ldc2 hx hb C.1.2.2.2.1 (C.ws kw_23_18) dX6_row_10 ?_
  refine end_i w (run_S (As := [.long x2.toInt64, .long (0 : Int64), .long (2 : Int64)]) C w hl.1 (c_X6_isIn l G C.2.2.1 _ _ x2.toInt64 (0 : Int64) (2 : Int64)  _ h) kw_12_5 kw_1_5 kw_12_3 kw_12_4 hd_X6_isIn ⟨by decide, by decide⟩ rfl (Nat.le_of_ble_eq_true rfl) dX6_row_13) (fun r7 M8 H locs h w => ?_)
  refine lv_if_eq (tgt := 25) hx hb dX6_row_16 (by decide) (fun c9 => ?_) (fun c9 => ?_)
  · replace h := h.1 c9
    exact t_X6_row_25 C M8   w (lv_sub hl [] rfl) h
  replace h := h.2 c9
  refine lv_iload_n hx hb dX6_row_19 rfl (lv_at hl 3 rfl) ?_
  refine lv_bipush (v := 100) hx hb dX6_row_20 (by decide) ?_
  refine lv_icmp_le (tgt := 27) hx hb dX6_row_22 (by decide) (fun c10 => ?_) (fun c10 => ?_)
  · replace h := h.1 c10
    refine lv_iload_n hx hb dX6_row_27 rfl (lv_at hl 3 rfl) ?_
    refine lv_if_ge (tgt := 34) hx hb dX6_row_28 (by decide) (fun c11 => ?_) (fun c11 => ?_)
    · replace h := h.1 c11
      refine lv_aload_n hx hb dX6_row_34 rfl (lv_at hl 0 rfl) ?_
      refine gt_6_4 C w kw_5_4 dX6_row_35 ?_
      refine lv_iload_n hx hb dX6_row_38 rfl (lv_at hl 1 rfl) ?_
      refine lv_iconst (v := 2) hx hb dX6_row_39 (by decide) ?_
      have hin12 := h.1
      replace h := h.2
      have hz_hin12 := in_lt hin12
      refine pw_st C w (i := 62) (by decide) (fun _ => pE_62) hin12 rfl dX6_row_40 (fun H locs w => ?_)
      obtain ⟨M13, eM13⟩ : ∃ z : Mem, z = (mup M8 62 x1.toNatClampNeg (2 : Int32)) := ⟨_, rfl⟩
      replace w : Wd G s M13 H locs := by rw [eM13]; exact w
      replace h := h M13 eM13
      refine lv_aload_n hx hb dX6_row_41 rfl (lv_at hl 0 rfl) ?_
      refine gt_6_5 C w kw_5_5 dX6_row_42 ?_
      refine lv_iload_n hx hb dX6_row_45 rfl (lv_at hl 1 rfl) ?_
      refine lv_iload_n hx hb dX6_row_46 rfl (lv_at hl 2 rfl) ?_
      refine pw_st C w (i := 63) (by decide) (fun _ => pE_63) hin12 rfl dX6_row_47 (fun H locs w => ?_)
      obtain ⟨M14, eM14⟩ : ∃ z : Mem, z = (mup M13 63 x1.toNatClampNeg x2) := ⟨_, rfl⟩
      replace w : Wd G s M14 H locs := by rw [eM14]; exact w
      replace h := h M14 eM14
      refine lv_aload_n hx hb dX6_row_48 rfl (lv_at hl 0 rfl) ?_
      refine gt_6_6 C w kw_5_6 dX6_row_49 ?_
      refine lv_iload_n hx hb dX6_row_52 rfl (lv_at hl 1 rfl) ?_
      refine lv_iload_n hx hb dX6_row_53 rfl (lv_at hl 3 rfl) ?_
      refine pw_st C w (i := 64) (by decide) (fun _ => pE_64) hin12 rfl dX6_row_54 (fun H locs w => ?_)
      obtain ⟨M15, eM15⟩ : ∃ z : Mem, z = (mup M14 64 x1.toNatClampNeg x3) := ⟨_, rfl⟩
      replace w : Wd G s M15 H locs := by rw [eM15]; exact w
      replace h := h M15 eM15
      refine lv_iconst (v := 0) hx hb dX6_row_55 (by decide) ?_
      refine lv_istore (lv' := [(4, .int (0 : Int32)), (0, .ref (ga G 57)), (1, .int x1), (2, .int x2), (3, .int x3)]) hx hb dX6_row_56 hl (by decide) rfl (fun ls hl => ?_)
      obtain ⟨n, h⟩ := h
      exact t_X6_row_58 C n M15 x1 (0 : Int32)  w (lv_sub hl [1, 2, 0] rfl) h
    replace h := h.2 c11
    refine lv_bipush (v := -14) hx hb dX6_row_31 (by decide) ?_
    exact ret_i C w h dX6_row_33
  replace h := h.2 c10
  exact t_X6_row_25 C M8   w (lv_sub hl [] rfl) h
def j_X3_putLowestBits_61 (post : Mem → Prop) (M : Mem) : Prop := post M
def q_X3_putLowestBits (M : Mem) (a0 : Nat) (x1 : Int32) (x2 : Int32) (post : Mem → Prop) : Prop := ((M a0 2) = (0 : Int32) → (vp_in x1 100 ∧ (∀ M3 : Mem, M3 = (mup M (8 + a0) x1.toNatClampNeg x2.toInt8.toInt32) → (j_X3_putLowestBits_61 post M3)))) ∧ (¬ (M a0 2) = (0 : Int32) → (((M a0 2) = (1 : Int32) → (vp_in x1 100 ∧ (∀ M6 : Mem, M6 = (mup M (8 + a0) x1.toNatClampNeg x2.toInt16.toInt32) → (j_X3_putLowestBits_61 post M6)))) ∧ (¬ (M a0 2) = (1 : Int32) → (vp_in x1 100 ∧ (∀ M8 : Mem, M8 = (mup M (8 + a0) x1.toNatClampNeg x2) → (j_X3_putLowestBits_61 post M8))))))
set_option maxHeartbeats 4000000 in
set_option maxRecDepth 100000 in
theorem t_X3_putLowestBits_61 (C : Cx G p s m args meth c RX3 cX3_putLowestBits 3 none) {post : Mem → Prop} (M : Mem) {H : Heap} {locs : List Loc} {ls : Array Slot} (w : Wd G s M H locs) (hl : lv_has ls 3 []) (h : j_X3_putLowestBits_61 post M) : W p l e (rmk 1) s m args below meth c H locs 0 0 (MQ below (va_Qv post (Qw G) (Af G s.heap.size)) args s 0 0 (Af G s.heap.size)) (F0 m 61 ls []) := by
  have hx := C.1.1
  have hb := C.1.2.1
  unfold j_X3_putLowestBits_61 at h
  exact ret_v C w h dX3_putLowestBits_61
set_option maxHeartbeats 4000000 in
set_option maxRecDepth 100000 in
theorem c_X3_putLowestBits (l : Launch) (G : GG) (hG : Ag G) (sz : Nat) (M : Mem) (a0 : Nat) (x1 : Int32) (x2 : Int32) (ha0 : 14 ≤ a0 ∧ a0 < 22) (post : Mem → Prop) (h : q_X3_putLowestBits M a0 x1 x2 post) : Met l yX3_putLowestBits (Cond.code yX3_putLowestBits cX3_putLowestBits 3 none :: wsL_law) (rmk 1) (va_Pc [.ref (ga G a0), .int x1, .int x2] (Pw G sz M)) (va_Qv post (Qw G) (Af G sz)) 0 0 (Af G sz) := by
  refine Met.ofW (cc := cX3_putLowestBits) (maxL := 3) (ret := none) (by decide) rfl ?_
  intro p e s m args below meth c s₁ B hml hv
  obtain ⟨rfl, hsz, hE, hP⟩ := hv
  subst hsz
  have C := Cx.of (own := RX3) hG hE rfl hml B
  have w : Wd G s M s.heap [] := ⟨hP, va_S.rf⟩
  have hl := lv_entry [.ref (ga G a0), .int x1, .int x2] (n := 3) (Nat.le_of_ble_eq_true rfl)
  rw [lg_entry_eq]
  generalize (lg_sl [.ref (ga G a0), .int x1, .int x2] ++ List.replicate (3 - (lg_sl [.ref (ga G a0), .int x1, .int x2]).length) Slot.unset).toArray = ls at hl ⊢
  have hl : lv_has ls 3 [(0, .ref (ga G a0)), (1, .int x1), (2, .int x2)] := hl
  have hx := C.1.1
  have hb := C.1.2.1
  show W p l e (rmk 1) s m _ below meth c s.heap [] 0 0 _ _
  unfold q_X3_putLowestBits at h
  refine lv_aload_n hx hb dX3_putLowestBits_0 rfl (lv_at hl 0 rfl) ?_
  refine gt_3_2 C w ha0 kw_4_17 dX3_putLowestBits_1 ?_
  by_cases c1 : (M a0 2) = (0 : Int32)
  · replace h := h.1 c1
    refine lv_lookup (off := 28) (tgt := 32) hx hb dX3_putLowestBits_4 (by decide) (by rw [c1]; decide) (by decide) ?_
    refine lv_aload_n hx hb dX3_putLowestBits_32 rfl (lv_at hl 0 rfl) ?_
    refine gt_3_4 C w ha0 kw_4_19 dX3_putLowestBits_33 ?_
    refine lv_iload_n hx hb dX3_putLowestBits_36 rfl (lv_at hl 1 rfl) ?_
    refine lv_iload_n hx hb dX3_putLowestBits_37 rfl (lv_at hl 2 rfl) ?_
    refine lv_i2b hx hb dX3_putLowestBits_38 rfl ?_
    have hin2 := h.1
    replace h := h.2
    have hz_hin2 := in_lt hin2
    refine pw_st C w (i := (8 + a0)) (by omega) (fun _ => (pE_el (by omega))) hin2 rfl dX3_putLowestBits_39 (fun H locs w => ?_)
    obtain ⟨M3, eM3⟩ : ∃ z : Mem, z = (mup M (8 + a0) x1.toNatClampNeg x2.toInt8.toInt32) := ⟨_, rfl⟩
    replace w : Wd G s M3 H locs := by rw [eM3]; exact w
    replace h := h M3 eM3
    refine lv_goto (tgt := 61) hx hb dX3_putLowestBits_40 (by decide) ?_
    exact t_X3_putLowestBits_61 C M3   w (lv_sub hl [] rfl) h
  replace h := h.2 c1
  by_cases c4 : (M a0 2) = (1 : Int32)
  · replace h := h.1 c4
    refine lv_lookup (off := 39) (tgt := 43) hx hb dX3_putLowestBits_4 (by decide) (by rw [c4]; decide) (by decide) ?_
    refine lv_aload_n hx hb dX3_putLowestBits_43 rfl (lv_at hl 0 rfl) ?_
    refine gt_3_4 C w ha0 kw_4_19 dX3_putLowestBits_44 ?_
    refine lv_iload_n hx hb dX3_putLowestBits_47 rfl (lv_at hl 1 rfl) ?_
    refine lv_iload_n hx hb dX3_putLowestBits_48 rfl (lv_at hl 2 rfl) ?_
    refine lv_i2s hx hb dX3_putLowestBits_49 rfl ?_
    have hin5 := h.1
    replace h := h.2
    have hz_hin5 := in_lt hin5
    refine pw_st C w (i := (8 + a0)) (by omega) (fun _ => (pE_el (by omega))) hin5 rfl dX3_putLowestBits_50 (fun H locs w => ?_)
    obtain ⟨M6, eM6⟩ : ∃ z : Mem, z = (mup M (8 + a0) x1.toNatClampNeg x2.toInt16.toInt32) := ⟨_, rfl⟩
    replace w : Wd G s M6 H locs := by rw [eM6]; exact w
    replace h := h M6 eM6
    refine lv_goto (tgt := 61) hx hb dX3_putLowestBits_51 (by decide) ?_
    exact t_X3_putLowestBits_61 C M6   w (lv_sub hl [] rfl) h
  replace h := h.2 c4
  refine lv_lookup (off := 50) (tgt := 54) hx hb dX3_putLowestBits_4 (by decide) ((lv_osw c1 (by decide)).trans ((lv_osw c4 (by decide)).trans rfl)) (by decide) ?_
  refine lv_aload_n hx hb dX3_putLowestBits_54 rfl (lv_at hl 0 rfl) ?_
  refine gt_3_4 C w ha0 kw_4_19 dX3_putLowestBits_55 ?_
  refine lv_iload_n hx hb dX3_putLowestBits_58 rfl (lv_at hl 1 rfl) ?_
  refine lv_iload_n hx hb dX3_putLowestBits_59 rfl (lv_at hl 2 rfl) ?_
  have hin7 := h.1
  replace h := h.2
  have hz_hin7 := in_lt hin7
  refine pw_st C w (i := (8 + a0)) (by omega) (fun _ => (pE_el (by omega))) hin7 rfl dX3_putLowestBits_60 (fun H locs w => ?_)
  obtain ⟨M8, eM8⟩ : ∃ z : Mem, z = (mup M (8 + a0) x1.toNatClampNeg x2) := ⟨_, rfl⟩
  replace w : Wd G s M8 H locs := by rw [eM8]; exact w
  replace h := h M8 eM8
  exact t_X3_putLowestBits_61 C M8   w (lv_sub hl [] rfl) h
def q_X5_put (M : Mem) (x1 : Int32) (x2 : Int32) (x3 : Int32) (post : Int32 → Mem → Prop) : Prop := q_X5_refusalOfRow M x1 (fun r1 M2 => (0 ≤ r1 → (vp_in x1 8 ∧ (q_X3_hasPlace M2 (14 + x1.toNatClampNeg) x2 (fun r5 M6 => (r5 = 0 → (post (-13 : Int32) M6)) ∧ (¬ (r5 = 0) → (q_X3_putLowestBits M6 (14 + x1.toNatClampNeg) x2 x3 (fun M9 => post (0 : Int32) M9))))))) ∧ (¬ (0 ≤ r1) → (post r1 M2)))
set_option maxHeartbeats 4000000 in
set_option maxRecDepth 100000 in
theorem c_X5_put (l : Launch) (G : GG) (hG : Ag G) (sz : Nat) (M : Mem) (x1 : Int32) (x2 : Int32) (x3 : Int32) (post : Int32 → Mem → Prop) (h : q_X5_put M x1 x2 x3 post) : Met l yX5_put (Cond.code yX5_put cX5_put 5 (some .int) :: wsL_law) (rmk 5) (va_Pc [.ref (ga G 0), .int x1, .int x2, .int x3] (Pw G sz M)) (va_Qi post (Qw G) (Af G sz)) 0 0 (Af G sz) := by
  refine Met.ofW (cc := cX5_put) (maxL := 5) (ret := (some .int)) (by decide) rfl ?_
  intro p e s m args below meth c s₁ B hml hv
  obtain ⟨rfl, hsz, hE, hP⟩ := hv
  subst hsz
  have C := Cx.of (own := RX5) hG hE rfl hml B
  have w : Wd G s M s.heap [] := ⟨hP, va_S.rf⟩
  have hl := lv_entry [.ref (ga G 0), .int x1, .int x2, .int x3] (n := 5) (Nat.le_of_ble_eq_true rfl)
  rw [lg_entry_eq]
  generalize (lg_sl [.ref (ga G 0), .int x1, .int x2, .int x3] ++ List.replicate (5 - (lg_sl [.ref (ga G 0), .int x1, .int x2, .int x3]).length) Slot.unset).toArray = ls at hl ⊢
  have hl : lv_has ls 5 [(0, .ref (ga G 0)), (1, .int x1), (2, .int x2), (3, .int x3)] := hl
  have hx := C.1.1
  have hb := C.1.2.1
  show W p l e (rmk 5) s m _ below meth c s.heap [] 0 0 _ _
  unfold q_X5_put at h
  refine lv_aload_n hx hb dX5_put_0 rfl (lv_at hl 0 rfl) ?_
  refine lv_iload_n hx hb dX5_put_1 rfl (lv_at hl 1 rfl) ?_
  refine end_i w (run_V (As := [.int x1]) C w hl.1 (c_X5_refusalOfRow l G C.2.2.1 _ _ x1  _ h) kw_5_22 kw_1_2 kw_5_19 kw_5_20 kw_5_21 hd_X5_refusalOfRow ⟨by decide, by decide⟩ (w.recv C (i := 0) (by decide) (pE_5) rfl) rfl (Nat.le_of_ble_eq_true rfl) dX5_put_2) (fun r1 M2 H locs h w => ?_)
  refine lv_istore (lv' := [(4, .int r1), (0, .ref (ga G 0)), (1, .int x1), (2, .int x2), (3, .int x3)]) hx hb dX5_put_5 hl (by decide) rfl (fun ls hl => ?_)
  refine lv_iload hx hb dX5_put_7 (lv_at hl 0 rfl) ?_
  refine lv_if_ge (tgt := 15) hx hb dX5_put_9 (by decide) (fun c3 => ?_) (fun c3 => ?_)
  · replace h := h.1 c3
    refine lv_aload_n hx hb dX5_put_15 rfl (lv_at hl 1 rfl) ?_
    refine gt_5_6 C w kw_2_8 dX5_put_16 ?_
    refine lv_iload_n hx hb dX5_put_19 rfl (lv_at hl 2 rfl) ?_
    have hin4 := h.1
    replace h := h.2
    have hz_hin4 := in_lt hin4
    refine pw_ldS C w hin4 rfl dX5_put_20 ?_
    refine lv_iload_n hx hb dX5_put_21 rfl (lv_at hl 3 rfl) ?_
    refine end_i w (run_VN (As := [.int x2]) C w hl.1 (c_X3_hasPlace l G C.2.2.1 _ _ (14 + x1.toNatClampNeg) x2 (by omega) _ h) kw_7_8 kw_2_11 kn_84 kw_7_6 kw_7_7 hd_X3_hasPlace ⟨by decide, by decide⟩ (w.recv C (i := (14 + x1.toNatClampNeg)) (by omega) (pE_3 (by omega)) rfl) rfl (Nat.le_of_ble_eq_true rfl) dX5_put_22) (fun r5 M6 H locs h w => ?_)
    refine lv_if_ne (tgt := 31) hx hb dX5_put_25 (by decide) (fun c7 => ?_) (fun c7 => ?_)
    · replace h := h.2 c7
      refine lv_aload_n hx hb dX5_put_31 rfl (lv_at hl 1 rfl) ?_
      refine gt_5_6 C w kw_2_8 dX5_put_32 ?_
      refine lv_iload_n hx hb dX5_put_35 rfl (lv_at hl 2 rfl) ?_
      refine pw_ldS C w hin4 rfl dX5_put_36 ?_
      refine lv_iload_n hx hb dX5_put_37 rfl (lv_at hl 3 rfl) ?_
      refine lv_iload_n hx hb dX5_put_38 rfl (lv_at hl 4 rfl) ?_
      refine end_v w (run_VN (As := [.int x2, .int x3]) C w hl.1 (c_X3_putLowestBits l G C.2.2.1 _ _ (14 + x1.toNatClampNeg) x2 x3 (by omega) _ h) kw_37_20 kw_2_11 kn_85 kw_37_18 kw_37_19 hd_X3_putLowestBits ⟨by decide, by decide⟩ (w.recv C (i := (14 + x1.toNatClampNeg)) (by omega) (pE_3 (by omega)) rfl) rfl (Nat.le_of_ble_eq_true rfl) dX5_put_39) (fun M9 H locs h w => ?_)
      refine lv_iconst (v := 0) hx hb dX5_put_42 (by decide) ?_
      exact ret_i C w h dX5_put_43
    replace h := h.1 c7
    refine lv_bipush (v := -13) hx hb dX5_put_28 (by decide) ?_
    exact ret_i C w h dX5_put_30
  replace h := h.2 c3
  refine lv_iload hx hb dX5_put_12 (lv_at hl 0 rfl) ?_
  exact ret_i C w h dX5_put_14
def j_X6_put_77 (post : Int32 → Mem → Prop) (M : Mem) (y0 : Int32) (y1 : Int32) : Prop := vp_in y1 800 ∧ (∀ M2 : Mem, M2 = (mup M 65 y1.toNatClampNeg y0) → (post (0 : Int32) M2))
def q_X6_put (M : Mem) (x1 : Int32) (x2 : Int32) (x3 : Int32) (post : Int32 → Mem → Prop) : Prop := q_X6_wrongRow M x1 (-1 : Int32) (fun r3 M4 => (r3 = 0 → (vp_in x1 8 ∧ (q_X6_isIn M4 x2.toInt64 (0 : Int64) (((M4 64 x1.toNatClampNeg) - (1 : Int32)).toInt64) (fun r7 M8 => (r7 = 0 → (post (-13 : Int32) M8)) ∧ (¬ (r7 = 0) → (((M8 63 x1.toNatClampNeg) = 0 → (j_X6_put_77 post M8 x3.toInt8.toInt32 (((100 : Int32) * x1) + x2))) ∧ (¬ ((M8 63 x1.toNatClampNeg) = 0) → (((M8 63 x1.toNatClampNeg) = (1 : Int32) → (j_X6_put_77 post M8 x3.toInt16.toInt32 (((100 : Int32) * x1) + x2))) ∧ (¬ ((M8 63 x1.toNatClampNeg) = (1 : Int32)) → (j_X6_put_77 post M8 x3 (((100 : Int32) * x1) + x2))))))))))) ∧ (¬ (r3 = 0) → (post r3 M4)))
set_option maxHeartbeats 4000000 in
set_option maxRecDepth 100000 in
theorem t_X6_put_77 (C : Cx G p s m args meth c RX6 cX6_put 5 (some .int)) {post : Int32 → Mem → Prop} (M : Mem) (y0 : Int32) (y1 : Int32) {H : Heap} {locs : List Loc} {ls : Array Slot} (w : Wd G s M H locs) (hl : lv_has ls 5 []) (h : j_X6_put_77 post M y0 y1) : W p l e (rmk 4) s m args below meth c H locs 0 0 (MQ below (va_Qi post (Qw G) (Af G s.heap.size)) args s 0 0 (Af G s.heap.size)) (F0 m 77 ls [.int y0, .int y1, .ref (ga G 65)]) := by
  have hx := C.1.1
  have hb := C.1.2.1
  unfold j_X6_put_77 at h
  have hin1 := h.1
  replace h := h.2
  have hz_hin1 := in_lt hin1
  refine pw_st C w (i := 65) (by decide) (fun _ => pE_65) hin1 rfl dX6_put_77 (fun H locs w => ?_)
  obtain ⟨M2, eM2⟩ : ∃ z : Mem, z = (mup M 65 y1.toNatClampNeg y0) := ⟨_, rfl⟩
  replace w : Wd G s M2 H locs := by rw [eM2]; exact w
  replace h := h M2 eM2
  refine lv_iconst (v := 0) hx hb dX6_put_78 (by decide) ?_
  exact ret_i C w h dX6_put_79
set_option maxHeartbeats 4000000 in
set_option maxRecDepth 100000 in
theorem c_X6_put (l : Launch) (G : GG) (hG : Ag G) (sz : Nat) (M : Mem) (x1 : Int32) (x2 : Int32) (x3 : Int32) (post : Int32 → Mem → Prop) (h : q_X6_put M x1 x2 x3 post) : Met l yX6_put (Cond.code yX6_put cX6_put 5 (some .int) :: wsL_law) (rmk 4) (va_Pc [.ref (ga G 57), .int x1, .int x2, .int x3] (Pw G sz M)) (va_Qi post (Qw G) (Af G sz)) 0 0 (Af G sz) := by
  refine Met.ofW (cc := cX6_put) (maxL := 5) (ret := (some .int)) (by decide) rfl ?_
  intro p e s m args below meth c s₁ B hml hv
  obtain ⟨rfl, hsz, hE, hP⟩ := hv
  subst hsz
  have C := Cx.of (own := RX6) hG hE rfl hml B
  have w : Wd G s M s.heap [] := ⟨hP, va_S.rf⟩
  have hl := lv_entry [.ref (ga G 57), .int x1, .int x2, .int x3] (n := 5) (Nat.le_of_ble_eq_true rfl)
  rw [lg_entry_eq]
  generalize (lg_sl [.ref (ga G 57), .int x1, .int x2, .int x3] ++ List.replicate (5 - (lg_sl [.ref (ga G 57), .int x1, .int x2, .int x3]).length) Slot.unset).toArray = ls at hl ⊢
  have hl : lv_has ls 5 [(0, .ref (ga G 57)), (1, .int x1), (2, .int x2), (3, .int x3)] := hl
  have hx := C.1.1
  have hb := C.1.2.1
  show W p l e (rmk 4) s m _ below meth c s.heap [] 0 0 _ _
  unfold q_X6_put at h
  refine lv_aload_n hx hb dX6_put_0 rfl (lv_at hl 0 rfl) ?_
  refine lv_iload_n hx hb dX6_put_1 rfl (lv_at hl 1 rfl) ?_
  refine lv_iconst (v := -1) hx hb dX6_put_2 (by decide) ?_
  refine end_i w (run_V (As := [.int x1, .int (-1 : Int32)]) C w hl.1 (c_X6_wrongRow l G C.2.2.1 _ _ x1 (-1 : Int32)  _ h) kw_11_22 kw_1_5 kw_11_19 kw_11_20 kw_11_21 hd_X6_wrongRow ⟨by decide, by decide⟩ (w.recv C (i := 57) (by decide) (pE_6) rfl) rfl (Nat.le_of_ble_eq_true rfl) dX6_put_3) (fun r3 M4 H locs h w => ?_)
  refine lv_istore (lv' := [(4, .int r3), (0, .ref (ga G 57)), (1, .int x1), (2, .int x2), (3, .int x3)]) hx hb dX6_put_6 hl (by decide) rfl (fun ls hl => ?_)
  refine lv_iload hx hb dX6_put_8 (lv_at hl 0 rfl) ?_
  refine lv_if_eq (tgt := 16) hx hb dX6_put_10 (by decide) (fun c5 => ?_) (fun c5 => ?_)
  · replace h := h.1 c5
    refine lv_iload_n hx hb dX6_put_16 rfl (lv_at hl 3 rfl) ?_
    refine lv_i2l hx hb dX6_put_17 rfl ?_
    refine lv_lconst (v := 0) hx hb dX6_put_18 (by decide) ?_
    refine lv_aload_n hx hb dX6_put_19 rfl (lv_at hl 1 rfl) ?_
    refine gt_6_6 C w kw_5_6 dX6_put_20 ?_
    refine lv_iload_n hx hb dX6_put_23 rfl (lv_at hl 2 rfl) ?_
    have hin6 := h.1
    replace h := h.2
    have hz_hin6 := in_lt hin6
    refine pw_ld C w (i := 64) (by decide) pE_64 hin6 rfl dX6_put_24 ?_
    refine lv_iconst (v := 1) hx hb dX6_put_25 (by decide) ?_
    refine lv_isub hx hb dX6_put_26 ?_
    refine lv_i2l hx hb dX6_put_27 rfl ?_
    refine end_i w (run_S (As := [.long x2.toInt64, .long (0 : Int64), .long ((M4 64 x1.toNatClampNeg) - (1 : Int32)).toInt64]) C w hl.1 (c_X6_isIn l G C.2.2.1 _ _ x2.toInt64 (0 : Int64) (((M4 64 x1.toNatClampNeg) - (1 : Int32)).toInt64)  _ h) kw_12_5 kw_1_5 kw_12_3 kw_12_4 hd_X6_isIn ⟨by decide, by decide⟩ rfl (Nat.le_of_ble_eq_true rfl) dX6_put_28) (fun r7 M8 H locs h w => ?_)
    refine lv_if_ne (tgt := 37) hx hb dX6_put_31 (by decide) (fun c9 => ?_) (fun c9 => ?_)
    · replace h := h.2 c9
      refine lv_aload_n hx hb dX6_put_37 rfl (lv_at hl 1 rfl) ?_
      refine gt_6_7 C w kw_5_7 dX6_put_38 ?_
      refine lv_bipush (v := 100) hx hb dX6_put_41 (by decide) ?_
      refine lv_iload_n hx hb dX6_put_43 rfl (lv_at hl 2 rfl) ?_
      refine lv_imul hx hb dX6_put_44 ?_
      refine lv_iload_n hx hb dX6_put_45 rfl (lv_at hl 3 rfl) ?_
      refine lv_iadd hx hb dX6_put_46 ?_
      refine lv_aload_n hx hb dX6_put_47 rfl (lv_at hl 1 rfl) ?_
      refine gt_6_5 C w kw_5_5 dX6_put_48 ?_
      refine lv_iload_n hx hb dX6_put_51 rfl (lv_at hl 2 rfl) ?_
      refine pw_ld C w (i := 63) (by decide) pE_63 hin6 rfl dX6_put_52 ?_
      refine lv_if_ne (tgt := 61) hx hb dX6_put_53 (by decide) (fun c10 => ?_) (fun c10 => ?_)
      · replace h := h.2 c10
        refine lv_aload_n hx hb dX6_put_61 rfl (lv_at hl 1 rfl) ?_
        refine gt_6_5 C w kw_5_5 dX6_put_62 ?_
        refine lv_iload_n hx hb dX6_put_65 rfl (lv_at hl 2 rfl) ?_
        refine pw_ld C w (i := 63) (by decide) pE_63 hin6 rfl dX6_put_66 ?_
        refine lv_iconst (v := 1) hx hb dX6_put_67 (by decide) ?_
        refine lv_icmp_ne (tgt := 76) hx hb dX6_put_68 (by decide) (fun c11 => ?_) (fun c11 => ?_)
        · replace h := h.2 c11
          refine lv_iload_n hx hb dX6_put_76 rfl (lv_at hl 4 rfl) ?_
          exact t_X6_put_77 C M8 x3 (((100 : Int32) * x1) + x2)  w (lv_sub hl [] rfl) h
        replace h := h.1 c11
        refine lv_iload_n hx hb dX6_put_71 rfl (lv_at hl 4 rfl) ?_
        refine lv_i2s hx hb dX6_put_72 rfl ?_
        refine lv_goto (tgt := 77) hx hb dX6_put_73 (by decide) ?_
        exact t_X6_put_77 C M8 x3.toInt16.toInt32 (((100 : Int32) * x1) + x2)  w (lv_sub hl [] rfl) h
      replace h := h.1 c10
      refine lv_iload_n hx hb dX6_put_56 rfl (lv_at hl 4 rfl) ?_
      refine lv_i2b hx hb dX6_put_57 rfl ?_
      refine lv_goto (tgt := 77) hx hb dX6_put_58 (by decide) ?_
      exact t_X6_put_77 C M8 x3.toInt8.toInt32 (((100 : Int32) * x1) + x2)  w (lv_sub hl [] rfl) h
    replace h := h.1 c9
    refine lv_bipush (v := -13) hx hb dX6_put_34 (by decide) ?_
    exact ret_i C w h dX6_put_36
  replace h := h.2 c5
  refine lv_iload hx hb dX6_put_13 (lv_at hl 0 rfl) ?_
  exact ret_i C w h dX6_put_15
def q_X6_thrown (M : Mem) (post : Int32 → Mem → Prop) : Prop := post (M 57 11) M
set_option maxHeartbeats 4000000 in
set_option maxRecDepth 100000 in
theorem c_X6_thrown (l : Launch) (G : GG) (hG : Ag G) (sz : Nat) (M : Mem) (post : Int32 → Mem → Prop) (h : q_X6_thrown M post) : Met l yX6_thrown (Cond.code yX6_thrown cX6_thrown 1 (some .int) :: wsL_law) (rmk 1) (va_Pc [.ref (ga G 57)] (Pw G sz M)) (va_Qi post (Qw G) (Af G sz)) 0 0 (Af G sz) := by
  refine Met.ofW (cc := cX6_thrown) (maxL := 1) (ret := (some .int)) (by decide) rfl ?_
  intro p e s m args below meth c s₁ B hml hv
  obtain ⟨rfl, hsz, hE, hP⟩ := hv
  subst hsz
  have C := Cx.of (own := RX6) hG hE rfl hml B
  have w : Wd G s M s.heap [] := ⟨hP, va_S.rf⟩
  have hl := lv_entry [.ref (ga G 57)] (n := 1) (Nat.le_of_ble_eq_true rfl)
  rw [lg_entry_eq]
  generalize (lg_sl [.ref (ga G 57)] ++ List.replicate (1 - (lg_sl [.ref (ga G 57)]).length) Slot.unset).toArray = ls at hl ⊢
  have hl : lv_has ls 1 [(0, .ref (ga G 57))] := hl
  have hx := C.1.1
  have hb := C.1.2.1
  show W p l e (rmk 1) s m _ below meth c s.heap [] 0 0 _ _
  unfold q_X6_thrown at h
  refine lv_aload_n hx hb dX6_thrown_0 rfl (lv_at hl 0 rfl) ?_
  refine gt_6_11 C w kw_38_19 dX6_thrown_1 ?_
  exact ret_i C w h dX6_thrown_4
def j_X3_hasPlaces_39 (post : Int32 → Mem → Prop) (M : Mem) (y0 : Int32) : Prop := (y0 = 0 ∨ y0 = 1) ∧ post y0 M
def j_X3_hasPlaces_38 (post : Int32 → Mem → Prop) (M : Mem) : Prop := j_X3_hasPlaces_39 post M (0 : Int32)
def q_X3_hasPlaces (M : Mem) (a0 : Nat) (x1 : Int32) (x2 : Int32) (post : Int32 → Mem → Prop) : Prop := ((M a0 0) = (2 : Int32) → (q_X5_isWithin M x1 (0 : Int32) (M a0 3) (fun r2 M3 => (r2 = 0 → (j_X3_hasPlaces_38 post M3)) ∧ (¬ (r2 = 0) → (q_X5_isWithin M3 x2 (0 : Int32) ((M3 a0 3) - x1) (fun r5 M6 => (r5 = 0 → (j_X3_hasPlaces_38 post M6)) ∧ (¬ (r5 = 0) → (j_X3_hasPlaces_39 post M6 (1 : Int32))))))))) ∧ (¬ ((M a0 0) = (2 : Int32)) → (j_X3_hasPlaces_38 post M))
set_option maxHeartbeats 4000000 in
set_option maxRecDepth 100000 in
theorem t_X3_hasPlaces_39 (C : Cx G p s m args meth c RX3 cX3_hasPlaces 3 (some .boolean)) {post : Int32 → Mem → Prop} (M : Mem) (y0 : Int32) {H : Heap} {locs : List Loc} {ls : Array Slot} (w : Wd G s M H locs) (hl : lv_has ls 3 []) (h : j_X3_hasPlaces_39 post M y0) : W p l e (rmk 2) s m args below meth c H locs 0 0 (MQ below (va_Qi post (Qw G) (Af G s.heap.size)) args s 0 0 (Af G s.heap.size)) (F0 m 39 ls [.int y0]) := by
  have hx := C.1.1
  have hb := C.1.2.1
  unfold j_X3_hasPlaces_39 at h
  exact ret_z C w h dX3_hasPlaces_39
set_option maxHeartbeats 4000000 in
set_option maxRecDepth 100000 in
theorem t_X3_hasPlaces_38 (C : Cx G p s m args meth c RX3 cX3_hasPlaces 3 (some .boolean)) {post : Int32 → Mem → Prop} (M : Mem) {H : Heap} {locs : List Loc} {ls : Array Slot} (w : Wd G s M H locs) (hl : lv_has ls 3 []) (h : j_X3_hasPlaces_38 post M) : W p l e (rmk 2) s m args below meth c H locs 0 0 (MQ below (va_Qi post (Qw G) (Af G s.heap.size)) args s 0 0 (Af G s.heap.size)) (F0 m 38 ls []) := by
  have hx := C.1.1
  have hb := C.1.2.1
  unfold j_X3_hasPlaces_38 at h
  refine lv_iconst (v := 0) hx hb dX3_hasPlaces_38 (by decide) ?_
  exact t_X3_hasPlaces_39 C M (0 : Int32)  w (lv_sub hl [] rfl) h
set_option maxHeartbeats 4000000 in
set_option maxRecDepth 100000 in
theorem c_X3_hasPlaces (l : Launch) (G : GG) (hG : Ag G) (sz : Nat) (M : Mem) (a0 : Nat) (x1 : Int32) (x2 : Int32) (ha0 : 14 ≤ a0 ∧ a0 < 22) (post : Int32 → Mem → Prop) (h : q_X3_hasPlaces M a0 x1 x2 post) : Met l yX3_hasPlaces (Cond.code yX3_hasPlaces cX3_hasPlaces 3 (some .boolean) :: wsL_law) (rmk 2) (va_Pc [.ref (ga G a0), .int x1, .int x2] (Pw G sz M)) (va_Qi post (Qw G) (Af G sz)) 0 0 (Af G sz) := by
  refine Met.ofW (cc := cX3_hasPlaces) (maxL := 3) (ret := (some .boolean)) (by decide) rfl ?_
  intro p e s m args below meth c s₁ B hml hv
  obtain ⟨rfl, hsz, hE, hP⟩ := hv
  subst hsz
  have C := Cx.of (own := RX3) hG hE rfl hml B
  have w : Wd G s M s.heap [] := ⟨hP, va_S.rf⟩
  have hl := lv_entry [.ref (ga G a0), .int x1, .int x2] (n := 3) (Nat.le_of_ble_eq_true rfl)
  rw [lg_entry_eq]
  generalize (lg_sl [.ref (ga G a0), .int x1, .int x2] ++ List.replicate (3 - (lg_sl [.ref (ga G a0), .int x1, .int x2]).length) Slot.unset).toArray = ls at hl ⊢
  have hl : lv_has ls 3 [(0, .ref (ga G a0)), (1, .int x1), (2, .int x2)] := hl
  have hx := C.1.1
  have hb := C.1.2.1
  show W p l e (rmk 2) s m _ below meth c s.heap [] 0 0 _ _
  unfold q_X3_hasPlaces at h
  refine lv_aload_n hx hb dX3_hasPlaces_0 rfl (lv_at hl 0 rfl) ?_
  refine gt_3_0 C w ha0 kw_4_14 dX3_hasPlaces_1 ?_
  refine lv_iconst (v := 2) hx hb dX3_hasPlaces_4 (by decide) ?_
  refine lv_icmp_ne (tgt := 38) hx hb dX3_hasPlaces_5 (by decide) (fun c1 => ?_) (fun c1 => ?_)
  · replace h := h.2 c1
    exact t_X3_hasPlaces_38 C M   w (lv_sub hl [] rfl) h
  replace h := h.1 c1
  refine lv_iload_n hx hb dX3_hasPlaces_8 rfl (lv_at hl 1 rfl) ?_
  refine lv_iconst (v := 0) hx hb dX3_hasPlaces_9 (by decide) ?_
  refine lv_aload_n hx hb dX3_hasPlaces_10 rfl (lv_at hl 0 rfl) ?_
  refine gt_3_3 C w ha0 kw_4_18 dX3_hasPlaces_11 ?_
  refine end_i w (run_SN (As := [.int x1, .int (0 : Int32), .int (M a0 3)]) C w hl.1 (c_X5_isWithin l G C.2.2.1 _ _ x1 (0 : Int32) (M a0 3)  _ h) kw_6_8 kw_1_2 kn_75 kw_6_7 hd_X5_isWithin ⟨by decide, by decide⟩ rfl (Nat.le_of_ble_eq_true rfl) dX3_hasPlaces_14) (fun r2 M3 H locs h w => ?_)
  refine lv_if_eq (tgt := 38) hx hb dX3_hasPlaces_17 (by decide) (fun c4 => ?_) (fun c4 => ?_)
  · replace h := h.1 c4
    exact t_X3_hasPlaces_38 C M3   w (lv_sub hl [] rfl) h
  replace h := h.2 c4
  refine lv_iload_n hx hb dX3_hasPlaces_20 rfl (lv_at hl 2 rfl) ?_
  refine lv_iconst (v := 0) hx hb dX3_hasPlaces_21 (by decide) ?_
  refine lv_aload_n hx hb dX3_hasPlaces_22 rfl (lv_at hl 0 rfl) ?_
  refine gt_3_3 C w ha0 kw_4_18 dX3_hasPlaces_23 ?_
  refine lv_iload_n hx hb dX3_hasPlaces_26 rfl (lv_at hl 1 rfl) ?_
  refine lv_isub hx hb dX3_hasPlaces_27 ?_
  refine end_i w (run_SN (As := [.int x2, .int (0 : Int32), .int ((M3 a0 3) - x1)]) C w hl.1 (c_X5_isWithin l G C.2.2.1 _ _ x2 (0 : Int32) ((M3 a0 3) - x1)  _ h) kw_6_8 kw_1_2 kn_75 kw_6_7 hd_X5_isWithin ⟨by decide, by decide⟩ rfl (Nat.le_of_ble_eq_true rfl) dX3_hasPlaces_28) (fun r5 M6 H locs h w => ?_)
  refine lv_if_eq (tgt := 38) hx hb dX3_hasPlaces_31 (by decide) (fun c7 => ?_) (fun c7 => ?_)
  · replace h := h.1 c7
    exact t_X3_hasPlaces_38 C M6   w (lv_sub hl [] rfl) h
  replace h := h.2 c7
  refine lv_iconst (v := 1) hx hb dX3_hasPlaces_34 (by decide) ?_
  refine lv_goto (tgt := 39) hx hb dX3_hasPlaces_35 (by decide) ?_
  exact t_X3_hasPlaces_39 C M6 (1 : Int32)  w (lv_sub hl [] rfl) h
def j_X5_copy_108 (post : Int32 → Mem → Prop) (M : Mem) : Prop := post (-13 : Int32) M
def j_X5_copy_82 (post : Int32 → Mem → Prop) (M : Mem) : Prop := post (-12 : Int32) M
def j_X5_copy_48 (post : Int32 → Mem → Prop) (M : Mem) : Prop := post (-11 : Int32) M
def j_X5_copy_14 (post : Int32 → Mem → Prop) (M : Mem) : Prop := post (-1 : Int32) M
def q_X5_copy (M : Mem) (x1 : Int32) (x2 : Int32) (x3 : Int32) (x4 : Int32) (x5 : Int32) (post : Int32 → Mem → Prop) : Prop := q_X5_isShelf M x1 (fun r1 M2 => (r1 = 0 → (j_X5_copy_14 post M2)) ∧ (¬ (r1 = 0) → (q_X5_isShelf M2 x3 (fun r4 M5 => (r4 = 0 → (j_X5_copy_14 post M5)) ∧ (¬ (r4 = 0) → (vp_in x1 8 ∧ (vp_in x3 8 ∧ (((M5 (14 + x1.toNatClampNeg) 0) = 0 → (j_X5_copy_48 post M5)) ∧ (¬ ((M5 (14 + x1.toNatClampNeg) 0) = 0) → (((M5 (14 + x3.toNatClampNeg) 0) = 0 → (j_X5_copy_48 post M5)) ∧ (¬ ((M5 (14 + x3.toNatClampNeg) 0) = 0) → (((M5 (14 + x1.toNatClampNeg) 0) = (2 : Int32) → (((M5 (14 + x3.toNatClampNeg) 0) = (2 : Int32) → (((M5 (14 + x1.toNatClampNeg) 2) = (M5 (14 + x3.toNatClampNeg) 2) → (q_X3_hasPlaces M5 (14 + x1.toNatClampNeg) x2 x5 (fun r14 M15 => (r14 = 0 → (j_X5_copy_108 post M15)) ∧ (¬ (r14 = 0) → (q_X3_hasPlaces M15 (14 + x3.toNatClampNeg) x4 x5 (fun r17 M18 => (r17 = 0 → (j_X5_copy_108 post M18)) ∧ (¬ (r17 = 0) → ((¬ x2 < 0 ∧ ¬ x4 < 0 ∧ ¬ x5 < 0 ∧ x2.toNatClampNeg + x5.toNatClampNeg ≤ 100 ∧ x4.toNatClampNeg + x5.toNatClampNeg ≤ 100) ∧ (∀ M20 : Mem, M20 = (va_up M18 (8 + (14 + x3.toNatClampNeg)) (va_cpy (M18 (8 + (14 + x1.toNatClampNeg))) (M18 (8 + (14 + x3.toNatClampNeg))) x2.toNatClampNeg x4.toNatClampNeg x5.toNatClampNeg)) → (post x5 M20)))))))))) ∧ (¬ ((M5 (14 + x1.toNatClampNeg) 2) = (M5 (14 + x3.toNatClampNeg) 2)) → (j_X5_copy_82 post M5)))) ∧ (¬ ((M5 (14 + x3.toNatClampNeg) 0) = (2 : Int32)) → (j_X5_copy_82 post M5)))) ∧ (¬ ((M5 (14 + x1.toNatClampNeg) 0) = (2 : Int32)) → (j_X5_copy_82 post M5))))))))))))))
set_option maxHeartbeats 4000000 in
set_option maxRecDepth 100000 in
theorem t_X5_copy_108 (C : Cx G p s m args meth c RX5 cX5_copy 8 (some .int)) {post : Int32 → Mem → Prop} (M : Mem) {H : Heap} {locs : List Loc} {ls : Array Slot} (w : Wd G s M H locs) (hl : lv_has ls 8 []) (h : j_X5_copy_108 post M) : W p l e (rmk 3) s m args below meth c H locs 0 0 (MQ below (va_Qi post (Qw G) (Af G s.heap.size)) args s 0 0 (Af G s.heap.size)) (F0 m 108 ls []) := by
  have hx := C.1.1
  have hb := C.1.2.1
  unfold j_X5_copy_108 at h
  refine lv_bipush (v := -13) hx hb dX5_copy_108 (by decide) ?_
  exact ret_i C w h dX5_copy_110
set_option maxHeartbeats 4000000 in
set_option maxRecDepth 100000 in
theorem t_X5_copy_82 (C : Cx G p s m args meth c RX5 cX5_copy 8 (some .int)) {post : Int32 → Mem → Prop} (M : Mem) {H : Heap} {locs : List Loc} {ls : Array Slot} (w : Wd G s M H locs) (hl : lv_has ls 8 []) (h : j_X5_copy_82 post M) : W p l e (rmk 3) s m args below meth c H locs 0 0 (MQ below (va_Qi post (Qw G) (Af G s.heap.size)) args s 0 0 (Af G s.heap.size)) (F0 m 82 ls []) := by
  have hx := C.1.1
  have hb := C.1.2.1
  unfold j_X5_copy_82 at h
  refine lv_bipush (v := -12) hx hb dX5_copy_82 (by decide) ?_
  exact ret_i C w h dX5_copy_84
set_option maxHeartbeats 4000000 in
set_option maxRecDepth 100000 in
theorem t_X5_copy_48 (C : Cx G p s m args meth c RX5 cX5_copy 8 (some .int)) {post : Int32 → Mem → Prop} (M : Mem) {H : Heap} {locs : List Loc} {ls : Array Slot} (w : Wd G s M H locs) (hl : lv_has ls 8 []) (h : j_X5_copy_48 post M) : W p l e (rmk 3) s m args below meth c H locs 0 0 (MQ below (va_Qi post (Qw G) (Af G s.heap.size)) args s 0 0 (Af G s.heap.size)) (F0 m 48 ls []) := by
  have hx := C.1.1
  have hb := C.1.2.1
  unfold j_X5_copy_48 at h
  refine lv_bipush (v := -11) hx hb dX5_copy_48 (by decide) ?_
  exact ret_i C w h dX5_copy_50
set_option maxHeartbeats 4000000 in
set_option maxRecDepth 100000 in
theorem t_X5_copy_14 (C : Cx G p s m args meth c RX5 cX5_copy 8 (some .int)) {post : Int32 → Mem → Prop} (M : Mem) {H : Heap} {locs : List Loc} {ls : Array Slot} (w : Wd G s M H locs) (hl : lv_has ls 8 []) (h : j_X5_copy_14 post M) : W p l e (rmk 3) s m args below meth c H locs 0 0 (MQ below (va_Qi post (Qw G) (Af G s.heap.size)) args s 0 0 (Af G s.heap.size)) (F0 m 14 ls []) := by
  have hx := C.1.1
  have hb := C.1.2.1
  unfold j_X5_copy_14 at h
  refine lv_iconst (v := -1) hx hb dX5_copy_14 (by decide) ?_
  exact ret_i C w h dX5_copy_15
set_option maxHeartbeats 4000000 in
set_option maxRecDepth 100000 in
theorem c_X5_copy (l : Launch) (G : GG) (hG : Ag G) (sz : Nat) (M : Mem) (x1 : Int32) (x2 : Int32) (x3 : Int32) (x4 : Int32) (x5 : Int32) (post : Int32 → Mem → Prop) (h : q_X5_copy M x1 x2 x3 x4 x5 post) : Met l yX5_copy (Cond.code yX5_copy cX5_copy 8 (some .int) :: wsL_law) (rmk 3) (va_Pc [.ref (ga G 0), .int x1, .int x2, .int x3, .int x4, .int x5] (Pw G sz M)) (va_Qi post (Qw G) (Af G sz)) 0 0 (Af G sz) := by
  refine Met.ofW (cc := cX5_copy) (maxL := 8) (ret := (some .int)) (by decide) rfl ?_
  intro p e s m args below meth c s₁ B hml hv
  obtain ⟨rfl, hsz, hE, hP⟩ := hv
  subst hsz
  have C := Cx.of (own := RX5) hG hE rfl hml B
  have w : Wd G s M s.heap [] := ⟨hP, va_S.rf⟩
  have hl := lv_entry [.ref (ga G 0), .int x1, .int x2, .int x3, .int x4, .int x5] (n := 8) (Nat.le_of_ble_eq_true rfl)
  rw [lg_entry_eq]
  generalize (lg_sl [.ref (ga G 0), .int x1, .int x2, .int x3, .int x4, .int x5] ++ List.replicate (8 - (lg_sl [.ref (ga G 0), .int x1, .int x2, .int x3, .int x4, .int x5]).length) Slot.unset).toArray = ls at hl ⊢
  have hl : lv_has ls 8 [(0, .ref (ga G 0)), (1, .int x1), (2, .int x2), (3, .int x3), (4, .int x4), (5, .int x5)] := hl
  have hx := C.1.1
  have hb := C.1.2.1
  show W p l e (rmk 3) s m _ below meth c s.heap [] 0 0 _ _
  unfold q_X5_copy at h
  refine lv_iload_n hx hb dX5_copy_0 rfl (lv_at hl 1 rfl) ?_
  refine end_i w (run_S (As := [.int x1]) C w hl.1 (c_X5_isShelf l G C.2.2.1 _ _ x1  _ h) kw_6_5 kw_1_2 kw_6_3 kw_6_4 hd_X5_isShelf ⟨by decide, by decide⟩ rfl (Nat.le_of_ble_eq_true rfl) dX5_copy_1) (fun r1 M2 H locs h w => ?_)
  refine lv_if_eq (tgt := 14) hx hb dX5_copy_4 (by decide) (fun c3 => ?_) (fun c3 => ?_)
  · replace h := h.1 c3
    exact t_X5_copy_14 C M2   w (lv_sub hl [] rfl) h
  replace h := h.2 c3
  refine lv_iload_n hx hb dX5_copy_7 rfl (lv_at hl 3 rfl) ?_
  refine end_i w (run_S (As := [.int x3]) C w hl.1 (c_X5_isShelf l G C.2.2.1 _ _ x3  _ h) kw_6_5 kw_1_2 kw_6_3 kw_6_4 hd_X5_isShelf ⟨by decide, by decide⟩ rfl (Nat.le_of_ble_eq_true rfl) dX5_copy_8) (fun r4 M5 H locs h w => ?_)
  refine lv_if_ne (tgt := 16) hx hb dX5_copy_11 (by decide) (fun c6 => ?_) (fun c6 => ?_)
  · replace h := h.2 c6
    refine lv_aload_n hx hb dX5_copy_16 rfl (lv_at hl 0 rfl) ?_
    refine gt_5_6 C w kw_2_8 dX5_copy_17 ?_
    refine lv_iload_n hx hb dX5_copy_20 rfl (lv_at hl 1 rfl) ?_
    have hin7 := h.1
    replace h := h.2
    have hz_hin7 := in_lt hin7
    refine pw_ldS C w hin7 rfl dX5_copy_21 ?_
    refine lv_astore (lv' := [(6, .ref (ga G (14 + x1.toNatClampNeg))), (0, .ref (ga G 0)), (1, .int x1), (2, .int x2), (3, .int x3), (4, .int x4), (5, .int x5)]) hx hb dX5_copy_22 hl (by decide) rfl (fun ls hl => ?_)
    refine lv_aload_n hx hb dX5_copy_24 rfl (lv_at hl 1 rfl) ?_
    refine gt_5_6 C w kw_2_8 dX5_copy_25 ?_
    refine lv_iload_n hx hb dX5_copy_28 rfl (lv_at hl 4 rfl) ?_
    have hin8 := h.1
    replace h := h.2
    have hz_hin8 := in_lt hin8
    refine pw_ldS C w hin8 rfl dX5_copy_29 ?_
    refine lv_astore (lv' := [(7, .ref (ga G (14 + x3.toNatClampNeg))), (6, .ref (ga G (14 + x1.toNatClampNeg))), (0, .ref (ga G 0)), (1, .int x1), (2, .int x2), (3, .int x3), (4, .int x4), (5, .int x5)]) hx hb dX5_copy_30 hl (by decide) rfl (fun ls hl => ?_)
    refine lv_aload hx hb dX5_copy_32 (lv_at hl 1 rfl) ?_
    refine gn_3_0 C w (by omega) kn_29 dX5_copy_34 ?_
    refine lv_if_eq (tgt := 48) hx hb dX5_copy_37 (by decide) (fun c9 => ?_) (fun c9 => ?_)
    · replace h := h.1 c9
      exact t_X5_copy_48 C M5   w (lv_sub hl [] rfl) h
    replace h := h.2 c9
    refine lv_aload hx hb dX5_copy_40 (lv_at hl 0 rfl) ?_
    refine gn_3_0 C w (by omega) kn_29 dX5_copy_42 ?_
    refine lv_if_ne (tgt := 51) hx hb dX5_copy_45 (by decide) (fun c10 => ?_) (fun c10 => ?_)
    · replace h := h.2 c10
      refine lv_aload hx hb dX5_copy_51 (lv_at hl 1 rfl) ?_
      refine gn_3_0 C w (by omega) kn_29 dX5_copy_53 ?_
      refine lv_iconst (v := 2) hx hb dX5_copy_56 (by decide) ?_
      refine lv_icmp_ne (tgt := 82) hx hb dX5_copy_57 (by decide) (fun c11 => ?_) (fun c11 => ?_)
      · replace h := h.2 c11
        exact t_X5_copy_82 C M5   w (lv_sub hl [] rfl) h
      replace h := h.1 c11
      refine lv_aload hx hb dX5_copy_60 (lv_at hl 0 rfl) ?_
      refine gn_3_0 C w (by omega) kn_29 dX5_copy_62 ?_
      refine lv_iconst (v := 2) hx hb dX5_copy_65 (by decide) ?_
      refine lv_icmp_ne (tgt := 82) hx hb dX5_copy_66 (by decide) (fun c12 => ?_) (fun c12 => ?_)
      · replace h := h.2 c12
        exact t_X5_copy_82 C M5   w (lv_sub hl [] rfl) h
      replace h := h.1 c12
      refine lv_aload hx hb dX5_copy_69 (lv_at hl 1 rfl) ?_
      refine gn_3_2 C w (by omega) kn_31 dX5_copy_71 ?_
      refine lv_aload hx hb dX5_copy_74 (lv_at hl 0 rfl) ?_
      refine gn_3_2 C w (by omega) kn_31 dX5_copy_76 ?_
      refine lv_icmp_eq (tgt := 85) hx hb dX5_copy_79 (by decide) (fun c13 => ?_) (fun c13 => ?_)
      · replace h := h.1 c13
        refine lv_aload hx hb dX5_copy_85 (lv_at hl 1 rfl) ?_
        refine lv_iload_n hx hb dX5_copy_87 rfl (lv_at hl 4 rfl) ?_
        refine lv_iload hx hb dX5_copy_88 (lv_at hl 7 rfl) ?_
        refine end_i w (run_VN (As := [.int x2, .int x5]) C w hl.1 (c_X3_hasPlaces l G C.2.2.1 _ _ (14 + x1.toNatClampNeg) x2 x5 (by omega) _ h) kw_39_7 kw_2_11 kn_86 kw_39_5 kw_39_6 hd_X3_hasPlaces ⟨by decide, by decide⟩ (w.recv C (i := (14 + x1.toNatClampNeg)) (by omega) (pE_3 (by omega)) rfl) rfl (Nat.le_of_ble_eq_true rfl) dX5_copy_90) (fun r14 M15 H locs h w => ?_)
        refine lv_if_eq (tgt := 108) hx hb dX5_copy_93 (by decide) (fun c16 => ?_) (fun c16 => ?_)
        · replace h := h.1 c16
          exact t_X5_copy_108 C M15   w (lv_sub hl [] rfl) h
        replace h := h.2 c16
        refine lv_aload hx hb dX5_copy_96 (lv_at hl 0 rfl) ?_
        refine lv_iload hx hb dX5_copy_98 (lv_at hl 6 rfl) ?_
        refine lv_iload hx hb dX5_copy_100 (lv_at hl 7 rfl) ?_
        refine end_i w (run_VN (As := [.int x4, .int x5]) C w hl.1 (c_X3_hasPlaces l G C.2.2.1 _ _ (14 + x3.toNatClampNeg) x4 x5 (by omega) _ h) kw_39_7 kw_2_11 kn_86 kw_39_5 kw_39_6 hd_X3_hasPlaces ⟨by decide, by decide⟩ (w.recv C (i := (14 + x3.toNatClampNeg)) (by omega) (pE_3 (by omega)) rfl) rfl (Nat.le_of_ble_eq_true rfl) dX5_copy_102) (fun r17 M18 H locs h w => ?_)
        refine lv_if_ne (tgt := 111) hx hb dX5_copy_105 (by decide) (fun c19 => ?_) (fun c19 => ?_)
        · replace h := h.2 c19
          refine lv_aload hx hb dX5_copy_111 (lv_at hl 1 rfl) ?_
          refine gn_3_4 C w (by omega) kn_34 dX5_copy_113 ?_
          refine lv_iload_n hx hb dX5_copy_116 rfl (lv_at hl 4 rfl) ?_
          refine lv_aload hx hb dX5_copy_117 (lv_at hl 0 rfl) ?_
          refine gn_3_4 C w (by omega) kn_34 dX5_copy_119 ?_
          refine lv_iload hx hb dX5_copy_122 (lv_at hl 6 rfl) ?_
          refine lv_iload hx hb dX5_copy_124 (lv_at hl 7 rfl) ?_
          refine pw_cpy C w hl.1 (i := (8 + (14 + x1.toNatClampNeg))) (i1 := (8 + (14 + x3.toNatClampNeg))) (by omega) (pE_el (by omega)) (by omega) (fun _ => (pE_el (by omega))) kw_39_4 kw_6_13 kw_6_14 kw_6_15 h.1 (by decide) (by decide) dX5_copy_126 (fun H locs w => ?_)
          replace h := h.2
          obtain ⟨M20, eM20⟩ : ∃ z : Mem, z = (va_up M18 (8 + (14 + x3.toNatClampNeg)) (va_cpy (M18 (8 + (14 + x1.toNatClampNeg))) (M18 (8 + (14 + x3.toNatClampNeg))) x2.toNatClampNeg x4.toNatClampNeg x5.toNatClampNeg)) := ⟨_, rfl⟩
          replace w : Wd G s M20 H locs := by rw [eM20]; exact w
          replace h := h M20 eM20
          refine lv_iload hx hb dX5_copy_129 (lv_at hl 7 rfl) ?_
          exact ret_i C w h dX5_copy_131
        replace h := h.1 c19
        exact t_X5_copy_108 C M18   w (lv_sub hl [] rfl) h
      replace h := h.2 c13
      exact t_X5_copy_82 C M5   w (lv_sub hl [] rfl) h
    replace h := h.1 c10
    exact t_X5_copy_48 C M5   w (lv_sub hl [] rfl) h
  replace h := h.1 c6
  exact t_X5_copy_14 C M5   w (lv_sub hl [] rfl) h
end WALK
