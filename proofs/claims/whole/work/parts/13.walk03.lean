theorem dX4_has_0 : decode cX4_has 0 = .ok (.iload_n 1, 1) := by decide +kernel
theorem dX4_has_1 : decode cX4_has 1 = .ok (.ifCond .lt 15, 3) := by decide +kernel
theorem dX4_has_4 : decode cX4_has 4 = .ok (.iload_n 1, 1) := by decide +kernel
theorem dX4_has_5 : decode cX4_has 5 = .ok (.aload_n 0, 1) := by decide +kernel
theorem dX4_has_6 : decode cX4_has 6 = .ok (.getfield 17, 3) := by decide +kernel
theorem dX4_has_9 : decode cX4_has 9 = .ok (.if_icmp .ge 7, 3) := by decide +kernel
theorem dX4_has_12 : decode cX4_has 12 = .ok (.iconst 1, 1) := by decide +kernel
theorem dX4_has_13 : decode cX4_has 13 = .ok (.goto 4, 3) := by decide +kernel
theorem dX4_has_16 : decode cX4_has 16 = .ok (.iconst 0, 1) := by decide +kernel
theorem dX4_has_17 : decode cX4_has 17 = .ok (.ireturn, 1) := by decide +kernel
theorem dX5_piece_0 : decode cX5_piece 0 = .ok (.aload_n 0, 1) := by decide +kernel
theorem dX5_piece_1 : decode cX5_piece 1 = .ok (.getfield 10, 3) := by decide +kernel
theorem dX5_piece_4 : decode cX5_piece 4 = .ok (.iload_n 1, 1) := by decide +kernel
theorem dX5_piece_5 : decode cX5_piece 5 = .ok (.invokevirtual 66, 3) := by decide +kernel
theorem dX5_piece_8 : decode cX5_piece 8 = .ok (.ifCond .ne 5, 3) := by decide +kernel
theorem dX5_piece_11 : decode cX5_piece 11 = .ok (.iconst (-1), 1) := by decide +kernel
theorem dX5_piece_12 : decode cX5_piece 12 = .ok (.ireturn, 1) := by decide +kernel
theorem dX5_piece_13 : decode cX5_piece 13 = .ok (.aload_n 0, 1) := by decide +kernel
theorem dX5_piece_14 : decode cX5_piece 14 = .ok (.getfield 10, 3) := by decide +kernel
theorem dX5_piece_17 : decode cX5_piece 17 = .ok (.getfield 70, 3) := by decide +kernel
theorem dX5_piece_20 : decode cX5_piece 20 = .ok (.iload_n 1, 1) := by decide +kernel
theorem dX5_piece_21 : decode cX5_piece 21 = .ok (.aaload, 1) := by decide +kernel
theorem dX5_piece_22 : decode cX5_piece 22 = .ok (.astore_n 3, 1) := by decide +kernel
theorem dX5_piece_23 : decode cX5_piece 23 = .ok (.iload_n 2, 1) := by decide +kernel
theorem dX5_piece_24 : decode cX5_piece 24 = .ok (.tableswitch 109 0 8 #[52, 57, 62, 67, 72, 77, 82, 87, 92], 52) := by decide +kernel
theorem dX5_piece_76 : decode cX5_piece 76 = .ok (.aload_n 3, 1) := by decide +kernel
theorem dX5_piece_77 : decode cX5_piece 77 = .ok (.getfield 74, 3) := by decide +kernel
theorem dX5_piece_80 : decode cX5_piece 80 = .ok (.ireturn, 1) := by decide +kernel
theorem dX5_piece_81 : decode cX5_piece 81 = .ok (.aload_n 3, 1) := by decide +kernel
theorem dX5_piece_82 : decode cX5_piece 82 = .ok (.getfield 78, 3) := by decide +kernel
theorem dX5_piece_85 : decode cX5_piece 85 = .ok (.ireturn, 1) := by decide +kernel
theorem dX5_piece_86 : decode cX5_piece 86 = .ok (.aload_n 3, 1) := by decide +kernel
theorem dX5_piece_87 : decode cX5_piece 87 = .ok (.getfield 81, 3) := by decide +kernel
theorem dX5_piece_90 : decode cX5_piece 90 = .ok (.ireturn, 1) := by decide +kernel
theorem dX5_piece_91 : decode cX5_piece 91 = .ok (.aload_n 3, 1) := by decide +kernel
theorem dX5_piece_92 : decode cX5_piece 92 = .ok (.getfield 84, 3) := by decide +kernel
theorem dX5_piece_95 : decode cX5_piece 95 = .ok (.ireturn, 1) := by decide +kernel
theorem dX5_piece_96 : decode cX5_piece 96 = .ok (.aload_n 3, 1) := by decide +kernel
theorem dX5_piece_97 : decode cX5_piece 97 = .ok (.getfield 87, 3) := by decide +kernel
theorem dX5_piece_100 : decode cX5_piece 100 = .ok (.ireturn, 1) := by decide +kernel
theorem dX5_piece_101 : decode cX5_piece 101 = .ok (.aload_n 3, 1) := by decide +kernel
theorem dX5_piece_102 : decode cX5_piece 102 = .ok (.getfield 90, 3) := by decide +kernel
theorem dX5_piece_105 : decode cX5_piece 105 = .ok (.ireturn, 1) := by decide +kernel
theorem dX5_piece_106 : decode cX5_piece 106 = .ok (.aload_n 3, 1) := by decide +kernel
theorem dX5_piece_107 : decode cX5_piece 107 = .ok (.getfield 93, 3) := by decide +kernel
theorem dX5_piece_110 : decode cX5_piece 110 = .ok (.ireturn, 1) := by decide +kernel
theorem dX5_piece_111 : decode cX5_piece 111 = .ok (.aload_n 3, 1) := by decide +kernel
theorem dX5_piece_112 : decode cX5_piece 112 = .ok (.getfield 96, 3) := by decide +kernel
theorem dX5_piece_115 : decode cX5_piece 115 = .ok (.ireturn, 1) := by decide +kernel
theorem dX5_piece_116 : decode cX5_piece 116 = .ok (.aload_n 0, 1) := by decide +kernel
theorem dX5_piece_117 : decode cX5_piece 117 = .ok (.getfield 10, 3) := by decide +kernel
theorem dX5_piece_120 : decode cX5_piece 120 = .ok (.getfield 99, 3) := by decide +kernel
theorem dX5_piece_123 : decode cX5_piece 123 = .ok (.iload_n 1, 1) := by decide +kernel
theorem dX5_piece_124 : decode cX5_piece 124 = .ok (.if_icmp .ne 7, 3) := by decide +kernel
theorem dX5_piece_127 : decode cX5_piece 127 = .ok (.iconst 1, 1) := by decide +kernel
theorem dX5_piece_128 : decode cX5_piece 128 = .ok (.goto 4, 3) := by decide +kernel
theorem dX5_piece_131 : decode cX5_piece 131 = .ok (.iconst 0, 1) := by decide +kernel
theorem dX5_piece_132 : decode cX5_piece 132 = .ok (.ireturn, 1) := by decide +kernel
theorem dX5_piece_133 : decode cX5_piece 133 = .ok (.iconst (-1), 1) := by decide +kernel
theorem dX5_piece_134 : decode cX5_piece 134 = .ok (.ireturn, 1) := by decide +kernel
theorem dX6_get_0 : decode cX6_get 0 = .ok (.aload_n 0, 1) := by decide +kernel
theorem dX6_get_1 : decode cX6_get 1 = .ok (.getfield 9, 3) := by decide +kernel
theorem dX6_get_4 : decode cX6_get 4 = .ok (.bipush 12, 2) := by decide +kernel
theorem dX6_get_6 : decode cX6_get 6 = .ok (.bipush 6, 2) := by decide +kernel
theorem dX6_get_8 : decode cX6_get 8 = .ok (.iload_n 1, 1) := by decide +kernel
theorem dX6_get_9 : decode cX6_get 9 = .ok (.imul, 1) := by decide +kernel
theorem dX6_get_10 : decode cX6_get 10 = .ok (.iadd, 1) := by decide +kernel
theorem dX6_get_11 : decode cX6_get 11 = .ok (.iload_n 2, 1) := by decide +kernel
theorem dX6_get_12 : decode cX6_get 12 = .ok (.iadd, 1) := by decide +kernel
theorem dX6_get_13 : decode cX6_get 13 = .ok (.iaload, 1) := by decide +kernel
theorem dX6_get_14 : decode cX6_get 14 = .ok (.ireturn, 1) := by decide +kernel
theorem dX6_giveBy_0 : decode cX6_giveBy 0 = .ok (.iload_n 0, 1) := by decide +kernel
theorem dX6_giveBy_1 : decode cX6_giveBy 1 = .ok (.tableswitch 68 1 7 #[43, 45, 47, 43, 43, 52, 59], 43) := by decide +kernel
theorem dX6_giveBy_44 : decode cX6_giveBy 44 = .ok (.iconst 2, 1) := by decide +kernel
theorem dX6_giveBy_45 : decode cX6_giveBy 45 = .ok (.ireturn, 1) := by decide +kernel
theorem dX6_giveBy_46 : decode cX6_giveBy 46 = .ok (.iconst 1, 1) := by decide +kernel
theorem dX6_giveBy_47 : decode cX6_giveBy 47 = .ok (.ireturn, 1) := by decide +kernel
theorem dX6_giveBy_48 : decode cX6_giveBy 48 = .ok (.bipush 40, 2) := by decide +kernel
theorem dX6_giveBy_50 : decode cX6_giveBy 50 = .ok (.iload_n 1, 1) := by decide +kernel
theorem dX6_giveBy_51 : decode cX6_giveBy 51 = .ok (.iadd, 1) := by decide +kernel
theorem dX6_giveBy_52 : decode cX6_giveBy 52 = .ok (.ireturn, 1) := by decide +kernel
theorem dX6_giveBy_53 : decode cX6_giveBy 53 = .ok (.bipush 40, 2) := by decide +kernel
theorem dX6_giveBy_55 : decode cX6_giveBy 55 = .ok (.iload_n 1, 1) := by decide +kernel
theorem dX6_giveBy_56 : decode cX6_giveBy 56 = .ok (.iadd, 1) := by decide +kernel
theorem dX6_giveBy_57 : decode cX6_giveBy 57 = .ok (.iconst 2, 1) := by decide +kernel
theorem dX6_giveBy_58 : decode cX6_giveBy 58 = .ok (.idiv, 1) := by decide +kernel
theorem dX6_giveBy_59 : decode cX6_giveBy 59 = .ok (.ireturn, 1) := by decide +kernel
theorem dX6_giveBy_60 : decode cX6_giveBy 60 = .ok (.bipush 40, 2) := by decide +kernel
theorem dX6_giveBy_62 : decode cX6_giveBy 62 = .ok (.iload_n 1, 1) := by decide +kernel
theorem dX6_giveBy_63 : decode cX6_giveBy 63 = .ok (.iadd, 1) := by decide +kernel
theorem dX6_giveBy_64 : decode cX6_giveBy 64 = .ok (.iconst 2, 1) := by decide +kernel
theorem dX6_giveBy_65 : decode cX6_giveBy 65 = .ok (.idiv, 1) := by decide +kernel
theorem dX6_giveBy_66 : decode cX6_giveBy 66 = .ok (.iconst 5, 1) := by decide +kernel
theorem dX6_giveBy_67 : decode cX6_giveBy 67 = .ok (.isub, 1) := by decide +kernel
theorem dX6_giveBy_68 : decode cX6_giveBy 68 = .ok (.ireturn, 1) := by decide +kernel
theorem dX6_giveBy_69 : decode cX6_giveBy 69 = .ok (.iconst 4, 1) := by decide +kernel
theorem dX6_giveBy_70 : decode cX6_giveBy 70 = .ok (.ireturn, 1) := by decide +kernel
theorem dX6_heftBy_0 : decode cX6_heftBy 0 = .ok (.iload_n 0, 1) := by decide +kernel
theorem dX6_heftBy_1 : decode cX6_heftBy 1 = .ok (.tableswitch 48 1 5 #[35, 37, 42, 35, 44], 35) := by decide +kernel
theorem dX6_heftBy_36 : decode cX6_heftBy 36 = .ok (.iconst 4, 1) := by decide +kernel
theorem dX6_heftBy_37 : decode cX6_heftBy 37 = .ok (.ireturn, 1) := by decide +kernel
theorem dX6_heftBy_38 : decode cX6_heftBy 38 = .ok (.bipush 6, 2) := by decide +kernel
theorem dX6_heftBy_40 : decode cX6_heftBy 40 = .ok (.iload_n 1, 1) := by decide +kernel
theorem dX6_heftBy_41 : decode cX6_heftBy 41 = .ok (.iadd, 1) := by decide +kernel
theorem dX6_heftBy_42 : decode cX6_heftBy 42 = .ok (.ireturn, 1) := by decide +kernel
theorem dX6_heftBy_43 : decode cX6_heftBy 43 = .ok (.iconst 1, 1) := by decide +kernel
theorem dX6_heftBy_44 : decode cX6_heftBy 44 = .ok (.ireturn, 1) := by decide +kernel
theorem dX6_heftBy_45 : decode cX6_heftBy 45 = .ok (.iconst 5, 1) := by decide +kernel
theorem dX6_heftBy_46 : decode cX6_heftBy 46 = .ok (.iload_n 1, 1) := by decide +kernel
theorem dX6_heftBy_47 : decode cX6_heftBy 47 = .ok (.iadd, 1) := by decide +kernel
theorem dX6_heftBy_48 : decode cX6_heftBy 48 = .ok (.ireturn, 1) := by decide +kernel
theorem dX6_heftBy_49 : decode cX6_heftBy 49 = .ok (.iconst 2, 1) := by decide +kernel
theorem dX6_heftBy_50 : decode cX6_heftBy 50 = .ok (.ireturn, 1) := by decide +kernel
theorem dX6_isPiece_0 : decode cX6_isPiece 0 = .ok (.iload_n 1, 1) := by decide +kernel
theorem dX6_isPiece_1 : decode cX6_isPiece 1 = .ok (.i2l, 1) := by decide +kernel
theorem dX6_isPiece_2 : decode cX6_isPiece 2 = .ok (.lconst 0, 1) := by decide +kernel
theorem dX6_isPiece_3 : decode cX6_isPiece 3 = .ok (.aload_n 0, 1) := by decide +kernel
theorem dX6_isPiece_4 : decode cX6_isPiece 4 = .ok (.getfield 9, 3) := by decide +kernel
theorem dX6_isPiece_7 : decode cX6_isPiece 7 = .ok (.iconst 0, 1) := by decide +kernel
theorem dX6_isPiece_8 : decode cX6_isPiece 8 = .ok (.iaload, 1) := by decide +kernel
theorem dX6_isPiece_9 : decode cX6_isPiece 9 = .ok (.iconst 1, 1) := by decide +kernel
theorem dX6_isPiece_10 : decode cX6_isPiece 10 = .ok (.isub, 1) := by decide +kernel
theorem dX6_isPiece_11 : decode cX6_isPiece 11 = .ok (.i2l, 1) := by decide +kernel
theorem dX6_isPiece_12 : decode cX6_isPiece 12 = .ok (.invokestatic 47, 3) := by decide +kernel
theorem dX6_isPiece_15 : decode cX6_isPiece 15 = .ok (.ireturn, 1) := by decide +kernel
theorem dX6_strengthBy_0 : decode cX6_strengthBy 0 = .ok (.iload_n 0, 1) := by decide +kernel
theorem dX6_strengthBy_1 : decode cX6_strengthBy 1 = .ok (.tableswitch 91 1 7 #[43, 47, 51, 55, 64, 73, 81], 43) := by decide +kernel
theorem dX6_strengthBy_44 : decode cX6_strengthBy 44 = .ok (.sipush 500, 3) := by decide +kernel
theorem dX6_strengthBy_47 : decode cX6_strengthBy 47 = .ok (.ireturn, 1) := by decide +kernel
theorem dX6_strengthBy_48 : decode cX6_strengthBy 48 = .ok (.sipush 600, 3) := by decide +kernel
theorem dX6_strengthBy_51 : decode cX6_strengthBy 51 = .ok (.ireturn, 1) := by decide +kernel
theorem dX6_strengthBy_52 : decode cX6_strengthBy 52 = .ok (.sipush 250, 3) := by decide +kernel
theorem dX6_strengthBy_55 : decode cX6_strengthBy 55 = .ok (.ireturn, 1) := by decide +kernel
theorem dX6_strengthBy_56 : decode cX6_strengthBy 56 = .ok (.sipush 500, 3) := by decide +kernel
theorem dX6_strengthBy_59 : decode cX6_strengthBy 59 = .ok (.bipush 20, 2) := by decide +kernel
theorem dX6_strengthBy_61 : decode cX6_strengthBy 61 = .ok (.iload_n 1, 1) := by decide +kernel
theorem dX6_strengthBy_62 : decode cX6_strengthBy 62 = .ok (.imul, 1) := by decide +kernel
theorem dX6_strengthBy_63 : decode cX6_strengthBy 63 = .ok (.isub, 1) := by decide +kernel
theorem dX6_strengthBy_64 : decode cX6_strengthBy 64 = .ok (.ireturn, 1) := by decide +kernel
theorem dX6_strengthBy_65 : decode cX6_strengthBy 65 = .ok (.sipush 600, 3) := by decide +kernel
theorem dX6_strengthBy_68 : decode cX6_strengthBy 68 = .ok (.bipush 10, 2) := by decide +kernel
theorem dX6_strengthBy_70 : decode cX6_strengthBy 70 = .ok (.iload_n 1, 1) := by decide +kernel
theorem dX6_strengthBy_71 : decode cX6_strengthBy 71 = .ok (.imul, 1) := by decide +kernel
theorem dX6_strengthBy_72 : decode cX6_strengthBy 72 = .ok (.isub, 1) := by decide +kernel
theorem dX6_strengthBy_73 : decode cX6_strengthBy 73 = .ok (.ireturn, 1) := by decide +kernel
theorem dX6_strengthBy_74 : decode cX6_strengthBy 74 = .ok (.sipush 250, 3) := by decide +kernel
theorem dX6_strengthBy_77 : decode cX6_strengthBy 77 = .ok (.iconst 5, 1) := by decide +kernel
theorem dX6_strengthBy_78 : decode cX6_strengthBy 78 = .ok (.iload_n 1, 1) := by decide +kernel
theorem dX6_strengthBy_79 : decode cX6_strengthBy 79 = .ok (.imul, 1) := by decide +kernel
theorem dX6_strengthBy_80 : decode cX6_strengthBy 80 = .ok (.isub, 1) := by decide +kernel
theorem dX6_strengthBy_81 : decode cX6_strengthBy 81 = .ok (.ireturn, 1) := by decide +kernel
theorem dX6_strengthBy_82 : decode cX6_strengthBy 82 = .ok (.sipush 250, 3) := by decide +kernel
theorem dX6_strengthBy_85 : decode cX6_strengthBy 85 = .ok (.iconst 5, 1) := by decide +kernel
theorem dX6_strengthBy_86 : decode cX6_strengthBy 86 = .ok (.iload_n 1, 1) := by decide +kernel
theorem dX6_strengthBy_87 : decode cX6_strengthBy 87 = .ok (.imul, 1) := by decide +kernel
theorem dX6_strengthBy_88 : decode cX6_strengthBy 88 = .ok (.isub, 1) := by decide +kernel
theorem dX6_strengthBy_89 : decode cX6_strengthBy 89 = .ok (.iconst 2, 1) := by decide +kernel
theorem dX6_strengthBy_90 : decode cX6_strengthBy 90 = .ok (.idiv, 1) := by decide +kernel
theorem dX6_strengthBy_91 : decode cX6_strengthBy 91 = .ok (.ireturn, 1) := by decide +kernel
theorem dX6_strengthBy_92 : decode cX6_strengthBy 92 = .ok (.sipush 300, 3) := by decide +kernel
theorem dX6_strengthBy_95 : decode cX6_strengthBy 95 = .ok (.ireturn, 1) := by decide +kernel
theorem dX6_wearBy_0 : decode cX6_wearBy 0 = .ok (.iload_n 0, 1) := by decide +kernel
theorem dX6_wearBy_1 : decode cX6_wearBy 1 = .ok (.tableswitch 53 2 7 #[39, 41, 41, 53, 43, 47], 39) := by decide +kernel
theorem dX6_wearBy_40 : decode cX6_wearBy 40 = .ok (.iconst 0, 1) := by decide +kernel
theorem dX6_wearBy_41 : decode cX6_wearBy 41 = .ok (.ireturn, 1) := by decide +kernel
theorem dX6_wearBy_42 : decode cX6_wearBy 42 = .ok (.iconst 3, 1) := by decide +kernel
theorem dX6_wearBy_43 : decode cX6_wearBy 43 = .ok (.ireturn, 1) := by decide +kernel
theorem dX6_wearBy_44 : decode cX6_wearBy 44 = .ok (.iconst 3, 1) := by decide +kernel
theorem dX6_wearBy_45 : decode cX6_wearBy 45 = .ok (.iload_n 1, 1) := by decide +kernel
theorem dX6_wearBy_46 : decode cX6_wearBy 46 = .ok (.iadd, 1) := by decide +kernel
theorem dX6_wearBy_47 : decode cX6_wearBy 47 = .ok (.ireturn, 1) := by decide +kernel
theorem dX6_wearBy_48 : decode cX6_wearBy 48 = .ok (.iconst 2, 1) := by decide +kernel
theorem dX6_wearBy_49 : decode cX6_wearBy 49 = .ok (.iconst 3, 1) := by decide +kernel
theorem dX6_wearBy_50 : decode cX6_wearBy 50 = .ok (.iload_n 1, 1) := by decide +kernel
theorem dX6_wearBy_51 : decode cX6_wearBy 51 = .ok (.iadd, 1) := by decide +kernel
theorem dX6_wearBy_52 : decode cX6_wearBy 52 = .ok (.imul, 1) := by decide +kernel
theorem dX6_wearBy_53 : decode cX6_wearBy 53 = .ok (.ireturn, 1) := by decide +kernel
theorem dX6_wearBy_54 : decode cX6_wearBy 54 = .ok (.iconst 1, 1) := by decide +kernel
theorem dX6_wearBy_55 : decode cX6_wearBy 55 = .ok (.ireturn, 1) := by decide +kernel
theorem dX6_piece_0 : decode cX6_piece 0 = .ok (.aload_n 0, 1) := by decide +kernel
theorem dX6_piece_1 : decode cX6_piece 1 = .ok (.iload_n 1, 1) := by decide +kernel
theorem dX6_piece_2 : decode cX6_piece 2 = .ok (.invokevirtual 117, 3) := by decide +kernel
theorem dX6_piece_5 : decode cX6_piece 5 = .ok (.ifCond .ne 5, 3) := by decide +kernel
theorem dX6_piece_8 : decode cX6_piece 8 = .ok (.iconst (-1), 1) := by decide +kernel
theorem dX6_piece_9 : decode cX6_piece 9 = .ok (.ireturn, 1) := by decide +kernel
theorem dX6_piece_10 : decode cX6_piece 10 = .ok (.aload_n 0, 1) := by decide +kernel
theorem dX6_piece_11 : decode cX6_piece 11 = .ok (.iload_n 1, 1) := by decide +kernel
theorem dX6_piece_12 : decode cX6_piece 12 = .ok (.iconst 0, 1) := by decide +kernel
theorem dX6_piece_13 : decode cX6_piece 13 = .ok (.invokevirtual 111, 3) := by decide +kernel
theorem dX6_piece_16 : decode cX6_piece 16 = .ok (.istore_n 3, 1) := by decide +kernel
theorem dX6_piece_17 : decode cX6_piece 17 = .ok (.aload_n 0, 1) := by decide +kernel
theorem dX6_piece_18 : decode cX6_piece 18 = .ok (.iload_n 1, 1) := by decide +kernel
theorem dX6_piece_19 : decode cX6_piece 19 = .ok (.iconst 1, 1) := by decide +kernel
theorem dX6_piece_20 : decode cX6_piece 20 = .ok (.invokevirtual 111, 3) := by decide +kernel
theorem dX6_piece_23 : decode cX6_piece 23 = .ok (.istore 4, 2) := by decide +kernel
theorem dX6_piece_25 : decode cX6_piece 25 = .ok (.iload_n 2, 1) := by decide +kernel
theorem dX6_piece_26 : decode cX6_piece 26 = .ok (.tableswitch 104 0 8 #[50, 52, 59, 62, 69, 76, 83, 90, 97], 50) := by decide +kernel
theorem dX6_piece_76 : decode cX6_piece 76 = .ok (.iload_n 3, 1) := by decide +kernel
theorem dX6_piece_77 : decode cX6_piece 77 = .ok (.ireturn, 1) := by decide +kernel
theorem dX6_piece_78 : decode cX6_piece 78 = .ok (.aload_n 0, 1) := by decide +kernel
theorem dX6_piece_79 : decode cX6_piece 79 = .ok (.iload_n 1, 1) := by decide +kernel
theorem dX6_piece_80 : decode cX6_piece 80 = .ok (.iconst 2, 1) := by decide +kernel
theorem dX6_piece_81 : decode cX6_piece 81 = .ok (.invokevirtual 111, 3) := by decide +kernel
theorem dX6_piece_84 : decode cX6_piece 84 = .ok (.ireturn, 1) := by decide +kernel
theorem dX6_piece_85 : decode cX6_piece 85 = .ok (.iload 4, 2) := by decide +kernel
theorem dX6_piece_87 : decode cX6_piece 87 = .ok (.ireturn, 1) := by decide +kernel
theorem dX6_piece_88 : decode cX6_piece 88 = .ok (.iload_n 3, 1) := by decide +kernel
theorem dX6_piece_89 : decode cX6_piece 89 = .ok (.iload 4, 2) := by decide +kernel
theorem dX6_piece_91 : decode cX6_piece 91 = .ok (.invokestatic 120, 3) := by decide +kernel
theorem dX6_piece_94 : decode cX6_piece 94 = .ok (.ireturn, 1) := by decide +kernel
theorem dX6_piece_95 : decode cX6_piece 95 = .ok (.iload_n 3, 1) := by decide +kernel
theorem dX6_piece_96 : decode cX6_piece 96 = .ok (.iload 4, 2) := by decide +kernel
theorem dX6_piece_98 : decode cX6_piece 98 = .ok (.invokestatic 123, 3) := by decide +kernel
theorem dX6_piece_101 : decode cX6_piece 101 = .ok (.ireturn, 1) := by decide +kernel
theorem dX6_piece_102 : decode cX6_piece 102 = .ok (.iload_n 3, 1) := by decide +kernel
theorem dX6_piece_103 : decode cX6_piece 103 = .ok (.iload 4, 2) := by decide +kernel
theorem dX6_piece_105 : decode cX6_piece 105 = .ok (.invokestatic 114, 3) := by decide +kernel
theorem dX6_piece_108 : decode cX6_piece 108 = .ok (.ireturn, 1) := by decide +kernel
theorem dX6_piece_109 : decode cX6_piece 109 = .ok (.iload_n 3, 1) := by decide +kernel
theorem dX6_piece_110 : decode cX6_piece 110 = .ok (.iload 4, 2) := by decide +kernel
theorem dX6_piece_112 : decode cX6_piece 112 = .ok (.invokestatic 126, 3) := by decide +kernel
theorem dX6_piece_115 : decode cX6_piece 115 = .ok (.ireturn, 1) := by decide +kernel
theorem dX6_piece_116 : decode cX6_piece 116 = .ok (.aload_n 0, 1) := by decide +kernel
theorem dX6_piece_117 : decode cX6_piece 117 = .ok (.iload_n 1, 1) := by decide +kernel
theorem dX6_piece_118 : decode cX6_piece 118 = .ok (.iconst 3, 1) := by decide +kernel
theorem dX6_piece_119 : decode cX6_piece 119 = .ok (.invokevirtual 111, 3) := by decide +kernel
theorem dX6_piece_122 : decode cX6_piece 122 = .ok (.ireturn, 1) := by decide +kernel
theorem dX6_piece_123 : decode cX6_piece 123 = .ok (.aload_n 0, 1) := by decide +kernel
theorem dX6_piece_124 : decode cX6_piece 124 = .ok (.iload_n 1, 1) := by decide +kernel
theorem dX6_piece_125 : decode cX6_piece 125 = .ok (.iconst 4, 1) := by decide +kernel
theorem dX6_piece_126 : decode cX6_piece 126 = .ok (.invokevirtual 111, 3) := by decide +kernel
theorem dX6_piece_129 : decode cX6_piece 129 = .ok (.ireturn, 1) := by decide +kernel
theorem dX6_piece_130 : decode cX6_piece 130 = .ok (.iconst (-1), 1) := by decide +kernel
theorem dX6_piece_131 : decode cX6_piece 131 = .ok (.ireturn, 1) := by decide +kernel
theorem dX5_set_0 : decode cX5_set 0 = .ok (.iload_n 1, 1) := by decide +kernel
theorem dX5_set_1 : decode cX5_set 1 = .ok (.iload_n 2, 1) := by decide +kernel
theorem dX5_set_2 : decode cX5_set 2 = .ok (.invokestatic 102, 3) := by decide +kernel
theorem dX5_set_5 : decode cX5_set 5 = .ok (.ifCond .ne 5, 3) := by decide +kernel
theorem dX5_set_8 : decode cX5_set 8 = .ok (.iconst (-1), 1) := by decide +kernel
theorem dX5_set_9 : decode cX5_set 9 = .ok (.ireturn, 1) := by decide +kernel
theorem dX5_set_10 : decode cX5_set 10 = .ok (.aload_n 0, 1) := by decide +kernel
theorem dX5_set_11 : decode cX5_set 11 = .ok (.getfield 10, 3) := by decide +kernel
theorem dX5_set_14 : decode cX5_set 14 = .ok (.getfield 106, 3) := by decide +kernel
theorem dX5_set_17 : decode cX5_set 17 = .ok (.iload_n 1, 1) := by decide +kernel
theorem dX5_set_18 : decode cX5_set 18 = .ok (.iaload, 1) := by decide +kernel
theorem dX5_set_19 : decode cX5_set 19 = .ok (.istore_n 3, 1) := by decide +kernel
theorem dX5_set_20 : decode cX5_set 20 = .ok (.aload_n 0, 1) := by decide +kernel
theorem dX5_set_21 : decode cX5_set 21 = .ok (.getfield 10, 3) := by decide +kernel
theorem dX5_set_24 : decode cX5_set 24 = .ok (.getfield 106, 3) := by decide +kernel
theorem dX5_set_27 : decode cX5_set 27 = .ok (.iload_n 1, 1) := by decide +kernel
theorem dX5_set_28 : decode cX5_set 28 = .ok (.iload_n 2, 1) := by decide +kernel
theorem dX5_set_29 : decode cX5_set 29 = .ok (.iastore, 1) := by decide +kernel
theorem dX5_set_30 : decode cX5_set 30 = .ok (.iload_n 3, 1) := by decide +kernel
theorem dX5_set_31 : decode cX5_set 31 = .ok (.ireturn, 1) := by decide +kernel
theorem dX6_leastOf_0 : decode cX6_leastOf 0 = .ok (.iload_n 0, 1) := by decide +kernel
theorem dX6_leastOf_1 : decode cX6_leastOf 1 = .ok (.iconst 1, 1) := by decide +kernel
theorem dX6_leastOf_2 : decode cX6_leastOf 2 = .ok (.if_icmp .ne 7, 3) := by decide +kernel
theorem dX6_leastOf_5 : decode cX6_leastOf 5 = .ok (.iconst 4, 1) := by decide +kernel
theorem dX6_leastOf_6 : decode cX6_leastOf 6 = .ok (.goto 13, 3) := by decide +kernel
theorem dX6_leastOf_9 : decode cX6_leastOf 9 = .ok (.iload_n 0, 1) := by decide +kernel
theorem dX6_leastOf_10 : decode cX6_leastOf 10 = .ok (.iconst 3, 1) := by decide +kernel
theorem dX6_leastOf_11 : decode cX6_leastOf 11 = .ok (.if_icmp .ne 7, 3) := by decide +kernel
theorem dX6_leastOf_14 : decode cX6_leastOf 14 = .ok (.iconst 1, 1) := by decide +kernel
theorem dX6_leastOf_15 : decode cX6_leastOf 15 = .ok (.goto 4, 3) := by decide +kernel
theorem dX6_leastOf_18 : decode cX6_leastOf 18 = .ok (.iconst 0, 1) := by decide +kernel
theorem dX6_leastOf_19 : decode cX6_leastOf 19 = .ok (.ireturn, 1) := by decide +kernel
theorem dX6_mostOf_0 : decode cX6_mostOf 0 = .ok (.iload_n 0, 1) := by decide +kernel
theorem dX6_mostOf_1 : decode cX6_mostOf 1 = .ok (.ifCond .ne 8, 3) := by decide +kernel
theorem dX6_mostOf_4 : decode cX6_mostOf 4 = .ok (.bipush 60, 2) := by decide +kernel
theorem dX6_mostOf_6 : decode cX6_mostOf 6 = .ok (.goto 26, 3) := by decide +kernel
theorem dX6_mostOf_9 : decode cX6_mostOf 9 = .ok (.iload_n 0, 1) := by decide +kernel
theorem dX6_mostOf_10 : decode cX6_mostOf 10 = .ok (.iconst 1, 1) := by decide +kernel
theorem dX6_mostOf_11 : decode cX6_mostOf 11 = .ok (.if_icmp .ne 8, 3) := by decide +kernel
theorem dX6_mostOf_14 : decode cX6_mostOf 14 = .ok (.bipush 40, 2) := by decide +kernel
theorem dX6_mostOf_16 : decode cX6_mostOf 16 = .ok (.goto 16, 3) := by decide +kernel
theorem dX6_mostOf_19 : decode cX6_mostOf 19 = .ok (.iload_n 0, 1) := by decide +kernel
theorem dX6_mostOf_20 : decode cX6_mostOf 20 = .ok (.iconst 3, 1) := by decide +kernel
theorem dX6_mostOf_21 : decode cX6_mostOf 21 = .ok (.if_icmp .ne 9, 3) := by decide +kernel
theorem dX6_mostOf_24 : decode cX6_mostOf 24 = .ok (.sipush 999, 3) := by decide +kernel
theorem dX6_mostOf_27 : decode cX6_mostOf 27 = .ok (.goto 5, 3) := by decide +kernel
theorem dX6_mostOf_30 : decode cX6_mostOf 30 = .ok (.bipush 9, 2) := by decide +kernel
theorem dX6_mostOf_32 : decode cX6_mostOf 32 = .ok (.ireturn, 1) := by decide +kernel
theorem dX6_set_0 : decode cX6_set 0 = .ok (.iload_n 1, 1) := by decide +kernel
theorem dX6_set_1 : decode cX6_set 1 = .ok (.i2l, 1) := by decide +kernel
theorem dX6_set_2 : decode cX6_set 2 = .ok (.lconst 0, 1) := by decide +kernel
theorem dX6_set_3 : decode cX6_set 3 = .ok (.ldc2_w 129, 3) := by decide +kernel
theorem dX6_set_6 : decode cX6_set 6 = .ok (.invokestatic 47, 3) := by decide +kernel
theorem dX6_set_9 : decode cX6_set 9 = .ok (.ifCond .eq 21, 3) := by decide +kernel
theorem dX6_set_12 : decode cX6_set 12 = .ok (.iload_n 2, 1) := by decide +kernel
theorem dX6_set_13 : decode cX6_set 13 = .ok (.i2l, 1) := by decide +kernel
theorem dX6_set_14 : decode cX6_set 14 = .ok (.iload_n 1, 1) := by decide +kernel
theorem dX6_set_15 : decode cX6_set 15 = .ok (.invokestatic 131, 3) := by decide +kernel
theorem dX6_set_18 : decode cX6_set 18 = .ok (.i2l, 1) := by decide +kernel
theorem dX6_set_19 : decode cX6_set 19 = .ok (.iload_n 1, 1) := by decide +kernel
theorem dX6_set_20 : decode cX6_set 20 = .ok (.invokestatic 135, 3) := by decide +kernel
theorem dX6_set_23 : decode cX6_set 23 = .ok (.i2l, 1) := by decide +kernel
theorem dX6_set_24 : decode cX6_set 24 = .ok (.invokestatic 47, 3) := by decide +kernel
theorem dX6_set_27 : decode cX6_set 27 = .ok (.ifCond .ne 5, 3) := by decide +kernel
theorem dX6_set_30 : decode cX6_set 30 = .ok (.iconst (-1), 1) := by decide +kernel
theorem dX6_set_31 : decode cX6_set 31 = .ok (.ireturn, 1) := by decide +kernel
theorem dX6_set_32 : decode cX6_set 32 = .ok (.aload_n 0, 1) := by decide +kernel
theorem dX6_set_33 : decode cX6_set 33 = .ok (.getfield 9, 3) := by decide +kernel
theorem dX6_set_36 : decode cX6_set 36 = .ok (.iconst 5, 1) := by decide +kernel
theorem dX6_set_37 : decode cX6_set 37 = .ok (.iload_n 1, 1) := by decide +kernel
theorem dX6_set_38 : decode cX6_set 38 = .ok (.iadd, 1) := by decide +kernel
theorem dX6_set_39 : decode cX6_set 39 = .ok (.iaload, 1) := by decide +kernel
theorem dX6_set_40 : decode cX6_set 40 = .ok (.istore_n 3, 1) := by decide +kernel
theorem dX6_set_41 : decode cX6_set 41 = .ok (.aload_n 0, 1) := by decide +kernel
theorem dX6_set_42 : decode cX6_set 42 = .ok (.getfield 9, 3) := by decide +kernel
theorem dX6_set_45 : decode cX6_set 45 = .ok (.iconst 5, 1) := by decide +kernel
theorem dX6_set_46 : decode cX6_set 46 = .ok (.iload_n 1, 1) := by decide +kernel
theorem dX6_set_47 : decode cX6_set 47 = .ok (.iadd, 1) := by decide +kernel
theorem dX6_set_48 : decode cX6_set 48 = .ok (.iload_n 2, 1) := by decide +kernel
theorem dX6_set_49 : decode cX6_set 49 = .ok (.iastore, 1) := by decide +kernel
theorem dX6_set_50 : decode cX6_set 50 = .ok (.iload_n 3, 1) := by decide +kernel
theorem dX6_set_51 : decode cX6_set 51 = .ok (.ireturn, 1) := by decide +kernel
theorem dX0_base_0 : decode cX0_base 0 = .ok (.iconst 2, 1) := by decide +kernel
theorem dX0_base_1 : decode cX0_base 1 = .ok (.aload_n 0, 1) := by decide +kernel
theorem dX0_base_2 : decode cX0_base 2 = .ok (.getfield 27, 3) := by decide +kernel
theorem dX0_base_5 : decode cX0_base 5 = .ok (.imul, 1) := by decide +kernel
theorem dX0_base_6 : decode cX0_base 6 = .ok (.aload_n 0, 1) := by decide +kernel
theorem dX0_base_7 : decode cX0_base 7 = .ok (.getfield 27, 3) := by decide +kernel
theorem dX0_base_10 : decode cX0_base 10 = .ok (.imul, 1) := by decide +kernel
theorem dX0_base_11 : decode cX0_base 11 = .ok (.aload_n 0, 1) := by decide +kernel
theorem dX0_base_12 : decode cX0_base 12 = .ok (.getfield 15, 3) := by decide +kernel
theorem dX0_base_15 : decode cX0_base 15 = .ok (.bipush 10, 2) := by decide +kernel
theorem dX0_base_17 : decode cX0_base 17 = .ok (.idiv, 1) := by decide +kernel
theorem dX0_base_18 : decode cX0_base 18 = .ok (.iadd, 1) := by decide +kernel
theorem dX0_base_19 : decode cX0_base 19 = .ok (.ireturn, 1) := by decide +kernel
theorem dX0_giveOfAll_0 : decode cX0_giveOfAll 0 = .ok (.iconst 1, 1) := by decide +kernel
theorem dX0_giveOfAll_1 : decode cX0_giveOfAll 1 = .ok (.aload_n 0, 1) := by decide +kernel
theorem dX0_giveOfAll_2 : decode cX0_giveOfAll 2 = .ok (.getfield 18, 3) := by decide +kernel
theorem dX0_giveOfAll_5 : decode cX0_giveOfAll 5 = .ok (.bipush 100, 2) := by decide +kernel
theorem dX0_giveOfAll_7 : decode cX0_giveOfAll 7 = .ok (.idiv, 1) := by decide +kernel
theorem dX0_giveOfAll_8 : decode cX0_giveOfAll 8 = .ok (.invokestatic 42, 3) := by decide +kernel
theorem dX0_giveOfAll_11 : decode cX0_giveOfAll 11 = .ok (.ireturn, 1) := by decide +kernel
theorem dX0_hang_0 : decode cX0_hang 0 = .ok (.aload_n 0, 1) := by decide +kernel
theorem dX0_hang_1 : decode cX0_hang 1 = .ok (.getfield 15, 3) := by decide +kernel
theorem dX0_hang_4 : decode cX0_hang 4 = .ok (.iconst 1, 1) := by decide +kernel
theorem dX0_hang_5 : decode cX0_hang 5 = .ok (.iconst 4, 1) := by decide +kernel
theorem dX0_hang_6 : decode cX0_hang 6 = .ok (.aload_n 0, 1) := by decide +kernel
theorem dX0_hang_7 : decode cX0_hang 7 = .ok (.getfield 27, 3) := by decide +kernel
theorem dX0_hang_10 : decode cX0_hang 10 = .ok (.aload_n 0, 1) := by decide +kernel
theorem dX0_hang_11 : decode cX0_hang 11 = .ok (.getfield 27, 3) := by decide +kernel
theorem dX0_hang_14 : decode cX0_hang 14 = .ok (.imul, 1) := by decide +kernel
theorem dX0_hang_15 : decode cX0_hang 15 = .ok (.iadd, 1) := by decide +kernel
theorem dX0_hang_16 : decode cX0_hang 16 = .ok (.invokestatic 42, 3) := by decide +kernel
theorem dX0_hang_19 : decode cX0_hang 19 = .ok (.idiv, 1) := by decide +kernel
theorem dX0_hang_20 : decode cX0_hang 20 = .ok (.ireturn, 1) := by decide +kernel
theorem dX0_slack_0 : decode cX0_slack 0 = .ok (.aload_n 0, 1) := by decide +kernel
theorem dX0_slack_1 : decode cX0_slack 1 = .ok (.invokevirtual 48, 3) := by decide +kernel
theorem dX0_slack_4 : decode cX0_slack 4 = .ok (.iconst 4, 1) := by decide +kernel
theorem dX0_slack_5 : decode cX0_slack 5 = .ok (.idiv, 1) := by decide +kernel
theorem dX0_slack_6 : decode cX0_slack 6 = .ok (.ireturn, 1) := by decide +kernel
theorem dX0_add_0 : decode cX0_add 0 = .ok (.aload_n 0, 1) := by decide +kernel
theorem dX0_add_1 : decode cX0_add 1 = .ok (.dup, 1) := by decide +kernel
theorem dX0_add_2 : decode cX0_add 2 = .ok (.getfield 9, 3) := by decide +kernel
theorem dX0_add_5 : decode cX0_add 5 = .ok (.iload_n 2, 1) := by decide +kernel
theorem dX0_add_6 : decode cX0_add 6 = .ok (.iadd, 1) := by decide +kernel
theorem dX0_add_7 : decode cX0_add 7 = .ok (.putfield 9, 3) := by decide +kernel
theorem dX0_add_10 : decode cX0_add 10 = .ok (.aload_n 0, 1) := by decide +kernel
theorem dX0_add_11 : decode cX0_add 11 = .ok (.dup, 1) := by decide +kernel
theorem dX0_add_12 : decode cX0_add 12 = .ok (.getfield 15, 3) := by decide +kernel
theorem dX0_add_15 : decode cX0_add 15 = .ok (.iload_n 2, 1) := by decide +kernel
theorem dX0_add_16 : decode cX0_add 16 = .ok (.aload_n 1, 1) := by decide +kernel
theorem dX0_add_17 : decode cX0_add 17 = .ok (.getfield 36, 3) := by decide +kernel
theorem dX0_add_20 : decode cX0_add 20 = .ok (.imul, 1) := by decide +kernel
theorem dX0_add_21 : decode cX0_add 21 = .ok (.iadd, 1) := by decide +kernel
theorem dX0_add_22 : decode cX0_add 22 = .ok (.putfield 15, 3) := by decide +kernel
theorem dX0_add_25 : decode cX0_add 25 = .ok (.aload_n 0, 1) := by decide +kernel
theorem dX0_add_26 : decode cX0_add 26 = .ok (.dup, 1) := by decide +kernel
theorem dX0_add_27 : decode cX0_add 27 = .ok (.getfield 18, 3) := by decide +kernel
theorem dX0_add_30 : decode cX0_add 30 = .ok (.iload_n 2, 1) := by decide +kernel
theorem dX0_add_31 : decode cX0_add 31 = .ok (.aload_n 1, 1) := by decide +kernel
theorem dX0_add_32 : decode cX0_add 32 = .ok (.getfield 39, 3) := by decide +kernel
theorem dX0_add_35 : decode cX0_add 35 = .ok (.imul, 1) := by decide +kernel
theorem dX0_add_36 : decode cX0_add 36 = .ok (.iadd, 1) := by decide +kernel
theorem dX0_add_37 : decode cX0_add 37 = .ok (.putfield 18, 3) := by decide +kernel
theorem dX0_add_40 : decode cX0_add 40 = .ok (.return_, 1) := by decide +kernel
theorem dX0_begin_0 : decode cX0_begin 0 = .ok (.aload_n 0, 1) := by decide +kernel
theorem dX0_begin_1 : decode cX0_begin 1 = .ok (.iconst 0, 1) := by decide +kernel
theorem dX0_begin_2 : decode cX0_begin 2 = .ok (.putfield 9, 3) := by decide +kernel
theorem dX0_begin_5 : decode cX0_begin 5 = .ok (.aload_n 0, 1) := by decide +kernel
theorem dX0_begin_6 : decode cX0_begin 6 = .ok (.iconst 0, 1) := by decide +kernel
theorem dX0_begin_7 : decode cX0_begin 7 = .ok (.putfield 15, 3) := by decide +kernel
theorem dX0_begin_10 : decode cX0_begin 10 = .ok (.aload_n 0, 1) := by decide +kernel
theorem dX0_begin_11 : decode cX0_begin 11 = .ok (.iconst 0, 1) := by decide +kernel
theorem dX0_begin_12 : decode cX0_begin 12 = .ok (.putfield 18, 3) := by decide +kernel
theorem dX0_begin_15 : decode cX0_begin 15 = .ok (.aload_n 0, 1) := by decide +kernel
theorem dX0_begin_16 : decode cX0_begin 16 = .ok (.aload_n 1, 1) := by decide +kernel
theorem dX0_begin_17 : decode cX0_begin 17 = .ok (.getfield 30, 3) := by decide +kernel
theorem dX0_begin_20 : decode cX0_begin 20 = .ok (.iconst 0, 1) := by decide +kernel
theorem dX0_begin_21 : decode cX0_begin 21 = .ok (.iaload, 1) := by decide +kernel
theorem dX0_begin_22 : decode cX0_begin 22 = .ok (.putfield 21, 3) := by decide +kernel
theorem dX0_begin_25 : decode cX0_begin 25 = .ok (.aload_n 0, 1) := by decide +kernel
theorem dX0_begin_26 : decode cX0_begin 26 = .ok (.aload_n 1, 1) := by decide +kernel
theorem dX0_begin_27 : decode cX0_begin 27 = .ok (.getfield 30, 3) := by decide +kernel
theorem dX0_begin_30 : decode cX0_begin 30 = .ok (.iconst 1, 1) := by decide +kernel
theorem dX0_begin_31 : decode cX0_begin 31 = .ok (.iaload, 1) := by decide +kernel
theorem dX0_begin_32 : decode cX0_begin 32 = .ok (.putfield 24, 3) := by decide +kernel
theorem dX0_begin_35 : decode cX0_begin 35 = .ok (.aload_n 0, 1) := by decide +kernel
theorem dX0_begin_36 : decode cX0_begin 36 = .ok (.aload_n 1, 1) := by decide +kernel
theorem dX0_begin_37 : decode cX0_begin 37 = .ok (.getfield 30, 3) := by decide +kernel
theorem dX0_begin_40 : decode cX0_begin 40 = .ok (.iconst 2, 1) := by decide +kernel
theorem dX0_begin_41 : decode cX0_begin 41 = .ok (.iaload, 1) := by decide +kernel
theorem dX0_begin_42 : decode cX0_begin 42 = .ok (.putfield 27, 3) := by decide +kernel
theorem dX0_begin_45 : decode cX0_begin 45 = .ok (.return_, 1) := by decide +kernel
theorem dX4_hasLine_0 : decode cX4_hasLine 0 = .ok (.aload_n 0, 1) := by decide +kernel
theorem dX4_hasLine_1 : decode cX4_hasLine 1 = .ok (.getfield 17, 3) := by decide +kernel
theorem dX4_hasLine_4 : decode cX4_hasLine 4 = .ok (.ifCond .le 16, 3) := by decide +kernel
theorem dX4_hasLine_7 : decode cX4_hasLine 7 = .ok (.aload_n 0, 1) := by decide +kernel
theorem dX4_hasLine_8 : decode cX4_hasLine 8 = .ok (.getfield 45, 3) := by decide +kernel
theorem dX4_hasLine_11 : decode cX4_hasLine 11 = .ok (.bipush (-4), 2) := by decide +kernel
theorem dX4_hasLine_13 : decode cX4_hasLine 13 = .ok (.if_icmp .ne 7, 3) := by decide +kernel
theorem dX4_hasLine_16 : decode cX4_hasLine 16 = .ok (.iconst 1, 1) := by decide +kernel
theorem dX4_hasLine_17 : decode cX4_hasLine 17 = .ok (.goto 4, 3) := by decide +kernel
theorem dX4_hasLine_20 : decode cX4_hasLine 20 = .ok (.iconst 0, 1) := by decide +kernel
theorem dX4_hasLine_21 : decode cX4_hasLine 21 = .ok (.ireturn, 1) := by decide +kernel
theorem dX5_layLine_0 : decode cX5_layLine 0 = .ok (.aload_n 0, 1) := by decide +kernel
theorem dX5_layLine_1 : decode cX5_layLine 1 = .ok (.getfield 10, 3) := by decide +kernel
theorem dX5_layLine_4 : decode cX5_layLine 4 = .ok (.invokevirtual 318, 3) := by decide +kernel
theorem dX5_layLine_7 : decode cX5_layLine 7 = .ok (.ifCond .ne 5, 3) := by decide +kernel
theorem dX5_layLine_10 : decode cX5_layLine 10 = .ok (.iconst 0, 1) := by decide +kernel
theorem dX5_layLine_11 : decode cX5_layLine 11 = .ok (.ireturn, 1) := by decide +kernel
theorem dX5_layLine_12 : decode cX5_layLine 12 = .ok (.aload_n 0, 1) := by decide +kernel
theorem dX5_layLine_13 : decode cX5_layLine 13 = .ok (.getfield 25, 3) := by decide +kernel
theorem dX5_layLine_16 : decode cX5_layLine 16 = .ok (.aload_n 0, 1) := by decide +kernel
theorem dX5_layLine_17 : decode cX5_layLine 17 = .ok (.getfield 10, 3) := by decide +kernel
theorem dX5_layLine_20 : decode cX5_layLine 20 = .ok (.invokevirtual 321, 3) := by decide +kernel
theorem dX5_layLine_23 : decode cX5_layLine 23 = .ok (.iconst 0, 1) := by decide +kernel
theorem dX5_layLine_24 : decode cX5_layLine 24 = .ok (.istore_n 1, 1) := by decide +kernel
theorem dX5_layLine_25 : decode cX5_layLine 25 = .ok (.iload_n 1, 1) := by decide +kernel
theorem dX5_layLine_26 : decode cX5_layLine 26 = .ok (.aload_n 0, 1) := by decide +kernel
theorem dX5_layLine_27 : decode cX5_layLine 27 = .ok (.getfield 10, 3) := by decide +kernel
theorem dX5_layLine_30 : decode cX5_layLine 30 = .ok (.getfield 162, 3) := by decide +kernel
theorem dX5_layLine_33 : decode cX5_layLine 33 = .ok (.if_icmp .ge 37, 3) := by decide +kernel
theorem dX5_layLine_36 : decode cX5_layLine 36 = .ok (.aload_n 0, 1) := by decide +kernel
theorem dX5_layLine_37 : decode cX5_layLine 37 = .ok (.getfield 25, 3) := by decide +kernel
theorem dX5_layLine_40 : decode cX5_layLine 40 = .ok (.aload_n 0, 1) := by decide +kernel
theorem dX5_layLine_41 : decode cX5_layLine 41 = .ok (.getfield 10, 3) := by decide +kernel
theorem dX5_layLine_44 : decode cX5_layLine 44 = .ok (.getfield 70, 3) := by decide +kernel
theorem dX5_layLine_47 : decode cX5_layLine 47 = .ok (.iload_n 1, 1) := by decide +kernel
theorem dX5_layLine_48 : decode cX5_layLine 48 = .ok (.aaload, 1) := by decide +kernel
theorem dX5_layLine_49 : decode cX5_layLine 49 = .ok (.aload_n 0, 1) := by decide +kernel
theorem dX5_layLine_50 : decode cX5_layLine 50 = .ok (.getfield 10, 3) := by decide +kernel
theorem dX5_layLine_53 : decode cX5_layLine 53 = .ok (.getfield 70, 3) := by decide +kernel
theorem dX5_layLine_56 : decode cX5_layLine 56 = .ok (.iload_n 1, 1) := by decide +kernel
theorem dX5_layLine_57 : decode cX5_layLine 57 = .ok (.aaload, 1) := by decide +kernel
theorem dX5_layLine_58 : decode cX5_layLine 58 = .ok (.getfield 78, 3) := by decide +kernel
theorem dX5_layLine_61 : decode cX5_layLine 61 = .ok (.invokevirtual 158, 3) := by decide +kernel
theorem dX5_layLine_64 : decode cX5_layLine 64 = .ok (.iinc 1 1, 3) := by decide +kernel
theorem dX5_layLine_67 : decode cX5_layLine 67 = .ok (.goto (-42), 3) := by decide +kernel
theorem dX5_layLine_70 : decode cX5_layLine 70 = .ok (.iconst 1, 1) := by decide +kernel
theorem dX5_layLine_71 : decode cX5_layLine 71 = .ok (.ireturn, 1) := by decide +kernel
section WALK
variable {p : Program} {l : Launch} {e : Env} {s : State} {m : MethodId} {args : Array Value} {below : List Frame} {meth : Method} {c : Code} {G : GG}

def j_X4_has_17 (post : Int32 → Mem → Prop) (M : Mem) (y0 : Int32) : Prop := (y0 = 0 ∨ y0 = 1) ∧ post y0 M
def j_X4_has_16 (post : Int32 → Mem → Prop) (M : Mem) : Prop := j_X4_has_17 post M (0 : Int32)
def q_X4_has (M : Mem) (a0 : Nat) (x1 : Int32) (post : Int32 → Mem → Prop) : Prop := (x1 < 0 → (j_X4_has_16 post M)) ∧ (¬ (x1 < 0) → (((M a0 1) ≤ x1 → (j_X4_has_16 post M)) ∧ (¬ ((M a0 1) ≤ x1) → (j_X4_has_17 post M (1 : Int32)))))
set_option maxHeartbeats 4000000 in
set_option maxRecDepth 100000 in
theorem t_X4_has_17 (C : Cx G p s m args meth c RX4 cX4_has 2 (some .boolean)) {post : Int32 → Mem → Prop} (M : Mem) (y0 : Int32) {H : Heap} {locs : List Loc} {ls : Array Slot} (w : Wd G s M H locs) (hl : lv_has ls 2 []) (h : j_X4_has_17 post M y0) : W p l e (rmk 1) s m args below meth c H locs 0 0 (MQ below (va_Qi post (Qw G) (Af G s.heap.size)) args s 0 0 (Af G s.heap.size)) (F0 m 17 ls [.int y0]) := by
  have hx := C.1.1
  have hb := C.1.2.1
  unfold j_X4_has_17 at h
  exact ret_z C w h dX4_has_17
set_option maxHeartbeats 4000000 in
set_option maxRecDepth 100000 in
theorem t_X4_has_16 (C : Cx G p s m args meth c RX4 cX4_has 2 (some .boolean)) {post : Int32 → Mem → Prop} (M : Mem) {H : Heap} {locs : List Loc} {ls : Array Slot} (w : Wd G s M H locs) (hl : lv_has ls 2 []) (h : j_X4_has_16 post M) : W p l e (rmk 1) s m args below meth c H locs 0 0 (MQ below (va_Qi post (Qw G) (Af G s.heap.size)) args s 0 0 (Af G s.heap.size)) (F0 m 16 ls []) := by
  have hx := C.1.1
  have hb := C.1.2.1
  unfold j_X4_has_16 at h
  refine lv_iconst (v := 0) hx hb dX4_has_16 (by decide) ?_
  exact t_X4_has_17 C M (0 : Int32)  w (lv_sub hl [] rfl) h
set_option maxHeartbeats 4000000 in
set_option maxRecDepth 100000 in
theorem c_X4_has (l : Launch) (G : GG) (hG : Ag G) (sz : Nat) (M : Mem) (a0 : Nat) (x1 : Int32) (ha0 : 1 ≤ a0 ∧ a0 < 4) (post : Int32 → Mem → Prop) (h : q_X4_has M a0 x1 post) : Met l yX4_has (Cond.code yX4_has cX4_has 2 (some .boolean) :: wsL_law) (rmk 1) (va_Pc [.ref (ga G a0), .int x1] (Pw G sz M)) (va_Qi post (Qw G) (Af G sz)) 0 0 (Af G sz) := by
  refine Met.ofW (cc := cX4_has) (maxL := 2) (ret := (some .boolean)) (by decide) rfl ?_
  intro p e s m args below meth c s₁ B hml hv
  obtain ⟨rfl, hsz, hE, hP⟩ := hv
  subst hsz
  have C := Cx.of (own := RX4) hG hE rfl hml B
  have w : Wd G s M s.heap [] := ⟨hP, va_S.rf⟩
  have hl := lv_entry [.ref (ga G a0), .int x1] (n := 2) (Nat.le_of_ble_eq_true rfl)
  rw [lg_entry_eq]
  generalize (lg_sl [.ref (ga G a0), .int x1] ++ List.replicate (2 - (lg_sl [.ref (ga G a0), .int x1]).length) Slot.unset).toArray = ls at hl ⊢
  have hl : lv_has ls 2 [(0, .ref (ga G a0)), (1, .int x1)] := hl
  have hx := C.1.1
  have hb := C.1.2.1
  show W p l e (rmk 1) s m _ below meth c s.heap [] 0 0 _ _
  unfold q_X4_has at h
  refine lv_iload_n hx hb dX4_has_0 rfl (lv_at hl 1 rfl) ?_
  refine lv_if_lt (tgt := 16) hx hb dX4_has_1 (by decide) (fun c1 => ?_) (fun c1 => ?_)
  · replace h := h.1 c1
    exact t_X4_has_16 C M   w (lv_sub hl [] rfl) h
  replace h := h.2 c1
  refine lv_iload_n hx hb dX4_has_4 rfl (lv_at hl 1 rfl) ?_
  refine lv_aload_n hx hb dX4_has_5 rfl (lv_at hl 0 rfl) ?_
  refine gt_4_1 C w ha0 kw_2_17 dX4_has_6 ?_
  refine lv_icmp_ge (tgt := 16) hx hb dX4_has_9 (by decide) (fun c2 => ?_) (fun c2 => ?_)
  · replace h := h.1 c2
    exact t_X4_has_16 C M   w (lv_sub hl [] rfl) h
  replace h := h.2 c2
  refine lv_iconst (v := 1) hx hb dX4_has_12 (by decide) ?_
  refine lv_goto (tgt := 17) hx hb dX4_has_13 (by decide) ?_
  exact t_X4_has_17 C M (1 : Int32)  w (lv_sub hl [] rfl) h
def j_X5_piece_132 (post : Int32 → Mem → Prop) (M : Mem) (y0 : Int32) : Prop := post y0 M
def q_X5_piece (M : Mem) (x1 : Int32) (x2 : Int32) (post : Int32 → Mem → Prop) : Prop := q_X4_has M 1 x1 (fun r1 M2 => (r1 = 0 → (post (-1 : Int32) M2)) ∧ (¬ (r1 = 0) → (vp_in x1 6 ∧ ((x2 = (0 : Int32) → (post (M2 (38 + x1.toNatClampNeg) 0) M2)) ∧ (¬ x2 = (0 : Int32) → ((x2 = (1 : Int32) → (post (M2 (38 + x1.toNatClampNeg) 2) M2)) ∧ (¬ x2 = (1 : Int32) → ((x2 = (2 : Int32) → (post (M2 (38 + x1.toNatClampNeg) 1) M2)) ∧ (¬ x2 = (2 : Int32) → ((x2 = (3 : Int32) → (post (M2 (38 + x1.toNatClampNeg) 5) M2)) ∧ (¬ x2 = (3 : Int32) → ((x2 = (4 : Int32) → (post (M2 (38 + x1.toNatClampNeg) 6) M2)) ∧ (¬ x2 = (4 : Int32) → ((x2 = (5 : Int32) → (post (M2 (38 + x1.toNatClampNeg) 7) M2)) ∧ (¬ x2 = (5 : Int32) → ((x2 = (6 : Int32) → (post (M2 (38 + x1.toNatClampNeg) 8) M2)) ∧ (¬ x2 = (6 : Int32) → ((x2 = (7 : Int32) → (post (M2 (38 + x1.toNatClampNeg) 4) M2)) ∧ (¬ x2 = (7 : Int32) → ((x2 = (8 : Int32) → (((M2 1 7) = x1 → (j_X5_piece_132 post M2 (1 : Int32))) ∧ (¬ ((M2 1 7) = x1) → (j_X5_piece_132 post M2 (0 : Int32))))) ∧ (¬ x2 = (8 : Int32) → (post (-1 : Int32) M2))))))))))))))))))))))
set_option maxHeartbeats 4000000 in
set_option maxRecDepth 100000 in
theorem t_X5_piece_132 (C : Cx G p s m args meth c RX5 cX5_piece 4 (some .int)) {post : Int32 → Mem → Prop} (M : Mem) (y0 : Int32) {H : Heap} {locs : List Loc} {ls : Array Slot} (w : Wd G s M H locs) (hl : lv_has ls 4 []) (h : j_X5_piece_132 post M y0) : W p l e (rmk 2) s m args below meth c H locs 0 0 (MQ below (va_Qi post (Qw G) (Af G s.heap.size)) args s 0 0 (Af G s.heap.size)) (F0 m 132 ls [.int y0]) := by
  have hx := C.1.1
  have hb := C.1.2.1
  unfold j_X5_piece_132 at h
  exact ret_i C w h dX5_piece_132
set_option maxHeartbeats 4000000 in
set_option maxRecDepth 100000 in
theorem c_X5_piece (l : Launch) (G : GG) (hG : Ag G) (sz : Nat) (M : Mem) (x1 : Int32) (x2 : Int32) (post : Int32 → Mem → Prop) (h : q_X5_piece M x1 x2 post) : Met l yX5_piece (Cond.code yX5_piece cX5_piece 4 (some .int) :: wsL_law) (rmk 2) (va_Pc [.ref (ga G 0), .int x1, .int x2] (Pw G sz M)) (va_Qi post (Qw G) (Af G sz)) 0 0 (Af G sz) := by
  refine Met.ofW (cc := cX5_piece) (maxL := 4) (ret := (some .int)) (by decide) rfl ?_
  intro p e s m args below meth c s₁ B hml hv
  obtain ⟨rfl, hsz, hE, hP⟩ := hv
  subst hsz
  have C := Cx.of (own := RX5) hG hE rfl hml B
  have w : Wd G s M s.heap [] := ⟨hP, va_S.rf⟩
  have hl := lv_entry [.ref (ga G 0), .int x1, .int x2] (n := 4) (Nat.le_of_ble_eq_true rfl)
  rw [lg_entry_eq]
  generalize (lg_sl [.ref (ga G 0), .int x1, .int x2] ++ List.replicate (4 - (lg_sl [.ref (ga G 0), .int x1, .int x2]).length) Slot.unset).toArray = ls at hl ⊢
  have hl : lv_has ls 4 [(0, .ref (ga G 0)), (1, .int x1), (2, .int x2)] := hl
  have hx := C.1.1
  have hb := C.1.2.1
  show W p l e (rmk 2) s m _ below meth c s.heap [] 0 0 _ _
  unfold q_X5_piece at h
  refine lv_aload_n hx hb dX5_piece_0 rfl (lv_at hl 0 rfl) ?_
  refine gt_5_0 C w kw_1_16 dX5_piece_1 ?_
  refine lv_iload_n hx hb dX5_piece_4 rfl (lv_at hl 1 rfl) ?_
  refine end_i w (run_VN (As := [.int x1]) C w hl.1 (c_X4_has l G C.2.2.1 _ _ 1 x1 ⟨by decide, by decide⟩ _ h) kw_13_22 kw_1_15 kn_53 kw_13_20 kw_13_21 hd_X4_has ⟨by decide, by decide⟩ (w.recv C (i := 1) (by decide) (pE_4 ⟨by decide, by decide⟩) rfl) rfl (Nat.le_of_ble_eq_true rfl) dX5_piece_5) (fun r1 M2 H locs h w => ?_)
  refine lv_if_ne (tgt := 13) hx hb dX5_piece_8 (by decide) (fun c3 => ?_) (fun c3 => ?_)
  · replace h := h.2 c3
    refine lv_aload_n hx hb dX5_piece_13 rfl (lv_at hl 0 rfl) ?_
    refine gt_5_0 C w kw_1_16 dX5_piece_14 ?_
    refine gn_4_0 C w ⟨by decide, by decide⟩ kn_13 dX5_piece_17 ?_
    refine lv_iload_n hx hb dX5_piece_20 rfl (lv_at hl 1 rfl) ?_
    have hin4 := h.1
    replace h := h.2
    have hz_hin4 := in_lt hin4
    refine pw_ldP C w (i := 8) ⟨by decide, by decide⟩ hin4 dX5_piece_21 (j := (38 + x1.toNatClampNeg)) (by omega) ?_
    refine lv_astore_n (lv' := [(3, .ref (ga G (38 + x1.toNatClampNeg))), (0, .ref (ga G 0)), (1, .int x1), (2, .int x2)]) hx hb dX5_piece_22 rfl hl (by decide) rfl (fun ls hl => ?_)
    refine lv_iload_n hx hb dX5_piece_23 rfl (lv_at hl 3 rfl) ?_
    by_cases c5 : x2 = (0 : Int32)
    · replace h := h.1 c5
      refine lv_tableIn (off := 52) (tgt := 76) hx hb dX5_piece_24 (by rw [c5]; decide) (by rw [c5]; decide) (by rw [c5]; decide) (by decide) ?_
      refine lv_aload_n hx hb dX5_piece_76 rfl (lv_at hl 0 rfl) ?_
      refine gn_1_0 C w (by omega) kn_1 dX5_piece_77 ?_
      exact ret_i C w h dX5_piece_80
    replace h := h.2 c5
    by_cases c6 : x2 = (1 : Int32)
    · replace h := h.1 c6
      refine lv_tableIn (off := 57) (tgt := 81) hx hb dX5_piece_24 (by rw [c6]; decide) (by rw [c6]; decide) (by rw [c6]; decide) (by decide) ?_
      refine lv_aload_n hx hb dX5_piece_81 rfl (lv_at hl 0 rfl) ?_
      refine gn_1_2 C w (by omega) kn_3 dX5_piece_82 ?_
      exact ret_i C w h dX5_piece_85
    replace h := h.2 c6
    by_cases c7 : x2 = (2 : Int32)
    · replace h := h.1 c7
      refine lv_tableIn (off := 62) (tgt := 86) hx hb dX5_piece_24 (by rw [c7]; decide) (by rw [c7]; decide) (by rw [c7]; decide) (by decide) ?_
      refine lv_aload_n hx hb dX5_piece_86 rfl (lv_at hl 0 rfl) ?_
      refine gn_1_1 C w (by omega) kn_2 dX5_piece_87 ?_
      exact ret_i C w h dX5_piece_90
    replace h := h.2 c7
    by_cases c8 : x2 = (3 : Int32)
    · replace h := h.1 c8
      refine lv_tableIn (off := 67) (tgt := 91) hx hb dX5_piece_24 (by rw [c8]; decide) (by rw [c8]; decide) (by rw [c8]; decide) (by decide) ?_
      refine lv_aload_n hx hb dX5_piece_91 rfl (lv_at hl 0 rfl) ?_
      refine gn_1_5 C w (by omega) kn_7 dX5_piece_92 ?_
      exact ret_i C w h dX5_piece_95
    replace h := h.2 c8
    by_cases c9 : x2 = (4 : Int32)
    · replace h := h.1 c9
      refine lv_tableIn (off := 72) (tgt := 96) hx hb dX5_piece_24 (by rw [c9]; decide) (by rw [c9]; decide) (by rw [c9]; decide) (by decide) ?_
      refine lv_aload_n hx hb dX5_piece_96 rfl (lv_at hl 0 rfl) ?_
      refine gn_1_6 C w (by omega) kn_9 dX5_piece_97 ?_
      exact ret_i C w h dX5_piece_100
    replace h := h.2 c9
    by_cases c10 : x2 = (5 : Int32)
    · replace h := h.1 c10
      refine lv_tableIn (off := 77) (tgt := 101) hx hb dX5_piece_24 (by rw [c10]; decide) (by rw [c10]; decide) (by rw [c10]; decide) (by decide) ?_
      refine lv_aload_n hx hb dX5_piece_101 rfl (lv_at hl 0 rfl) ?_
      refine gn_1_7 C w (by omega) kn_10 dX5_piece_102 ?_
      exact ret_i C w h dX5_piece_105
    replace h := h.2 c10
    by_cases c11 : x2 = (6 : Int32)
    · replace h := h.1 c11
      refine lv_tableIn (off := 82) (tgt := 106) hx hb dX5_piece_24 (by rw [c11]; decide) (by rw [c11]; decide) (by rw [c11]; decide) (by decide) ?_
      refine lv_aload_n hx hb dX5_piece_106 rfl (lv_at hl 0 rfl) ?_
      refine gn_1_8 C w (by omega) kn_12 dX5_piece_107 ?_
      exact ret_i C w h dX5_piece_110
    replace h := h.2 c11
    by_cases c12 : x2 = (7 : Int32)
    · replace h := h.1 c12
      refine lv_tableIn (off := 87) (tgt := 111) hx hb dX5_piece_24 (by rw [c12]; decide) (by rw [c12]; decide) (by rw [c12]; decide) (by decide) ?_
      refine lv_aload_n hx hb dX5_piece_111 rfl (lv_at hl 0 rfl) ?_
      refine gn_1_4 C w (by omega) kn_4 dX5_piece_112 ?_
      exact ret_i C w h dX5_piece_115
    replace h := h.2 c12
    by_cases c13 : x2 = (8 : Int32)
    · replace h := h.1 c13
      refine lv_tableIn (off := 92) (tgt := 116) hx hb dX5_piece_24 (by rw [c13]; decide) (by rw [c13]; decide) (by rw [c13]; decide) (by decide) ?_
      refine lv_aload_n hx hb dX5_piece_116 rfl (lv_at hl 1 rfl) ?_
      refine gt_5_0 C w kw_1_16 dX5_piece_117 ?_
      refine gn_4_7 C w ⟨by decide, by decide⟩ kn_22 dX5_piece_120 ?_
      refine lv_iload_n hx hb dX5_piece_123 rfl (lv_at hl 2 rfl) ?_
      refine lv_icmp_ne (tgt := 131) hx hb dX5_piece_124 (by decide) (fun c14 => ?_) (fun c14 => ?_)
      · replace h := h.2 c14
        refine lv_iconst (v := 0) hx hb dX5_piece_131 (by decide) ?_
        exact t_X5_piece_132 C M2 (0 : Int32)  w (lv_sub hl [] rfl) h
      replace h := h.1 c14
      refine lv_iconst (v := 1) hx hb dX5_piece_127 (by decide) ?_
      refine lv_goto (tgt := 132) hx hb dX5_piece_128 (by decide) ?_
      exact t_X5_piece_132 C M2 (1 : Int32)  w (lv_sub hl [] rfl) h
    replace h := h.2 c13
    have nc5 := lv_neT c5 (a := 0) (by decide)
    have nc6 := lv_neT c6 (a := 1) (by decide)
    have nc7 := lv_neT c7 (a := 2) (by decide)
    have nc8 := lv_neT c8 (a := 3) (by decide)
    have nc9 := lv_neT c9 (a := 4) (by decide)
    have nc10 := lv_neT c10 (a := 5) (by decide)
    have nc11 := lv_neT c11 (a := 6) (by decide)
    have nc12 := lv_neT c12 (a := 7) (by decide)
    have nc13 := lv_neT c13 (a := 8) (by decide)
    refine lv_tableOut (tgt := 133) hx hb dX5_piece_24 (by omega) (by decide) ?_
    refine lv_iconst (v := -1) hx hb dX5_piece_133 (by decide) ?_
    exact ret_i C w h dX5_piece_134
  replace h := h.1 c3
  refine lv_iconst (v := -1) hx hb dX5_piece_11 (by decide) ?_
  exact ret_i C w h dX5_piece_12
def q_X6_get (M : Mem) (x1 : Int32) (x2 : Int32) (post : Int32 → Mem → Prop) : Prop := vp_in (((12 : Int32) + ((6 : Int32) * x1)) + x2) 54 ∧ (post (M 58 (((12 : Int32) + ((6 : Int32) * x1)) + x2).toNatClampNeg) M)
set_option maxHeartbeats 4000000 in
set_option maxRecDepth 100000 in
theorem c_X6_get (l : Launch) (G : GG) (hG : Ag G) (sz : Nat) (M : Mem) (x1 : Int32) (x2 : Int32) (post : Int32 → Mem → Prop) (h : q_X6_get M x1 x2 post) : Met l yX6_get (Cond.code yX6_get cX6_get 3 (some .int) :: wsL_law) (rmk 1) (va_Pc [.ref (ga G 57), .int x1, .int x2] (Pw G sz M)) (va_Qi post (Qw G) (Af G sz)) 0 0 (Af G sz) := by
  refine Met.ofW (cc := cX6_get) (maxL := 3) (ret := (some .int)) (by decide) rfl ?_
  intro p e s m args below meth c s₁ B hml hv
  obtain ⟨rfl, hsz, hE, hP⟩ := hv
  subst hsz
  have C := Cx.of (own := RX6) hG hE rfl hml B
  have w : Wd G s M s.heap [] := ⟨hP, va_S.rf⟩
  have hl := lv_entry [.ref (ga G 57), .int x1, .int x2] (n := 3) (Nat.le_of_ble_eq_true rfl)
  rw [lg_entry_eq]
  generalize (lg_sl [.ref (ga G 57), .int x1, .int x2] ++ List.replicate (3 - (lg_sl [.ref (ga G 57), .int x1, .int x2]).length) Slot.unset).toArray = ls at hl ⊢
  have hl : lv_has ls 3 [(0, .ref (ga G 57)), (1, .int x1), (2, .int x2)] := hl
  have hx := C.1.1
  have hb := C.1.2.1
  show W p l e (rmk 1) s m _ below meth c s.heap [] 0 0 _ _
  unfold q_X6_get at h
  refine lv_aload_n hx hb dX6_get_0 rfl (lv_at hl 0 rfl) ?_
  refine gt_6_0 C w kw_5_0 dX6_get_1 ?_
  refine lv_bipush (v := 12) hx hb dX6_get_4 (by decide) ?_
  refine lv_bipush (v := 6) hx hb dX6_get_6 (by decide) ?_
  refine lv_iload_n hx hb dX6_get_8 rfl (lv_at hl 1 rfl) ?_
  refine lv_imul hx hb dX6_get_9 ?_
  refine lv_iadd hx hb dX6_get_10 ?_
  refine lv_iload_n hx hb dX6_get_11 rfl (lv_at hl 2 rfl) ?_
  refine lv_iadd hx hb dX6_get_12 ?_
  have hin1 := h.1
  replace h := h.2
  have hz_hin1 := in_lt hin1
  refine pw_ld C w (i := 58) (by decide) pE_58 hin1 rfl dX6_get_13 ?_
  exact ret_i C w h dX6_get_14
def j_X6_giveBy_44 (post : Int32 → Mem → Prop) (M : Mem) : Prop := post (2 : Int32) M
def q_X6_giveBy (M : Mem) (x0 : Int32) (x1 : Int32) (post : Int32 → Mem → Prop) : Prop := (x0 = (1 : Int32) → (j_X6_giveBy_44 post M)) ∧ (¬ x0 = (1 : Int32) → ((x0 = (2 : Int32) → (post (1 : Int32) M)) ∧ (¬ x0 = (2 : Int32) → ((x0 = (3 : Int32) → (post ((40 : Int32) + x1) M)) ∧ (¬ x0 = (3 : Int32) → ((x0 = (4 : Int32) → (j_X6_giveBy_44 post M)) ∧ (¬ x0 = (4 : Int32) → ((x0 = (5 : Int32) → (j_X6_giveBy_44 post M)) ∧ (¬ x0 = (5 : Int32) → ((x0 = (6 : Int32) → (post (((40 : Int32) + x1) / (2 : Int32)) M)) ∧ (¬ x0 = (6 : Int32) → ((x0 = (7 : Int32) → (post ((((40 : Int32) + x1) / (2 : Int32)) - (5 : Int32)) M)) ∧ (¬ x0 = (7 : Int32) → (post (4 : Int32) M))))))))))))))
set_option maxHeartbeats 4000000 in
set_option maxRecDepth 100000 in
theorem t_X6_giveBy_44 (C : Cx G p s m args meth c RX6 cX6_giveBy 2 (some .int)) {post : Int32 → Mem → Prop} (M : Mem) {H : Heap} {locs : List Loc} {ls : Array Slot} (w : Wd G s M H locs) (hl : lv_has ls 2 []) (h : j_X6_giveBy_44 post M) : W p l e (rmk 1) s m args below meth c H locs 0 0 (MQ below (va_Qi post (Qw G) (Af G s.heap.size)) args s 0 0 (Af G s.heap.size)) (F0 m 44 ls []) := by
  have hx := C.1.1
  have hb := C.1.2.1
  unfold j_X6_giveBy_44 at h
  refine lv_iconst (v := 2) hx hb dX6_giveBy_44 (by decide) ?_
  exact ret_i C w h dX6_giveBy_45
set_option maxHeartbeats 4000000 in
set_option maxRecDepth 100000 in
theorem c_X6_giveBy (l : Launch) (G : GG) (hG : Ag G) (sz : Nat) (M : Mem) (x0 : Int32) (x1 : Int32) (post : Int32 → Mem → Prop) (h : q_X6_giveBy M x0 x1 post) : Met l yX6_giveBy (Cond.code yX6_giveBy cX6_giveBy 2 (some .int) :: wsL_law) (rmk 1) (va_Pc [.int x0, .int x1] (Pw G sz M)) (va_Qi post (Qw G) (Af G sz)) 0 0 (Af G sz) := by
  refine Met.ofW (cc := cX6_giveBy) (maxL := 2) (ret := (some .int)) (by decide) rfl ?_
  intro p e s m args below meth c s₁ B hml hv
  obtain ⟨rfl, hsz, hE, hP⟩ := hv
  subst hsz
  have C := Cx.of (own := RX6) hG hE rfl hml B
  have w : Wd G s M s.heap [] := ⟨hP, va_S.rf⟩
  have hl := lv_entry [.int x0, .int x1] (n := 2) (Nat.le_of_ble_eq_true rfl)
  rw [lg_entry_eq]
  generalize (lg_sl [.int x0, .int x1] ++ List.replicate (2 - (lg_sl [.int x0, .int x1]).length) Slot.unset).toArray = ls at hl ⊢
  have hl : lv_has ls 2 [(0, .int x0), (1, .int x1)] := hl
  have hx := C.1.1
  have hb := C.1.2.1
  show W p l e (rmk 1) s m _ below meth c s.heap [] 0 0 _ _
  unfold q_X6_giveBy at h
  refine lv_iload_n hx hb dX6_giveBy_0 rfl (lv_at hl 0 rfl) ?_
  by_cases c1 : x0 = (1 : Int32)
  · replace h := h.1 c1
    refine lv_tableIn (off := 43) (tgt := 44) hx hb dX6_giveBy_1 (by rw [c1]; decide) (by rw [c1]; decide) (by rw [c1]; decide) (by decide) ?_
    exact t_X6_giveBy_44 C M   w (lv_sub hl [] rfl) h
  replace h := h.2 c1
  by_cases c2 : x0 = (2 : Int32)
  · replace h := h.1 c2
    refine lv_tableIn (off := 45) (tgt := 46) hx hb dX6_giveBy_1 (by rw [c2]; decide) (by rw [c2]; decide) (by rw [c2]; decide) (by decide) ?_
    refine lv_iconst (v := 1) hx hb dX6_giveBy_46 (by decide) ?_
    exact ret_i C w h dX6_giveBy_47
  replace h := h.2 c2
  by_cases c3 : x0 = (3 : Int32)
  · replace h := h.1 c3
    refine lv_tableIn (off := 47) (tgt := 48) hx hb dX6_giveBy_1 (by rw [c3]; decide) (by rw [c3]; decide) (by rw [c3]; decide) (by decide) ?_
    refine lv_bipush (v := 40) hx hb dX6_giveBy_48 (by decide) ?_
    refine lv_iload_n hx hb dX6_giveBy_50 rfl (lv_at hl 1 rfl) ?_
    refine lv_iadd hx hb dX6_giveBy_51 ?_
    exact ret_i C w h dX6_giveBy_52
  replace h := h.2 c3
  by_cases c4 : x0 = (4 : Int32)
  · replace h := h.1 c4
    refine lv_tableIn (off := 43) (tgt := 44) hx hb dX6_giveBy_1 (by rw [c4]; decide) (by rw [c4]; decide) (by rw [c4]; decide) (by decide) ?_
    exact t_X6_giveBy_44 C M   w (lv_sub hl [] rfl) h
  replace h := h.2 c4
  by_cases c5 : x0 = (5 : Int32)
  · replace h := h.1 c5
    refine lv_tableIn (off := 43) (tgt := 44) hx hb dX6_giveBy_1 (by rw [c5]; decide) (by rw [c5]; decide) (by rw [c5]; decide) (by decide) ?_
    exact t_X6_giveBy_44 C M   w (lv_sub hl [] rfl) h
  replace h := h.2 c5
  by_cases c6 : x0 = (6 : Int32)
  · replace h := h.1 c6
    refine lv_tableIn (off := 52) (tgt := 53) hx hb dX6_giveBy_1 (by rw [c6]; decide) (by rw [c6]; decide) (by rw [c6]; decide) (by decide) ?_
    refine lv_bipush (v := 40) hx hb dX6_giveBy_53 (by decide) ?_
    refine lv_iload_n hx hb dX6_giveBy_55 rfl (lv_at hl 1 rfl) ?_
    refine lv_iadd hx hb dX6_giveBy_56 ?_
    refine lv_iconst (v := 2) hx hb dX6_giveBy_57 (by decide) ?_
    refine lv_idiv hx hb dX6_giveBy_58 (by decide) ?_
    exact ret_i C w h dX6_giveBy_59
  replace h := h.2 c6
  by_cases c7 : x0 = (7 : Int32)
  · replace h := h.1 c7
    refine lv_tableIn (off := 59) (tgt := 60) hx hb dX6_giveBy_1 (by rw [c7]; decide) (by rw [c7]; decide) (by rw [c7]; decide) (by decide) ?_
    refine lv_bipush (v := 40) hx hb dX6_giveBy_60 (by decide) ?_
    refine lv_iload_n hx hb dX6_giveBy_62 rfl (lv_at hl 1 rfl) ?_
    refine lv_iadd hx hb dX6_giveBy_63 ?_
    refine lv_iconst (v := 2) hx hb dX6_giveBy_64 (by decide) ?_
    refine lv_idiv hx hb dX6_giveBy_65 (by decide) ?_
    refine lv_iconst (v := 5) hx hb dX6_giveBy_66 (by decide) ?_
    refine lv_isub hx hb dX6_giveBy_67 ?_
    exact ret_i C w h dX6_giveBy_68
  replace h := h.2 c7
  have nc1 := lv_neT c1 (a := 1) (by decide)
  have nc2 := lv_neT c2 (a := 2) (by decide)
  have nc3 := lv_neT c3 (a := 3) (by decide)
  have nc4 := lv_neT c4 (a := 4) (by decide)
  have nc5 := lv_neT c5 (a := 5) (by decide)
  have nc6 := lv_neT c6 (a := 6) (by decide)
  have nc7 := lv_neT c7 (a := 7) (by decide)
  refine lv_tableOut (tgt := 69) hx hb dX6_giveBy_1 (by omega) (by decide) ?_
  refine lv_iconst (v := 4) hx hb dX6_giveBy_69 (by decide) ?_
  exact ret_i C w h dX6_giveBy_70
def j_X6_heftBy_36 (post : Int32 → Mem → Prop) (M : Mem) : Prop := post (4 : Int32) M
def q_X6_heftBy (M : Mem) (x0 : Int32) (x1 : Int32) (post : Int32 → Mem → Prop) : Prop := (x0 = (1 : Int32) → (j_X6_heftBy_36 post M)) ∧ (¬ x0 = (1 : Int32) → ((x0 = (2 : Int32) → (post ((6 : Int32) + x1) M)) ∧ (¬ x0 = (2 : Int32) → ((x0 = (3 : Int32) → (post (1 : Int32) M)) ∧ (¬ x0 = (3 : Int32) → ((x0 = (4 : Int32) → (j_X6_heftBy_36 post M)) ∧ (¬ x0 = (4 : Int32) → ((x0 = (5 : Int32) → (post ((5 : Int32) + x1) M)) ∧ (¬ x0 = (5 : Int32) → (post (2 : Int32) M))))))))))
set_option maxHeartbeats 4000000 in
set_option maxRecDepth 100000 in
theorem t_X6_heftBy_36 (C : Cx G p s m args meth c RX6 cX6_heftBy 2 (some .int)) {post : Int32 → Mem → Prop} (M : Mem) {H : Heap} {locs : List Loc} {ls : Array Slot} (w : Wd G s M H locs) (hl : lv_has ls 2 []) (h : j_X6_heftBy_36 post M) : W p l e (rmk 1) s m args below meth c H locs 0 0 (MQ below (va_Qi post (Qw G) (Af G s.heap.size)) args s 0 0 (Af G s.heap.size)) (F0 m 36 ls []) := by
  have hx := C.1.1
  have hb := C.1.2.1
  unfold j_X6_heftBy_36 at h
  refine lv_iconst (v := 4) hx hb dX6_heftBy_36 (by decide) ?_
  exact ret_i C w h dX6_heftBy_37
set_option maxHeartbeats 4000000 in
set_option maxRecDepth 100000 in
theorem c_X6_heftBy (l : Launch) (G : GG) (hG : Ag G) (sz : Nat) (M : Mem) (x0 : Int32) (x1 : Int32) (post : Int32 → Mem → Prop) (h : q_X6_heftBy M x0 x1 post) : Met l yX6_heftBy (Cond.code yX6_heftBy cX6_heftBy 2 (some .int) :: wsL_law) (rmk 1) (va_Pc [.int x0, .int x1] (Pw G sz M)) (va_Qi post (Qw G) (Af G sz)) 0 0 (Af G sz) := by
  refine Met.ofW (cc := cX6_heftBy) (maxL := 2) (ret := (some .int)) (by decide) rfl ?_
  intro p e s m args below meth c s₁ B hml hv
  obtain ⟨rfl, hsz, hE, hP⟩ := hv
  subst hsz
  have C := Cx.of (own := RX6) hG hE rfl hml B
  have w : Wd G s M s.heap [] := ⟨hP, va_S.rf⟩
  have hl := lv_entry [.int x0, .int x1] (n := 2) (Nat.le_of_ble_eq_true rfl)
  rw [lg_entry_eq]
  generalize (lg_sl [.int x0, .int x1] ++ List.replicate (2 - (lg_sl [.int x0, .int x1]).length) Slot.unset).toArray = ls at hl ⊢
  have hl : lv_has ls 2 [(0, .int x0), (1, .int x1)] := hl
  have hx := C.1.1
  have hb := C.1.2.1
  show W p l e (rmk 1) s m _ below meth c s.heap [] 0 0 _ _
  unfold q_X6_heftBy at h
  refine lv_iload_n hx hb dX6_heftBy_0 rfl (lv_at hl 0 rfl) ?_
  by_cases c1 : x0 = (1 : Int32)
  · replace h := h.1 c1
    refine lv_tableIn (off := 35) (tgt := 36) hx hb dX6_heftBy_1 (by rw [c1]; decide) (by rw [c1]; decide) (by rw [c1]; decide) (by decide) ?_
    exact t_X6_heftBy_36 C M   w (lv_sub hl [] rfl) h
  replace h := h.2 c1
  by_cases c2 : x0 = (2 : Int32)
  · replace h := h.1 c2
    refine lv_tableIn (off := 37) (tgt := 38) hx hb dX6_heftBy_1 (by rw [c2]; decide) (by rw [c2]; decide) (by rw [c2]; decide) (by decide) ?_
    refine lv_bipush (v := 6) hx hb dX6_heftBy_38 (by decide) ?_
    refine lv_iload_n hx hb dX6_heftBy_40 rfl (lv_at hl 1 rfl) ?_
    refine lv_iadd hx hb dX6_heftBy_41 ?_
    exact ret_i C w h dX6_heftBy_42
  replace h := h.2 c2
  by_cases c3 : x0 = (3 : Int32)
  · replace h := h.1 c3
    refine lv_tableIn (off := 42) (tgt := 43) hx hb dX6_heftBy_1 (by rw [c3]; decide) (by rw [c3]; decide) (by rw [c3]; decide) (by decide) ?_
    refine lv_iconst (v := 1) hx hb dX6_heftBy_43 (by decide) ?_
    exact ret_i C w h dX6_heftBy_44
  replace h := h.2 c3
  by_cases c4 : x0 = (4 : Int32)
  · replace h := h.1 c4
    refine lv_tableIn (off := 35) (tgt := 36) hx hb dX6_heftBy_1 (by rw [c4]; decide) (by rw [c4]; decide) (by rw [c4]; decide) (by decide) ?_
    exact t_X6_heftBy_36 C M   w (lv_sub hl [] rfl) h
  replace h := h.2 c4
  by_cases c5 : x0 = (5 : Int32)
  · replace h := h.1 c5
    refine lv_tableIn (off := 44) (tgt := 45) hx hb dX6_heftBy_1 (by rw [c5]; decide) (by rw [c5]; decide) (by rw [c5]; decide) (by decide) ?_
    refine lv_iconst (v := 5) hx hb dX6_heftBy_45 (by decide) ?_
    refine lv_iload_n hx hb dX6_heftBy_46 rfl (lv_at hl 1 rfl) ?_
    refine lv_iadd hx hb dX6_heftBy_47 ?_
    exact ret_i C w h dX6_heftBy_48
  replace h := h.2 c5
  have nc1 := lv_neT c1 (a := 1) (by decide)
  have nc2 := lv_neT c2 (a := 2) (by decide)
  have nc3 := lv_neT c3 (a := 3) (by decide)
  have nc4 := lv_neT c4 (a := 4) (by decide)
  have nc5 := lv_neT c5 (a := 5) (by decide)
  refine lv_tableOut (tgt := 49) hx hb dX6_heftBy_1 (by omega) (by decide) ?_
  refine lv_iconst (v := 2) hx hb dX6_heftBy_49 (by decide) ?_
  exact ret_i C w h dX6_heftBy_50
def q_X6_isPiece (M : Mem) (x1 : Int32) (post : Int32 → Mem → Prop) : Prop := q_X6_isIn M x1.toInt64 (0 : Int64) (((M 58 0) - (1 : Int32)).toInt64) (fun r1 M2 => (r1 = 0 ∨ r1 = 1) ∧ post r1 M2)
set_option maxHeartbeats 4000000 in
set_option maxRecDepth 100000 in
theorem c_X6_isPiece (l : Launch) (G : GG) (hG : Ag G) (sz : Nat) (M : Mem) (x1 : Int32) (post : Int32 → Mem → Prop) (h : q_X6_isPiece M x1 post) : Met l yX6_isPiece (Cond.code yX6_isPiece cX6_isPiece 2 (some .boolean) :: wsL_law) (rmk 2) (va_Pc [.ref (ga G 57), .int x1] (Pw G sz M)) (va_Qi post (Qw G) (Af G sz)) 0 0 (Af G sz) := by
  refine Met.ofW (cc := cX6_isPiece) (maxL := 2) (ret := (some .boolean)) (by decide) rfl ?_
  intro p e s m args below meth c s₁ B hml hv
  obtain ⟨rfl, hsz, hE, hP⟩ := hv
  subst hsz
  have C := Cx.of (own := RX6) hG hE rfl hml B
  have w : Wd G s M s.heap [] := ⟨hP, va_S.rf⟩
  have hl := lv_entry [.ref (ga G 57), .int x1] (n := 2) (Nat.le_of_ble_eq_true rfl)
  rw [lg_entry_eq]
  generalize (lg_sl [.ref (ga G 57), .int x1] ++ List.replicate (2 - (lg_sl [.ref (ga G 57), .int x1]).length) Slot.unset).toArray = ls at hl ⊢
  have hl : lv_has ls 2 [(0, .ref (ga G 57)), (1, .int x1)] := hl
  have hx := C.1.1
  have hb := C.1.2.1
  show W p l e (rmk 2) s m _ below meth c s.heap [] 0 0 _ _
  unfold q_X6_isPiece at h
  refine lv_iload_n hx hb dX6_isPiece_0 rfl (lv_at hl 1 rfl) ?_
  refine lv_i2l hx hb dX6_isPiece_1 rfl ?_
  refine lv_lconst (v := 0) hx hb dX6_isPiece_2 (by decide) ?_
  refine lv_aload_n hx hb dX6_isPiece_3 rfl (lv_at hl 0 rfl) ?_
  refine gt_6_0 C w kw_5_0 dX6_isPiece_4 ?_
  refine lv_iconst (v := 0) hx hb dX6_isPiece_7 (by decide) ?_
  refine pw_ld C w (i := 58) (by decide) pE_58 (vl (x := (0 : Int32)) (by decide)) (k := 0) (by decide) dX6_isPiece_8 ?_
  refine lv_iconst (v := 1) hx hb dX6_isPiece_9 (by decide) ?_
  refine lv_isub hx hb dX6_isPiece_10 ?_
  refine lv_i2l hx hb dX6_isPiece_11 rfl ?_
  refine end_i w (run_S (As := [.long x1.toInt64, .long (0 : Int64), .long ((M 58 0) - (1 : Int32)).toInt64]) C w hl.1 (c_X6_isIn l G C.2.2.1 _ _ x1.toInt64 (0 : Int64) (((M 58 0) - (1 : Int32)).toInt64)  _ h) kw_12_5 kw_1_5 kw_12_3 kw_12_4 hd_X6_isIn ⟨by decide, by decide⟩ rfl (Nat.le_of_ble_eq_true rfl) dX6_isPiece_12) (fun r1 M2 H locs h w => ?_)
  exact ret_z C w h dX6_isPiece_15
def q_X6_strengthBy (M : Mem) (x0 : Int32) (x1 : Int32) (post : Int32 → Mem → Prop) : Prop := (x0 = (1 : Int32) → (post (500 : Int32) M)) ∧ (¬ x0 = (1 : Int32) → ((x0 = (2 : Int32) → (post (600 : Int32) M)) ∧ (¬ x0 = (2 : Int32) → ((x0 = (3 : Int32) → (post (250 : Int32) M)) ∧ (¬ x0 = (3 : Int32) → ((x0 = (4 : Int32) → (post ((500 : Int32) - ((20 : Int32) * x1)) M)) ∧ (¬ x0 = (4 : Int32) → ((x0 = (5 : Int32) → (post ((600 : Int32) - ((10 : Int32) * x1)) M)) ∧ (¬ x0 = (5 : Int32) → ((x0 = (6 : Int32) → (post ((250 : Int32) - ((5 : Int32) * x1)) M)) ∧ (¬ x0 = (6 : Int32) → ((x0 = (7 : Int32) → (post (((250 : Int32) - ((5 : Int32) * x1)) / (2 : Int32)) M)) ∧ (¬ x0 = (7 : Int32) → (post (300 : Int32) M))))))))))))))
set_option maxHeartbeats 4000000 in
set_option maxRecDepth 100000 in
theorem c_X6_strengthBy (l : Launch) (G : GG) (hG : Ag G) (sz : Nat) (M : Mem) (x0 : Int32) (x1 : Int32) (post : Int32 → Mem → Prop) (h : q_X6_strengthBy M x0 x1 post) : Met l yX6_strengthBy (Cond.code yX6_strengthBy cX6_strengthBy 2 (some .int) :: wsL_law) (rmk 1) (va_Pc [.int x0, .int x1] (Pw G sz M)) (va_Qi post (Qw G) (Af G sz)) 0 0 (Af G sz) := by
  refine Met.ofW (cc := cX6_strengthBy) (maxL := 2) (ret := (some .int)) (by decide) rfl ?_
  intro p e s m args below meth c s₁ B hml hv
  obtain ⟨rfl, hsz, hE, hP⟩ := hv
  subst hsz
  have C := Cx.of (own := RX6) hG hE rfl hml B
  have w : Wd G s M s.heap [] := ⟨hP, va_S.rf⟩
  have hl := lv_entry [.int x0, .int x1] (n := 2) (Nat.le_of_ble_eq_true rfl)
  rw [lg_entry_eq]
  generalize (lg_sl [.int x0, .int x1] ++ List.replicate (2 - (lg_sl [.int x0, .int x1]).length) Slot.unset).toArray = ls at hl ⊢
  have hl : lv_has ls 2 [(0, .int x0), (1, .int x1)] := hl
  have hx := C.1.1
  have hb := C.1.2.1
  show W p l e (rmk 1) s m _ below meth c s.heap [] 0 0 _ _
  unfold q_X6_strengthBy at h
  refine lv_iload_n hx hb dX6_strengthBy_0 rfl (lv_at hl 0 rfl) ?_
  by_cases c1 : x0 = (1 : Int32)
  · replace h := h.1 c1
    refine lv_tableIn (off := 43) (tgt := 44) hx hb dX6_strengthBy_1 (by rw [c1]; decide) (by rw [c1]; decide) (by rw [c1]; decide) (by decide) ?_
    refine lv_sipush (v := 500) hx hb dX6_strengthBy_44 (by decide) ?_
    exact ret_i C w h dX6_strengthBy_47
  replace h := h.2 c1
  by_cases c2 : x0 = (2 : Int32)
  · replace h := h.1 c2
    refine lv_tableIn (off := 47) (tgt := 48) hx hb dX6_strengthBy_1 (by rw [c2]; decide) (by rw [c2]; decide) (by rw [c2]; decide) (by decide) ?_
    refine lv_sipush (v := 600) hx hb dX6_strengthBy_48 (by decide) ?_
    exact ret_i C w h dX6_strengthBy_51
  replace h := h.2 c2
  by_cases c3 : x0 = (3 : Int32)
  · replace h := h.1 c3
    refine lv_tableIn (off := 51) (tgt := 52) hx hb dX6_strengthBy_1 (by rw [c3]; decide) (by rw [c3]; decide) (by rw [c3]; decide) (by decide) ?_
    refine lv_sipush (v := 250) hx hb dX6_strengthBy_52 (by decide) ?_
    exact ret_i C w h dX6_strengthBy_55
  replace h := h.2 c3
  by_cases c4 : x0 = (4 : Int32)
  · replace h := h.1 c4
    refine lv_tableIn (off := 55) (tgt := 56) hx hb dX6_strengthBy_1 (by rw [c4]; decide) (by rw [c4]; decide) (by rw [c4]; decide) (by decide) ?_
    refine lv_sipush (v := 500) hx hb dX6_strengthBy_56 (by decide) ?_
    refine lv_bipush (v := 20) hx hb dX6_strengthBy_59 (by decide) ?_
    refine lv_iload_n hx hb dX6_strengthBy_61 rfl (lv_at hl 1 rfl) ?_
    refine lv_imul hx hb dX6_strengthBy_62 ?_
    refine lv_isub hx hb dX6_strengthBy_63 ?_
    exact ret_i C w h dX6_strengthBy_64
  replace h := h.2 c4
  by_cases c5 : x0 = (5 : Int32)
  · replace h := h.1 c5
    refine lv_tableIn (off := 64) (tgt := 65) hx hb dX6_strengthBy_1 (by rw [c5]; decide) (by rw [c5]; decide) (by rw [c5]; decide) (by decide) ?_
    refine lv_sipush (v := 600) hx hb dX6_strengthBy_65 (by decide) ?_
    refine lv_bipush (v := 10) hx hb dX6_strengthBy_68 (by decide) ?_
    refine lv_iload_n hx hb dX6_strengthBy_70 rfl (lv_at hl 1 rfl) ?_
    refine lv_imul hx hb dX6_strengthBy_71 ?_
    refine lv_isub hx hb dX6_strengthBy_72 ?_
    exact ret_i C w h dX6_strengthBy_73
  replace h := h.2 c5
  by_cases c6 : x0 = (6 : Int32)
  · replace h := h.1 c6
    refine lv_tableIn (off := 73) (tgt := 74) hx hb dX6_strengthBy_1 (by rw [c6]; decide) (by rw [c6]; decide) (by rw [c6]; decide) (by decide) ?_
    refine lv_sipush (v := 250) hx hb dX6_strengthBy_74 (by decide) ?_
    refine lv_iconst (v := 5) hx hb dX6_strengthBy_77 (by decide) ?_
    refine lv_iload_n hx hb dX6_strengthBy_78 rfl (lv_at hl 1 rfl) ?_
    refine lv_imul hx hb dX6_strengthBy_79 ?_
    refine lv_isub hx hb dX6_strengthBy_80 ?_
    exact ret_i C w h dX6_strengthBy_81
  replace h := h.2 c6
  by_cases c7 : x0 = (7 : Int32)
  · replace h := h.1 c7
    refine lv_tableIn (off := 81) (tgt := 82) hx hb dX6_strengthBy_1 (by rw [c7]; decide) (by rw [c7]; decide) (by rw [c7]; decide) (by decide) ?_
    refine lv_sipush (v := 250) hx hb dX6_strengthBy_82 (by decide) ?_
    refine lv_iconst (v := 5) hx hb dX6_strengthBy_85 (by decide) ?_
    refine lv_iload_n hx hb dX6_strengthBy_86 rfl (lv_at hl 1 rfl) ?_
    refine lv_imul hx hb dX6_strengthBy_87 ?_
    refine lv_isub hx hb dX6_strengthBy_88 ?_
    refine lv_iconst (v := 2) hx hb dX6_strengthBy_89 (by decide) ?_
    refine lv_idiv hx hb dX6_strengthBy_90 (by decide) ?_
    exact ret_i C w h dX6_strengthBy_91
  replace h := h.2 c7
  have nc1 := lv_neT c1 (a := 1) (by decide)
  have nc2 := lv_neT c2 (a := 2) (by decide)
  have nc3 := lv_neT c3 (a := 3) (by decide)
  have nc4 := lv_neT c4 (a := 4) (by decide)
  have nc5 := lv_neT c5 (a := 5) (by decide)
  have nc6 := lv_neT c6 (a := 6) (by decide)
  have nc7 := lv_neT c7 (a := 7) (by decide)
  refine lv_tableOut (tgt := 92) hx hb dX6_strengthBy_1 (by omega) (by decide) ?_
  refine lv_sipush (v := 300) hx hb dX6_strengthBy_92 (by decide) ?_
  exact ret_i C w h dX6_strengthBy_95
def j_X6_wearBy_54 (post : Int32 → Mem → Prop) (M : Mem) : Prop := post (1 : Int32) M
def j_X6_wearBy_42 (post : Int32 → Mem → Prop) (M : Mem) : Prop := post (3 : Int32) M
def q_X6_wearBy (M : Mem) (x0 : Int32) (x1 : Int32) (post : Int32 → Mem → Prop) : Prop := (x0 = (2 : Int32) → (post (0 : Int32) M)) ∧ (¬ x0 = (2 : Int32) → ((x0 = (3 : Int32) → (j_X6_wearBy_42 post M)) ∧ (¬ x0 = (3 : Int32) → ((x0 = (4 : Int32) → (j_X6_wearBy_42 post M)) ∧ (¬ x0 = (4 : Int32) → ((x0 = (5 : Int32) → (j_X6_wearBy_54 post M)) ∧ (¬ x0 = (5 : Int32) → ((x0 = (6 : Int32) → (post ((3 : Int32) + x1) M)) ∧ (¬ x0 = (6 : Int32) → ((x0 = (7 : Int32) → (post ((2 : Int32) * ((3 : Int32) + x1)) M)) ∧ (¬ x0 = (7 : Int32) → (j_X6_wearBy_54 post M))))))))))))
set_option maxHeartbeats 4000000 in
set_option maxRecDepth 100000 in
theorem t_X6_wearBy_54 (C : Cx G p s m args meth c RX6 cX6_wearBy 2 (some .int)) {post : Int32 → Mem → Prop} (M : Mem) {H : Heap} {locs : List Loc} {ls : Array Slot} (w : Wd G s M H locs) (hl : lv_has ls 2 []) (h : j_X6_wearBy_54 post M) : W p l e (rmk 1) s m args below meth c H locs 0 0 (MQ below (va_Qi post (Qw G) (Af G s.heap.size)) args s 0 0 (Af G s.heap.size)) (F0 m 54 ls []) := by
  have hx := C.1.1
  have hb := C.1.2.1
  unfold j_X6_wearBy_54 at h
  refine lv_iconst (v := 1) hx hb dX6_wearBy_54 (by decide) ?_
  exact ret_i C w h dX6_wearBy_55
set_option maxHeartbeats 4000000 in
set_option maxRecDepth 100000 in
theorem t_X6_wearBy_42 (C : Cx G p s m args meth c RX6 cX6_wearBy 2 (some .int)) {post : Int32 → Mem → Prop} (M : Mem) {H : Heap} {locs : List Loc} {ls : Array Slot} (w : Wd G s M H locs) (hl : lv_has ls 2 []) (h : j_X6_wearBy_42 post M) : W p l e (rmk 1) s m args below meth c H locs 0 0 (MQ below (va_Qi post (Qw G) (Af G s.heap.size)) args s 0 0 (Af G s.heap.size)) (F0 m 42 ls []) := by
  have hx := C.1.1
  have hb := C.1.2.1
  unfold j_X6_wearBy_42 at h
  refine lv_iconst (v := 3) hx hb dX6_wearBy_42 (by decide) ?_
  exact ret_i C w h dX6_wearBy_43
set_option maxHeartbeats 4000000 in
set_option maxRecDepth 100000 in
theorem c_X6_wearBy (l : Launch) (G : GG) (hG : Ag G) (sz : Nat) (M : Mem) (x0 : Int32) (x1 : Int32) (post : Int32 → Mem → Prop) (h : q_X6_wearBy M x0 x1 post) : Met l yX6_wearBy (Cond.code yX6_wearBy cX6_wearBy 2 (some .int) :: wsL_law) (rmk 1) (va_Pc [.int x0, .int x1] (Pw G sz M)) (va_Qi post (Qw G) (Af G sz)) 0 0 (Af G sz) := by
  refine Met.ofW (cc := cX6_wearBy) (maxL := 2) (ret := (some .int)) (by decide) rfl ?_
  intro p e s m args below meth c s₁ B hml hv
  obtain ⟨rfl, hsz, hE, hP⟩ := hv
  subst hsz
  have C := Cx.of (own := RX6) hG hE rfl hml B
  have w : Wd G s M s.heap [] := ⟨hP, va_S.rf⟩
  have hl := lv_entry [.int x0, .int x1] (n := 2) (Nat.le_of_ble_eq_true rfl)
  rw [lg_entry_eq]
  generalize (lg_sl [.int x0, .int x1] ++ List.replicate (2 - (lg_sl [.int x0, .int x1]).length) Slot.unset).toArray = ls at hl ⊢
  have hl : lv_has ls 2 [(0, .int x0), (1, .int x1)] := hl
  have hx := C.1.1
  have hb := C.1.2.1
  show W p l e (rmk 1) s m _ below meth c s.heap [] 0 0 _ _
  unfold q_X6_wearBy at h
  refine lv_iload_n hx hb dX6_wearBy_0 rfl (lv_at hl 0 rfl) ?_
  by_cases c1 : x0 = (2 : Int32)
  · replace h := h.1 c1
    refine lv_tableIn (off := 39) (tgt := 40) hx hb dX6_wearBy_1 (by rw [c1]; decide) (by rw [c1]; decide) (by rw [c1]; decide) (by decide) ?_
    refine lv_iconst (v := 0) hx hb dX6_wearBy_40 (by decide) ?_
    exact ret_i C w h dX6_wearBy_41
  replace h := h.2 c1
  by_cases c2 : x0 = (3 : Int32)
  · replace h := h.1 c2
    refine lv_tableIn (off := 41) (tgt := 42) hx hb dX6_wearBy_1 (by rw [c2]; decide) (by rw [c2]; decide) (by rw [c2]; decide) (by decide) ?_
    exact t_X6_wearBy_42 C M   w (lv_sub hl [] rfl) h
  replace h := h.2 c2
  by_cases c3 : x0 = (4 : Int32)
  · replace h := h.1 c3
    refine lv_tableIn (off := 41) (tgt := 42) hx hb dX6_wearBy_1 (by rw [c3]; decide) (by rw [c3]; decide) (by rw [c3]; decide) (by decide) ?_
    exact t_X6_wearBy_42 C M   w (lv_sub hl [] rfl) h
  replace h := h.2 c3
  by_cases c4 : x0 = (5 : Int32)
  · replace h := h.1 c4
    refine lv_tableIn (off := 53) (tgt := 54) hx hb dX6_wearBy_1 (by rw [c4]; decide) (by rw [c4]; decide) (by rw [c4]; decide) (by decide) ?_
    exact t_X6_wearBy_54 C M   w (lv_sub hl [] rfl) h
  replace h := h.2 c4
  by_cases c5 : x0 = (6 : Int32)
  · replace h := h.1 c5
    refine lv_tableIn (off := 43) (tgt := 44) hx hb dX6_wearBy_1 (by rw [c5]; decide) (by rw [c5]; decide) (by rw [c5]; decide) (by decide) ?_
    refine lv_iconst (v := 3) hx hb dX6_wearBy_44 (by decide) ?_
    refine lv_iload_n hx hb dX6_wearBy_45 rfl (lv_at hl 1 rfl) ?_
    refine lv_iadd hx hb dX6_wearBy_46 ?_
    exact ret_i C w h dX6_wearBy_47
  replace h := h.2 c5
  by_cases c6 : x0 = (7 : Int32)
  · replace h := h.1 c6
    refine lv_tableIn (off := 47) (tgt := 48) hx hb dX6_wearBy_1 (by rw [c6]; decide) (by rw [c6]; decide) (by rw [c6]; decide) (by decide) ?_
    refine lv_iconst (v := 2) hx hb dX6_wearBy_48 (by decide) ?_
    refine lv_iconst (v := 3) hx hb dX6_wearBy_49 (by decide) ?_
    refine lv_iload_n hx hb dX6_wearBy_50 rfl (lv_at hl 1 rfl) ?_
    refine lv_iadd hx hb dX6_wearBy_51 ?_
    refine lv_imul hx hb dX6_wearBy_52 ?_
    exact ret_i C w h dX6_wearBy_53
  replace h := h.2 c6
  have nc1 := lv_neT c1 (a := 2) (by decide)
  have nc2 := lv_neT c2 (a := 3) (by decide)
  have nc3 := lv_neT c3 (a := 4) (by decide)
  have nc4 := lv_neT c4 (a := 5) (by decide)
  have nc5 := lv_neT c5 (a := 6) (by decide)
  have nc6 := lv_neT c6 (a := 7) (by decide)
  refine lv_tableOut (tgt := 54) hx hb dX6_wearBy_1 (by omega) (by decide) ?_
  exact t_X6_wearBy_54 C M   w (lv_sub hl [] rfl) h
def q_X6_piece (M : Mem) (x1 : Int32) (x2 : Int32) (post : Int32 → Mem → Prop) : Prop := q_X6_isPiece M x1 (fun r1 M2 => (r1 = 0 → (post (-1 : Int32) M2)) ∧ (¬ (r1 = 0) → (q_X6_get M2 x1 (0 : Int32) (fun r4 M5 => q_X6_get M5 x1 (1 : Int32) (fun r6 M7 => (x2 = (0 : Int32) → (post r4 M7)) ∧ (¬ x2 = (0 : Int32) → ((x2 = (1 : Int32) → (q_X6_get M7 x1 (2 : Int32) (fun r10 M11 => post r10 M11))) ∧ (¬ x2 = (1 : Int32) → ((x2 = (2 : Int32) → (post r6 M7)) ∧ (¬ x2 = (2 : Int32) → ((x2 = (3 : Int32) → (q_X6_heftBy M7 r4 r6 (fun r14 M15 => post r14 M15))) ∧ (¬ x2 = (3 : Int32) → ((x2 = (4 : Int32) → (q_X6_giveBy M7 r4 r6 (fun r17 M18 => post r17 M18))) ∧ (¬ x2 = (4 : Int32) → ((x2 = (5 : Int32) → (q_X6_strengthBy M7 r4 r6 (fun r20 M21 => post r20 M21))) ∧ (¬ x2 = (5 : Int32) → ((x2 = (6 : Int32) → (q_X6_wearBy M7 r4 r6 (fun r23 M24 => post r23 M24))) ∧ (¬ x2 = (6 : Int32) → ((x2 = (7 : Int32) → (q_X6_get M7 x1 (3 : Int32) (fun r26 M27 => post r26 M27))) ∧ (¬ x2 = (7 : Int32) → ((x2 = (8 : Int32) → (q_X6_get M7 x1 (4 : Int32) (fun r29 M30 => post r29 M30))) ∧ (¬ x2 = (8 : Int32) → (post (-1 : Int32) M7)))))))))))))))))))))))
set_option maxHeartbeats 4000000 in
set_option maxRecDepth 100000 in
theorem c_X6_piece (l : Launch) (G : GG) (hG : Ag G) (sz : Nat) (M : Mem) (x1 : Int32) (x2 : Int32) (post : Int32 → Mem → Prop) (h : q_X6_piece M x1 x2 post) : Met l yX6_piece (Cond.code yX6_piece cX6_piece 5 (some .int) :: wsL_law) (rmk 3) (va_Pc [.ref (ga G 57), .int x1, .int x2] (Pw G sz M)) (va_Qi post (Qw G) (Af G sz)) 0 0 (Af G sz) := by
  refine Met.ofW (cc := cX6_piece) (maxL := 5) (ret := (some .int)) (by decide) rfl ?_
  intro p e s m args below meth c s₁ B hml hv
  obtain ⟨rfl, hsz, hE, hP⟩ := hv
  subst hsz
  have C := Cx.of (own := RX6) hG hE rfl hml B
  have w : Wd G s M s.heap [] := ⟨hP, va_S.rf⟩
  have hl := lv_entry [.ref (ga G 57), .int x1, .int x2] (n := 5) (Nat.le_of_ble_eq_true rfl)
  rw [lg_entry_eq]
  generalize (lg_sl [.ref (ga G 57), .int x1, .int x2] ++ List.replicate (5 - (lg_sl [.ref (ga G 57), .int x1, .int x2]).length) Slot.unset).toArray = ls at hl ⊢
  have hl : lv_has ls 5 [(0, .ref (ga G 57)), (1, .int x1), (2, .int x2)] := hl
  have hx := C.1.1
  have hb := C.1.2.1
  show W p l e (rmk 3) s m _ below meth c s.heap [] 0 0 _ _
  unfold q_X6_piece at h
  refine lv_aload_n hx hb dX6_piece_0 rfl (lv_at hl 0 rfl) ?_
  refine lv_iload_n hx hb dX6_piece_1 rfl (lv_at hl 1 rfl) ?_
  refine end_i w (run_V (As := [.int x1]) C w hl.1 (c_X6_isPiece l G C.2.2.1 _ _ x1  _ h) kw_14_6 kw_1_5 kw_14_3 kw_14_4 kw_14_5 hd_X6_isPiece ⟨by decide, by decide⟩ (w.recv C (i := 57) (by decide) (pE_6) rfl) rfl (Nat.le_of_ble_eq_true rfl) dX6_piece_2) (fun r1 M2 H locs h w => ?_)
  refine lv_if_ne (tgt := 10) hx hb dX6_piece_5 (by decide) (fun c3 => ?_) (fun c3 => ?_)
  · replace h := h.2 c3
    refine lv_aload_n hx hb dX6_piece_10 rfl (lv_at hl 0 rfl) ?_
    refine lv_iload_n hx hb dX6_piece_11 rfl (lv_at hl 1 rfl) ?_
    refine lv_iconst (v := 0) hx hb dX6_piece_12 (by decide) ?_
    refine end_i w (run_V (As := [.int x1, .int (0 : Int32)]) C w hl.1 (c_X6_get l G C.2.2.1 _ _ x1 (0 : Int32)  _ h) kw_14_10 kw_1_5 kw_14_7 kw_14_8 kw_14_9 hd_X6_get ⟨by decide, by decide⟩ (w.recv C (i := 57) (by decide) (pE_6) rfl) rfl (Nat.le_of_ble_eq_true rfl) dX6_piece_13) (fun r4 M5 H locs h w => ?_)
    refine lv_istore_n (lv' := [(3, .int r4), (0, .ref (ga G 57)), (1, .int x1), (2, .int x2)]) hx hb dX6_piece_16 rfl hl (by decide) rfl (fun ls hl => ?_)
    refine lv_aload_n hx hb dX6_piece_17 rfl (lv_at hl 1 rfl) ?_
    refine lv_iload_n hx hb dX6_piece_18 rfl (lv_at hl 2 rfl) ?_
    refine lv_iconst (v := 1) hx hb dX6_piece_19 (by decide) ?_
    refine end_i w (run_V (As := [.int x1, .int (1 : Int32)]) C w hl.1 (c_X6_get l G C.2.2.1 _ _ x1 (1 : Int32)  _ h) kw_14_10 kw_1_5 kw_14_7 kw_14_8 kw_14_9 hd_X6_get ⟨by decide, by decide⟩ (w.recv C (i := 57) (by decide) (pE_6) rfl) rfl (Nat.le_of_ble_eq_true rfl) dX6_piece_20) (fun r6 M7 H locs h w => ?_)
    refine lv_istore (lv' := [(4, .int r6), (3, .int r4), (0, .ref (ga G 57)), (1, .int x1), (2, .int x2)]) hx hb dX6_piece_23 hl (by decide) rfl (fun ls hl => ?_)
    refine lv_iload_n hx hb dX6_piece_25 rfl (lv_at hl 4 rfl) ?_
    by_cases c8 : x2 = (0 : Int32)
    · replace h := h.1 c8
      refine lv_tableIn (off := 50) (tgt := 76) hx hb dX6_piece_26 (by rw [c8]; decide) (by rw [c8]; decide) (by rw [c8]; decide) (by decide) ?_
      refine lv_iload_n hx hb dX6_piece_76 rfl (lv_at hl 1 rfl) ?_
      exact ret_i C w h dX6_piece_77
    replace h := h.2 c8
    by_cases c9 : x2 = (1 : Int32)
    · replace h := h.1 c9
      refine lv_tableIn (off := 52) (tgt := 78) hx hb dX6_piece_26 (by rw [c9]; decide) (by rw [c9]; decide) (by rw [c9]; decide) (by decide) ?_
      refine lv_aload_n hx hb dX6_piece_78 rfl (lv_at hl 2 rfl) ?_
      refine lv_iload_n hx hb dX6_piece_79 rfl (lv_at hl 3 rfl) ?_
      refine lv_iconst (v := 2) hx hb dX6_piece_80 (by decide) ?_
      refine end_i w (run_V (As := [.int x1, .int (2 : Int32)]) C w hl.1 (c_X6_get l G C.2.2.1 _ _ x1 (2 : Int32)  _ h) kw_14_10 kw_1_5 kw_14_7 kw_14_8 kw_14_9 hd_X6_get ⟨by decide, by decide⟩ (w.recv C (i := 57) (by decide) (pE_6) rfl) rfl (Nat.le_of_ble_eq_true rfl) dX6_piece_81) (fun r10 M11 H locs h w => ?_)
      exact ret_i C w h dX6_piece_84
    replace h := h.2 c9
    by_cases c12 : x2 = (2 : Int32)
    · replace h := h.1 c12
      refine lv_tableIn (off := 59) (tgt := 85) hx hb dX6_piece_26 (by rw [c12]; decide) (by rw [c12]; decide) (by rw [c12]; decide) (by decide) ?_
      refine lv_iload hx hb dX6_piece_85 (lv_at hl 0 rfl) ?_
      exact ret_i C w h dX6_piece_87
    replace h := h.2 c12
    by_cases c13 : x2 = (3 : Int32)
    · replace h := h.1 c13
      refine lv_tableIn (off := 62) (tgt := 88) hx hb dX6_piece_26 (by rw [c13]; decide) (by rw [c13]; decide) (by rw [c13]; decide) (by decide) ?_
      refine lv_iload_n hx hb dX6_piece_88 rfl (lv_at hl 1 rfl) ?_
      refine lv_iload hx hb dX6_piece_89 (lv_at hl 0 rfl) ?_
      refine end_i w (run_S (As := [.int r4, .int r6]) C w hl.1 (c_X6_heftBy l G C.2.2.1 _ _ r4 r6  _ h) kw_14_13 kw_1_5 kw_14_11 kw_14_12 hd_X6_heftBy ⟨by decide, by decide⟩ rfl (Nat.le_of_ble_eq_true rfl) dX6_piece_91) (fun r14 M15 H locs h w => ?_)
      exact ret_i C w h dX6_piece_94
    replace h := h.2 c13
    by_cases c16 : x2 = (4 : Int32)
    · replace h := h.1 c16
      refine lv_tableIn (off := 69) (tgt := 95) hx hb dX6_piece_26 (by rw [c16]; decide) (by rw [c16]; decide) (by rw [c16]; decide) (by decide) ?_
      refine lv_iload_n hx hb dX6_piece_95 rfl (lv_at hl 1 rfl) ?_
      refine lv_iload hx hb dX6_piece_96 (lv_at hl 0 rfl) ?_
      refine end_i w (run_S (As := [.int r4, .int r6]) C w hl.1 (c_X6_giveBy l G C.2.2.1 _ _ r4 r6  _ h) kw_14_16 kw_1_5 kw_14_14 kw_14_15 hd_X6_giveBy ⟨by decide, by decide⟩ rfl (Nat.le_of_ble_eq_true rfl) dX6_piece_98) (fun r17 M18 H locs h w => ?_)
      exact ret_i C w h dX6_piece_101
    replace h := h.2 c16
    by_cases c19 : x2 = (5 : Int32)
    · replace h := h.1 c19
      refine lv_tableIn (off := 76) (tgt := 102) hx hb dX6_piece_26 (by rw [c19]; decide) (by rw [c19]; decide) (by rw [c19]; decide) (by decide) ?_
      refine lv_iload_n hx hb dX6_piece_102 rfl (lv_at hl 1 rfl) ?_
      refine lv_iload hx hb dX6_piece_103 (lv_at hl 0 rfl) ?_
      refine end_i w (run_S (As := [.int r4, .int r6]) C w hl.1 (c_X6_strengthBy l G C.2.2.1 _ _ r4 r6  _ h) kw_14_19 kw_1_5 kw_14_17 kw_14_18 hd_X6_strengthBy ⟨by decide, by decide⟩ rfl (Nat.le_of_ble_eq_true rfl) dX6_piece_105) (fun r20 M21 H locs h w => ?_)
      exact ret_i C w h dX6_piece_108
    replace h := h.2 c19
    by_cases c22 : x2 = (6 : Int32)
    · replace h := h.1 c22
      refine lv_tableIn (off := 83) (tgt := 109) hx hb dX6_piece_26 (by rw [c22]; decide) (by rw [c22]; decide) (by rw [c22]; decide) (by decide) ?_
      refine lv_iload_n hx hb dX6_piece_109 rfl (lv_at hl 1 rfl) ?_
      refine lv_iload hx hb dX6_piece_110 (lv_at hl 0 rfl) ?_
      refine end_i w (run_S (As := [.int r4, .int r6]) C w hl.1 (c_X6_wearBy l G C.2.2.1 _ _ r4 r6  _ h) kw_14_22 kw_1_5 kw_14_20 kw_14_21 hd_X6_wearBy ⟨by decide, by decide⟩ rfl (Nat.le_of_ble_eq_true rfl) dX6_piece_112) (fun r23 M24 H locs h w => ?_)
      exact ret_i C w h dX6_piece_115
    replace h := h.2 c22
    by_cases c25 : x2 = (7 : Int32)
    · replace h := h.1 c25
      refine lv_tableIn (off := 90) (tgt := 116) hx hb dX6_piece_26 (by rw [c25]; decide) (by rw [c25]; decide) (by rw [c25]; decide) (by decide) ?_
      refine lv_aload_n hx hb dX6_piece_116 rfl (lv_at hl 2 rfl) ?_
      refine lv_iload_n hx hb dX6_piece_117 rfl (lv_at hl 3 rfl) ?_
      refine lv_iconst (v := 3) hx hb dX6_piece_118 (by decide) ?_
      refine end_i w (run_V (As := [.int x1, .int (3 : Int32)]) C w hl.1 (c_X6_get l G C.2.2.1 _ _ x1 (3 : Int32)  _ h) kw_14_10 kw_1_5 kw_14_7 kw_14_8 kw_14_9 hd_X6_get ⟨by decide, by decide⟩ (w.recv C (i := 57) (by decide) (pE_6) rfl) rfl (Nat.le_of_ble_eq_true rfl) dX6_piece_119) (fun r26 M27 H locs h w => ?_)
      exact ret_i C w h dX6_piece_122
    replace h := h.2 c25
    by_cases c28 : x2 = (8 : Int32)
    · replace h := h.1 c28
      refine lv_tableIn (off := 97) (tgt := 123) hx hb dX6_piece_26 (by rw [c28]; decide) (by rw [c28]; decide) (by rw [c28]; decide) (by decide) ?_
      refine lv_aload_n hx hb dX6_piece_123 rfl (lv_at hl 2 rfl) ?_
      refine lv_iload_n hx hb dX6_piece_124 rfl (lv_at hl 3 rfl) ?_
      refine lv_iconst (v := 4) hx hb dX6_piece_125 (by decide) ?_
      refine end_i w (run_V (As := [.int x1, .int (4 : Int32)]) C w hl.1 (c_X6_get l G C.2.2.1 _ _ x1 (4 : Int32)  _ h) kw_14_10 kw_1_5 kw_14_7 kw_14_8 kw_14_9 hd_X6_get ⟨by decide, by decide⟩ (w.recv C (i := 57) (by decide) (pE_6) rfl) rfl (Nat.le_of_ble_eq_true rfl) dX6_piece_126) (fun r29 M30 H locs h w => ?_)
      exact ret_i C w h dX6_piece_129
    replace h := h.2 c28
    have nc8 := lv_neT c8 (a := 0) (by decide)
    have nc9 := lv_neT c9 (a := 1) (by decide)
    have nc12 := lv_neT c12 (a := 2) (by decide)
    have nc13 := lv_neT c13 (a := 3) (by decide)
    have nc16 := lv_neT c16 (a := 4) (by decide)
    have nc19 := lv_neT c19 (a := 5) (by decide)
    have nc22 := lv_neT c22 (a := 6) (by decide)
    have nc25 := lv_neT c25 (a := 7) (by decide)
    have nc28 := lv_neT c28 (a := 8) (by decide)
    refine lv_tableOut (tgt := 130) hx hb dX6_piece_26 (by omega) (by decide) ?_
    refine lv_iconst (v := -1) hx hb dX6_piece_130 (by decide) ?_
    exact ret_i C w h dX6_piece_131
  replace h := h.1 c3
  refine lv_iconst (v := -1) hx hb dX6_piece_8 (by decide) ?_
  exact ret_i C w h dX6_piece_9
def q_X5_set (M : Mem) (x1 : Int32) (x2 : Int32) (post : Int32 → Mem → Prop) : Prop := q_X4_maySet M x1 x2 (fun r1 M2 => (r1 = 0 → (post (-1 : Int32) M2)) ∧ (¬ (r1 = 0) → (vp_in x1 7 ∧ (∀ M5 : Mem, M5 = (mup M2 11 x1.toNatClampNeg x2) → (post (M2 11 x1.toNatClampNeg) M5)))))
set_option maxHeartbeats 4000000 in
set_option maxRecDepth 100000 in
theorem c_X5_set (l : Launch) (G : GG) (hG : Ag G) (sz : Nat) (M : Mem) (x1 : Int32) (x2 : Int32) (post : Int32 → Mem → Prop) (h : q_X5_set M x1 x2 post) : Met l yX5_set (Cond.code yX5_set cX5_set 4 (some .int) :: wsL_law) (rmk 3) (va_Pc [.ref (ga G 0), .int x1, .int x2] (Pw G sz M)) (va_Qi post (Qw G) (Af G sz)) 0 0 (Af G sz) := by
  refine Met.ofW (cc := cX5_set) (maxL := 4) (ret := (some .int)) (by decide) rfl ?_
  intro p e s m args below meth c s₁ B hml hv
  obtain ⟨rfl, hsz, hE, hP⟩ := hv
  subst hsz
  have C := Cx.of (own := RX5) hG hE rfl hml B
  have w : Wd G s M s.heap [] := ⟨hP, va_S.rf⟩
  have hl := lv_entry [.ref (ga G 0), .int x1, .int x2] (n := 4) (Nat.le_of_ble_eq_true rfl)
  rw [lg_entry_eq]
  generalize (lg_sl [.ref (ga G 0), .int x1, .int x2] ++ List.replicate (4 - (lg_sl [.ref (ga G 0), .int x1, .int x2]).length) Slot.unset).toArray = ls at hl ⊢
  have hl : lv_has ls 4 [(0, .ref (ga G 0)), (1, .int x1), (2, .int x2)] := hl
  have hx := C.1.1
  have hb := C.1.2.1
  show W p l e (rmk 3) s m _ below meth c s.heap [] 0 0 _ _
  unfold q_X5_set at h
  refine lv_iload_n hx hb dX5_set_0 rfl (lv_at hl 1 rfl) ?_
  refine lv_iload_n hx hb dX5_set_1 rfl (lv_at hl 2 rfl) ?_
  refine end_i w (run_SN (As := [.int x1, .int x2]) C w hl.1 (c_X4_maySet l G C.2.2.1 _ _ x1 x2  _ h) kw_11_11 kw_1_15 kn_54 kw_11_10 hd_X4_maySet ⟨by decide, by decide⟩ rfl (Nat.le_of_ble_eq_true rfl) dX5_set_2) (fun r1 M2 H locs h w => ?_)
  refine lv_if_ne (tgt := 10) hx hb dX5_set_5 (by decide) (fun c3 => ?_) (fun c3 => ?_)
  · replace h := h.2 c3
    refine lv_aload_n hx hb dX5_set_10 rfl (lv_at hl 0 rfl) ?_
    refine gt_5_0 C w kw_1_16 dX5_set_11 ?_
    refine gn_4_2 C w ⟨by decide, by decide⟩ kn_16 dX5_set_14 ?_
    refine lv_iload_n hx hb dX5_set_17 rfl (lv_at hl 1 rfl) ?_
    have hin4 := h.1
    replace h := h.2
    have hz_hin4 := in_lt hin4
    refine pw_ld C w (i := 11) (by decide) (pE_st ⟨by decide, by decide⟩) hin4 rfl dX5_set_18 ?_
    refine lv_istore_n (lv' := [(3, .int (M2 11 x1.toNatClampNeg)), (0, .ref (ga G 0)), (1, .int x1), (2, .int x2)]) hx hb dX5_set_19 rfl hl (by decide) rfl (fun ls hl => ?_)
    refine lv_aload_n hx hb dX5_set_20 rfl (lv_at hl 1 rfl) ?_
    refine gt_5_0 C w kw_1_16 dX5_set_21 ?_
    refine gn_4_2 C w ⟨by decide, by decide⟩ kn_16 dX5_set_24 ?_
    refine lv_iload_n hx hb dX5_set_27 rfl (lv_at hl 2 rfl) ?_
    refine lv_iload_n hx hb dX5_set_28 rfl (lv_at hl 3 rfl) ?_
    refine pw_st C w (i := 11) (by decide) (fun _ => (pE_st ⟨by decide, by decide⟩)) hin4 rfl dX5_set_29 (fun H locs w => ?_)
    obtain ⟨M5, eM5⟩ : ∃ z : Mem, z = (mup M2 11 x1.toNatClampNeg x2) := ⟨_, rfl⟩
    replace w : Wd G s M5 H locs := by rw [eM5]; exact w
    replace h := h M5 eM5
    refine lv_iload_n hx hb dX5_set_30 rfl (lv_at hl 0 rfl) ?_
    exact ret_i C w h dX5_set_31
  replace h := h.1 c3
  refine lv_iconst (v := -1) hx hb dX5_set_8 (by decide) ?_
  exact ret_i C w h dX5_set_9
def j_X6_leastOf_19 (post : Int32 → Mem → Prop) (M : Mem) (y0 : Int32) : Prop := post y0 M
def q_X6_leastOf (M : Mem) (x0 : Int32) (post : Int32 → Mem → Prop) : Prop := (x0 = (1 : Int32) → (j_X6_leastOf_19 post M (4 : Int32))) ∧ (¬ (x0 = (1 : Int32)) → ((x0 = (3 : Int32) → (j_X6_leastOf_19 post M (1 : Int32))) ∧ (¬ (x0 = (3 : Int32)) → (j_X6_leastOf_19 post M (0 : Int32)))))
set_option maxHeartbeats 4000000 in
set_option maxRecDepth 100000 in
theorem t_X6_leastOf_19 (C : Cx G p s m args meth c RX6 cX6_leastOf 1 (some .int)) {post : Int32 → Mem → Prop} (M : Mem) (y0 : Int32) {H : Heap} {locs : List Loc} {ls : Array Slot} (w : Wd G s M H locs) (hl : lv_has ls 1 []) (h : j_X6_leastOf_19 post M y0) : W p l e (rmk 1) s m args below meth c H locs 0 0 (MQ below (va_Qi post (Qw G) (Af G s.heap.size)) args s 0 0 (Af G s.heap.size)) (F0 m 19 ls [.int y0]) := by
  have hx := C.1.1
  have hb := C.1.2.1
  unfold j_X6_leastOf_19 at h
  exact ret_i C w h dX6_leastOf_19
set_option maxHeartbeats 4000000 in
set_option maxRecDepth 100000 in
theorem c_X6_leastOf (l : Launch) (G : GG) (hG : Ag G) (sz : Nat) (M : Mem) (x0 : Int32) (post : Int32 → Mem → Prop) (h : q_X6_leastOf M x0 post) : Met l yX6_leastOf (Cond.code yX6_leastOf cX6_leastOf 1 (some .int) :: wsL_law) (rmk 1) (va_Pc [.int x0] (Pw G sz M)) (va_Qi post (Qw G) (Af G sz)) 0 0 (Af G sz) := by
  refine Met.ofW (cc := cX6_leastOf) (maxL := 1) (ret := (some .int)) (by decide) rfl ?_
  intro p e s m args below meth c s₁ B hml hv
  obtain ⟨rfl, hsz, hE, hP⟩ := hv
  subst hsz
  have C := Cx.of (own := RX6) hG hE rfl hml B
  have w : Wd G s M s.heap [] := ⟨hP, va_S.rf⟩
  have hl := lv_entry [.int x0] (n := 1) (Nat.le_of_ble_eq_true rfl)
  rw [lg_entry_eq]
  generalize (lg_sl [.int x0] ++ List.replicate (1 - (lg_sl [.int x0]).length) Slot.unset).toArray = ls at hl ⊢
  have hl : lv_has ls 1 [(0, .int x0)] := hl
  have hx := C.1.1
  have hb := C.1.2.1
  show W p l e (rmk 1) s m _ below meth c s.heap [] 0 0 _ _
  unfold q_X6_leastOf at h
  refine lv_iload_n hx hb dX6_leastOf_0 rfl (lv_at hl 0 rfl) ?_
  refine lv_iconst (v := 1) hx hb dX6_leastOf_1 (by decide) ?_
  refine lv_icmp_ne (tgt := 9) hx hb dX6_leastOf_2 (by decide) (fun c1 => ?_) (fun c1 => ?_)
  · replace h := h.2 c1
    refine lv_iload_n hx hb dX6_leastOf_9 rfl (lv_at hl 0 rfl) ?_
    refine lv_iconst (v := 3) hx hb dX6_leastOf_10 (by decide) ?_
    refine lv_icmp_ne (tgt := 18) hx hb dX6_leastOf_11 (by decide) (fun c2 => ?_) (fun c2 => ?_)
    · replace h := h.2 c2
      refine lv_iconst (v := 0) hx hb dX6_leastOf_18 (by decide) ?_
      exact t_X6_leastOf_19 C M (0 : Int32)  w (lv_sub hl [] rfl) h
    replace h := h.1 c2
    refine lv_iconst (v := 1) hx hb dX6_leastOf_14 (by decide) ?_
    refine lv_goto (tgt := 19) hx hb dX6_leastOf_15 (by decide) ?_
    exact t_X6_leastOf_19 C M (1 : Int32)  w (lv_sub hl [] rfl) h
  replace h := h.1 c1
  refine lv_iconst (v := 4) hx hb dX6_leastOf_5 (by decide) ?_
  refine lv_goto (tgt := 19) hx hb dX6_leastOf_6 (by decide) ?_
  exact t_X6_leastOf_19 C M (4 : Int32)  w (lv_sub hl [] rfl) h
def j_X6_mostOf_32 (post : Int32 → Mem → Prop) (M : Mem) (y0 : Int32) : Prop := post y0 M
def q_X6_mostOf (M : Mem) (x0 : Int32) (post : Int32 → Mem → Prop) : Prop := (x0 = 0 → (j_X6_mostOf_32 post M (60 : Int32))) ∧ (¬ (x0 = 0) → ((x0 = (1 : Int32) → (j_X6_mostOf_32 post M (40 : Int32))) ∧ (¬ (x0 = (1 : Int32)) → ((x0 = (3 : Int32) → (j_X6_mostOf_32 post M (999 : Int32))) ∧ (¬ (x0 = (3 : Int32)) → (j_X6_mostOf_32 post M (9 : Int32)))))))
set_option maxHeartbeats 4000000 in
set_option maxRecDepth 100000 in
theorem t_X6_mostOf_32 (C : Cx G p s m args meth c RX6 cX6_mostOf 1 (some .int)) {post : Int32 → Mem → Prop} (M : Mem) (y0 : Int32) {H : Heap} {locs : List Loc} {ls : Array Slot} (w : Wd G s M H locs) (hl : lv_has ls 1 []) (h : j_X6_mostOf_32 post M y0) : W p l e (rmk 1) s m args below meth c H locs 0 0 (MQ below (va_Qi post (Qw G) (Af G s.heap.size)) args s 0 0 (Af G s.heap.size)) (F0 m 32 ls [.int y0]) := by
  have hx := C.1.1
  have hb := C.1.2.1
  unfold j_X6_mostOf_32 at h
  exact ret_i C w h dX6_mostOf_32
set_option maxHeartbeats 4000000 in
set_option maxRecDepth 100000 in
theorem c_X6_mostOf (l : Launch) (G : GG) (hG : Ag G) (sz : Nat) (M : Mem) (x0 : Int32) (post : Int32 → Mem → Prop) (h : q_X6_mostOf M x0 post) : Met l yX6_mostOf (Cond.code yX6_mostOf cX6_mostOf 1 (some .int) :: wsL_law) (rmk 1) (va_Pc [.int x0] (Pw G sz M)) (va_Qi post (Qw G) (Af G sz)) 0 0 (Af G sz) := by
  refine Met.ofW (cc := cX6_mostOf) (maxL := 1) (ret := (some .int)) (by decide) rfl ?_
  intro p e s m args below meth c s₁ B hml hv
  obtain ⟨rfl, hsz, hE, hP⟩ := hv
  subst hsz
  have C := Cx.of (own := RX6) hG hE rfl hml B
  have w : Wd G s M s.heap [] := ⟨hP, va_S.rf⟩
  have hl := lv_entry [.int x0] (n := 1) (Nat.le_of_ble_eq_true rfl)
  rw [lg_entry_eq]
  generalize (lg_sl [.int x0] ++ List.replicate (1 - (lg_sl [.int x0]).length) Slot.unset).toArray = ls at hl ⊢
  have hl : lv_has ls 1 [(0, .int x0)] := hl
  have hx := C.1.1
  have hb := C.1.2.1
  show W p l e (rmk 1) s m _ below meth c s.heap [] 0 0 _ _
  unfold q_X6_mostOf at h
  refine lv_iload_n hx hb dX6_mostOf_0 rfl (lv_at hl 0 rfl) ?_
  refine lv_if_ne (tgt := 9) hx hb dX6_mostOf_1 (by decide) (fun c1 => ?_) (fun c1 => ?_)
  · replace h := h.2 c1
    refine lv_iload_n hx hb dX6_mostOf_9 rfl (lv_at hl 0 rfl) ?_
    refine lv_iconst (v := 1) hx hb dX6_mostOf_10 (by decide) ?_
    refine lv_icmp_ne (tgt := 19) hx hb dX6_mostOf_11 (by decide) (fun c2 => ?_) (fun c2 => ?_)
    · replace h := h.2 c2
      refine lv_iload_n hx hb dX6_mostOf_19 rfl (lv_at hl 0 rfl) ?_
      refine lv_iconst (v := 3) hx hb dX6_mostOf_20 (by decide) ?_
      refine lv_icmp_ne (tgt := 30) hx hb dX6_mostOf_21 (by decide) (fun c3 => ?_) (fun c3 => ?_)
      · replace h := h.2 c3
        refine lv_bipush (v := 9) hx hb dX6_mostOf_30 (by decide) ?_
        exact t_X6_mostOf_32 C M (9 : Int32)  w (lv_sub hl [] rfl) h
      replace h := h.1 c3
      refine lv_sipush (v := 999) hx hb dX6_mostOf_24 (by decide) ?_
      refine lv_goto (tgt := 32) hx hb dX6_mostOf_27 (by decide) ?_
      exact t_X6_mostOf_32 C M (999 : Int32)  w (lv_sub hl [] rfl) h
    replace h := h.1 c2
    refine lv_bipush (v := 40) hx hb dX6_mostOf_14 (by decide) ?_
    refine lv_goto (tgt := 32) hx hb dX6_mostOf_16 (by decide) ?_
    exact t_X6_mostOf_32 C M (40 : Int32)  w (lv_sub hl [] rfl) h
  replace h := h.1 c1
  refine lv_bipush (v := 60) hx hb dX6_mostOf_4 (by decide) ?_
  refine lv_goto (tgt := 32) hx hb dX6_mostOf_6 (by decide) ?_
  exact t_X6_mostOf_32 C M (60 : Int32)  w (lv_sub hl [] rfl) h
def j_X6_set_30 (post : Int32 → Mem → Prop) (M : Mem) : Prop := post (-1 : Int32) M
def q_X6_set (M : Mem) (x1 : Int32) (x2 : Int32) (post : Int32 → Mem → Prop) : Prop := q_X6_isIn M x1.toInt64 (0 : Int64) (6 : Int64) (fun r1 M2 => (r1 = 0 → (j_X6_set_30 post M2)) ∧ (¬ (r1 = 0) → (q_X6_leastOf M2 x1 (fun r4 M5 => q_X6_mostOf M5 x1 (fun r6 M7 => q_X6_isIn M7 x2.toInt64 r4.toInt64 r6.toInt64 (fun r8 M9 => (r8 = 0 → (j_X6_set_30 post M9)) ∧ (¬ (r8 = 0) → (vp_in ((5 : Int32) + x1) 54 ∧ (∀ v12 : Int32, v12 = (M9 58 ((5 : Int32) + x1).toNatClampNeg) → (∀ M13 : Mem, M13 = (mup M9 58 ((5 : Int32) + x1).toNatClampNeg x2) → (post v12 M13)))))))))))
set_option maxHeartbeats 4000000 in
set_option maxRecDepth 100000 in
theorem t_X6_set_30 (C : Cx G p s m args meth c RX6 cX6_set 4 (some .int)) {post : Int32 → Mem → Prop} (M : Mem) {H : Heap} {locs : List Loc} {ls : Array Slot} (w : Wd G s M H locs) (hl : lv_has ls 4 []) (h : j_X6_set_30 post M) : W p l e (rmk 2) s m args below meth c H locs 0 0 (MQ below (va_Qi post (Qw G) (Af G s.heap.size)) args s 0 0 (Af G s.heap.size)) (F0 m 30 ls []) := by
  have hx := C.1.1
  have hb := C.1.2.1
  unfold j_X6_set_30 at h
  refine lv_iconst (v := -1) hx hb dX6_set_30 (by decide) ?_
  exact ret_i C w h dX6_set_31
set_option maxHeartbeats 4000000 in
set_option maxRecDepth 100000 in
theorem c_X6_set (l : Launch) (G : GG) (hG : Ag G) (sz : Nat) (M : Mem) (x1 : Int32) (x2 : Int32) (post : Int32 → Mem → Prop) (h : q_X6_set M x1 x2 post) : Met l yX6_set (Cond.code yX6_set cX6_set 4 (some .int) :: wsL_law) (rmk 2) (va_Pc [.ref (ga G 57), .int x1, .int x2] (Pw G sz M)) (va_Qi post (Qw G) (Af G sz)) 0 0 (Af G sz) := by
  refine Met.ofW (cc := cX6_set) (maxL := 4) (ret := (some .int)) (by decide) rfl ?_
  intro p e s m args below meth c s₁ B hml hv
  obtain ⟨rfl, hsz, hE, hP⟩ := hv
  subst hsz
  have C := Cx.of (own := RX6) hG hE rfl hml B
  have w : Wd G s M s.heap [] := ⟨hP, va_S.rf⟩
  have hl := lv_entry [.ref (ga G 57), .int x1, .int x2] (n := 4) (Nat.le_of_ble_eq_true rfl)
  rw [lg_entry_eq]
  generalize (lg_sl [.ref (ga G 57), .int x1, .int x2] ++ List.replicate (4 - (lg_sl [.ref (ga G 57), .int x1, .int x2]).length) Slot.unset).toArray = ls at hl ⊢
  have hl : lv_has ls 4 [(0, .ref (ga G 57)), (1, .int x1), (2, .int x2)] := hl
  have hx := C.1.1
  have hb := C.1.2.1
  show W p l e (rmk 2) s m _ below meth c s.heap [] 0 0 _ _
  unfold q_X6_set at h
  refine lv_iload_n hx hb dX6_set_0 rfl (lv_at hl 1 rfl) ?_
  refine lv_i2l hx hb dX6_set_1 rfl ?_
  refine lv_lconst (v := 0) hx hb dX6_set_2 (by decide) ?_
  refine lv_ldc2 hx hb C.1.2.2.2.1 (C.ws kw_15_7) dX6_set_3 ?_
  refine end_i w (run_S (As := [.long x1.toInt64, .long (0 : Int64), .long (6 : Int64)]) C w hl.1 (c_X6_isIn l G C.2.2.1 _ _ x1.toInt64 (0 : Int64) (6 : Int64)  _ h) kw_12_5 kw_1_5 kw_12_3 kw_12_4 hd_X6_isIn ⟨by decide, by decide⟩ rfl (Nat.le_of_ble_eq_true rfl) dX6_set_6) (fun r1 M2 H locs h w => ?_)
  refine lv_if_eq (tgt := 30) hx hb dX6_set_9 (by decide) (fun c3 => ?_) (fun c3 => ?_)
  · replace h := h.1 c3
    exact t_X6_set_30 C M2   w (lv_sub hl [] rfl) h
  replace h := h.2 c3
  refine lv_iload_n hx hb dX6_set_12 rfl (lv_at hl 2 rfl) ?_
  refine lv_i2l hx hb dX6_set_13 rfl ?_
  refine lv_iload_n hx hb dX6_set_14 rfl (lv_at hl 1 rfl) ?_
  refine end_i w (run_S (As := [.int x1]) C w hl.1 (c_X6_leastOf l G C.2.2.1 _ _ x1  _ h) kw_15_10 kw_1_5 kw_15_8 kw_15_9 hd_X6_leastOf ⟨by decide, by decide⟩ rfl (Nat.le_of_ble_eq_true rfl) dX6_set_15) (fun r4 M5 H locs h w => ?_)
  refine lv_i2l hx hb dX6_set_18 rfl ?_
  refine lv_iload_n hx hb dX6_set_19 rfl (lv_at hl 1 rfl) ?_
  refine end_i w (run_S (As := [.int x1]) C w hl.1 (c_X6_mostOf l G C.2.2.1 _ _ x1  _ h) kw_15_13 kw_1_5 kw_15_11 kw_15_12 hd_X6_mostOf ⟨by decide, by decide⟩ rfl (Nat.le_of_ble_eq_true rfl) dX6_set_20) (fun r6 M7 H locs h w => ?_)
  refine lv_i2l hx hb dX6_set_23 rfl ?_
  refine end_i w (run_S (As := [.long x2.toInt64, .long r4.toInt64, .long r6.toInt64]) C w hl.1 (c_X6_isIn l G C.2.2.1 _ _ x2.toInt64 r4.toInt64 r6.toInt64  _ h) kw_12_5 kw_1_5 kw_12_3 kw_12_4 hd_X6_isIn ⟨by decide, by decide⟩ rfl (Nat.le_of_ble_eq_true rfl) dX6_set_24) (fun r8 M9 H locs h w => ?_)
  refine lv_if_ne (tgt := 32) hx hb dX6_set_27 (by decide) (fun c10 => ?_) (fun c10 => ?_)
  · replace h := h.2 c10
    refine lv_aload_n hx hb dX6_set_32 rfl (lv_at hl 0 rfl) ?_
    refine gt_6_0 C w kw_5_0 dX6_set_33 ?_
    refine lv_iconst (v := 5) hx hb dX6_set_36 (by decide) ?_
    refine lv_iload_n hx hb dX6_set_37 rfl (lv_at hl 1 rfl) ?_
    refine lv_iadd hx hb dX6_set_38 ?_
    have hin11 := h.1
    replace h := h.2
    have hz_hin11 := in_lt hin11
    refine pw_ld C w (i := 58) (by decide) pE_58 hin11 rfl dX6_set_39 ?_
    refine lv_topi (fun v12 ev12 => ?_)
    replace h := h v12 ev12
    refine lv_istore_n (lv' := [(3, .int v12), (0, .ref (ga G 57)), (1, .int x1), (2, .int x2)]) hx hb dX6_set_40 rfl hl (by decide) rfl (fun ls hl => ?_)
    refine lv_aload_n hx hb dX6_set_41 rfl (lv_at hl 1 rfl) ?_
    refine gt_6_0 C w kw_5_0 dX6_set_42 ?_
    refine lv_iconst (v := 5) hx hb dX6_set_45 (by decide) ?_
    refine lv_iload_n hx hb dX6_set_46 rfl (lv_at hl 2 rfl) ?_
    refine lv_iadd hx hb dX6_set_47 ?_
    refine lv_iload_n hx hb dX6_set_48 rfl (lv_at hl 3 rfl) ?_
    refine pw_st C w (i := 58) (by decide) (fun _ => pE_58) hin11 rfl dX6_set_49 (fun H locs w => ?_)
    obtain ⟨M13, eM13⟩ : ∃ z : Mem, z = (mup M9 58 ((5 : Int32) + x1).toNatClampNeg x2) := ⟨_, rfl⟩
    replace w : Wd G s M13 H locs := by rw [eM13]; exact w
    replace h := h M13 eM13
    refine lv_iload_n hx hb dX6_set_50 rfl (lv_at hl 0 rfl) ?_
    exact ret_i C w h dX6_set_51
  replace h := h.1 c10
  exact t_X6_set_30 C M9   w (lv_sub hl [] rfl) h
def q_X0_base (M : Mem) (post : Int32 → Mem → Prop) : Prop := post ((((2 : Int32) * (M 4 5)) * (M 4 5)) + ((M 4 1) / (10 : Int32))) M
set_option maxHeartbeats 4000000 in
set_option maxRecDepth 100000 in
theorem c_X0_base (l : Launch) (G : GG) (hG : Ag G) (sz : Nat) (M : Mem) (post : Int32 → Mem → Prop) (h : q_X0_base M post) : Met l yX0_base (Cond.code yX0_base cX0_base 1 (some .int) :: wsL_law) (rmk 1) (va_Pc [.ref (ga G 4)] (Pw G sz M)) (va_Qi post (Qw G) (Af G sz)) 0 0 (Af G sz) := by
  refine Met.ofW (cc := cX0_base) (maxL := 1) (ret := (some .int)) (by decide) rfl ?_
  intro p e s m args below meth c s₁ B hml hv
  obtain ⟨rfl, hsz, hE, hP⟩ := hv
  subst hsz
  have C := Cx.of (own := RX0) hG hE rfl hml B
  have w : Wd G s M s.heap [] := ⟨hP, va_S.rf⟩
  have hl := lv_entry [.ref (ga G 4)] (n := 1) (Nat.le_of_ble_eq_true rfl)
  rw [lg_entry_eq]
  generalize (lg_sl [.ref (ga G 4)] ++ List.replicate (1 - (lg_sl [.ref (ga G 4)]).length) Slot.unset).toArray = ls at hl ⊢
  have hl : lv_has ls 1 [(0, .ref (ga G 4))] := hl
  have hx := C.1.1
  have hb := C.1.2.1
  show W p l e (rmk 1) s m _ below meth c s.heap [] 0 0 _ _
  unfold q_X0_base at h
  refine lv_iconst (v := 2) hx hb dX0_base_0 (by decide) ?_
  refine lv_aload_n hx hb dX0_base_1 rfl (lv_at hl 0 rfl) ?_
  refine gt_0_5 C w kw_4_3 dX0_base_2 ?_
  refine lv_imul hx hb dX0_base_5 ?_
  refine lv_aload_n hx hb dX0_base_6 rfl (lv_at hl 0 rfl) ?_
  refine gt_0_5 C w kw_4_3 dX0_base_7 ?_
  refine lv_imul hx hb dX0_base_10 ?_
  refine lv_aload_n hx hb dX0_base_11 rfl (lv_at hl 0 rfl) ?_
  refine gt_0_1 C w kw_3_23 dX0_base_12 ?_
  refine lv_bipush (v := 10) hx hb dX0_base_15 (by decide) ?_
  refine lv_idiv hx hb dX0_base_17 (by decide) ?_
  refine lv_iadd hx hb dX0_base_18 ?_
  exact ret_i C w h dX0_base_19
def q_X0_giveOfAll (M : Mem) (post : Int32 → Mem → Prop) : Prop := post (if (1 : Int32) < ((M 4 2) / (100 : Int32)) then ((M 4 2) / (100 : Int32)) else (1 : Int32)) M
set_option maxHeartbeats 4000000 in
set_option maxRecDepth 100000 in
theorem c_X0_giveOfAll (l : Launch) (G : GG) (hG : Ag G) (sz : Nat) (M : Mem) (post : Int32 → Mem → Prop) (h : q_X0_giveOfAll M post) : Met l yX0_giveOfAll (Cond.code yX0_giveOfAll cX0_giveOfAll 1 (some .int) :: wsL_law) (rmk 1) (va_Pc [.ref (ga G 4)] (Pw G sz M)) (va_Qi post (Qw G) (Af G sz)) 0 0 (Af G sz) := by
  refine Met.ofW (cc := cX0_giveOfAll) (maxL := 1) (ret := (some .int)) (by decide) rfl ?_
  intro p e s m args below meth c s₁ B hml hv
  obtain ⟨rfl, hsz, hE, hP⟩ := hv
  subst hsz
  have C := Cx.of (own := RX0) hG hE rfl hml B
  have w : Wd G s M s.heap [] := ⟨hP, va_S.rf⟩
  have hl := lv_entry [.ref (ga G 4)] (n := 1) (Nat.le_of_ble_eq_true rfl)
  rw [lg_entry_eq]
  generalize (lg_sl [.ref (ga G 4)] ++ List.replicate (1 - (lg_sl [.ref (ga G 4)]).length) Slot.unset).toArray = ls at hl ⊢
  have hl : lv_has ls 1 [(0, .ref (ga G 4))] := hl
  have hx := C.1.1
  have hb := C.1.2.1
  show W p l e (rmk 1) s m _ below meth c s.heap [] 0 0 _ _
  unfold q_X0_giveOfAll at h
  refine lv_iconst (v := 1) hx hb dX0_giveOfAll_0 (by decide) ?_
  refine lv_aload_n hx hb dX0_giveOfAll_1 rfl (lv_at hl 0 rfl) ?_
  refine gt_0_2 C w kw_4_0 dX0_giveOfAll_2 ?_
  refine lv_bipush (v := 100) hx hb dX0_giveOfAll_5 (by decide) ?_
  refine lv_idiv hx hb dX0_giveOfAll_7 (by decide) ?_
  refine va_mmax hx hb (C.ml hl) C.1.2.2.2.1 (C.ws kw_16_10) (C.ws kw_16_11) (C.ws kw_16_12) (C.ws kw_16_13) (Nat.le_of_ble_eq_true rfl) (Nat.le_of_ble_eq_true rfl) (Nat.le_refl 0) (Nat.le_refl 0) dX0_giveOfAll_8 ?_
  exact ret_i C w h dX0_giveOfAll_11
def q_X0_hang (M : Mem) (post : Int32 → Mem → Prop) : Prop := ¬ (if (1 : Int32) < ((4 : Int32) + ((M 4 5) * (M 4 5))) then ((4 : Int32) + ((M 4 5) * (M 4 5))) else (1 : Int32)) = 0 ∧ (post ((M 4 1) / (if (1 : Int32) < ((4 : Int32) + ((M 4 5) * (M 4 5))) then ((4 : Int32) + ((M 4 5) * (M 4 5))) else (1 : Int32))) M)
set_option maxHeartbeats 4000000 in
set_option maxRecDepth 100000 in
theorem c_X0_hang (l : Launch) (G : GG) (hG : Ag G) (sz : Nat) (M : Mem) (post : Int32 → Mem → Prop) (h : q_X0_hang M post) : Met l yX0_hang (Cond.code yX0_hang cX0_hang 1 (some .int) :: wsL_law) (rmk 1) (va_Pc [.ref (ga G 4)] (Pw G sz M)) (va_Qi post (Qw G) (Af G sz)) 0 0 (Af G sz) := by
  refine Met.ofW (cc := cX0_hang) (maxL := 1) (ret := (some .int)) (by decide) rfl ?_
  intro p e s m args below meth c s₁ B hml hv
  obtain ⟨rfl, hsz, hE, hP⟩ := hv
  subst hsz
  have C := Cx.of (own := RX0) hG hE rfl hml B
  have w : Wd G s M s.heap [] := ⟨hP, va_S.rf⟩
  have hl := lv_entry [.ref (ga G 4)] (n := 1) (Nat.le_of_ble_eq_true rfl)
  rw [lg_entry_eq]
  generalize (lg_sl [.ref (ga G 4)] ++ List.replicate (1 - (lg_sl [.ref (ga G 4)]).length) Slot.unset).toArray = ls at hl ⊢
  have hl : lv_has ls 1 [(0, .ref (ga G 4))] := hl
  have hx := C.1.1
  have hb := C.1.2.1
  show W p l e (rmk 1) s m _ below meth c s.heap [] 0 0 _ _
  unfold q_X0_hang at h
  refine lv_aload_n hx hb dX0_hang_0 rfl (lv_at hl 0 rfl) ?_
  refine gt_0_1 C w kw_3_23 dX0_hang_1 ?_
  refine lv_iconst (v := 1) hx hb dX0_hang_4 (by decide) ?_
  refine lv_iconst (v := 4) hx hb dX0_hang_5 (by decide) ?_
  refine lv_aload_n hx hb dX0_hang_6 rfl (lv_at hl 0 rfl) ?_
  refine gt_0_5 C w kw_4_3 dX0_hang_7 ?_
  refine lv_aload_n hx hb dX0_hang_10 rfl (lv_at hl 0 rfl) ?_
  refine gt_0_5 C w kw_4_3 dX0_hang_11 ?_
  refine lv_imul hx hb dX0_hang_14 ?_
  refine lv_iadd hx hb dX0_hang_15 ?_
  refine va_mmax hx hb (C.ml hl) C.1.2.2.2.1 (C.ws kw_16_10) (C.ws kw_16_11) (C.ws kw_16_12) (C.ws kw_16_13) (Nat.le_of_ble_eq_true rfl) (Nat.le_of_ble_eq_true rfl) (Nat.le_refl 0) (Nat.le_refl 0) dX0_hang_16 ?_
  refine lv_idiv hx hb dX0_hang_19 h.1 ?_
  replace h := h.2
  exact ret_i C w h dX0_hang_20
def q_X0_slack (M : Mem) (post : Int32 → Mem → Prop) : Prop := q_X0_hang M  (fun r1 M2 => post (r1 / (4 : Int32)) M2)
set_option maxHeartbeats 4000000 in
set_option maxRecDepth 100000 in
theorem c_X0_slack (l : Launch) (G : GG) (hG : Ag G) (sz : Nat) (M : Mem) (post : Int32 → Mem → Prop) (h : q_X0_slack M post) : Met l yX0_slack (Cond.code yX0_slack cX0_slack 1 (some .int) :: wsL_law) (rmk 2) (va_Pc [.ref (ga G 4)] (Pw G sz M)) (va_Qi post (Qw G) (Af G sz)) 0 0 (Af G sz) := by
  refine Met.ofW (cc := cX0_slack) (maxL := 1) (ret := (some .int)) (by decide) rfl ?_
  intro p e s m args below meth c s₁ B hml hv
  obtain ⟨rfl, hsz, hE, hP⟩ := hv
  subst hsz
  have C := Cx.of (own := RX0) hG hE rfl hml B
  have w : Wd G s M s.heap [] := ⟨hP, va_S.rf⟩
  have hl := lv_entry [.ref (ga G 4)] (n := 1) (Nat.le_of_ble_eq_true rfl)
  rw [lg_entry_eq]
  generalize (lg_sl [.ref (ga G 4)] ++ List.replicate (1 - (lg_sl [.ref (ga G 4)]).length) Slot.unset).toArray = ls at hl ⊢
  have hl : lv_has ls 1 [(0, .ref (ga G 4))] := hl
  have hx := C.1.1
  have hb := C.1.2.1
  show W p l e (rmk 2) s m _ below meth c s.heap [] 0 0 _ _
  unfold q_X0_slack at h
  refine lv_aload_n hx hb dX0_slack_0 rfl (lv_at hl 0 rfl) ?_
  refine end_i w (run_V (As := []) C w hl.1 (c_X0_hang l G C.2.2.1 _ _   _ h) kw_16_16 kw_1_21 kw_16_20 kw_16_14 kw_16_15 hd_X0_hang ⟨by decide, by decide⟩ (w.recv C (i := 4) (by decide) (pE_0) rfl) rfl (Nat.le_of_ble_eq_true rfl) dX0_slack_1) (fun r1 M2 H locs h w => ?_)
  refine lv_iconst (v := 4) hx hb dX0_slack_4 (by decide) ?_
  refine lv_idiv hx hb dX0_slack_5 (by decide) ?_
  exact ret_i C w h dX0_slack_6
def q_X0_add (M : Mem) (a1 : Nat) (x2 : Int32) (post : Mem → Prop) : Prop := ∀ M1 : Mem, M1 = (mup M 4 0 ((M 4 0) + x2)) → (∀ M2 : Mem, M2 = (mup M1 4 1 ((M1 4 1) + (x2 * (M1 a1 5)))) → (∀ M3 : Mem, M3 = (mup M2 4 2 ((M2 4 2) + (x2 * (M2 a1 6)))) → (post M3)))
set_option maxHeartbeats 4000000 in
set_option maxRecDepth 100000 in
theorem c_X0_add (l : Launch) (G : GG) (hG : Ag G) (sz : Nat) (M : Mem) (a1 : Nat) (x2 : Int32) (ha1 : 30 ≤ a1 ∧ a1 < 57) (post : Mem → Prop) (h : q_X0_add M a1 x2 post) : Met l yX0_add (Cond.code yX0_add cX0_add 3 none :: wsL_law) (rmk 1) (va_Pc [.ref (ga G 4), .ref (ga G a1), .int x2] (Pw G sz M)) (va_Qv post (Qw G) (Af G sz)) 0 0 (Af G sz) := by
  refine Met.ofW (cc := cX0_add) (maxL := 3) (ret := none) (by decide) rfl ?_
  intro p e s m args below meth c s₁ B hml hv
  obtain ⟨rfl, hsz, hE, hP⟩ := hv
  subst hsz
  have C := Cx.of (own := RX0) hG hE rfl hml B
  have w : Wd G s M s.heap [] := ⟨hP, va_S.rf⟩
  have hl := lv_entry [.ref (ga G 4), .ref (ga G a1), .int x2] (n := 3) (Nat.le_of_ble_eq_true rfl)
  rw [lg_entry_eq]
  generalize (lg_sl [.ref (ga G 4), .ref (ga G a1), .int x2] ++ List.replicate (3 - (lg_sl [.ref (ga G 4), .ref (ga G a1), .int x2]).length) Slot.unset).toArray = ls at hl ⊢
  have hl : lv_has ls 3 [(0, .ref (ga G 4)), (1, .ref (ga G a1)), (2, .int x2)] := hl
  have hx := C.1.1
  have hb := C.1.2.1
  show W p l e (rmk 1) s m _ below meth c s.heap [] 0 0 _ _
  unfold q_X0_add at h
  refine lv_aload_n hx hb dX0_add_0 rfl (lv_at hl 0 rfl) ?_
  refine lv_dup hx hb dX0_add_1 rfl ?_
  refine gt_0_0 C w kw_3_22 dX0_add_2 ?_
  refine lv_iload_n hx hb dX0_add_5 rfl (lv_at hl 2 rfl) ?_
  refine lv_iadd hx hb dX0_add_6 ?_
  refine pt_0_0 C w kw_3_22 dX0_add_7 (fun H locs w => ?_)
  obtain ⟨M1, eM1⟩ : ∃ z : Mem, z = (mup M 4 0 ((M 4 0) + x2)) := ⟨_, rfl⟩
  replace w : Wd G s M1 H locs := by rw [eM1]; exact w
  replace h := h M1 eM1
  refine lv_aload_n hx hb dX0_add_10 rfl (lv_at hl 0 rfl) ?_
  refine lv_dup hx hb dX0_add_11 rfl ?_
  refine gt_0_1 C w kw_3_23 dX0_add_12 ?_
  refine lv_iload_n hx hb dX0_add_15 rfl (lv_at hl 2 rfl) ?_
  refine lv_aload_n hx hb dX0_add_16 rfl (lv_at hl 1 rfl) ?_
  refine gn_1_5 C w ha1 kn_6 dX0_add_17 ?_
  refine lv_imul hx hb dX0_add_20 ?_
  refine lv_iadd hx hb dX0_add_21 ?_
  refine pt_0_1 C w kw_3_23 dX0_add_22 (fun H locs w => ?_)
  obtain ⟨M2, eM2⟩ : ∃ z : Mem, z = (mup M1 4 1 ((M1 4 1) + (x2 * (M1 a1 5)))) := ⟨_, rfl⟩
  replace w : Wd G s M2 H locs := by rw [eM2]; exact w
  replace h := h M2 eM2
  refine lv_aload_n hx hb dX0_add_25 rfl (lv_at hl 0 rfl) ?_
  refine lv_dup hx hb dX0_add_26 rfl ?_
  refine gt_0_2 C w kw_4_0 dX0_add_27 ?_
  refine lv_iload_n hx hb dX0_add_30 rfl (lv_at hl 2 rfl) ?_
  refine lv_aload_n hx hb dX0_add_31 rfl (lv_at hl 1 rfl) ?_
  refine gn_1_6 C w ha1 kn_8 dX0_add_32 ?_
  refine lv_imul hx hb dX0_add_35 ?_
  refine lv_iadd hx hb dX0_add_36 ?_
  refine pt_0_2 C w kw_4_0 dX0_add_37 (fun H locs w => ?_)
  obtain ⟨M3, eM3⟩ : ∃ z : Mem, z = (mup M2 4 2 ((M2 4 2) + (x2 * (M2 a1 6)))) := ⟨_, rfl⟩
  replace w : Wd G s M3 H locs := by rw [eM3]; exact w
  replace h := h M3 eM3
  exact ret_v C w h dX0_add_40
def q_X0_begin (M : Mem) (a1 : Nat) (post : Mem → Prop) : Prop := ∀ M1 : Mem, M1 = (mup M 4 0 (0 : Int32)) → (∀ M2 : Mem, M2 = (mup M1 4 1 (0 : Int32)) → (∀ M3 : Mem, M3 = (mup M2 4 2 (0 : Int32)) → (∀ M4 : Mem, M4 = (mup M3 4 3 (M3 (10 + a1) 0)) → (∀ M5 : Mem, M5 = (mup M4 4 4 (M4 (10 + a1) 1)) → (∀ M6 : Mem, M6 = (mup M5 4 5 (M5 (10 + a1) 2)) → (post M6))))))
set_option maxHeartbeats 4000000 in
set_option maxRecDepth 100000 in
theorem c_X0_begin (l : Launch) (G : GG) (hG : Ag G) (sz : Nat) (M : Mem) (a1 : Nat) (ha1 : 1 ≤ a1 ∧ a1 < 4) (post : Mem → Prop) (h : q_X0_begin M a1 post) : Met l yX0_begin (Cond.code yX0_begin cX0_begin 2 none :: wsL_law) (rmk 1) (va_Pc [.ref (ga G 4), .ref (ga G a1)] (Pw G sz M)) (va_Qv post (Qw G) (Af G sz)) 0 0 (Af G sz) := by
  refine Met.ofW (cc := cX0_begin) (maxL := 2) (ret := none) (by decide) rfl ?_
  intro p e s m args below meth c s₁ B hml hv
  obtain ⟨rfl, hsz, hE, hP⟩ := hv
  subst hsz
  have C := Cx.of (own := RX0) hG hE rfl hml B
  have w : Wd G s M s.heap [] := ⟨hP, va_S.rf⟩
  have hl := lv_entry [.ref (ga G 4), .ref (ga G a1)] (n := 2) (Nat.le_of_ble_eq_true rfl)
  rw [lg_entry_eq]
  generalize (lg_sl [.ref (ga G 4), .ref (ga G a1)] ++ List.replicate (2 - (lg_sl [.ref (ga G 4), .ref (ga G a1)]).length) Slot.unset).toArray = ls at hl ⊢
  have hl : lv_has ls 2 [(0, .ref (ga G 4)), (1, .ref (ga G a1))] := hl
  have hx := C.1.1
  have hb := C.1.2.1
  show W p l e (rmk 1) s m _ below meth c s.heap [] 0 0 _ _
  unfold q_X0_begin at h
  refine lv_aload_n hx hb dX0_begin_0 rfl (lv_at hl 0 rfl) ?_
  refine lv_iconst (v := 0) hx hb dX0_begin_1 (by decide) ?_
  refine pt_0_0 C w kw_3_22 dX0_begin_2 (fun H locs w => ?_)
  obtain ⟨M1, eM1⟩ : ∃ z : Mem, z = (mup M 4 0 (0 : Int32)) := ⟨_, rfl⟩
  replace w : Wd G s M1 H locs := by rw [eM1]; exact w
  replace h := h M1 eM1
  refine lv_aload_n hx hb dX0_begin_5 rfl (lv_at hl 0 rfl) ?_
  refine lv_iconst (v := 0) hx hb dX0_begin_6 (by decide) ?_
  refine pt_0_1 C w kw_3_23 dX0_begin_7 (fun H locs w => ?_)
  obtain ⟨M2, eM2⟩ : ∃ z : Mem, z = (mup M1 4 1 (0 : Int32)) := ⟨_, rfl⟩
  replace w : Wd G s M2 H locs := by rw [eM2]; exact w
  replace h := h M2 eM2
  refine lv_aload_n hx hb dX0_begin_10 rfl (lv_at hl 0 rfl) ?_
  refine lv_iconst (v := 0) hx hb dX0_begin_11 (by decide) ?_
  refine pt_0_2 C w kw_4_0 dX0_begin_12 (fun H locs w => ?_)
  obtain ⟨M3, eM3⟩ : ∃ z : Mem, z = (mup M2 4 2 (0 : Int32)) := ⟨_, rfl⟩
  replace w : Wd G s M3 H locs := by rw [eM3]; exact w
  replace h := h M3 eM3
  refine lv_aload_n hx hb dX0_begin_15 rfl (lv_at hl 0 rfl) ?_
  refine lv_aload_n hx hb dX0_begin_16 rfl (lv_at hl 1 rfl) ?_
  refine gn_4_2 C w ha1 kn_15 dX0_begin_17 ?_
  refine lv_iconst (v := 0) hx hb dX0_begin_20 (by decide) ?_
  refine pw_ld C w (i := (10 + a1)) (by omega) (pE_st (by omega)) (vl (x := (0 : Int32)) (by decide)) (k := 0) (by decide) dX0_begin_21 ?_
  refine pt_0_3 C w kw_4_1 dX0_begin_22 (fun H locs w => ?_)
  obtain ⟨M4, eM4⟩ : ∃ z : Mem, z = (mup M3 4 3 (M3 (10 + a1) 0)) := ⟨_, rfl⟩
  replace w : Wd G s M4 H locs := by rw [eM4]; exact w
  replace h := h M4 eM4
  refine lv_aload_n hx hb dX0_begin_25 rfl (lv_at hl 0 rfl) ?_
  refine lv_aload_n hx hb dX0_begin_26 rfl (lv_at hl 1 rfl) ?_
  refine gn_4_2 C w ha1 kn_15 dX0_begin_27 ?_
  refine lv_iconst (v := 1) hx hb dX0_begin_30 (by decide) ?_
  refine pw_ld C w (i := (10 + a1)) (by omega) (pE_st (by omega)) (vl (x := (1 : Int32)) (by decide)) (k := 1) (by decide) dX0_begin_31 ?_
  refine pt_0_4 C w kw_4_2 dX0_begin_32 (fun H locs w => ?_)
  obtain ⟨M5, eM5⟩ : ∃ z : Mem, z = (mup M4 4 4 (M4 (10 + a1) 1)) := ⟨_, rfl⟩
  replace w : Wd G s M5 H locs := by rw [eM5]; exact w
  replace h := h M5 eM5
  refine lv_aload_n hx hb dX0_begin_35 rfl (lv_at hl 0 rfl) ?_
  refine lv_aload_n hx hb dX0_begin_36 rfl (lv_at hl 1 rfl) ?_
  refine gn_4_2 C w ha1 kn_15 dX0_begin_37 ?_
  refine lv_iconst (v := 2) hx hb dX0_begin_40 (by decide) ?_
  refine pw_ld C w (i := (10 + a1)) (by omega) (pE_st (by omega)) (vl (x := (2 : Int32)) (by decide)) (k := 2) (by decide) dX0_begin_41 ?_
  refine pt_0_5 C w kw_4_3 dX0_begin_42 (fun H locs w => ?_)
  obtain ⟨M6, eM6⟩ : ∃ z : Mem, z = (mup M5 4 5 (M5 (10 + a1) 2)) := ⟨_, rfl⟩
  replace w : Wd G s M6 H locs := by rw [eM6]; exact w
  replace h := h M6 eM6
  exact ret_v C w h dX0_begin_45
def j_X4_hasLine_21 (post : Int32 → Mem → Prop) (M : Mem) (y0 : Int32) : Prop := (y0 = 0 ∨ y0 = 1) ∧ post y0 M
def j_X4_hasLine_20 (post : Int32 → Mem → Prop) (M : Mem) : Prop := j_X4_hasLine_21 post M (0 : Int32)
def q_X4_hasLine (M : Mem) (a0 : Nat) (post : Int32 → Mem → Prop) : Prop := ((M a0 1) ≤ 0 → (j_X4_hasLine_20 post M)) ∧ (¬ ((M a0 1) ≤ 0) → (((M a0 7) = (-4 : Int32) → (j_X4_hasLine_21 post M (1 : Int32))) ∧ (¬ ((M a0 7) = (-4 : Int32)) → (j_X4_hasLine_20 post M))))
set_option maxHeartbeats 4000000 in
set_option maxRecDepth 100000 in
theorem t_X4_hasLine_21 (C : Cx G p s m args meth c RX4 cX4_hasLine 1 (some .boolean)) {post : Int32 → Mem → Prop} (M : Mem) (y0 : Int32) {H : Heap} {locs : List Loc} {ls : Array Slot} (w : Wd G s M H locs) (hl : lv_has ls 1 []) (h : j_X4_hasLine_21 post M y0) : W p l e (rmk 1) s m args below meth c H locs 0 0 (MQ below (va_Qi post (Qw G) (Af G s.heap.size)) args s 0 0 (Af G s.heap.size)) (F0 m 21 ls [.int y0]) := by
  have hx := C.1.1
  have hb := C.1.2.1
  unfold j_X4_hasLine_21 at h
  exact ret_z C w h dX4_hasLine_21
set_option maxHeartbeats 4000000 in
set_option maxRecDepth 100000 in
theorem t_X4_hasLine_20 (C : Cx G p s m args meth c RX4 cX4_hasLine 1 (some .boolean)) {post : Int32 → Mem → Prop} (M : Mem) {H : Heap} {locs : List Loc} {ls : Array Slot} (w : Wd G s M H locs) (hl : lv_has ls 1 []) (h : j_X4_hasLine_20 post M) : W p l e (rmk 1) s m args below meth c H locs 0 0 (MQ below (va_Qi post (Qw G) (Af G s.heap.size)) args s 0 0 (Af G s.heap.size)) (F0 m 20 ls []) := by
  have hx := C.1.1
  have hb := C.1.2.1
  unfold j_X4_hasLine_20 at h
  refine lv_iconst (v := 0) hx hb dX4_hasLine_20 (by decide) ?_
  exact t_X4_hasLine_21 C M (0 : Int32)  w (lv_sub hl [] rfl) h
set_option maxHeartbeats 4000000 in
set_option maxRecDepth 100000 in
theorem c_X4_hasLine (l : Launch) (G : GG) (hG : Ag G) (sz : Nat) (M : Mem) (a0 : Nat) (ha0 : 1 ≤ a0 ∧ a0 < 4) (post : Int32 → Mem → Prop) (h : q_X4_hasLine M a0 post) : Met l yX4_hasLine (Cond.code yX4_hasLine cX4_hasLine 1 (some .boolean) :: wsL_law) (rmk 1) (va_Pc [.ref (ga G a0)] (Pw G sz M)) (va_Qi post (Qw G) (Af G sz)) 0 0 (Af G sz) := by
  refine Met.ofW (cc := cX4_hasLine) (maxL := 1) (ret := (some .boolean)) (by decide) rfl ?_
  intro p e s m args below meth c s₁ B hml hv
  obtain ⟨rfl, hsz, hE, hP⟩ := hv
  subst hsz
  have C := Cx.of (own := RX4) hG hE rfl hml B
  have w : Wd G s M s.heap [] := ⟨hP, va_S.rf⟩
  have hl := lv_entry [.ref (ga G a0)] (n := 1) (Nat.le_of_ble_eq_true rfl)
  rw [lg_entry_eq]
  generalize (lg_sl [.ref (ga G a0)] ++ List.replicate (1 - (lg_sl [.ref (ga G a0)]).length) Slot.unset).toArray = ls at hl ⊢
  have hl : lv_has ls 1 [(0, .ref (ga G a0))] := hl
  have hx := C.1.1
  have hb := C.1.2.1
  show W p l e (rmk 1) s m _ below meth c s.heap [] 0 0 _ _
  unfold q_X4_hasLine at h
  refine lv_aload_n hx hb dX4_hasLine_0 rfl (lv_at hl 0 rfl) ?_
  refine gt_4_1 C w ha0 kw_2_17 dX4_hasLine_1 ?_
  refine lv_if_le (tgt := 20) hx hb dX4_hasLine_4 (by decide) (fun c1 => ?_) (fun c1 => ?_)
  · replace h := h.1 c1
    exact t_X4_hasLine_20 C M   w (lv_sub hl [] rfl) h
  replace h := h.2 c1
  refine lv_aload_n hx hb dX4_hasLine_7 rfl (lv_at hl 0 rfl) ?_
  refine gt_4_7 C w ha0 kw_3_5 dX4_hasLine_8 ?_
  refine lv_bipush (v := -4) hx hb dX4_hasLine_11 (by decide) ?_
  refine lv_icmp_ne (tgt := 20) hx hb dX4_hasLine_13 (by decide) (fun c2 => ?_) (fun c2 => ?_)
  · replace h := h.2 c2
    exact t_X4_hasLine_20 C M   w (lv_sub hl [] rfl) h
  replace h := h.1 c2
  refine lv_iconst (v := 1) hx hb dX4_hasLine_16 (by decide) ?_
  refine lv_goto (tgt := 21) hx hb dX4_hasLine_17 (by decide) ?_
  exact t_X4_hasLine_21 C M (1 : Int32)  w (lv_sub hl [] rfl) h
def b_X5_layLine_25 (k25 : Mem → Int32 → Prop) (post : Int32 → Mem → Prop) (M : Mem) (x1 : Int32) : Prop := ((M 1 1) ≤ x1 → (post (1 : Int32) M)) ∧ (¬ ((M 1 1) ≤ x1) → (vp_in x1 6 ∧ (q_X0_add M (38 + x1.toNatClampNeg) (M (38 + x1.toNatClampNeg) 2) (fun M4 => k25 M4 (x1 + (1 : Int32))))))
def lp_X5_layLine_25 (post : Int32 → Mem → Prop) : Nat → Mem → Int32 → Prop
  | 0 => fun _ _ => False
  | n + 1 => fun M x1 => b_X5_layLine_25 (lp_X5_layLine_25 post n) post M x1
def q_X5_layLine (M : Mem) (post : Int32 → Mem → Prop) : Prop := q_X4_hasLine M 1 (fun r5 M6 => (r5 = 0 → (post (0 : Int32) M6)) ∧ (¬ (r5 = 0) → (q_X0_begin M6 1 (fun M9 => ∃ n, lp_X5_layLine_25 post n M9 (0 : Int32)))))
set_option maxHeartbeats 4000000 in
set_option maxRecDepth 100000 in
theorem t_X5_layLine_25 (C : Cx G p s m args meth c RX5 cX5_layLine 2 (some .boolean)) {post : Int32 → Mem → Prop} : ∀ (n : Nat) (M : Mem) (x1 : Int32) {H : Heap} {locs : List Loc} {ls : Array Slot} (w : Wd G s M H locs) (hl : lv_has ls 2 [(0, .ref (ga G 0)), (1, .int x1)]) (h : lp_X5_layLine_25 post n M x1), W p l e (rmk 2) s m args below meth c H locs 0 0 (MQ below (va_Qi post (Qw G) (Af G s.heap.size)) args s 0 0 (Af G s.heap.size)) (F0 m 25 ls []) := by
  have hx := C.1.1
  have hb := C.1.2.1
  intro n9
  induction n9 with
  | zero => intro M x1 H locs ls w hl h; exact absurd h id
  | succ n9 ih9 =>
    intro M x1 H locs ls w hl h
    have hk25 : ∀ (M : Mem) (x1 : Int32) (H : Heap) (locs : List Loc) (ls : Array Slot), Wd G s M H locs → lv_has ls 2 [(0, .ref (ga G 0)), (1, .int x1)] → lp_X5_layLine_25 post n9 M x1 → W p l e (rmk 2) s m args below meth c H locs 0 0 (MQ below (va_Qi post (Qw G) (Af G s.heap.size)) args s 0 0 (Af G s.heap.size)) (F0 m 25 ls []) := fun M x1 H locs ls w hl h => ih9 M x1 w hl h
    replace h : b_X5_layLine_25 (lp_X5_layLine_25 post n9) post M x1 := h
    unfold b_X5_layLine_25 at h
    refine lv_iload_n hx hb dX5_layLine_25 rfl (lv_at hl 1 rfl) ?_
    refine lv_aload_n hx hb dX5_layLine_26 rfl (lv_at hl 0 rfl) ?_
    refine gt_5_0 C w kw_1_16 dX5_layLine_27 ?_
    refine gn_4_1 C w ⟨by decide, by decide⟩ kn_14 dX5_layLine_30 ?_
    refine lv_icmp_ge (tgt := 70) hx hb dX5_layLine_33 (by decide) (fun c1 => ?_) (fun c1 => ?_)
    · replace h := h.1 c1
      refine lv_iconst (v := 1) hx hb dX5_layLine_70 (by decide) ?_
      exact ret_z C w ⟨Or.inr rfl, h⟩ dX5_layLine_71
    replace h := h.2 c1
    refine lv_aload_n hx hb dX5_layLine_36 rfl (lv_at hl 0 rfl) ?_
    refine gt_5_3 C w kw_1_22 dX5_layLine_37 ?_
    refine lv_aload_n hx hb dX5_layLine_40 rfl (lv_at hl 0 rfl) ?_
    refine gt_5_0 C w kw_1_16 dX5_layLine_41 ?_
    refine gn_4_0 C w ⟨by decide, by decide⟩ kn_13 dX5_layLine_44 ?_
    refine lv_iload_n hx hb dX5_layLine_47 rfl (lv_at hl 1 rfl) ?_
    have hin2 := h.1
    replace h := h.2
    have hz_hin2 := in_lt hin2
    refine pw_ldP C w (i := 8) ⟨by decide, by decide⟩ hin2 dX5_layLine_48 (j := (38 + x1.toNatClampNeg)) (by omega) ?_
    refine lv_aload_n hx hb dX5_layLine_49 rfl (lv_at hl 0 rfl) ?_
    refine gt_5_0 C w kw_1_16 dX5_layLine_50 ?_
    refine gn_4_0 C w ⟨by decide, by decide⟩ kn_13 dX5_layLine_53 ?_
    refine lv_iload_n hx hb dX5_layLine_56 rfl (lv_at hl 1 rfl) ?_
    refine pw_ldP C w (i := 8) ⟨by decide, by decide⟩ hin2 dX5_layLine_57 (j := (38 + x1.toNatClampNeg)) (by omega) ?_
    refine gn_1_2 C w (by omega) kn_3 dX5_layLine_58 ?_
    refine end_v w (run_VN (As := [.ref (ga G (38 + x1.toNatClampNeg)), .int (M (38 + x1.toNatClampNeg) 2)]) C w hl.1 (c_X0_add l G C.2.2.1 _ _ (38 + x1.toNatClampNeg) (M (38 + x1.toNatClampNeg) 2) (by omega) _ h) kw_16_6 kw_1_21 kn_57 kw_16_4 kw_16_5 hd_X0_add ⟨by decide, by decide⟩ (w.recv C (i := 4) (by decide) (pE_0) rfl) rfl (Nat.le_of_ble_eq_true rfl) dX5_layLine_61) (fun M4 H locs h w => ?_)
    refine lv_iinc (v := (x1 + (1 : Int32))) (lv' := [(1, .int (x1 + (1 : Int32))), (0, .ref (ga G 0))]) hx hb dX5_layLine_64 hl (k := 1) rfl rfl (by decide) rfl (fun ls hl => ?_)
    refine lv_goto (tgt := 25) hx hb dX5_layLine_67 (by decide) ?_
    exact hk25 M4 (x1 + (1 : Int32)) _ _ _  w (lv_sub hl [1, 0] rfl) h
set_option maxHeartbeats 4000000 in
set_option maxRecDepth 100000 in
theorem c_X5_layLine (l : Launch) (G : GG) (hG : Ag G) (sz : Nat) (M : Mem) (post : Int32 → Mem → Prop) (h : q_X5_layLine M post) : Met l yX5_layLine (Cond.code yX5_layLine cX5_layLine 2 (some .boolean) :: wsL_law) (rmk 2) (va_Pc [.ref (ga G 0)] (Pw G sz M)) (va_Qi post (Qw G) (Af G sz)) 0 0 (Af G sz) := by
  refine Met.ofW (cc := cX5_layLine) (maxL := 2) (ret := (some .boolean)) (by decide) rfl ?_
  intro p e s m args below meth c s₁ B hml hv
  obtain ⟨rfl, hsz, hE, hP⟩ := hv
  subst hsz
  have C := Cx.of (own := RX5) hG hE rfl hml B
  have w : Wd G s M s.heap [] := ⟨hP, va_S.rf⟩
  have hl := lv_entry [.ref (ga G 0)] (n := 2) (Nat.le_of_ble_eq_true rfl)
  rw [lg_entry_eq]
  generalize (lg_sl [.ref (ga G 0)] ++ List.replicate (2 - (lg_sl [.ref (ga G 0)]).length) Slot.unset).toArray = ls at hl ⊢
  have hl : lv_has ls 2 [(0, .ref (ga G 0))] := hl
  have hx := C.1.1
  have hb := C.1.2.1
  show W p l e (rmk 2) s m _ below meth c s.heap [] 0 0 _ _
  unfold q_X5_layLine at h
  refine lv_aload_n hx hb dX5_layLine_0 rfl (lv_at hl 0 rfl) ?_
  refine gt_5_0 C w kw_1_16 dX5_layLine_1 ?_
  refine end_i w (run_VN (As := []) C w hl.1 (c_X4_hasLine l G C.2.2.1 _ _ 1 ⟨by decide, by decide⟩ _ h) kw_16_0 kw_1_15 kn_55 kw_15_22 kw_15_23 hd_X4_hasLine ⟨by decide, by decide⟩ (w.recv C (i := 1) (by decide) (pE_4 ⟨by decide, by decide⟩) rfl) rfl (Nat.le_of_ble_eq_true rfl) dX5_layLine_4) (fun r5 M6 H locs h w => ?_)
  refine lv_if_ne (tgt := 12) hx hb dX5_layLine_7 (by decide) (fun c7 => ?_) (fun c7 => ?_)
  · replace h := h.2 c7
    refine lv_aload_n hx hb dX5_layLine_12 rfl (lv_at hl 0 rfl) ?_
    refine gt_5_3 C w kw_1_22 dX5_layLine_13 ?_
    refine lv_aload_n hx hb dX5_layLine_16 rfl (lv_at hl 0 rfl) ?_
    refine gt_5_0 C w kw_1_16 dX5_layLine_17 ?_
    refine end_v w (run_VN (As := [.ref (ga G 1)]) C w hl.1 (c_X0_begin l G C.2.2.1 _ _ 1 ⟨by decide, by decide⟩ _ h) kw_16_3 kw_1_21 kn_56 kw_16_1 kw_16_2 hd_X0_begin ⟨by decide, by decide⟩ (w.recv C (i := 4) (by decide) (pE_0) rfl) rfl (Nat.le_of_ble_eq_true rfl) dX5_layLine_20) (fun M9 H locs h w => ?_)
    refine lv_iconst (v := 0) hx hb dX5_layLine_23 (by decide) ?_
    refine lv_istore_n (lv' := [(1, .int (0 : Int32)), (0, .ref (ga G 0))]) hx hb dX5_layLine_24 rfl hl (by decide) rfl (fun ls hl => ?_)
    obtain ⟨n, h⟩ := h
    exact t_X5_layLine_25 C n M9 (0 : Int32)  w (lv_sub hl [1, 0] rfl) h
  replace h := h.1 c7
  refine lv_iconst (v := 0) hx hb dX5_layLine_10 (by decide) ?_
  exact ret_z C w ⟨Or.inl rfl, h⟩ dX5_layLine_11
end WALK
