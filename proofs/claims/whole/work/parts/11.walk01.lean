theorem dX2_scanNumber_0 : decode cX2_scanNumber 0 = .ok (.aload_n 1, 1) := by decide +kernel
theorem dX2_scanNumber_1 : decode cX2_scanNumber 1 = .ok (.aload_n 0, 1) := by decide +kernel
theorem dX2_scanNumber_2 : decode cX2_scanNumber 2 = .ok (.getfield 9, 3) := by decide +kernel
theorem dX2_scanNumber_5 : decode cX2_scanNumber 5 = .ok (.invokevirtual 31, 3) := by decide +kernel
theorem dX2_scanNumber_8 : decode cX2_scanNumber 8 = .ok (.bipush 48, 2) := by decide +kernel
theorem dX2_scanNumber_10 : decode cX2_scanNumber 10 = .ok (.isub, 1) := by decide +kernel
theorem dX2_scanNumber_11 : decode cX2_scanNumber 11 = .ok (.istore_n 3, 1) := by decide +kernel
theorem dX2_scanNumber_12 : decode cX2_scanNumber 12 = .ok (.iconst 1, 1) := by decide +kernel
theorem dX2_scanNumber_13 : decode cX2_scanNumber 13 = .ok (.istore 4, 2) := by decide +kernel
theorem dX2_scanNumber_15 : decode cX2_scanNumber 15 = .ok (.iload 4, 2) := by decide +kernel
theorem dX2_scanNumber_17 : decode cX2_scanNumber 17 = .ok (.iload_n 2, 1) := by decide +kernel
theorem dX2_scanNumber_18 : decode cX2_scanNumber 18 = .ok (.if_icmp .ge 50, 3) := by decide +kernel
theorem dX2_scanNumber_21 : decode cX2_scanNumber 21 = .ok (.iload_n 3, 1) := by decide +kernel
theorem dX2_scanNumber_22 : decode cX2_scanNumber 22 = .ok (.ifCond .eq 46, 3) := by decide +kernel
theorem dX2_scanNumber_25 : decode cX2_scanNumber 25 = .ok (.aload_n 1, 1) := by decide +kernel
theorem dX2_scanNumber_26 : decode cX2_scanNumber 26 = .ok (.aload_n 0, 1) := by decide +kernel
theorem dX2_scanNumber_27 : decode cX2_scanNumber 27 = .ok (.getfield 9, 3) := by decide +kernel
theorem dX2_scanNumber_30 : decode cX2_scanNumber 30 = .ok (.iload 4, 2) := by decide +kernel
theorem dX2_scanNumber_32 : decode cX2_scanNumber 32 = .ok (.iadd, 1) := by decide +kernel
theorem dX2_scanNumber_33 : decode cX2_scanNumber 33 = .ok (.invokevirtual 31, 3) := by decide +kernel
theorem dX2_scanNumber_36 : decode cX2_scanNumber 36 = .ok (.invokestatic 75, 3) := by decide +kernel
theorem dX2_scanNumber_39 : decode cX2_scanNumber 39 = .ok (.ifCond .eq 29, 3) := by decide +kernel
theorem dX2_scanNumber_42 : decode cX2_scanNumber 42 = .ok (.bipush 10, 2) := by decide +kernel
theorem dX2_scanNumber_44 : decode cX2_scanNumber 44 = .ok (.iload_n 3, 1) := by decide +kernel
theorem dX2_scanNumber_45 : decode cX2_scanNumber 45 = .ok (.imul, 1) := by decide +kernel
theorem dX2_scanNumber_46 : decode cX2_scanNumber 46 = .ok (.aload_n 1, 1) := by decide +kernel
theorem dX2_scanNumber_47 : decode cX2_scanNumber 47 = .ok (.aload_n 0, 1) := by decide +kernel
theorem dX2_scanNumber_48 : decode cX2_scanNumber 48 = .ok (.getfield 9, 3) := by decide +kernel
theorem dX2_scanNumber_51 : decode cX2_scanNumber 51 = .ok (.iload 4, 2) := by decide +kernel
theorem dX2_scanNumber_53 : decode cX2_scanNumber 53 = .ok (.iadd, 1) := by decide +kernel
theorem dX2_scanNumber_54 : decode cX2_scanNumber 54 = .ok (.invokevirtual 31, 3) := by decide +kernel
theorem dX2_scanNumber_57 : decode cX2_scanNumber 57 = .ok (.iadd, 1) := by decide +kernel
theorem dX2_scanNumber_58 : decode cX2_scanNumber 58 = .ok (.bipush 48, 2) := by decide +kernel
theorem dX2_scanNumber_60 : decode cX2_scanNumber 60 = .ok (.isub, 1) := by decide +kernel
theorem dX2_scanNumber_61 : decode cX2_scanNumber 61 = .ok (.istore_n 3, 1) := by decide +kernel
theorem dX2_scanNumber_62 : decode cX2_scanNumber 62 = .ok (.iinc 4 1, 3) := by decide +kernel
theorem dX2_scanNumber_65 : decode cX2_scanNumber 65 = .ok (.goto (-50), 3) := by decide +kernel
theorem dX2_scanNumber_68 : decode cX2_scanNumber 68 = .ok (.aload_n 0, 1) := by decide +kernel
theorem dX2_scanNumber_69 : decode cX2_scanNumber 69 = .ok (.iload_n 3, 1) := by decide +kernel
theorem dX2_scanNumber_70 : decode cX2_scanNumber 70 = .ok (.iload 4, 2) := by decide +kernel
theorem dX2_scanNumber_72 : decode cX2_scanNumber 72 = .ok (.invokevirtual 82, 3) := by decide +kernel
theorem dX2_scanNumber_75 : decode cX2_scanNumber 75 = .ok (.ireturn, 1) := by decide +kernel
theorem dX2_scanPart_0 : decode cX2_scanPart 0 = .ok (.aload_n 1, 1) := by decide +kernel
theorem dX2_scanPart_1 : decode cX2_scanPart 1 = .ok (.aload_n 0, 1) := by decide +kernel
theorem dX2_scanPart_2 : decode cX2_scanPart 2 = .ok (.getfield 9, 3) := by decide +kernel
theorem dX2_scanPart_5 : decode cX2_scanPart 5 = .ok (.invokevirtual 31, 3) := by decide +kernel
theorem dX2_scanPart_8 : decode cX2_scanPart 8 = .ok (.istore_n 3, 1) := by decide +kernel
theorem dX2_scanPart_9 : decode cX2_scanPart 9 = .ok (.iload_n 2, 1) := by decide +kernel
theorem dX2_scanPart_10 : decode cX2_scanPart 10 = .ok (.lookupswitch 115 #[(68, 34), (78, 56), (83, 78)], 34) := by decide +kernel
theorem dX2_scanPart_44 : decode cX2_scanPart 44 = .ok (.iload_n 3, 1) := by decide +kernel
theorem dX2_scanPart_45 : decode cX2_scanPart 45 = .ok (.invokestatic 75, 3) := by decide +kernel
theorem dX2_scanPart_48 : decode cX2_scanPart 48 = .ok (.ifCond .eq 16, 3) := by decide +kernel
theorem dX2_scanPart_51 : decode cX2_scanPart 51 = .ok (.aload_n 0, 1) := by decide +kernel
theorem dX2_scanPart_52 : decode cX2_scanPart 52 = .ok (.aload_n 1, 1) := by decide +kernel
theorem dX2_scanPart_53 : decode cX2_scanPart 53 = .ok (.iconst 1, 1) := by decide +kernel
theorem dX2_scanPart_54 : decode cX2_scanPart 54 = .ok (.invokevirtual 79, 3) := by decide +kernel
theorem dX2_scanPart_57 : decode cX2_scanPart 57 = .ok (.ifCond .eq 7, 3) := by decide +kernel
theorem dX2_scanPart_60 : decode cX2_scanPart 60 = .ok (.iconst 1, 1) := by decide +kernel
theorem dX2_scanPart_61 : decode cX2_scanPart 61 = .ok (.goto 4, 3) := by decide +kernel
theorem dX2_scanPart_64 : decode cX2_scanPart 64 = .ok (.iconst 0, 1) := by decide +kernel
theorem dX2_scanPart_65 : decode cX2_scanPart 65 = .ok (.ireturn, 1) := by decide +kernel
theorem dX2_scanPart_66 : decode cX2_scanPart 66 = .ok (.iload_n 3, 1) := by decide +kernel
theorem dX2_scanPart_67 : decode cX2_scanPart 67 = .ok (.invokestatic 75, 3) := by decide +kernel
theorem dX2_scanPart_70 : decode cX2_scanPart 70 = .ok (.ifCond .eq 16, 3) := by decide +kernel
theorem dX2_scanPart_73 : decode cX2_scanPart 73 = .ok (.aload_n 0, 1) := by decide +kernel
theorem dX2_scanPart_74 : decode cX2_scanPart 74 = .ok (.aload_n 1, 1) := by decide +kernel
theorem dX2_scanPart_75 : decode cX2_scanPart 75 = .ok (.iconst 3, 1) := by decide +kernel
theorem dX2_scanPart_76 : decode cX2_scanPart 76 = .ok (.invokevirtual 79, 3) := by decide +kernel
theorem dX2_scanPart_79 : decode cX2_scanPart 79 = .ok (.ifCond .eq 7, 3) := by decide +kernel
theorem dX2_scanPart_82 : decode cX2_scanPart 82 = .ok (.iconst 1, 1) := by decide +kernel
theorem dX2_scanPart_83 : decode cX2_scanPart 83 = .ok (.goto 4, 3) := by decide +kernel
theorem dX2_scanPart_86 : decode cX2_scanPart 86 = .ok (.iconst 0, 1) := by decide +kernel
theorem dX2_scanPart_87 : decode cX2_scanPart 87 = .ok (.ireturn, 1) := by decide +kernel
theorem dX2_scanPart_88 : decode cX2_scanPart 88 = .ok (.iload_n 3, 1) := by decide +kernel
theorem dX2_scanPart_89 : decode cX2_scanPart 89 = .ok (.bipush 43, 2) := by decide +kernel
theorem dX2_scanPart_91 : decode cX2_scanPart 91 = .ok (.if_icmp .eq 9, 3) := by decide +kernel
theorem dX2_scanPart_94 : decode cX2_scanPart 94 = .ok (.iload_n 3, 1) := by decide +kernel
theorem dX2_scanPart_95 : decode cX2_scanPart 95 = .ok (.bipush 45, 2) := by decide +kernel
theorem dX2_scanPart_97 : decode cX2_scanPart 97 = .ok (.if_icmp .ne 26, 3) := by decide +kernel
theorem dX2_scanPart_100 : decode cX2_scanPart 100 = .ok (.aload_n 0, 1) := by decide +kernel
theorem dX2_scanPart_101 : decode cX2_scanPart 101 = .ok (.iload_n 3, 1) := by decide +kernel
theorem dX2_scanPart_102 : decode cX2_scanPart 102 = .ok (.bipush 45, 2) := by decide +kernel
theorem dX2_scanPart_104 : decode cX2_scanPart 104 = .ok (.if_icmp .ne 7, 3) := by decide +kernel
theorem dX2_scanPart_107 : decode cX2_scanPart 107 = .ok (.iconst (-1), 1) := by decide +kernel
theorem dX2_scanPart_108 : decode cX2_scanPart 108 = .ok (.goto 4, 3) := by decide +kernel
theorem dX2_scanPart_111 : decode cX2_scanPart 111 = .ok (.iconst 1, 1) := by decide +kernel
theorem dX2_scanPart_112 : decode cX2_scanPart 112 = .ok (.iconst 1, 1) := by decide +kernel
theorem dX2_scanPart_113 : decode cX2_scanPart 113 = .ok (.invokevirtual 82, 3) := by decide +kernel
theorem dX2_scanPart_116 : decode cX2_scanPart 116 = .ok (.ifCond .eq 7, 3) := by decide +kernel
theorem dX2_scanPart_119 : decode cX2_scanPart 119 = .ok (.iconst 1, 1) := by decide +kernel
theorem dX2_scanPart_120 : decode cX2_scanPart 120 = .ok (.goto 4, 3) := by decide +kernel
theorem dX2_scanPart_123 : decode cX2_scanPart 123 = .ok (.iconst 0, 1) := by decide +kernel
theorem dX2_scanPart_124 : decode cX2_scanPart 124 = .ok (.ireturn, 1) := by decide +kernel
theorem dX2_scanPart_125 : decode cX2_scanPart 125 = .ok (.iload_n 3, 1) := by decide +kernel
theorem dX2_scanPart_126 : decode cX2_scanPart 126 = .ok (.iload_n 2, 1) := by decide +kernel
theorem dX2_scanPart_127 : decode cX2_scanPart 127 = .ok (.if_icmp .eq 5, 3) := by decide +kernel
theorem dX2_scanPart_130 : decode cX2_scanPart 130 = .ok (.iconst 0, 1) := by decide +kernel
theorem dX2_scanPart_131 : decode cX2_scanPart 131 = .ok (.ireturn, 1) := by decide +kernel
theorem dX2_scanPart_132 : decode cX2_scanPart 132 = .ok (.aload_n 0, 1) := by decide +kernel
theorem dX2_scanPart_133 : decode cX2_scanPart 133 = .ok (.dup, 1) := by decide +kernel
theorem dX2_scanPart_134 : decode cX2_scanPart 134 = .ok (.getfield 9, 3) := by decide +kernel
theorem dX2_scanPart_137 : decode cX2_scanPart 137 = .ok (.iconst 1, 1) := by decide +kernel
theorem dX2_scanPart_138 : decode cX2_scanPart 138 = .ok (.iadd, 1) := by decide +kernel
theorem dX2_scanPart_139 : decode cX2_scanPart 139 = .ok (.putfield 9, 3) := by decide +kernel
theorem dX2_scanPart_142 : decode cX2_scanPart 142 = .ok (.iconst 1, 1) := by decide +kernel
theorem dX2_scanPart_143 : decode cX2_scanPart 143 = .ok (.ireturn, 1) := by decide +kernel
theorem dX1_become_0 : decode cX1_become 0 = .ok (.aload_n 0, 1) := by decide +kernel
theorem dX1_become_1 : decode cX1_become 1 = .ok (.aload_n 1, 1) := by decide +kernel
theorem dX1_become_2 : decode cX1_become 2 = .ok (.getfield 11, 3) := by decide +kernel
theorem dX1_become_5 : decode cX1_become 5 = .ok (.putfield 11, 3) := by decide +kernel
theorem dX1_become_8 : decode cX1_become 8 = .ok (.aload_n 0, 1) := by decide +kernel
theorem dX1_become_9 : decode cX1_become 9 = .ok (.aload_n 1, 1) := by decide +kernel
theorem dX1_become_10 : decode cX1_become 10 = .ok (.getfield 15, 3) := by decide +kernel
theorem dX1_become_13 : decode cX1_become 13 = .ok (.putfield 15, 3) := by decide +kernel
theorem dX1_become_16 : decode cX1_become 16 = .ok (.aload_n 0, 1) := by decide +kernel
theorem dX1_become_17 : decode cX1_become 17 = .ok (.aload_n 1, 1) := by decide +kernel
theorem dX1_become_18 : decode cX1_become 18 = .ok (.getfield 18, 3) := by decide +kernel
theorem dX1_become_21 : decode cX1_become 21 = .ok (.putfield 18, 3) := by decide +kernel
theorem dX1_become_24 : decode cX1_become 24 = .ok (.aload_n 0, 1) := by decide +kernel
theorem dX1_become_25 : decode cX1_become 25 = .ok (.aload_n 1, 1) := by decide +kernel
theorem dX1_become_26 : decode cX1_become 26 = .ok (.getfield 21, 3) := by decide +kernel
theorem dX1_become_29 : decode cX1_become 29 = .ok (.putfield 21, 3) := by decide +kernel
theorem dX1_become_32 : decode cX1_become 32 = .ok (.aload_n 0, 1) := by decide +kernel
theorem dX1_become_33 : decode cX1_become 33 = .ok (.aload_n 1, 1) := by decide +kernel
theorem dX1_become_34 : decode cX1_become 34 = .ok (.getfield 24, 3) := by decide +kernel
theorem dX1_become_37 : decode cX1_become 37 = .ok (.putfield 24, 3) := by decide +kernel
theorem dX1_become_40 : decode cX1_become 40 = .ok (.aload_n 0, 1) := by decide +kernel
theorem dX1_become_41 : decode cX1_become 41 = .ok (.aload_n 1, 1) := by decide +kernel
theorem dX1_become_42 : decode cX1_become 42 = .ok (.getfield 27, 3) := by decide +kernel
theorem dX1_become_45 : decode cX1_become 45 = .ok (.putfield 27, 3) := by decide +kernel
theorem dX1_become_48 : decode cX1_become 48 = .ok (.aload_n 0, 1) := by decide +kernel
theorem dX1_become_49 : decode cX1_become 49 = .ok (.aload_n 1, 1) := by decide +kernel
theorem dX1_become_50 : decode cX1_become 50 = .ok (.getfield 30, 3) := by decide +kernel
theorem dX1_become_53 : decode cX1_become 53 = .ok (.putfield 30, 3) := by decide +kernel
theorem dX1_become_56 : decode cX1_become 56 = .ok (.aload_n 0, 1) := by decide +kernel
theorem dX1_become_57 : decode cX1_become 57 = .ok (.aload_n 1, 1) := by decide +kernel
theorem dX1_become_58 : decode cX1_become 58 = .ok (.getfield 33, 3) := by decide +kernel
theorem dX1_become_61 : decode cX1_become 61 = .ok (.putfield 33, 3) := by decide +kernel
theorem dX1_become_64 : decode cX1_become 64 = .ok (.aload_n 0, 1) := by decide +kernel
theorem dX1_become_65 : decode cX1_become 65 = .ok (.aload_n 1, 1) := by decide +kernel
theorem dX1_become_66 : decode cX1_become 66 = .ok (.getfield 36, 3) := by decide +kernel
theorem dX1_become_69 : decode cX1_become 69 = .ok (.putfield 36, 3) := by decide +kernel
theorem dX1_become_72 : decode cX1_become 72 = .ok (.return_, 1) := by decide +kernel
theorem dX4_become_0 : decode cX4_become 0 = .ok (.iconst 0, 1) := by decide +kernel
theorem dX4_become_1 : decode cX4_become 1 = .ok (.istore_n 2, 1) := by decide +kernel
theorem dX4_become_2 : decode cX4_become 2 = .ok (.iload_n 2, 1) := by decide +kernel
theorem dX4_become_3 : decode cX4_become 3 = .ok (.aload_n 1, 1) := by decide +kernel
theorem dX4_become_4 : decode cX4_become 4 = .ok (.getfield 17, 3) := by decide +kernel
theorem dX4_become_7 : decode cX4_become 7 = .ok (.if_icmp .ge 24, 3) := by decide +kernel
theorem dX4_become_10 : decode cX4_become 10 = .ok (.aload_n 0, 1) := by decide +kernel
theorem dX4_become_11 : decode cX4_become 11 = .ok (.getfield 11, 3) := by decide +kernel
theorem dX4_become_14 : decode cX4_become 14 = .ok (.iload_n 2, 1) := by decide +kernel
theorem dX4_become_15 : decode cX4_become 15 = .ok (.aaload, 1) := by decide +kernel
theorem dX4_become_16 : decode cX4_become 16 = .ok (.aload_n 1, 1) := by decide +kernel
theorem dX4_become_17 : decode cX4_become 17 = .ok (.getfield 11, 3) := by decide +kernel
theorem dX4_become_20 : decode cX4_become 20 = .ok (.iload_n 2, 1) := by decide +kernel
theorem dX4_become_21 : decode cX4_become 21 = .ok (.aaload, 1) := by decide +kernel
theorem dX4_become_22 : decode cX4_become 22 = .ok (.invokevirtual 52, 3) := by decide +kernel
theorem dX4_become_25 : decode cX4_become 25 = .ok (.iinc 2 1, 3) := by decide +kernel
theorem dX4_become_28 : decode cX4_become 28 = .ok (.goto (-26), 3) := by decide +kernel
theorem dX4_become_31 : decode cX4_become 31 = .ok (.aload_n 0, 1) := by decide +kernel
theorem dX4_become_32 : decode cX4_become 32 = .ok (.aload_n 1, 1) := by decide +kernel
theorem dX4_become_33 : decode cX4_become 33 = .ok (.getfield 17, 3) := by decide +kernel
theorem dX4_become_36 : decode cX4_become 36 = .ok (.putfield 17, 3) := by decide +kernel
theorem dX4_become_39 : decode cX4_become 39 = .ok (.aload_n 1, 1) := by decide +kernel
theorem dX4_become_40 : decode cX4_become 40 = .ok (.getfield 30, 3) := by decide +kernel
theorem dX4_become_43 : decode cX4_become 43 = .ok (.iconst 0, 1) := by decide +kernel
theorem dX4_become_44 : decode cX4_become 44 = .ok (.aload_n 0, 1) := by decide +kernel
theorem dX4_become_45 : decode cX4_become 45 = .ok (.getfield 30, 3) := by decide +kernel
theorem dX4_become_48 : decode cX4_become 48 = .ok (.iconst 0, 1) := by decide +kernel
theorem dX4_become_49 : decode cX4_become 49 = .ok (.aload_n 0, 1) := by decide +kernel
theorem dX4_become_50 : decode cX4_become 50 = .ok (.getfield 30, 3) := by decide +kernel
theorem dX4_become_53 : decode cX4_become 53 = .ok (.arraylength, 1) := by decide +kernel
theorem dX4_become_54 : decode cX4_become 54 = .ok (.invokestatic 56, 3) := by decide +kernel
theorem dX4_become_57 : decode cX4_become 57 = .ok (.aload_n 0, 1) := by decide +kernel
theorem dX4_become_58 : decode cX4_become 58 = .ok (.aload_n 1, 1) := by decide +kernel
theorem dX4_become_59 : decode cX4_become 59 = .ok (.getfield 33, 3) := by decide +kernel
theorem dX4_become_62 : decode cX4_become 62 = .ok (.putfield 33, 3) := by decide +kernel
theorem dX4_become_65 : decode cX4_become 65 = .ok (.aload_n 0, 1) := by decide +kernel
theorem dX4_become_66 : decode cX4_become 66 = .ok (.aload_n 1, 1) := by decide +kernel
theorem dX4_become_67 : decode cX4_become 67 = .ok (.getfield 36, 3) := by decide +kernel
theorem dX4_become_70 : decode cX4_become 70 = .ok (.putfield 36, 3) := by decide +kernel
theorem dX4_become_73 : decode cX4_become 73 = .ok (.aload_n 0, 1) := by decide +kernel
theorem dX4_become_74 : decode cX4_become 74 = .ok (.aload_n 1, 1) := by decide +kernel
theorem dX4_become_75 : decode cX4_become 75 = .ok (.getfield 39, 3) := by decide +kernel
theorem dX4_become_78 : decode cX4_become 78 = .ok (.putfield 39, 3) := by decide +kernel
theorem dX4_become_81 : decode cX4_become 81 = .ok (.aload_n 0, 1) := by decide +kernel
theorem dX4_become_82 : decode cX4_become 82 = .ok (.aload_n 1, 1) := by decide +kernel
theorem dX4_become_83 : decode cX4_become 83 = .ok (.getfield 42, 3) := by decide +kernel
theorem dX4_become_86 : decode cX4_become 86 = .ok (.putfield 42, 3) := by decide +kernel
theorem dX4_become_89 : decode cX4_become 89 = .ok (.aload_n 0, 1) := by decide +kernel
theorem dX4_become_90 : decode cX4_become 90 = .ok (.aload_n 1, 1) := by decide +kernel
theorem dX4_become_91 : decode cX4_become 91 = .ok (.getfield 45, 3) := by decide +kernel
theorem dX4_become_94 : decode cX4_become 94 = .ok (.putfield 45, 3) := by decide +kernel
theorem dX4_become_97 : decode cX4_become 97 = .ok (.aload_n 0, 1) := by decide +kernel
theorem dX4_become_98 : decode cX4_become 98 = .ok (.aload_n 1, 1) := by decide +kernel
theorem dX4_become_99 : decode cX4_become 99 = .ok (.getfield 48, 3) := by decide +kernel
theorem dX4_become_102 : decode cX4_become 102 = .ok (.putfield 48, 3) := by decide +kernel
theorem dX4_become_105 : decode cX4_become 105 = .ok (.return_, 1) := by decide +kernel
theorem dX5_isShelf_0 : decode cX5_isShelf 0 = .ok (.iload_n 0, 1) := by decide +kernel
theorem dX5_isShelf_1 : decode cX5_isShelf 1 = .ok (.iconst 0, 1) := by decide +kernel
theorem dX5_isShelf_2 : decode cX5_isShelf 2 = .ok (.bipush 7, 2) := by decide +kernel
theorem dX5_isShelf_4 : decode cX5_isShelf 4 = .ok (.invokestatic 129, 3) := by decide +kernel
theorem dX5_isShelf_7 : decode cX5_isShelf 7 = .ok (.ireturn, 1) := by decide +kernel
theorem dX5_refusalOfHolding_0 : decode cX5_refusalOfHolding 0 = .ok (.iload_n 1, 1) := by decide +kernel
theorem dX5_refusalOfHolding_1 : decode cX5_refusalOfHolding 1 = .ok (.invokestatic 250, 3) := by decide +kernel
theorem dX5_refusalOfHolding_4 : decode cX5_refusalOfHolding 4 = .ok (.ifCond .ne 5, 3) := by decide +kernel
theorem dX5_refusalOfHolding_7 : decode cX5_refusalOfHolding 7 = .ok (.iconst (-1), 1) := by decide +kernel
theorem dX5_refusalOfHolding_8 : decode cX5_refusalOfHolding 8 = .ok (.ireturn, 1) := by decide +kernel
theorem dX5_refusalOfHolding_9 : decode cX5_refusalOfHolding 9 = .ok (.aload_n 0, 1) := by decide +kernel
theorem dX5_refusalOfHolding_10 : decode cX5_refusalOfHolding 10 = .ok (.getfield 45, 3) := by decide +kernel
theorem dX5_refusalOfHolding_13 : decode cX5_refusalOfHolding 13 = .ok (.iload_n 1, 1) := by decide +kernel
theorem dX5_refusalOfHolding_14 : decode cX5_refusalOfHolding 14 = .ok (.aaload, 1) := by decide +kernel
theorem dX5_refusalOfHolding_15 : decode cX5_refusalOfHolding 15 = .ok (.getfield 282, 3) := by decide +kernel
theorem dX5_refusalOfHolding_18 : decode cX5_refusalOfHolding 18 = .ok (.ifCond .ne 6, 3) := by decide +kernel
theorem dX5_refusalOfHolding_21 : decode cX5_refusalOfHolding 21 = .ok (.bipush (-11), 2) := by decide +kernel
theorem dX5_refusalOfHolding_23 : decode cX5_refusalOfHolding 23 = .ok (.ireturn, 1) := by decide +kernel
theorem dX5_refusalOfHolding_24 : decode cX5_refusalOfHolding 24 = .ok (.aload_n 0, 1) := by decide +kernel
theorem dX5_refusalOfHolding_25 : decode cX5_refusalOfHolding 25 = .ok (.getfield 45, 3) := by decide +kernel
theorem dX5_refusalOfHolding_28 : decode cX5_refusalOfHolding 28 = .ok (.iload_n 1, 1) := by decide +kernel
theorem dX5_refusalOfHolding_29 : decode cX5_refusalOfHolding 29 = .ok (.aaload, 1) := by decide +kernel
theorem dX5_refusalOfHolding_30 : decode cX5_refusalOfHolding 30 = .ok (.getfield 282, 3) := by decide +kernel
theorem dX5_refusalOfHolding_33 : decode cX5_refusalOfHolding 33 = .ok (.iload_n 2, 1) := by decide +kernel
theorem dX5_refusalOfHolding_34 : decode cX5_refusalOfHolding 34 = .ok (.if_icmp .ne 7, 3) := by decide +kernel
theorem dX5_refusalOfHolding_37 : decode cX5_refusalOfHolding 37 = .ok (.iconst 0, 1) := by decide +kernel
theorem dX5_refusalOfHolding_38 : decode cX5_refusalOfHolding 38 = .ok (.goto 5, 3) := by decide +kernel
theorem dX5_refusalOfHolding_41 : decode cX5_refusalOfHolding 41 = .ok (.bipush (-12), 2) := by decide +kernel
theorem dX5_refusalOfHolding_43 : decode cX5_refusalOfHolding 43 = .ok (.ireturn, 1) := by decide +kernel
theorem dX5_refusalOfRow_0 : decode cX5_refusalOfRow 0 = .ok (.aload_n 0, 1) := by decide +kernel
theorem dX5_refusalOfRow_1 : decode cX5_refusalOfRow 1 = .ok (.iload_n 1, 1) := by decide +kernel
theorem dX5_refusalOfRow_2 : decode cX5_refusalOfRow 2 = .ok (.iconst 2, 1) := by decide +kernel
theorem dX5_refusalOfRow_3 : decode cX5_refusalOfRow 3 = .ok (.invokevirtual 315, 3) := by decide +kernel
theorem dX5_refusalOfRow_6 : decode cX5_refusalOfRow 6 = .ok (.ireturn, 1) := by decide +kernel
theorem dX5_refusalOfBytes_0 : decode cX5_refusalOfBytes 0 = .ok (.aload_n 0, 1) := by decide +kernel
theorem dX5_refusalOfBytes_1 : decode cX5_refusalOfBytes 1 = .ok (.iload_n 1, 1) := by decide +kernel
theorem dX5_refusalOfBytes_2 : decode cX5_refusalOfBytes 2 = .ok (.invokevirtual 229, 3) := by decide +kernel
theorem dX5_refusalOfBytes_5 : decode cX5_refusalOfBytes 5 = .ok (.istore_n 2, 1) := by decide +kernel
theorem dX5_refusalOfBytes_6 : decode cX5_refusalOfBytes 6 = .ok (.iload_n 2, 1) := by decide +kernel
theorem dX5_refusalOfBytes_7 : decode cX5_refusalOfBytes 7 = .ok (.ifCond .ge 5, 3) := by decide +kernel
theorem dX5_refusalOfBytes_10 : decode cX5_refusalOfBytes 10 = .ok (.iload_n 2, 1) := by decide +kernel
theorem dX5_refusalOfBytes_11 : decode cX5_refusalOfBytes 11 = .ok (.ireturn, 1) := by decide +kernel
theorem dX5_refusalOfBytes_12 : decode cX5_refusalOfBytes 12 = .ok (.aload_n 0, 1) := by decide +kernel
theorem dX5_refusalOfBytes_13 : decode cX5_refusalOfBytes 13 = .ok (.getfield 45, 3) := by decide +kernel
theorem dX5_refusalOfBytes_16 : decode cX5_refusalOfBytes 16 = .ok (.iload_n 1, 1) := by decide +kernel
theorem dX5_refusalOfBytes_17 : decode cX5_refusalOfBytes 17 = .ok (.aaload, 1) := by decide +kernel
theorem dX5_refusalOfBytes_18 : decode cX5_refusalOfBytes 18 = .ok (.getfield 285, 3) := by decide +kernel
theorem dX5_refusalOfBytes_21 : decode cX5_refusalOfBytes 21 = .ok (.ifCond .ne 7, 3) := by decide +kernel
theorem dX5_refusalOfBytes_24 : decode cX5_refusalOfBytes 24 = .ok (.iconst 0, 1) := by decide +kernel
theorem dX5_refusalOfBytes_25 : decode cX5_refusalOfBytes 25 = .ok (.goto 5, 3) := by decide +kernel
theorem dX5_refusalOfBytes_28 : decode cX5_refusalOfBytes 28 = .ok (.bipush (-12), 2) := by decide +kernel
theorem dX5_refusalOfBytes_30 : decode cX5_refusalOfBytes 30 = .ok (.ireturn, 1) := by decide +kernel
theorem dX6_isIn_0 : decode cX6_isIn 0 = .ok (.lload_n 0, 1) := by decide +kernel
theorem dX6_isIn_1 : decode cX6_isIn 1 = .ok (.lload_n 2, 1) := by decide +kernel
theorem dX6_isIn_2 : decode cX6_isIn 2 = .ok (.lcmp, 1) := by decide +kernel
theorem dX6_isIn_3 : decode cX6_isIn 3 = .ok (.ifCond .lt 14, 3) := by decide +kernel
theorem dX6_isIn_6 : decode cX6_isIn 6 = .ok (.lload_n 0, 1) := by decide +kernel
theorem dX6_isIn_7 : decode cX6_isIn 7 = .ok (.lload 4, 2) := by decide +kernel
theorem dX6_isIn_9 : decode cX6_isIn 9 = .ok (.lcmp, 1) := by decide +kernel
theorem dX6_isIn_10 : decode cX6_isIn 10 = .ok (.ifCond .gt 7, 3) := by decide +kernel
theorem dX6_isIn_13 : decode cX6_isIn 13 = .ok (.iconst 1, 1) := by decide +kernel
theorem dX6_isIn_14 : decode cX6_isIn 14 = .ok (.goto 4, 3) := by decide +kernel
theorem dX6_isIn_17 : decode cX6_isIn 17 = .ok (.iconst 0, 1) := by decide +kernel
theorem dX6_isIn_18 : decode cX6_isIn 18 = .ok (.ireturn, 1) := by decide +kernel
theorem dX6_comes_0 : decode cX6_comes 0 = .ok (.aload_n 0, 1) := by decide +kernel
theorem dX6_comes_1 : decode cX6_comes 1 = .ok (.getfield 40, 3) := by decide +kernel
theorem dX6_comes_4 : decode cX6_comes 4 = .ok (.iconst 0, 1) := by decide +kernel
theorem dX6_comes_5 : decode cX6_comes 5 = .ok (.iaload, 1) := by decide +kernel
theorem dX6_comes_6 : decode cX6_comes 6 = .ok (.istore_n 2, 1) := by decide +kernel
theorem dX6_comes_7 : decode cX6_comes 7 = .ok (.iload_n 1, 1) := by decide +kernel
theorem dX6_comes_8 : decode cX6_comes 8 = .ok (.lookupswitch 263 #[(100, 214), (112, 52), (115, 155), (118, 204), (121, 233)], 52) := by decide +kernel
theorem dX6_comes_60 : decode cX6_comes 60 = .ok (.iload_n 2, 1) := by decide +kernel
theorem dX6_comes_61 : decode cX6_comes 61 = .ok (.bipush 7, 2) := by decide +kernel
theorem dX6_comes_63 : decode cX6_comes 63 = .ok (.if_icmp .gt 31, 3) := by decide +kernel
theorem dX6_comes_66 : decode cX6_comes 66 = .ok (.aload_n 0, 1) := by decide +kernel
theorem dX6_comes_67 : decode cX6_comes 67 = .ok (.getfield 40, 3) := by decide +kernel
theorem dX6_comes_70 : decode cX6_comes 70 = .ok (.iconst 2, 1) := by decide +kernel
theorem dX6_comes_71 : decode cX6_comes 71 = .ok (.iaload, 1) := by decide +kernel
theorem dX6_comes_72 : decode cX6_comes 72 = .ok (.i2l, 1) := by decide +kernel
theorem dX6_comes_73 : decode cX6_comes 73 = .ok (.lconst 1, 1) := by decide +kernel
theorem dX6_comes_74 : decode cX6_comes 74 = .ok (.ldc2_w 88, 3) := by decide +kernel
theorem dX6_comes_77 : decode cX6_comes 77 = .ok (.invokestatic 47, 3) := by decide +kernel
theorem dX6_comes_80 : decode cX6_comes 80 = .ok (.ifCond .eq 14, 3) := by decide +kernel
theorem dX6_comes_83 : decode cX6_comes 83 = .ok (.aload_n 0, 1) := by decide +kernel
theorem dX6_comes_84 : decode cX6_comes 84 = .ok (.getfield 16, 3) := by decide +kernel
theorem dX6_comes_87 : decode cX6_comes 87 = .ok (.iconst 0, 1) := by decide +kernel
theorem dX6_comes_88 : decode cX6_comes 88 = .ok (.iaload, 1) := by decide +kernel
theorem dX6_comes_89 : decode cX6_comes 89 = .ok (.bipush 6, 2) := by decide +kernel
theorem dX6_comes_91 : decode cX6_comes 91 = .ok (.if_icmp .ne 5, 3) := by decide +kernel
theorem dX6_comes_94 : decode cX6_comes 94 = .ok (.iconst 0, 1) := by decide +kernel
theorem dX6_comes_95 : decode cX6_comes 95 = .ok (.ireturn, 1) := by decide +kernel
theorem dX6_comes_96 : decode cX6_comes 96 = .ok (.bipush 12, 2) := by decide +kernel
theorem dX6_comes_98 : decode cX6_comes 98 = .ok (.bipush 6, 2) := by decide +kernel
theorem dX6_comes_100 : decode cX6_comes 100 = .ok (.aload_n 0, 1) := by decide +kernel
theorem dX6_comes_101 : decode cX6_comes 101 = .ok (.getfield 16, 3) := by decide +kernel
theorem dX6_comes_104 : decode cX6_comes 104 = .ok (.iconst 0, 1) := by decide +kernel
theorem dX6_comes_105 : decode cX6_comes 105 = .ok (.iaload, 1) := by decide +kernel
theorem dX6_comes_106 : decode cX6_comes 106 = .ok (.imul, 1) := by decide +kernel
theorem dX6_comes_107 : decode cX6_comes 107 = .ok (.iadd, 1) := by decide +kernel
theorem dX6_comes_108 : decode cX6_comes 108 = .ok (.istore_n 3, 1) := by decide +kernel
theorem dX6_comes_109 : decode cX6_comes 109 = .ok (.iconst 0, 1) := by decide +kernel
theorem dX6_comes_110 : decode cX6_comes 110 = .ok (.istore 4, 2) := by decide +kernel
theorem dX6_comes_112 : decode cX6_comes 112 = .ok (.iload 4, 2) := by decide +kernel
theorem dX6_comes_114 : decode cX6_comes 114 = .ok (.bipush 6, 2) := by decide +kernel
theorem dX6_comes_116 : decode cX6_comes 116 = .ok (.if_icmp .ge 35, 3) := by decide +kernel
theorem dX6_comes_119 : decode cX6_comes 119 = .ok (.aload_n 0, 1) := by decide +kernel
theorem dX6_comes_120 : decode cX6_comes 120 = .ok (.getfield 16, 3) := by decide +kernel
theorem dX6_comes_123 : decode cX6_comes 123 = .ok (.iload_n 3, 1) := by decide +kernel
theorem dX6_comes_124 : decode cX6_comes 124 = .ok (.iload 4, 2) := by decide +kernel
theorem dX6_comes_126 : decode cX6_comes 126 = .ok (.iadd, 1) := by decide +kernel
theorem dX6_comes_127 : decode cX6_comes 127 = .ok (.iload 4, 2) := by decide +kernel
theorem dX6_comes_129 : decode cX6_comes 129 = .ok (.iconst 3, 1) := by decide +kernel
theorem dX6_comes_130 : decode cX6_comes 130 = .ok (.if_icmp .ge 13, 3) := by decide +kernel
theorem dX6_comes_133 : decode cX6_comes 133 = .ok (.aload_n 0, 1) := by decide +kernel
theorem dX6_comes_134 : decode cX6_comes 134 = .ok (.getfield 40, 3) := by decide +kernel
theorem dX6_comes_137 : decode cX6_comes 137 = .ok (.iload 4, 2) := by decide +kernel
theorem dX6_comes_139 : decode cX6_comes 139 = .ok (.iaload, 1) := by decide +kernel
theorem dX6_comes_140 : decode cX6_comes 140 = .ok (.goto 4, 3) := by decide +kernel
theorem dX6_comes_143 : decode cX6_comes 143 = .ok (.iconst 0, 1) := by decide +kernel
theorem dX6_comes_144 : decode cX6_comes 144 = .ok (.iastore, 1) := by decide +kernel
theorem dX6_comes_145 : decode cX6_comes 145 = .ok (.iinc 4 1, 3) := by decide +kernel
theorem dX6_comes_148 : decode cX6_comes 148 = .ok (.goto (-36), 3) := by decide +kernel
theorem dX6_comes_151 : decode cX6_comes 151 = .ok (.aload_n 0, 1) := by decide +kernel
theorem dX6_comes_152 : decode cX6_comes 152 = .ok (.getfield 16, 3) := by decide +kernel
theorem dX6_comes_155 : decode cX6_comes 155 = .ok (.iconst 0, 1) := by decide +kernel
theorem dX6_comes_156 : decode cX6_comes 156 = .ok (.dup2, 1) := by decide +kernel
theorem dX6_comes_157 : decode cX6_comes 157 = .ok (.iaload, 1) := by decide +kernel
theorem dX6_comes_158 : decode cX6_comes 158 = .ok (.iconst 1, 1) := by decide +kernel
theorem dX6_comes_159 : decode cX6_comes 159 = .ok (.iadd, 1) := by decide +kernel
theorem dX6_comes_160 : decode cX6_comes 160 = .ok (.iastore, 1) := by decide +kernel
theorem dX6_comes_161 : decode cX6_comes 161 = .ok (.iconst 1, 1) := by decide +kernel
theorem dX6_comes_162 : decode cX6_comes 162 = .ok (.ireturn, 1) := by decide +kernel
theorem dX6_comes_163 : decode cX6_comes 163 = .ok (.iload_n 2, 1) := by decide +kernel
theorem dX6_comes_164 : decode cX6_comes 164 = .ok (.bipush 60, 2) := by decide +kernel
theorem dX6_comes_166 : decode cX6_comes 166 = .ok (.if_icmp .gt 22, 3) := by decide +kernel
theorem dX6_comes_169 : decode cX6_comes 169 = .ok (.aload_n 0, 1) := by decide +kernel
theorem dX6_comes_170 : decode cX6_comes 170 = .ok (.getfield 40, 3) := by decide +kernel
theorem dX6_comes_173 : decode cX6_comes 173 = .ok (.iconst 1, 1) := by decide +kernel
theorem dX6_comes_174 : decode cX6_comes 174 = .ok (.iaload, 1) := by decide +kernel
theorem dX6_comes_175 : decode cX6_comes 175 = .ok (.i2l, 1) := by decide +kernel
theorem dX6_comes_176 : decode cX6_comes 176 = .ok (.ldc2_w 90, 3) := by decide +kernel
theorem dX6_comes_179 : decode cX6_comes 179 = .ok (.ldc2_w 92, 3) := by decide +kernel
theorem dX6_comes_182 : decode cX6_comes 182 = .ok (.invokestatic 47, 3) := by decide +kernel
theorem dX6_comes_185 : decode cX6_comes 185 = .ok (.ifCond .ne 5, 3) := by decide +kernel
theorem dX6_comes_188 : decode cX6_comes 188 = .ok (.iconst 0, 1) := by decide +kernel
theorem dX6_comes_189 : decode cX6_comes 189 = .ok (.ireturn, 1) := by decide +kernel
theorem dX6_comes_190 : decode cX6_comes 190 = .ok (.aload_n 0, 1) := by decide +kernel
theorem dX6_comes_191 : decode cX6_comes 191 = .ok (.getfield 16, 3) := by decide +kernel
theorem dX6_comes_194 : decode cX6_comes 194 = .ok (.iconst 5, 1) := by decide +kernel
theorem dX6_comes_195 : decode cX6_comes 195 = .ok (.iload_n 2, 1) := by decide +kernel
theorem dX6_comes_196 : decode cX6_comes 196 = .ok (.iastore, 1) := by decide +kernel
theorem dX6_comes_197 : decode cX6_comes 197 = .ok (.aload_n 0, 1) := by decide +kernel
theorem dX6_comes_198 : decode cX6_comes 198 = .ok (.getfield 16, 3) := by decide +kernel
theorem dX6_comes_201 : decode cX6_comes 201 = .ok (.bipush 6, 2) := by decide +kernel
theorem dX6_comes_203 : decode cX6_comes 203 = .ok (.aload_n 0, 1) := by decide +kernel
theorem dX6_comes_204 : decode cX6_comes 204 = .ok (.getfield 40, 3) := by decide +kernel
theorem dX6_comes_207 : decode cX6_comes 207 = .ok (.iconst 1, 1) := by decide +kernel
theorem dX6_comes_208 : decode cX6_comes 208 = .ok (.iaload, 1) := by decide +kernel
theorem dX6_comes_209 : decode cX6_comes 209 = .ok (.iastore, 1) := by decide +kernel
theorem dX6_comes_210 : decode cX6_comes 210 = .ok (.iconst 1, 1) := by decide +kernel
theorem dX6_comes_211 : decode cX6_comes 211 = .ok (.ireturn, 1) := by decide +kernel
theorem dX6_comes_212 : decode cX6_comes 212 = .ok (.aload_n 0, 1) := by decide +kernel
theorem dX6_comes_213 : decode cX6_comes 213 = .ok (.getfield 16, 3) := by decide +kernel
theorem dX6_comes_216 : decode cX6_comes 216 = .ok (.bipush 7, 2) := by decide +kernel
theorem dX6_comes_218 : decode cX6_comes 218 = .ok (.iload_n 2, 1) := by decide +kernel
theorem dX6_comes_219 : decode cX6_comes 219 = .ok (.iastore, 1) := by decide +kernel
theorem dX6_comes_220 : decode cX6_comes 220 = .ok (.iconst 1, 1) := by decide +kernel
theorem dX6_comes_221 : decode cX6_comes 221 = .ok (.ireturn, 1) := by decide +kernel
theorem dX6_comes_222 : decode cX6_comes 222 = .ok (.aload_n 0, 1) := by decide +kernel
theorem dX6_comes_223 : decode cX6_comes 223 = .ok (.getfield 16, 3) := by decide +kernel
theorem dX6_comes_226 : decode cX6_comes 226 = .ok (.bipush 8, 2) := by decide +kernel
theorem dX6_comes_228 : decode cX6_comes 228 = .ok (.iload_n 2, 1) := by decide +kernel
theorem dX6_comes_229 : decode cX6_comes 229 = .ok (.iastore, 1) := by decide +kernel
theorem dX6_comes_230 : decode cX6_comes 230 = .ok (.iload_n 2, 1) := by decide +kernel
theorem dX6_comes_231 : decode cX6_comes 231 = .ok (.iconst 1, 1) := by decide +kernel
theorem dX6_comes_232 : decode cX6_comes 232 = .ok (.if_icmp .lt 7, 3) := by decide +kernel
theorem dX6_comes_235 : decode cX6_comes 235 = .ok (.iconst 1, 1) := by decide +kernel
theorem dX6_comes_236 : decode cX6_comes 236 = .ok (.goto 4, 3) := by decide +kernel
theorem dX6_comes_239 : decode cX6_comes 239 = .ok (.iconst 0, 1) := by decide +kernel
theorem dX6_comes_240 : decode cX6_comes 240 = .ok (.ireturn, 1) := by decide +kernel
theorem dX6_comes_241 : decode cX6_comes 241 = .ok (.iconst 0, 1) := by decide +kernel
theorem dX6_comes_242 : decode cX6_comes 242 = .ok (.istore_n 3, 1) := by decide +kernel
theorem dX6_comes_243 : decode cX6_comes 243 = .ok (.iload_n 3, 1) := by decide +kernel
theorem dX6_comes_244 : decode cX6_comes 244 = .ok (.iconst 3, 1) := by decide +kernel
theorem dX6_comes_245 : decode cX6_comes 245 = .ok (.if_icmp .ge 24, 3) := by decide +kernel
theorem dX6_comes_248 : decode cX6_comes 248 = .ok (.aload_n 0, 1) := by decide +kernel
theorem dX6_comes_249 : decode cX6_comes 249 = .ok (.getfield 16, 3) := by decide +kernel
theorem dX6_comes_252 : decode cX6_comes 252 = .ok (.bipush 9, 2) := by decide +kernel
theorem dX6_comes_254 : decode cX6_comes 254 = .ok (.iload_n 3, 1) := by decide +kernel
theorem dX6_comes_255 : decode cX6_comes 255 = .ok (.iadd, 1) := by decide +kernel
theorem dX6_comes_256 : decode cX6_comes 256 = .ok (.aload_n 0, 1) := by decide +kernel
theorem dX6_comes_257 : decode cX6_comes 257 = .ok (.getfield 40, 3) := by decide +kernel
theorem dX6_comes_260 : decode cX6_comes 260 = .ok (.iload_n 3, 1) := by decide +kernel
theorem dX6_comes_261 : decode cX6_comes 261 = .ok (.iaload, 1) := by decide +kernel
theorem dX6_comes_262 : decode cX6_comes 262 = .ok (.iastore, 1) := by decide +kernel
theorem dX6_comes_263 : decode cX6_comes 263 = .ok (.iinc 3 1, 3) := by decide +kernel
theorem dX6_comes_266 : decode cX6_comes 266 = .ok (.goto (-23), 3) := by decide +kernel
theorem dX6_comes_269 : decode cX6_comes 269 = .ok (.iconst 1, 1) := by decide +kernel
theorem dX6_comes_270 : decode cX6_comes 270 = .ok (.ireturn, 1) := by decide +kernel
theorem dX6_comes_271 : decode cX6_comes 271 = .ok (.aload_n 0, 1) := by decide +kernel
theorem dX6_comes_272 : decode cX6_comes 272 = .ok (.getfield 16, 3) := by decide +kernel
theorem dX6_comes_275 : decode cX6_comes 275 = .ok (.iconst 3, 1) := by decide +kernel
theorem dX6_comes_276 : decode cX6_comes 276 = .ok (.aload_n 0, 1) := by decide +kernel
theorem dX6_comes_277 : decode cX6_comes 277 = .ok (.getfield 84, 3) := by decide +kernel
theorem dX6_comes_280 : decode cX6_comes 280 = .ok (.ifCond .eq 8, 3) := by decide +kernel
theorem dX6_comes_283 : decode cX6_comes 283 = .ok (.iload_n 2, 1) := by decide +kernel
theorem dX6_comes_284 : decode cX6_comes 284 = .ok (.ineg, 1) := by decide +kernel
theorem dX6_comes_285 : decode cX6_comes 285 = .ok (.goto 4, 3) := by decide +kernel
theorem dX6_comes_288 : decode cX6_comes 288 = .ok (.iload_n 2, 1) := by decide +kernel
theorem dX6_comes_289 : decode cX6_comes 289 = .ok (.iastore, 1) := by decide +kernel
theorem dX6_comes_290 : decode cX6_comes 290 = .ok (.iconst 1, 1) := by decide +kernel
theorem dX6_comes_291 : decode cX6_comes 291 = .ok (.ireturn, 1) := by decide +kernel
theorem dX6_copies_0 : decode cX6_copies 0 = .ok (.iconst 0, 1) := by decide +kernel
theorem dX6_copies_1 : decode cX6_copies 1 = .ok (.istore_n 2, 1) := by decide +kernel
theorem dX6_copies_2 : decode cX6_copies 2 = .ok (.iload_n 2, 1) := by decide +kernel
theorem dX6_copies_3 : decode cX6_copies 3 = .ok (.bipush 54, 2) := by decide +kernel
theorem dX6_copies_5 : decode cX6_copies 5 = .ok (.if_icmp .ge 15, 3) := by decide +kernel
theorem dX6_copies_8 : decode cX6_copies 8 = .ok (.aload_n 1, 1) := by decide +kernel
theorem dX6_copies_9 : decode cX6_copies 9 = .ok (.iload_n 2, 1) := by decide +kernel
theorem dX6_copies_10 : decode cX6_copies 10 = .ok (.aload_n 0, 1) := by decide +kernel
theorem dX6_copies_11 : decode cX6_copies 11 = .ok (.iload_n 2, 1) := by decide +kernel
theorem dX6_copies_12 : decode cX6_copies 12 = .ok (.iaload, 1) := by decide +kernel
theorem dX6_copies_13 : decode cX6_copies 13 = .ok (.iastore, 1) := by decide +kernel
theorem dX6_copies_14 : decode cX6_copies 14 = .ok (.iinc 2 1, 3) := by decide +kernel
theorem dX6_copies_17 : decode cX6_copies 17 = .ok (.goto (-15), 3) := by decide +kernel
theorem dX6_copies_20 : decode cX6_copies 20 = .ok (.return_, 1) := by decide +kernel
theorem dX6_here_0 : decode cX6_here 0 = .ok (.aload_n 0, 1) := by decide +kernel
theorem dX6_here_1 : decode cX6_here 1 = .ok (.getfield 53, 3) := by decide +kernel
theorem dX6_here_4 : decode cX6_here 4 = .ok (.aload_n 0, 1) := by decide +kernel
theorem dX6_here_5 : decode cX6_here 5 = .ok (.getfield 56, 3) := by decide +kernel
theorem dX6_here_8 : decode cX6_here 8 = .ok (.if_icmp .ge 20, 3) := by decide +kernel
theorem dX6_here_11 : decode cX6_here 11 = .ok (.aload_n 0, 1) := by decide +kernel
theorem dX6_here_12 : decode cX6_here 12 = .ok (.getfield 31, 3) := by decide +kernel
theorem dX6_here_15 : decode cX6_here 15 = .ok (.aload_n 0, 1) := by decide +kernel
theorem dX6_here_16 : decode cX6_here 16 = .ok (.getfield 59, 3) := by decide +kernel
theorem dX6_here_19 : decode cX6_here 19 = .ok (.aload_n 0, 1) := by decide +kernel
theorem dX6_here_20 : decode cX6_here 20 = .ok (.getfield 53, 3) := by decide +kernel
theorem dX6_here_23 : decode cX6_here 23 = .ok (.iadd, 1) := by decide +kernel
theorem dX6_here_24 : decode cX6_here 24 = .ok (.iaload, 1) := by decide +kernel
theorem dX6_here_25 : decode cX6_here 25 = .ok (.goto 6, 3) := by decide +kernel
theorem dX6_here_28 : decode cX6_here 28 = .ok (.sipush (-1000), 3) := by decide +kernel
theorem dX6_here_31 : decode cX6_here 31 = .ok (.ireturn, 1) := by decide +kernel
theorem dX6_isDigit_0 : decode cX6_isDigit 0 = .ok (.aload_n 0, 1) := by decide +kernel
theorem dX6_isDigit_1 : decode cX6_isDigit 1 = .ok (.invokevirtual 62, 3) := by decide +kernel
theorem dX6_isDigit_4 : decode cX6_isDigit 4 = .ok (.i2l, 1) := by decide +kernel
theorem dX6_isDigit_5 : decode cX6_isDigit 5 = .ok (.ldc2_w 66, 3) := by decide +kernel
theorem dX6_isDigit_8 : decode cX6_isDigit 8 = .ok (.ldc2_w 68, 3) := by decide +kernel
theorem dX6_isDigit_11 : decode cX6_isDigit 11 = .ok (.invokestatic 47, 3) := by decide +kernel
theorem dX6_isDigit_14 : decode cX6_isDigit 14 = .ok (.ireturn, 1) := by decide +kernel
theorem dX6_readsNumber_0 : decode cX6_readsNumber 0 = .ok (.aload_n 0, 1) := by decide +kernel
theorem dX6_readsNumber_1 : decode cX6_readsNumber 1 = .ok (.invokevirtual 70, 3) := by decide +kernel
theorem dX6_readsNumber_4 : decode cX6_readsNumber 4 = .ok (.ifCond .ne 5, 3) := by decide +kernel
theorem dX6_readsNumber_7 : decode cX6_readsNumber 7 = .ok (.iconst 0, 1) := by decide +kernel
theorem dX6_readsNumber_8 : decode cX6_readsNumber 8 = .ok (.ireturn, 1) := by decide +kernel
theorem dX6_readsNumber_9 : decode cX6_readsNumber 9 = .ok (.aload_n 0, 1) := by decide +kernel
theorem dX6_readsNumber_10 : decode cX6_readsNumber 10 = .ok (.invokevirtual 62, 3) := by decide +kernel
theorem dX6_readsNumber_13 : decode cX6_readsNumber 13 = .ok (.bipush 48, 2) := by decide +kernel
theorem dX6_readsNumber_15 : decode cX6_readsNumber 15 = .ok (.isub, 1) := by decide +kernel
theorem dX6_readsNumber_16 : decode cX6_readsNumber 16 = .ok (.istore_n 2, 1) := by decide +kernel
theorem dX6_readsNumber_17 : decode cX6_readsNumber 17 = .ok (.aload_n 0, 1) := by decide +kernel
theorem dX6_readsNumber_18 : decode cX6_readsNumber 18 = .ok (.dup, 1) := by decide +kernel
theorem dX6_readsNumber_19 : decode cX6_readsNumber 19 = .ok (.getfield 53, 3) := by decide +kernel
theorem dX6_readsNumber_22 : decode cX6_readsNumber 22 = .ok (.iconst 1, 1) := by decide +kernel
theorem dX6_readsNumber_23 : decode cX6_readsNumber 23 = .ok (.iadd, 1) := by decide +kernel
theorem dX6_readsNumber_24 : decode cX6_readsNumber 24 = .ok (.putfield 53, 3) := by decide +kernel
theorem dX6_readsNumber_27 : decode cX6_readsNumber 27 = .ok (.iconst 1, 1) := by decide +kernel
theorem dX6_readsNumber_28 : decode cX6_readsNumber 28 = .ok (.istore_n 3, 1) := by decide +kernel
theorem dX6_readsNumber_29 : decode cX6_readsNumber 29 = .ok (.iload_n 3, 1) := by decide +kernel
theorem dX6_readsNumber_30 : decode cX6_readsNumber 30 = .ok (.iload_n 1, 1) := by decide +kernel
theorem dX6_readsNumber_31 : decode cX6_readsNumber 31 = .ok (.if_icmp .ge 43, 3) := by decide +kernel
theorem dX6_readsNumber_34 : decode cX6_readsNumber 34 = .ok (.iload_n 2, 1) := by decide +kernel
theorem dX6_readsNumber_35 : decode cX6_readsNumber 35 = .ok (.ifCond .le 39, 3) := by decide +kernel
theorem dX6_readsNumber_38 : decode cX6_readsNumber 38 = .ok (.aload_n 0, 1) := by decide +kernel
theorem dX6_readsNumber_39 : decode cX6_readsNumber 39 = .ok (.invokevirtual 70, 3) := by decide +kernel
theorem dX6_readsNumber_42 : decode cX6_readsNumber 42 = .ok (.ifCond .eq 32, 3) := by decide +kernel
theorem dX6_readsNumber_45 : decode cX6_readsNumber 45 = .ok (.bipush 10, 2) := by decide +kernel
theorem dX6_readsNumber_47 : decode cX6_readsNumber 47 = .ok (.iload_n 2, 1) := by decide +kernel
theorem dX6_readsNumber_48 : decode cX6_readsNumber 48 = .ok (.imul, 1) := by decide +kernel
theorem dX6_readsNumber_49 : decode cX6_readsNumber 49 = .ok (.aload_n 0, 1) := by decide +kernel
theorem dX6_readsNumber_50 : decode cX6_readsNumber 50 = .ok (.invokevirtual 62, 3) := by decide +kernel
theorem dX6_readsNumber_53 : decode cX6_readsNumber 53 = .ok (.iadd, 1) := by decide +kernel
theorem dX6_readsNumber_54 : decode cX6_readsNumber 54 = .ok (.bipush 48, 2) := by decide +kernel
theorem dX6_readsNumber_56 : decode cX6_readsNumber 56 = .ok (.isub, 1) := by decide +kernel
theorem dX6_readsNumber_57 : decode cX6_readsNumber 57 = .ok (.istore_n 2, 1) := by decide +kernel
theorem dX6_readsNumber_58 : decode cX6_readsNumber 58 = .ok (.aload_n 0, 1) := by decide +kernel
theorem dX6_readsNumber_59 : decode cX6_readsNumber 59 = .ok (.dup, 1) := by decide +kernel
theorem dX6_readsNumber_60 : decode cX6_readsNumber 60 = .ok (.getfield 53, 3) := by decide +kernel
theorem dX6_readsNumber_63 : decode cX6_readsNumber 63 = .ok (.iconst 1, 1) := by decide +kernel
theorem dX6_readsNumber_64 : decode cX6_readsNumber 64 = .ok (.iadd, 1) := by decide +kernel
theorem dX6_readsNumber_65 : decode cX6_readsNumber 65 = .ok (.putfield 53, 3) := by decide +kernel
theorem dX6_readsNumber_68 : decode cX6_readsNumber 68 = .ok (.iinc 3 1, 3) := by decide +kernel
theorem dX6_readsNumber_71 : decode cX6_readsNumber 71 = .ok (.goto (-42), 3) := by decide +kernel
theorem dX6_readsNumber_74 : decode cX6_readsNumber 74 = .ok (.aload_n 0, 1) := by decide +kernel
theorem dX6_readsNumber_75 : decode cX6_readsNumber 75 = .ok (.getfield 40, 3) := by decide +kernel
theorem dX6_readsNumber_78 : decode cX6_readsNumber 78 = .ok (.aload_n 0, 1) := by decide +kernel
theorem dX6_readsNumber_79 : decode cX6_readsNumber 79 = .ok (.getfield 74, 3) := by decide +kernel
theorem dX6_readsNumber_82 : decode cX6_readsNumber 82 = .ok (.iload_n 2, 1) := by decide +kernel
theorem dX6_readsNumber_83 : decode cX6_readsNumber 83 = .ok (.iastore, 1) := by decide +kernel
theorem dX6_readsNumber_84 : decode cX6_readsNumber 84 = .ok (.aload_n 0, 1) := by decide +kernel
theorem dX6_readsNumber_85 : decode cX6_readsNumber 85 = .ok (.dup, 1) := by decide +kernel
theorem dX6_readsNumber_86 : decode cX6_readsNumber 86 = .ok (.getfield 74, 3) := by decide +kernel
theorem dX6_readsNumber_89 : decode cX6_readsNumber 89 = .ok (.iconst 1, 1) := by decide +kernel
theorem dX6_readsNumber_90 : decode cX6_readsNumber 90 = .ok (.iadd, 1) := by decide +kernel
theorem dX6_readsNumber_91 : decode cX6_readsNumber 91 = .ok (.putfield 74, 3) := by decide +kernel
theorem dX6_readsNumber_94 : decode cX6_readsNumber 94 = .ok (.iconst 1, 1) := by decide +kernel
theorem dX6_readsNumber_95 : decode cX6_readsNumber 95 = .ok (.ireturn, 1) := by decide +kernel
section WALK
variable {p : Program} {l : Launch} {e : Env} {s : State} {m : MethodId} {args : Array Value} {below : List Frame} {meth : Method} {c : Code} {G : GG}

def j_X2_scanNumber_68 (post : Int32 → Mem → Prop) (M : Mem) (x3 : Int32) (x4 : Int32) : Prop := q_X2_take M x3 x4 (fun r1 M2 => (r1 = 0 ∨ r1 = 1) ∧ post r1 M2)
def b_X2_scanNumber_15 (k15 : Mem → Nat → Int32 → Int32 → Int32 → Prop) (post : Int32 → Mem → Prop) (M : Mem) (a1 : Nat) (x2 : Int32) (x3 : Int32) (x4 : Int32) : Prop := (x2 ≤ x4 → (j_X2_scanNumber_68 post M x3 x4)) ∧ (¬ (x2 ≤ x4) → ((x3 = 0 → (j_X2_scanNumber_68 post M x3 x4)) ∧ (¬ (x3 = 0) → (q_X3_byteAt M a1 ((M 5 0) + x4) (fun r5 M6 => q_X2_isDigit M6 r5 (fun r7 M8 => (r7 = 0 → (j_X2_scanNumber_68 post M8 x3 x4)) ∧ (¬ (r7 = 0) → (q_X3_byteAt M8 a1 ((M8 5 0) + x4) (fun r10 M11 => ∀ v12 : Int32, v12 = ((((10 : Int32) * x3) + r10) - (48 : Int32)) → (k15 M11 a1 x2 v12 (x4 + (1 : Int32))))))))))))
def lp_X2_scanNumber_15 (post : Int32 → Mem → Prop) : Nat → Mem → Nat → Int32 → Int32 → Int32 → Prop
  | 0 => fun _ _ _ _ _ => False
  | n + 1 => fun M a1 x2 x3 x4 => b_X2_scanNumber_15 (lp_X2_scanNumber_15 post n) post M a1 x2 x3 x4
def q_X2_scanNumber (M : Mem) (a1 : Nat) (x2 : Int32) (post : Int32 → Mem → Prop) : Prop := q_X3_byteAt M a1 (M 5 0) (fun r13 M14 => ∃ n, lp_X2_scanNumber_15 post n M14 a1 x2 (r13 - (48 : Int32)) (1 : Int32))
set_option maxHeartbeats 4000000 in
set_option maxRecDepth 100000 in
theorem t_X2_scanNumber_68 (C : Cx G p s m args meth c RX2 cX2_scanNumber 5 (some .boolean)) {post : Int32 → Mem → Prop} (M : Mem) (x3 : Int32) (x4 : Int32) {H : Heap} {locs : List Loc} {ls : Array Slot} (w : Wd G s M H locs) (hl : lv_has ls 5 [(0, .ref (ga G 5)), (3, .int x3), (4, .int x4)]) (h : j_X2_scanNumber_68 post M x3 x4) : W p l e (rmk 3) s m args below meth c H locs 0 0 (MQ below (va_Qi post (Qw G) (Af G s.heap.size)) args s 0 0 (Af G s.heap.size)) (F0 m 68 ls []) := by
  have hx := C.1.1
  have hb := C.1.2.1
  unfold j_X2_scanNumber_68 at h
  refine lv_aload_n hx hb dX2_scanNumber_68 rfl (lv_at hl 0 rfl) ?_
  refine lv_iload_n hx hb dX2_scanNumber_69 rfl (lv_at hl 1 rfl) ?_
  refine lv_iload hx hb dX2_scanNumber_70 (lv_at hl 2 rfl) ?_
  refine end_i w (run_V (As := [.int x3, .int x4]) C w hl.1 (c_X2_take l G C.2.2.1 _ _ x3 x4  _ h) kw_10_7 kw_2_5 kw_10_4 kw_10_5 kw_10_6 hd_X2_take ⟨by decide, by decide⟩ (w.recv C (i := 5) (by decide) (pE_2) rfl) rfl (Nat.le_of_ble_eq_true rfl) dX2_scanNumber_72) (fun r1 M2 H locs h w => ?_)
  exact ret_z C w h dX2_scanNumber_75
set_option maxHeartbeats 4000000 in
set_option maxRecDepth 100000 in
theorem t_X2_scanNumber_15 (C : Cx G p s m args meth c RX2 cX2_scanNumber 5 (some .boolean)) {post : Int32 → Mem → Prop} : ∀ (n : Nat) (M : Mem) (a1 : Nat) (x2 : Int32) (x3 : Int32) (x4 : Int32) {H : Heap} {locs : List Loc} {ls : Array Slot} (ha1 : 14 ≤ a1 ∧ a1 < 22) (w : Wd G s M H locs) (hl : lv_has ls 5 [(0, .ref (ga G 5)), (1, .ref (ga G a1)), (2, .int x2), (3, .int x3), (4, .int x4)]) (h : lp_X2_scanNumber_15 post n M a1 x2 x3 x4), W p l e (rmk 3) s m args below meth c H locs 0 0 (MQ below (va_Qi post (Qw G) (Af G s.heap.size)) args s 0 0 (Af G s.heap.size)) (F0 m 15 ls []) := by
  have hx := C.1.1
  have hb := C.1.2.1
  intro n9
  induction n9 with
  | zero => intro M a1 x2 x3 x4 H locs ls ha1 w hl h; exact absurd h id
  | succ n9 ih9 =>
    intro M a1 x2 x3 x4 H locs ls ha1 w hl h
    have hk15 : ∀ (M : Mem) (a1 : Nat) (x2 : Int32) (x3 : Int32) (x4 : Int32) (H : Heap) (locs : List Loc) (ls : Array Slot), (14 ≤ a1 ∧ a1 < 22) → Wd G s M H locs → lv_has ls 5 [(0, .ref (ga G 5)), (1, .ref (ga G a1)), (2, .int x2), (3, .int x3), (4, .int x4)] → lp_X2_scanNumber_15 post n9 M a1 x2 x3 x4 → W p l e (rmk 3) s m args below meth c H locs 0 0 (MQ below (va_Qi post (Qw G) (Af G s.heap.size)) args s 0 0 (Af G s.heap.size)) (F0 m 15 ls []) := fun M a1 x2 x3 x4 H locs ls ha1 w hl h => ih9 M a1 x2 x3 x4 ha1 w hl h
    replace h : b_X2_scanNumber_15 (lp_X2_scanNumber_15 post n9) post M a1 x2 x3 x4 := h
    unfold b_X2_scanNumber_15 at h
    refine lv_iload hx hb dX2_scanNumber_15 (lv_at hl 4 rfl) ?_
    refine lv_iload_n hx hb dX2_scanNumber_17 rfl (lv_at hl 2 rfl) ?_
    refine lv_icmp_ge (tgt := 68) hx hb dX2_scanNumber_18 (by decide) (fun c3 => ?_) (fun c3 => ?_)
    · replace h := h.1 c3
      exact t_X2_scanNumber_68 C M x3 x4  w (lv_sub hl [0, 3, 4] rfl) h
    replace h := h.2 c3
    refine lv_iload_n hx hb dX2_scanNumber_21 rfl (lv_at hl 3 rfl) ?_
    refine lv_if_eq (tgt := 68) hx hb dX2_scanNumber_22 (by decide) (fun c4 => ?_) (fun c4 => ?_)
    · replace h := h.1 c4
      exact t_X2_scanNumber_68 C M x3 x4  w (lv_sub hl [0, 3, 4] rfl) h
    replace h := h.2 c4
    refine lv_aload_n hx hb dX2_scanNumber_25 rfl (lv_at hl 1 rfl) ?_
    refine lv_aload_n hx hb dX2_scanNumber_26 rfl (lv_at hl 0 rfl) ?_
    refine gt_2_0 C w kw_4_7 dX2_scanNumber_27 ?_
    refine lv_iload hx hb dX2_scanNumber_30 (lv_at hl 4 rfl) ?_
    refine lv_iadd hx hb dX2_scanNumber_32 ?_
    refine end_i w (run_VN (As := [.int ((M 5 0) + x4)]) C w hl.1 (c_X3_byteAt l G C.2.2.1 _ _ a1 ((M 5 0) + x4) ha1 _ h) kw_7_4 kw_2_11 kn_47 kw_7_2 kw_7_3 hd_X3_byteAt ⟨by decide, by decide⟩ (w.recv C (i := a1) (by omega) (pE_3 ha1) rfl) rfl (Nat.le_of_ble_eq_true rfl) dX2_scanNumber_33) (fun r5 M6 H locs h w => ?_)
    refine end_i w (run_S (As := [.int r5]) C w hl.1 (c_X2_isDigit l G C.2.2.1 _ _ r5  _ h) kw_9_23 kw_2_5 kw_9_21 kw_9_22 hd_X2_isDigit ⟨by decide, by decide⟩ rfl (Nat.le_of_ble_eq_true rfl) dX2_scanNumber_36) (fun r7 M8 H locs h w => ?_)
    refine lv_if_eq (tgt := 68) hx hb dX2_scanNumber_39 (by decide) (fun c9 => ?_) (fun c9 => ?_)
    · replace h := h.1 c9
      exact t_X2_scanNumber_68 C M8 x3 x4  w (lv_sub hl [0, 3, 4] rfl) h
    replace h := h.2 c9
    refine lv_bipush (v := 10) hx hb dX2_scanNumber_42 (by decide) ?_
    refine lv_iload_n hx hb dX2_scanNumber_44 rfl (lv_at hl 3 rfl) ?_
    refine lv_imul hx hb dX2_scanNumber_45 ?_
    refine lv_aload_n hx hb dX2_scanNumber_46 rfl (lv_at hl 1 rfl) ?_
    refine lv_aload_n hx hb dX2_scanNumber_47 rfl (lv_at hl 0 rfl) ?_
    refine gt_2_0 C w kw_4_7 dX2_scanNumber_48 ?_
    refine lv_iload hx hb dX2_scanNumber_51 (lv_at hl 4 rfl) ?_
    refine lv_iadd hx hb dX2_scanNumber_53 ?_
    refine end_i w (run_VN (As := [.int ((M8 5 0) + x4)]) C w hl.1 (c_X3_byteAt l G C.2.2.1 _ _ a1 ((M8 5 0) + x4) ha1 _ h) kw_7_4 kw_2_11 kn_47 kw_7_2 kw_7_3 hd_X3_byteAt ⟨by decide, by decide⟩ (w.recv C (i := a1) (by omega) (pE_3 ha1) rfl) rfl (Nat.le_of_ble_eq_true rfl) dX2_scanNumber_54) (fun r10 M11 H locs h w => ?_)
    refine lv_iadd hx hb dX2_scanNumber_57 ?_
    refine lv_bipush (v := 48) hx hb dX2_scanNumber_58 (by decide) ?_
    refine lv_isub hx hb dX2_scanNumber_60 ?_
    refine lv_topi (fun v12 ev12 => ?_)
    replace h := h v12 ev12
    refine lv_istore_n (lv' := [(3, .int v12), (0, .ref (ga G 5)), (1, .ref (ga G a1)), (2, .int x2), (4, .int x4)]) hx hb dX2_scanNumber_61 rfl hl (by decide) rfl (fun ls hl => ?_)
    refine lv_iinc (v := (x4 + (1 : Int32))) (lv' := [(4, .int (x4 + (1 : Int32))), (3, .int v12), (0, .ref (ga G 5)), (1, .ref (ga G a1)), (2, .int x2)]) hx hb dX2_scanNumber_62 hl (k := 4) rfl rfl (by decide) rfl (fun ls hl => ?_)
    refine lv_goto (tgt := 15) hx hb dX2_scanNumber_65 (by decide) ?_
    exact hk15 M11 a1 x2 v12 (x4 + (1 : Int32)) _ _ _ ha1 w (lv_sub hl [2, 3, 4, 1, 0] rfl) h
set_option maxHeartbeats 4000000 in
set_option maxRecDepth 100000 in
theorem c_X2_scanNumber (l : Launch) (G : GG) (hG : Ag G) (sz : Nat) (M : Mem) (a1 : Nat) (x2 : Int32) (ha1 : 14 ≤ a1 ∧ a1 < 22) (post : Int32 → Mem → Prop) (h : q_X2_scanNumber M a1 x2 post) : Met l yX2_scanNumber (Cond.code yX2_scanNumber cX2_scanNumber 5 (some .boolean) :: wsL_law) (rmk 3) (va_Pc [.ref (ga G 5), .ref (ga G a1), .int x2] (Pw G sz M)) (va_Qi post (Qw G) (Af G sz)) 0 0 (Af G sz) := by
  refine Met.ofW (cc := cX2_scanNumber) (maxL := 5) (ret := (some .boolean)) (by decide) rfl ?_
  intro p e s m args below meth c s₁ B hml hv
  obtain ⟨rfl, hsz, hE, hP⟩ := hv
  subst hsz
  have C := Cx.of (own := RX2) hG hE rfl hml B
  have w : Wd G s M s.heap [] := ⟨hP, va_S.rf⟩
  have hl := lv_entry [.ref (ga G 5), .ref (ga G a1), .int x2] (n := 5) (Nat.le_of_ble_eq_true rfl)
  rw [lg_entry_eq]
  generalize (lg_sl [.ref (ga G 5), .ref (ga G a1), .int x2] ++ List.replicate (5 - (lg_sl [.ref (ga G 5), .ref (ga G a1), .int x2]).length) Slot.unset).toArray = ls at hl ⊢
  have hl : lv_has ls 5 [(0, .ref (ga G 5)), (1, .ref (ga G a1)), (2, .int x2)] := hl
  have hx := C.1.1
  have hb := C.1.2.1
  show W p l e (rmk 3) s m _ below meth c s.heap [] 0 0 _ _
  unfold q_X2_scanNumber at h
  refine lv_aload_n hx hb dX2_scanNumber_0 rfl (lv_at hl 1 rfl) ?_
  refine lv_aload_n hx hb dX2_scanNumber_1 rfl (lv_at hl 0 rfl) ?_
  refine gt_2_0 C w kw_4_7 dX2_scanNumber_2 ?_
  refine end_i w (run_VN (As := [.int (M 5 0)]) C w hl.1 (c_X3_byteAt l G C.2.2.1 _ _ a1 (M 5 0) ha1 _ h) kw_7_4 kw_2_11 kn_47 kw_7_2 kw_7_3 hd_X3_byteAt ⟨by decide, by decide⟩ (w.recv C (i := a1) (by omega) (pE_3 ha1) rfl) rfl (Nat.le_of_ble_eq_true rfl) dX2_scanNumber_5) (fun r13 M14 H locs h w => ?_)
  refine lv_bipush (v := 48) hx hb dX2_scanNumber_8 (by decide) ?_
  refine lv_isub hx hb dX2_scanNumber_10 ?_
  refine lv_istore_n (lv' := [(3, .int (r13 - (48 : Int32))), (0, .ref (ga G 5)), (1, .ref (ga G a1)), (2, .int x2)]) hx hb dX2_scanNumber_11 rfl hl (by decide) rfl (fun ls hl => ?_)
  refine lv_iconst (v := 1) hx hb dX2_scanNumber_12 (by decide) ?_
  refine lv_istore (lv' := [(4, .int (1 : Int32)), (3, .int (r13 - (48 : Int32))), (0, .ref (ga G 5)), (1, .ref (ga G a1)), (2, .int x2)]) hx hb dX2_scanNumber_13 hl (by decide) rfl (fun ls hl => ?_)
  obtain ⟨n, h⟩ := h
  exact t_X2_scanNumber_15 C n M14 a1 x2 (r13 - (48 : Int32)) (1 : Int32) ha1 w (lv_sub hl [2, 3, 4, 1, 0] rfl) h
def j_X2_scanPart_124 (post : Int32 → Mem → Prop) (M : Mem) (y0 : Int32) : Prop := (y0 = 0 ∨ y0 = 1) ∧ post y0 M
def j_X2_scanPart_123 (post : Int32 → Mem → Prop) (M : Mem) : Prop := j_X2_scanPart_124 post M (0 : Int32)
def j_X2_scanPart_112 (post : Int32 → Mem → Prop) (M : Mem) (y0 : Int32) : Prop := q_X2_take M y0 (1 : Int32) (fun r1 M2 => (r1 = 0 → (j_X2_scanPart_123 post M2)) ∧ (¬ (r1 = 0) → (j_X2_scanPart_124 post M2 (1 : Int32))))
def j_X2_scanPart_100 (post : Int32 → Mem → Prop) (M : Mem) (x3 : Int32) : Prop := (x3 = (45 : Int32) → (j_X2_scanPart_112 post M (-1 : Int32))) ∧ (¬ (x3 = (45 : Int32)) → (j_X2_scanPart_112 post M (1 : Int32)))
def j_X2_scanPart_87 (post : Int32 → Mem → Prop) (M : Mem) (y0 : Int32) : Prop := (y0 = 0 ∨ y0 = 1) ∧ post y0 M
def j_X2_scanPart_86 (post : Int32 → Mem → Prop) (M : Mem) : Prop := j_X2_scanPart_87 post M (0 : Int32)
def j_X2_scanPart_65 (post : Int32 → Mem → Prop) (M : Mem) (y0 : Int32) : Prop := (y0 = 0 ∨ y0 = 1) ∧ post y0 M
def j_X2_scanPart_64 (post : Int32 → Mem → Prop) (M : Mem) : Prop := j_X2_scanPart_65 post M (0 : Int32)
def q_X2_scanPart (M : Mem) (a1 : Nat) (x2 : Int32) (post : Int32 → Mem → Prop) : Prop := q_X3_byteAt M a1 (M 5 0) (fun r5 M6 => (x2 = (68 : Int32) → (q_X2_isDigit M6 r5 (fun r8 M9 => (r8 = 0 → (j_X2_scanPart_64 post M9)) ∧ (¬ (r8 = 0) → (q_X2_scanNumber M9 a1 (1 : Int32) (fun r11 M12 => (r11 = 0 → (j_X2_scanPart_64 post M12)) ∧ (¬ (r11 = 0) → (j_X2_scanPart_65 post M12 (1 : Int32))))))))) ∧ (¬ x2 = (68 : Int32) → ((x2 = (78 : Int32) → (q_X2_isDigit M6 r5 (fun r15 M16 => (r15 = 0 → (j_X2_scanPart_86 post M16)) ∧ (¬ (r15 = 0) → (q_X2_scanNumber M16 a1 (3 : Int32) (fun r18 M19 => (r18 = 0 → (j_X2_scanPart_86 post M19)) ∧ (¬ (r18 = 0) → (j_X2_scanPart_87 post M19 (1 : Int32))))))))) ∧ (¬ x2 = (78 : Int32) → ((x2 = (83 : Int32) → ((r5 = (43 : Int32) → (j_X2_scanPart_100 post M6 r5)) ∧ (¬ (r5 = (43 : Int32)) → ((r5 = (45 : Int32) → (j_X2_scanPart_100 post M6 r5)) ∧ (¬ (r5 = (45 : Int32)) → (j_X2_scanPart_123 post M6)))))) ∧ (¬ x2 = (83 : Int32) → ((r5 = x2 → (∀ M25 : Mem, M25 = (mup M6 5 0 ((M6 5 0) + (1 : Int32))) → (post (1 : Int32) M25))) ∧ (¬ (r5 = x2) → (post (0 : Int32) M6)))))))))
set_option maxHeartbeats 4000000 in
set_option maxRecDepth 100000 in
theorem t_X2_scanPart_124 (C : Cx G p s m args meth c RX2 cX2_scanPart 4 (some .boolean)) {post : Int32 → Mem → Prop} (M : Mem) (y0 : Int32) {H : Heap} {locs : List Loc} {ls : Array Slot} (w : Wd G s M H locs) (hl : lv_has ls 4 []) (h : j_X2_scanPart_124 post M y0) : W p l e (rmk 4) s m args below meth c H locs 0 0 (MQ below (va_Qi post (Qw G) (Af G s.heap.size)) args s 0 0 (Af G s.heap.size)) (F0 m 124 ls [.int y0]) := by
  have hx := C.1.1
  have hb := C.1.2.1
  unfold j_X2_scanPart_124 at h
  exact ret_z C w h dX2_scanPart_124
set_option maxHeartbeats 4000000 in
set_option maxRecDepth 100000 in
theorem t_X2_scanPart_123 (C : Cx G p s m args meth c RX2 cX2_scanPart 4 (some .boolean)) {post : Int32 → Mem → Prop} (M : Mem) {H : Heap} {locs : List Loc} {ls : Array Slot} (w : Wd G s M H locs) (hl : lv_has ls 4 []) (h : j_X2_scanPart_123 post M) : W p l e (rmk 4) s m args below meth c H locs 0 0 (MQ below (va_Qi post (Qw G) (Af G s.heap.size)) args s 0 0 (Af G s.heap.size)) (F0 m 123 ls []) := by
  have hx := C.1.1
  have hb := C.1.2.1
  unfold j_X2_scanPart_123 at h
  refine lv_iconst (v := 0) hx hb dX2_scanPart_123 (by decide) ?_
  exact t_X2_scanPart_124 C M (0 : Int32)  w (lv_sub hl [] rfl) h
set_option maxHeartbeats 4000000 in
set_option maxRecDepth 100000 in
theorem t_X2_scanPart_112 (C : Cx G p s m args meth c RX2 cX2_scanPart 4 (some .boolean)) {post : Int32 → Mem → Prop} (M : Mem) (y0 : Int32) {H : Heap} {locs : List Loc} {ls : Array Slot} (w : Wd G s M H locs) (hl : lv_has ls 4 []) (h : j_X2_scanPart_112 post M y0) : W p l e (rmk 4) s m args below meth c H locs 0 0 (MQ below (va_Qi post (Qw G) (Af G s.heap.size)) args s 0 0 (Af G s.heap.size)) (F0 m 112 ls [.int y0, .ref (ga G 5)]) := by
  have hx := C.1.1
  have hb := C.1.2.1
  unfold j_X2_scanPart_112 at h
  refine lv_iconst (v := 1) hx hb dX2_scanPart_112 (by decide) ?_
  refine end_i w (run_V (As := [.int y0, .int (1 : Int32)]) C w hl.1 (c_X2_take l G C.2.2.1 _ _ y0 (1 : Int32)  _ h) kw_10_7 kw_2_5 kw_10_4 kw_10_5 kw_10_6 hd_X2_take ⟨by decide, by decide⟩ (w.recv C (i := 5) (by decide) (pE_2) rfl) rfl (Nat.le_of_ble_eq_true rfl) dX2_scanPart_113) (fun r1 M2 H locs h w => ?_)
  refine lv_if_eq (tgt := 123) hx hb dX2_scanPart_116 (by decide) (fun c3 => ?_) (fun c3 => ?_)
  · replace h := h.1 c3
    exact t_X2_scanPart_123 C M2   w (lv_sub hl [] rfl) h
  replace h := h.2 c3
  refine lv_iconst (v := 1) hx hb dX2_scanPart_119 (by decide) ?_
  refine lv_goto (tgt := 124) hx hb dX2_scanPart_120 (by decide) ?_
  exact t_X2_scanPart_124 C M2 (1 : Int32)  w (lv_sub hl [] rfl) h
set_option maxHeartbeats 4000000 in
set_option maxRecDepth 100000 in
theorem t_X2_scanPart_100 (C : Cx G p s m args meth c RX2 cX2_scanPart 4 (some .boolean)) {post : Int32 → Mem → Prop} (M : Mem) (x3 : Int32) {H : Heap} {locs : List Loc} {ls : Array Slot} (w : Wd G s M H locs) (hl : lv_has ls 4 [(0, .ref (ga G 5)), (3, .int x3)]) (h : j_X2_scanPart_100 post M x3) : W p l e (rmk 4) s m args below meth c H locs 0 0 (MQ below (va_Qi post (Qw G) (Af G s.heap.size)) args s 0 0 (Af G s.heap.size)) (F0 m 100 ls []) := by
  have hx := C.1.1
  have hb := C.1.2.1
  unfold j_X2_scanPart_100 at h
  refine lv_aload_n hx hb dX2_scanPart_100 rfl (lv_at hl 0 rfl) ?_
  refine lv_iload_n hx hb dX2_scanPart_101 rfl (lv_at hl 1 rfl) ?_
  refine lv_bipush (v := 45) hx hb dX2_scanPart_102 (by decide) ?_
  refine lv_icmp_ne (tgt := 111) hx hb dX2_scanPart_104 (by decide) (fun c4 => ?_) (fun c4 => ?_)
  · replace h := h.2 c4
    refine lv_iconst (v := 1) hx hb dX2_scanPart_111 (by decide) ?_
    exact t_X2_scanPart_112 C M (1 : Int32)  w (lv_sub hl [] rfl) h
  replace h := h.1 c4
  refine lv_iconst (v := -1) hx hb dX2_scanPart_107 (by decide) ?_
  refine lv_goto (tgt := 112) hx hb dX2_scanPart_108 (by decide) ?_
  exact t_X2_scanPart_112 C M (-1 : Int32)  w (lv_sub hl [] rfl) h
set_option maxHeartbeats 4000000 in
set_option maxRecDepth 100000 in
theorem t_X2_scanPart_87 (C : Cx G p s m args meth c RX2 cX2_scanPart 4 (some .boolean)) {post : Int32 → Mem → Prop} (M : Mem) (y0 : Int32) {H : Heap} {locs : List Loc} {ls : Array Slot} (w : Wd G s M H locs) (hl : lv_has ls 4 []) (h : j_X2_scanPart_87 post M y0) : W p l e (rmk 4) s m args below meth c H locs 0 0 (MQ below (va_Qi post (Qw G) (Af G s.heap.size)) args s 0 0 (Af G s.heap.size)) (F0 m 87 ls [.int y0]) := by
  have hx := C.1.1
  have hb := C.1.2.1
  unfold j_X2_scanPart_87 at h
  exact ret_z C w h dX2_scanPart_87
set_option maxHeartbeats 4000000 in
set_option maxRecDepth 100000 in
theorem t_X2_scanPart_86 (C : Cx G p s m args meth c RX2 cX2_scanPart 4 (some .boolean)) {post : Int32 → Mem → Prop} (M : Mem) {H : Heap} {locs : List Loc} {ls : Array Slot} (w : Wd G s M H locs) (hl : lv_has ls 4 []) (h : j_X2_scanPart_86 post M) : W p l e (rmk 4) s m args below meth c H locs 0 0 (MQ below (va_Qi post (Qw G) (Af G s.heap.size)) args s 0 0 (Af G s.heap.size)) (F0 m 86 ls []) := by
  have hx := C.1.1
  have hb := C.1.2.1
  unfold j_X2_scanPart_86 at h
  refine lv_iconst (v := 0) hx hb dX2_scanPart_86 (by decide) ?_
  exact t_X2_scanPart_87 C M (0 : Int32)  w (lv_sub hl [] rfl) h
set_option maxHeartbeats 4000000 in
set_option maxRecDepth 100000 in
theorem t_X2_scanPart_65 (C : Cx G p s m args meth c RX2 cX2_scanPart 4 (some .boolean)) {post : Int32 → Mem → Prop} (M : Mem) (y0 : Int32) {H : Heap} {locs : List Loc} {ls : Array Slot} (w : Wd G s M H locs) (hl : lv_has ls 4 []) (h : j_X2_scanPart_65 post M y0) : W p l e (rmk 4) s m args below meth c H locs 0 0 (MQ below (va_Qi post (Qw G) (Af G s.heap.size)) args s 0 0 (Af G s.heap.size)) (F0 m 65 ls [.int y0]) := by
  have hx := C.1.1
  have hb := C.1.2.1
  unfold j_X2_scanPart_65 at h
  exact ret_z C w h dX2_scanPart_65
set_option maxHeartbeats 4000000 in
set_option maxRecDepth 100000 in
theorem t_X2_scanPart_64 (C : Cx G p s m args meth c RX2 cX2_scanPart 4 (some .boolean)) {post : Int32 → Mem → Prop} (M : Mem) {H : Heap} {locs : List Loc} {ls : Array Slot} (w : Wd G s M H locs) (hl : lv_has ls 4 []) (h : j_X2_scanPart_64 post M) : W p l e (rmk 4) s m args below meth c H locs 0 0 (MQ below (va_Qi post (Qw G) (Af G s.heap.size)) args s 0 0 (Af G s.heap.size)) (F0 m 64 ls []) := by
  have hx := C.1.1
  have hb := C.1.2.1
  unfold j_X2_scanPart_64 at h
  refine lv_iconst (v := 0) hx hb dX2_scanPart_64 (by decide) ?_
  exact t_X2_scanPart_65 C M (0 : Int32)  w (lv_sub hl [] rfl) h
set_option maxHeartbeats 4000000 in
set_option maxRecDepth 100000 in
theorem c_X2_scanPart (l : Launch) (G : GG) (hG : Ag G) (sz : Nat) (M : Mem) (a1 : Nat) (x2 : Int32) (ha1 : 14 ≤ a1 ∧ a1 < 22) (post : Int32 → Mem → Prop) (h : q_X2_scanPart M a1 x2 post) : Met l yX2_scanPart (Cond.code yX2_scanPart cX2_scanPart 4 (some .boolean) :: wsL_law) (rmk 4) (va_Pc [.ref (ga G 5), .ref (ga G a1), .int x2] (Pw G sz M)) (va_Qi post (Qw G) (Af G sz)) 0 0 (Af G sz) := by
  refine Met.ofW (cc := cX2_scanPart) (maxL := 4) (ret := (some .boolean)) (by decide) rfl ?_
  intro p e s m args below meth c s₁ B hml hv
  obtain ⟨rfl, hsz, hE, hP⟩ := hv
  subst hsz
  have C := Cx.of (own := RX2) hG hE rfl hml B
  have w : Wd G s M s.heap [] := ⟨hP, va_S.rf⟩
  have hl := lv_entry [.ref (ga G 5), .ref (ga G a1), .int x2] (n := 4) (Nat.le_of_ble_eq_true rfl)
  rw [lg_entry_eq]
  generalize (lg_sl [.ref (ga G 5), .ref (ga G a1), .int x2] ++ List.replicate (4 - (lg_sl [.ref (ga G 5), .ref (ga G a1), .int x2]).length) Slot.unset).toArray = ls at hl ⊢
  have hl : lv_has ls 4 [(0, .ref (ga G 5)), (1, .ref (ga G a1)), (2, .int x2)] := hl
  have hx := C.1.1
  have hb := C.1.2.1
  show W p l e (rmk 4) s m _ below meth c s.heap [] 0 0 _ _
  unfold q_X2_scanPart at h
  refine lv_aload_n hx hb dX2_scanPart_0 rfl (lv_at hl 1 rfl) ?_
  refine lv_aload_n hx hb dX2_scanPart_1 rfl (lv_at hl 0 rfl) ?_
  refine gt_2_0 C w kw_4_7 dX2_scanPart_2 ?_
  refine end_i w (run_VN (As := [.int (M 5 0)]) C w hl.1 (c_X3_byteAt l G C.2.2.1 _ _ a1 (M 5 0) ha1 _ h) kw_7_4 kw_2_11 kn_47 kw_7_2 kw_7_3 hd_X3_byteAt ⟨by decide, by decide⟩ (w.recv C (i := a1) (by omega) (pE_3 ha1) rfl) rfl (Nat.le_of_ble_eq_true rfl) dX2_scanPart_5) (fun r5 M6 H locs h w => ?_)
  refine lv_istore_n (lv' := [(3, .int r5), (0, .ref (ga G 5)), (1, .ref (ga G a1)), (2, .int x2)]) hx hb dX2_scanPart_8 rfl hl (by decide) rfl (fun ls hl => ?_)
  refine lv_iload_n hx hb dX2_scanPart_9 rfl (lv_at hl 3 rfl) ?_
  by_cases c7 : x2 = (68 : Int32)
  · replace h := h.1 c7
    refine lv_lookup (off := 34) (tgt := 44) hx hb dX2_scanPart_10 (by decide) (by rw [c7]; decide) (by decide) ?_
    refine lv_iload_n hx hb dX2_scanPart_44 rfl (lv_at hl 0 rfl) ?_
    refine end_i w (run_S (As := [.int r5]) C w hl.1 (c_X2_isDigit l G C.2.2.1 _ _ r5  _ h) kw_9_23 kw_2_5 kw_9_21 kw_9_22 hd_X2_isDigit ⟨by decide, by decide⟩ rfl (Nat.le_of_ble_eq_true rfl) dX2_scanPart_45) (fun r8 M9 H locs h w => ?_)
    refine lv_if_eq (tgt := 64) hx hb dX2_scanPart_48 (by decide) (fun c10 => ?_) (fun c10 => ?_)
    · replace h := h.1 c10
      exact t_X2_scanPart_64 C M9   w (lv_sub hl [] rfl) h
    replace h := h.2 c10
    refine lv_aload_n hx hb dX2_scanPart_51 rfl (lv_at hl 1 rfl) ?_
    refine lv_aload_n hx hb dX2_scanPart_52 rfl (lv_at hl 2 rfl) ?_
    refine lv_iconst (v := 1) hx hb dX2_scanPart_53 (by decide) ?_
    refine end_i w (run_V (As := [.ref (ga G a1), .int (1 : Int32)]) C w hl.1 (c_X2_scanNumber l G C.2.2.1 _ _ a1 (1 : Int32) ha1 _ h) kw_10_3 kw_2_5 kw_10_0 kw_10_1 kw_10_2 hd_X2_scanNumber ⟨by decide, by decide⟩ (w.recv C (i := 5) (by decide) (pE_2) rfl) rfl (Nat.le_of_ble_eq_true rfl) dX2_scanPart_54) (fun r11 M12 H locs h w => ?_)
    refine lv_if_eq (tgt := 64) hx hb dX2_scanPart_57 (by decide) (fun c13 => ?_) (fun c13 => ?_)
    · replace h := h.1 c13
      exact t_X2_scanPart_64 C M12   w (lv_sub hl [] rfl) h
    replace h := h.2 c13
    refine lv_iconst (v := 1) hx hb dX2_scanPart_60 (by decide) ?_
    refine lv_goto (tgt := 65) hx hb dX2_scanPart_61 (by decide) ?_
    exact t_X2_scanPart_65 C M12 (1 : Int32)  w (lv_sub hl [] rfl) h
  replace h := h.2 c7
  by_cases c14 : x2 = (78 : Int32)
  · replace h := h.1 c14
    refine lv_lookup (off := 56) (tgt := 66) hx hb dX2_scanPart_10 (by decide) (by rw [c14]; decide) (by decide) ?_
    refine lv_iload_n hx hb dX2_scanPart_66 rfl (lv_at hl 0 rfl) ?_
    refine end_i w (run_S (As := [.int r5]) C w hl.1 (c_X2_isDigit l G C.2.2.1 _ _ r5  _ h) kw_9_23 kw_2_5 kw_9_21 kw_9_22 hd_X2_isDigit ⟨by decide, by decide⟩ rfl (Nat.le_of_ble_eq_true rfl) dX2_scanPart_67) (fun r15 M16 H locs h w => ?_)
    refine lv_if_eq (tgt := 86) hx hb dX2_scanPart_70 (by decide) (fun c17 => ?_) (fun c17 => ?_)
    · replace h := h.1 c17
      exact t_X2_scanPart_86 C M16   w (lv_sub hl [] rfl) h
    replace h := h.2 c17
    refine lv_aload_n hx hb dX2_scanPart_73 rfl (lv_at hl 1 rfl) ?_
    refine lv_aload_n hx hb dX2_scanPart_74 rfl (lv_at hl 2 rfl) ?_
    refine lv_iconst (v := 3) hx hb dX2_scanPart_75 (by decide) ?_
    refine end_i w (run_V (As := [.ref (ga G a1), .int (3 : Int32)]) C w hl.1 (c_X2_scanNumber l G C.2.2.1 _ _ a1 (3 : Int32) ha1 _ h) kw_10_3 kw_2_5 kw_10_0 kw_10_1 kw_10_2 hd_X2_scanNumber ⟨by decide, by decide⟩ (w.recv C (i := 5) (by decide) (pE_2) rfl) rfl (Nat.le_of_ble_eq_true rfl) dX2_scanPart_76) (fun r18 M19 H locs h w => ?_)
    refine lv_if_eq (tgt := 86) hx hb dX2_scanPart_79 (by decide) (fun c20 => ?_) (fun c20 => ?_)
    · replace h := h.1 c20
      exact t_X2_scanPart_86 C M19   w (lv_sub hl [] rfl) h
    replace h := h.2 c20
    refine lv_iconst (v := 1) hx hb dX2_scanPart_82 (by decide) ?_
    refine lv_goto (tgt := 87) hx hb dX2_scanPart_83 (by decide) ?_
    exact t_X2_scanPart_87 C M19 (1 : Int32)  w (lv_sub hl [] rfl) h
  replace h := h.2 c14
  by_cases c21 : x2 = (83 : Int32)
  · replace h := h.1 c21
    refine lv_lookup (off := 78) (tgt := 88) hx hb dX2_scanPart_10 (by decide) (by rw [c21]; decide) (by decide) ?_
    refine lv_iload_n hx hb dX2_scanPart_88 rfl (lv_at hl 0 rfl) ?_
    refine lv_bipush (v := 43) hx hb dX2_scanPart_89 (by decide) ?_
    refine lv_icmp_eq (tgt := 100) hx hb dX2_scanPart_91 (by decide) (fun c22 => ?_) (fun c22 => ?_)
    · replace h := h.1 c22
      exact t_X2_scanPart_100 C M6 r5  w (lv_sub hl [1, 0] rfl) h
    replace h := h.2 c22
    refine lv_iload_n hx hb dX2_scanPart_94 rfl (lv_at hl 0 rfl) ?_
    refine lv_bipush (v := 45) hx hb dX2_scanPart_95 (by decide) ?_
    refine lv_icmp_ne (tgt := 123) hx hb dX2_scanPart_97 (by decide) (fun c23 => ?_) (fun c23 => ?_)
    · replace h := h.2 c23
      exact t_X2_scanPart_123 C M6   w (lv_sub hl [] rfl) h
    replace h := h.1 c23
    exact t_X2_scanPart_100 C M6 r5  w (lv_sub hl [1, 0] rfl) h
  replace h := h.2 c21
  refine lv_lookup (off := 115) (tgt := 125) hx hb dX2_scanPart_10 (by decide) ((lv_osw c7 (by decide)).trans ((lv_osw c14 (by decide)).trans ((lv_osw c21 (by decide)).trans rfl))) (by decide) ?_
  refine lv_iload_n hx hb dX2_scanPart_125 rfl (lv_at hl 0 rfl) ?_
  refine lv_iload_n hx hb dX2_scanPart_126 rfl (lv_at hl 3 rfl) ?_
  refine lv_icmp_eq (tgt := 132) hx hb dX2_scanPart_127 (by decide) (fun c24 => ?_) (fun c24 => ?_)
  · replace h := h.1 c24
    refine lv_aload_n hx hb dX2_scanPart_132 rfl (lv_at hl 1 rfl) ?_
    refine lv_dup hx hb dX2_scanPart_133 rfl ?_
    refine gt_2_0 C w kw_4_7 dX2_scanPart_134 ?_
    refine lv_iconst (v := 1) hx hb dX2_scanPart_137 (by decide) ?_
    refine lv_iadd hx hb dX2_scanPart_138 ?_
    refine pt_2_0 C w kw_4_7 dX2_scanPart_139 (fun H locs w => ?_)
    obtain ⟨M25, eM25⟩ : ∃ z : Mem, z = (mup M6 5 0 ((M6 5 0) + (1 : Int32))) := ⟨_, rfl⟩
    replace w : Wd G s M25 H locs := by rw [eM25]; exact w
    replace h := h M25 eM25
    refine lv_iconst (v := 1) hx hb dX2_scanPart_142 (by decide) ?_
    exact ret_z C w ⟨Or.inr rfl, h⟩ dX2_scanPart_143
  replace h := h.2 c24
  refine lv_iconst (v := 0) hx hb dX2_scanPart_130 (by decide) ?_
  exact ret_z C w ⟨Or.inl rfl, h⟩ dX2_scanPart_131
def q_X1_become (M : Mem) (a0 : Nat) (a1 : Nat) (post : Mem → Prop) : Prop := ∀ M1 : Mem, M1 = (mup M a0 0 (M a1 0)) → (∀ M2 : Mem, M2 = (mup M1 a0 1 (M1 a1 1)) → (∀ M3 : Mem, M3 = (mup M2 a0 2 (M2 a1 2)) → (∀ M4 : Mem, M4 = (mup M3 a0 3 (M3 a1 3)) → (∀ M5 : Mem, M5 = (mup M4 a0 4 (M4 a1 4)) → (∀ M6 : Mem, M6 = (mup M5 a0 5 (M5 a1 5)) → (∀ M7 : Mem, M7 = (mup M6 a0 6 (M6 a1 6)) → (∀ M8 : Mem, M8 = (mup M7 a0 7 (M7 a1 7)) → (∀ M9 : Mem, M9 = (mup M8 a0 8 (M8 a1 8)) → (post M9)))))))))
set_option maxHeartbeats 4000000 in
set_option maxRecDepth 100000 in
theorem c_X1_become (l : Launch) (G : GG) (hG : Ag G) (sz : Nat) (M : Mem) (a0 : Nat) (a1 : Nat) (ha0 : 30 ≤ a0 ∧ a0 < 57) (ha1 : 30 ≤ a1 ∧ a1 < 57) (post : Mem → Prop) (h : q_X1_become M a0 a1 post) : Met l yX1_become (Cond.code yX1_become cX1_become 2 none :: wsL_law) (rmk 1) (va_Pc [.ref (ga G a0), .ref (ga G a1)] (Pw G sz M)) (va_Qv post (Qw G) (Af G sz)) 0 0 (Af G sz) := by
  refine Met.ofW (cc := cX1_become) (maxL := 2) (ret := none) (by decide) rfl ?_
  intro p e s m args below meth c s₁ B hml hv
  obtain ⟨rfl, hsz, hE, hP⟩ := hv
  subst hsz
  have C := Cx.of (own := RX1) hG hE rfl hml B
  have w : Wd G s M s.heap [] := ⟨hP, va_S.rf⟩
  have hl := lv_entry [.ref (ga G a0), .ref (ga G a1)] (n := 2) (Nat.le_of_ble_eq_true rfl)
  rw [lg_entry_eq]
  generalize (lg_sl [.ref (ga G a0), .ref (ga G a1)] ++ List.replicate (2 - (lg_sl [.ref (ga G a0), .ref (ga G a1)]).length) Slot.unset).toArray = ls at hl ⊢
  have hl : lv_has ls 2 [(0, .ref (ga G a0)), (1, .ref (ga G a1))] := hl
  have hx := C.1.1
  have hb := C.1.2.1
  show W p l e (rmk 1) s m _ below meth c s.heap [] 0 0 _ _
  unfold q_X1_become at h
  refine lv_aload_n hx hb dX1_become_0 rfl (lv_at hl 0 rfl) ?_
  refine lv_aload_n hx hb dX1_become_1 rfl (lv_at hl 1 rfl) ?_
  refine gt_1_0 C w ha1 kw_3_10 dX1_become_2 ?_
  refine pt_1_0 C w ha0 kw_3_10 dX1_become_5 (fun H locs w => ?_)
  obtain ⟨M1, eM1⟩ : ∃ z : Mem, z = (mup M a0 0 (M a1 0)) := ⟨_, rfl⟩
  replace w : Wd G s M1 H locs := by rw [eM1]; exact w
  replace h := h M1 eM1
  refine lv_aload_n hx hb dX1_become_8 rfl (lv_at hl 0 rfl) ?_
  refine lv_aload_n hx hb dX1_become_9 rfl (lv_at hl 1 rfl) ?_
  refine gt_1_1 C w ha1 kw_3_11 dX1_become_10 ?_
  refine pt_1_1 C w ha0 kw_3_11 dX1_become_13 (fun H locs w => ?_)
  obtain ⟨M2, eM2⟩ : ∃ z : Mem, z = (mup M1 a0 1 (M1 a1 1)) := ⟨_, rfl⟩
  replace w : Wd G s M2 H locs := by rw [eM2]; exact w
  replace h := h M2 eM2
  refine lv_aload_n hx hb dX1_become_16 rfl (lv_at hl 0 rfl) ?_
  refine lv_aload_n hx hb dX1_become_17 rfl (lv_at hl 1 rfl) ?_
  refine gt_1_2 C w ha1 kw_3_12 dX1_become_18 ?_
  refine pt_1_2 C w ha0 kw_3_12 dX1_become_21 (fun H locs w => ?_)
  obtain ⟨M3, eM3⟩ : ∃ z : Mem, z = (mup M2 a0 2 (M2 a1 2)) := ⟨_, rfl⟩
  replace w : Wd G s M3 H locs := by rw [eM3]; exact w
  replace h := h M3 eM3
  refine lv_aload_n hx hb dX1_become_24 rfl (lv_at hl 0 rfl) ?_
  refine lv_aload_n hx hb dX1_become_25 rfl (lv_at hl 1 rfl) ?_
  refine gt_1_3 C w ha1 kw_3_13 dX1_become_26 ?_
  refine pt_1_3 C w ha0 kw_3_13 dX1_become_29 (fun H locs w => ?_)
  obtain ⟨M4, eM4⟩ : ∃ z : Mem, z = (mup M3 a0 3 (M3 a1 3)) := ⟨_, rfl⟩
  replace w : Wd G s M4 H locs := by rw [eM4]; exact w
  replace h := h M4 eM4
  refine lv_aload_n hx hb dX1_become_32 rfl (lv_at hl 0 rfl) ?_
  refine lv_aload_n hx hb dX1_become_33 rfl (lv_at hl 1 rfl) ?_
  refine gt_1_4 C w ha1 kw_3_14 dX1_become_34 ?_
  refine pt_1_4 C w ha0 kw_3_14 dX1_become_37 (fun H locs w => ?_)
  obtain ⟨M5, eM5⟩ : ∃ z : Mem, z = (mup M4 a0 4 (M4 a1 4)) := ⟨_, rfl⟩
  replace w : Wd G s M5 H locs := by rw [eM5]; exact w
  replace h := h M5 eM5
  refine lv_aload_n hx hb dX1_become_40 rfl (lv_at hl 0 rfl) ?_
  refine lv_aload_n hx hb dX1_become_41 rfl (lv_at hl 1 rfl) ?_
  refine gt_1_5 C w ha1 kw_3_15 dX1_become_42 ?_
  refine pt_1_5 C w ha0 kw_3_15 dX1_become_45 (fun H locs w => ?_)
  obtain ⟨M6, eM6⟩ : ∃ z : Mem, z = (mup M5 a0 5 (M5 a1 5)) := ⟨_, rfl⟩
  replace w : Wd G s M6 H locs := by rw [eM6]; exact w
  replace h := h M6 eM6
  refine lv_aload_n hx hb dX1_become_48 rfl (lv_at hl 0 rfl) ?_
  refine lv_aload_n hx hb dX1_become_49 rfl (lv_at hl 1 rfl) ?_
  refine gt_1_6 C w ha1 kw_3_16 dX1_become_50 ?_
  refine pt_1_6 C w ha0 kw_3_16 dX1_become_53 (fun H locs w => ?_)
  obtain ⟨M7, eM7⟩ : ∃ z : Mem, z = (mup M6 a0 6 (M6 a1 6)) := ⟨_, rfl⟩
  replace w : Wd G s M7 H locs := by rw [eM7]; exact w
  replace h := h M7 eM7
  refine lv_aload_n hx hb dX1_become_56 rfl (lv_at hl 0 rfl) ?_
  refine lv_aload_n hx hb dX1_become_57 rfl (lv_at hl 1 rfl) ?_
  refine gt_1_7 C w ha1 kw_3_17 dX1_become_58 ?_
  refine pt_1_7 C w ha0 kw_3_17 dX1_become_61 (fun H locs w => ?_)
  obtain ⟨M8, eM8⟩ : ∃ z : Mem, z = (mup M7 a0 7 (M7 a1 7)) := ⟨_, rfl⟩
  replace w : Wd G s M8 H locs := by rw [eM8]; exact w
  replace h := h M8 eM8
  refine lv_aload_n hx hb dX1_become_64 rfl (lv_at hl 0 rfl) ?_
  refine lv_aload_n hx hb dX1_become_65 rfl (lv_at hl 1 rfl) ?_
  refine gt_1_8 C w ha1 kw_3_18 dX1_become_66 ?_
  refine pt_1_8 C w ha0 kw_3_18 dX1_become_69 (fun H locs w => ?_)
  obtain ⟨M9, eM9⟩ : ∃ z : Mem, z = (mup M8 a0 8 (M8 a1 8)) := ⟨_, rfl⟩
  replace w : Wd G s M9 H locs := by rw [eM9]; exact w
  replace h := h M9 eM9
  exact ret_v C w h dX1_become_72
def b_X4_become_2 (k2 : Mem → Nat → Nat → Int32 → Prop) (post : Mem → Prop) (M : Mem) (a0 : Nat) (a1 : Nat) (x2 : Int32) : Prop := ((M a1 1) ≤ x2 → (∀ M2 : Mem, M2 = (mup M a0 1 (M a1 1)) → ((¬ (0 : Int32) < 0 ∧ ¬ (0 : Int32) < 0 ∧ ¬ (7 : Int32) < 0 ∧ 0 + 7 ≤ 7 ∧ 0 + 7 ≤ 7) ∧ (∀ M3 : Mem, M3 = (va_up M2 (10 + a0) (va_cpy (M2 (10 + a1)) (M2 (10 + a0)) 0 0 7)) → (∀ M4 : Mem, M4 = (mup M3 a0 3 (M3 a1 3)) → (∀ M5 : Mem, M5 = (mup M4 a0 4 (M4 a1 4)) → (∀ M6 : Mem, M6 = (mup M5 a0 5 (M5 a1 5)) → (∀ M7 : Mem, M7 = (mup M6 a0 6 (M6 a1 6)) → (∀ M8 : Mem, M8 = (mup M7 a0 7 (M7 a1 7)) → (∀ M9 : Mem, M9 = (mup M8 a0 8 (M8 a1 8)) → (post M9))))))))))) ∧ (¬ ((M a1 1) ≤ x2) → (vp_in x2 6 ∧ (q_X1_become M (32 + 6 * a0 + x2.toNatClampNeg) (32 + 6 * a1 + x2.toNatClampNeg) (fun M12 => k2 M12 a0 a1 (x2 + (1 : Int32))))))
def lp_X4_become_2 (post : Mem → Prop) : Nat → Mem → Nat → Nat → Int32 → Prop
  | 0 => fun _ _ _ _ => False
  | n + 1 => fun M a0 a1 x2 => b_X4_become_2 (lp_X4_become_2 post n) post M a0 a1 x2
def q_X4_become (M : Mem) (a0 : Nat) (a1 : Nat) (post : Mem → Prop) : Prop := ∃ n, lp_X4_become_2 post n M a0 a1 (0 : Int32)
set_option maxHeartbeats 4000000 in
set_option maxRecDepth 100000 in
theorem t_X4_become_2 (C : Cx G p s m args meth c RX4 cX4_become 3 none) {post : Mem → Prop} : ∀ (n : Nat) (M : Mem) (a0 : Nat) (a1 : Nat) (x2 : Int32) {H : Heap} {locs : List Loc} {ls : Array Slot} (ha0 : 1 ≤ a0 ∧ a0 < 4) (ha1 : 1 ≤ a1 ∧ a1 < 4) (w : Wd G s M H locs) (hl : lv_has ls 3 [(0, .ref (ga G a0)), (1, .ref (ga G a1)), (2, .int x2)]) (h : lp_X4_become_2 post n M a0 a1 x2), W p l e (rmk 2) s m args below meth c H locs 0 0 (MQ below (va_Qv post (Qw G) (Af G s.heap.size)) args s 0 0 (Af G s.heap.size)) (F0 m 2 ls []) := by
  have hx := C.1.1
  have hb := C.1.2.1
  intro n9
  induction n9 with
  | zero => intro M a0 a1 x2 H locs ls ha0 ha1 w hl h; exact absurd h id
  | succ n9 ih9 =>
    intro M a0 a1 x2 H locs ls ha0 ha1 w hl h
    have hk2 : ∀ (M : Mem) (a0 : Nat) (a1 : Nat) (x2 : Int32) (H : Heap) (locs : List Loc) (ls : Array Slot), (1 ≤ a0 ∧ a0 < 4) → (1 ≤ a1 ∧ a1 < 4) → Wd G s M H locs → lv_has ls 3 [(0, .ref (ga G a0)), (1, .ref (ga G a1)), (2, .int x2)] → lp_X4_become_2 post n9 M a0 a1 x2 → W p l e (rmk 2) s m args below meth c H locs 0 0 (MQ below (va_Qv post (Qw G) (Af G s.heap.size)) args s 0 0 (Af G s.heap.size)) (F0 m 2 ls []) := fun M a0 a1 x2 H locs ls ha0 ha1 w hl h => ih9 M a0 a1 x2 ha0 ha1 w hl h
    replace h : b_X4_become_2 (lp_X4_become_2 post n9) post M a0 a1 x2 := h
    unfold b_X4_become_2 at h
    refine lv_iload_n hx hb dX4_become_2 rfl (lv_at hl 2 rfl) ?_
    refine lv_aload_n hx hb dX4_become_3 rfl (lv_at hl 1 rfl) ?_
    refine gt_4_1 C w ha1 kw_2_17 dX4_become_4 ?_
    refine lv_icmp_ge (tgt := 31) hx hb dX4_become_7 (by decide) (fun c1 => ?_) (fun c1 => ?_)
    · replace h := h.1 c1
      refine lv_aload_n hx hb dX4_become_31 rfl (lv_at hl 0 rfl) ?_
      refine lv_aload_n hx hb dX4_become_32 rfl (lv_at hl 1 rfl) ?_
      refine gt_4_1 C w ha1 kw_2_17 dX4_become_33 ?_
      refine pt_4_1 C w ha0 kw_2_17 dX4_become_36 (fun H locs w => ?_)
      obtain ⟨M2, eM2⟩ : ∃ z : Mem, z = (mup M a0 1 (M a1 1)) := ⟨_, rfl⟩
      replace w : Wd G s M2 H locs := by rw [eM2]; exact w
      replace h := h M2 eM2
      refine lv_aload_n hx hb dX4_become_39 rfl (lv_at hl 1 rfl) ?_
      refine gt_4_2 C w ha1 kw_3_0 dX4_become_40 ?_
      refine lv_iconst (v := 0) hx hb dX4_become_43 (by decide) ?_
      refine lv_aload_n hx hb dX4_become_44 rfl (lv_at hl 0 rfl) ?_
      refine gt_4_2 C w ha0 kw_3_0 dX4_become_45 ?_
      refine lv_iconst (v := 0) hx hb dX4_become_48 (by decide) ?_
      refine lv_aload_n hx hb dX4_become_49 rfl (lv_at hl 0 rfl) ?_
      refine gt_4_2 C w ha0 kw_3_0 dX4_become_50 ?_
      refine pw_len C w (i := (10 + a0)) (by omega) (pE_st (by omega)) (v := 7) rfl dX4_become_53 ?_
      refine pw_cpy C w hl.1 (i := (10 + a1)) (i1 := (10 + a0)) (by omega) (pE_st (by omega)) (by omega) (fun _ => (pE_st (by omega))) kw_6_12 kw_6_13 kw_6_14 kw_6_15 h.1 (by decide) (by decide) dX4_become_54 (fun H locs w => ?_)
      replace h := h.2
      obtain ⟨M3, eM3⟩ : ∃ z : Mem, z = (va_up M2 (10 + a0) (va_cpy (M2 (10 + a1)) (M2 (10 + a0)) 0 0 7)) := ⟨_, rfl⟩
      replace w : Wd G s M3 H locs := by rw [eM3]; exact w
      replace h := h M3 eM3
      refine lv_aload_n hx hb dX4_become_57 rfl (lv_at hl 0 rfl) ?_
      refine lv_aload_n hx hb dX4_become_58 rfl (lv_at hl 1 rfl) ?_
      refine gt_4_3 C w ha1 kw_3_1 dX4_become_59 ?_
      refine pt_4_3 C w ha0 kw_3_1 dX4_become_62 (fun H locs w => ?_)
      obtain ⟨M4, eM4⟩ : ∃ z : Mem, z = (mup M3 a0 3 (M3 a1 3)) := ⟨_, rfl⟩
      replace w : Wd G s M4 H locs := by rw [eM4]; exact w
      replace h := h M4 eM4
      refine lv_aload_n hx hb dX4_become_65 rfl (lv_at hl 0 rfl) ?_
      refine lv_aload_n hx hb dX4_become_66 rfl (lv_at hl 1 rfl) ?_
      refine gt_4_4 C w ha1 kw_3_2 dX4_become_67 ?_
      refine pt_4_4 C w ha0 kw_3_2 dX4_become_70 (fun H locs w => ?_)
      obtain ⟨M5, eM5⟩ : ∃ z : Mem, z = (mup M4 a0 4 (M4 a1 4)) := ⟨_, rfl⟩
      replace w : Wd G s M5 H locs := by rw [eM5]; exact w
      replace h := h M5 eM5
      refine lv_aload_n hx hb dX4_become_73 rfl (lv_at hl 0 rfl) ?_
      refine lv_aload_n hx hb dX4_become_74 rfl (lv_at hl 1 rfl) ?_
      refine gt_4_5 C w ha1 kw_3_3 dX4_become_75 ?_
      refine pt_4_5 C w ha0 kw_3_3 dX4_become_78 (fun H locs w => ?_)
      obtain ⟨M6, eM6⟩ : ∃ z : Mem, z = (mup M5 a0 5 (M5 a1 5)) := ⟨_, rfl⟩
      replace w : Wd G s M6 H locs := by rw [eM6]; exact w
      replace h := h M6 eM6
      refine lv_aload_n hx hb dX4_become_81 rfl (lv_at hl 0 rfl) ?_
      refine lv_aload_n hx hb dX4_become_82 rfl (lv_at hl 1 rfl) ?_
      refine gt_4_6 C w ha1 kw_3_4 dX4_become_83 ?_
      refine pt_4_6 C w ha0 kw_3_4 dX4_become_86 (fun H locs w => ?_)
      obtain ⟨M7, eM7⟩ : ∃ z : Mem, z = (mup M6 a0 6 (M6 a1 6)) := ⟨_, rfl⟩
      replace w : Wd G s M7 H locs := by rw [eM7]; exact w
      replace h := h M7 eM7
      refine lv_aload_n hx hb dX4_become_89 rfl (lv_at hl 0 rfl) ?_
      refine lv_aload_n hx hb dX4_become_90 rfl (lv_at hl 1 rfl) ?_
      refine gt_4_7 C w ha1 kw_3_5 dX4_become_91 ?_
      refine pt_4_7 C w ha0 kw_3_5 dX4_become_94 (fun H locs w => ?_)
      obtain ⟨M8, eM8⟩ : ∃ z : Mem, z = (mup M7 a0 7 (M7 a1 7)) := ⟨_, rfl⟩
      replace w : Wd G s M8 H locs := by rw [eM8]; exact w
      replace h := h M8 eM8
      refine lv_aload_n hx hb dX4_become_97 rfl (lv_at hl 0 rfl) ?_
      refine lv_aload_n hx hb dX4_become_98 rfl (lv_at hl 1 rfl) ?_
      refine gt_4_8 C w ha1 kw_3_6 dX4_become_99 ?_
      refine pt_4_8 C w ha0 kw_3_6 dX4_become_102 (fun H locs w => ?_)
      obtain ⟨M9, eM9⟩ : ∃ z : Mem, z = (mup M8 a0 8 (M8 a1 8)) := ⟨_, rfl⟩
      replace w : Wd G s M9 H locs := by rw [eM9]; exact w
      replace h := h M9 eM9
      exact ret_v C w h dX4_become_105
    replace h := h.2 c1
    refine lv_aload_n hx hb dX4_become_10 rfl (lv_at hl 0 rfl) ?_
    refine gt_4_0 C w ha0 kw_2_16 dX4_become_11 ?_
    refine lv_iload_n hx hb dX4_become_14 rfl (lv_at hl 2 rfl) ?_
    have hin10 := h.1
    replace h := h.2
    have hz_hin10 := in_lt hin10
    refine pw_ldP C w (i := (7 + a0)) (by omega) hin10 dX4_become_15 (j := (32 + 6 * a0 + x2.toNatClampNeg)) (by omega) ?_
    refine lv_aload_n hx hb dX4_become_16 rfl (lv_at hl 1 rfl) ?_
    refine gt_4_0 C w ha1 kw_2_16 dX4_become_17 ?_
    refine lv_iload_n hx hb dX4_become_20 rfl (lv_at hl 2 rfl) ?_
    refine pw_ldP C w (i := (7 + a1)) (by omega) hin10 dX4_become_21 (j := (32 + 6 * a1 + x2.toNatClampNeg)) (by omega) ?_
    refine end_v w (run_VN (As := [.ref (ga G (32 + 6 * a1 + x2.toNatClampNeg))]) C w hl.1 (c_X1_become l G C.2.2.1 _ _ (32 + 6 * a0 + x2.toNatClampNeg) (32 + 6 * a1 + x2.toNatClampNeg) (by omega) (by omega) _ h) kw_6_18 kw_2_1 kn_45 kw_6_16 kw_6_17 hd_X1_become ⟨by decide, by decide⟩ (w.recv C (i := (32 + 6 * a0 + x2.toNatClampNeg)) (by omega) (pE_1 (by omega)) rfl) rfl (Nat.le_of_ble_eq_true rfl) dX4_become_22) (fun M12 H locs h w => ?_)
    refine lv_iinc (v := (x2 + (1 : Int32))) (lv' := [(2, .int (x2 + (1 : Int32))), (0, .ref (ga G a0)), (1, .ref (ga G a1))]) hx hb dX4_become_25 hl (k := 2) rfl rfl (by decide) rfl (fun ls hl => ?_)
    refine lv_goto (tgt := 2) hx hb dX4_become_28 (by decide) ?_
    exact hk2 M12 a0 a1 (x2 + (1 : Int32)) _ _ _ ha0 ha1 w (lv_sub hl [1, 2, 0] rfl) h
set_option maxHeartbeats 4000000 in
set_option maxRecDepth 100000 in
theorem c_X4_become (l : Launch) (G : GG) (hG : Ag G) (sz : Nat) (M : Mem) (a0 : Nat) (a1 : Nat) (ha0 : 1 ≤ a0 ∧ a0 < 4) (ha1 : 1 ≤ a1 ∧ a1 < 4) (post : Mem → Prop) (h : q_X4_become M a0 a1 post) : Met l yX4_become (Cond.code yX4_become cX4_become 3 none :: wsL_law) (rmk 2) (va_Pc [.ref (ga G a0), .ref (ga G a1)] (Pw G sz M)) (va_Qv post (Qw G) (Af G sz)) 0 0 (Af G sz) := by
  refine Met.ofW (cc := cX4_become) (maxL := 3) (ret := none) (by decide) rfl ?_
  intro p e s m args below meth c s₁ B hml hv
  obtain ⟨rfl, hsz, hE, hP⟩ := hv
  subst hsz
  have C := Cx.of (own := RX4) hG hE rfl hml B
  have w : Wd G s M s.heap [] := ⟨hP, va_S.rf⟩
  have hl := lv_entry [.ref (ga G a0), .ref (ga G a1)] (n := 3) (Nat.le_of_ble_eq_true rfl)
  rw [lg_entry_eq]
  generalize (lg_sl [.ref (ga G a0), .ref (ga G a1)] ++ List.replicate (3 - (lg_sl [.ref (ga G a0), .ref (ga G a1)]).length) Slot.unset).toArray = ls at hl ⊢
  have hl : lv_has ls 3 [(0, .ref (ga G a0)), (1, .ref (ga G a1))] := hl
  have hx := C.1.1
  have hb := C.1.2.1
  show W p l e (rmk 2) s m _ below meth c s.heap [] 0 0 _ _
  unfold q_X4_become at h
  refine lv_iconst (v := 0) hx hb dX4_become_0 (by decide) ?_
  refine lv_istore_n (lv' := [(2, .int (0 : Int32)), (0, .ref (ga G a0)), (1, .ref (ga G a1))]) hx hb dX4_become_1 rfl hl (by decide) rfl (fun ls hl => ?_)
  obtain ⟨n, h⟩ := h
  exact t_X4_become_2 C n M a0 a1 (0 : Int32) ha0 ha1 w (lv_sub hl [1, 2, 0] rfl) h
def q_X5_isShelf (M : Mem) (x0 : Int32) (post : Int32 → Mem → Prop) : Prop := q_X5_isWithin M x0 (0 : Int32) (7 : Int32) (fun r1 M2 => (r1 = 0 ∨ r1 = 1) ∧ post r1 M2)
set_option maxHeartbeats 4000000 in
set_option maxRecDepth 100000 in
theorem c_X5_isShelf (l : Launch) (G : GG) (hG : Ag G) (sz : Nat) (M : Mem) (x0 : Int32) (post : Int32 → Mem → Prop) (h : q_X5_isShelf M x0 post) : Met l yX5_isShelf (Cond.code yX5_isShelf cX5_isShelf 1 (some .boolean) :: wsL_law) (rmk 2) (va_Pc [.int x0] (Pw G sz M)) (va_Qi post (Qw G) (Af G sz)) 0 0 (Af G sz) := by
  refine Met.ofW (cc := cX5_isShelf) (maxL := 1) (ret := (some .boolean)) (by decide) rfl ?_
  intro p e s m args below meth c s₁ B hml hv
  obtain ⟨rfl, hsz, hE, hP⟩ := hv
  subst hsz
  have C := Cx.of (own := RX5) hG hE rfl hml B
  have w : Wd G s M s.heap [] := ⟨hP, va_S.rf⟩
  have hl := lv_entry [.int x0] (n := 1) (Nat.le_of_ble_eq_true rfl)
  rw [lg_entry_eq]
  generalize (lg_sl [.int x0] ++ List.replicate (1 - (lg_sl [.int x0]).length) Slot.unset).toArray = ls at hl ⊢
  have hl : lv_has ls 1 [(0, .int x0)] := hl
  have hx := C.1.1
  have hb := C.1.2.1
  show W p l e (rmk 2) s m _ below meth c s.heap [] 0 0 _ _
  unfold q_X5_isShelf at h
  refine lv_iload_n hx hb dX5_isShelf_0 rfl (lv_at hl 0 rfl) ?_
  refine lv_iconst (v := 0) hx hb dX5_isShelf_1 (by decide) ?_
  refine lv_bipush (v := 7) hx hb dX5_isShelf_2 (by decide) ?_
  refine end_i w (run_S (As := [.int x0, .int (0 : Int32), .int (7 : Int32)]) C w hl.1 (c_X5_isWithin l G C.2.2.1 _ _ x0 (0 : Int32) (7 : Int32)  _ h) kw_6_8 kw_1_2 kw_6_6 kw_6_7 hd_X5_isWithin ⟨by decide, by decide⟩ rfl (Nat.le_of_ble_eq_true rfl) dX5_isShelf_4) (fun r1 M2 H locs h w => ?_)
  exact ret_z C w h dX5_isShelf_7
def j_X5_refusalOfHolding_43 (post : Int32 → Mem → Prop) (M : Mem) (y0 : Int32) : Prop := post y0 M
def q_X5_refusalOfHolding (M : Mem) (x1 : Int32) (x2 : Int32) (post : Int32 → Mem → Prop) : Prop := q_X5_isShelf M x1 (fun r1 M2 => (r1 = 0 → (post (-1 : Int32) M2)) ∧ (¬ (r1 = 0) → (vp_in x1 8 ∧ (((M2 (14 + x1.toNatClampNeg) 0) = 0 → (post (-11 : Int32) M2)) ∧ (¬ ((M2 (14 + x1.toNatClampNeg) 0) = 0) → (((M2 (14 + x1.toNatClampNeg) 0) = x2 → (j_X5_refusalOfHolding_43 post M2 (0 : Int32))) ∧ (¬ ((M2 (14 + x1.toNatClampNeg) 0) = x2) → (j_X5_refusalOfHolding_43 post M2 (-12 : Int32)))))))))
set_option maxHeartbeats 4000000 in
set_option maxRecDepth 100000 in
theorem t_X5_refusalOfHolding_43 (C : Cx G p s m args meth c RX5 cX5_refusalOfHolding 3 (some .int)) {post : Int32 → Mem → Prop} (M : Mem) (y0 : Int32) {H : Heap} {locs : List Loc} {ls : Array Slot} (w : Wd G s M H locs) (hl : lv_has ls 3 []) (h : j_X5_refusalOfHolding_43 post M y0) : W p l e (rmk 3) s m args below meth c H locs 0 0 (MQ below (va_Qi post (Qw G) (Af G s.heap.size)) args s 0 0 (Af G s.heap.size)) (F0 m 43 ls [.int y0]) := by
  have hx := C.1.1
  have hb := C.1.2.1
  unfold j_X5_refusalOfHolding_43 at h
  exact ret_i C w h dX5_refusalOfHolding_43
set_option maxHeartbeats 4000000 in
set_option maxRecDepth 100000 in
theorem c_X5_refusalOfHolding (l : Launch) (G : GG) (hG : Ag G) (sz : Nat) (M : Mem) (x1 : Int32) (x2 : Int32) (post : Int32 → Mem → Prop) (h : q_X5_refusalOfHolding M x1 x2 post) : Met l yX5_refusalOfHolding (Cond.code yX5_refusalOfHolding cX5_refusalOfHolding 3 (some .int) :: wsL_law) (rmk 3) (va_Pc [.ref (ga G 0), .int x1, .int x2] (Pw G sz M)) (va_Qi post (Qw G) (Af G sz)) 0 0 (Af G sz) := by
  refine Met.ofW (cc := cX5_refusalOfHolding) (maxL := 3) (ret := (some .int)) (by decide) rfl ?_
  intro p e s m args below meth c s₁ B hml hv
  obtain ⟨rfl, hsz, hE, hP⟩ := hv
  subst hsz
  have C := Cx.of (own := RX5) hG hE rfl hml B
  have w : Wd G s M s.heap [] := ⟨hP, va_S.rf⟩
  have hl := lv_entry [.ref (ga G 0), .int x1, .int x2] (n := 3) (Nat.le_of_ble_eq_true rfl)
  rw [lg_entry_eq]
  generalize (lg_sl [.ref (ga G 0), .int x1, .int x2] ++ List.replicate (3 - (lg_sl [.ref (ga G 0), .int x1, .int x2]).length) Slot.unset).toArray = ls at hl ⊢
  have hl : lv_has ls 3 [(0, .ref (ga G 0)), (1, .int x1), (2, .int x2)] := hl
  have hx := C.1.1
  have hb := C.1.2.1
  show W p l e (rmk 3) s m _ below meth c s.heap [] 0 0 _ _
  unfold q_X5_refusalOfHolding at h
  refine lv_iload_n hx hb dX5_refusalOfHolding_0 rfl (lv_at hl 1 rfl) ?_
  refine end_i w (run_S (As := [.int x1]) C w hl.1 (c_X5_isShelf l G C.2.2.1 _ _ x1  _ h) kw_6_5 kw_1_2 kw_6_3 kw_6_4 hd_X5_isShelf ⟨by decide, by decide⟩ rfl (Nat.le_of_ble_eq_true rfl) dX5_refusalOfHolding_1) (fun r1 M2 H locs h w => ?_)
  refine lv_if_ne (tgt := 9) hx hb dX5_refusalOfHolding_4 (by decide) (fun c3 => ?_) (fun c3 => ?_)
  · replace h := h.2 c3
    refine lv_aload_n hx hb dX5_refusalOfHolding_9 rfl (lv_at hl 0 rfl) ?_
    refine gt_5_6 C w kw_2_8 dX5_refusalOfHolding_10 ?_
    refine lv_iload_n hx hb dX5_refusalOfHolding_13 rfl (lv_at hl 1 rfl) ?_
    have hin4 := h.1
    replace h := h.2
    have hz_hin4 := in_lt hin4
    refine pw_ldS C w hin4 rfl dX5_refusalOfHolding_14 ?_
    refine gn_3_0 C w (by omega) kn_29 dX5_refusalOfHolding_15 ?_
    refine lv_if_ne (tgt := 24) hx hb dX5_refusalOfHolding_18 (by decide) (fun c5 => ?_) (fun c5 => ?_)
    · replace h := h.2 c5
      refine lv_aload_n hx hb dX5_refusalOfHolding_24 rfl (lv_at hl 0 rfl) ?_
      refine gt_5_6 C w kw_2_8 dX5_refusalOfHolding_25 ?_
      refine lv_iload_n hx hb dX5_refusalOfHolding_28 rfl (lv_at hl 1 rfl) ?_
      refine pw_ldS C w hin4 rfl dX5_refusalOfHolding_29 ?_
      refine gn_3_0 C w (by omega) kn_29 dX5_refusalOfHolding_30 ?_
      refine lv_iload_n hx hb dX5_refusalOfHolding_33 rfl (lv_at hl 2 rfl) ?_
      refine lv_icmp_ne (tgt := 41) hx hb dX5_refusalOfHolding_34 (by decide) (fun c6 => ?_) (fun c6 => ?_)
      · replace h := h.2 c6
        refine lv_bipush (v := -12) hx hb dX5_refusalOfHolding_41 (by decide) ?_
        exact t_X5_refusalOfHolding_43 C M2 (-12 : Int32)  w (lv_sub hl [] rfl) h
      replace h := h.1 c6
      refine lv_iconst (v := 0) hx hb dX5_refusalOfHolding_37 (by decide) ?_
      refine lv_goto (tgt := 43) hx hb dX5_refusalOfHolding_38 (by decide) ?_
      exact t_X5_refusalOfHolding_43 C M2 (0 : Int32)  w (lv_sub hl [] rfl) h
    replace h := h.1 c5
    refine lv_bipush (v := -11) hx hb dX5_refusalOfHolding_21 (by decide) ?_
    exact ret_i C w h dX5_refusalOfHolding_23
  replace h := h.1 c3
  refine lv_iconst (v := -1) hx hb dX5_refusalOfHolding_7 (by decide) ?_
  exact ret_i C w h dX5_refusalOfHolding_8
def q_X5_refusalOfRow (M : Mem) (x1 : Int32) (post : Int32 → Mem → Prop) : Prop := q_X5_refusalOfHolding M x1 (2 : Int32) (fun r1 M2 => post r1 M2)
set_option maxHeartbeats 4000000 in
set_option maxRecDepth 100000 in
theorem c_X5_refusalOfRow (l : Launch) (G : GG) (hG : Ag G) (sz : Nat) (M : Mem) (x1 : Int32) (post : Int32 → Mem → Prop) (h : q_X5_refusalOfRow M x1 post) : Met l yX5_refusalOfRow (Cond.code yX5_refusalOfRow cX5_refusalOfRow 2 (some .int) :: wsL_law) (rmk 4) (va_Pc [.ref (ga G 0), .int x1] (Pw G sz M)) (va_Qi post (Qw G) (Af G sz)) 0 0 (Af G sz) := by
  refine Met.ofW (cc := cX5_refusalOfRow) (maxL := 2) (ret := (some .int)) (by decide) rfl ?_
  intro p e s m args below meth c s₁ B hml hv
  obtain ⟨rfl, hsz, hE, hP⟩ := hv
  subst hsz
  have C := Cx.of (own := RX5) hG hE rfl hml B
  have w : Wd G s M s.heap [] := ⟨hP, va_S.rf⟩
  have hl := lv_entry [.ref (ga G 0), .int x1] (n := 2) (Nat.le_of_ble_eq_true rfl)
  rw [lg_entry_eq]
  generalize (lg_sl [.ref (ga G 0), .int x1] ++ List.replicate (2 - (lg_sl [.ref (ga G 0), .int x1]).length) Slot.unset).toArray = ls at hl ⊢
  have hl : lv_has ls 2 [(0, .ref (ga G 0)), (1, .int x1)] := hl
  have hx := C.1.1
  have hb := C.1.2.1
  show W p l e (rmk 4) s m _ below meth c s.heap [] 0 0 _ _
  unfold q_X5_refusalOfRow at h
  refine lv_aload_n hx hb dX5_refusalOfRow_0 rfl (lv_at hl 0 rfl) ?_
  refine lv_iload_n hx hb dX5_refusalOfRow_1 rfl (lv_at hl 1 rfl) ?_
  refine lv_iconst (v := 2) hx hb dX5_refusalOfRow_2 (by decide) ?_
  refine end_i w (run_V (As := [.int x1, .int (2 : Int32)]) C w hl.1 (c_X5_refusalOfHolding l G C.2.2.1 _ _ x1 (2 : Int32)  _ h) kw_6_2 kw_1_2 kw_5_23 kw_6_0 kw_6_1 hd_X5_refusalOfHolding ⟨by decide, by decide⟩ (w.recv C (i := 0) (by decide) (pE_5) rfl) rfl (Nat.le_of_ble_eq_true rfl) dX5_refusalOfRow_3) (fun r1 M2 H locs h w => ?_)
  exact ret_i C w h dX5_refusalOfRow_6
def j_X5_refusalOfBytes_30 (post : Int32 → Mem → Prop) (M : Mem) (y0 : Int32) : Prop := post y0 M
def q_X5_refusalOfBytes (M : Mem) (x1 : Int32) (post : Int32 → Mem → Prop) : Prop := q_X5_refusalOfRow M x1 (fun r1 M2 => (0 ≤ r1 → (vp_in x1 8 ∧ (((M2 (14 + x1.toNatClampNeg) 2) = 0 → (j_X5_refusalOfBytes_30 post M2 (0 : Int32))) ∧ (¬ ((M2 (14 + x1.toNatClampNeg) 2) = 0) → (j_X5_refusalOfBytes_30 post M2 (-12 : Int32)))))) ∧ (¬ (0 ≤ r1) → (post r1 M2)))
set_option maxHeartbeats 4000000 in
set_option maxRecDepth 100000 in
theorem t_X5_refusalOfBytes_30 (C : Cx G p s m args meth c RX5 cX5_refusalOfBytes 3 (some .int)) {post : Int32 → Mem → Prop} (M : Mem) (y0 : Int32) {H : Heap} {locs : List Loc} {ls : Array Slot} (w : Wd G s M H locs) (hl : lv_has ls 3 []) (h : j_X5_refusalOfBytes_30 post M y0) : W p l e (rmk 5) s m args below meth c H locs 0 0 (MQ below (va_Qi post (Qw G) (Af G s.heap.size)) args s 0 0 (Af G s.heap.size)) (F0 m 30 ls [.int y0]) := by
  have hx := C.1.1
  have hb := C.1.2.1
  unfold j_X5_refusalOfBytes_30 at h
  exact ret_i C w h dX5_refusalOfBytes_30
set_option maxHeartbeats 4000000 in
set_option maxRecDepth 100000 in
theorem c_X5_refusalOfBytes (l : Launch) (G : GG) (hG : Ag G) (sz : Nat) (M : Mem) (x1 : Int32) (post : Int32 → Mem → Prop) (h : q_X5_refusalOfBytes M x1 post) : Met l yX5_refusalOfBytes (Cond.code yX5_refusalOfBytes cX5_refusalOfBytes 3 (some .int) :: wsL_law) (rmk 5) (va_Pc [.ref (ga G 0), .int x1] (Pw G sz M)) (va_Qi post (Qw G) (Af G sz)) 0 0 (Af G sz) := by
  refine Met.ofW (cc := cX5_refusalOfBytes) (maxL := 3) (ret := (some .int)) (by decide) rfl ?_
  intro p e s m args below meth c s₁ B hml hv
  obtain ⟨rfl, hsz, hE, hP⟩ := hv
  subst hsz
  have C := Cx.of (own := RX5) hG hE rfl hml B
  have w : Wd G s M s.heap [] := ⟨hP, va_S.rf⟩
  have hl := lv_entry [.ref (ga G 0), .int x1] (n := 3) (Nat.le_of_ble_eq_true rfl)
  rw [lg_entry_eq]
  generalize (lg_sl [.ref (ga G 0), .int x1] ++ List.replicate (3 - (lg_sl [.ref (ga G 0), .int x1]).length) Slot.unset).toArray = ls at hl ⊢
  have hl : lv_has ls 3 [(0, .ref (ga G 0)), (1, .int x1)] := hl
  have hx := C.1.1
  have hb := C.1.2.1
  show W p l e (rmk 5) s m _ below meth c s.heap [] 0 0 _ _
  unfold q_X5_refusalOfBytes at h
  refine lv_aload_n hx hb dX5_refusalOfBytes_0 rfl (lv_at hl 0 rfl) ?_
  refine lv_iload_n hx hb dX5_refusalOfBytes_1 rfl (lv_at hl 1 rfl) ?_
  refine end_i w (run_V (As := [.int x1]) C w hl.1 (c_X5_refusalOfRow l G C.2.2.1 _ _ x1  _ h) kw_5_22 kw_1_2 kw_5_19 kw_5_20 kw_5_21 hd_X5_refusalOfRow ⟨by decide, by decide⟩ (w.recv C (i := 0) (by decide) (pE_5) rfl) rfl (Nat.le_of_ble_eq_true rfl) dX5_refusalOfBytes_2) (fun r1 M2 H locs h w => ?_)
  refine lv_istore_n (lv' := [(2, .int r1), (0, .ref (ga G 0)), (1, .int x1)]) hx hb dX5_refusalOfBytes_5 rfl hl (by decide) rfl (fun ls hl => ?_)
  refine lv_iload_n hx hb dX5_refusalOfBytes_6 rfl (lv_at hl 0 rfl) ?_
  refine lv_if_ge (tgt := 12) hx hb dX5_refusalOfBytes_7 (by decide) (fun c3 => ?_) (fun c3 => ?_)
  · replace h := h.1 c3
    refine lv_aload_n hx hb dX5_refusalOfBytes_12 rfl (lv_at hl 1 rfl) ?_
    refine gt_5_6 C w kw_2_8 dX5_refusalOfBytes_13 ?_
    refine lv_iload_n hx hb dX5_refusalOfBytes_16 rfl (lv_at hl 2 rfl) ?_
    have hin4 := h.1
    replace h := h.2
    have hz_hin4 := in_lt hin4
    refine pw_ldS C w hin4 rfl dX5_refusalOfBytes_17 ?_
    refine gn_3_2 C w (by omega) kn_31 dX5_refusalOfBytes_18 ?_
    refine lv_if_ne (tgt := 28) hx hb dX5_refusalOfBytes_21 (by decide) (fun c5 => ?_) (fun c5 => ?_)
    · replace h := h.2 c5
      refine lv_bipush (v := -12) hx hb dX5_refusalOfBytes_28 (by decide) ?_
      exact t_X5_refusalOfBytes_30 C M2 (-12 : Int32)  w (lv_sub hl [] rfl) h
    replace h := h.1 c5
    refine lv_iconst (v := 0) hx hb dX5_refusalOfBytes_24 (by decide) ?_
    refine lv_goto (tgt := 30) hx hb dX5_refusalOfBytes_25 (by decide) ?_
    exact t_X5_refusalOfBytes_30 C M2 (0 : Int32)  w (lv_sub hl [] rfl) h
  replace h := h.2 c3
  refine lv_iload_n hx hb dX5_refusalOfBytes_10 rfl (lv_at hl 0 rfl) ?_
  exact ret_i C w h dX5_refusalOfBytes_11
def j_X6_isIn_18 (post : Int32 → Mem → Prop) (M : Mem) (y0 : Int32) : Prop := (y0 = 0 ∨ y0 = 1) ∧ post y0 M
def j_X6_isIn_17 (post : Int32 → Mem → Prop) (M : Mem) : Prop := j_X6_isIn_18 post M (0 : Int32)
def q_X6_isIn (M : Mem) (x0 : Int64) (x2 : Int64) (x4 : Int64) (post : Int32 → Mem → Prop) : Prop := ((lg_cmp x0 x2) < 0 → (j_X6_isIn_17 post M)) ∧ (¬ ((lg_cmp x0 x2) < 0) → ((0 < (lg_cmp x0 x4) → (j_X6_isIn_17 post M)) ∧ (¬ (0 < (lg_cmp x0 x4)) → (j_X6_isIn_18 post M (1 : Int32)))))
set_option maxHeartbeats 4000000 in
set_option maxRecDepth 100000 in
theorem t_X6_isIn_18 (C : Cx G p s m args meth c RX6 cX6_isIn 6 (some .boolean)) {post : Int32 → Mem → Prop} (M : Mem) (y0 : Int32) {H : Heap} {locs : List Loc} {ls : Array Slot} (w : Wd G s M H locs) (hl : lv_has ls 6 []) (h : j_X6_isIn_18 post M y0) : W p l e (rmk 1) s m args below meth c H locs 0 0 (MQ below (va_Qi post (Qw G) (Af G s.heap.size)) args s 0 0 (Af G s.heap.size)) (F0 m 18 ls [.int y0]) := by
  have hx := C.1.1
  have hb := C.1.2.1
  unfold j_X6_isIn_18 at h
  exact ret_z C w h dX6_isIn_18
set_option maxHeartbeats 4000000 in
set_option maxRecDepth 100000 in
theorem t_X6_isIn_17 (C : Cx G p s m args meth c RX6 cX6_isIn 6 (some .boolean)) {post : Int32 → Mem → Prop} (M : Mem) {H : Heap} {locs : List Loc} {ls : Array Slot} (w : Wd G s M H locs) (hl : lv_has ls 6 []) (h : j_X6_isIn_17 post M) : W p l e (rmk 1) s m args below meth c H locs 0 0 (MQ below (va_Qi post (Qw G) (Af G s.heap.size)) args s 0 0 (Af G s.heap.size)) (F0 m 17 ls []) := by
  have hx := C.1.1
  have hb := C.1.2.1
  unfold j_X6_isIn_17 at h
  refine lv_iconst (v := 0) hx hb dX6_isIn_17 (by decide) ?_
  exact t_X6_isIn_18 C M (0 : Int32)  w (lv_sub hl [] rfl) h
set_option maxHeartbeats 4000000 in
set_option maxRecDepth 100000 in
theorem c_X6_isIn (l : Launch) (G : GG) (hG : Ag G) (sz : Nat) (M : Mem) (x0 : Int64) (x2 : Int64) (x4 : Int64) (post : Int32 → Mem → Prop) (h : q_X6_isIn M x0 x2 x4 post) : Met l yX6_isIn (Cond.code yX6_isIn cX6_isIn 6 (some .boolean) :: wsL_law) (rmk 1) (va_Pc [.long x0, .long x2, .long x4] (Pw G sz M)) (va_Qi post (Qw G) (Af G sz)) 0 0 (Af G sz) := by
  refine Met.ofW (cc := cX6_isIn) (maxL := 6) (ret := (some .boolean)) (by decide) rfl ?_
  intro p e s m args below meth c s₁ B hml hv
  obtain ⟨rfl, hsz, hE, hP⟩ := hv
  subst hsz
  have C := Cx.of (own := RX6) hG hE rfl hml B
  have w : Wd G s M s.heap [] := ⟨hP, va_S.rf⟩
  have hl := lv_entry [.long x0, .long x2, .long x4] (n := 6) (Nat.le_of_ble_eq_true rfl)
  rw [lg_entry_eq]
  generalize (lg_sl [.long x0, .long x2, .long x4] ++ List.replicate (6 - (lg_sl [.long x0, .long x2, .long x4]).length) Slot.unset).toArray = ls at hl ⊢
  have hl : lv_has ls 6 [(0, .long x0), (2, .long x2), (4, .long x4)] := hl
  have hx := C.1.1
  have hb := C.1.2.1
  show W p l e (rmk 1) s m _ below meth c s.heap [] 0 0 _ _
  unfold q_X6_isIn at h
  refine lv_lload_n hx hb dX6_isIn_0 rfl (lv_at hl 0 rfl) ?_
  refine lv_lload_n hx hb dX6_isIn_1 rfl (lv_at hl 1 rfl) ?_
  refine W.lcmp hx hb dX6_isIn_2 ?_
  refine lv_if_lt (tgt := 17) hx hb dX6_isIn_3 (by decide) (fun c1 => ?_) (fun c1 => ?_)
  · replace h := h.1 c1
    exact t_X6_isIn_17 C M   w (lv_sub hl [] rfl) h
  replace h := h.2 c1
  refine lv_lload_n hx hb dX6_isIn_6 rfl (lv_at hl 0 rfl) ?_
  refine lv_lload hx hb dX6_isIn_7 (lv_at hl 2 rfl) ?_
  refine W.lcmp hx hb dX6_isIn_9 ?_
  refine lv_if_gt (tgt := 17) hx hb dX6_isIn_10 (by decide) (fun c2 => ?_) (fun c2 => ?_)
  · replace h := h.1 c2
    exact t_X6_isIn_17 C M   w (lv_sub hl [] rfl) h
  replace h := h.2 c2
  refine lv_iconst (v := 1) hx hb dX6_isIn_13 (by decide) ?_
  refine lv_goto (tgt := 18) hx hb dX6_isIn_14 (by decide) ?_
  exact t_X6_isIn_18 C M (1 : Int32)  w (lv_sub hl [] rfl) h
def j_X6_comes_289 (post : Int32 → Mem → Prop) (M : Mem) (y0 : Int32) (y1 : Int32) : Prop := vp_in y1 54 ∧ (∀ M2 : Mem, M2 = (mup M 60 y1.toNatClampNeg y0) → (post (1 : Int32) M2))
def b_X6_comes_243 (k243 : Mem → Int32 → Prop) (post : Int32 → Mem → Prop) (M : Mem) (x3 : Int32) : Prop := ((3 : Int32) ≤ x3 → (post (1 : Int32) M)) ∧ (¬ ((3 : Int32) ≤ x3) → (vp_in x3 3 ∧ (vp_in ((9 : Int32) + x3) 54 ∧ (∀ M6 : Mem, M6 = (mup M 60 ((9 : Int32) + x3).toNatClampNeg (M 68 x3.toNatClampNeg)) → (k243 M6 (x3 + (1 : Int32)))))))
def lp_X6_comes_243 (post : Int32 → Mem → Prop) : Nat → Mem → Int32 → Prop
  | 0 => fun _ _ => False
  | n + 1 => fun M x3 => b_X6_comes_243 (lp_X6_comes_243 post n) post M x3
def j_X6_comes_240 (post : Int32 → Mem → Prop) (M : Mem) (y0 : Int32) : Prop := (y0 = 0 ∨ y0 = 1) ∧ post y0 M
def j_X6_comes_188 (post : Int32 → Mem → Prop) (M : Mem) : Prop := post (0 : Int32) M
def j_X6_comes_144 (k112 : Mem → Int32 → Int32 → Prop) (post : Int32 → Mem → Prop) (M : Mem) (y0 : Int32) (y1 : Int32) (x3 : Int32) (x4 : Int32) : Prop := vp_in y1 54 ∧ (∀ M8 : Mem, M8 = (mup M 60 y1.toNatClampNeg y0) → (k112 M8 x3 (x4 + (1 : Int32))))
def b_X6_comes_112 (k112 : Mem → Int32 → Int32 → Prop) (post : Int32 → Mem → Prop) (M : Mem) (x3 : Int32) (x4 : Int32) : Prop := ((6 : Int32) ≤ x4 → (∀ M10 : Mem, M10 = (mup M 60 0 ((M 60 0) + (1 : Int32))) → (post (1 : Int32) M10))) ∧ (¬ ((6 : Int32) ≤ x4) → (((3 : Int32) ≤ x4 → (j_X6_comes_144 k112 post M (0 : Int32) (x3 + x4) x3 x4)) ∧ (¬ ((3 : Int32) ≤ x4) → (vp_in x4 3 ∧ (j_X6_comes_144 k112 post M (M 68 x4.toNatClampNeg) (x3 + x4) x3 x4)))))
def lp_X6_comes_112 (post : Int32 → Mem → Prop) : Nat → Mem → Int32 → Int32 → Prop
  | 0 => fun _ _ _ => False
  | n + 1 => fun M x3 x4 => b_X6_comes_112 (lp_X6_comes_112 post n) post M x3 x4
def j_X6_comes_94 (post : Int32 → Mem → Prop) (M : Mem) : Prop := post (0 : Int32) M
def q_X6_comes (M : Mem) (x1 : Int32) (post : Int32 → Mem → Prop) : Prop := (x1 = (100 : Int32) → (∀ M14 : Mem, M14 = (mup M 60 8 (M 68 0)) → (((M 68 0) < (1 : Int32) → (j_X6_comes_240 post M14 (0 : Int32))) ∧ (¬ ((M 68 0) < (1 : Int32)) → (j_X6_comes_240 post M14 (1 : Int32)))))) ∧ (¬ x1 = (100 : Int32) → ((x1 = (112 : Int32) → (((7 : Int32) < (M 68 0) → (j_X6_comes_94 post M)) ∧ (¬ ((7 : Int32) < (M 68 0)) → (q_X6_isIn M ((M 68 2).toInt64) (1 : Int64) (99 : Int64) (fun r18 M19 => (r18 = 0 → (j_X6_comes_94 post M19)) ∧ (¬ (r18 = 0) → (((M19 60 0) = (6 : Int32) → (j_X6_comes_94 post M19)) ∧ (¬ ((M19 60 0) = (6 : Int32)) → (∀ v22 : Int32, v22 = ((12 : Int32) + ((6 : Int32) * (M19 60 0))) → (∃ n, lp_X6_comes_112 post n M19 v22 (0 : Int32))))))))))) ∧ (¬ x1 = (112 : Int32) → ((x1 = (115 : Int32) → (((60 : Int32) < (M 68 0) → (j_X6_comes_188 post M)) ∧ (¬ ((60 : Int32) < (M 68 0)) → (q_X6_isIn M ((M 68 1).toInt64) (4 : Int64) (40 : Int64) (fun r25 M26 => (r25 = 0 → (j_X6_comes_188 post M26)) ∧ (¬ (r25 = 0) → (∀ M28 : Mem, M28 = (mup M26 60 5 (M 68 0)) → (∀ M29 : Mem, M29 = (mup M28 60 6 (M28 68 1)) → (post (1 : Int32) M29))))))))) ∧ (¬ x1 = (115 : Int32) → ((x1 = (118 : Int32) → (∀ M31 : Mem, M31 = (mup M 60 7 (M 68 0)) → (post (1 : Int32) M31))) ∧ (¬ x1 = (118 : Int32) → ((x1 = (121 : Int32) → (∃ n, lp_X6_comes_243 post n M (0 : Int32))) ∧ (¬ x1 = (121 : Int32) → (((M 57 16) = 0 → (j_X6_comes_289 post M (M 68 0) (3 : Int32))) ∧ (¬ ((M 57 16) = 0) → (j_X6_comes_289 post M (-(M 68 0)) (3 : Int32)))))))))))))
set_option maxHeartbeats 4000000 in
set_option maxRecDepth 100000 in
theorem t_X6_comes_289 (C : Cx G p s m args meth c RX6 cX6_comes 5 (some .boolean)) {post : Int32 → Mem → Prop} (M : Mem) (y0 : Int32) (y1 : Int32) {H : Heap} {locs : List Loc} {ls : Array Slot} (w : Wd G s M H locs) (hl : lv_has ls 5 []) (h : j_X6_comes_289 post M y0 y1) : W p l e (rmk 2) s m args below meth c H locs 0 0 (MQ below (va_Qi post (Qw G) (Af G s.heap.size)) args s 0 0 (Af G s.heap.size)) (F0 m 289 ls [.int y0, .int y1, .ref (ga G 60)]) := by
  have hx := C.1.1
  have hb := C.1.2.1
  unfold j_X6_comes_289 at h
  have hin1 := h.1
  replace h := h.2
  have hz_hin1 := in_lt hin1
  refine pw_st C w (i := 60) (by decide) (fun _ => pE_60) hin1 rfl dX6_comes_289 (fun H locs w => ?_)
  obtain ⟨M2, eM2⟩ : ∃ z : Mem, z = (mup M 60 y1.toNatClampNeg y0) := ⟨_, rfl⟩
  replace w : Wd G s M2 H locs := by rw [eM2]; exact w
  replace h := h M2 eM2
  refine lv_iconst (v := 1) hx hb dX6_comes_290 (by decide) ?_
  exact ret_z C w ⟨Or.inr rfl, h⟩ dX6_comes_291
set_option maxHeartbeats 4000000 in
set_option maxRecDepth 100000 in
theorem t_X6_comes_243 (C : Cx G p s m args meth c RX6 cX6_comes 5 (some .boolean)) {post : Int32 → Mem → Prop} : ∀ (n : Nat) (M : Mem) (x3 : Int32) {H : Heap} {locs : List Loc} {ls : Array Slot} (w : Wd G s M H locs) (hl : lv_has ls 5 [(0, .ref (ga G 57)), (3, .int x3)]) (h : lp_X6_comes_243 post n M x3), W p l e (rmk 2) s m args below meth c H locs 0 0 (MQ below (va_Qi post (Qw G) (Af G s.heap.size)) args s 0 0 (Af G s.heap.size)) (F0 m 243 ls []) := by
  have hx := C.1.1
  have hb := C.1.2.1
  intro n9
  induction n9 with
  | zero => intro M x3 H locs ls w hl h; exact absurd h id
  | succ n9 ih9 =>
    intro M x3 H locs ls w hl h
    have hk243 : ∀ (M : Mem) (x3 : Int32) (H : Heap) (locs : List Loc) (ls : Array Slot), Wd G s M H locs → lv_has ls 5 [(0, .ref (ga G 57)), (3, .int x3)] → lp_X6_comes_243 post n9 M x3 → W p l e (rmk 2) s m args below meth c H locs 0 0 (MQ below (va_Qi post (Qw G) (Af G s.heap.size)) args s 0 0 (Af G s.heap.size)) (F0 m 243 ls []) := fun M x3 H locs ls w hl h => ih9 M x3 w hl h
    replace h : b_X6_comes_243 (lp_X6_comes_243 post n9) post M x3 := h
    unfold b_X6_comes_243 at h
    refine lv_iload_n hx hb dX6_comes_243 rfl (lv_at hl 1 rfl) ?_
    refine lv_iconst (v := 3) hx hb dX6_comes_244 (by decide) ?_
    refine lv_icmp_ge (tgt := 269) hx hb dX6_comes_245 (by decide) (fun c3 => ?_) (fun c3 => ?_)
    · replace h := h.1 c3
      refine lv_iconst (v := 1) hx hb dX6_comes_269 (by decide) ?_
      exact ret_z C w ⟨Or.inr rfl, h⟩ dX6_comes_270
    replace h := h.2 c3
    refine lv_aload_n hx hb dX6_comes_248 rfl (lv_at hl 0 rfl) ?_
    refine gt_6_2 C w kw_5_2 dX6_comes_249 ?_
    refine lv_bipush (v := 9) hx hb dX6_comes_252 (by decide) ?_
    refine lv_iload_n hx hb dX6_comes_254 rfl (lv_at hl 1 rfl) ?_
    refine lv_iadd hx hb dX6_comes_255 ?_
    refine lv_aload_n hx hb dX6_comes_256 rfl (lv_at hl 0 rfl) ?_
    refine gt_6_17 C w kw_5_10 dX6_comes_257 ?_
    refine lv_iload_n hx hb dX6_comes_260 rfl (lv_at hl 1 rfl) ?_
    have hin4 := h.1
    replace h := h.2
    have hz_hin4 := in_lt hin4
    refine pw_ld C w (i := 68) (by decide) pE_68 hin4 rfl dX6_comes_261 ?_
    have hin5 := h.1
    replace h := h.2
    have hz_hin5 := in_lt hin5
    refine pw_st C w (i := 60) (by decide) (fun _ => pE_60) hin5 rfl dX6_comes_262 (fun H locs w => ?_)
    obtain ⟨M6, eM6⟩ : ∃ z : Mem, z = (mup M 60 ((9 : Int32) + x3).toNatClampNeg (M 68 x3.toNatClampNeg)) := ⟨_, rfl⟩
    replace w : Wd G s M6 H locs := by rw [eM6]; exact w
    replace h := h M6 eM6
    refine lv_iinc (v := (x3 + (1 : Int32))) (lv' := [(3, .int (x3 + (1 : Int32))), (0, .ref (ga G 57))]) hx hb dX6_comes_263 hl (k := 1) rfl rfl (by decide) rfl (fun ls hl => ?_)
    refine lv_goto (tgt := 243) hx hb dX6_comes_266 (by decide) ?_
    exact hk243 M6 (x3 + (1 : Int32)) _ _ _  w (lv_sub hl [1, 0] rfl) h
set_option maxHeartbeats 4000000 in
set_option maxRecDepth 100000 in
theorem t_X6_comes_240 (C : Cx G p s m args meth c RX6 cX6_comes 5 (some .boolean)) {post : Int32 → Mem → Prop} (M : Mem) (y0 : Int32) {H : Heap} {locs : List Loc} {ls : Array Slot} (w : Wd G s M H locs) (hl : lv_has ls 5 []) (h : j_X6_comes_240 post M y0) : W p l e (rmk 2) s m args below meth c H locs 0 0 (MQ below (va_Qi post (Qw G) (Af G s.heap.size)) args s 0 0 (Af G s.heap.size)) (F0 m 240 ls [.int y0]) := by
  have hx := C.1.1
  have hb := C.1.2.1
  unfold j_X6_comes_240 at h
  exact ret_z C w h dX6_comes_240
set_option maxHeartbeats 4000000 in
set_option maxRecDepth 100000 in
theorem t_X6_comes_188 (C : Cx G p s m args meth c RX6 cX6_comes 5 (some .boolean)) {post : Int32 → Mem → Prop} (M : Mem) {H : Heap} {locs : List Loc} {ls : Array Slot} (w : Wd G s M H locs) (hl : lv_has ls 5 []) (h : j_X6_comes_188 post M) : W p l e (rmk 2) s m args below meth c H locs 0 0 (MQ below (va_Qi post (Qw G) (Af G s.heap.size)) args s 0 0 (Af G s.heap.size)) (F0 m 188 ls []) := by
  have hx := C.1.1
  have hb := C.1.2.1
  unfold j_X6_comes_188 at h
  refine lv_iconst (v := 0) hx hb dX6_comes_188 (by decide) ?_
  exact ret_z C w ⟨Or.inl rfl, h⟩ dX6_comes_189
set_option maxHeartbeats 4000000 in
set_option maxRecDepth 100000 in
theorem t_X6_comes_144 (C : Cx G p s m args meth c RX6 cX6_comes 5 (some .boolean)) {post : Int32 → Mem → Prop} {k112 : Mem → Int32 → Int32 → Prop} (hk112 : ∀ (M : Mem) (x3 : Int32) (x4 : Int32) (H : Heap) (locs : List Loc) (ls : Array Slot), Wd G s M H locs → lv_has ls 5 [(0, .ref (ga G 57)), (3, .int x3), (4, .int x4)] → k112 M x3 x4 → W p l e (rmk 2) s m args below meth c H locs 0 0 (MQ below (va_Qi post (Qw G) (Af G s.heap.size)) args s 0 0 (Af G s.heap.size)) (F0 m 112 ls [])) (M : Mem) (y0 : Int32) (y1 : Int32) (x3 : Int32) (x4 : Int32) {H : Heap} {locs : List Loc} {ls : Array Slot} (w : Wd G s M H locs) (hl : lv_has ls 5 [(0, .ref (ga G 57)), (3, .int x3), (4, .int x4)]) (h : j_X6_comes_144 k112 post M y0 y1 x3 x4) : W p l e (rmk 2) s m args below meth c H locs 0 0 (MQ below (va_Qi post (Qw G) (Af G s.heap.size)) args s 0 0 (Af G s.heap.size)) (F0 m 144 ls [.int y0, .int y1, .ref (ga G 60)]) := by
  have hx := C.1.1
  have hb := C.1.2.1
  unfold j_X6_comes_144 at h
  have hin7 := h.1
  replace h := h.2
  have hz_hin7 := in_lt hin7
  refine pw_st C w (i := 60) (by decide) (fun _ => pE_60) hin7 rfl dX6_comes_144 (fun H locs w => ?_)
  obtain ⟨M8, eM8⟩ : ∃ z : Mem, z = (mup M 60 y1.toNatClampNeg y0) := ⟨_, rfl⟩
  replace w : Wd G s M8 H locs := by rw [eM8]; exact w
  replace h := h M8 eM8
  refine lv_iinc (v := (x4 + (1 : Int32))) (lv' := [(4, .int (x4 + (1 : Int32))), (0, .ref (ga G 57)), (3, .int x3)]) hx hb dX6_comes_145 hl (k := 2) rfl rfl (by decide) rfl (fun ls hl => ?_)
  refine lv_goto (tgt := 112) hx hb dX6_comes_148 (by decide) ?_
  exact hk112 M8 x3 (x4 + (1 : Int32)) _ _ _  w (lv_sub hl [1, 2, 0] rfl) h
set_option maxHeartbeats 4000000 in
set_option maxRecDepth 100000 in
theorem t_X6_comes_112 (C : Cx G p s m args meth c RX6 cX6_comes 5 (some .boolean)) {post : Int32 → Mem → Prop} : ∀ (n : Nat) (M : Mem) (x3 : Int32) (x4 : Int32) {H : Heap} {locs : List Loc} {ls : Array Slot} (w : Wd G s M H locs) (hl : lv_has ls 5 [(0, .ref (ga G 57)), (3, .int x3), (4, .int x4)]) (h : lp_X6_comes_112 post n M x3 x4), W p l e (rmk 2) s m args below meth c H locs 0 0 (MQ below (va_Qi post (Qw G) (Af G s.heap.size)) args s 0 0 (Af G s.heap.size)) (F0 m 112 ls []) := by
  have hx := C.1.1
  have hb := C.1.2.1
  intro n9
  induction n9 with
  | zero => intro M x3 x4 H locs ls w hl h; exact absurd h id
  | succ n9 ih9 =>
    intro M x3 x4 H locs ls w hl h
    have hk112 : ∀ (M : Mem) (x3 : Int32) (x4 : Int32) (H : Heap) (locs : List Loc) (ls : Array Slot), Wd G s M H locs → lv_has ls 5 [(0, .ref (ga G 57)), (3, .int x3), (4, .int x4)] → lp_X6_comes_112 post n9 M x3 x4 → W p l e (rmk 2) s m args below meth c H locs 0 0 (MQ below (va_Qi post (Qw G) (Af G s.heap.size)) args s 0 0 (Af G s.heap.size)) (F0 m 112 ls []) := fun M x3 x4 H locs ls w hl h => ih9 M x3 x4 w hl h
    replace h : b_X6_comes_112 (lp_X6_comes_112 post n9) post M x3 x4 := h
    unfold b_X6_comes_112 at h
    refine lv_iload hx hb dX6_comes_112 (lv_at hl 2 rfl) ?_
    refine lv_bipush (v := 6) hx hb dX6_comes_114 (by decide) ?_
    refine lv_icmp_ge (tgt := 151) hx hb dX6_comes_116 (by decide) (fun c9 => ?_) (fun c9 => ?_)
    · replace h := h.1 c9
      refine lv_aload_n hx hb dX6_comes_151 rfl (lv_at hl 0 rfl) ?_
      refine gt_6_2 C w kw_5_2 dX6_comes_152 ?_
      refine lv_iconst (v := 0) hx hb dX6_comes_155 (by decide) ?_
      refine lv_dup2_11 hx hb dX6_comes_156 rfl rfl ?_
      refine pw_ld C w (i := 60) (by decide) pE_60 (vl (x := (0 : Int32)) (by decide)) (k := 0) (by decide) dX6_comes_157 ?_
      refine lv_iconst (v := 1) hx hb dX6_comes_158 (by decide) ?_
      refine lv_iadd hx hb dX6_comes_159 ?_
      refine pw_st C w (i := 60) (by decide) (fun _ => pE_60) (vl (x := (0 : Int32)) (by decide)) (k := 0) (by decide) dX6_comes_160 (fun H locs w => ?_)
      obtain ⟨M10, eM10⟩ : ∃ z : Mem, z = (mup M 60 0 ((M 60 0) + (1 : Int32))) := ⟨_, rfl⟩
      replace w : Wd G s M10 H locs := by rw [eM10]; exact w
      replace h := h M10 eM10
      refine lv_iconst (v := 1) hx hb dX6_comes_161 (by decide) ?_
      exact ret_z C w ⟨Or.inr rfl, h⟩ dX6_comes_162
    replace h := h.2 c9
    refine lv_aload_n hx hb dX6_comes_119 rfl (lv_at hl 0 rfl) ?_
    refine gt_6_2 C w kw_5_2 dX6_comes_120 ?_
    refine lv_iload_n hx hb dX6_comes_123 rfl (lv_at hl 1 rfl) ?_
    refine lv_iload hx hb dX6_comes_124 (lv_at hl 2 rfl) ?_
    refine lv_iadd hx hb dX6_comes_126 ?_
    refine lv_iload hx hb dX6_comes_127 (lv_at hl 2 rfl) ?_
    refine lv_iconst (v := 3) hx hb dX6_comes_129 (by decide) ?_
    refine lv_icmp_ge (tgt := 143) hx hb dX6_comes_130 (by decide) (fun c11 => ?_) (fun c11 => ?_)
    · replace h := h.1 c11
      refine lv_iconst (v := 0) hx hb dX6_comes_143 (by decide) ?_
      exact t_X6_comes_144 C hk112 M (0 : Int32) (x3 + x4) x3 x4  w (lv_sub hl [0, 1, 2] rfl) h
    replace h := h.2 c11
    refine lv_aload_n hx hb dX6_comes_133 rfl (lv_at hl 0 rfl) ?_
    refine gt_6_17 C w kw_5_10 dX6_comes_134 ?_
    refine lv_iload hx hb dX6_comes_137 (lv_at hl 2 rfl) ?_
    have hin12 := h.1
    replace h := h.2
    have hz_hin12 := in_lt hin12
    refine pw_ld C w (i := 68) (by decide) pE_68 hin12 rfl dX6_comes_139 ?_
    refine lv_goto (tgt := 144) hx hb dX6_comes_140 (by decide) ?_
    exact t_X6_comes_144 C hk112 M (M 68 x4.toNatClampNeg) (x3 + x4) x3 x4  w (lv_sub hl [0, 1, 2] rfl) h
set_option maxHeartbeats 4000000 in
set_option maxRecDepth 100000 in
theorem t_X6_comes_94 (C : Cx G p s m args meth c RX6 cX6_comes 5 (some .boolean)) {post : Int32 → Mem → Prop} (M : Mem) {H : Heap} {locs : List Loc} {ls : Array Slot} (w : Wd G s M H locs) (hl : lv_has ls 5 []) (h : j_X6_comes_94 post M) : W p l e (rmk 2) s m args below meth c H locs 0 0 (MQ below (va_Qi post (Qw G) (Af G s.heap.size)) args s 0 0 (Af G s.heap.size)) (F0 m 94 ls []) := by
  have hx := C.1.1
  have hb := C.1.2.1
  unfold j_X6_comes_94 at h
  refine lv_iconst (v := 0) hx hb dX6_comes_94 (by decide) ?_
  exact ret_z C w ⟨Or.inl rfl, h⟩ dX6_comes_95
set_option maxHeartbeats 4000000 in
set_option maxRecDepth 100000 in
theorem c_X6_comes (l : Launch) (G : GG) (hG : Ag G) (sz : Nat) (M : Mem) (x1 : Int32) (post : Int32 → Mem → Prop) (h : q_X6_comes M x1 post) : Met l yX6_comes (Cond.code yX6_comes cX6_comes 5 (some .boolean) :: wsL_law) (rmk 2) (va_Pc [.ref (ga G 57), .int x1] (Pw G sz M)) (va_Qi post (Qw G) (Af G sz)) 0 0 (Af G sz) := by
  refine Met.ofW (cc := cX6_comes) (maxL := 5) (ret := (some .boolean)) (by decide) rfl ?_
  intro p e s m args below meth c s₁ B hml hv
  obtain ⟨rfl, hsz, hE, hP⟩ := hv
  subst hsz
  have C := Cx.of (own := RX6) hG hE rfl hml B
  have w : Wd G s M s.heap [] := ⟨hP, va_S.rf⟩
  have hl := lv_entry [.ref (ga G 57), .int x1] (n := 5) (Nat.le_of_ble_eq_true rfl)
  rw [lg_entry_eq]
  generalize (lg_sl [.ref (ga G 57), .int x1] ++ List.replicate (5 - (lg_sl [.ref (ga G 57), .int x1]).length) Slot.unset).toArray = ls at hl ⊢
  have hl : lv_has ls 5 [(0, .ref (ga G 57)), (1, .int x1)] := hl
  have hx := C.1.1
  have hb := C.1.2.1
  show W p l e (rmk 2) s m _ below meth c s.heap [] 0 0 _ _
  unfold q_X6_comes at h
  refine lv_aload_n hx hb dX6_comes_0 rfl (lv_at hl 0 rfl) ?_
  refine gt_6_17 C w kw_5_10 dX6_comes_1 ?_
  refine lv_iconst (v := 0) hx hb dX6_comes_4 (by decide) ?_
  refine pw_ld C w (i := 68) (by decide) pE_68 (vl (x := (0 : Int32)) (by decide)) (k := 0) (by decide) dX6_comes_5 ?_
  refine lv_istore_n (lv' := [(2, .int (M 68 0)), (0, .ref (ga G 57)), (1, .int x1)]) hx hb dX6_comes_6 rfl hl (by decide) rfl (fun ls hl => ?_)
  refine lv_iload_n hx hb dX6_comes_7 rfl (lv_at hl 2 rfl) ?_
  by_cases c13 : x1 = (100 : Int32)
  · replace h := h.1 c13
    refine lv_lookup (off := 214) (tgt := 222) hx hb dX6_comes_8 (by decide) (by rw [c13]; decide) (by decide) ?_
    refine lv_aload_n hx hb dX6_comes_222 rfl (lv_at hl 1 rfl) ?_
    refine gt_6_2 C w kw_5_2 dX6_comes_223 ?_
    refine lv_bipush (v := 8) hx hb dX6_comes_226 (by decide) ?_
    refine lv_iload_n hx hb dX6_comes_228 rfl (lv_at hl 0 rfl) ?_
    refine pw_st C w (i := 60) (by decide) (fun _ => pE_60) (vl (x := (8 : Int32)) (by decide)) (k := 8) (by decide) dX6_comes_229 (fun H locs w => ?_)
    obtain ⟨M14, eM14⟩ : ∃ z : Mem, z = (mup M 60 8 (M 68 0)) := ⟨_, rfl⟩
    replace w : Wd G s M14 H locs := by rw [eM14]; exact w
    replace h := h M14 eM14
    refine lv_iload_n hx hb dX6_comes_230 rfl (lv_at hl 0 rfl) ?_
    refine lv_iconst (v := 1) hx hb dX6_comes_231 (by decide) ?_
    refine lv_icmp_lt (tgt := 239) hx hb dX6_comes_232 (by decide) (fun c15 => ?_) (fun c15 => ?_)
    · replace h := h.1 c15
      refine lv_iconst (v := 0) hx hb dX6_comes_239 (by decide) ?_
      exact t_X6_comes_240 C M14 (0 : Int32)  w (lv_sub hl [] rfl) h
    replace h := h.2 c15
    refine lv_iconst (v := 1) hx hb dX6_comes_235 (by decide) ?_
    refine lv_goto (tgt := 240) hx hb dX6_comes_236 (by decide) ?_
    exact t_X6_comes_240 C M14 (1 : Int32)  w (lv_sub hl [] rfl) h
  replace h := h.2 c13
  by_cases c16 : x1 = (112 : Int32)
  · replace h := h.1 c16
    refine lv_lookup (off := 52) (tgt := 60) hx hb dX6_comes_8 (by decide) (by rw [c16]; decide) (by decide) ?_
    refine lv_iload_n hx hb dX6_comes_60 rfl (lv_at hl 0 rfl) ?_
    refine lv_bipush (v := 7) hx hb dX6_comes_61 (by decide) ?_
    refine lv_icmp_gt (tgt := 94) hx hb dX6_comes_63 (by decide) (fun c17 => ?_) (fun c17 => ?_)
    · replace h := h.1 c17
      exact t_X6_comes_94 C M   w (lv_sub hl [] rfl) h
    replace h := h.2 c17
    refine lv_aload_n hx hb dX6_comes_66 rfl (lv_at hl 1 rfl) ?_
    refine gt_6_17 C w kw_5_10 dX6_comes_67 ?_
    refine lv_iconst (v := 2) hx hb dX6_comes_70 (by decide) ?_
    refine pw_ld C w (i := 68) (by decide) pE_68 (vl (x := (2 : Int32)) (by decide)) (k := 2) (by decide) dX6_comes_71 ?_
    refine lv_i2l hx hb dX6_comes_72 rfl ?_
    refine lv_lconst (v := 1) hx hb dX6_comes_73 (by decide) ?_
    refine lv_ldc2 hx hb C.1.2.2.2.1 (C.ws kw_13_13) dX6_comes_74 ?_
    refine end_i w (run_S (As := [.long (M 68 2).toInt64, .long (1 : Int64), .long (99 : Int64)]) C w hl.1 (c_X6_isIn l G C.2.2.1 _ _ ((M 68 2).toInt64) (1 : Int64) (99 : Int64)  _ h) kw_12_5 kw_1_5 kw_12_3 kw_12_4 hd_X6_isIn ⟨by decide, by decide⟩ rfl (Nat.le_of_ble_eq_true rfl) dX6_comes_77) (fun r18 M19 H locs h w => ?_)
    refine lv_if_eq (tgt := 94) hx hb dX6_comes_80 (by decide) (fun c20 => ?_) (fun c20 => ?_)
    · replace h := h.1 c20
      exact t_X6_comes_94 C M19   w (lv_sub hl [] rfl) h
    replace h := h.2 c20
    refine lv_aload_n hx hb dX6_comes_83 rfl (lv_at hl 1 rfl) ?_
    refine gt_6_2 C w kw_5_2 dX6_comes_84 ?_
    refine lv_iconst (v := 0) hx hb dX6_comes_87 (by decide) ?_
    refine pw_ld C w (i := 60) (by decide) pE_60 (vl (x := (0 : Int32)) (by decide)) (k := 0) (by decide) dX6_comes_88 ?_
    refine lv_bipush (v := 6) hx hb dX6_comes_89 (by decide) ?_
    refine lv_icmp_ne (tgt := 96) hx hb dX6_comes_91 (by decide) (fun c21 => ?_) (fun c21 => ?_)
    · replace h := h.2 c21
      refine lv_bipush (v := 12) hx hb dX6_comes_96 (by decide) ?_
      refine lv_bipush (v := 6) hx hb dX6_comes_98 (by decide) ?_
      refine lv_aload_n hx hb dX6_comes_100 rfl (lv_at hl 1 rfl) ?_
      refine gt_6_2 C w kw_5_2 dX6_comes_101 ?_
      refine lv_iconst (v := 0) hx hb dX6_comes_104 (by decide) ?_
      refine pw_ld C w (i := 60) (by decide) pE_60 (vl (x := (0 : Int32)) (by decide)) (k := 0) (by decide) dX6_comes_105 ?_
      refine lv_imul hx hb dX6_comes_106 ?_
      refine lv_iadd hx hb dX6_comes_107 ?_
      refine lv_topi (fun v22 ev22 => ?_)
      replace h := h v22 ev22
      refine lv_istore_n (lv' := [(3, .int v22), (2, .int (M 68 0)), (0, .ref (ga G 57)), (1, .int x1)]) hx hb dX6_comes_108 rfl hl (by decide) rfl (fun ls hl => ?_)
      refine lv_iconst (v := 0) hx hb dX6_comes_109 (by decide) ?_
      refine lv_istore (lv' := [(4, .int (0 : Int32)), (3, .int v22), (2, .int (M 68 0)), (0, .ref (ga G 57)), (1, .int x1)]) hx hb dX6_comes_110 hl (by decide) rfl (fun ls hl => ?_)
      obtain ⟨n, h⟩ := h
      exact t_X6_comes_112 C n M19 v22 (0 : Int32)  w (lv_sub hl [3, 1, 0] rfl) h
    replace h := h.1 c21
    exact t_X6_comes_94 C M19   w (lv_sub hl [] rfl) h
  replace h := h.2 c16
  by_cases c23 : x1 = (115 : Int32)
  · replace h := h.1 c23
    refine lv_lookup (off := 155) (tgt := 163) hx hb dX6_comes_8 (by decide) (by rw [c23]; decide) (by decide) ?_
    refine lv_iload_n hx hb dX6_comes_163 rfl (lv_at hl 0 rfl) ?_
    refine lv_bipush (v := 60) hx hb dX6_comes_164 (by decide) ?_
    refine lv_icmp_gt (tgt := 188) hx hb dX6_comes_166 (by decide) (fun c24 => ?_) (fun c24 => ?_)
    · replace h := h.1 c24
      exact t_X6_comes_188 C M   w (lv_sub hl [] rfl) h
    replace h := h.2 c24
    refine lv_aload_n hx hb dX6_comes_169 rfl (lv_at hl 1 rfl) ?_
    refine gt_6_17 C w kw_5_10 dX6_comes_170 ?_
    refine lv_iconst (v := 1) hx hb dX6_comes_173 (by decide) ?_
    refine pw_ld C w (i := 68) (by decide) pE_68 (vl (x := (1 : Int32)) (by decide)) (k := 1) (by decide) dX6_comes_174 ?_
    refine lv_i2l hx hb dX6_comes_175 rfl ?_
    refine lv_ldc2 hx hb C.1.2.2.2.1 (C.ws kw_13_14) dX6_comes_176 ?_
    refine lv_ldc2 hx hb C.1.2.2.2.1 (C.ws kw_13_15) dX6_comes_179 ?_
    refine end_i w (run_S (As := [.long (M 68 1).toInt64, .long (4 : Int64), .long (40 : Int64)]) C w hl.1 (c_X6_isIn l G C.2.2.1 _ _ ((M 68 1).toInt64) (4 : Int64) (40 : Int64)  _ h) kw_12_5 kw_1_5 kw_12_3 kw_12_4 hd_X6_isIn ⟨by decide, by decide⟩ rfl (Nat.le_of_ble_eq_true rfl) dX6_comes_182) (fun r25 M26 H locs h w => ?_)
    refine lv_if_ne (tgt := 190) hx hb dX6_comes_185 (by decide) (fun c27 => ?_) (fun c27 => ?_)
    · replace h := h.2 c27
      refine lv_aload_n hx hb dX6_comes_190 rfl (lv_at hl 1 rfl) ?_
      refine gt_6_2 C w kw_5_2 dX6_comes_191 ?_
      refine lv_iconst (v := 5) hx hb dX6_comes_194 (by decide) ?_
      refine lv_iload_n hx hb dX6_comes_195 rfl (lv_at hl 0 rfl) ?_
      refine pw_st C w (i := 60) (by decide) (fun _ => pE_60) (vl (x := (5 : Int32)) (by decide)) (k := 5) (by decide) dX6_comes_196 (fun H locs w => ?_)
      obtain ⟨M28, eM28⟩ : ∃ z : Mem, z = (mup M26 60 5 (M 68 0)) := ⟨_, rfl⟩
      replace w : Wd G s M28 H locs := by rw [eM28]; exact w
      replace h := h M28 eM28
      refine lv_aload_n hx hb dX6_comes_197 rfl (lv_at hl 1 rfl) ?_
      refine gt_6_2 C w kw_5_2 dX6_comes_198 ?_
      refine lv_bipush (v := 6) hx hb dX6_comes_201 (by decide) ?_
      refine lv_aload_n hx hb dX6_comes_203 rfl (lv_at hl 1 rfl) ?_
      refine gt_6_17 C w kw_5_10 dX6_comes_204 ?_
      refine lv_iconst (v := 1) hx hb dX6_comes_207 (by decide) ?_
      refine pw_ld C w (i := 68) (by decide) pE_68 (vl (x := (1 : Int32)) (by decide)) (k := 1) (by decide) dX6_comes_208 ?_
      refine pw_st C w (i := 60) (by decide) (fun _ => pE_60) (vl (x := (6 : Int32)) (by decide)) (k := 6) (by decide) dX6_comes_209 (fun H locs w => ?_)
      obtain ⟨M29, eM29⟩ : ∃ z : Mem, z = (mup M28 60 6 (M28 68 1)) := ⟨_, rfl⟩
      replace w : Wd G s M29 H locs := by rw [eM29]; exact w
      replace h := h M29 eM29
      refine lv_iconst (v := 1) hx hb dX6_comes_210 (by decide) ?_
      exact ret_z C w ⟨Or.inr rfl, h⟩ dX6_comes_211
    replace h := h.1 c27
    exact t_X6_comes_188 C M26   w (lv_sub hl [] rfl) h
  replace h := h.2 c23
  by_cases c30 : x1 = (118 : Int32)
  · replace h := h.1 c30
    refine lv_lookup (off := 204) (tgt := 212) hx hb dX6_comes_8 (by decide) (by rw [c30]; decide) (by decide) ?_
    refine lv_aload_n hx hb dX6_comes_212 rfl (lv_at hl 1 rfl) ?_
    refine gt_6_2 C w kw_5_2 dX6_comes_213 ?_
    refine lv_bipush (v := 7) hx hb dX6_comes_216 (by decide) ?_
    refine lv_iload_n hx hb dX6_comes_218 rfl (lv_at hl 0 rfl) ?_
    refine pw_st C w (i := 60) (by decide) (fun _ => pE_60) (vl (x := (7 : Int32)) (by decide)) (k := 7) (by decide) dX6_comes_219 (fun H locs w => ?_)
    obtain ⟨M31, eM31⟩ : ∃ z : Mem, z = (mup M 60 7 (M 68 0)) := ⟨_, rfl⟩
    replace w : Wd G s M31 H locs := by rw [eM31]; exact w
    replace h := h M31 eM31
    refine lv_iconst (v := 1) hx hb dX6_comes_220 (by decide) ?_
    exact ret_z C w ⟨Or.inr rfl, h⟩ dX6_comes_221
  replace h := h.2 c30
  by_cases c32 : x1 = (121 : Int32)
  · replace h := h.1 c32
    refine lv_lookup (off := 233) (tgt := 241) hx hb dX6_comes_8 (by decide) (by rw [c32]; decide) (by decide) ?_
    refine lv_iconst (v := 0) hx hb dX6_comes_241 (by decide) ?_
    refine lv_istore_n (lv' := [(3, .int (0 : Int32)), (2, .int (M 68 0)), (0, .ref (ga G 57)), (1, .int x1)]) hx hb dX6_comes_242 rfl hl (by decide) rfl (fun ls hl => ?_)
    obtain ⟨n, h⟩ := h
    exact t_X6_comes_243 C n M (0 : Int32)  w (lv_sub hl [2, 0] rfl) h
  replace h := h.2 c32
  refine lv_lookup (off := 263) (tgt := 271) hx hb dX6_comes_8 (by decide) ((lv_osw c13 (by decide)).trans ((lv_osw c16 (by decide)).trans ((lv_osw c23 (by decide)).trans ((lv_osw c30 (by decide)).trans ((lv_osw c32 (by decide)).trans rfl))))) (by decide) ?_
  refine lv_aload_n hx hb dX6_comes_271 rfl (lv_at hl 1 rfl) ?_
  refine gt_6_2 C w kw_5_2 dX6_comes_272 ?_
  refine lv_iconst (v := 3) hx hb dX6_comes_275 (by decide) ?_
  refine lv_aload_n hx hb dX6_comes_276 rfl (lv_at hl 1 rfl) ?_
  refine gt_6_16 C w kw_12_11 dX6_comes_277 ?_
  refine lv_if_eq (tgt := 288) hx hb dX6_comes_280 (by decide) (fun c33 => ?_) (fun c33 => ?_)
  · replace h := h.1 c33
    refine lv_iload_n hx hb dX6_comes_288 rfl (lv_at hl 0 rfl) ?_
    exact t_X6_comes_289 C M (M 68 0) (3 : Int32)  w (lv_sub hl [] rfl) h
  replace h := h.2 c33
  refine lv_iload_n hx hb dX6_comes_283 rfl (lv_at hl 0 rfl) ?_
  refine lv_ineg hx hb dX6_comes_284 ?_
  refine lv_goto (tgt := 289) hx hb dX6_comes_285 (by decide) ?_
  exact t_X6_comes_289 C M (-(M 68 0)) (3 : Int32)  w (lv_sub hl [] rfl) h
def b_X6_copies_2 (k2 : Mem → Nat → Nat → Int32 → Prop) (post : Mem → Prop) (M : Mem) (a0 : Nat) (a1 : Nat) (x2 : Int32) : Prop := ((54 : Int32) ≤ x2 → (post M)) ∧ (¬ ((54 : Int32) ≤ x2) → (vp_in x2 54 ∧ (∀ M3 : Mem, M3 = (mup M a1 x2.toNatClampNeg (M a0 x2.toNatClampNeg)) → (k2 M3 a0 a1 (x2 + (1 : Int32))))))
def lp_X6_copies_2 (post : Mem → Prop) : Nat → Mem → Nat → Nat → Int32 → Prop
  | 0 => fun _ _ _ _ => False
  | n + 1 => fun M a0 a1 x2 => b_X6_copies_2 (lp_X6_copies_2 post n) post M a0 a1 x2
def q_X6_copies (M : Mem) (a0 : Nat) (a1 : Nat) (post : Mem → Prop) : Prop := ∃ n, lp_X6_copies_2 post n M a0 a1 (0 : Int32)
set_option maxHeartbeats 4000000 in
set_option maxRecDepth 100000 in
theorem t_X6_copies_2 (C : Cx G p s m args meth c RX6 cX6_copies 3 none) {post : Mem → Prop} : ∀ (n : Nat) (M : Mem) (a0 : Nat) (a1 : Nat) (x2 : Int32) {H : Heap} {locs : List Loc} {ls : Array Slot} (ha0 : 58 ≤ a0 ∧ a0 < 62) (ha1 : 58 ≤ a1 ∧ a1 < 62) (w : Wd G s M H locs) (hl : lv_has ls 3 [(0, .ref (ga G a0)), (1, .ref (ga G a1)), (2, .int x2)]) (h : lp_X6_copies_2 post n M a0 a1 x2), W p l e (rmk 1) s m args below meth c H locs 0 0 (MQ below (va_Qv post (Qw G) (Af G s.heap.size)) args s 0 0 (Af G s.heap.size)) (F0 m 2 ls []) := by
  have hx := C.1.1
  have hb := C.1.2.1
  intro n9
  induction n9 with
  | zero => intro M a0 a1 x2 H locs ls ha0 ha1 w hl h; exact absurd h id
  | succ n9 ih9 =>
    intro M a0 a1 x2 H locs ls ha0 ha1 w hl h
    have hk2 : ∀ (M : Mem) (a0 : Nat) (a1 : Nat) (x2 : Int32) (H : Heap) (locs : List Loc) (ls : Array Slot), (58 ≤ a0 ∧ a0 < 62) → (58 ≤ a1 ∧ a1 < 62) → Wd G s M H locs → lv_has ls 3 [(0, .ref (ga G a0)), (1, .ref (ga G a1)), (2, .int x2)] → lp_X6_copies_2 post n9 M a0 a1 x2 → W p l e (rmk 1) s m args below meth c H locs 0 0 (MQ below (va_Qv post (Qw G) (Af G s.heap.size)) args s 0 0 (Af G s.heap.size)) (F0 m 2 ls []) := fun M a0 a1 x2 H locs ls ha0 ha1 w hl h => ih9 M a0 a1 x2 ha0 ha1 w hl h
    replace h : b_X6_copies_2 (lp_X6_copies_2 post n9) post M a0 a1 x2 := h
    unfold b_X6_copies_2 at h
    refine lv_iload_n hx hb dX6_copies_2 rfl (lv_at hl 2 rfl) ?_
    refine lv_bipush (v := 54) hx hb dX6_copies_3 (by decide) ?_
    refine lv_icmp_ge (tgt := 20) hx hb dX6_copies_5 (by decide) (fun c1 => ?_) (fun c1 => ?_)
    · replace h := h.1 c1
      exact ret_v C w h dX6_copies_20
    replace h := h.2 c1
    refine lv_aload_n hx hb dX6_copies_8 rfl (lv_at hl 1 rfl) ?_
    refine lv_iload_n hx hb dX6_copies_9 rfl (lv_at hl 2 rfl) ?_
    refine lv_aload_n hx hb dX6_copies_10 rfl (lv_at hl 0 rfl) ?_
    refine lv_iload_n hx hb dX6_copies_11 rfl (lv_at hl 2 rfl) ?_
    have hin2 := h.1
    replace h := h.2
    have hz_hin2 := in_lt hin2
    refine pw_ld C w (i := a0) (by omega) (pE_54 ha0) hin2 rfl dX6_copies_12 ?_
    refine pw_st C w (i := a1) (by omega) (fun _ => (pE_54 ha1)) hin2 rfl dX6_copies_13 (fun H locs w => ?_)
    obtain ⟨M3, eM3⟩ : ∃ z : Mem, z = (mup M a1 x2.toNatClampNeg (M a0 x2.toNatClampNeg)) := ⟨_, rfl⟩
    replace w : Wd G s M3 H locs := by rw [eM3]; exact w
    replace h := h M3 eM3
    refine lv_iinc (v := (x2 + (1 : Int32))) (lv' := [(2, .int (x2 + (1 : Int32))), (0, .ref (ga G a0)), (1, .ref (ga G a1))]) hx hb dX6_copies_14 hl (k := 2) rfl rfl (by decide) rfl (fun ls hl => ?_)
    refine lv_goto (tgt := 2) hx hb dX6_copies_17 (by decide) ?_
    exact hk2 M3 a0 a1 (x2 + (1 : Int32)) _ _ _ ha0 ha1 w (lv_sub hl [1, 2, 0] rfl) h
set_option maxHeartbeats 4000000 in
set_option maxRecDepth 100000 in
theorem c_X6_copies (l : Launch) (G : GG) (hG : Ag G) (sz : Nat) (M : Mem) (a0 : Nat) (a1 : Nat) (ha0 : 58 ≤ a0 ∧ a0 < 62) (ha1 : 58 ≤ a1 ∧ a1 < 62) (post : Mem → Prop) (h : q_X6_copies M a0 a1 post) : Met l yX6_copies (Cond.code yX6_copies cX6_copies 3 none :: wsL_law) (rmk 1) (va_Pc [.ref (ga G a0), .ref (ga G a1)] (Pw G sz M)) (va_Qv post (Qw G) (Af G sz)) 0 0 (Af G sz) := by
  refine Met.ofW (cc := cX6_copies) (maxL := 3) (ret := none) (by decide) rfl ?_
  intro p e s m args below meth c s₁ B hml hv
  obtain ⟨rfl, hsz, hE, hP⟩ := hv
  subst hsz
  have C := Cx.of (own := RX6) hG hE rfl hml B
  have w : Wd G s M s.heap [] := ⟨hP, va_S.rf⟩
  have hl := lv_entry [.ref (ga G a0), .ref (ga G a1)] (n := 3) (Nat.le_of_ble_eq_true rfl)
  rw [lg_entry_eq]
  generalize (lg_sl [.ref (ga G a0), .ref (ga G a1)] ++ List.replicate (3 - (lg_sl [.ref (ga G a0), .ref (ga G a1)]).length) Slot.unset).toArray = ls at hl ⊢
  have hl : lv_has ls 3 [(0, .ref (ga G a0)), (1, .ref (ga G a1))] := hl
  have hx := C.1.1
  have hb := C.1.2.1
  show W p l e (rmk 1) s m _ below meth c s.heap [] 0 0 _ _
  unfold q_X6_copies at h
  refine lv_iconst (v := 0) hx hb dX6_copies_0 (by decide) ?_
  refine lv_istore_n (lv' := [(2, .int (0 : Int32)), (0, .ref (ga G a0)), (1, .ref (ga G a1))]) hx hb dX6_copies_1 rfl hl (by decide) rfl (fun ls hl => ?_)
  obtain ⟨n, h⟩ := h
  exact t_X6_copies_2 C n M a0 a1 (0 : Int32) ha0 ha1 w (lv_sub hl [1, 2, 0] rfl) h
def j_X6_here_31 (post : Int32 → Mem → Prop) (M : Mem) (y0 : Int32) : Prop := post y0 M
def q_X6_here (M : Mem) (post : Int32 → Mem → Prop) : Prop := ((M 57 14) ≤ (M 57 12) → (j_X6_here_31 post M (-1000 : Int32))) ∧ (¬ ((M 57 14) ≤ (M 57 12)) → (vp_in ((M 57 13) + (M 57 12)) 800 ∧ (j_X6_here_31 post M (M 65 ((M 57 13) + (M 57 12)).toNatClampNeg))))
set_option maxHeartbeats 4000000 in
set_option maxRecDepth 100000 in
theorem t_X6_here_31 (C : Cx G p s m args meth c RX6 cX6_here 1 (some .int)) {post : Int32 → Mem → Prop} (M : Mem) (y0 : Int32) {H : Heap} {locs : List Loc} {ls : Array Slot} (w : Wd G s M H locs) (hl : lv_has ls 1 []) (h : j_X6_here_31 post M y0) : W p l e (rmk 1) s m args below meth c H locs 0 0 (MQ below (va_Qi post (Qw G) (Af G s.heap.size)) args s 0 0 (Af G s.heap.size)) (F0 m 31 ls [.int y0]) := by
  have hx := C.1.1
  have hb := C.1.2.1
  unfold j_X6_here_31 at h
  exact ret_i C w h dX6_here_31
set_option maxHeartbeats 4000000 in
set_option maxRecDepth 100000 in
theorem c_X6_here (l : Launch) (G : GG) (hG : Ag G) (sz : Nat) (M : Mem) (post : Int32 → Mem → Prop) (h : q_X6_here M post) : Met l yX6_here (Cond.code yX6_here cX6_here 1 (some .int) :: wsL_law) (rmk 1) (va_Pc [.ref (ga G 57)] (Pw G sz M)) (va_Qi post (Qw G) (Af G sz)) 0 0 (Af G sz) := by
  refine Met.ofW (cc := cX6_here) (maxL := 1) (ret := (some .int)) (by decide) rfl ?_
  intro p e s m args below meth c s₁ B hml hv
  obtain ⟨rfl, hsz, hE, hP⟩ := hv
  subst hsz
  have C := Cx.of (own := RX6) hG hE rfl hml B
  have w : Wd G s M s.heap [] := ⟨hP, va_S.rf⟩
  have hl := lv_entry [.ref (ga G 57)] (n := 1) (Nat.le_of_ble_eq_true rfl)
  rw [lg_entry_eq]
  generalize (lg_sl [.ref (ga G 57)] ++ List.replicate (1 - (lg_sl [.ref (ga G 57)]).length) Slot.unset).toArray = ls at hl ⊢
  have hl : lv_has ls 1 [(0, .ref (ga G 57))] := hl
  have hx := C.1.1
  have hb := C.1.2.1
  show W p l e (rmk 1) s m _ below meth c s.heap [] 0 0 _ _
  unfold q_X6_here at h
  refine lv_aload_n hx hb dX6_here_0 rfl (lv_at hl 0 rfl) ?_
  refine gt_6_12 C w kw_11_18 dX6_here_1 ?_
  refine lv_aload_n hx hb dX6_here_4 rfl (lv_at hl 0 rfl) ?_
  refine gt_6_14 C w kw_11_17 dX6_here_5 ?_
  refine lv_icmp_ge (tgt := 28) hx hb dX6_here_8 (by decide) (fun c1 => ?_) (fun c1 => ?_)
  · replace h := h.1 c1
    refine lv_sipush (v := -1000) hx hb dX6_here_28 (by decide) ?_
    exact t_X6_here_31 C M (-1000 : Int32)  w (lv_sub hl [] rfl) h
  replace h := h.2 c1
  refine lv_aload_n hx hb dX6_here_11 rfl (lv_at hl 0 rfl) ?_
  refine gt_6_7 C w kw_5_7 dX6_here_12 ?_
  refine lv_aload_n hx hb dX6_here_15 rfl (lv_at hl 0 rfl) ?_
  refine gt_6_13 C w kw_11_16 dX6_here_16 ?_
  refine lv_aload_n hx hb dX6_here_19 rfl (lv_at hl 0 rfl) ?_
  refine gt_6_12 C w kw_11_18 dX6_here_20 ?_
  refine lv_iadd hx hb dX6_here_23 ?_
  have hin2 := h.1
  replace h := h.2
  have hz_hin2 := in_lt hin2
  refine pw_ld C w (i := 65) (by decide) pE_65 hin2 rfl dX6_here_24 ?_
  refine lv_goto (tgt := 31) hx hb dX6_here_25 (by decide) ?_
  exact t_X6_here_31 C M (M 65 ((M 57 13) + (M 57 12)).toNatClampNeg)  w (lv_sub hl [] rfl) h
def q_X6_isDigit (M : Mem) (post : Int32 → Mem → Prop) : Prop := q_X6_here M  (fun r1 M2 => q_X6_isIn M2 r1.toInt64 (48 : Int64) (57 : Int64) (fun r3 M4 => (r3 = 0 ∨ r3 = 1) ∧ post r3 M4))
set_option maxHeartbeats 4000000 in
set_option maxRecDepth 100000 in
theorem c_X6_isDigit (l : Launch) (G : GG) (hG : Ag G) (sz : Nat) (M : Mem) (post : Int32 → Mem → Prop) (h : q_X6_isDigit M post) : Met l yX6_isDigit (Cond.code yX6_isDigit cX6_isDigit 1 (some .boolean) :: wsL_law) (rmk 2) (va_Pc [.ref (ga G 57)] (Pw G sz M)) (va_Qi post (Qw G) (Af G sz)) 0 0 (Af G sz) := by
  refine Met.ofW (cc := cX6_isDigit) (maxL := 1) (ret := (some .boolean)) (by decide) rfl ?_
  intro p e s m args below meth c s₁ B hml hv
  obtain ⟨rfl, hsz, hE, hP⟩ := hv
  subst hsz
  have C := Cx.of (own := RX6) hG hE rfl hml B
  have w : Wd G s M s.heap [] := ⟨hP, va_S.rf⟩
  have hl := lv_entry [.ref (ga G 57)] (n := 1) (Nat.le_of_ble_eq_true rfl)
  rw [lg_entry_eq]
  generalize (lg_sl [.ref (ga G 57)] ++ List.replicate (1 - (lg_sl [.ref (ga G 57)]).length) Slot.unset).toArray = ls at hl ⊢
  have hl : lv_has ls 1 [(0, .ref (ga G 57))] := hl
  have hx := C.1.1
  have hb := C.1.2.1
  show W p l e (rmk 2) s m _ below meth c s.heap [] 0 0 _ _
  unfold q_X6_isDigit at h
  refine lv_aload_n hx hb dX6_isDigit_0 rfl (lv_at hl 0 rfl) ?_
  refine end_i w (run_V (As := []) C w hl.1 (c_X6_here l G C.2.2.1 _ _   _ h) kw_12_15 kw_1_5 kw_12_12 kw_12_13 kw_12_14 hd_X6_here ⟨by decide, by decide⟩ (w.recv C (i := 57) (by decide) (pE_6) rfl) rfl (Nat.le_of_ble_eq_true rfl) dX6_isDigit_1) (fun r1 M2 H locs h w => ?_)
  refine lv_i2l hx hb dX6_isDigit_4 rfl ?_
  refine lv_ldc2 hx hb C.1.2.2.2.1 (C.ws kw_13_0) dX6_isDigit_5 ?_
  refine lv_ldc2 hx hb C.1.2.2.2.1 (C.ws kw_13_1) dX6_isDigit_8 ?_
  refine end_i w (run_S (As := [.long r1.toInt64, .long (48 : Int64), .long (57 : Int64)]) C w hl.1 (c_X6_isIn l G C.2.2.1 _ _ r1.toInt64 (48 : Int64) (57 : Int64)  _ h) kw_12_5 kw_1_5 kw_12_3 kw_12_4 hd_X6_isIn ⟨by decide, by decide⟩ rfl (Nat.le_of_ble_eq_true rfl) dX6_isDigit_11) (fun r3 M4 H locs h w => ?_)
  exact ret_z C w h dX6_isDigit_14
def j_X6_readsNumber_74 (post : Int32 → Mem → Prop) (M : Mem) (x2 : Int32) : Prop := vp_in (M 57 15) 3 ∧ (∀ M2 : Mem, M2 = (mup M 68 (M 57 15).toNatClampNeg x2) → (∀ M3 : Mem, M3 = (mup M2 57 15 ((M2 57 15) + (1 : Int32))) → (post (1 : Int32) M3)))
def b_X6_readsNumber_29 (k29 : Mem → Int32 → Int32 → Int32 → Prop) (post : Int32 → Mem → Prop) (M : Mem) (x1 : Int32) (x2 : Int32) (x3 : Int32) : Prop := (x1 ≤ x3 → (j_X6_readsNumber_74 post M x2)) ∧ (¬ (x1 ≤ x3) → ((x2 ≤ 0 → (j_X6_readsNumber_74 post M x2)) ∧ (¬ (x2 ≤ 0) → (q_X6_isDigit M  (fun r6 M7 => (r6 = 0 → (j_X6_readsNumber_74 post M7 x2)) ∧ (¬ (r6 = 0) → (q_X6_here M7  (fun r9 M10 => ∀ v11 : Int32, v11 = ((((10 : Int32) * x2) + r9) - (48 : Int32)) → (∀ M12 : Mem, M12 = (mup M10 57 12 ((M10 57 12) + (1 : Int32))) → (k29 M12 x1 v11 (x3 + (1 : Int32))))))))))))
def lp_X6_readsNumber_29 (post : Int32 → Mem → Prop) : Nat → Mem → Int32 → Int32 → Int32 → Prop
  | 0 => fun _ _ _ _ => False
  | n + 1 => fun M x1 x2 x3 => b_X6_readsNumber_29 (lp_X6_readsNumber_29 post n) post M x1 x2 x3
def q_X6_readsNumber (M : Mem) (x1 : Int32) (post : Int32 → Mem → Prop) : Prop := q_X6_isDigit M  (fun r13 M14 => (r13 = 0 → (post (0 : Int32) M14)) ∧ (¬ (r13 = 0) → (q_X6_here M14  (fun r16 M17 => ∀ M18 : Mem, M18 = (mup M17 57 12 ((M17 57 12) + (1 : Int32))) → (∃ n, lp_X6_readsNumber_29 post n M18 x1 (r16 - (48 : Int32)) (1 : Int32))))))
set_option maxHeartbeats 4000000 in
set_option maxRecDepth 100000 in
theorem t_X6_readsNumber_74 (C : Cx G p s m args meth c RX6 cX6_readsNumber 4 (some .boolean)) {post : Int32 → Mem → Prop} (M : Mem) (x2 : Int32) {H : Heap} {locs : List Loc} {ls : Array Slot} (w : Wd G s M H locs) (hl : lv_has ls 4 [(0, .ref (ga G 57)), (2, .int x2)]) (h : j_X6_readsNumber_74 post M x2) : W p l e (rmk 3) s m args below meth c H locs 0 0 (MQ below (va_Qi post (Qw G) (Af G s.heap.size)) args s 0 0 (Af G s.heap.size)) (F0 m 74 ls []) := by
  have hx := C.1.1
  have hb := C.1.2.1
  unfold j_X6_readsNumber_74 at h
  refine lv_aload_n hx hb dX6_readsNumber_74 rfl (lv_at hl 0 rfl) ?_
  refine gt_6_17 C w kw_5_10 dX6_readsNumber_75 ?_
  refine lv_aload_n hx hb dX6_readsNumber_78 rfl (lv_at hl 0 rfl) ?_
  refine gt_6_15 C w kw_12_10 dX6_readsNumber_79 ?_
  refine lv_iload_n hx hb dX6_readsNumber_82 rfl (lv_at hl 1 rfl) ?_
  have hin1 := h.1
  replace h := h.2
  have hz_hin1 := in_lt hin1
  refine pw_st C w (i := 68) (by decide) (fun _ => pE_68) hin1 rfl dX6_readsNumber_83 (fun H locs w => ?_)
  obtain ⟨M2, eM2⟩ : ∃ z : Mem, z = (mup M 68 (M 57 15).toNatClampNeg x2) := ⟨_, rfl⟩
  replace w : Wd G s M2 H locs := by rw [eM2]; exact w
  replace h := h M2 eM2
  refine lv_aload_n hx hb dX6_readsNumber_84 rfl (lv_at hl 0 rfl) ?_
  refine lv_dup hx hb dX6_readsNumber_85 rfl ?_
  refine gt_6_15 C w kw_12_10 dX6_readsNumber_86 ?_
  refine lv_iconst (v := 1) hx hb dX6_readsNumber_89 (by decide) ?_
  refine lv_iadd hx hb dX6_readsNumber_90 ?_
  refine pt_6_15 C w kw_12_10 dX6_readsNumber_91 (fun H locs w => ?_)
  obtain ⟨M3, eM3⟩ : ∃ z : Mem, z = (mup M2 57 15 ((M2 57 15) + (1 : Int32))) := ⟨_, rfl⟩
  replace w : Wd G s M3 H locs := by rw [eM3]; exact w
  replace h := h M3 eM3
  refine lv_iconst (v := 1) hx hb dX6_readsNumber_94 (by decide) ?_
  exact ret_z C w ⟨Or.inr rfl, h⟩ dX6_readsNumber_95
set_option maxHeartbeats 4000000 in
set_option maxRecDepth 100000 in
theorem t_X6_readsNumber_29 (C : Cx G p s m args meth c RX6 cX6_readsNumber 4 (some .boolean)) {post : Int32 → Mem → Prop} : ∀ (n : Nat) (M : Mem) (x1 : Int32) (x2 : Int32) (x3 : Int32) {H : Heap} {locs : List Loc} {ls : Array Slot} (w : Wd G s M H locs) (hl : lv_has ls 4 [(0, .ref (ga G 57)), (1, .int x1), (2, .int x2), (3, .int x3)]) (h : lp_X6_readsNumber_29 post n M x1 x2 x3), W p l e (rmk 3) s m args below meth c H locs 0 0 (MQ below (va_Qi post (Qw G) (Af G s.heap.size)) args s 0 0 (Af G s.heap.size)) (F0 m 29 ls []) := by
  have hx := C.1.1
  have hb := C.1.2.1
  intro n9
  induction n9 with
  | zero => intro M x1 x2 x3 H locs ls w hl h; exact absurd h id
  | succ n9 ih9 =>
    intro M x1 x2 x3 H locs ls w hl h
    have hk29 : ∀ (M : Mem) (x1 : Int32) (x2 : Int32) (x3 : Int32) (H : Heap) (locs : List Loc) (ls : Array Slot), Wd G s M H locs → lv_has ls 4 [(0, .ref (ga G 57)), (1, .int x1), (2, .int x2), (3, .int x3)] → lp_X6_readsNumber_29 post n9 M x1 x2 x3 → W p l e (rmk 3) s m args below meth c H locs 0 0 (MQ below (va_Qi post (Qw G) (Af G s.heap.size)) args s 0 0 (Af G s.heap.size)) (F0 m 29 ls []) := fun M x1 x2 x3 H locs ls w hl h => ih9 M x1 x2 x3 w hl h
    replace h : b_X6_readsNumber_29 (lp_X6_readsNumber_29 post n9) post M x1 x2 x3 := h
    unfold b_X6_readsNumber_29 at h
    refine lv_iload_n hx hb dX6_readsNumber_29 rfl (lv_at hl 3 rfl) ?_
    refine lv_iload_n hx hb dX6_readsNumber_30 rfl (lv_at hl 1 rfl) ?_
    refine lv_icmp_ge (tgt := 74) hx hb dX6_readsNumber_31 (by decide) (fun c4 => ?_) (fun c4 => ?_)
    · replace h := h.1 c4
      exact t_X6_readsNumber_74 C M x2  w (lv_sub hl [0, 2] rfl) h
    replace h := h.2 c4
    refine lv_iload_n hx hb dX6_readsNumber_34 rfl (lv_at hl 2 rfl) ?_
    refine lv_if_le (tgt := 74) hx hb dX6_readsNumber_35 (by decide) (fun c5 => ?_) (fun c5 => ?_)
    · replace h := h.1 c5
      exact t_X6_readsNumber_74 C M x2  w (lv_sub hl [0, 2] rfl) h
    replace h := h.2 c5
    refine lv_aload_n hx hb dX6_readsNumber_38 rfl (lv_at hl 0 rfl) ?_
    refine end_i w (run_V (As := []) C w hl.1 (c_X6_isDigit l G C.2.2.1 _ _   _ h) kw_12_23 kw_1_5 kw_12_20 kw_12_21 kw_12_22 hd_X6_isDigit ⟨by decide, by decide⟩ (w.recv C (i := 57) (by decide) (pE_6) rfl) rfl (Nat.le_of_ble_eq_true rfl) dX6_readsNumber_39) (fun r6 M7 H locs h w => ?_)
    refine lv_if_eq (tgt := 74) hx hb dX6_readsNumber_42 (by decide) (fun c8 => ?_) (fun c8 => ?_)
    · replace h := h.1 c8
      exact t_X6_readsNumber_74 C M7 x2  w (lv_sub hl [0, 2] rfl) h
    replace h := h.2 c8
    refine lv_bipush (v := 10) hx hb dX6_readsNumber_45 (by decide) ?_
    refine lv_iload_n hx hb dX6_readsNumber_47 rfl (lv_at hl 2 rfl) ?_
    refine lv_imul hx hb dX6_readsNumber_48 ?_
    refine lv_aload_n hx hb dX6_readsNumber_49 rfl (lv_at hl 0 rfl) ?_
    refine end_i w (run_V (As := []) C w hl.1 (c_X6_here l G C.2.2.1 _ _   _ h) kw_12_15 kw_1_5 kw_12_12 kw_12_13 kw_12_14 hd_X6_here ⟨by decide, by decide⟩ (w.recv C (i := 57) (by decide) (pE_6) rfl) rfl (Nat.le_of_ble_eq_true rfl) dX6_readsNumber_50) (fun r9 M10 H locs h w => ?_)
    refine lv_iadd hx hb dX6_readsNumber_53 ?_
    refine lv_bipush (v := 48) hx hb dX6_readsNumber_54 (by decide) ?_
    refine lv_isub hx hb dX6_readsNumber_56 ?_
    refine lv_topi (fun v11 ev11 => ?_)
    replace h := h v11 ev11
    refine lv_istore_n (lv' := [(2, .int v11), (0, .ref (ga G 57)), (1, .int x1), (3, .int x3)]) hx hb dX6_readsNumber_57 rfl hl (by decide) rfl (fun ls hl => ?_)
    refine lv_aload_n hx hb dX6_readsNumber_58 rfl (lv_at hl 1 rfl) ?_
    refine lv_dup hx hb dX6_readsNumber_59 rfl ?_
    refine gt_6_12 C w kw_11_18 dX6_readsNumber_60 ?_
    refine lv_iconst (v := 1) hx hb dX6_readsNumber_63 (by decide) ?_
    refine lv_iadd hx hb dX6_readsNumber_64 ?_
    refine pt_6_12 C w kw_11_18 dX6_readsNumber_65 (fun H locs w => ?_)
    obtain ⟨M12, eM12⟩ : ∃ z : Mem, z = (mup M10 57 12 ((M10 57 12) + (1 : Int32))) := ⟨_, rfl⟩
    replace w : Wd G s M12 H locs := by rw [eM12]; exact w
    replace h := h M12 eM12
    refine lv_iinc (v := (x3 + (1 : Int32))) (lv' := [(3, .int (x3 + (1 : Int32))), (2, .int v11), (0, .ref (ga G 57)), (1, .int x1)]) hx hb dX6_readsNumber_68 hl (k := 3) rfl rfl (by decide) rfl (fun ls hl => ?_)
    refine lv_goto (tgt := 29) hx hb dX6_readsNumber_71 (by decide) ?_
    exact hk29 M12 x1 v11 (x3 + (1 : Int32)) _ _ _  w (lv_sub hl [2, 3, 1, 0] rfl) h
set_option maxHeartbeats 4000000 in
set_option maxRecDepth 100000 in
theorem c_X6_readsNumber (l : Launch) (G : GG) (hG : Ag G) (sz : Nat) (M : Mem) (x1 : Int32) (post : Int32 → Mem → Prop) (h : q_X6_readsNumber M x1 post) : Met l yX6_readsNumber (Cond.code yX6_readsNumber cX6_readsNumber 4 (some .boolean) :: wsL_law) (rmk 3) (va_Pc [.ref (ga G 57), .int x1] (Pw G sz M)) (va_Qi post (Qw G) (Af G sz)) 0 0 (Af G sz) := by
  refine Met.ofW (cc := cX6_readsNumber) (maxL := 4) (ret := (some .boolean)) (by decide) rfl ?_
  intro p e s m args below meth c s₁ B hml hv
  obtain ⟨rfl, hsz, hE, hP⟩ := hv
  subst hsz
  have C := Cx.of (own := RX6) hG hE rfl hml B
  have w : Wd G s M s.heap [] := ⟨hP, va_S.rf⟩
  have hl := lv_entry [.ref (ga G 57), .int x1] (n := 4) (Nat.le_of_ble_eq_true rfl)
  rw [lg_entry_eq]
  generalize (lg_sl [.ref (ga G 57), .int x1] ++ List.replicate (4 - (lg_sl [.ref (ga G 57), .int x1]).length) Slot.unset).toArray = ls at hl ⊢
  have hl : lv_has ls 4 [(0, .ref (ga G 57)), (1, .int x1)] := hl
  have hx := C.1.1
  have hb := C.1.2.1
  show W p l e (rmk 3) s m _ below meth c s.heap [] 0 0 _ _
  unfold q_X6_readsNumber at h
  refine lv_aload_n hx hb dX6_readsNumber_0 rfl (lv_at hl 0 rfl) ?_
  refine end_i w (run_V (As := []) C w hl.1 (c_X6_isDigit l G C.2.2.1 _ _   _ h) kw_12_23 kw_1_5 kw_12_20 kw_12_21 kw_12_22 hd_X6_isDigit ⟨by decide, by decide⟩ (w.recv C (i := 57) (by decide) (pE_6) rfl) rfl (Nat.le_of_ble_eq_true rfl) dX6_readsNumber_1) (fun r13 M14 H locs h w => ?_)
  refine lv_if_ne (tgt := 9) hx hb dX6_readsNumber_4 (by decide) (fun c15 => ?_) (fun c15 => ?_)
  · replace h := h.2 c15
    refine lv_aload_n hx hb dX6_readsNumber_9 rfl (lv_at hl 0 rfl) ?_
    refine end_i w (run_V (As := []) C w hl.1 (c_X6_here l G C.2.2.1 _ _   _ h) kw_12_15 kw_1_5 kw_12_12 kw_12_13 kw_12_14 hd_X6_here ⟨by decide, by decide⟩ (w.recv C (i := 57) (by decide) (pE_6) rfl) rfl (Nat.le_of_ble_eq_true rfl) dX6_readsNumber_10) (fun r16 M17 H locs h w => ?_)
    refine lv_bipush (v := 48) hx hb dX6_readsNumber_13 (by decide) ?_
    refine lv_isub hx hb dX6_readsNumber_15 ?_
    refine lv_istore_n (lv' := [(2, .int (r16 - (48 : Int32))), (0, .ref (ga G 57)), (1, .int x1)]) hx hb dX6_readsNumber_16 rfl hl (by decide) rfl (fun ls hl => ?_)
    refine lv_aload_n hx hb dX6_readsNumber_17 rfl (lv_at hl 1 rfl) ?_
    refine lv_dup hx hb dX6_readsNumber_18 rfl ?_
    refine gt_6_12 C w kw_11_18 dX6_readsNumber_19 ?_
    refine lv_iconst (v := 1) hx hb dX6_readsNumber_22 (by decide) ?_
    refine lv_iadd hx hb dX6_readsNumber_23 ?_
    refine pt_6_12 C w kw_11_18 dX6_readsNumber_24 (fun H locs w => ?_)
    obtain ⟨M18, eM18⟩ : ∃ z : Mem, z = (mup M17 57 12 ((M17 57 12) + (1 : Int32))) := ⟨_, rfl⟩
    replace w : Wd G s M18 H locs := by rw [eM18]; exact w
    replace h := h M18 eM18
    refine lv_iconst (v := 1) hx hb dX6_readsNumber_27 (by decide) ?_
    refine lv_istore_n (lv' := [(3, .int (1 : Int32)), (2, .int (r16 - (48 : Int32))), (0, .ref (ga G 57)), (1, .int x1)]) hx hb dX6_readsNumber_28 rfl hl (by decide) rfl (fun ls hl => ?_)
    obtain ⟨n, h⟩ := h
    exact t_X6_readsNumber_29 C n M18 x1 (r16 - (48 : Int32)) (1 : Int32)  w (lv_sub hl [2, 3, 1, 0] rfl) h
  replace h := h.1 c15
  refine lv_iconst (v := 0) hx hb dX6_readsNumber_7 (by decide) ?_
  exact ret_z C w ⟨Or.inl rfl, h⟩ dX6_readsNumber_8
end WALK
