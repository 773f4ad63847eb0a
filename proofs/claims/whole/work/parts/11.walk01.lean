theorem dJ0_length_8abf5_0 : decode cJ0_length_8abf5 0 = .ok (.aload_n 0, 1) := by decide +kernel
theorem dJ0_length_8abf5_1 : decode cJ0_length_8abf5 1 = .ok (.getfield 9, 3) := by decide +kernel
theorem dJ0_length_8abf5_4 : decode cJ0_length_8abf5 4 = .ok (.arraylength, 1) := by decide +kernel
theorem dJ0_length_8abf5_5 : decode cJ0_length_8abf5 5 = .ok (.aload_n 0, 1) := by decide +kernel
theorem dJ0_length_8abf5_6 : decode cJ0_length_8abf5 6 = .ok (.invokevirtual 335, 3) := by decide +kernel
theorem dJ0_length_8abf5_9 : decode cJ0_length_8abf5 9 = .ok (.ishr, 1) := by decide +kernel
theorem dJ0_length_8abf5_10 : decode cJ0_length_8abf5 10 = .ok (.ireturn, 1) := by decide +kernel
theorem dX2_isDigit_0 : decode cX2_isDigit 0 = .ok (.iload_n 0, 1) := by decide +kernel
theorem dX2_isDigit_1 : decode cX2_isDigit 1 = .ok (.bipush 48, 2) := by decide +kernel
theorem dX2_isDigit_3 : decode cX2_isDigit 3 = .ok (.bipush 57, 2) := by decide +kernel
theorem dX2_isDigit_5 : decode cX2_isDigit 5 = .ok (.invokestatic 86, 3) := by decide +kernel
theorem dX2_isDigit_8 : decode cX2_isDigit 8 = .ok (.ireturn, 1) := by decide +kernel
theorem dX2_take_0 : decode cX2_take 0 = .ok (.aload_n 0, 1) := by decide +kernel
theorem dX2_take_1 : decode cX2_take 1 = .ok (.getfield 19, 3) := by decide +kernel
theorem dX2_take_4 : decode cX2_take 4 = .ok (.aload_n 0, 1) := by decide +kernel
theorem dX2_take_5 : decode cX2_take 5 = .ok (.getfield 15, 3) := by decide +kernel
theorem dX2_take_8 : decode cX2_take 8 = .ok (.arraylength, 1) := by decide +kernel
theorem dX2_take_9 : decode cX2_take 9 = .ok (.if_icmp .lt 5, 3) := by decide +kernel
theorem dX2_take_12 : decode cX2_take 12 = .ok (.iconst 0, 1) := by decide +kernel
theorem dX2_take_13 : decode cX2_take 13 = .ok (.ireturn, 1) := by decide +kernel
theorem dX2_take_14 : decode cX2_take 14 = .ok (.aload_n 0, 1) := by decide +kernel
theorem dX2_take_15 : decode cX2_take 15 = .ok (.getfield 15, 3) := by decide +kernel
theorem dX2_take_18 : decode cX2_take 18 = .ok (.aload_n 0, 1) := by decide +kernel
theorem dX2_take_19 : decode cX2_take 19 = .ok (.getfield 19, 3) := by decide +kernel
theorem dX2_take_22 : decode cX2_take 22 = .ok (.iload_n 1, 1) := by decide +kernel
theorem dX2_take_23 : decode cX2_take 23 = .ok (.iastore, 1) := by decide +kernel
theorem dX2_take_24 : decode cX2_take 24 = .ok (.aload_n 0, 1) := by decide +kernel
theorem dX2_take_25 : decode cX2_take 25 = .ok (.dup, 1) := by decide +kernel
theorem dX2_take_26 : decode cX2_take 26 = .ok (.getfield 19, 3) := by decide +kernel
theorem dX2_take_29 : decode cX2_take 29 = .ok (.iconst 1, 1) := by decide +kernel
theorem dX2_take_30 : decode cX2_take 30 = .ok (.iadd, 1) := by decide +kernel
theorem dX2_take_31 : decode cX2_take 31 = .ok (.putfield 19, 3) := by decide +kernel
theorem dX2_take_34 : decode cX2_take 34 = .ok (.aload_n 0, 1) := by decide +kernel
theorem dX2_take_35 : decode cX2_take 35 = .ok (.dup, 1) := by decide +kernel
theorem dX2_take_36 : decode cX2_take 36 = .ok (.getfield 9, 3) := by decide +kernel
theorem dX2_take_39 : decode cX2_take 39 = .ok (.iload_n 2, 1) := by decide +kernel
theorem dX2_take_40 : decode cX2_take 40 = .ok (.iadd, 1) := by decide +kernel
theorem dX2_take_41 : decode cX2_take 41 = .ok (.putfield 9, 3) := by decide +kernel
theorem dX2_take_44 : decode cX2_take 44 = .ok (.iconst 1, 1) := by decide +kernel
theorem dX2_take_45 : decode cX2_take 45 = .ok (.ireturn, 1) := by decide +kernel
theorem dX3_hasPlace_0 : decode cX3_hasPlace 0 = .ok (.aload_n 0, 1) := by decide +kernel
theorem dX3_hasPlace_1 : decode cX3_hasPlace 1 = .ok (.getfield 11, 3) := by decide +kernel
theorem dX3_hasPlace_4 : decode cX3_hasPlace 4 = .ok (.iconst 2, 1) := by decide +kernel
theorem dX3_hasPlace_5 : decode cX3_hasPlace 5 = .ok (.if_icmp .ne 19, 3) := by decide +kernel
theorem dX3_hasPlace_8 : decode cX3_hasPlace 8 = .ok (.iload_n 1, 1) := by decide +kernel
theorem dX3_hasPlace_9 : decode cX3_hasPlace 9 = .ok (.ifCond .lt 15, 3) := by decide +kernel
theorem dX3_hasPlace_12 : decode cX3_hasPlace 12 = .ok (.iload_n 1, 1) := by decide +kernel
theorem dX3_hasPlace_13 : decode cX3_hasPlace 13 = .ok (.aload_n 0, 1) := by decide +kernel
theorem dX3_hasPlace_14 : decode cX3_hasPlace 14 = .ok (.getfield 25, 3) := by decide +kernel
theorem dX3_hasPlace_17 : decode cX3_hasPlace 17 = .ok (.if_icmp .ge 7, 3) := by decide +kernel
theorem dX3_hasPlace_20 : decode cX3_hasPlace 20 = .ok (.iconst 1, 1) := by decide +kernel
theorem dX3_hasPlace_21 : decode cX3_hasPlace 21 = .ok (.goto 4, 3) := by decide +kernel
theorem dX3_hasPlace_24 : decode cX3_hasPlace 24 = .ok (.iconst 0, 1) := by decide +kernel
theorem dX3_hasPlace_25 : decode cX3_hasPlace 25 = .ok (.ireturn, 1) := by decide +kernel
theorem dX3_byteAt_0 : decode cX3_byteAt 0 = .ok (.aload_n 0, 1) := by decide +kernel
theorem dX3_byteAt_1 : decode cX3_byteAt 1 = .ok (.iload_n 1, 1) := by decide +kernel
theorem dX3_byteAt_2 : decode cX3_byteAt 2 = .ok (.invokevirtual 47, 3) := by decide +kernel
theorem dX3_byteAt_5 : decode cX3_byteAt 5 = .ok (.ifCond .eq 12, 3) := by decide +kernel
theorem dX3_byteAt_8 : decode cX3_byteAt 8 = .ok (.aload_n 0, 1) := by decide +kernel
theorem dX3_byteAt_9 : decode cX3_byteAt 9 = .ok (.getfield 28, 3) := by decide +kernel
theorem dX3_byteAt_12 : decode cX3_byteAt 12 = .ok (.iload_n 1, 1) := by decide +kernel
theorem dX3_byteAt_13 : decode cX3_byteAt 13 = .ok (.iaload, 1) := by decide +kernel
theorem dX3_byteAt_14 : decode cX3_byteAt 14 = .ok (.goto 6, 3) := by decide +kernel
theorem dX3_byteAt_17 : decode cX3_byteAt 17 = .ok (.sipush 256, 3) := by decide +kernel
theorem dX3_byteAt_20 : decode cX3_byteAt 20 = .ok (.ireturn, 1) := by decide +kernel
theorem dX2_scanNumber_0 : decode cX2_scanNumber 0 = .ok (.aload_n 1, 1) := by decide +kernel
theorem dX2_scanNumber_1 : decode cX2_scanNumber 1 = .ok (.aload_n 0, 1) := by decide +kernel
theorem dX2_scanNumber_2 : decode cX2_scanNumber 2 = .ok (.getfield 9, 3) := by decide +kernel
theorem dX2_scanNumber_5 : decode cX2_scanNumber 5 = .ok (.invokevirtual 31, 3) := by decide +kernel
theorem dX2_scanNumber_8 : decode cX2_scanNumber 8 = .ok (.bipush 48, 2) := by decide +kernel
theorem dX2_scanNumber_10 : decode cX2_scanNumber 10 = .ok (.isub, 1) := by decide +kernel
theorem dX2_scanNumber_11 : decode cX2_scanNumber 11 = .ok (.istore_n 3, 1) := by decide +kernel
theorem dX2_scanNumber_12 : decode cX2_scanNumber 12 = .ok (.iconst 1, 1) := by decide +kernel
theorem dX2_scanNumber_13 : decode cX2_scanNumber 13 = .ok (.istore 4, 2) := by decide +kernel
theorem dX2_scanNumber_15 : decode cX2_scanNumber 15 = .ok (.iload 4, 2) := by decide +kernel
theorem dX2_scanNumber_17 : decode cX2_scanNumber 17 = .ok (.iload_n 2, 1) := by decide +kernel
theorem dX2_scanNumber_18 : decode cX2_scanNumber 18 = .ok (.if_icmp .ge 50, 3) := by decide +kernel
theorem dX2_scanNumber_21 : decode cX2_scanNumber 21 = .ok (.iload_n 3, 1) := by decide +kernel
theorem dX2_scanNumber_22 : decode cX2_scanNumber 22 = .ok (.ifCond .eq 46, 3) := by decide +kernel
theorem dX2_scanNumber_25 : decode cX2_scanNumber 25 = .ok (.aload_n 1, 1) := by decide +kernel
theorem dX2_scanNumber_26 : decode cX2_scanNumber 26 = .ok (.aload_n 0, 1) := by decide +kernel
theorem dX2_scanNumber_27 : decode cX2_scanNumber 27 = .ok (.getfield 9, 3) := by decide +kernel
theorem dX2_scanNumber_30 : decode cX2_scanNumber 30 = .ok (.iload 4, 2) := by decide +kernel
theorem dX2_scanNumber_32 : decode cX2_scanNumber 32 = .ok (.iadd, 1) := by decide +kernel
theorem dX2_scanNumber_33 : decode cX2_scanNumber 33 = .ok (.invokevirtual 31, 3) := by decide +kernel
theorem dX2_scanNumber_36 : decode cX2_scanNumber 36 = .ok (.invokestatic 75, 3) := by decide +kernel
theorem dX2_scanNumber_39 : decode cX2_scanNumber 39 = .ok (.ifCond .eq 29, 3) := by decide +kernel
theorem dX2_scanNumber_42 : decode cX2_scanNumber 42 = .ok (.bipush 10, 2) := by decide +kernel
theorem dX2_scanNumber_44 : decode cX2_scanNumber 44 = .ok (.iload_n 3, 1) := by decide +kernel
theorem dX2_scanNumber_45 : decode cX2_scanNumber 45 = .ok (.imul, 1) := by decide +kernel
theorem dX2_scanNumber_46 : decode cX2_scanNumber 46 = .ok (.aload_n 1, 1) := by decide +kernel
theorem dX2_scanNumber_47 : decode cX2_scanNumber 47 = .ok (.aload_n 0, 1) := by decide +kernel
theorem dX2_scanNumber_48 : decode cX2_scanNumber 48 = .ok (.getfield 9, 3) := by decide +kernel
theorem dX2_scanNumber_51 : decode cX2_scanNumber 51 = .ok (.iload 4, 2) := by decide +kernel
theorem dX2_scanNumber_53 : decode cX2_scanNumber 53 = .ok (.iadd, 1) := by decide +kernel
theorem dX2_scanNumber_54 : decode cX2_scanNumber 54 = .ok (.invokevirtual 31, 3) := by decide +kernel
theorem dX2_scanNumber_57 : decode cX2_scanNumber 57 = .ok (.iadd, 1) := by decide +kernel
theorem dX2_scanNumber_58 : decode cX2_scanNumber 58 = .ok (.bipush 48, 2) := by decide +kernel
theorem dX2_scanNumber_60 : decode cX2_scanNumber 60 = .ok (.isub, 1) := by decide +kernel
theorem dX2_scanNumber_61 : decode cX2_scanNumber 61 = .ok (.istore_n 3, 1) := by decide +kernel
theorem dX2_scanNumber_62 : decode cX2_scanNumber 62 = .ok (.iinc 4 1, 3) := by decide +kernel
theorem dX2_scanNumber_65 : decode cX2_scanNumber 65 = .ok (.goto (-50), 3) := by decide +kernel
theorem dX2_scanNumber_68 : decode cX2_scanNumber 68 = .ok (.aload_n 0, 1) := by decide +kernel
theorem dX2_scanNumber_69 : decode cX2_scanNumber 69 = .ok (.iload_n 3, 1) := by decide +kernel
theorem dX2_scanNumber_70 : decode cX2_scanNumber 70 = .ok (.iload 4, 2) := by decide +kernel
theorem dX2_scanNumber_72 : decode cX2_scanNumber 72 = .ok (.invokevirtual 82, 3) := by decide +kernel
theorem dX2_scanNumber_75 : decode cX2_scanNumber 75 = .ok (.ireturn, 1) := by decide +kernel
theorem dX2_scanPart_0 : decode cX2_scanPart 0 = .ok (.aload_n 1, 1) := by decide +kernel
theorem dX2_scanPart_1 : decode cX2_scanPart 1 = .ok (.aload_n 0, 1) := by decide +kernel
theorem dX2_scanPart_2 : decode cX2_scanPart 2 = .ok (.getfield 9, 3) := by decide +kernel
theorem dX2_scanPart_5 : decode cX2_scanPart 5 = .ok (.invokevirtual 31, 3) := by decide +kernel
theorem dX2_scanPart_8 : decode cX2_scanPart 8 = .ok (.istore_n 3, 1) := by decide +kernel
theorem dX2_scanPart_9 : decode cX2_scanPart 9 = .ok (.iload_n 2, 1) := by decide +kernel
theorem dX2_scanPart_10 : decode cX2_scanPart 10 = .ok (.lookupswitch 115 #[(68, 34), (78, 56), (83, 78)], 34) := by decide +kernel
theorem dX2_scanPart_44 : decode cX2_scanPart 44 = .ok (.iload_n 3, 1) := by decide +kernel
theorem dX2_scanPart_45 : decode cX2_scanPart 45 = .ok (.invokestatic 75, 3) := by decide +kernel
theorem dX2_scanPart_48 : decode cX2_scanPart 48 = .ok (.ifCond .eq 16, 3) := by decide +kernel
theorem dX2_scanPart_51 : decode cX2_scanPart 51 = .ok (.aload_n 0, 1) := by decide +kernel
theorem dX2_scanPart_52 : decode cX2_scanPart 52 = .ok (.aload_n 1, 1) := by decide +kernel
theorem dX2_scanPart_53 : decode cX2_scanPart 53 = .ok (.iconst 1, 1) := by decide +kernel
theorem dX2_scanPart_54 : decode cX2_scanPart 54 = .ok (.invokevirtual 79, 3) := by decide +kernel
theorem dX2_scanPart_57 : decode cX2_scanPart 57 = .ok (.ifCond .eq 7, 3) := by decide +kernel
theorem dX2_scanPart_60 : decode cX2_scanPart 60 = .ok (.iconst 1, 1) := by decide +kernel
theorem dX2_scanPart_61 : decode cX2_scanPart 61 = .ok (.goto 4, 3) := by decide +kernel
theorem dX2_scanPart_64 : decode cX2_scanPart 64 = .ok (.iconst 0, 1) := by decide +kernel
theorem dX2_scanPart_65 : decode cX2_scanPart 65 = .ok (.ireturn, 1) := by decide +kernel
theorem dX2_scanPart_66 : decode cX2_scanPart 66 = .ok (.iload_n 3, 1) := by decide +kernel
theorem dX2_scanPart_67 : decode cX2_scanPart 67 = .ok (.invokestatic 75, 3) := by decide +kernel
theorem dX2_scanPart_70 : decode cX2_scanPart 70 = .ok (.ifCond .eq 16, 3) := by decide +kernel
theorem dX2_scanPart_73 : decode cX2_scanPart 73 = .ok (.aload_n 0, 1) := by decide +kernel
theorem dX2_scanPart_74 : decode cX2_scanPart 74 = .ok (.aload_n 1, 1) := by decide +kernel
theorem dX2_scanPart_75 : decode cX2_scanPart 75 = .ok (.iconst 3, 1) := by decide +kernel
theorem dX2_scanPart_76 : decode cX2_scanPart 76 = .ok (.invokevirtual 79, 3) := by decide +kernel
theorem dX2_scanPart_79 : decode cX2_scanPart 79 = .ok (.ifCond .eq 7, 3) := by decide +kernel
theorem dX2_scanPart_82 : decode cX2_scanPart 82 = .ok (.iconst 1, 1) := by decide +kernel
theorem dX2_scanPart_83 : decode cX2_scanPart 83 = .ok (.goto 4, 3) := by decide +kernel
theorem dX2_scanPart_86 : decode cX2_scanPart 86 = .ok (.iconst 0, 1) := by decide +kernel
theorem dX2_scanPart_87 : decode cX2_scanPart 87 = .ok (.ireturn, 1) := by decide +kernel
theorem dX2_scanPart_88 : decode cX2_scanPart 88 = .ok (.iload_n 3, 1) := by decide +kernel
theorem dX2_scanPart_89 : decode cX2_scanPart 89 = .ok (.bipush 43, 2) := by decide +kernel
theorem dX2_scanPart_91 : decode cX2_scanPart 91 = .ok (.if_icmp .eq 9, 3) := by decide +kernel
theorem dX2_scanPart_94 : decode cX2_scanPart 94 = .ok (.iload_n 3, 1) := by decide +kernel
theorem dX2_scanPart_95 : decode cX2_scanPart 95 = .ok (.bipush 45, 2) := by decide +kernel
theorem dX2_scanPart_97 : decode cX2_scanPart 97 = .ok (.if_icmp .ne 26, 3) := by decide +kernel
theorem dX2_scanPart_100 : decode cX2_scanPart 100 = .ok (.aload_n 0, 1) := by decide +kernel
theorem dX2_scanPart_101 : decode cX2_scanPart 101 = .ok (.iload_n 3, 1) := by decide +kernel
theorem dX2_scanPart_102 : decode cX2_scanPart 102 = .ok (.bipush 45, 2) := by decide +kernel
theorem dX2_scanPart_104 : decode cX2_scanPart 104 = .ok (.if_icmp .ne 7, 3) := by decide +kernel
theorem dX2_scanPart_107 : decode cX2_scanPart 107 = .ok (.iconst (-1), 1) := by decide +kernel
theorem dX2_scanPart_108 : decode cX2_scanPart 108 = .ok (.goto 4, 3) := by decide +kernel
theorem dX2_scanPart_111 : decode cX2_scanPart 111 = .ok (.iconst 1, 1) := by decide +kernel
theorem dX2_scanPart_112 : decode cX2_scanPart 112 = .ok (.iconst 1, 1) := by decide +kernel
theorem dX2_scanPart_113 : decode cX2_scanPart 113 = .ok (.invokevirtual 82, 3) := by decide +kernel
theorem dX2_scanPart_116 : decode cX2_scanPart 116 = .ok (.ifCond .eq 7, 3) := by decide +kernel
theorem dX2_scanPart_119 : decode cX2_scanPart 119 = .ok (.iconst 1, 1) := by decide +kernel
theorem dX2_scanPart_120 : decode cX2_scanPart 120 = .ok (.goto 4, 3) := by decide +kernel
theorem dX2_scanPart_123 : decode cX2_scanPart 123 = .ok (.iconst 0, 1) := by decide +kernel
theorem dX2_scanPart_124 : decode cX2_scanPart 124 = .ok (.ireturn, 1) := by decide +kernel
theorem dX2_scanPart_125 : decode cX2_scanPart 125 = .ok (.iload_n 3, 1) := by decide +kernel
theorem dX2_scanPart_126 : decode cX2_scanPart 126 = .ok (.iload_n 2, 1) := by decide +kernel
theorem dX2_scanPart_127 : decode cX2_scanPart 127 = .ok (.if_icmp .eq 5, 3) := by decide +kernel
theorem dX2_scanPart_130 : decode cX2_scanPart 130 = .ok (.iconst 0, 1) := by decide +kernel
theorem dX2_scanPart_131 : decode cX2_scanPart 131 = .ok (.ireturn, 1) := by decide +kernel
theorem dX2_scanPart_132 : decode cX2_scanPart 132 = .ok (.aload_n 0, 1) := by decide +kernel
theorem dX2_scanPart_133 : decode cX2_scanPart 133 = .ok (.dup, 1) := by decide +kernel
theorem dX2_scanPart_134 : decode cX2_scanPart 134 = .ok (.getfield 9, 3) := by decide +kernel
theorem dX2_scanPart_137 : decode cX2_scanPart 137 = .ok (.iconst 1, 1) := by decide +kernel
theorem dX2_scanPart_138 : decode cX2_scanPart 138 = .ok (.iadd, 1) := by decide +kernel
theorem dX2_scanPart_139 : decode cX2_scanPart 139 = .ok (.putfield 9, 3) := by decide +kernel
theorem dX2_scanPart_142 : decode cX2_scanPart 142 = .ok (.iconst 1, 1) := by decide +kernel
theorem dX2_scanPart_143 : decode cX2_scanPart 143 = .ok (.ireturn, 1) := by decide +kernel
theorem dX2_shapeBehind_0 : decode cX2_shapeBehind 0 = .ok (.iload_n 0, 1) := by decide +kernel
theorem dX2_shapeBehind_1 : decode cX2_shapeBehind 1 = .ok (.lookupswitch 77 #[(97, 74), (100, 68), (112, 59), (115, 62), (118, 65), (121, 71)], 59) := by decide +kernel
theorem dX2_shapeBehind_60 : decode cX2_shapeBehind 60 = .ok (.ldc 39, 2) := by decide +kernel
theorem dX2_shapeBehind_62 : decode cX2_shapeBehind 62 = .ok (.areturn, 1) := by decide +kernel
theorem dX2_shapeBehind_63 : decode cX2_shapeBehind 63 = .ok (.ldc 41, 2) := by decide +kernel
theorem dX2_shapeBehind_65 : decode cX2_shapeBehind 65 = .ok (.areturn, 1) := by decide +kernel
theorem dX2_shapeBehind_66 : decode cX2_shapeBehind 66 = .ok (.ldc 43, 2) := by decide +kernel
theorem dX2_shapeBehind_68 : decode cX2_shapeBehind 68 = .ok (.areturn, 1) := by decide +kernel
theorem dX2_shapeBehind_69 : decode cX2_shapeBehind 69 = .ok (.ldc 45, 2) := by decide +kernel
theorem dX2_shapeBehind_71 : decode cX2_shapeBehind 71 = .ok (.areturn, 1) := by decide +kernel
theorem dX2_shapeBehind_72 : decode cX2_shapeBehind 72 = .ok (.ldc 47, 2) := by decide +kernel
theorem dX2_shapeBehind_74 : decode cX2_shapeBehind 74 = .ok (.areturn, 1) := by decide +kernel
theorem dX2_shapeBehind_75 : decode cX2_shapeBehind 75 = .ok (.ldc 49, 2) := by decide +kernel
theorem dX2_shapeBehind_77 : decode cX2_shapeBehind 77 = .ok (.areturn, 1) := by decide +kernel
theorem dX2_shapeBehind_78 : decode cX2_shapeBehind 78 = .ok (.ldc 51, 2) := by decide +kernel
theorem dX2_shapeBehind_80 : decode cX2_shapeBehind 80 = .ok (.areturn, 1) := by decide +kernel
theorem dX2_scanStatement_0 : decode cX2_scanStatement 0 = .ok (.aload_n 1, 1) := by decide +kernel
theorem dX2_scanStatement_1 : decode cX2_scanStatement 1 = .ok (.aload_n 0, 1) := by decide +kernel
theorem dX2_scanStatement_2 : decode cX2_scanStatement 2 = .ok (.getfield 9, 3) := by decide +kernel
theorem dX2_scanStatement_5 : decode cX2_scanStatement 5 = .ok (.invokevirtual 31, 3) := by decide +kernel
theorem dX2_scanStatement_8 : decode cX2_scanStatement 8 = .ok (.invokestatic 53, 3) := by decide +kernel
theorem dX2_scanStatement_11 : decode cX2_scanStatement 11 = .ok (.astore_n 2, 1) := by decide +kernel
theorem dX2_scanStatement_12 : decode cX2_scanStatement 12 = .ok (.aload_n 2, 1) := by decide +kernel
theorem dX2_scanStatement_13 : decode cX2_scanStatement 13 = .ok (.invokevirtual 57, 3) := by decide +kernel
theorem dX2_scanStatement_16 : decode cX2_scanStatement 16 = .ok (.ifCond .eq 5, 3) := by decide +kernel
theorem dX2_scanStatement_19 : decode cX2_scanStatement 19 = .ok (.iconst 0, 1) := by decide +kernel
theorem dX2_scanStatement_20 : decode cX2_scanStatement 20 = .ok (.ireturn, 1) := by decide +kernel
theorem dX2_scanStatement_21 : decode cX2_scanStatement 21 = .ok (.aload_n 0, 1) := by decide +kernel
theorem dX2_scanStatement_22 : decode cX2_scanStatement 22 = .ok (.dup, 1) := by decide +kernel
theorem dX2_scanStatement_23 : decode cX2_scanStatement 23 = .ok (.getfield 9, 3) := by decide +kernel
theorem dX2_scanStatement_26 : decode cX2_scanStatement 26 = .ok (.iconst 1, 1) := by decide +kernel
theorem dX2_scanStatement_27 : decode cX2_scanStatement 27 = .ok (.iadd, 1) := by decide +kernel
theorem dX2_scanStatement_28 : decode cX2_scanStatement 28 = .ok (.putfield 9, 3) := by decide +kernel
theorem dX2_scanStatement_31 : decode cX2_scanStatement 31 = .ok (.aload_n 0, 1) := by decide +kernel
theorem dX2_scanStatement_32 : decode cX2_scanStatement 32 = .ok (.iconst 0, 1) := by decide +kernel
theorem dX2_scanStatement_33 : decode cX2_scanStatement 33 = .ok (.putfield 19, 3) := by decide +kernel
theorem dX2_scanStatement_36 : decode cX2_scanStatement 36 = .ok (.iconst 0, 1) := by decide +kernel
theorem dX2_scanStatement_37 : decode cX2_scanStatement 37 = .ok (.istore_n 3, 1) := by decide +kernel
theorem dX2_scanStatement_38 : decode cX2_scanStatement 38 = .ok (.iload_n 3, 1) := by decide +kernel
theorem dX2_scanStatement_39 : decode cX2_scanStatement 39 = .ok (.aload_n 2, 1) := by decide +kernel
theorem dX2_scanStatement_40 : decode cX2_scanStatement 40 = .ok (.invokevirtual 63, 3) := by decide +kernel
theorem dX2_scanStatement_43 : decode cX2_scanStatement 43 = .ok (.if_icmp .ge 24, 3) := by decide +kernel
theorem dX2_scanStatement_46 : decode cX2_scanStatement 46 = .ok (.aload_n 0, 1) := by decide +kernel
theorem dX2_scanStatement_47 : decode cX2_scanStatement 47 = .ok (.aload_n 1, 1) := by decide +kernel
theorem dX2_scanStatement_48 : decode cX2_scanStatement 48 = .ok (.aload_n 2, 1) := by decide +kernel
theorem dX2_scanStatement_49 : decode cX2_scanStatement 49 = .ok (.iload_n 3, 1) := by decide +kernel
theorem dX2_scanStatement_50 : decode cX2_scanStatement 50 = .ok (.invokevirtual 67, 3) := by decide +kernel
theorem dX2_scanStatement_53 : decode cX2_scanStatement 53 = .ok (.invokevirtual 71, 3) := by decide +kernel
theorem dX2_scanStatement_56 : decode cX2_scanStatement 56 = .ok (.ifCond .ne 5, 3) := by decide +kernel
theorem dX2_scanStatement_59 : decode cX2_scanStatement 59 = .ok (.iconst 0, 1) := by decide +kernel
theorem dX2_scanStatement_60 : decode cX2_scanStatement 60 = .ok (.ireturn, 1) := by decide +kernel
theorem dX2_scanStatement_61 : decode cX2_scanStatement 61 = .ok (.iinc 3 1, 3) := by decide +kernel
theorem dX2_scanStatement_64 : decode cX2_scanStatement 64 = .ok (.goto (-26), 3) := by decide +kernel
theorem dX2_scanStatement_67 : decode cX2_scanStatement 67 = .ok (.iconst 1, 1) := by decide +kernel
theorem dX2_scanStatement_68 : decode cX2_scanStatement 68 = .ok (.ireturn, 1) := by decide +kernel
theorem dX2_read_0 : decode cX2_read 0 = .ok (.aload_n 0, 1) := by decide +kernel
theorem dX2_read_1 : decode cX2_read 1 = .ok (.iconst 0, 1) := by decide +kernel
theorem dX2_read_2 : decode cX2_read 2 = .ok (.putfield 9, 3) := by decide +kernel
theorem dX2_read_5 : decode cX2_read 5 = .ok (.bipush (-4), 2) := by decide +kernel
theorem dX2_read_7 : decode cX2_read 7 = .ok (.istore_n 3, 1) := by decide +kernel
theorem dX2_read_8 : decode cX2_read 8 = .ok (.iconst 0, 1) := by decide +kernel
theorem dX2_read_9 : decode cX2_read 9 = .ok (.istore 4, 2) := by decide +kernel
theorem dX2_read_11 : decode cX2_read 11 = .ok (.iconst 0, 1) := by decide +kernel
theorem dX2_read_12 : decode cX2_read 12 = .ok (.istore 5, 2) := by decide +kernel
theorem dX2_read_14 : decode cX2_read 14 = .ok (.iload 5, 2) := by decide +kernel
theorem dX2_read_16 : decode cX2_read 16 = .ok (.bipush 100, 2) := by decide +kernel
theorem dX2_read_18 : decode cX2_read 18 = .ok (.if_icmp .gt 74, 3) := by decide +kernel
theorem dX2_read_21 : decode cX2_read 21 = .ok (.iload 5, 2) := by decide +kernel
theorem dX2_read_23 : decode cX2_read 23 = .ok (.ifCond .eq 14, 3) := by decide +kernel
theorem dX2_read_26 : decode cX2_read 26 = .ok (.aload_n 0, 1) := by decide +kernel
theorem dX2_read_27 : decode cX2_read 27 = .ok (.getfield 9, 3) := by decide +kernel
theorem dX2_read_30 : decode cX2_read 30 = .ok (.aload_n 1, 1) := by decide +kernel
theorem dX2_read_31 : decode cX2_read 31 = .ok (.getfield 22, 3) := by decide +kernel
theorem dX2_read_34 : decode cX2_read 34 = .ok (.if_icmp .ge 58, 3) := by decide +kernel
theorem dX2_read_37 : decode cX2_read 37 = .ok (.aload_n 0, 1) := by decide +kernel
theorem dX2_read_38 : decode cX2_read 38 = .ok (.getfield 9, 3) := by decide +kernel
theorem dX2_read_41 : decode cX2_read 41 = .ok (.istore 6, 2) := by decide +kernel
theorem dX2_read_43 : decode cX2_read 43 = .ok (.aload_n 0, 1) := by decide +kernel
theorem dX2_read_44 : decode cX2_read 44 = .ok (.aload_n 1, 1) := by decide +kernel
theorem dX2_read_45 : decode cX2_read 45 = .ok (.invokevirtual 27, 3) := by decide +kernel
theorem dX2_read_48 : decode cX2_read 48 = .ok (.ifCond .ne 12, 3) := by decide +kernel
theorem dX2_read_51 : decode cX2_read 51 = .ok (.sipush (-1000), 3) := by decide +kernel
theorem dX2_read_54 : decode cX2_read 54 = .ok (.aload_n 0, 1) := by decide +kernel
theorem dX2_read_55 : decode cX2_read 55 = .ok (.getfield 9, 3) := by decide +kernel
theorem dX2_read_58 : decode cX2_read 58 = .ok (.isub, 1) := by decide +kernel
theorem dX2_read_59 : decode cX2_read 59 = .ok (.ireturn, 1) := by decide +kernel
theorem dX2_read_60 : decode cX2_read 60 = .ok (.iload_n 3, 1) := by decide +kernel
theorem dX2_read_61 : decode cX2_read 61 = .ok (.bipush (-4), 2) := by decide +kernel
theorem dX2_read_63 : decode cX2_read 63 = .ok (.if_icmp .ne 20, 3) := by decide +kernel
theorem dX2_read_66 : decode cX2_read 66 = .ok (.aload_n 0, 1) := by decide +kernel
theorem dX2_read_67 : decode cX2_read 67 = .ok (.aload_n 1, 1) := by decide +kernel
theorem dX2_read_68 : decode cX2_read 68 = .ok (.iload 6, 2) := by decide +kernel
theorem dX2_read_70 : decode cX2_read 70 = .ok (.invokevirtual 31, 3) := by decide +kernel
theorem dX2_read_73 : decode cX2_read 73 = .ok (.aload_n 2, 1) := by decide +kernel
theorem dX2_read_74 : decode cX2_read 74 = .ok (.invokevirtual 35, 3) := by decide +kernel
theorem dX2_read_77 : decode cX2_read 77 = .ok (.ifCond .ne 6, 3) := by decide +kernel
theorem dX2_read_80 : decode cX2_read 80 = .ok (.iload 6, 2) := by decide +kernel
theorem dX2_read_82 : decode cX2_read 82 = .ok (.istore_n 3, 1) := by decide +kernel
theorem dX2_read_83 : decode cX2_read 83 = .ok (.iinc 4 1, 3) := by decide +kernel
theorem dX2_read_86 : decode cX2_read 86 = .ok (.iinc 5 1, 3) := by decide +kernel
theorem dX2_read_89 : decode cX2_read 89 = .ok (.goto (-75), 3) := by decide +kernel
theorem dX2_read_92 : decode cX2_read 92 = .ok (.iload_n 3, 1) := by decide +kernel
theorem dX2_read_93 : decode cX2_read 93 = .ok (.bipush (-4), 2) := by decide +kernel
theorem dX2_read_95 : decode cX2_read 95 = .ok (.if_icmp .ne 8, 3) := by decide +kernel
theorem dX2_read_98 : decode cX2_read 98 = .ok (.iload 4, 2) := by decide +kernel
theorem dX2_read_100 : decode cX2_read 100 = .ok (.goto 8, 3) := by decide +kernel
theorem dX2_read_103 : decode cX2_read 103 = .ok (.sipush (-2000), 3) := by decide +kernel
theorem dX2_read_106 : decode cX2_read 106 = .ok (.iload_n 3, 1) := by decide +kernel
theorem dX2_read_107 : decode cX2_read 107 = .ok (.isub, 1) := by decide +kernel
theorem dX2_read_108 : decode cX2_read 108 = .ok (.ireturn, 1) := by decide +kernel
theorem dX1_become_0 : decode cX1_become 0 = .ok (.aload_n 0, 1) := by decide +kernel
theorem dX1_become_1 : decode cX1_become 1 = .ok (.aload_n 1, 1) := by decide +kernel
theorem dX1_become_2 : decode cX1_become 2 = .ok (.getfield 11, 3) := by decide +kernel
theorem dX1_become_5 : decode cX1_become 5 = .ok (.putfield 11, 3) := by decide +kernel
theorem dX1_become_8 : decode cX1_become 8 = .ok (.aload_n 0, 1) := by decide +kernel
theorem dX1_become_9 : decode cX1_become 9 = .ok (.aload_n 1, 1) := by decide +kernel
theorem dX1_become_10 : decode cX1_become 10 = .ok (.getfield 15, 3) := by decide +kernel
theorem dX1_become_13 : decode cX1_become 13 = .ok (.putfield 15, 3) := by decide +kernel
theorem dX1_become_16 : decode cX1_become 16 = .ok (.aload_n 0, 1) := by decide +kernel
theorem dX1_become_17 : decode cX1_become 17 = .ok (.aload_n 1, 1) := by decide +kernel
theorem dX1_become_18 : decode cX1_become 18 = .ok (.getfield 18, 3) := by decide +kernel
theorem dX1_become_21 : decode cX1_become 21 = .ok (.putfield 18, 3) := by decide +kernel
theorem dX1_become_24 : decode cX1_become 24 = .ok (.aload_n 0, 1) := by decide +kernel
theorem dX1_become_25 : decode cX1_become 25 = .ok (.aload_n 1, 1) := by decide +kernel
theorem dX1_become_26 : decode cX1_become 26 = .ok (.getfield 21, 3) := by decide +kernel
theorem dX1_become_29 : decode cX1_become 29 = .ok (.putfield 21, 3) := by decide +kernel
theorem dX1_become_32 : decode cX1_become 32 = .ok (.aload_n 0, 1) := by decide +kernel
theorem dX1_become_33 : decode cX1_become 33 = .ok (.aload_n 1, 1) := by decide +kernel
theorem dX1_become_34 : decode cX1_become 34 = .ok (.getfield 24, 3) := by decide +kernel
theorem dX1_become_37 : decode cX1_become 37 = .ok (.putfield 24, 3) := by decide +kernel
theorem dX1_become_40 : decode cX1_become 40 = .ok (.aload_n 0, 1) := by decide +kernel
theorem dX1_become_41 : decode cX1_become 41 = .ok (.aload_n 1, 1) := by decide +kernel
theorem dX1_become_42 : decode cX1_become 42 = .ok (.getfield 27, 3) := by decide +kernel
theorem dX1_become_45 : decode cX1_become 45 = .ok (.putfield 27, 3) := by decide +kernel
theorem dX1_become_48 : decode cX1_become 48 = .ok (.aload_n 0, 1) := by decide +kernel
theorem dX1_become_49 : decode cX1_become 49 = .ok (.aload_n 1, 1) := by decide +kernel
theorem dX1_become_50 : decode cX1_become 50 = .ok (.getfield 30, 3) := by decide +kernel
theorem dX1_become_53 : decode cX1_become 53 = .ok (.putfield 30, 3) := by decide +kernel
theorem dX1_become_56 : decode cX1_become 56 = .ok (.aload_n 0, 1) := by decide +kernel
theorem dX1_become_57 : decode cX1_become 57 = .ok (.aload_n 1, 1) := by decide +kernel
theorem dX1_become_58 : decode cX1_become 58 = .ok (.getfield 33, 3) := by decide +kernel
theorem dX1_become_61 : decode cX1_become 61 = .ok (.putfield 33, 3) := by decide +kernel
theorem dX1_become_64 : decode cX1_become 64 = .ok (.aload_n 0, 1) := by decide +kernel
theorem dX1_become_65 : decode cX1_become 65 = .ok (.aload_n 1, 1) := by decide +kernel
theorem dX1_become_66 : decode cX1_become 66 = .ok (.getfield 36, 3) := by decide +kernel
theorem dX1_become_69 : decode cX1_become 69 = .ok (.putfield 36, 3) := by decide +kernel
theorem dX1_become_72 : decode cX1_become 72 = .ok (.return_, 1) := by decide +kernel
theorem dX4_become_0 : decode cX4_become 0 = .ok (.iconst 0, 1) := by decide +kernel
theorem dX4_become_1 : decode cX4_become 1 = .ok (.istore_n 2, 1) := by decide +kernel
theorem dX4_become_2 : decode cX4_become 2 = .ok (.iload_n 2, 1) := by decide +kernel
theorem dX4_become_3 : decode cX4_become 3 = .ok (.aload_n 1, 1) := by decide +kernel
theorem dX4_become_4 : decode cX4_become 4 = .ok (.getfield 17, 3) := by decide +kernel
theorem dX4_become_7 : decode cX4_become 7 = .ok (.if_icmp .ge 24, 3) := by decide +kernel
theorem dX4_become_10 : decode cX4_become 10 = .ok (.aload_n 0, 1) := by decide +kernel
theorem dX4_become_11 : decode cX4_become 11 = .ok (.getfield 11, 3) := by decide +kernel
theorem dX4_become_14 : decode cX4_become 14 = .ok (.iload_n 2, 1) := by decide +kernel
theorem dX4_become_15 : decode cX4_become 15 = .ok (.aaload, 1) := by decide +kernel
theorem dX4_become_16 : decode cX4_become 16 = .ok (.aload_n 1, 1) := by decide +kernel
theorem dX4_become_17 : decode cX4_become 17 = .ok (.getfield 11, 3) := by decide +kernel
theorem dX4_become_20 : decode cX4_become 20 = .ok (.iload_n 2, 1) := by decide +kernel
theorem dX4_become_21 : decode cX4_become 21 = .ok (.aaload, 1) := by decide +kernel
theorem dX4_become_22 : decode cX4_become 22 = .ok (.invokevirtual 52, 3) := by decide +kernel
theorem dX4_become_25 : decode cX4_become 25 = .ok (.iinc 2 1, 3) := by decide +kernel
theorem dX4_become_28 : decode cX4_become 28 = .ok (.goto (-26), 3) := by decide +kernel
theorem dX4_become_31 : decode cX4_become 31 = .ok (.aload_n 0, 1) := by decide +kernel
theorem dX4_become_32 : decode cX4_become 32 = .ok (.aload_n 1, 1) := by decide +kernel
theorem dX4_become_33 : decode cX4_become 33 = .ok (.getfield 17, 3) := by decide +kernel
theorem dX4_become_36 : decode cX4_become 36 = .ok (.putfield 17, 3) := by decide +kernel
theorem dX4_become_39 : decode cX4_become 39 = .ok (.aload_n 1, 1) := by decide +kernel
theorem dX4_become_40 : decode cX4_become 40 = .ok (.getfield 30, 3) := by decide +kernel
theorem dX4_become_43 : decode cX4_become 43 = .ok (.iconst 0, 1) := by decide +kernel
theorem dX4_become_44 : decode cX4_become 44 = .ok (.aload_n 0, 1) := by decide +kernel
theorem dX4_become_45 : decode cX4_become 45 = .ok (.getfield 30, 3) := by decide +kernel
theorem dX4_become_48 : decode cX4_become 48 = .ok (.iconst 0, 1) := by decide +kernel
theorem dX4_become_49 : decode cX4_become 49 = .ok (.aload_n 0, 1) := by decide +kernel
theorem dX4_become_50 : decode cX4_become 50 = .ok (.getfield 30, 3) := by decide +kernel
theorem dX4_become_53 : decode cX4_become 53 = .ok (.arraylength, 1) := by decide +kernel
theorem dX4_become_54 : decode cX4_become 54 = .ok (.invokestatic 56, 3) := by decide +kernel
theorem dX4_become_57 : decode cX4_become 57 = .ok (.aload_n 0, 1) := by decide +kernel
theorem dX4_become_58 : decode cX4_become 58 = .ok (.aload_n 1, 1) := by decide +kernel
theorem dX4_become_59 : decode cX4_become 59 = .ok (.getfield 33, 3) := by decide +kernel
theorem dX4_become_62 : decode cX4_become 62 = .ok (.putfield 33, 3) := by decide +kernel
theorem dX4_become_65 : decode cX4_become 65 = .ok (.aload_n 0, 1) := by decide +kernel
theorem dX4_become_66 : decode cX4_become 66 = .ok (.aload_n 1, 1) := by decide +kernel
theorem dX4_become_67 : decode cX4_become 67 = .ok (.getfield 36, 3) := by decide +kernel
theorem dX4_become_70 : decode cX4_become 70 = .ok (.putfield 36, 3) := by decide +kernel
theorem dX4_become_73 : decode cX4_become 73 = .ok (.aload_n 0, 1) := by decide +kernel
theorem dX4_become_74 : decode cX4_become 74 = .ok (.aload_n 1, 1) := by decide +kernel
theorem dX4_become_75 : decode cX4_become 75 = .ok (.getfield 39, 3) := by decide +kernel
theorem dX4_become_78 : decode cX4_become 78 = .ok (.putfield 39, 3) := by decide +kernel
theorem dX4_become_81 : decode cX4_become 81 = .ok (.aload_n 0, 1) := by decide +kernel
theorem dX4_become_82 : decode cX4_become 82 = .ok (.aload_n 1, 1) := by decide +kernel
theorem dX4_become_83 : decode cX4_become 83 = .ok (.getfield 42, 3) := by decide +kernel
theorem dX4_become_86 : decode cX4_become 86 = .ok (.putfield 42, 3) := by decide +kernel
theorem dX4_become_89 : decode cX4_become 89 = .ok (.aload_n 0, 1) := by decide +kernel
theorem dX4_become_90 : decode cX4_become 90 = .ok (.aload_n 1, 1) := by decide +kernel
theorem dX4_become_91 : decode cX4_become 91 = .ok (.getfield 45, 3) := by decide +kernel
theorem dX4_become_94 : decode cX4_become 94 = .ok (.putfield 45, 3) := by decide +kernel
theorem dX4_become_97 : decode cX4_become 97 = .ok (.aload_n 0, 1) := by decide +kernel
theorem dX4_become_98 : decode cX4_become 98 = .ok (.aload_n 1, 1) := by decide +kernel
theorem dX4_become_99 : decode cX4_become 99 = .ok (.getfield 48, 3) := by decide +kernel
theorem dX4_become_102 : decode cX4_become 102 = .ok (.putfield 48, 3) := by decide +kernel
theorem dX4_become_105 : decode cX4_become 105 = .ok (.return_, 1) := by decide +kernel
theorem dX5_isShelf_0 : decode cX5_isShelf 0 = .ok (.iload_n 0, 1) := by decide +kernel
theorem dX5_isShelf_1 : decode cX5_isShelf 1 = .ok (.iconst 0, 1) := by decide +kernel
theorem dX5_isShelf_2 : decode cX5_isShelf 2 = .ok (.bipush 7, 2) := by decide +kernel
theorem dX5_isShelf_4 : decode cX5_isShelf 4 = .ok (.invokestatic 129, 3) := by decide +kernel
theorem dX5_isShelf_7 : decode cX5_isShelf 7 = .ok (.ireturn, 1) := by decide +kernel
theorem dX5_refusalOfHolding_0 : decode cX5_refusalOfHolding 0 = .ok (.iload_n 1, 1) := by decide +kernel
theorem dX5_refusalOfHolding_1 : decode cX5_refusalOfHolding 1 = .ok (.invokestatic 250, 3) := by decide +kernel
theorem dX5_refusalOfHolding_4 : decode cX5_refusalOfHolding 4 = .ok (.ifCond .ne 5, 3) := by decide +kernel
theorem dX5_refusalOfHolding_7 : decode cX5_refusalOfHolding 7 = .ok (.iconst (-1), 1) := by decide +kernel
theorem dX5_refusalOfHolding_8 : decode cX5_refusalOfHolding 8 = .ok (.ireturn, 1) := by decide +kernel
theorem dX5_refusalOfHolding_9 : decode cX5_refusalOfHolding 9 = .ok (.aload_n 0, 1) := by decide +kernel
theorem dX5_refusalOfHolding_10 : decode cX5_refusalOfHolding 10 = .ok (.getfield 45, 3) := by decide +kernel
theorem dX5_refusalOfHolding_13 : decode cX5_refusalOfHolding 13 = .ok (.iload_n 1, 1) := by decide +kernel
theorem dX5_refusalOfHolding_14 : decode cX5_refusalOfHolding 14 = .ok (.aaload, 1) := by decide +kernel
theorem dX5_refusalOfHolding_15 : decode cX5_refusalOfHolding 15 = .ok (.getfield 282, 3) := by decide +kernel
theorem dX5_refusalOfHolding_18 : decode cX5_refusalOfHolding 18 = .ok (.ifCond .ne 6, 3) := by decide +kernel
theorem dX5_refusalOfHolding_21 : decode cX5_refusalOfHolding 21 = .ok (.bipush (-11), 2) := by decide +kernel
theorem dX5_refusalOfHolding_23 : decode cX5_refusalOfHolding 23 = .ok (.ireturn, 1) := by decide +kernel
theorem dX5_refusalOfHolding_24 : decode cX5_refusalOfHolding 24 = .ok (.aload_n 0, 1) := by decide +kernel
theorem dX5_refusalOfHolding_25 : decode cX5_refusalOfHolding 25 = .ok (.getfield 45, 3) := by decide +kernel
theorem dX5_refusalOfHolding_28 : decode cX5_refusalOfHolding 28 = .ok (.iload_n 1, 1) := by decide +kernel
theorem dX5_refusalOfHolding_29 : decode cX5_refusalOfHolding 29 = .ok (.aaload, 1) := by decide +kernel
theorem dX5_refusalOfHolding_30 : decode cX5_refusalOfHolding 30 = .ok (.getfield 282, 3) := by decide +kernel
theorem dX5_refusalOfHolding_33 : decode cX5_refusalOfHolding 33 = .ok (.iload_n 2, 1) := by decide +kernel
theorem dX5_refusalOfHolding_34 : decode cX5_refusalOfHolding 34 = .ok (.if_icmp .ne 7, 3) := by decide +kernel
theorem dX5_refusalOfHolding_37 : decode cX5_refusalOfHolding 37 = .ok (.iconst 0, 1) := by decide +kernel
theorem dX5_refusalOfHolding_38 : decode cX5_refusalOfHolding 38 = .ok (.goto 5, 3) := by decide +kernel
theorem dX5_refusalOfHolding_41 : decode cX5_refusalOfHolding 41 = .ok (.bipush (-12), 2) := by decide +kernel
theorem dX5_refusalOfHolding_43 : decode cX5_refusalOfHolding 43 = .ok (.ireturn, 1) := by decide +kernel
theorem dX5_refusalOfRow_0 : decode cX5_refusalOfRow 0 = .ok (.aload_n 0, 1) := by decide +kernel
theorem dX5_refusalOfRow_1 : decode cX5_refusalOfRow 1 = .ok (.iload_n 1, 1) := by decide +kernel
theorem dX5_refusalOfRow_2 : decode cX5_refusalOfRow 2 = .ok (.iconst 2, 1) := by decide +kernel
theorem dX5_refusalOfRow_3 : decode cX5_refusalOfRow 3 = .ok (.invokevirtual 315, 3) := by decide +kernel
theorem dX5_refusalOfRow_6 : decode cX5_refusalOfRow 6 = .ok (.ireturn, 1) := by decide +kernel
theorem dX5_refusalOfBytes_0 : decode cX5_refusalOfBytes 0 = .ok (.aload_n 0, 1) := by decide +kernel
theorem dX5_refusalOfBytes_1 : decode cX5_refusalOfBytes 1 = .ok (.iload_n 1, 1) := by decide +kernel
theorem dX5_refusalOfBytes_2 : decode cX5_refusalOfBytes 2 = .ok (.invokevirtual 229, 3) := by decide +kernel
theorem dX5_refusalOfBytes_5 : decode cX5_refusalOfBytes 5 = .ok (.istore_n 2, 1) := by decide +kernel
theorem dX5_refusalOfBytes_6 : decode cX5_refusalOfBytes 6 = .ok (.iload_n 2, 1) := by decide +kernel
theorem dX5_refusalOfBytes_7 : decode cX5_refusalOfBytes 7 = .ok (.ifCond .ge 5, 3) := by decide +kernel
theorem dX5_refusalOfBytes_10 : decode cX5_refusalOfBytes 10 = .ok (.iload_n 2, 1) := by decide +kernel
theorem dX5_refusalOfBytes_11 : decode cX5_refusalOfBytes 11 = .ok (.ireturn, 1) := by decide +kernel
theorem dX5_refusalOfBytes_12 : decode cX5_refusalOfBytes 12 = .ok (.aload_n 0, 1) := by decide +kernel
theorem dX5_refusalOfBytes_13 : decode cX5_refusalOfBytes 13 = .ok (.getfield 45, 3) := by decide +kernel
theorem dX5_refusalOfBytes_16 : decode cX5_refusalOfBytes 16 = .ok (.iload_n 1, 1) := by decide +kernel
theorem dX5_refusalOfBytes_17 : decode cX5_refusalOfBytes 17 = .ok (.aaload, 1) := by decide +kernel
theorem dX5_refusalOfBytes_18 : decode cX5_refusalOfBytes 18 = .ok (.getfield 285, 3) := by decide +kernel
theorem dX5_refusalOfBytes_21 : decode cX5_refusalOfBytes 21 = .ok (.ifCond .ne 7, 3) := by decide +kernel
theorem dX5_refusalOfBytes_24 : decode cX5_refusalOfBytes 24 = .ok (.iconst 0, 1) := by decide +kernel
theorem dX5_refusalOfBytes_25 : decode cX5_refusalOfBytes 25 = .ok (.goto 5, 3) := by decide +kernel
theorem dX5_refusalOfBytes_28 : decode cX5_refusalOfBytes 28 = .ok (.bipush (-12), 2) := by decide +kernel
theorem dX5_refusalOfBytes_30 : decode cX5_refusalOfBytes 30 = .ok (.ireturn, 1) := by decide +kernel
theorem dX5_tow_0 : decode cX5_tow 0 = .ok (.aload_n 0, 1) := by decide +kernel
theorem dX5_tow_1 : decode cX5_tow 1 = .ok (.iload_n 1, 1) := by decide +kernel
theorem dX5_tow_2 : decode cX5_tow 2 = .ok (.invokevirtual 54, 3) := by decide +kernel
theorem dX5_tow_5 : decode cX5_tow 5 = .ok (.istore_n 2, 1) := by decide +kernel
theorem dX5_tow_6 : decode cX5_tow 6 = .ok (.iload_n 2, 1) := by decide +kernel
theorem dX5_tow_7 : decode cX5_tow 7 = .ok (.ifCond .ge 5, 3) := by decide +kernel
theorem dX5_tow_10 : decode cX5_tow 10 = .ok (.iload_n 2, 1) := by decide +kernel
theorem dX5_tow_11 : decode cX5_tow 11 = .ok (.ireturn, 1) := by decide +kernel
theorem dX5_tow_12 : decode cX5_tow 12 = .ok (.aload_n 0, 1) := by decide +kernel
theorem dX5_tow_13 : decode cX5_tow 13 = .ok (.getfield 19, 3) := by decide +kernel
theorem dX5_tow_16 : decode cX5_tow 16 = .ok (.aload_n 0, 1) := by decide +kernel
theorem dX5_tow_17 : decode cX5_tow 17 = .ok (.getfield 10, 3) := by decide +kernel
theorem dX5_tow_20 : decode cX5_tow 20 = .ok (.invokevirtual 58, 3) := by decide +kernel
theorem dX5_tow_23 : decode cX5_tow 23 = .ok (.aload_n 0, 1) := by decide +kernel
theorem dX5_tow_24 : decode cX5_tow 24 = .ok (.getfield 39, 3) := by decide +kernel
theorem dX5_tow_27 : decode cX5_tow 27 = .ok (.aload_n 0, 1) := by decide +kernel
theorem dX5_tow_28 : decode cX5_tow 28 = .ok (.getfield 45, 3) := by decide +kernel
theorem dX5_tow_31 : decode cX5_tow 31 = .ok (.iload_n 1, 1) := by decide +kernel
theorem dX5_tow_32 : decode cX5_tow 32 = .ok (.aaload, 1) := by decide +kernel
theorem dX5_tow_33 : decode cX5_tow 33 = .ok (.aload_n 0, 1) := by decide +kernel
theorem dX5_tow_34 : decode cX5_tow 34 = .ok (.getfield 19, 3) := by decide +kernel
theorem dX5_tow_37 : decode cX5_tow 37 = .ok (.invokevirtual 62, 3) := by decide +kernel
theorem dX5_tow_40 : decode cX5_tow 40 = .ok (.istore_n 3, 1) := by decide +kernel
theorem dX5_tow_41 : decode cX5_tow 41 = .ok (.iload_n 3, 1) := by decide +kernel
theorem dX5_tow_42 : decode cX5_tow 42 = .ok (.ifCond .le 14, 3) := by decide +kernel
theorem dX5_tow_45 : decode cX5_tow 45 = .ok (.aload_n 0, 1) := by decide +kernel
theorem dX5_tow_46 : decode cX5_tow 46 = .ok (.getfield 10, 3) := by decide +kernel
theorem dX5_tow_49 : decode cX5_tow 49 = .ok (.aload_n 0, 1) := by decide +kernel
theorem dX5_tow_50 : decode cX5_tow 50 = .ok (.getfield 19, 3) := by decide +kernel
theorem dX5_tow_53 : decode cX5_tow 53 = .ok (.invokevirtual 58, 3) := by decide +kernel
theorem dX5_tow_56 : decode cX5_tow 56 = .ok (.iload_n 3, 1) := by decide +kernel
theorem dX5_tow_57 : decode cX5_tow 57 = .ok (.ireturn, 1) := by decide +kernel
section WALK
variable {p : Program} {l : Launch} {e : Env} {s : State} {m : MethodId} {args : Array Value} {below : List Frame} {meth : Method} {c : Code} {G : GG}

def q_J0_length_8abf5 (M : Mem) (a0 : Nat) (post : Int32 → Mem → Prop) : Prop := q_J0_coder_7d493 M a0 (fun r1 M2 => post ((sLn a0) >>> (r1 &&& 31)) M2)
set_option maxHeartbeats 4000000 in
set_option maxRecDepth 100000 in
theorem c_J0_length_8abf5 (l : Launch) (G : GG) (hG : Ag G) (sz : Nat) (M : Mem) (a0 : Nat) (ha0 : 0 ≤ a0 ∧ a0 < 7) (post : Int32 → Mem → Prop) (h : q_J0_length_8abf5 M a0 post) : Met l yJ0_length_8abf5 (Cond.code yJ0_length_8abf5 cJ0_length_8abf5 1 (some .int) :: wsL_law) (rmk 2) (va_Pc [.ref (gK G a0)] (Pw G sz M)) (va_Qi post (Qw G) (Af G sz)) 0 0 (Af G sz) := by
  refine Met.ofW (cc := cJ0_length_8abf5) (maxL := 1) (ret := (some .int)) (by decide) rfl ?_
  intro p e s m args below meth c s₁ B hml hv
  obtain ⟨rfl, hsz, hE, hP⟩ := hv
  subst hsz
  have C := Cx.of (own := RJ0) hG hE rfl hml B
  have w : Wd G s M s.heap [] := ⟨hP, va_S.rf⟩
  have hl := lv_entry [.ref (gK G a0)] (n := 1) (Nat.le_of_ble_eq_true rfl)
  rw [lg_entry_eq]
  generalize (lg_sl [.ref (gK G a0)] ++ List.replicate (1 - (lg_sl [.ref (gK G a0)]).length) Slot.unset).toArray = ls at hl ⊢
  have hl : lv_has ls 1 [(0, .ref (gK G a0))] := hl
  have hx := C.1.1
  have hb := C.1.2.1
  show W p l e (rmk 2) s m _ below meth c s.heap [] 0 0 _ _
  unfold q_J0_length_8abf5 at h
  refine lv_aload_n hx hb dJ0_length_8abf5_0 rfl (lv_at hl 0 rfl) ?_
  refine gS_value C w ha0.2 kw_7_17 dJ0_length_8abf5_1 ?_
  refine gS_len C w ha0.2 dJ0_length_8abf5_4 ?_
  refine lv_aload_n hx hb dJ0_length_8abf5_5 rfl (lv_at hl 0 rfl) ?_
  refine end_i w (run_V (As := []) C w hl.1 (c_J0_coder_7d493 l G C.2.2.1 _ _ a0 ha0 _ h) kw_8_1 kw_7_15 kw_7_22 kw_7_23 kw_8_0 hd_J0_coder_7d493 ⟨by decide, by decide⟩ (vk_recv C.2.1.2.2.2.1.2.2.2.2.2.1 ha0.2 (w.zf C)) rfl (Nat.le_of_ble_eq_true rfl) dJ0_length_8abf5_6) (fun r1 M2 H locs h w => ?_)
  refine lv_ishr hx hb dJ0_length_8abf5_9 ?_
  exact ret_i C w h dJ0_length_8abf5_10
def q_X2_isDigit (M : Mem) (x0 : Int32) (post : Int32 → Mem → Prop) : Prop := q_X5_isWithin M x0 (48 : Int32) (57 : Int32) (fun r1 M2 => (r1 = 0 ∨ r1 = 1) ∧ post r1 M2)
set_option maxHeartbeats 4000000 in
set_option maxRecDepth 100000 in
theorem c_X2_isDigit (l : Launch) (G : GG) (hG : Ag G) (sz : Nat) (M : Mem) (x0 : Int32) (post : Int32 → Mem → Prop) (h : q_X2_isDigit M x0 post) : Met l yX2_isDigit (Cond.code yX2_isDigit cX2_isDigit 1 (some .boolean) :: wsL_law) (rmk 2) (va_Pc [.int x0] (Pw G sz M)) (va_Qi post (Qw G) (Af G sz)) 0 0 (Af G sz) := by
  refine Met.ofW (cc := cX2_isDigit) (maxL := 1) (ret := (some .boolean)) (by decide) rfl ?_
  intro p e s m args below meth c s₁ B hml hv
  obtain ⟨rfl, hsz, hE, hP⟩ := hv
  subst hsz
  have C := Cx.of (own := RX2) hG hE rfl hml B
  have w : Wd G s M s.heap [] := ⟨hP, va_S.rf⟩
  have hl := lv_entry [.int x0] (n := 1) (Nat.le_of_ble_eq_true rfl)
  rw [lg_entry_eq]
  generalize (lg_sl [.int x0] ++ List.replicate (1 - (lg_sl [.int x0]).length) Slot.unset).toArray = ls at hl ⊢
  have hl : lv_has ls 1 [(0, .int x0)] := hl
  have hx := C.1.1
  have hb := C.1.2.1
  show W p l e (rmk 2) s m _ below meth c s.heap [] 0 0 _ _
  unfold q_X2_isDigit at h
  refine lv_iload_n hx hb dX2_isDigit_0 rfl (lv_at hl 0 rfl) ?_
  refine lv_bipush (v := 48) hx hb dX2_isDigit_1 (by decide) ?_
  refine lv_bipush (v := 57) hx hb dX2_isDigit_3 (by decide) ?_
  refine end_i w (run_SN (As := [.int x0, .int (48 : Int32), .int (57 : Int32)]) C w hl.1 (c_X5_isWithin l G C.2.2.1 _ _ x0 (48 : Int32) (57 : Int32)  _ h) kw_6_8 kw_1_2 kn_48 kw_6_7 hd_X5_isWithin ⟨by decide, by decide⟩ rfl (Nat.le_of_ble_eq_true rfl) dX2_isDigit_5) (fun r1 M2 H locs h w => ?_)
  exact ret_z C w h dX2_isDigit_8
def q_X2_take (M : Mem) (x1 : Int32) (x2 : Int32) (post : Int32 → Mem → Prop) : Prop := ((M 5 2) < (3 : Int32) → (vp_in (M 5 2) 3 ∧ (∀ M3 : Mem, M3 = (mup M 7 (M 5 2).toNatClampNeg x1) → (∀ M4 : Mem, M4 = (mup M3 5 2 ((M3 5 2) + (1 : Int32))) → (∀ M5 : Mem, M5 = (mup M4 5 0 ((M4 5 0) + x2)) → (post (1 : Int32) M5)))))) ∧ (¬ ((M 5 2) < (3 : Int32)) → (post (0 : Int32) M))
set_option maxHeartbeats 4000000 in
set_option maxRecDepth 100000 in
theorem c_X2_take (l : Launch) (G : GG) (hG : Ag G) (sz : Nat) (M : Mem) (x1 : Int32) (x2 : Int32) (post : Int32 → Mem → Prop) (h : q_X2_take M x1 x2 post) : Met l yX2_take (Cond.code yX2_take cX2_take 3 (some .boolean) :: wsL_law) (rmk 1) (va_Pc [.ref (ga G 5), .int x1, .int x2] (Pw G sz M)) (va_Qi post (Qw G) (Af G sz)) 0 0 (Af G sz) := by
  refine Met.ofW (cc := cX2_take) (maxL := 3) (ret := (some .boolean)) (by decide) rfl ?_
  intro p e s m args below meth c s₁ B hml hv
  obtain ⟨rfl, hsz, hE, hP⟩ := hv
  subst hsz
  have C := Cx.of (own := RX2) hG hE rfl hml B
  have w : Wd G s M s.heap [] := ⟨hP, va_S.rf⟩
  have hl := lv_entry [.ref (ga G 5), .int x1, .int x2] (n := 3) (Nat.le_of_ble_eq_true rfl)
  rw [lg_entry_eq]
  generalize (lg_sl [.ref (ga G 5), .int x1, .int x2] ++ List.replicate (3 - (lg_sl [.ref (ga G 5), .int x1, .int x2]).length) Slot.unset).toArray = ls at hl ⊢
  have hl : lv_has ls 3 [(0, .ref (ga G 5)), (1, .int x1), (2, .int x2)] := hl
  have hx := C.1.1
  have hb := C.1.2.1
  show W p l e (rmk 1) s m _ below meth c s.heap [] 0 0 _ _
  unfold q_X2_take at h
  refine lv_aload_n hx hb dX2_take_0 rfl (lv_at hl 0 rfl) ?_
  refine gt_2_2 C w kw_4_10 dX2_take_1 ?_
  refine lv_aload_n hx hb dX2_take_4 rfl (lv_at hl 0 rfl) ?_
  refine gt_2_1 C w kw_4_9 dX2_take_5 ?_
  refine pw_len C w (i := 7) (by decide) pE_nu (v := 3) rfl dX2_take_8 ?_
  refine lv_icmp_lt (tgt := 14) hx hb dX2_take_9 (by decide) (fun c1 => ?_) (fun c1 => ?_)
  · replace h := h.1 c1
    refine lv_aload_n hx hb dX2_take_14 rfl (lv_at hl 0 rfl) ?_
    refine gt_2_1 C w kw_4_9 dX2_take_15 ?_
    refine lv_aload_n hx hb dX2_take_18 rfl (lv_at hl 0 rfl) ?_
    refine gt_2_2 C w kw_4_10 dX2_take_19 ?_
    refine lv_iload_n hx hb dX2_take_22 rfl (lv_at hl 1 rfl) ?_
    have hin2 := h.1
    replace h := h.2
    have hz_hin2 := in_lt hin2
    refine pw_st C w (i := 7) (by decide) (fun _ => pE_nu) hin2 rfl dX2_take_23 (fun H locs w => ?_)
    obtain ⟨M3, eM3⟩ : ∃ z : Mem, z = (mup M 7 (M 5 2).toNatClampNeg x1) := ⟨_, rfl⟩
    replace w : Wd G s M3 H locs := by rw [eM3]; exact w
    replace h := h M3 eM3
    refine lv_aload_n hx hb dX2_take_24 rfl (lv_at hl 0 rfl) ?_
    refine lv_dup hx hb dX2_take_25 rfl ?_
    refine gt_2_2 C w kw_4_10 dX2_take_26 ?_
    refine lv_iconst (v := 1) hx hb dX2_take_29 (by decide) ?_
    refine lv_iadd hx hb dX2_take_30 ?_
    refine pt_2_2 C w kw_4_10 dX2_take_31 (fun H locs w => ?_)
    obtain ⟨M4, eM4⟩ : ∃ z : Mem, z = (mup M3 5 2 ((M3 5 2) + (1 : Int32))) := ⟨_, rfl⟩
    replace w : Wd G s M4 H locs := by rw [eM4]; exact w
    replace h := h M4 eM4
    refine lv_aload_n hx hb dX2_take_34 rfl (lv_at hl 0 rfl) ?_
    refine lv_dup hx hb dX2_take_35 rfl ?_
    refine gt_2_0 C w kw_4_7 dX2_take_36 ?_
    refine lv_iload_n hx hb dX2_take_39 rfl (lv_at hl 2 rfl) ?_
    refine lv_iadd hx hb dX2_take_40 ?_
    refine pt_2_0 C w kw_4_7 dX2_take_41 (fun H locs w => ?_)
    obtain ⟨M5, eM5⟩ : ∃ z : Mem, z = (mup M4 5 0 ((M4 5 0) + x2)) := ⟨_, rfl⟩
    replace w : Wd G s M5 H locs := by rw [eM5]; exact w
    replace h := h M5 eM5
    refine lv_iconst (v := 1) hx hb dX2_take_44 (by decide) ?_
    exact ret_z C w ⟨Or.inr rfl, h⟩ dX2_take_45
  replace h := h.2 c1
  refine lv_iconst (v := 0) hx hb dX2_take_12 (by decide) ?_
  exact ret_z C w ⟨Or.inl rfl, h⟩ dX2_take_13
def j_X3_hasPlace_25 (post : Int32 → Mem → Prop) (M : Mem) (y0 : Int32) : Prop := (y0 = 0 ∨ y0 = 1) ∧ post y0 M
def j_X3_hasPlace_24 (post : Int32 → Mem → Prop) (M : Mem) : Prop := j_X3_hasPlace_25 post M (0 : Int32)
def q_X3_hasPlace (M : Mem) (a0 : Nat) (x1 : Int32) (post : Int32 → Mem → Prop) : Prop := ((M a0 0) = (2 : Int32) → ((x1 < 0 → (j_X3_hasPlace_24 post M)) ∧ (¬ (x1 < 0) → (((M a0 3) ≤ x1 → (j_X3_hasPlace_24 post M)) ∧ (¬ ((M a0 3) ≤ x1) → (j_X3_hasPlace_25 post M (1 : Int32))))))) ∧ (¬ ((M a0 0) = (2 : Int32)) → (j_X3_hasPlace_24 post M))
set_option maxHeartbeats 4000000 in
set_option maxRecDepth 100000 in
theorem t_X3_hasPlace_25 (C : Cx G p s m args meth c RX3 cX3_hasPlace 2 (some .boolean)) {post : Int32 → Mem → Prop} (M : Mem) (y0 : Int32) {H : Heap} {locs : List Loc} {ls : Array Slot} (w : Wd G s M H locs) (hl : lv_has ls 2 []) (h : j_X3_hasPlace_25 post M y0) : W p l e (rmk 1) s m args below meth c H locs 0 0 (MQ below (va_Qi post (Qw G) (Af G s.heap.size)) args s 0 0 (Af G s.heap.size)) (F0 m 25 ls [.int y0]) := by
  have hx := C.1.1
  have hb := C.1.2.1
  unfold j_X3_hasPlace_25 at h
  exact ret_z C w h dX3_hasPlace_25
set_option maxHeartbeats 4000000 in
set_option maxRecDepth 100000 in
theorem t_X3_hasPlace_24 (C : Cx G p s m args meth c RX3 cX3_hasPlace 2 (some .boolean)) {post : Int32 → Mem → Prop} (M : Mem) {H : Heap} {locs : List Loc} {ls : Array Slot} (w : Wd G s M H locs) (hl : lv_has ls 2 []) (h : j_X3_hasPlace_24 post M) : W p l e (rmk 1) s m args below meth c H locs 0 0 (MQ below (va_Qi post (Qw G) (Af G s.heap.size)) args s 0 0 (Af G s.heap.size)) (F0 m 24 ls []) := by
  have hx := C.1.1
  have hb := C.1.2.1
  unfold j_X3_hasPlace_24 at h
  refine lv_iconst (v := 0) hx hb dX3_hasPlace_24 (by decide) ?_
  exact t_X3_hasPlace_25 C M (0 : Int32)  w (lv_sub hl [] rfl) h
set_option maxHeartbeats 4000000 in
set_option maxRecDepth 100000 in
theorem c_X3_hasPlace (l : Launch) (G : GG) (hG : Ag G) (sz : Nat) (M : Mem) (a0 : Nat) (x1 : Int32) (ha0 : 14 ≤ a0 ∧ a0 < 22) (post : Int32 → Mem → Prop) (h : q_X3_hasPlace M a0 x1 post) : Met l yX3_hasPlace (Cond.code yX3_hasPlace cX3_hasPlace 2 (some .boolean) :: wsL_law) (rmk 1) (va_Pc [.ref (ga G a0), .int x1] (Pw G sz M)) (va_Qi post (Qw G) (Af G sz)) 0 0 (Af G sz) := by
  refine Met.ofW (cc := cX3_hasPlace) (maxL := 2) (ret := (some .boolean)) (by decide) rfl ?_
  intro p e s m args below meth c s₁ B hml hv
  obtain ⟨rfl, hsz, hE, hP⟩ := hv
  subst hsz
  have C := Cx.of (own := RX3) hG hE rfl hml B
  have w : Wd G s M s.heap [] := ⟨hP, va_S.rf⟩
  have hl := lv_entry [.ref (ga G a0), .int x1] (n := 2) (Nat.le_of_ble_eq_true rfl)
  rw [lg_entry_eq]
  generalize (lg_sl [.ref (ga G a0), .int x1] ++ List.replicate (2 - (lg_sl [.ref (ga G a0), .int x1]).length) Slot.unset).toArray = ls at hl ⊢
  have hl : lv_has ls 2 [(0, .ref (ga G a0)), (1, .int x1)] := hl
  have hx := C.1.1
  have hb := C.1.2.1
  show W p l e (rmk 1) s m _ below meth c s.heap [] 0 0 _ _
  unfold q_X3_hasPlace at h
  refine lv_aload_n hx hb dX3_hasPlace_0 rfl (lv_at hl 0 rfl) ?_
  refine gt_3_0 C w ha0 kw_4_14 dX3_hasPlace_1 ?_
  refine lv_iconst (v := 2) hx hb dX3_hasPlace_4 (by decide) ?_
  refine lv_icmp_ne (tgt := 24) hx hb dX3_hasPlace_5 (by decide) (fun c1 => ?_) (fun c1 => ?_)
  · replace h := h.2 c1
    exact t_X3_hasPlace_24 C M   w (lv_sub hl [] rfl) h
  replace h := h.1 c1
  refine lv_iload_n hx hb dX3_hasPlace_8 rfl (lv_at hl 1 rfl) ?_
  refine lv_if_lt (tgt := 24) hx hb dX3_hasPlace_9 (by decide) (fun c2 => ?_) (fun c2 => ?_)
  · replace h := h.1 c2
    exact t_X3_hasPlace_24 C M   w (lv_sub hl [] rfl) h
  replace h := h.2 c2
  refine lv_iload_n hx hb dX3_hasPlace_12 rfl (lv_at hl 1 rfl) ?_
  refine lv_aload_n hx hb dX3_hasPlace_13 rfl (lv_at hl 0 rfl) ?_
  refine gt_3_3 C w ha0 kw_4_18 dX3_hasPlace_14 ?_
  refine lv_icmp_ge (tgt := 24) hx hb dX3_hasPlace_17 (by decide) (fun c3 => ?_) (fun c3 => ?_)
  · replace h := h.1 c3
    exact t_X3_hasPlace_24 C M   w (lv_sub hl [] rfl) h
  replace h := h.2 c3
  refine lv_iconst (v := 1) hx hb dX3_hasPlace_20 (by decide) ?_
  refine lv_goto (tgt := 25) hx hb dX3_hasPlace_21 (by decide) ?_
  exact t_X3_hasPlace_25 C M (1 : Int32)  w (lv_sub hl [] rfl) h
def j_X3_byteAt_20 (post : Int32 → Mem → Prop) (M : Mem) (y0 : Int32) : Prop := post y0 M
def q_X3_byteAt (M : Mem) (a0 : Nat) (x1 : Int32) (post : Int32 → Mem → Prop) : Prop := q_X3_hasPlace M a0 x1 (fun r1 M2 => (r1 = 0 → (j_X3_byteAt_20 post M2 (256 : Int32))) ∧ (¬ (r1 = 0) → (vp_in x1 100 ∧ (j_X3_byteAt_20 post M2 (M2 (8 + a0) x1.toNatClampNeg)))))
set_option maxHeartbeats 4000000 in
set_option maxRecDepth 100000 in
theorem t_X3_byteAt_20 (C : Cx G p s m args meth c RX3 cX3_byteAt 2 (some .int)) {post : Int32 → Mem → Prop} (M : Mem) (y0 : Int32) {H : Heap} {locs : List Loc} {ls : Array Slot} (w : Wd G s M H locs) (hl : lv_has ls 2 []) (h : j_X3_byteAt_20 post M y0) : W p l e (rmk 2) s m args below meth c H locs 0 0 (MQ below (va_Qi post (Qw G) (Af G s.heap.size)) args s 0 0 (Af G s.heap.size)) (F0 m 20 ls [.int y0]) := by
  have hx := C.1.1
  have hb := C.1.2.1
  unfold j_X3_byteAt_20 at h
  exact ret_i C w h dX3_byteAt_20
set_option maxHeartbeats 4000000 in
set_option maxRecDepth 100000 in
theorem c_X3_byteAt (l : Launch) (G : GG) (hG : Ag G) (sz : Nat) (M : Mem) (a0 : Nat) (x1 : Int32) (ha0 : 14 ≤ a0 ∧ a0 < 22) (post : Int32 → Mem → Prop) (h : q_X3_byteAt M a0 x1 post) : Met l yX3_byteAt (Cond.code yX3_byteAt cX3_byteAt 2 (some .int) :: wsL_law) (rmk 2) (va_Pc [.ref (ga G a0), .int x1] (Pw G sz M)) (va_Qi post (Qw G) (Af G sz)) 0 0 (Af G sz) := by
  refine Met.ofW (cc := cX3_byteAt) (maxL := 2) (ret := (some .int)) (by decide) rfl ?_
  intro p e s m args below meth c s₁ B hml hv
  obtain ⟨rfl, hsz, hE, hP⟩ := hv
  subst hsz
  have C := Cx.of (own := RX3) hG hE rfl hml B
  have w : Wd G s M s.heap [] := ⟨hP, va_S.rf⟩
  have hl := lv_entry [.ref (ga G a0), .int x1] (n := 2) (Nat.le_of_ble_eq_true rfl)
  rw [lg_entry_eq]
  generalize (lg_sl [.ref (ga G a0), .int x1] ++ List.replicate (2 - (lg_sl [.ref (ga G a0), .int x1]).length) Slot.unset).toArray = ls at hl ⊢
  have hl : lv_has ls 2 [(0, .ref (ga G a0)), (1, .int x1)] := hl
  have hx := C.1.1
  have hb := C.1.2.1
  show W p l e (rmk 2) s m _ below meth c s.heap [] 0 0 _ _
  unfold q_X3_byteAt at h
  refine lv_aload_n hx hb dX3_byteAt_0 rfl (lv_at hl 0 rfl) ?_
  refine lv_iload_n hx hb dX3_byteAt_1 rfl (lv_at hl 1 rfl) ?_
  refine end_i w (run_V (As := [.int x1]) C w hl.1 (c_X3_hasPlace l G C.2.2.1 _ _ a0 x1 ha0 _ h) kw_7_8 kw_2_11 kw_7_5 kw_7_6 kw_7_7 hd_X3_hasPlace ⟨by decide, by decide⟩ (w.recv C (i := a0) (by omega) (pE_3 ha0) rfl) rfl (Nat.le_of_ble_eq_true rfl) dX3_byteAt_2) (fun r1 M2 H locs h w => ?_)
  refine lv_if_eq (tgt := 17) hx hb dX3_byteAt_5 (by decide) (fun c3 => ?_) (fun c3 => ?_)
  · replace h := h.1 c3
    refine lv_sipush (v := 256) hx hb dX3_byteAt_17 (by decide) ?_
    exact t_X3_byteAt_20 C M2 (256 : Int32)  w (lv_sub hl [] rfl) h
  replace h := h.2 c3
  refine lv_aload_n hx hb dX3_byteAt_8 rfl (lv_at hl 0 rfl) ?_
  refine gt_3_4 C w ha0 kw_4_19 dX3_byteAt_9 ?_
  refine lv_iload_n hx hb dX3_byteAt_12 rfl (lv_at hl 1 rfl) ?_
  have hin4 := h.1
  replace h := h.2
  have hz_hin4 := in_lt hin4
  refine pw_ld C w (i := (8 + a0)) (by omega) (pE_el (by omega)) hin4 rfl dX3_byteAt_13 ?_
  refine lv_goto (tgt := 20) hx hb dX3_byteAt_14 (by decide) ?_
  exact t_X3_byteAt_20 C M2 (M2 (8 + a0) x1.toNatClampNeg)  w (lv_sub hl [] rfl) h
def j_X2_scanNumber_68 (post : Int32 → Mem → Prop) (M : Mem) (x3 : Int32) (x4 : Int32) : Prop := q_X2_take M x3 x4 (fun r1 M2 => (r1 = 0 ∨ r1 = 1) ∧ post r1 M2)
def b_X2_scanNumber_15 (k15 : Mem → Nat → Int32 → Int32 → Int32 → Prop) (post : Int32 → Mem → Prop) (M : Mem) (a1 : Nat) (x2 : Int32) (x3 : Int32) (x4 : Int32) : Prop := (x2 ≤ x4 → (j_X2_scanNumber_68 post M x3 x4)) ∧ (¬ (x2 ≤ x4) → ((x3 = 0 → (j_X2_scanNumber_68 post M x3 x4)) ∧ (¬ (x3 = 0) → (q_X3_byteAt M a1 ((M 5 0) + x4) (fun r5 M6 => q_X2_isDigit M6 r5 (fun r7 M8 => (r7 = 0 → (j_X2_scanNumber_68 post M8 x3 x4)) ∧ (¬ (r7 = 0) → (q_X3_byteAt M8 a1 ((M8 5 0) + x4) (fun r10 M11 => ∀ v12 : Int32, v12 = ((((10 : Int32) * x3) + r10) - (48 : Int32)) → (k15 M11 a1 x2 v12 (x4 + (1 : Int32))))))))))))
def lp_X2_scanNumber_15 (post : Int32 → Mem → Prop) : Nat → Mem → Nat → Int32 → Int32 → Int32 → Prop
  | 0 => fun _ _ _ _ _ => False
  | n + 1 => fun M a1 x2 x3 x4 => b_X2_scanNumber_15 (lp_X2_scanNumber_15 post n) post M a1 x2 x3 x4
def q_X2_scanNumber (M : Mem) (a1 : Nat) (x2 : Int32) (post : Int32 → Mem → Prop) : Prop := q_X3_byteAt M a1 (M 5 0) (fun r13 M14 => ∃ n, lp_X2_scanNumber_15 post n M14 a1 x2 (r13 - (48 : Int32)) (1 : Int32))
set_option maxHeartbeats 4000000 in
set_option maxRecDepth 100000 in
theorem t_X2_scanNumber_68 (C : Cx G p s m args meth c RX2 cX2_scanNumber 5 (some .boolean)) {post : Int32 → Mem → Prop} (M : Mem) (x3 : Int32) (x4 : Int32) {H : Heap} {locs : List Loc} {ls : Array Slot} (w : Wd G s M H locs) (hl : lv_has ls 5 [(0, .ref (ga G 5)), (3, .int x3), (4, .int x4)]) (h : j_X2_scanNumber_68 post M x3 x4) : W p l e (rmk 3) s m args below meth c H locs 0 0 (MQ below (va_Qi post (Qw G) (Af G s.heap.size)) args s 0 0 (Af G s.heap.size)) (F0 m 68 ls []) := by
  have hx := C.1.1
  have hb := C.1.2.1
  unfold j_X2_scanNumber_68 at h
  refine lv_aload_n hx hb dX2_scanNumber_68 rfl (lv_at hl 0 rfl) ?_
  refine lv_iload_n hx hb dX2_scanNumber_69 rfl (lv_at hl 1 rfl) ?_
  refine lv_iload hx hb dX2_scanNumber_70 (lv_at hl 2 rfl) ?_
  refine end_i w (run_V (As := [.int x3, .int x4]) C w hl.1 (c_X2_take l G C.2.2.1 _ _ x3 x4  _ h) kw_10_7 kw_2_5 kw_10_4 kw_10_5 kw_10_6 hd_X2_take ⟨by decide, by decide⟩ (w.recv C (i := 5) (by decide) (pE_2) rfl) rfl (Nat.le_of_ble_eq_true rfl) dX2_scanNumber_72) (fun r1 M2 H locs h w => ?_)
  exact ret_z C w h dX2_scanNumber_75
set_option maxHeartbeats 4000000 in
set_option maxRecDepth 100000 in
theorem t_X2_scanNumber_15 (C : Cx G p s m args meth c RX2 cX2_scanNumber 5 (some .boolean)) {post : Int32 → Mem → Prop} : ∀ (n : Nat) (M : Mem) (a1 : Nat) (x2 : Int32) (x3 : Int32) (x4 : Int32) {H : Heap} {locs : List Loc} {ls : Array Slot} (ha1 : 14 ≤ a1 ∧ a1 < 22) (w : Wd G s M H locs) (hl : lv_has ls 5 [(0, .ref (ga G 5)), (1, .ref (ga G a1)), (2, .int x2), (3, .int x3), (4, .int x4)]) (h : lp_X2_scanNumber_15 post n M a1 x2 x3 x4), W p l e (rmk 3) s m args below meth c H locs 0 0 (MQ below (va_Qi post (Qw G) (Af G s.heap.size)) args s 0 0 (Af G s.heap.size)) (F0 m 15 ls []) := by
  have hx := C.1.1
  have hb := C.1.2.1
  intro n9
  induction n9 with
  | zero => intro M a1 x2 x3 x4 H locs ls ha1 w hl h; exact absurd h id
  | succ n9 ih9 =>
    intro M a1 x2 x3 x4 H locs ls ha1 w hl h
    have hk15 : ∀ (M : Mem) (a1 : Nat) (x2 : Int32) (x3 : Int32) (x4 : Int32) (H : Heap) (locs : List Loc) (ls : Array Slot), (14 ≤ a1 ∧ a1 < 22) → Wd G s M H locs → lv_has ls 5 [(0, .ref (ga G 5)), (1, .ref (ga G a1)), (2, .int x2), (3, .int x3), (4, .int x4)] → lp_X2_scanNumber_15 post n9 M a1 x2 x3 x4 → W p l e (rmk 3) s m args below meth c H locs 0 0 (MQ below (va_Qi post (Qw G) (Af G s.heap.size)) args s 0 0 (Af G s.heap.size)) (F0 m 15 ls []) := fun M a1 x2 x3 x4 H locs ls ha1 w hl h => ih9 M a1 x2 x3 x4 ha1 w hl h
    replace h : b_X2_scanNumber_15 (lp_X2_scanNumber_15 post n9) post M a1 x2 x3 x4 := h
    unfold b_X2_scanNumber_15 at h
    refine lv_iload hx hb dX2_scanNumber_15 (lv_at hl 4 rfl) ?_
    refine lv_iload_n hx hb dX2_scanNumber_17 rfl (lv_at hl 2 rfl) ?_
    refine lv_icmp_ge (tgt := 68) hx hb dX2_scanNumber_18 (by decide) (fun c3 => ?_) (fun c3 => ?_)
    · replace h := h.1 c3
      exact t_X2_scanNumber_68 C M x3 x4  w (lv_sub hl [0, 3, 4] rfl) h
    replace h := h.2 c3
    refine lv_iload_n hx hb dX2_scanNumber_21 rfl (lv_at hl 3 rfl) ?_
    refine lv_if_eq (tgt := 68) hx hb dX2_scanNumber_22 (by decide) (fun c4 => ?_) (fun c4 => ?_)
    · replace h := h.1 c4
      exact t_X2_scanNumber_68 C M x3 x4  w (lv_sub hl [0, 3, 4] rfl) h
    replace h := h.2 c4
    refine lv_aload_n hx hb dX2_scanNumber_25 rfl (lv_at hl 1 rfl) ?_
    refine lv_aload_n hx hb dX2_scanNumber_26 rfl (lv_at hl 0 rfl) ?_
    refine gt_2_0 C w kw_4_7 dX2_scanNumber_27 ?_
    refine lv_iload hx hb dX2_scanNumber_30 (lv_at hl 4 rfl) ?_
    refine lv_iadd hx hb dX2_scanNumber_32 ?_
    refine end_i w (run_VN (As := [.int ((M 5 0) + x4)]) C w hl.1 (c_X3_byteAt l G C.2.2.1 _ _ a1 ((M 5 0) + x4) ha1 _ h) kw_7_4 kw_2_11 kn_47 kw_7_2 kw_7_3 hd_X3_byteAt ⟨by decide, by decide⟩ (w.recv C (i := a1) (by omega) (pE_3 ha1) rfl) rfl (Nat.le_of_ble_eq_true rfl) dX2_scanNumber_33) (fun r5 M6 H locs h w => ?_)
    refine end_i w (run_S (As := [.int r5]) C w hl.1 (c_X2_isDigit l G C.2.2.1 _ _ r5  _ h) kw_9_23 kw_2_5 kw_9_21 kw_9_22 hd_X2_isDigit ⟨by decide, by decide⟩ rfl (Nat.le_of_ble_eq_true rfl) dX2_scanNumber_36) (fun r7 M8 H locs h w => ?_)
    refine lv_if_eq (tgt := 68) hx hb dX2_scanNumber_39 (by decide) (fun c9 => ?_) (fun c9 => ?_)
    · replace h := h.1 c9
      exact t_X2_scanNumber_68 C M8 x3 x4  w (lv_sub hl [0, 3, 4] rfl) h
    replace h := h.2 c9
    refine lv_bipush (v := 10) hx hb dX2_scanNumber_42 (by decide) ?_
    refine lv_iload_n hx hb dX2_scanNumber_44 rfl (lv_at hl 3 rfl) ?_
    refine lv_imul hx hb dX2_scanNumber_45 ?_
    refine lv_aload_n hx hb dX2_scanNumber_46 rfl (lv_at hl 1 rfl) ?_
    refine lv_aload_n hx hb dX2_scanNumber_47 rfl (lv_at hl 0 rfl) ?_
    refine gt_2_0 C w kw_4_7 dX2_scanNumber_48 ?_
    refine lv_iload hx hb dX2_scanNumber_51 (lv_at hl 4 rfl) ?_
    refine lv_iadd hx hb dX2_scanNumber_53 ?_
    refine end_i w (run_VN (As := [.int ((M8 5 0) + x4)]) C w hl.1 (c_X3_byteAt l G C.2.2.1 _ _ a1 ((M8 5 0) + x4) ha1 _ h) kw_7_4 kw_2_11 kn_47 kw_7_2 kw_7_3 hd_X3_byteAt ⟨by decide, by decide⟩ (w.recv C (i := a1) (by omega) (pE_3 ha1) rfl) rfl (Nat.le_of_ble_eq_true rfl) dX2_scanNumber_54) (fun r10 M11 H locs h w => ?_)
    refine lv_iadd hx hb dX2_scanNumber_57 ?_
    refine lv_bipush (v := 48) hx hb dX2_scanNumber_58 (by decide) ?_
    refine lv_isub hx hb dX2_scanNumber_60 ?_
    refine lv_topi (fun v12 ev12 => ?_)
    replace h := h v12 ev12
    refine lv_istore_n (lv' := [(3, .int v12), (0, .ref (ga G 5)), (1, .ref (ga G a1)), (2, .int x2), (4, .int x4)]) hx hb dX2_scanNumber_61 rfl hl (by decide) rfl (fun ls hl => ?_)
    refine lv_iinc (v := (x4 + (1 : Int32))) (lv' := [(4, .int (x4 + (1 : Int32))), (3, .int v12), (0, .ref (ga G 5)), (1, .ref (ga G a1)), (2, .int x2)]) hx hb dX2_scanNumber_62 hl (k := 4) rfl rfl (by decide) rfl (fun ls hl => ?_)
    refine lv_goto (tgt := 15) hx hb dX2_scanNumber_65 (by decide) ?_
    exact hk15 M11 a1 x2 v12 (x4 + (1 : Int32)) _ _ _ ha1 w (lv_sub hl [2, 3, 4, 1, 0] rfl) h
set_option maxHeartbeats 4000000 in
set_option maxRecDepth 100000 in
theorem c_X2_scanNumber (l : Launch) (G : GG) (hG : Ag G) (sz : Nat) (M : Mem) (a1 : Nat) (x2 : Int32) (ha1 : 14 ≤ a1 ∧ a1 < 22) (post : Int32 → Mem → Prop) (h : q_X2_scanNumber M a1 x2 post) : Met l yX2_scanNumber (Cond.code yX2_scanNumber cX2_scanNumber 5 (some .boolean) :: wsL_law) (rmk 3) (va_Pc [.ref (ga G 5), .ref (ga G a1), .int x2] (Pw G sz M)) (va_Qi post (Qw G) (Af G sz)) 0 0 (Af G sz) := by
  refine Met.ofW (cc := cX2_scanNumber) (maxL := 5) (ret := (some .boolean)) (by decide) rfl ?_
  intro p e s m args below meth c s₁ B hml hv
  obtain ⟨rfl, hsz, hE, hP⟩ := hv
  subst hsz
  have C := Cx.of (own := RX2) hG hE rfl hml B
  have w : Wd G s M s.heap [] := ⟨hP, va_S.rf⟩
  have hl := lv_entry [.ref (ga G 5), .ref (ga G a1), .int x2] (n := 5) (Nat.le_of_ble_eq_true rfl)
  rw [lg_entry_eq]
  generalize (lg_sl [.ref (ga G 5), .ref (ga G a1), .int x2] ++ List.replicate (5 - (lg_sl [.ref (ga G 5), .ref (ga G a1), .int x2]).length) Slot.unset).toArray = ls at hl ⊢
  have hl : lv_has ls 5 [(0, .ref (ga G 5)), (1, .ref (ga G a1)), (2, .int x2)] := hl
  have hx := C.1.1
  have hb := C.1.2.1
  show W p l e (rmk 3) s m _ below meth c s.heap [] 0 0 _ _
  unfold q_X2_scanNumber at h
  refine lv_aload_n hx hb dX2_scanNumber_0 rfl (lv_at hl 1 rfl) ?_
  refine lv_aload_n hx hb dX2_scanNumber_1 rfl (lv_at hl 0 rfl) ?_
  refine gt_2_0 C w kw_4_7 dX2_scanNumber_2 ?_
  refine end_i w (run_VN (As := [.int (M 5 0)]) C w hl.1 (c_X3_byteAt l G C.2.2.1 _ _ a1 (M 5 0) ha1 _ h) kw_7_4 kw_2_11 kn_47 kw_7_2 kw_7_3 hd_X3_byteAt ⟨by decide, by decide⟩ (w.recv C (i := a1) (by omega) (pE_3 ha1) rfl) rfl (Nat.le_of_ble_eq_true rfl) dX2_scanNumber_5) (fun r13 M14 H locs h w => ?_)
  refine lv_bipush (v := 48) hx hb dX2_scanNumber_8 (by decide) ?_
  refine lv_isub hx hb dX2_scanNumber_10 ?_
  refine lv_istore_n (lv' := [(3, .int (r13 - (48 : Int32))), (0, .ref (ga G 5)), (1, .ref (ga G a1)), (2, .int x2)]) hx hb dX2_scanNumber_11 rfl hl (by decide) rfl (fun ls hl => ?_)
  refine lv_iconst (v := 1) hx hb dX2_scanNumber_12 (by decide) ?_
  refine lv_istore (lv' := [(4, .int (1 : Int32)), (3, .int (r13 - (48 : Int32))), (0, .ref (ga G 5)), (1, .ref (ga G a1)), (2, .int x2)]) hx hb dX2_scanNumber_13 hl (by decide) rfl (fun ls hl => ?_)
  obtain ⟨n, h⟩ := h
  exact t_X2_scanNumber_15 C n M14 a1 x2 (r13 - (48 : Int32)) (1 : Int32) ha1 w (lv_sub hl [2, 3, 4, 1, 0] rfl) h
def j_X2_scanPart_124 (post : Int32 → Mem → Prop) (M : Mem) (y0 : Int32) : Prop := (y0 = 0 ∨ y0 = 1) ∧ post y0 M
def j_X2_scanPart_123 (post : Int32 → Mem → Prop) (M : Mem) : Prop := j_X2_scanPart_124 post M (0 : Int32)
def j_X2_scanPart_112 (post : Int32 → Mem → Prop) (M : Mem) (y0 : Int32) : Prop := q_X2_take M y0 (1 : Int32) (fun r1 M2 => (r1 = 0 → (j_X2_scanPart_123 post M2)) ∧ (¬ (r1 = 0) → (j_X2_scanPart_124 post M2 (1 : Int32))))
def j_X2_scanPart_100 (post : Int32 → Mem → Prop) (M : Mem) (x3 : Int32) : Prop := (x3 = (45 : Int32) → (j_X2_scanPart_112 post M (-1 : Int32))) ∧ (¬ (x3 = (45 : Int32)) → (j_X2_scanPart_112 post M (1 : Int32)))
def j_X2_scanPart_87 (post : Int32 → Mem → Prop) (M : Mem) (y0 : Int32) : Prop := (y0 = 0 ∨ y0 = 1) ∧ post y0 M
def j_X2_scanPart_86 (post : Int32 → Mem → Prop) (M : Mem) : Prop := j_X2_scanPart_87 post M (0 : Int32)
def j_X2_scanPart_65 (post : Int32 → Mem → Prop) (M : Mem) (y0 : Int32) : Prop := (y0 = 0 ∨ y0 = 1) ∧ post y0 M
def j_X2_scanPart_64 (post : Int32 → Mem → Prop) (M : Mem) : Prop := j_X2_scanPart_65 post M (0 : Int32)
def q_X2_scanPart (M : Mem) (a1 : Nat) (x2 : Int32) (post : Int32 → Mem → Prop) : Prop := q_X3_byteAt M a1 (M 5 0) (fun r5 M6 => (x2 = (68 : Int32) → (q_X2_isDigit M6 r5 (fun r8 M9 => (r8 = 0 → (j_X2_scanPart_64 post M9)) ∧ (¬ (r8 = 0) → (q_X2_scanNumber M9 a1 (1 : Int32) (fun r11 M12 => (r11 = 0 → (j_X2_scanPart_64 post M12)) ∧ (¬ (r11 = 0) → (j_X2_scanPart_65 post M12 (1 : Int32))))))))) ∧ (¬ x2 = (68 : Int32) → ((x2 = (78 : Int32) → (q_X2_isDigit M6 r5 (fun r15 M16 => (r15 = 0 → (j_X2_scanPart_86 post M16)) ∧ (¬ (r15 = 0) → (q_X2_scanNumber M16 a1 (3 : Int32) (fun r18 M19 => (r18 = 0 → (j_X2_scanPart_86 post M19)) ∧ (¬ (r18 = 0) → (j_X2_scanPart_87 post M19 (1 : Int32))))))))) ∧ (¬ x2 = (78 : Int32) → ((x2 = (83 : Int32) → ((r5 = (43 : Int32) → (j_X2_scanPart_100 post M6 r5)) ∧ (¬ (r5 = (43 : Int32)) → ((r5 = (45 : Int32) → (j_X2_scanPart_100 post M6 r5)) ∧ (¬ (r5 = (45 : Int32)) → (j_X2_scanPart_123 post M6)))))) ∧ (¬ x2 = (83 : Int32) → ((r5 = x2 → (∀ M25 : Mem, M25 = (mup M6 5 0 ((M6 5 0) + (1 : Int32))) → (post (1 : Int32) M25))) ∧ (¬ (r5 = x2) → (post (0 : Int32) M6)))))))))
set_option maxHeartbeats 4000000 in
set_option maxRecDepth 100000 in
theorem t_X2_scanPart_124 (C : Cx G p s m args meth c RX2 cX2_scanPart 4 (some .boolean)) {post : Int32 → Mem → Prop} (M : Mem) (y0 : Int32) {H : Heap} {locs : List Loc} {ls : Array Slot} (w : Wd G s M H locs) (hl : lv_has ls 4 []) (h : j_X2_scanPart_124 post M y0) : W p l e (rmk 4) s m args below meth c H locs 0 0 (MQ below (va_Qi post (Qw G) (Af G s.heap.size)) args s 0 0 (Af G s.heap.size)) (F0 m 124 ls [.int y0]) := by
  have hx := C.1.1
  have hb := C.1.2.1
  unfold j_X2_scanPart_124 at h
  exact ret_z C w h dX2_scanPart_124
set_option maxHeartbeats 4000000 in
set_option maxRecDepth 100000 in
theorem t_X2_scanPart_123 (C : Cx G p s m args meth c RX2 cX2_scanPart 4 (some .boolean)) {post : Int32 → Mem → Prop} (M : Mem) {H : Heap} {locs : List Loc} {ls : Array Slot} (w : Wd G s M H locs) (hl : lv_has ls 4 []) (h : j_X2_scanPart_123 post M) : W p l e (rmk 4) s m args below meth c H locs 0 0 (MQ below (va_Qi post (Qw G) (Af G s.heap.size)) args s 0 0 (Af G s.heap.size)) (F0 m 123 ls []) := by
  have hx := C.1.1
  have hb := C.1.2.1
  unfold j_X2_scanPart_123 at h
  refine lv_iconst (v := 0) hx hb dX2_scanPart_123 (by decide) ?_
  exact t_X2_scanPart_124 C M (0 : Int32)  w (lv_sub hl [] rfl) h
set_option maxHeartbeats 4000000 in
set_option maxRecDepth 100000 in
theorem t_X2_scanPart_112 (C : Cx G p s m args meth c RX2 cX2_scanPart 4 (some .boolean)) {post : Int32 → Mem → Prop} (M : Mem) (y0 : Int32) {H : Heap} {locs : List Loc} {ls : Array Slot} (w : Wd G s M H locs) (hl : lv_has ls 4 []) (h : j_X2_scanPart_112 post M y0) : W p l e (rmk 4) s m args below meth c H locs 0 0 (MQ below (va_Qi post (Qw G) (Af G s.heap.size)) args s 0 0 (Af G s.heap.size)) (F0 m 112 ls [.int y0, .ref (ga G 5)]) := by
  have hx := C.1.1
  have hb := C.1.2.1
  unfold j_X2_scanPart_112 at h
  refine lv_iconst (v := 1) hx hb dX2_scanPart_112 (by decide) ?_
  refine end_i w (run_V (As := [.int y0, .int (1 : Int32)]) C w hl.1 (c_X2_take l G C.2.2.1 _ _ y0 (1 : Int32)  _ h) kw_10_7 kw_2_5 kw_10_4 kw_10_5 kw_10_6 hd_X2_take ⟨by decide, by decide⟩ (w.recv C (i := 5) (by decide) (pE_2) rfl) rfl (Nat.le_of_ble_eq_true rfl) dX2_scanPart_113) (fun r1 M2 H locs h w => ?_)
  refine lv_if_eq (tgt := 123) hx hb dX2_scanPart_116 (by decide) (fun c3 => ?_) (fun c3 => ?_)
  · replace h := h.1 c3
    exact t_X2_scanPart_123 C M2   w (lv_sub hl [] rfl) h
  replace h := h.2 c3
  refine lv_iconst (v := 1) hx hb dX2_scanPart_119 (by decide) ?_
  refine lv_goto (tgt := 124) hx hb dX2_scanPart_120 (by decide) ?_
  exact t_X2_scanPart_124 C M2 (1 : Int32)  w (lv_sub hl [] rfl) h
set_option maxHeartbeats 4000000 in
set_option maxRecDepth 100000 in
theorem t_X2_scanPart_100 (C : Cx G p s m args meth c RX2 cX2_scanPart 4 (some .boolean)) {post : Int32 → Mem → Prop} (M : Mem) (x3 : Int32) {H : Heap} {locs : List Loc} {ls : Array Slot} (w : Wd G s M H locs) (hl : lv_has ls 4 [(0, .ref (ga G 5)), (3, .int x3)]) (h : j_X2_scanPart_100 post M x3) : W p l e (rmk 4) s m args below meth c H locs 0 0 (MQ below (va_Qi post (Qw G) (Af G s.heap.size)) args s 0 0 (Af G s.heap.size)) (F0 m 100 ls []) := by
  have hx := C.1.1
  have hb := C.1.2.1
  unfold j_X2_scanPart_100 at h
  refine lv_aload_n hx hb dX2_scanPart_100 rfl (lv_at hl 0 rfl) ?_
  refine lv_iload_n hx hb dX2_scanPart_101 rfl (lv_at hl 1 rfl) ?_
  refine lv_bipush (v := 45) hx hb dX2_scanPart_102 (by decide) ?_
  refine lv_icmp_ne (tgt := 111) hx hb dX2_scanPart_104 (by decide) (fun c4 => ?_) (fun c4 => ?_)
  · replace h := h.2 c4
    refine lv_iconst (v := 1) hx hb dX2_scanPart_111 (by decide) ?_
    exact t_X2_scanPart_112 C M (1 : Int32)  w (lv_sub hl [] rfl) h
  replace h := h.1 c4
  refine lv_iconst (v := -1) hx hb dX2_scanPart_107 (by decide) ?_
  refine lv_goto (tgt := 112) hx hb dX2_scanPart_108 (by decide) ?_
  exact t_X2_scanPart_112 C M (-1 : Int32)  w (lv_sub hl [] rfl) h
set_option maxHeartbeats 4000000 in
set_option maxRecDepth 100000 in
theorem t_X2_scanPart_87 (C : Cx G p s m args meth c RX2 cX2_scanPart 4 (some .boolean)) {post : Int32 → Mem → Prop} (M : Mem) (y0 : Int32) {H : Heap} {locs : List Loc} {ls : Array Slot} (w : Wd G s M H locs) (hl : lv_has ls 4 []) (h : j_X2_scanPart_87 post M y0) : W p l e (rmk 4) s m args below meth c H locs 0 0 (MQ below (va_Qi post (Qw G) (Af G s.heap.size)) args s 0 0 (Af G s.heap.size)) (F0 m 87 ls [.int y0]) := by
  have hx := C.1.1
  have hb := C.1.2.1
  unfold j_X2_scanPart_87 at h
  exact ret_z C w h dX2_scanPart_87
set_option maxHeartbeats 4000000 in
set_option maxRecDepth 100000 in
theorem t_X2_scanPart_86 (C : Cx G p s m args meth c RX2 cX2_scanPart 4 (some .boolean)) {post : Int32 → Mem → Prop} (M : Mem) {H : Heap} {locs : List Loc} {ls : Array Slot} (w : Wd G s M H locs) (hl : lv_has ls 4 []) (h : j_X2_scanPart_86 post M) : W p l e (rmk 4) s m args below meth c H locs 0 0 (MQ below (va_Qi post (Qw G) (Af G s.heap.size)) args s 0 0 (Af G s.heap.size)) (F0 m 86 ls []) := by
  have hx := C.1.1
  have hb := C.1.2.1
  unfold j_X2_scanPart_86 at h
  refine lv_iconst (v := 0) hx hb dX2_scanPart_86 (by decide) ?_
  exact t_X2_scanPart_87 C M (0 : Int32)  w (lv_sub hl [] rfl) h
set_option maxHeartbeats 4000000 in
set_option maxRecDepth 100000 in
theorem t_X2_scanPart_65 (C : Cx G p s m args meth c RX2 cX2_scanPart 4 (some .boolean)) {post : Int32 → Mem → Prop} (M : Mem) (y0 : Int32) {H : Heap} {locs : List Loc} {ls : Array Slot} (w : Wd G s M H locs) (hl : lv_has ls 4 []) (h : j_X2_scanPart_65 post M y0) : W p l e (rmk 4) s m args below meth c H locs 0 0 (MQ below (va_Qi post (Qw G) (Af G s.heap.size)) args s 0 0 (Af G s.heap.size)) (F0 m 65 ls [.int y0]) := by
  have hx := C.1.1
  have hb := C.1.2.1
  unfold j_X2_scanPart_65 at h
  exact ret_z C w h dX2_scanPart_65
set_option maxHeartbeats 4000000 in
set_option maxRecDepth 100000 in
theorem t_X2_scanPart_64 (C : Cx G p s m args meth c RX2 cX2_scanPart 4 (some .boolean)) {post : Int32 → Mem → Prop} (M : Mem) {H : Heap} {locs : List Loc} {ls : Array Slot} (w : Wd G s M H locs) (hl : lv_has ls 4 []) (h : j_X2_scanPart_64 post M) : W p l e (rmk 4) s m args below meth c H locs 0 0 (MQ below (va_Qi post (Qw G) (Af G s.heap.size)) args s 0 0 (Af G s.heap.size)) (F0 m 64 ls []) := by
  have hx := C.1.1
  have hb := C.1.2.1
  unfold j_X2_scanPart_64 at h
  refine lv_iconst (v := 0) hx hb dX2_scanPart_64 (by decide) ?_
  exact t_X2_scanPart_65 C M (0 : Int32)  w (lv_sub hl [] rfl) h
set_option maxHeartbeats 4000000 in
set_option maxRecDepth 100000 in
theorem c_X2_scanPart (l : Launch) (G : GG) (hG : Ag G) (sz : Nat) (M : Mem) (a1 : Nat) (x2 : Int32) (ha1 : 14 ≤ a1 ∧ a1 < 22) (post : Int32 → Mem → Prop) (h : q_X2_scanPart M a1 x2 post) : Met l yX2_scanPart (Cond.code yX2_scanPart cX2_scanPart 4 (some .boolean) :: wsL_law) (rmk 4) (va_Pc [.ref (ga G 5), .ref (ga G a1), .int x2] (Pw G sz M)) (va_Qi post (Qw G) (Af G sz)) 0 0 (Af G sz) := by
  refine Met.ofW (cc := cX2_scanPart) (maxL := 4) (ret := (some .boolean)) (by decide) rfl ?_
  intro p e s m args below meth c s₁ B hml hv
  obtain ⟨rfl, hsz, hE, hP⟩ := hv
  subst hsz
  have C := Cx.of (own := RX2) hG hE rfl hml B
  have w : Wd G s M s.heap [] := ⟨hP, va_S.rf⟩
  have hl := lv_entry [.ref (ga G 5), .ref (ga G a1), .int x2] (n := 4) (Nat.le_of_ble_eq_true rfl)
  rw [lg_entry_eq]
  generalize (lg_sl [.ref (ga G 5), .ref (ga G a1), .int x2] ++ List.replicate (4 - (lg_sl [.ref (ga G 5), .ref (ga G a1), .int x2]).length) Slot.unset).toArray = ls at hl ⊢
  have hl : lv_has ls 4 [(0, .ref (ga G 5)), (1, .ref (ga G a1)), (2, .int x2)] := hl
  have hx := C.1.1
  have hb := C.1.2.1
  show W p l e (rmk 4) s m _ below meth c s.heap [] 0 0 _ _
  unfold q_X2_scanPart at h
  refine lv_aload_n hx hb dX2_scanPart_0 rfl (lv_at hl 1 rfl) ?_
  refine lv_aload_n hx hb dX2_scanPart_1 rfl (lv_at hl 0 rfl) ?_
  refine gt_2_0 C w kw_4_7 dX2_scanPart_2 ?_
  refine end_i w (run_VN (As := [.int (M 5 0)]) C w hl.1 (c_X3_byteAt l G C.2.2.1 _ _ a1 (M 5 0) ha1 _ h) kw_7_4 kw_2_11 kn_47 kw_7_2 kw_7_3 hd_X3_byteAt ⟨by decide, by decide⟩ (w.recv C (i := a1) (by omega) (pE_3 ha1) rfl) rfl (Nat.le_of_ble_eq_true rfl) dX2_scanPart_5) (fun r5 M6 H locs h w => ?_)
  refine lv_istore_n (lv' := [(3, .int r5), (0, .ref (ga G 5)), (1, .ref (ga G a1)), (2, .int x2)]) hx hb dX2_scanPart_8 rfl hl (by decide) rfl (fun ls hl => ?_)
  refine lv_iload_n hx hb dX2_scanPart_9 rfl (lv_at hl 3 rfl) ?_
  by_cases c7 : x2 = (68 : Int32)
  · replace h := h.1 c7
    refine lv_lookup (off := 34) (tgt := 44) hx hb dX2_scanPart_10 (by decide) (by rw [c7]; decide) (by decide) ?_
    refine lv_iload_n hx hb dX2_scanPart_44 rfl (lv_at hl 0 rfl) ?_
    refine end_i w (run_S (As := [.int r5]) C w hl.1 (c_X2_isDigit l G C.2.2.1 _ _ r5  _ h) kw_9_23 kw_2_5 kw_9_21 kw_9_22 hd_X2_isDigit ⟨by decide, by decide⟩ rfl (Nat.le_of_ble_eq_true rfl) dX2_scanPart_45) (fun r8 M9 H locs h w => ?_)
    refine lv_if_eq (tgt := 64) hx hb dX2_scanPart_48 (by decide) (fun c10 => ?_) (fun c10 => ?_)
    · replace h := h.1 c10
      exact t_X2_scanPart_64 C M9   w (lv_sub hl [] rfl) h
    replace h := h.2 c10
    refine lv_aload_n hx hb dX2_scanPart_51 rfl (lv_at hl 1 rfl) ?_
    refine lv_aload_n hx hb dX2_scanPart_52 rfl (lv_at hl 2 rfl) ?_
    refine lv_iconst (v := 1) hx hb dX2_scanPart_53 (by decide) ?_
    refine end_i w (run_V (As := [.ref (ga G a1), .int (1 : Int32)]) C w hl.1 (c_X2_scanNumber l G C.2.2.1 _ _ a1 (1 : Int32) ha1 _ h) kw_10_3 kw_2_5 kw_10_0 kw_10_1 kw_10_2 hd_X2_scanNumber ⟨by decide, by decide⟩ (w.recv C (i := 5) (by decide) (pE_2) rfl) rfl (Nat.le_of_ble_eq_true rfl) dX2_scanPart_54) (fun r11 M12 H locs h w => ?_)
    refine lv_if_eq (tgt := 64) hx hb dX2_scanPart_57 (by decide) (fun c13 => ?_) (fun c13 => ?_)
    · replace h := h.1 c13
      exact t_X2_scanPart_64 C M12   w (lv_sub hl [] rfl) h
    replace h := h.2 c13
    refine lv_iconst (v := 1) hx hb dX2_scanPart_60 (by decide) ?_
    refine lv_goto (tgt := 65) hx hb dX2_scanPart_61 (by decide) ?_
    exact t_X2_scanPart_65 C M12 (1 : Int32)  w (lv_sub hl [] rfl) h
  replace h := h.2 c7
  by_cases c14 : x2 = (78 : Int32)
  · replace h := h.1 c14
    refine lv_lookup (off := 56) (tgt := 66) hx hb dX2_scanPart_10 (by decide) (by rw [c14]; decide) (by decide) ?_
    refine lv_iload_n hx hb dX2_scanPart_66 rfl (lv_at hl 0 rfl) ?_
    refine end_i w (run_S (As := [.int r5]) C w hl.1 (c_X2_isDigit l G C.2.2.1 _ _ r5  _ h) kw_9_23 kw_2_5 kw_9_21 kw_9_22 hd_X2_isDigit ⟨by decide, by decide⟩ rfl (Nat.le_of_ble_eq_true rfl) dX2_scanPart_67) (fun r15 M16 H locs h w => ?_)
    refine lv_if_eq (tgt := 86) hx hb dX2_scanPart_70 (by decide) (fun c17 => ?_) (fun c17 => ?_)
    · replace h := h.1 c17
      exact t_X2_scanPart_86 C M16   w (lv_sub hl [] rfl) h
    replace h := h.2 c17
    refine lv_aload_n hx hb dX2_scanPart_73 rfl (lv_at hl 1 rfl) ?_
    refine lv_aload_n hx hb dX2_scanPart_74 rfl (lv_at hl 2 rfl) ?_
    refine lv_iconst (v := 3) hx hb dX2_scanPart_75 (by decide) ?_
    refine end_i w (run_V (As := [.ref (ga G a1), .int (3 : Int32)]) C w hl.1 (c_X2_scanNumber l G C.2.2.1 _ _ a1 (3 : Int32) ha1 _ h) kw_10_3 kw_2_5 kw_10_0 kw_10_1 kw_10_2 hd_X2_scanNumber ⟨by decide, by decide⟩ (w.recv C (i := 5) (by decide) (pE_2) rfl) rfl (Nat.le_of_ble_eq_true rfl) dX2_scanPart_76) (fun r18 M19 H locs h w => ?_)
    refine lv_if_eq (tgt := 86) hx hb dX2_scanPart_79 (by decide) (fun c20 => ?_) (fun c20 => ?_)
    · replace h := h.1 c20
      exact t_X2_scanPart_86 C M19   w (lv_sub hl [] rfl) h
    replace h := h.2 c20
    refine lv_iconst (v := 1) hx hb dX2_scanPart_82 (by decide) ?_
    refine lv_goto (tgt := 87) hx hb dX2_scanPart_83 (by decide) ?_
    exact t_X2_scanPart_87 C M19 (1 : Int32)  w (lv_sub hl [] rfl) h
  replace h := h.2 c14
  by_cases c21 : x2 = (83 : Int32)
  · replace h := h.1 c21
    refine lv_lookup (off := 78) (tgt := 88) hx hb dX2_scanPart_10 (by decide) (by rw [c21]; decide) (by decide) ?_
    refine lv_iload_n hx hb dX2_scanPart_88 rfl (lv_at hl 0 rfl) ?_
    refine lv_bipush (v := 43) hx hb dX2_scanPart_89 (by decide) ?_
    refine lv_icmp_eq (tgt := 100) hx hb dX2_scanPart_91 (by decide) (fun c22 => ?_) (fun c22 => ?_)
    · replace h := h.1 c22
      exact t_X2_scanPart_100 C M6 r5  w (lv_sub hl [1, 0] rfl) h
    replace h := h.2 c22
    refine lv_iload_n hx hb dX2_scanPart_94 rfl (lv_at hl 0 rfl) ?_
    refine lv_bipush (v := 45) hx hb dX2_scanPart_95 (by decide) ?_
    refine lv_icmp_ne (tgt := 123) hx hb dX2_scanPart_97 (by decide) (fun c23 => ?_) (fun c23 => ?_)
    · replace h := h.2 c23
      exact t_X2_scanPart_123 C M6   w (lv_sub hl [] rfl) h
    replace h := h.1 c23
    exact t_X2_scanPart_100 C M6 r5  w (lv_sub hl [1, 0] rfl) h
  replace h := h.2 c21
  refine lv_lookup (off := 115) (tgt := 125) hx hb dX2_scanPart_10 (by decide) ((lv_osw c7 (by decide)).trans ((lv_osw c14 (by decide)).trans ((lv_osw c21 (by decide)).trans rfl))) (by decide) ?_
  refine lv_iload_n hx hb dX2_scanPart_125 rfl (lv_at hl 0 rfl) ?_
  refine lv_iload_n hx hb dX2_scanPart_126 rfl (lv_at hl 3 rfl) ?_
  refine lv_icmp_eq (tgt := 132) hx hb dX2_scanPart_127 (by decide) (fun c24 => ?_) (fun c24 => ?_)
  · replace h := h.1 c24
    refine lv_aload_n hx hb dX2_scanPart_132 rfl (lv_at hl 1 rfl) ?_
    refine lv_dup hx hb dX2_scanPart_133 rfl ?_
    refine gt_2_0 C w kw_4_7 dX2_scanPart_134 ?_
    refine lv_iconst (v := 1) hx hb dX2_scanPart_137 (by decide) ?_
    refine lv_iadd hx hb dX2_scanPart_138 ?_
    refine pt_2_0 C w kw_4_7 dX2_scanPart_139 (fun H locs w => ?_)
    obtain ⟨M25, eM25⟩ : ∃ z : Mem, z = (mup M6 5 0 ((M6 5 0) + (1 : Int32))) := ⟨_, rfl⟩
    replace w : Wd G s M25 H locs := by rw [eM25]; exact w
    replace h := h M25 eM25
    refine lv_iconst (v := 1) hx hb dX2_scanPart_142 (by decide) ?_
    exact ret_z C w ⟨Or.inr rfl, h⟩ dX2_scanPart_143
  replace h := h.2 c24
  refine lv_iconst (v := 0) hx hb dX2_scanPart_130 (by decide) ?_
  exact ret_z C w ⟨Or.inl rfl, h⟩ dX2_scanPart_131
def q_X2_shapeBehind (M : Mem) (x0 : Int32) (post : Nat → Mem → Prop) : Prop := (x0 = (97 : Int32) → (post 5 M)) ∧ (¬ x0 = (97 : Int32) → ((x0 = (100 : Int32) → (post 3 M)) ∧ (¬ x0 = (100 : Int32) → ((x0 = (112 : Int32) → (post 0 M)) ∧ (¬ x0 = (112 : Int32) → ((x0 = (115 : Int32) → (post 1 M)) ∧ (¬ x0 = (115 : Int32) → ((x0 = (118 : Int32) → (post 2 M)) ∧ (¬ x0 = (118 : Int32) → ((x0 = (121 : Int32) → (post 4 M)) ∧ (¬ x0 = (121 : Int32) → (post 6 M))))))))))))
set_option maxHeartbeats 4000000 in
set_option maxRecDepth 100000 in
theorem c_X2_shapeBehind (l : Launch) (G : GG) (hG : Ag G) (sz : Nat) (M : Mem) (x0 : Int32) (post : Nat → Mem → Prop) (h : q_X2_shapeBehind M x0 post) : Met l yX2_shapeBehind (Cond.code yX2_shapeBehind cX2_shapeBehind 1 (some (.object "java/lang/String")) :: wsL_law) (rmk 1) (va_Pc [.int x0] (Pw G sz M)) (va_Qs G post (Qw G) (Af G sz)) 0 0 (Af G sz) := by
  refine Met.ofW (cc := cX2_shapeBehind) (maxL := 1) (ret := (some (.object "java/lang/String"))) (by decide) rfl ?_
  intro p e s m args below meth c s₁ B hml hv
  obtain ⟨rfl, hsz, hE, hP⟩ := hv
  subst hsz
  have C := Cx.of (own := RX2) hG hE rfl hml B
  have w : Wd G s M s.heap [] := ⟨hP, va_S.rf⟩
  have hl := lv_entry [.int x0] (n := 1) (Nat.le_of_ble_eq_true rfl)
  rw [lg_entry_eq]
  generalize (lg_sl [.int x0] ++ List.replicate (1 - (lg_sl [.int x0]).length) Slot.unset).toArray = ls at hl ⊢
  have hl : lv_has ls 1 [(0, .int x0)] := hl
  have hx := C.1.1
  have hb := C.1.2.1
  show W p l e (rmk 1) s m _ below meth c s.heap [] 0 0 _ _
  unfold q_X2_shapeBehind at h
  refine lv_iload_n hx hb dX2_shapeBehind_0 rfl (lv_at hl 0 rfl) ?_
  by_cases c1 : x0 = (97 : Int32)
  · replace h := h.1 c1
    refine lv_lookup (off := 74) (tgt := 75) hx hb dX2_shapeBehind_1 (by decide) (by rw [c1]; decide) (by decide) ?_
    refine va_ldcS hx hb C.1.2.2.2.1 (C.2.1.2.2.2.2 5 (by decide)) dX2_shapeBehind_75 ?_
    exact ret_s C w (by decide) h dX2_shapeBehind_77
  replace h := h.2 c1
  by_cases c2 : x0 = (100 : Int32)
  · replace h := h.1 c2
    refine lv_lookup (off := 68) (tgt := 69) hx hb dX2_shapeBehind_1 (by decide) (by rw [c2]; decide) (by decide) ?_
    refine va_ldcS hx hb C.1.2.2.2.1 (C.2.1.2.2.2.2 3 (by decide)) dX2_shapeBehind_69 ?_
    exact ret_s C w (by decide) h dX2_shapeBehind_71
  replace h := h.2 c2
  by_cases c3 : x0 = (112 : Int32)
  · replace h := h.1 c3
    refine lv_lookup (off := 59) (tgt := 60) hx hb dX2_shapeBehind_1 (by decide) (by rw [c3]; decide) (by decide) ?_
    refine va_ldcS hx hb C.1.2.2.2.1 (C.2.1.2.2.2.2 0 (by decide)) dX2_shapeBehind_60 ?_
    exact ret_s C w (by decide) h dX2_shapeBehind_62
  replace h := h.2 c3
  by_cases c4 : x0 = (115 : Int32)
  · replace h := h.1 c4
    refine lv_lookup (off := 62) (tgt := 63) hx hb dX2_shapeBehind_1 (by decide) (by rw [c4]; decide) (by decide) ?_
    refine va_ldcS hx hb C.1.2.2.2.1 (C.2.1.2.2.2.2 1 (by decide)) dX2_shapeBehind_63 ?_
    exact ret_s C w (by decide) h dX2_shapeBehind_65
  replace h := h.2 c4
  by_cases c5 : x0 = (118 : Int32)
  · replace h := h.1 c5
    refine lv_lookup (off := 65) (tgt := 66) hx hb dX2_shapeBehind_1 (by decide) (by rw [c5]; decide) (by decide) ?_
    refine va_ldcS hx hb C.1.2.2.2.1 (C.2.1.2.2.2.2 2 (by decide)) dX2_shapeBehind_66 ?_
    exact ret_s C w (by decide) h dX2_shapeBehind_68
  replace h := h.2 c5
  by_cases c6 : x0 = (121 : Int32)
  · replace h := h.1 c6
    refine lv_lookup (off := 71) (tgt := 72) hx hb dX2_shapeBehind_1 (by decide) (by rw [c6]; decide) (by decide) ?_
    refine va_ldcS hx hb C.1.2.2.2.1 (C.2.1.2.2.2.2 4 (by decide)) dX2_shapeBehind_72 ?_
    exact ret_s C w (by decide) h dX2_shapeBehind_74
  replace h := h.2 c6
  refine lv_lookup (off := 77) (tgt := 78) hx hb dX2_shapeBehind_1 (by decide) ((lv_osw c1 (by decide)).trans ((lv_osw c2 (by decide)).trans ((lv_osw c3 (by decide)).trans ((lv_osw c4 (by decide)).trans ((lv_osw c5 (by decide)).trans ((lv_osw c6 (by decide)).trans rfl)))))) (by decide) ?_
  refine va_ldcS hx hb C.1.2.2.2.1 (C.2.1.2.2.2.2 6 (by decide)) dX2_shapeBehind_78 ?_
  exact ret_s C w (by decide) h dX2_shapeBehind_80
def b_X2_scanStatement_38 (k38 : Mem → Nat → Nat → Int32 → Prop) (post : Int32 → Mem → Prop) (M : Mem) (a1 : Nat) (a2 : Nat) (x3 : Int32) : Prop := q_J0_length_8abf5 M a2 (fun r1 M2 => (r1 ≤ x3 → (post (1 : Int32) M2)) ∧ (¬ (r1 ≤ x3) → (q_J0_charAt_5068e M2 a2 x3 (fun r4 M5 => q_X2_scanPart M5 a1 r4 (fun r6 M7 => (r6 = 0 → (post (0 : Int32) M7)) ∧ (¬ (r6 = 0) → (k38 M7 a1 a2 (x3 + (1 : Int32)))))))))
def lp_X2_scanStatement_38 (post : Int32 → Mem → Prop) : Nat → Mem → Nat → Nat → Int32 → Prop
  | 0 => fun _ _ _ _ => False
  | n + 1 => fun M a1 a2 x3 => b_X2_scanStatement_38 (lp_X2_scanStatement_38 post n) post M a1 a2 x3
def q_X2_scanStatement (M : Mem) (a1 : Nat) (post : Int32 → Mem → Prop) : Prop := q_X3_byteAt M a1 (M 5 0) (fun r9 M10 => q_X2_shapeBehind M10 r9 (fun r11 M12 => q_J0_isEmpty_aae02 M12 r11 (fun r13 M14 => (r13 = 0 → (∀ M16 : Mem, M16 = (mup M14 5 0 ((M14 5 0) + (1 : Int32))) → (∀ M17 : Mem, M17 = (mup M16 5 2 (0 : Int32)) → (∃ n, lp_X2_scanStatement_38 post n M17 a1 r11 (0 : Int32))))) ∧ (¬ (r13 = 0) → (post (0 : Int32) M14)))))
set_option maxHeartbeats 4000000 in
set_option maxRecDepth 100000 in
theorem t_X2_scanStatement_38 (C : Cx G p s m args meth c RX2 cX2_scanStatement 4 (some .boolean)) {post : Int32 → Mem → Prop} : ∀ (n : Nat) (M : Mem) (a1 : Nat) (a2 : Nat) (x3 : Int32) {H : Heap} {locs : List Loc} {ls : Array Slot} (ha1 : 14 ≤ a1 ∧ a1 < 22) (ha2 : 0 ≤ a2 ∧ a2 < 7) (w : Wd G s M H locs) (hl : lv_has ls 4 [(0, .ref (ga G 5)), (1, .ref (ga G a1)), (2, .ref (gK G a2)), (3, .int x3)]) (h : lp_X2_scanStatement_38 post n M a1 a2 x3), W p l e (rmk 5) s m args below meth c H locs 0 0 (MQ below (va_Qi post (Qw G) (Af G s.heap.size)) args s 0 0 (Af G s.heap.size)) (F0 m 38 ls []) := by
  have hx := C.1.1
  have hb := C.1.2.1
  intro n9
  induction n9 with
  | zero => intro M a1 a2 x3 H locs ls ha1 ha2 w hl h; exact absurd h id
  | succ n9 ih9 =>
    intro M a1 a2 x3 H locs ls ha1 ha2 w hl h
    have hk38 : ∀ (M : Mem) (a1 : Nat) (a2 : Nat) (x3 : Int32) (H : Heap) (locs : List Loc) (ls : Array Slot), (14 ≤ a1 ∧ a1 < 22) → (0 ≤ a2 ∧ a2 < 7) → Wd G s M H locs → lv_has ls 4 [(0, .ref (ga G 5)), (1, .ref (ga G a1)), (2, .ref (gK G a2)), (3, .int x3)] → lp_X2_scanStatement_38 post n9 M a1 a2 x3 → W p l e (rmk 5) s m args below meth c H locs 0 0 (MQ below (va_Qi post (Qw G) (Af G s.heap.size)) args s 0 0 (Af G s.heap.size)) (F0 m 38 ls []) := fun M a1 a2 x3 H locs ls ha1 ha2 w hl h => ih9 M a1 a2 x3 ha1 ha2 w hl h
    replace h : b_X2_scanStatement_38 (lp_X2_scanStatement_38 post n9) post M a1 a2 x3 := h
    unfold b_X2_scanStatement_38 at h
    refine lv_iload_n hx hb dX2_scanStatement_38 rfl (lv_at hl 3 rfl) ?_
    refine lv_aload_n hx hb dX2_scanStatement_39 rfl (lv_at hl 2 rfl) ?_
    refine end_i w (run_V (As := []) C w hl.1 (c_J0_length_8abf5 l G C.2.2.1 _ _ a2 ha2 _ h) kw_7_21 kw_7_15 kw_7_18 kw_7_19 kw_7_20 hd_J0_length_8abf5 ⟨by decide, by decide⟩ (vk_recv C.2.1.2.2.2.1.2.2.2.2.2.1 ha2.2 (w.zf C)) rfl (Nat.le_of_ble_eq_true rfl) dX2_scanStatement_40) (fun r1 M2 H locs h w => ?_)
    refine lv_icmp_ge (tgt := 67) hx hb dX2_scanStatement_43 (by decide) (fun c3 => ?_) (fun c3 => ?_)
    · replace h := h.1 c3
      refine lv_iconst (v := 1) hx hb dX2_scanStatement_67 (by decide) ?_
      exact ret_z C w ⟨Or.inr rfl, h⟩ dX2_scanStatement_68
    replace h := h.2 c3
    refine lv_aload_n hx hb dX2_scanStatement_46 rfl (lv_at hl 0 rfl) ?_
    refine lv_aload_n hx hb dX2_scanStatement_47 rfl (lv_at hl 1 rfl) ?_
    refine lv_aload_n hx hb dX2_scanStatement_48 rfl (lv_at hl 2 rfl) ?_
    refine lv_iload_n hx hb dX2_scanStatement_49 rfl (lv_at hl 3 rfl) ?_
    refine end_i w (run_V (As := [.int x3]) C w hl.1 (c_J0_charAt_5068e l G C.2.2.1 _ _ a2 x3 ha2 _ h) kw_8_7 kw_7_15 kw_8_4 kw_8_5 kw_8_6 hd_J0_charAt_5068e ⟨by decide, by decide⟩ (vk_recv C.2.1.2.2.2.1.2.2.2.2.2.1 ha2.2 (w.zf C)) rfl (Nat.le_of_ble_eq_true rfl) dX2_scanStatement_50) (fun r4 M5 H locs h w => ?_)
    refine end_i w (run_V (As := [.ref (ga G a1), .int r4]) C w hl.1 (c_X2_scanPart l G C.2.2.1 _ _ a1 r4 ha1 _ h) kw_9_20 kw_2_5 kw_9_17 kw_9_18 kw_9_19 hd_X2_scanPart ⟨by decide, by decide⟩ (w.recv C (i := 5) (by decide) (pE_2) rfl) rfl (Nat.le_of_ble_eq_true rfl) dX2_scanStatement_53) (fun r6 M7 H locs h w => ?_)
    refine lv_if_ne (tgt := 61) hx hb dX2_scanStatement_56 (by decide) (fun c8 => ?_) (fun c8 => ?_)
    · replace h := h.2 c8
      refine lv_iinc (v := (x3 + (1 : Int32))) (lv' := [(3, .int (x3 + (1 : Int32))), (0, .ref (ga G 5)), (1, .ref (ga G a1)), (2, .ref (gK G a2))]) hx hb dX2_scanStatement_61 hl (k := 3) rfl rfl (by decide) rfl (fun ls hl => ?_)
      refine lv_goto (tgt := 38) hx hb dX2_scanStatement_64 (by decide) ?_
      exact hk38 M7 a1 a2 (x3 + (1 : Int32)) _ _ _ ha1 ha2 w (lv_sub hl [1, 2, 3, 0] rfl) h
    replace h := h.1 c8
    refine lv_iconst (v := 0) hx hb dX2_scanStatement_59 (by decide) ?_
    exact ret_z C w ⟨Or.inl rfl, h⟩ dX2_scanStatement_60
set_option maxHeartbeats 4000000 in
set_option maxRecDepth 100000 in
theorem c_X2_scanStatement (l : Launch) (G : GG) (hG : Ag G) (sz : Nat) (M : Mem) (a1 : Nat) (ha1 : 14 ≤ a1 ∧ a1 < 22) (post : Int32 → Mem → Prop) (h : q_X2_scanStatement M a1 post) : Met l yX2_scanStatement (Cond.code yX2_scanStatement cX2_scanStatement 4 (some .boolean) :: wsL_law) (rmk 5) (va_Pc [.ref (ga G 5), .ref (ga G a1)] (Pw G sz M)) (va_Qi post (Qw G) (Af G sz)) 0 0 (Af G sz) := by
  refine Met.ofW (cc := cX2_scanStatement) (maxL := 4) (ret := (some .boolean)) (by decide) rfl ?_
  intro p e s m args below meth c s₁ B hml hv
  obtain ⟨rfl, hsz, hE, hP⟩ := hv
  subst hsz
  have C := Cx.of (own := RX2) hG hE rfl hml B
  have w : Wd G s M s.heap [] := ⟨hP, va_S.rf⟩
  have hl := lv_entry [.ref (ga G 5), .ref (ga G a1)] (n := 4) (Nat.le_of_ble_eq_true rfl)
  rw [lg_entry_eq]
  generalize (lg_sl [.ref (ga G 5), .ref (ga G a1)] ++ List.replicate (4 - (lg_sl [.ref (ga G 5), .ref (ga G a1)]).length) Slot.unset).toArray = ls at hl ⊢
  have hl : lv_has ls 4 [(0, .ref (ga G 5)), (1, .ref (ga G a1))] := hl
  have hx := C.1.1
  have hb := C.1.2.1
  show W p l e (rmk 5) s m _ below meth c s.heap [] 0 0 _ _
  unfold q_X2_scanStatement at h
  refine lv_aload_n hx hb dX2_scanStatement_0 rfl (lv_at hl 1 rfl) ?_
  refine lv_aload_n hx hb dX2_scanStatement_1 rfl (lv_at hl 0 rfl) ?_
  refine gt_2_0 C w kw_4_7 dX2_scanStatement_2 ?_
  refine end_i w (run_VN (As := [.int (M 5 0)]) C w hl.1 (c_X3_byteAt l G C.2.2.1 _ _ a1 (M 5 0) ha1 _ h) kw_7_4 kw_2_11 kn_47 kw_7_2 kw_7_3 hd_X3_byteAt ⟨by decide, by decide⟩ (w.recv C (i := a1) (by omega) (pE_3 ha1) rfl) rfl (Nat.le_of_ble_eq_true rfl) dX2_scanStatement_5) (fun r9 M10 H locs h w => ?_)
  refine end_s w (run_S (As := [.int r9]) C w hl.1 (c_X2_shapeBehind l G C.2.2.1 _ _ r9  _ h) kw_7_11 kw_2_5 kw_7_9 kw_7_10 hd_X2_shapeBehind ⟨by decide, by decide⟩ rfl (Nat.le_of_ble_eq_true rfl) dX2_scanStatement_8) (fun r11 M12 H locs h hr11 w => ?_)
  refine lv_astore_n (lv' := [(2, .ref (gK G r11)), (0, .ref (ga G 5)), (1, .ref (ga G a1))]) hx hb dX2_scanStatement_11 rfl hl (by decide) rfl (fun ls hl => ?_)
  refine lv_aload_n hx hb dX2_scanStatement_12 rfl (lv_at hl 0 rfl) ?_
  refine end_i w (run_V (As := []) C w hl.1 (c_J0_isEmpty_aae02 l G C.2.2.1 _ _ r11 hr11 _ h) kw_7_16 kw_7_15 kw_7_12 kw_7_13 kw_7_14 hd_J0_isEmpty_aae02 ⟨by decide, by decide⟩ (vk_recv C.2.1.2.2.2.1.2.2.2.2.2.1 hr11.2 (w.zf C)) rfl (Nat.le_of_ble_eq_true rfl) dX2_scanStatement_13) (fun r13 M14 H locs h w => ?_)
  refine lv_if_eq (tgt := 21) hx hb dX2_scanStatement_16 (by decide) (fun c15 => ?_) (fun c15 => ?_)
  · replace h := h.1 c15
    refine lv_aload_n hx hb dX2_scanStatement_21 rfl (lv_at hl 1 rfl) ?_
    refine lv_dup hx hb dX2_scanStatement_22 rfl ?_
    refine gt_2_0 C w kw_4_7 dX2_scanStatement_23 ?_
    refine lv_iconst (v := 1) hx hb dX2_scanStatement_26 (by decide) ?_
    refine lv_iadd hx hb dX2_scanStatement_27 ?_
    refine pt_2_0 C w kw_4_7 dX2_scanStatement_28 (fun H locs w => ?_)
    obtain ⟨M16, eM16⟩ : ∃ z : Mem, z = (mup M14 5 0 ((M14 5 0) + (1 : Int32))) := ⟨_, rfl⟩
    replace w : Wd G s M16 H locs := by rw [eM16]; exact w
    replace h := h M16 eM16
    refine lv_aload_n hx hb dX2_scanStatement_31 rfl (lv_at hl 1 rfl) ?_
    refine lv_iconst (v := 0) hx hb dX2_scanStatement_32 (by decide) ?_
    refine pt_2_2 C w kw_4_10 dX2_scanStatement_33 (fun H locs w => ?_)
    obtain ⟨M17, eM17⟩ : ∃ z : Mem, z = (mup M16 5 2 (0 : Int32)) := ⟨_, rfl⟩
    replace w : Wd G s M17 H locs := by rw [eM17]; exact w
    replace h := h M17 eM17
    refine lv_iconst (v := 0) hx hb dX2_scanStatement_36 (by decide) ?_
    refine lv_istore_n (lv' := [(3, .int (0 : Int32)), (2, .ref (gK G r11)), (0, .ref (ga G 5)), (1, .ref (ga G a1))]) hx hb dX2_scanStatement_37 rfl hl (by decide) rfl (fun ls hl => ?_)
    obtain ⟨n, h⟩ := h
    exact t_X2_scanStatement_38 C n M17 a1 r11 (0 : Int32) ha1 hr11 w (lv_sub hl [2, 3, 1, 0] rfl) h
  replace h := h.2 c15
  refine lv_iconst (v := 0) hx hb dX2_scanStatement_19 (by decide) ?_
  exact ret_z C w ⟨Or.inl rfl, h⟩ dX2_scanStatement_20
def j_X2_read_108 (post : Int32 → Mem → Prop) (M : Mem) (y0 : Int32) : Prop := post y0 M
def j_X2_read_92 (post : Int32 → Mem → Prop) (M : Mem) (x3 : Int32) (x4 : Int32) : Prop := (x3 = (-4 : Int32) → (j_X2_read_108 post M x4)) ∧ (¬ (x3 = (-4 : Int32)) → (j_X2_read_108 post M ((-2000 : Int32) - x3)))
def j_X2_read_83 (k14 : Mem → Nat → Nat → Int32 → Int32 → Int32 → Prop) (post : Int32 → Mem → Prop) (M : Mem) (a1 : Nat) (a2 : Nat) (x3 : Int32) (x4 : Int32) (x5 : Int32) : Prop := k14 M a1 a2 x3 (x4 + (1 : Int32)) (x5 + (1 : Int32))
def j_X2_read_37 (k14 : Mem → Nat → Nat → Int32 → Int32 → Int32 → Prop) (post : Int32 → Mem → Prop) (M : Mem) (a1 : Nat) (a2 : Nat) (x3 : Int32) (x4 : Int32) (x5 : Int32) : Prop := q_X2_scanStatement M a1 (fun r2 M3 => (r2 = 0 → (post ((-1000 : Int32) - (M3 5 0)) M3)) ∧ (¬ (r2 = 0) → ((x3 = (-4 : Int32) → (q_X3_byteAt M3 a1 (M 5 0) (fun r6 M7 => q_X2_obey M7 r6 a2 (fun r8 M9 => (r8 = 0 → (j_X2_read_83 k14 post M9 a1 a2 (M 5 0) x4 x5)) ∧ (¬ (r8 = 0) → (j_X2_read_83 k14 post M9 a1 a2 x3 x4 x5)))))) ∧ (¬ (x3 = (-4 : Int32)) → (j_X2_read_83 k14 post M3 a1 a2 x3 x4 x5)))))
def b_X2_read_14 (k14 : Mem → Nat → Nat → Int32 → Int32 → Int32 → Prop) (post : Int32 → Mem → Prop) (M : Mem) (a1 : Nat) (a2 : Nat) (x3 : Int32) (x4 : Int32) (x5 : Int32) : Prop := ((100 : Int32) < x5 → (j_X2_read_92 post M x3 x4)) ∧ (¬ ((100 : Int32) < x5) → ((x5 = 0 → (j_X2_read_37 k14 post M a1 a2 x3 x4 x5)) ∧ (¬ (x5 = 0) → (((M a1 3) ≤ (M 5 0) → (j_X2_read_92 post M x3 x4)) ∧ (¬ ((M a1 3) ≤ (M 5 0)) → (j_X2_read_37 k14 post M a1 a2 x3 x4 x5))))))
def lp_X2_read_14 (post : Int32 → Mem → Prop) : Nat → Mem → Nat → Nat → Int32 → Int32 → Int32 → Prop
  | 0 => fun _ _ _ _ _ _ => False
  | n + 1 => fun M a1 a2 x3 x4 x5 => b_X2_read_14 (lp_X2_read_14 post n) post M a1 a2 x3 x4 x5
def q_X2_read (M : Mem) (a1 : Nat) (a2 : Nat) (post : Int32 → Mem → Prop) : Prop := ∀ M14 : Mem, M14 = (mup M 5 0 (0 : Int32)) → (∃ n, lp_X2_read_14 post n M14 a1 a2 (-4 : Int32) (0 : Int32) (0 : Int32))
set_option maxHeartbeats 4000000 in
set_option maxRecDepth 100000 in
theorem t_X2_read_108 (C : Cx G p s m args meth c RX2 cX2_read 7 (some .int)) {post : Int32 → Mem → Prop} (M : Mem) (y0 : Int32) {H : Heap} {locs : List Loc} {ls : Array Slot} (w : Wd G s M H locs) (hl : lv_has ls 7 []) (h : j_X2_read_108 post M y0) : W p l e (rmk 8) s m args below meth c H locs 0 0 (MQ below (va_Qi post (Qw G) (Af G s.heap.size)) args s 0 0 (Af G s.heap.size)) (F0 m 108 ls [.int y0]) := by
  have hx := C.1.1
  have hb := C.1.2.1
  unfold j_X2_read_108 at h
  exact ret_i C w h dX2_read_108
set_option maxHeartbeats 4000000 in
set_option maxRecDepth 100000 in
theorem t_X2_read_92 (C : Cx G p s m args meth c RX2 cX2_read 7 (some .int)) {post : Int32 → Mem → Prop} (M : Mem) (x3 : Int32) (x4 : Int32) {H : Heap} {locs : List Loc} {ls : Array Slot} (w : Wd G s M H locs) (hl : lv_has ls 7 [(3, .int x3), (4, .int x4)]) (h : j_X2_read_92 post M x3 x4) : W p l e (rmk 8) s m args below meth c H locs 0 0 (MQ below (va_Qi post (Qw G) (Af G s.heap.size)) args s 0 0 (Af G s.heap.size)) (F0 m 92 ls []) := by
  have hx := C.1.1
  have hb := C.1.2.1
  unfold j_X2_read_92 at h
  refine lv_iload_n hx hb dX2_read_92 rfl (lv_at hl 0 rfl) ?_
  refine lv_bipush (v := -4) hx hb dX2_read_93 (by decide) ?_
  refine lv_icmp_ne (tgt := 103) hx hb dX2_read_95 (by decide) (fun c1 => ?_) (fun c1 => ?_)
  · replace h := h.2 c1
    refine lv_sipush (v := -2000) hx hb dX2_read_103 (by decide) ?_
    refine lv_iload_n hx hb dX2_read_106 rfl (lv_at hl 0 rfl) ?_
    refine lv_isub hx hb dX2_read_107 ?_
    exact t_X2_read_108 C M ((-2000 : Int32) - x3)  w (lv_sub hl [] rfl) h
  replace h := h.1 c1
  refine lv_iload hx hb dX2_read_98 (lv_at hl 1 rfl) ?_
  refine lv_goto (tgt := 108) hx hb dX2_read_100 (by decide) ?_
  exact t_X2_read_108 C M x4  w (lv_sub hl [] rfl) h
set_option maxHeartbeats 4000000 in
set_option maxRecDepth 100000 in
theorem t_X2_read_83 (C : Cx G p s m args meth c RX2 cX2_read 7 (some .int)) {post : Int32 → Mem → Prop} {k14 : Mem → Nat → Nat → Int32 → Int32 → Int32 → Prop} (hk14 : ∀ (M : Mem) (a1 : Nat) (a2 : Nat) (x3 : Int32) (x4 : Int32) (x5 : Int32) (H : Heap) (locs : List Loc) (ls : Array Slot), (14 ≤ a1 ∧ a1 < 22) → (1 ≤ a2 ∧ a2 < 4) → Wd G s M H locs → lv_has ls 7 [(0, .ref (ga G 5)), (1, .ref (ga G a1)), (2, .ref (ga G a2)), (3, .int x3), (4, .int x4), (5, .int x5)] → k14 M a1 a2 x3 x4 x5 → W p l e (rmk 8) s m args below meth c H locs 0 0 (MQ below (va_Qi post (Qw G) (Af G s.heap.size)) args s 0 0 (Af G s.heap.size)) (F0 m 14 ls [])) (M : Mem) (a1 : Nat) (a2 : Nat) (x3 : Int32) (x4 : Int32) (x5 : Int32) {H : Heap} {locs : List Loc} {ls : Array Slot} (ha1 : 14 ≤ a1 ∧ a1 < 22) (ha2 : 1 ≤ a2 ∧ a2 < 4) (w : Wd G s M H locs) (hl : lv_has ls 7 [(0, .ref (ga G 5)), (1, .ref (ga G a1)), (2, .ref (ga G a2)), (3, .int x3), (4, .int x4), (5, .int x5)]) (h : j_X2_read_83 k14 post M a1 a2 x3 x4 x5) : W p l e (rmk 8) s m args below meth c H locs 0 0 (MQ below (va_Qi post (Qw G) (Af G s.heap.size)) args s 0 0 (Af G s.heap.size)) (F0 m 83 ls []) := by
  have hx := C.1.1
  have hb := C.1.2.1
  unfold j_X2_read_83 at h
  refine lv_iinc (v := (x4 + (1 : Int32))) (lv' := [(4, .int (x4 + (1 : Int32))), (0, .ref (ga G 5)), (1, .ref (ga G a1)), (2, .ref (ga G a2)), (3, .int x3), (5, .int x5)]) hx hb dX2_read_83 hl (k := 4) rfl rfl (by decide) rfl (fun ls hl => ?_)
  refine lv_iinc (v := (x5 + (1 : Int32))) (lv' := [(5, .int (x5 + (1 : Int32))), (4, .int (x4 + (1 : Int32))), (0, .ref (ga G 5)), (1, .ref (ga G a1)), (2, .ref (ga G a2)), (3, .int x3)]) hx hb dX2_read_86 hl (k := 5) rfl rfl (by decide) rfl (fun ls hl => ?_)
  refine lv_goto (tgt := 14) hx hb dX2_read_89 (by decide) ?_
  exact hk14 M a1 a2 x3 (x4 + (1 : Int32)) (x5 + (1 : Int32)) _ _ _ ha1 ha2 w (lv_sub hl [2, 3, 4, 5, 1, 0] rfl) h
set_option maxHeartbeats 4000000 in
set_option maxRecDepth 100000 in
theorem t_X2_read_37 (C : Cx G p s m args meth c RX2 cX2_read 7 (some .int)) {post : Int32 → Mem → Prop} {k14 : Mem → Nat → Nat → Int32 → Int32 → Int32 → Prop} (hk14 : ∀ (M : Mem) (a1 : Nat) (a2 : Nat) (x3 : Int32) (x4 : Int32) (x5 : Int32) (H : Heap) (locs : List Loc) (ls : Array Slot), (14 ≤ a1 ∧ a1 < 22) → (1 ≤ a2 ∧ a2 < 4) → Wd G s M H locs → lv_has ls 7 [(0, .ref (ga G 5)), (1, .ref (ga G a1)), (2, .ref (ga G a2)), (3, .int x3), (4, .int x4), (5, .int x5)] → k14 M a1 a2 x3 x4 x5 → W p l e (rmk 8) s m args below meth c H locs 0 0 (MQ below (va_Qi post (Qw G) (Af G s.heap.size)) args s 0 0 (Af G s.heap.size)) (F0 m 14 ls [])) (M : Mem) (a1 : Nat) (a2 : Nat) (x3 : Int32) (x4 : Int32) (x5 : Int32) {H : Heap} {locs : List Loc} {ls : Array Slot} (ha1 : 14 ≤ a1 ∧ a1 < 22) (ha2 : 1 ≤ a2 ∧ a2 < 4) (w : Wd G s M H locs) (hl : lv_has ls 7 [(0, .ref (ga G 5)), (1, .ref (ga G a1)), (2, .ref (ga G a2)), (3, .int x3), (4, .int x4), (5, .int x5)]) (h : j_X2_read_37 k14 post M a1 a2 x3 x4 x5) : W p l e (rmk 8) s m args below meth c H locs 0 0 (MQ below (va_Qi post (Qw G) (Af G s.heap.size)) args s 0 0 (Af G s.heap.size)) (F0 m 37 ls []) := by
  have hx := C.1.1
  have hb := C.1.2.1
  unfold j_X2_read_37 at h
  refine lv_aload_n hx hb dX2_read_37 rfl (lv_at hl 0 rfl) ?_
  refine gt_2_0 C w kw_4_7 dX2_read_38 ?_
  refine lv_istore (lv' := [(6, .int (M 5 0)), (0, .ref (ga G 5)), (1, .ref (ga G a1)), (2, .ref (ga G a2)), (3, .int x3), (4, .int x4), (5, .int x5)]) hx hb dX2_read_41 hl (by decide) rfl (fun ls hl => ?_)
  refine lv_aload_n hx hb dX2_read_43 rfl (lv_at hl 1 rfl) ?_
  refine lv_aload_n hx hb dX2_read_44 rfl (lv_at hl 2 rfl) ?_
  refine end_i w (run_V (As := [.ref (ga G a1)]) C w hl.1 (c_X2_scanStatement l G C.2.2.1 _ _ a1 ha1 _ h) kw_7_1 kw_2_5 kw_6_22 kw_6_23 kw_7_0 hd_X2_scanStatement ⟨by decide, by decide⟩ (w.recv C (i := 5) (by decide) (pE_2) rfl) rfl (Nat.le_of_ble_eq_true rfl) dX2_read_45) (fun r2 M3 H locs h w => ?_)
  refine lv_if_ne (tgt := 60) hx hb dX2_read_48 (by decide) (fun c4 => ?_) (fun c4 => ?_)
  · replace h := h.2 c4
    refine lv_iload_n hx hb dX2_read_60 rfl (lv_at hl 4 rfl) ?_
    refine lv_bipush (v := -4) hx hb dX2_read_61 (by decide) ?_
    refine lv_icmp_ne (tgt := 83) hx hb dX2_read_63 (by decide) (fun c5 => ?_) (fun c5 => ?_)
    · replace h := h.2 c5
      exact t_X2_read_83 C hk14 M3 a1 a2 x3 x4 x5 ha1 ha2 w (lv_sub hl [1, 2, 3, 4, 5, 6] rfl) h
    replace h := h.1 c5
    refine lv_aload_n hx hb dX2_read_66 rfl (lv_at hl 1 rfl) ?_
    refine lv_aload_n hx hb dX2_read_67 rfl (lv_at hl 2 rfl) ?_
    refine lv_iload hx hb dX2_read_68 (lv_at hl 0 rfl) ?_
    refine end_i w (run_VN (As := [.int (M 5 0)]) C w hl.1 (c_X3_byteAt l G C.2.2.1 _ _ a1 (M 5 0) ha1 _ h) kw_7_4 kw_2_11 kn_47 kw_7_2 kw_7_3 hd_X3_byteAt ⟨by decide, by decide⟩ (w.recv C (i := a1) (by omega) (pE_3 ha1) rfl) rfl (Nat.le_of_ble_eq_true rfl) dX2_read_70) (fun r6 M7 H locs h w => ?_)
    refine lv_aload_n hx hb dX2_read_73 rfl (lv_at hl 3 rfl) ?_
    refine end_i w (run_V (As := [.int r6, .ref (ga G a2)]) C w hl.1 (c_X2_obey l G C.2.2.1 _ _ r6 a2 ha2 _ h) kw_10_11 kw_2_5 kw_10_8 kw_10_9 kw_10_10 hd_X2_obey ⟨by decide, by decide⟩ (w.recv C (i := 5) (by decide) (pE_2) rfl) rfl (Nat.le_of_ble_eq_true rfl) dX2_read_74) (fun r8 M9 H locs h w => ?_)
    refine lv_if_ne (tgt := 83) hx hb dX2_read_77 (by decide) (fun c10 => ?_) (fun c10 => ?_)
    · replace h := h.2 c10
      exact t_X2_read_83 C hk14 M9 a1 a2 x3 x4 x5 ha1 ha2 w (lv_sub hl [1, 2, 3, 4, 5, 6] rfl) h
    replace h := h.1 c10
    refine lv_iload hx hb dX2_read_80 (lv_at hl 0 rfl) ?_
    refine lv_istore_n (lv' := [(3, .int (M 5 0)), (6, .int (M 5 0)), (0, .ref (ga G 5)), (1, .ref (ga G a1)), (2, .ref (ga G a2)), (4, .int x4), (5, .int x5)]) hx hb dX2_read_82 rfl hl (by decide) rfl (fun ls hl => ?_)
    exact t_X2_read_83 C hk14 M9 a1 a2 (M 5 0) x4 x5 ha1 ha2 w (lv_sub hl [2, 3, 4, 0, 5, 6] rfl) h
  replace h := h.1 c4
  refine lv_sipush (v := -1000) hx hb dX2_read_51 (by decide) ?_
  refine lv_aload_n hx hb dX2_read_54 rfl (lv_at hl 1 rfl) ?_
  refine gt_2_0 C w kw_4_7 dX2_read_55 ?_
  refine lv_isub hx hb dX2_read_58 ?_
  exact ret_i C w h dX2_read_59
set_option maxHeartbeats 4000000 in
set_option maxRecDepth 100000 in
theorem t_X2_read_14 (C : Cx G p s m args meth c RX2 cX2_read 7 (some .int)) {post : Int32 → Mem → Prop} : ∀ (n : Nat) (M : Mem) (a1 : Nat) (a2 : Nat) (x3 : Int32) (x4 : Int32) (x5 : Int32) {H : Heap} {locs : List Loc} {ls : Array Slot} (ha1 : 14 ≤ a1 ∧ a1 < 22) (ha2 : 1 ≤ a2 ∧ a2 < 4) (w : Wd G s M H locs) (hl : lv_has ls 7 [(0, .ref (ga G 5)), (1, .ref (ga G a1)), (2, .ref (ga G a2)), (3, .int x3), (4, .int x4), (5, .int x5)]) (h : lp_X2_read_14 post n M a1 a2 x3 x4 x5), W p l e (rmk 8) s m args below meth c H locs 0 0 (MQ below (va_Qi post (Qw G) (Af G s.heap.size)) args s 0 0 (Af G s.heap.size)) (F0 m 14 ls []) := by
  have hx := C.1.1
  have hb := C.1.2.1
  intro n9
  induction n9 with
  | zero => intro M a1 a2 x3 x4 x5 H locs ls ha1 ha2 w hl h; exact absurd h id
  | succ n9 ih9 =>
    intro M a1 a2 x3 x4 x5 H locs ls ha1 ha2 w hl h
    have hk14 : ∀ (M : Mem) (a1 : Nat) (a2 : Nat) (x3 : Int32) (x4 : Int32) (x5 : Int32) (H : Heap) (locs : List Loc) (ls : Array Slot), (14 ≤ a1 ∧ a1 < 22) → (1 ≤ a2 ∧ a2 < 4) → Wd G s M H locs → lv_has ls 7 [(0, .ref (ga G 5)), (1, .ref (ga G a1)), (2, .ref (ga G a2)), (3, .int x3), (4, .int x4), (5, .int x5)] → lp_X2_read_14 post n9 M a1 a2 x3 x4 x5 → W p l e (rmk 8) s m args below meth c H locs 0 0 (MQ below (va_Qi post (Qw G) (Af G s.heap.size)) args s 0 0 (Af G s.heap.size)) (F0 m 14 ls []) := fun M a1 a2 x3 x4 x5 H locs ls ha1 ha2 w hl h => ih9 M a1 a2 x3 x4 x5 ha1 ha2 w hl h
    replace h : b_X2_read_14 (lp_X2_read_14 post n9) post M a1 a2 x3 x4 x5 := h
    unfold b_X2_read_14 at h
    refine lv_iload hx hb dX2_read_14 (lv_at hl 5 rfl) ?_
    refine lv_bipush (v := 100) hx hb dX2_read_16 (by decide) ?_
    refine lv_icmp_gt (tgt := 92) hx hb dX2_read_18 (by decide) (fun c11 => ?_) (fun c11 => ?_)
    · replace h := h.1 c11
      exact t_X2_read_92 C M x3 x4  w (lv_sub hl [3, 4] rfl) h
    replace h := h.2 c11
    refine lv_iload hx hb dX2_read_21 (lv_at hl 5 rfl) ?_
    refine lv_if_eq (tgt := 37) hx hb dX2_read_23 (by decide) (fun c12 => ?_) (fun c12 => ?_)
    · replace h := h.1 c12
      exact t_X2_read_37 C hk14 M a1 a2 x3 x4 x5 ha1 ha2 w (lv_sub hl [0, 1, 2, 3, 4, 5] rfl) h
    replace h := h.2 c12
    refine lv_aload_n hx hb dX2_read_26 rfl (lv_at hl 0 rfl) ?_
    refine gt_2_0 C w kw_4_7 dX2_read_27 ?_
    refine lv_aload_n hx hb dX2_read_30 rfl (lv_at hl 1 rfl) ?_
    refine gn_3_3 C w ha1 kn_32 dX2_read_31 ?_
    refine lv_icmp_ge (tgt := 92) hx hb dX2_read_34 (by decide) (fun c13 => ?_) (fun c13 => ?_)
    · replace h := h.1 c13
      exact t_X2_read_92 C M x3 x4  w (lv_sub hl [3, 4] rfl) h
    replace h := h.2 c13
    exact t_X2_read_37 C hk14 M a1 a2 x3 x4 x5 ha1 ha2 w (lv_sub hl [0, 1, 2, 3, 4, 5] rfl) h
set_option maxHeartbeats 4000000 in
set_option maxRecDepth 100000 in
theorem c_X2_read (l : Launch) (G : GG) (hG : Ag G) (sz : Nat) (M : Mem) (a1 : Nat) (a2 : Nat) (ha1 : 14 ≤ a1 ∧ a1 < 22) (ha2 : 1 ≤ a2 ∧ a2 < 4) (post : Int32 → Mem → Prop) (h : q_X2_read M a1 a2 post) : Met l yX2_read (Cond.code yX2_read cX2_read 7 (some .int) :: wsL_law) (rmk 8) (va_Pc [.ref (ga G 5), .ref (ga G a1), .ref (ga G a2)] (Pw G sz M)) (va_Qi post (Qw G) (Af G sz)) 0 0 (Af G sz) := by
  refine Met.ofW (cc := cX2_read) (maxL := 7) (ret := (some .int)) (by decide) rfl ?_
  intro p e s m args below meth c s₁ B hml hv
  obtain ⟨rfl, hsz, hE, hP⟩ := hv
  subst hsz
  have C := Cx.of (own := RX2) hG hE rfl hml B
  have w : Wd G s M s.heap [] := ⟨hP, va_S.rf⟩
  have hl := lv_entry [.ref (ga G 5), .ref (ga G a1), .ref (ga G a2)] (n := 7) (Nat.le_of_ble_eq_true rfl)
  rw [lg_entry_eq]
  generalize (lg_sl [.ref (ga G 5), .ref (ga G a1), .ref (ga G a2)] ++ List.replicate (7 - (lg_sl [.ref (ga G 5), .ref (ga G a1), .ref (ga G a2)]).length) Slot.unset).toArray = ls at hl ⊢
  have hl : lv_has ls 7 [(0, .ref (ga G 5)), (1, .ref (ga G a1)), (2, .ref (ga G a2))] := hl
  have hx := C.1.1
  have hb := C.1.2.1
  show W p l e (rmk 8) s m _ below meth c s.heap [] 0 0 _ _
  unfold q_X2_read at h
  refine lv_aload_n hx hb dX2_read_0 rfl (lv_at hl 0 rfl) ?_
  refine lv_iconst (v := 0) hx hb dX2_read_1 (by decide) ?_
  refine pt_2_0 C w kw_4_7 dX2_read_2 (fun H locs w => ?_)
  obtain ⟨M14, eM14⟩ : ∃ z : Mem, z = (mup M 5 0 (0 : Int32)) := ⟨_, rfl⟩
  replace w : Wd G s M14 H locs := by rw [eM14]; exact w
  replace h := h M14 eM14
  refine lv_bipush (v := -4) hx hb dX2_read_5 (by decide) ?_
  refine lv_istore_n (lv' := [(3, .int (-4 : Int32)), (0, .ref (ga G 5)), (1, .ref (ga G a1)), (2, .ref (ga G a2))]) hx hb dX2_read_7 rfl hl (by decide) rfl (fun ls hl => ?_)
  refine lv_iconst (v := 0) hx hb dX2_read_8 (by decide) ?_
  refine lv_istore (lv' := [(4, .int (0 : Int32)), (3, .int (-4 : Int32)), (0, .ref (ga G 5)), (1, .ref (ga G a1)), (2, .ref (ga G a2))]) hx hb dX2_read_9 hl (by decide) rfl (fun ls hl => ?_)
  refine lv_iconst (v := 0) hx hb dX2_read_11 (by decide) ?_
  refine lv_istore (lv' := [(5, .int (0 : Int32)), (4, .int (0 : Int32)), (3, .int (-4 : Int32)), (0, .ref (ga G 5)), (1, .ref (ga G a1)), (2, .ref (ga G a2))]) hx hb dX2_read_12 hl (by decide) rfl (fun ls hl => ?_)
  obtain ⟨n, h⟩ := h
  exact t_X2_read_14 C n M14 a1 a2 (-4 : Int32) (0 : Int32) (0 : Int32) ha1 ha2 w (lv_sub hl [3, 4, 5, 2, 1, 0] rfl) h
def q_X1_become (M : Mem) (a0 : Nat) (a1 : Nat) (post : Mem → Prop) : Prop := ∀ M1 : Mem, M1 = (mup M a0 0 (M a1 0)) → (∀ M2 : Mem, M2 = (mup M1 a0 1 (M1 a1 1)) → (∀ M3 : Mem, M3 = (mup M2 a0 2 (M2 a1 2)) → (∀ M4 : Mem, M4 = (mup M3 a0 3 (M3 a1 3)) → (∀ M5 : Mem, M5 = (mup M4 a0 4 (M4 a1 4)) → (∀ M6 : Mem, M6 = (mup M5 a0 5 (M5 a1 5)) → (∀ M7 : Mem, M7 = (mup M6 a0 6 (M6 a1 6)) → (∀ M8 : Mem, M8 = (mup M7 a0 7 (M7 a1 7)) → (∀ M9 : Mem, M9 = (mup M8 a0 8 (M8 a1 8)) → (post M9)))))))))
set_option maxHeartbeats 4000000 in
set_option maxRecDepth 100000 in
theorem c_X1_become (l : Launch) (G : GG) (hG : Ag G) (sz : Nat) (M : Mem) (a0 : Nat) (a1 : Nat) (ha0 : 30 ≤ a0 ∧ a0 < 57) (ha1 : 30 ≤ a1 ∧ a1 < 57) (post : Mem → Prop) (h : q_X1_become M a0 a1 post) : Met l yX1_become (Cond.code yX1_become cX1_become 2 none :: wsL_law) (rmk 1) (va_Pc [.ref (ga G a0), .ref (ga G a1)] (Pw G sz M)) (va_Qv post (Qw G) (Af G sz)) 0 0 (Af G sz) := by
  refine Met.ofW (cc := cX1_become) (maxL := 2) (ret := none) (by decide) rfl ?_
  intro p e s m args below meth c s₁ B hml hv
  obtain ⟨rfl, hsz, hE, hP⟩ := hv
  subst hsz
  have C := Cx.of (own := RX1) hG hE rfl hml B
  have w : Wd G s M s.heap [] := ⟨hP, va_S.rf⟩
  have hl := lv_entry [.ref (ga G a0), .ref (ga G a1)] (n := 2) (Nat.le_of_ble_eq_true rfl)
  rw [lg_entry_eq]
  generalize (lg_sl [.ref (ga G a0), .ref (ga G a1)] ++ List.replicate (2 - (lg_sl [.ref (ga G a0), .ref (ga G a1)]).length) Slot.unset).toArray = ls at hl ⊢
  have hl : lv_has ls 2 [(0, .ref (ga G a0)), (1, .ref (ga G a1))] := hl
  have hx := C.1.1
  have hb := C.1.2.1
  show W p l e (rmk 1) s m _ below meth c s.heap [] 0 0 _ _
  unfold q_X1_become at h
  refine lv_aload_n hx hb dX1_become_0 rfl (lv_at hl 0 rfl) ?_
  refine lv_aload_n hx hb dX1_become_1 rfl (lv_at hl 1 rfl) ?_
  refine gt_1_0 C w ha1 kw_3_10 dX1_become_2 ?_
  refine pt_1_0 C w ha0 kw_3_10 dX1_become_5 (fun H locs w => ?_)
  obtain ⟨M1, eM1⟩ : ∃ z : Mem, z = (mup M a0 0 (M a1 0)) := ⟨_, rfl⟩
  replace w : Wd G s M1 H locs := by rw [eM1]; exact w
  replace h := h M1 eM1
  refine lv_aload_n hx hb dX1_become_8 rfl (lv_at hl 0 rfl) ?_
  refine lv_aload_n hx hb dX1_become_9 rfl (lv_at hl 1 rfl) ?_
  refine gt_1_1 C w ha1 kw_3_11 dX1_become_10 ?_
  refine pt_1_1 C w ha0 kw_3_11 dX1_become_13 (fun H locs w => ?_)
  obtain ⟨M2, eM2⟩ : ∃ z : Mem, z = (mup M1 a0 1 (M1 a1 1)) := ⟨_, rfl⟩
  replace w : Wd G s M2 H locs := by rw [eM2]; exact w
  replace h := h M2 eM2
  refine lv_aload_n hx hb dX1_become_16 rfl (lv_at hl 0 rfl) ?_
  refine lv_aload_n hx hb dX1_become_17 rfl (lv_at hl 1 rfl) ?_
  refine gt_1_2 C w ha1 kw_3_12 dX1_become_18 ?_
  refine pt_1_2 C w ha0 kw_3_12 dX1_become_21 (fun H locs w => ?_)
  obtain ⟨M3, eM3⟩ : ∃ z : Mem, z = (mup M2 a0 2 (M2 a1 2)) := ⟨_, rfl⟩
  replace w : Wd G s M3 H locs := by rw [eM3]; exact w
  replace h := h M3 eM3
  refine lv_aload_n hx hb dX1_become_24 rfl (lv_at hl 0 rfl) ?_
  refine lv_aload_n hx hb dX1_become_25 rfl (lv_at hl 1 rfl) ?_
  refine gt_1_3 C w ha1 kw_3_13 dX1_become_26 ?_
  refine pt_1_3 C w ha0 kw_3_13 dX1_become_29 (fun H locs w => ?_)
  obtain ⟨M4, eM4⟩ : ∃ z : Mem, z = (mup M3 a0 3 (M3 a1 3)) := ⟨_, rfl⟩
  replace w : Wd G s M4 H locs := by rw [eM4]; exact w
  replace h := h M4 eM4
  refine lv_aload_n hx hb dX1_become_32 rfl (lv_at hl 0 rfl) ?_
  refine lv_aload_n hx hb dX1_become_33 rfl (lv_at hl 1 rfl) ?_
  refine gt_1_4 C w ha1 kw_3_14 dX1_become_34 ?_
  refine pt_1_4 C w ha0 kw_3_14 dX1_become_37 (fun H locs w => ?_)
  obtain ⟨M5, eM5⟩ : ∃ z : Mem, z = (mup M4 a0 4 (M4 a1 4)) := ⟨_, rfl⟩
  replace w : Wd G s M5 H locs := by rw [eM5]; exact w
  replace h := h M5 eM5
  refine lv_aload_n hx hb dX1_become_40 rfl (lv_at hl 0 rfl) ?_
  refine lv_aload_n hx hb dX1_become_41 rfl (lv_at hl 1 rfl) ?_
  refine gt_1_5 C w ha1 kw_3_15 dX1_become_42 ?_
  refine pt_1_5 C w ha0 kw_3_15 dX1_become_45 (fun H locs w => ?_)
  obtain ⟨M6, eM6⟩ : ∃ z : Mem, z = (mup M5 a0 5 (M5 a1 5)) := ⟨_, rfl⟩
  replace w : Wd G s M6 H locs := by rw [eM6]; exact w
  replace h := h M6 eM6
  refine lv_aload_n hx hb dX1_become_48 rfl (lv_at hl 0 rfl) ?_
  refine lv_aload_n hx hb dX1_become_49 rfl (lv_at hl 1 rfl) ?_
  refine gt_1_6 C w ha1 kw_3_16 dX1_become_50 ?_
  refine pt_1_6 C w ha0 kw_3_16 dX1_become_53 (fun H locs w => ?_)
  obtain ⟨M7, eM7⟩ : ∃ z : Mem, z = (mup M6 a0 6 (M6 a1 6)) := ⟨_, rfl⟩
  replace w : Wd G s M7 H locs := by rw [eM7]; exact w
  replace h := h M7 eM7
  refine lv_aload_n hx hb dX1_become_56 rfl (lv_at hl 0 rfl) ?_
  refine lv_aload_n hx hb dX1_become_57 rfl (lv_at hl 1 rfl) ?_
  refine gt_1_7 C w ha1 kw_3_17 dX1_become_58 ?_
  refine pt_1_7 C w ha0 kw_3_17 dX1_become_61 (fun H locs w => ?_)
  obtain ⟨M8, eM8⟩ : ∃ z : Mem, z = (mup M7 a0 7 (M7 a1 7)) := ⟨_, rfl⟩
  replace w : Wd G s M8 H locs := by rw [eM8]; exact w
  replace h := h M8 eM8
  refine lv_aload_n hx hb dX1_become_64 rfl (lv_at hl 0 rfl) ?_
  refine lv_aload_n hx hb dX1_become_65 rfl (lv_at hl 1 rfl) ?_
  refine gt_1_8 C w ha1 kw_3_18 dX1_become_66 ?_
  refine pt_1_8 C w ha0 kw_3_18 dX1_become_69 (fun H locs w => ?_)
  obtain ⟨M9, eM9⟩ : ∃ z : Mem, z = (mup M8 a0 8 (M8 a1 8)) := ⟨_, rfl⟩
  replace w : Wd G s M9 H locs := by rw [eM9]; exact w
  replace h := h M9 eM9
  exact ret_v C w h dX1_become_72
def b_X4_become_2 (k2 : Mem → Nat → Nat → Int32 → Prop) (post : Mem → Prop) (M : Mem) (a0 : Nat) (a1 : Nat) (x2 : Int32) : Prop := ((M a1 1) ≤ x2 → (∀ M2 : Mem, M2 = (mup M a0 1 (M a1 1)) → ((¬ (0 : Int32) < 0 ∧ ¬ (0 : Int32) < 0 ∧ ¬ (7 : Int32) < 0 ∧ 0 + 7 ≤ 7 ∧ 0 + 7 ≤ 7) ∧ (∀ M3 : Mem, M3 = (va_up M2 (10 + a0) (va_cpy (M2 (10 + a1)) (M2 (10 + a0)) 0 0 7)) → (∀ M4 : Mem, M4 = (mup M3 a0 3 (M3 a1 3)) → (∀ M5 : Mem, M5 = (mup M4 a0 4 (M4 a1 4)) → (∀ M6 : Mem, M6 = (mup M5 a0 5 (M5 a1 5)) → (∀ M7 : Mem, M7 = (mup M6 a0 6 (M6 a1 6)) → (∀ M8 : Mem, M8 = (mup M7 a0 7 (M7 a1 7)) → (∀ M9 : Mem, M9 = (mup M8 a0 8 (M8 a1 8)) → (post M9))))))))))) ∧ (¬ ((M a1 1) ≤ x2) → (vp_in x2 6 ∧ (q_X1_become M (32 + 6 * a0 + x2.toNatClampNeg) (32 + 6 * a1 + x2.toNatClampNeg) (fun M12 => k2 M12 a0 a1 (x2 + (1 : Int32))))))
def lp_X4_become_2 (post : Mem → Prop) : Nat → Mem → Nat → Nat → Int32 → Prop
  | 0 => fun _ _ _ _ => False
  | n + 1 => fun M a0 a1 x2 => b_X4_become_2 (lp_X4_become_2 post n) post M a0 a1 x2
def q_X4_become (M : Mem) (a0 : Nat) (a1 : Nat) (post : Mem → Prop) : Prop := ∃ n, lp_X4_become_2 post n M a0 a1 (0 : Int32)
set_option maxHeartbeats 4000000 in
set_option maxRecDepth 100000 in
theorem t_X4_become_2 (C : Cx G p s m args meth c RX4 cX4_become 3 none) {post : Mem → Prop} : ∀ (n : Nat) (M : Mem) (a0 : Nat) (a1 : Nat) (x2 : Int32) {H : Heap} {locs : List Loc} {ls : Array Slot} (ha0 : 1 ≤ a0 ∧ a0 < 4) (ha1 : 1 ≤ a1 ∧ a1 < 4) (w : Wd G s M H locs) (hl : lv_has ls 3 [(0, .ref (ga G a0)), (1, .ref (ga G a1)), (2, .int x2)]) (h : lp_X4_become_2 post n M a0 a1 x2), W p l e (rmk 2) s m args below meth c H locs 0 0 (MQ below (va_Qv post (Qw G) (Af G s.heap.size)) args s 0 0 (Af G s.heap.size)) (F0 m 2 ls []) := by
  have hx := C.1.1
  have hb := C.1.2.1
  intro n9
  induction n9 with
  | zero => intro M a0 a1 x2 H locs ls ha0 ha1 w hl h; exact absurd h id
  | succ n9 ih9 =>
    intro M a0 a1 x2 H locs ls ha0 ha1 w hl h
    have hk2 : ∀ (M : Mem) (a0 : Nat) (a1 : Nat) (x2 : Int32) (H : Heap) (locs : List Loc) (ls : Array Slot), (1 ≤ a0 ∧ a0 < 4) → (1 ≤ a1 ∧ a1 < 4) → Wd G s M H locs → lv_has ls 3 [(0, .ref (ga G a0)), (1, .ref (ga G a1)), (2, .int x2)] → lp_X4_become_2 post n9 M a0 a1 x2 → W p l e (rmk 2) s m args below meth c H locs 0 0 (MQ below (va_Qv post (Qw G) (Af G s.heap.size)) args s 0 0 (Af G s.heap.size)) (F0 m 2 ls []) := fun M a0 a1 x2 H locs ls ha0 ha1 w hl h => ih9 M a0 a1 x2 ha0 ha1 w hl h
    replace h : b_X4_become_2 (lp_X4_become_2 post n9) post M a0 a1 x2 := h
    unfold b_X4_become_2 at h
    refine lv_iload_n hx hb dX4_become_2 rfl (lv_at hl 2 rfl) ?_
    refine lv_aload_n hx hb dX4_become_3 rfl (lv_at hl 1 rfl) ?_
    refine gt_4_1 C w ha1 kw_2_17 dX4_become_4 ?_
    refine lv_icmp_ge (tgt := 31) hx hb dX4_become_7 (by decide) (fun c1 => ?_) (fun c1 => ?_)
    · replace h := h.1 c1
      refine lv_aload_n hx hb dX4_become_31 rfl (lv_at hl 0 rfl) ?_
      refine lv_aload_n hx hb dX4_become_32 rfl (lv_at hl 1 rfl) ?_
      refine gt_4_1 C w ha1 kw_2_17 dX4_become_33 ?_
      refine pt_4_1 C w ha0 kw_2_17 dX4_become_36 (fun H locs w => ?_)
      obtain ⟨M2, eM2⟩ : ∃ z : Mem, z = (mup M a0 1 (M a1 1)) := ⟨_, rfl⟩
      replace w : Wd G s M2 H locs := by rw [eM2]; exact w
      replace h := h M2 eM2
      refine lv_aload_n hx hb dX4_become_39 rfl (lv_at hl 1 rfl) ?_
      refine gt_4_2 C w ha1 kw_3_0 dX4_become_40 ?_
      refine lv_iconst (v := 0) hx hb dX4_become_43 (by decide) ?_
      refine lv_aload_n hx hb dX4_become_44 rfl (lv_at hl 0 rfl) ?_
      refine gt_4_2 C w ha0 kw_3_0 dX4_become_45 ?_
      refine lv_iconst (v := 0) hx hb dX4_become_48 (by decide) ?_
      refine lv_aload_n hx hb dX4_become_49 rfl (lv_at hl 0 rfl) ?_
      refine gt_4_2 C w ha0 kw_3_0 dX4_become_50 ?_
      refine pw_len C w (i := (10 + a0)) (by omega) (pE_st (by omega)) (v := 7) rfl dX4_become_53 ?_
      refine pw_cpy C w hl.1 (i := (10 + a1)) (i1 := (10 + a0)) (by omega) (pE_st (by omega)) (by omega) (fun _ => (pE_st (by omega))) kw_6_12 kw_6_13 kw_6_14 kw_6_15 h.1 (by decide) (by decide) dX4_become_54 (fun H locs w => ?_)
      replace h := h.2
      obtain ⟨M3, eM3⟩ : ∃ z : Mem, z = (va_up M2 (10 + a0) (va_cpy (M2 (10 + a1)) (M2 (10 + a0)) 0 0 7)) := ⟨_, rfl⟩
      replace w : Wd G s M3 H locs := by rw [eM3]; exact w
      replace h := h M3 eM3
      refine lv_aload_n hx hb dX4_become_57 rfl (lv_at hl 0 rfl) ?_
      refine lv_aload_n hx hb dX4_become_58 rfl (lv_at hl 1 rfl) ?_
      refine gt_4_3 C w ha1 kw_3_1 dX4_become_59 ?_
      refine pt_4_3 C w ha0 kw_3_1 dX4_become_62 (fun H locs w => ?_)
      obtain ⟨M4, eM4⟩ : ∃ z : Mem, z = (mup M3 a0 3 (M3 a1 3)) := ⟨_, rfl⟩
      replace w : Wd G s M4 H locs := by rw [eM4]; exact w
      replace h := h M4 eM4
      refine lv_aload_n hx hb dX4_become_65 rfl (lv_at hl 0 rfl) ?_
      refine lv_aload_n hx hb dX4_become_66 rfl (lv_at hl 1 rfl) ?_
      refine gt_4_4 C w ha1 kw_3_2 dX4_become_67 ?_
      refine pt_4_4 C w ha0 kw_3_2 dX4_become_70 (fun H locs w => ?_)
      obtain ⟨M5, eM5⟩ : ∃ z : Mem, z = (mup M4 a0 4 (M4 a1 4)) := ⟨_, rfl⟩
      replace w : Wd G s M5 H locs := by rw [eM5]; exact w
      replace h := h M5 eM5
      refine lv_aload_n hx hb dX4_become_73 rfl (lv_at hl 0 rfl) ?_
      refine lv_aload_n hx hb dX4_become_74 rfl (lv_at hl 1 rfl) ?_
      refine gt_4_5 C w ha1 kw_3_3 dX4_become_75 ?_
      refine pt_4_5 C w ha0 kw_3_3 dX4_become_78 (fun H locs w => ?_)
      obtain ⟨M6, eM6⟩ : ∃ z : Mem, z = (mup M5 a0 5 (M5 a1 5)) := ⟨_, rfl⟩
      replace w : Wd G s M6 H locs := by rw [eM6]; exact w
      replace h := h M6 eM6
      refine lv_aload_n hx hb dX4_become_81 rfl (lv_at hl 0 rfl) ?_
      refine lv_aload_n hx hb dX4_become_82 rfl (lv_at hl 1 rfl) ?_
      refine gt_4_6 C w ha1 kw_3_4 dX4_become_83 ?_
      refine pt_4_6 C w ha0 kw_3_4 dX4_become_86 (fun H locs w => ?_)
      obtain ⟨M7, eM7⟩ : ∃ z : Mem, z = (mup M6 a0 6 (M6 a1 6)) := ⟨_, rfl⟩
      replace w : Wd G s M7 H locs := by rw [eM7]; exact w
      replace h := h M7 eM7
      refine lv_aload_n hx hb dX4_become_89 rfl (lv_at hl 0 rfl) ?_
      refine lv_aload_n hx hb dX4_become_90 rfl (lv_at hl 1 rfl) ?_
      refine gt_4_7 C w ha1 kw_3_5 dX4_become_91 ?_
      refine pt_4_7 C w ha0 kw_3_5 dX4_become_94 (fun H locs w => ?_)
      obtain ⟨M8, eM8⟩ : ∃ z : Mem, z = (mup M7 a0 7 (M7 a1 7)) := ⟨_, rfl⟩
      replace w : Wd G s M8 H locs := by rw [eM8]; exact w
      replace h := h M8 eM8
      refine lv_aload_n hx hb dX4_become_97 rfl (lv_at hl 0 rfl) ?_
      refine lv_aload_n hx hb dX4_become_98 rfl (lv_at hl 1 rfl) ?_
      refine gt_4_8 C w ha1 kw_3_6 dX4_become_99 ?_
      refine pt_4_8 C w ha0 kw_3_6 dX4_become_102 (fun H locs w => ?_)
      obtain ⟨M9, eM9⟩ : ∃ z : Mem, z = (mup M8 a0 8 (M8 a1 8)) := ⟨_, rfl⟩
      replace w : Wd G s M9 H locs := by rw [eM9]; exact w
      replace h := h M9 eM9
      exact ret_v C w h dX4_become_105
    replace h := h.2 c1
    refine lv_aload_n hx hb dX4_become_10 rfl (lv_at hl 0 rfl) ?_
    refine gt_4_0 C w ha0 kw_2_16 dX4_become_11 ?_
    refine lv_iload_n hx hb dX4_become_14 rfl (lv_at hl 2 rfl) ?_
    have hin10 := h.1
    replace h := h.2
    have hz_hin10 := in_lt hin10
    refine pw_ldP C w (i := (7 + a0)) (by omega) hin10 dX4_become_15 (j := (32 + 6 * a0 + x2.toNatClampNeg)) (by omega) ?_
    refine lv_aload_n hx hb dX4_become_16 rfl (lv_at hl 1 rfl) ?_
    refine gt_4_0 C w ha1 kw_2_16 dX4_become_17 ?_
    refine lv_iload_n hx hb dX4_become_20 rfl (lv_at hl 2 rfl) ?_
    refine pw_ldP C w (i := (7 + a1)) (by omega) hin10 dX4_become_21 (j := (32 + 6 * a1 + x2.toNatClampNeg)) (by omega) ?_
    refine end_v w (run_VN (As := [.ref (ga G (32 + 6 * a1 + x2.toNatClampNeg))]) C w hl.1 (c_X1_become l G C.2.2.1 _ _ (32 + 6 * a0 + x2.toNatClampNeg) (32 + 6 * a1 + x2.toNatClampNeg) (by omega) (by omega) _ h) kw_6_18 kw_2_1 kn_45 kw_6_16 kw_6_17 hd_X1_become ⟨by decide, by decide⟩ (w.recv C (i := (32 + 6 * a0 + x2.toNatClampNeg)) (by omega) (pE_1 (by omega)) rfl) rfl (Nat.le_of_ble_eq_true rfl) dX4_become_22) (fun M12 H locs h w => ?_)
    refine lv_iinc (v := (x2 + (1 : Int32))) (lv' := [(2, .int (x2 + (1 : Int32))), (0, .ref (ga G a0)), (1, .ref (ga G a1))]) hx hb dX4_become_25 hl (k := 2) rfl rfl (by decide) rfl (fun ls hl => ?_)
    refine lv_goto (tgt := 2) hx hb dX4_become_28 (by decide) ?_
    exact hk2 M12 a0 a1 (x2 + (1 : Int32)) _ _ _ ha0 ha1 w (lv_sub hl [1, 2, 0] rfl) h
set_option maxHeartbeats 4000000 in
set_option maxRecDepth 100000 in
theorem c_X4_become (l : Launch) (G : GG) (hG : Ag G) (sz : Nat) (M : Mem) (a0 : Nat) (a1 : Nat) (ha0 : 1 ≤ a0 ∧ a0 < 4) (ha1 : 1 ≤ a1 ∧ a1 < 4) (post : Mem → Prop) (h : q_X4_become M a0 a1 post) : Met l yX4_become (Cond.code yX4_become cX4_become 3 none :: wsL_law) (rmk 2) (va_Pc [.ref (ga G a0), .ref (ga G a1)] (Pw G sz M)) (va_Qv post (Qw G) (Af G sz)) 0 0 (Af G sz) := by
  refine Met.ofW (cc := cX4_become) (maxL := 3) (ret := none) (by decide) rfl ?_
  intro p e s m args below meth c s₁ B hml hv
  obtain ⟨rfl, hsz, hE, hP⟩ := hv
  subst hsz
  have C := Cx.of (own := RX4) hG hE rfl hml B
  have w : Wd G s M s.heap [] := ⟨hP, va_S.rf⟩
  have hl := lv_entry [.ref (ga G a0), .ref (ga G a1)] (n := 3) (Nat.le_of_ble_eq_true rfl)
  rw [lg_entry_eq]
  generalize (lg_sl [.ref (ga G a0), .ref (ga G a1)] ++ List.replicate (3 - (lg_sl [.ref (ga G a0), .ref (ga G a1)]).length) Slot.unset).toArray = ls at hl ⊢
  have hl : lv_has ls 3 [(0, .ref (ga G a0)), (1, .ref (ga G a1))] := hl
  have hx := C.1.1
  have hb := C.1.2.1
  show W p l e (rmk 2) s m _ below meth c s.heap [] 0 0 _ _
  unfold q_X4_become at h
  refine lv_iconst (v := 0) hx hb dX4_become_0 (by decide) ?_
  refine lv_istore_n (lv' := [(2, .int (0 : Int32)), (0, .ref (ga G a0)), (1, .ref (ga G a1))]) hx hb dX4_become_1 rfl hl (by decide) rfl (fun ls hl => ?_)
  obtain ⟨n, h⟩ := h
  exact t_X4_become_2 C n M a0 a1 (0 : Int32) ha0 ha1 w (lv_sub hl [1, 2, 0] rfl) h
def q_X5_isShelf (M : Mem) (x0 : Int32) (post : Int32 → Mem → Prop) : Prop := q_X5_isWithin M x0 (0 : Int32) (7 : Int32) (fun r1 M2 => (r1 = 0 ∨ r1 = 1) ∧ post r1 M2)
set_option maxHeartbeats 4000000 in
set_option maxRecDepth 100000 in
theorem c_X5_isShelf (l : Launch) (G : GG) (hG : Ag G) (sz : Nat) (M : Mem) (x0 : Int32) (post : Int32 → Mem → Prop) (h : q_X5_isShelf M x0 post) : Met l yX5_isShelf (Cond.code yX5_isShelf cX5_isShelf 1 (some .boolean) :: wsL_law) (rmk 2) (va_Pc [.int x0] (Pw G sz M)) (va_Qi post (Qw G) (Af G sz)) 0 0 (Af G sz) := by
  refine Met.ofW (cc := cX5_isShelf) (maxL := 1) (ret := (some .boolean)) (by decide) rfl ?_
  intro p e s m args below meth c s₁ B hml hv
  obtain ⟨rfl, hsz, hE, hP⟩ := hv
  subst hsz
  have C := Cx.of (own := RX5) hG hE rfl hml B
  have w : Wd G s M s.heap [] := ⟨hP, va_S.rf⟩
  have hl := lv_entry [.int x0] (n := 1) (Nat.le_of_ble_eq_true rfl)
  rw [lg_entry_eq]
  generalize (lg_sl [.int x0] ++ List.replicate (1 - (lg_sl [.int x0]).length) Slot.unset).toArray = ls at hl ⊢
  have hl : lv_has ls 1 [(0, .int x0)] := hl
  have hx := C.1.1
  have hb := C.1.2.1
  show W p l e (rmk 2) s m _ below meth c s.heap [] 0 0 _ _
  unfold q_X5_isShelf at h
  refine lv_iload_n hx hb dX5_isShelf_0 rfl (lv_at hl 0 rfl) ?_
  refine lv_iconst (v := 0) hx hb dX5_isShelf_1 (by decide) ?_
  refine lv_bipush (v := 7) hx hb dX5_isShelf_2 (by decide) ?_
  refine end_i w (run_S (As := [.int x0, .int (0 : Int32), .int (7 : Int32)]) C w hl.1 (c_X5_isWithin l G C.2.2.1 _ _ x0 (0 : Int32) (7 : Int32)  _ h) kw_6_8 kw_1_2 kw_6_6 kw_6_7 hd_X5_isWithin ⟨by decide, by decide⟩ rfl (Nat.le_of_ble_eq_true rfl) dX5_isShelf_4) (fun r1 M2 H locs h w => ?_)
  exact ret_z C w h dX5_isShelf_7
def j_X5_refusalOfHolding_43 (post : Int32 → Mem → Prop) (M : Mem) (y0 : Int32) : Prop := post y0 M
def q_X5_refusalOfHolding (M : Mem) (x1 : Int32) (x2 : Int32) (post : Int32 → Mem → Prop) : Prop := q_X5_isShelf M x1 (fun r1 M2 => (r1 = 0 → (post (-1 : Int32) M2)) ∧ (¬ (r1 = 0) → (vp_in x1 8 ∧ (((M2 (14 + x1.toNatClampNeg) 0) = 0 → (post (-11 : Int32) M2)) ∧ (¬ ((M2 (14 + x1.toNatClampNeg) 0) = 0) → (((M2 (14 + x1.toNatClampNeg) 0) = x2 → (j_X5_refusalOfHolding_43 post M2 (0 : Int32))) ∧ (¬ ((M2 (14 + x1.toNatClampNeg) 0) = x2) → (j_X5_refusalOfHolding_43 post M2 (-12 : Int32)))))))))
set_option maxHeartbeats 4000000 in
set_option maxRecDepth 100000 in
theorem t_X5_refusalOfHolding_43 (C : Cx G p s m args meth c RX5 cX5_refusalOfHolding 3 (some .int)) {post : Int32 → Mem → Prop} (M : Mem) (y0 : Int32) {H : Heap} {locs : List Loc} {ls : Array Slot} (w : Wd G s M H locs) (hl : lv_has ls 3 []) (h : j_X5_refusalOfHolding_43 post M y0) : W p l e (rmk 3) s m args below meth c H locs 0 0 (MQ below (va_Qi post (Qw G) (Af G s.heap.size)) args s 0 0 (Af G s.heap.size)) (F0 m 43 ls [.int y0]) := by
  have hx := C.1.1
  have hb := C.1.2.1
  unfold j_X5_refusalOfHolding_43 at h
  exact ret_i C w h dX5_refusalOfHolding_43
set_option maxHeartbeats 4000000 in
set_option maxRecDepth 100000 in
theorem c_X5_refusalOfHolding (l : Launch) (G : GG) (hG : Ag G) (sz : Nat) (M : Mem) (x1 : Int32) (x2 : Int32) (post : Int32 → Mem → Prop) (h : q_X5_refusalOfHolding M x1 x2 post) : Met l yX5_refusalOfHolding (Cond.code yX5_refusalOfHolding cX5_refusalOfHolding 3 (some .int) :: wsL_law) (rmk 3) (va_Pc [.ref (ga G 0), .int x1, .int x2] (Pw G sz M)) (va_Qi post (Qw G) (Af G sz)) 0 0 (Af G sz) := by
  refine Met.ofW (cc := cX5_refusalOfHolding) (maxL := 3) (ret := (some .int)) (by decide) rfl ?_
  intro p e s m args below meth c s₁ B hml hv
  obtain ⟨rfl, hsz, hE, hP⟩ := hv
  subst hsz
  have C := Cx.of (own := RX5) hG hE rfl hml B
  have w : Wd G s M s.heap [] := ⟨hP, va_S.rf⟩
  have hl := lv_entry [.ref (ga G 0), .int x1, .int x2] (n := 3) (Nat.le_of_ble_eq_true rfl)
  rw [lg_entry_eq]
  generalize (lg_sl [.ref (ga G 0), .int x1, .int x2] ++ List.replicate (3 - (lg_sl [.ref (ga G 0), .int x1, .int x2]).length) Slot.unset).toArray = ls at hl ⊢
  have hl : lv_has ls 3 [(0, .ref (ga G 0)), (1, .int x1), (2, .int x2)] := hl
  have hx := C.1.1
  have hb := C.1.2.1
  show W p l e (rmk 3) s m _ below meth c s.heap [] 0 0 _ _
  unfold q_X5_refusalOfHolding at h
  refine lv_iload_n hx hb dX5_refusalOfHolding_0 rfl (lv_at hl 1 rfl) ?_
  refine end_i w (run_S (As := [.int x1]) C w hl.1 (c_X5_isShelf l G C.2.2.1 _ _ x1  _ h) kw_6_5 kw_1_2 kw_6_3 kw_6_4 hd_X5_isShelf ⟨by decide, by decide⟩ rfl (Nat.le_of_ble_eq_true rfl) dX5_refusalOfHolding_1) (fun r1 M2 H locs h w => ?_)
  refine lv_if_ne (tgt := 9) hx hb dX5_refusalOfHolding_4 (by decide) (fun c3 => ?_) (fun c3 => ?_)
  · replace h := h.2 c3
    refine lv_aload_n hx hb dX5_refusalOfHolding_9 rfl (lv_at hl 0 rfl) ?_
    refine gt_5_6 C w kw_2_8 dX5_refusalOfHolding_10 ?_
    refine lv_iload_n hx hb dX5_refusalOfHolding_13 rfl (lv_at hl 1 rfl) ?_
    have hin4 := h.1
    replace h := h.2
    have hz_hin4 := in_lt hin4
    refine pw_ldS C w hin4 rfl dX5_refusalOfHolding_14 ?_
    refine gn_3_0 C w (by omega) kn_29 dX5_refusalOfHolding_15 ?_
    refine lv_if_ne (tgt := 24) hx hb dX5_refusalOfHolding_18 (by decide) (fun c5 => ?_) (fun c5 => ?_)
    · replace h := h.2 c5
      refine lv_aload_n hx hb dX5_refusalOfHolding_24 rfl (lv_at hl 0 rfl) ?_
      refine gt_5_6 C w kw_2_8 dX5_refusalOfHolding_25 ?_
      refine lv_iload_n hx hb dX5_refusalOfHolding_28 rfl (lv_at hl 1 rfl) ?_
      refine pw_ldS C w hin4 rfl dX5_refusalOfHolding_29 ?_
      refine gn_3_0 C w (by omega) kn_29 dX5_refusalOfHolding_30 ?_
      refine lv_iload_n hx hb dX5_refusalOfHolding_33 rfl (lv_at hl 2 rfl) ?_
      refine lv_icmp_ne (tgt := 41) hx hb dX5_refusalOfHolding_34 (by decide) (fun c6 => ?_) (fun c6 => ?_)
      · replace h := h.2 c6
        refine lv_bipush (v := -12) hx hb dX5_refusalOfHolding_41 (by decide) ?_
        exact t_X5_refusalOfHolding_43 C M2 (-12 : Int32)  w (lv_sub hl [] rfl) h
      replace h := h.1 c6
      refine lv_iconst (v := 0) hx hb dX5_refusalOfHolding_37 (by decide) ?_
      refine lv_goto (tgt := 43) hx hb dX5_refusalOfHolding_38 (by decide) ?_
      exact t_X5_refusalOfHolding_43 C M2 (0 : Int32)  w (lv_sub hl [] rfl) h
    replace h := h.1 c5
    refine lv_bipush (v := -11) hx hb dX5_refusalOfHolding_21 (by decide) ?_
    exact ret_i C w h dX5_refusalOfHolding_23
  replace h := h.1 c3
  refine lv_iconst (v := -1) hx hb dX5_refusalOfHolding_7 (by decide) ?_
  exact ret_i C w h dX5_refusalOfHolding_8
def q_X5_refusalOfRow (M : Mem) (x1 : Int32) (post : Int32 → Mem → Prop) : Prop := q_X5_refusalOfHolding M x1 (2 : Int32) (fun r1 M2 => post r1 M2)
set_option maxHeartbeats 4000000 in
set_option maxRecDepth 100000 in
theorem c_X5_refusalOfRow (l : Launch) (G : GG) (hG : Ag G) (sz : Nat) (M : Mem) (x1 : Int32) (post : Int32 → Mem → Prop) (h : q_X5_refusalOfRow M x1 post) : Met l yX5_refusalOfRow (Cond.code yX5_refusalOfRow cX5_refusalOfRow 2 (some .int) :: wsL_law) (rmk 4) (va_Pc [.ref (ga G 0), .int x1] (Pw G sz M)) (va_Qi post (Qw G) (Af G sz)) 0 0 (Af G sz) := by
  refine Met.ofW (cc := cX5_refusalOfRow) (maxL := 2) (ret := (some .int)) (by decide) rfl ?_
  intro p e s m args below meth c s₁ B hml hv
  obtain ⟨rfl, hsz, hE, hP⟩ := hv
  subst hsz
  have C := Cx.of (own := RX5) hG hE rfl hml B
  have w : Wd G s M s.heap [] := ⟨hP, va_S.rf⟩
  have hl := lv_entry [.ref (ga G 0), .int x1] (n := 2) (Nat.le_of_ble_eq_true rfl)
  rw [lg_entry_eq]
  generalize (lg_sl [.ref (ga G 0), .int x1] ++ List.replicate (2 - (lg_sl [.ref (ga G 0), .int x1]).length) Slot.unset).toArray = ls at hl ⊢
  have hl : lv_has ls 2 [(0, .ref (ga G 0)), (1, .int x1)] := hl
  have hx := C.1.1
  have hb := C.1.2.1
  show W p l e (rmk 4) s m _ below meth c s.heap [] 0 0 _ _
  unfold q_X5_refusalOfRow at h
  refine lv_aload_n hx hb dX5_refusalOfRow_0 rfl (lv_at hl 0 rfl) ?_
  refine lv_iload_n hx hb dX5_refusalOfRow_1 rfl (lv_at hl 1 rfl) ?_
  refine lv_iconst (v := 2) hx hb dX5_refusalOfRow_2 (by decide) ?_
  refine end_i w (run_V (As := [.int x1, .int (2 : Int32)]) C w hl.1 (c_X5_refusalOfHolding l G C.2.2.1 _ _ x1 (2 : Int32)  _ h) kw_6_2 kw_1_2 kw_5_23 kw_6_0 kw_6_1 hd_X5_refusalOfHolding ⟨by decide, by decide⟩ (w.recv C (i := 0) (by decide) (pE_5) rfl) rfl (Nat.le_of_ble_eq_true rfl) dX5_refusalOfRow_3) (fun r1 M2 H locs h w => ?_)
  exact ret_i C w h dX5_refusalOfRow_6
def j_X5_refusalOfBytes_30 (post : Int32 → Mem → Prop) (M : Mem) (y0 : Int32) : Prop := post y0 M
def q_X5_refusalOfBytes (M : Mem) (x1 : Int32) (post : Int32 → Mem → Prop) : Prop := q_X5_refusalOfRow M x1 (fun r1 M2 => (0 ≤ r1 → (vp_in x1 8 ∧ (((M2 (14 + x1.toNatClampNeg) 2) = 0 → (j_X5_refusalOfBytes_30 post M2 (0 : Int32))) ∧ (¬ ((M2 (14 + x1.toNatClampNeg) 2) = 0) → (j_X5_refusalOfBytes_30 post M2 (-12 : Int32)))))) ∧ (¬ (0 ≤ r1) → (post r1 M2)))
set_option maxHeartbeats 4000000 in
set_option maxRecDepth 100000 in
theorem t_X5_refusalOfBytes_30 (C : Cx G p s m args meth c RX5 cX5_refusalOfBytes 3 (some .int)) {post : Int32 → Mem → Prop} (M : Mem) (y0 : Int32) {H : Heap} {locs : List Loc} {ls : Array Slot} (w : Wd G s M H locs) (hl : lv_has ls 3 []) (h : j_X5_refusalOfBytes_30 post M y0) : W p l e (rmk 5) s m args below meth c H locs 0 0 (MQ below (va_Qi post (Qw G) (Af G s.heap.size)) args s 0 0 (Af G s.heap.size)) (F0 m 30 ls [.int y0]) := by
  have hx := C.1.1
  have hb := C.1.2.1
  unfold j_X5_refusalOfBytes_30 at h
  exact ret_i C w h dX5_refusalOfBytes_30
set_option maxHeartbeats 4000000 in
set_option maxRecDepth 100000 in
theorem c_X5_refusalOfBytes (l : Launch) (G : GG) (hG : Ag G) (sz : Nat) (M : Mem) (x1 : Int32) (post : Int32 → Mem → Prop) (h : q_X5_refusalOfBytes M x1 post) : Met l yX5_refusalOfBytes (Cond.code yX5_refusalOfBytes cX5_refusalOfBytes 3 (some .int) :: wsL_law) (rmk 5) (va_Pc [.ref (ga G 0), .int x1] (Pw G sz M)) (va_Qi post (Qw G) (Af G sz)) 0 0 (Af G sz) := by
  refine Met.ofW (cc := cX5_refusalOfBytes) (maxL := 3) (ret := (some .int)) (by decide) rfl ?_
  intro p e s m args below meth c s₁ B hml hv
  obtain ⟨rfl, hsz, hE, hP⟩ := hv
  subst hsz
  have C := Cx.of (own := RX5) hG hE rfl hml B
  have w : Wd G s M s.heap [] := ⟨hP, va_S.rf⟩
  have hl := lv_entry [.ref (ga G 0), .int x1] (n := 3) (Nat.le_of_ble_eq_true rfl)
  rw [lg_entry_eq]
  generalize (lg_sl [.ref (ga G 0), .int x1] ++ List.replicate (3 - (lg_sl [.ref (ga G 0), .int x1]).length) Slot.unset).toArray = ls at hl ⊢
  have hl : lv_has ls 3 [(0, .ref (ga G 0)), (1, .int x1)] := hl
  have hx := C.1.1
  have hb := C.1.2.1
  show W p l e (rmk 5) s m _ below meth c s.heap [] 0 0 _ _
  unfold q_X5_refusalOfBytes at h
  refine lv_aload_n hx hb dX5_refusalOfBytes_0 rfl (lv_at hl 0 rfl) ?_
  refine lv_iload_n hx hb dX5_refusalOfBytes_1 rfl (lv_at hl 1 rfl) ?_
  refine end_i w (run_V (As := [.int x1]) C w hl.1 (c_X5_refusalOfRow l G C.2.2.1 _ _ x1  _ h) kw_5_22 kw_1_2 kw_5_19 kw_5_20 kw_5_21 hd_X5_refusalOfRow ⟨by decide, by decide⟩ (w.recv C (i := 0) (by decide) (pE_5) rfl) rfl (Nat.le_of_ble_eq_true rfl) dX5_refusalOfBytes_2) (fun r1 M2 H locs h w => ?_)
  refine lv_istore_n (lv' := [(2, .int r1), (0, .ref (ga G 0)), (1, .int x1)]) hx hb dX5_refusalOfBytes_5 rfl hl (by decide) rfl (fun ls hl => ?_)
  refine lv_iload_n hx hb dX5_refusalOfBytes_6 rfl (lv_at hl 0 rfl) ?_
  refine lv_if_ge (tgt := 12) hx hb dX5_refusalOfBytes_7 (by decide) (fun c3 => ?_) (fun c3 => ?_)
  · replace h := h.1 c3
    refine lv_aload_n hx hb dX5_refusalOfBytes_12 rfl (lv_at hl 1 rfl) ?_
    refine gt_5_6 C w kw_2_8 dX5_refusalOfBytes_13 ?_
    refine lv_iload_n hx hb dX5_refusalOfBytes_16 rfl (lv_at hl 2 rfl) ?_
    have hin4 := h.1
    replace h := h.2
    have hz_hin4 := in_lt hin4
    refine pw_ldS C w hin4 rfl dX5_refusalOfBytes_17 ?_
    refine gn_3_2 C w (by omega) kn_31 dX5_refusalOfBytes_18 ?_
    refine lv_if_ne (tgt := 28) hx hb dX5_refusalOfBytes_21 (by decide) (fun c5 => ?_) (fun c5 => ?_)
    · replace h := h.2 c5
      refine lv_bipush (v := -12) hx hb dX5_refusalOfBytes_28 (by decide) ?_
      exact t_X5_refusalOfBytes_30 C M2 (-12 : Int32)  w (lv_sub hl [] rfl) h
    replace h := h.1 c5
    refine lv_iconst (v := 0) hx hb dX5_refusalOfBytes_24 (by decide) ?_
    refine lv_goto (tgt := 30) hx hb dX5_refusalOfBytes_25 (by decide) ?_
    exact t_X5_refusalOfBytes_30 C M2 (0 : Int32)  w (lv_sub hl [] rfl) h
  replace h := h.2 c3
  refine lv_iload_n hx hb dX5_refusalOfBytes_10 rfl (lv_at hl 0 rfl) ?_
  exact ret_i C w h dX5_refusalOfBytes_11
def j_X5_tow_56 (post : Int32 → Mem → Prop) (M : Mem) (x3 : Int32) : Prop := post x3 M
def q_X5_tow (M : Mem) (x1 : Int32) (post : Int32 → Mem → Prop) : Prop := q_X5_refusalOfBytes M x1 (fun r1 M2 => (0 ≤ r1 → (q_X4_become M2 3 1 (fun M5 => vp_in x1 8 ∧ (q_X2_read M5 (14 + x1.toNatClampNeg) 3 (fun r7 M8 => (r7 ≤ 0 → (j_X5_tow_56 post M8 r7)) ∧ (¬ (r7 ≤ 0) → (q_X4_become M8 1 3 (fun M11 => j_X5_tow_56 post M11 r7)))))))) ∧ (¬ (0 ≤ r1) → (post r1 M2)))
set_option maxHeartbeats 4000000 in
set_option maxRecDepth 100000 in
theorem t_X5_tow_56 (C : Cx G p s m args meth c RX5 cX5_tow 4 (some .int)) {post : Int32 → Mem → Prop} (M : Mem) (x3 : Int32) {H : Heap} {locs : List Loc} {ls : Array Slot} (w : Wd G s M H locs) (hl : lv_has ls 4 [(3, .int x3)]) (h : j_X5_tow_56 post M x3) : W p l e (rmk 9) s m args below meth c H locs 0 0 (MQ below (va_Qi post (Qw G) (Af G s.heap.size)) args s 0 0 (Af G s.heap.size)) (F0 m 56 ls []) := by
  have hx := C.1.1
  have hb := C.1.2.1
  unfold j_X5_tow_56 at h
  refine lv_iload_n hx hb dX5_tow_56 rfl (lv_at hl 0 rfl) ?_
  exact ret_i C w h dX5_tow_57
set_option maxHeartbeats 4000000 in
set_option maxRecDepth 100000 in
theorem c_X5_tow (l : Launch) (G : GG) (hG : Ag G) (sz : Nat) (M : Mem) (x1 : Int32) (post : Int32 → Mem → Prop) (h : q_X5_tow M x1 post) : Met l yX5_tow (Cond.code yX5_tow cX5_tow 4 (some .int) :: wsL_law) (rmk 9) (va_Pc [.ref (ga G 0), .int x1] (Pw G sz M)) (va_Qi post (Qw G) (Af G sz)) 0 0 (Af G sz) := by
  refine Met.ofW (cc := cX5_tow) (maxL := 4) (ret := (some .int)) (by decide) rfl ?_
  intro p e s m args below meth c s₁ B hml hv
  obtain ⟨rfl, hsz, hE, hP⟩ := hv
  subst hsz
  have C := Cx.of (own := RX5) hG hE rfl hml B
  have w : Wd G s M s.heap [] := ⟨hP, va_S.rf⟩
  have hl := lv_entry [.ref (ga G 0), .int x1] (n := 4) (Nat.le_of_ble_eq_true rfl)
  rw [lg_entry_eq]
  generalize (lg_sl [.ref (ga G 0), .int x1] ++ List.replicate (4 - (lg_sl [.ref (ga G 0), .int x1]).length) Slot.unset).toArray = ls at hl ⊢
  have hl : lv_has ls 4 [(0, .ref (ga G 0)), (1, .int x1)] := hl
  have hx := C.1.1
  have hb := C.1.2.1
  show W p l e (rmk 9) s m _ below meth c s.heap [] 0 0 _ _
  unfold q_X5_tow at h
  refine lv_aload_n hx hb dX5_tow_0 rfl (lv_at hl 0 rfl) ?_
  refine lv_iload_n hx hb dX5_tow_1 rfl (lv_at hl 1 rfl) ?_
  refine end_i w (run_V (As := [.int x1]) C w hl.1 (c_X5_refusalOfBytes l G C.2.2.1 _ _ x1  _ h) kw_5_18 kw_1_2 kw_5_15 kw_5_16 kw_5_17 hd_X5_refusalOfBytes ⟨by decide, by decide⟩ (w.recv C (i := 0) (by decide) (pE_5) rfl) rfl (Nat.le_of_ble_eq_true rfl) dX5_tow_2) (fun r1 M2 H locs h w => ?_)
  refine lv_istore_n (lv' := [(2, .int r1), (0, .ref (ga G 0)), (1, .int x1)]) hx hb dX5_tow_5 rfl hl (by decide) rfl (fun ls hl => ?_)
  refine lv_iload_n hx hb dX5_tow_6 rfl (lv_at hl 0 rfl) ?_
  refine lv_if_ge (tgt := 12) hx hb dX5_tow_7 (by decide) (fun c3 => ?_) (fun c3 => ?_)
  · replace h := h.1 c3
    refine lv_aload_n hx hb dX5_tow_12 rfl (lv_at hl 1 rfl) ?_
    refine gt_5_2 C w kw_1_18 dX5_tow_13 ?_
    refine lv_aload_n hx hb dX5_tow_16 rfl (lv_at hl 1 rfl) ?_
    refine gt_5_0 C w kw_1_16 dX5_tow_17 ?_
    refine end_v w (run_VN (As := [.ref (ga G 1)]) C w hl.1 (c_X4_become l G C.2.2.1 _ _ 3 1 ⟨by decide, by decide⟩ ⟨by decide, by decide⟩ _ h) kw_6_11 kw_1_15 kn_44 kw_6_9 kw_6_10 hd_X4_become ⟨by decide, by decide⟩ (w.recv C (i := 3) (by decide) (pE_4 ⟨by decide, by decide⟩) rfl) rfl (Nat.le_of_ble_eq_true rfl) dX5_tow_20) (fun M5 H locs h w => ?_)
    refine lv_aload_n hx hb dX5_tow_23 rfl (lv_at hl 1 rfl) ?_
    refine gt_5_5 C w kw_2_6 dX5_tow_24 ?_
    refine lv_aload_n hx hb dX5_tow_27 rfl (lv_at hl 1 rfl) ?_
    refine gt_5_6 C w kw_2_8 dX5_tow_28 ?_
    refine lv_iload_n hx hb dX5_tow_31 rfl (lv_at hl 2 rfl) ?_
    have hin6 := h.1
    replace h := h.2
    have hz_hin6 := in_lt hin6
    refine pw_ldS C w hin6 rfl dX5_tow_32 ?_
    refine lv_aload_n hx hb dX5_tow_33 rfl (lv_at hl 1 rfl) ?_
    refine gt_5_2 C w kw_1_18 dX5_tow_34 ?_
    refine end_i w (run_VN (As := [.ref (ga G (14 + x1.toNatClampNeg)), .ref (ga G 3)]) C w hl.1 (c_X2_read l G C.2.2.1 _ _ (14 + x1.toNatClampNeg) 3 (by omega) ⟨by decide, by decide⟩ _ h) kw_6_21 kw_2_5 kn_46 kw_6_19 kw_6_20 hd_X2_read ⟨by decide, by decide⟩ (w.recv C (i := 5) (by decide) (pE_2) rfl) rfl (Nat.le_of_ble_eq_true rfl) dX5_tow_37) (fun r7 M8 H locs h w => ?_)
    refine lv_istore_n (lv' := [(3, .int r7), (2, .int r1), (0, .ref (ga G 0)), (1, .int x1)]) hx hb dX5_tow_40 rfl hl (by decide) rfl (fun ls hl => ?_)
    refine lv_iload_n hx hb dX5_tow_41 rfl (lv_at hl 0 rfl) ?_
    refine lv_if_le (tgt := 56) hx hb dX5_tow_42 (by decide) (fun c9 => ?_) (fun c9 => ?_)
    · replace h := h.1 c9
      exact t_X5_tow_56 C M8 r7  w (lv_sub hl [0] rfl) h
    replace h := h.2 c9
    refine lv_aload_n hx hb dX5_tow_45 rfl (lv_at hl 2 rfl) ?_
    refine gt_5_0 C w kw_1_16 dX5_tow_46 ?_
    refine lv_aload_n hx hb dX5_tow_49 rfl (lv_at hl 2 rfl) ?_
    refine gt_5_2 C w kw_1_18 dX5_tow_50 ?_
    refine end_v w (run_VN (As := [.ref (ga G 3)]) C w hl.1 (c_X4_become l G C.2.2.1 _ _ 1 3 ⟨by decide, by decide⟩ ⟨by decide, by decide⟩ _ h) kw_6_11 kw_1_15 kn_44 kw_6_9 kw_6_10 hd_X4_become ⟨by decide, by decide⟩ (w.recv C (i := 1) (by decide) (pE_4 ⟨by decide, by decide⟩) rfl) rfl (Nat.le_of_ble_eq_true rfl) dX5_tow_53) (fun M11 H locs h w => ?_)
    exact t_X5_tow_56 C M11 r7  w (lv_sub hl [0] rfl) h
  replace h := h.2 c3
  refine lv_iload_n hx hb dX5_tow_10 rfl (lv_at hl 0 rfl) ?_
  exact ret_i C w h dX5_tow_11
end WALK
