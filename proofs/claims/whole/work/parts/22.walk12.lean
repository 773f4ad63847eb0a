theorem dJ7_fill_53178_0 : decode cJ7_fill_53178 0 = .ok (.iconst 0, 1) := by decide +kernel
theorem dJ7_fill_53178_1 : decode cJ7_fill_53178 1 = .ok (.istore_n 2, 1) := by decide +kernel
theorem dJ7_fill_53178_2 : decode cJ7_fill_53178 2 = .ok (.aload_n 0, 1) := by decide +kernel
theorem dJ7_fill_53178_3 : decode cJ7_fill_53178 3 = .ok (.arraylength, 1) := by decide +kernel
theorem dJ7_fill_53178_4 : decode cJ7_fill_53178 4 = .ok (.istore_n 3, 1) := by decide +kernel
theorem dJ7_fill_53178_5 : decode cJ7_fill_53178 5 = .ok (.iload_n 2, 1) := by decide +kernel
theorem dJ7_fill_53178_6 : decode cJ7_fill_53178 6 = .ok (.iload_n 3, 1) := by decide +kernel
theorem dJ7_fill_53178_7 : decode cJ7_fill_53178 7 = .ok (.if_icmp .ge 13, 3) := by decide +kernel
theorem dJ7_fill_53178_10 : decode cJ7_fill_53178 10 = .ok (.aload_n 0, 1) := by decide +kernel
theorem dJ7_fill_53178_11 : decode cJ7_fill_53178 11 = .ok (.iload_n 2, 1) := by decide +kernel
theorem dJ7_fill_53178_12 : decode cJ7_fill_53178 12 = .ok (.iload_n 1, 1) := by decide +kernel
theorem dJ7_fill_53178_13 : decode cJ7_fill_53178 13 = .ok (.iastore, 1) := by decide +kernel
theorem dJ7_fill_53178_14 : decode cJ7_fill_53178 14 = .ok (.iinc 2 1, 3) := by decide +kernel
theorem dJ7_fill_53178_17 : decode cJ7_fill_53178 17 = .ok (.goto (-12), 3) := by decide +kernel
theorem dJ7_fill_53178_20 : decode cJ7_fill_53178 20 = .ok (.return_, 1) := by decide +kernel
theorem dX3_beginRow_0 : decode cX3_beginRow 0 = .ok (.aload_n 0, 1) := by decide +kernel
theorem dX3_beginRow_1 : decode cX3_beginRow 1 = .ok (.iconst 2, 1) := by decide +kernel
theorem dX3_beginRow_2 : decode cX3_beginRow 2 = .ok (.putfield 11, 3) := by decide +kernel
theorem dX3_beginRow_5 : decode cX3_beginRow 5 = .ok (.aload_n 0, 1) := by decide +kernel
theorem dX3_beginRow_6 : decode cX3_beginRow 6 = .ok (.iload_n 1, 1) := by decide +kernel
theorem dX3_beginRow_7 : decode cX3_beginRow 7 = .ok (.putfield 22, 3) := by decide +kernel
theorem dX3_beginRow_10 : decode cX3_beginRow 10 = .ok (.aload_n 0, 1) := by decide +kernel
theorem dX3_beginRow_11 : decode cX3_beginRow 11 = .ok (.iload_n 2, 1) := by decide +kernel
theorem dX3_beginRow_12 : decode cX3_beginRow 12 = .ok (.putfield 25, 3) := by decide +kernel
theorem dX3_beginRow_15 : decode cX3_beginRow 15 = .ok (.aload_n 0, 1) := by decide +kernel
theorem dX3_beginRow_16 : decode cX3_beginRow 16 = .ok (.getfield 28, 3) := by decide +kernel
theorem dX3_beginRow_19 : decode cX3_beginRow 19 = .ok (.iconst 0, 1) := by decide +kernel
theorem dX3_beginRow_20 : decode cX3_beginRow 20 = .ok (.invokestatic 36, 3) := by decide +kernel
theorem dX3_beginRow_23 : decode cX3_beginRow 23 = .ok (.return_, 1) := by decide +kernel
theorem dX5_row_0 : decode cX5_row 0 = .ok (.iload_n 1, 1) := by decide +kernel
theorem dX5_row_1 : decode cX5_row 1 = .ok (.invokestatic 250, 3) := by decide +kernel
theorem dX5_row_4 : decode cX5_row 4 = .ok (.ifCond .eq 18, 3) := by decide +kernel
theorem dX5_row_7 : decode cX5_row 7 = .ok (.iload_n 2, 1) := by decide +kernel
theorem dX5_row_8 : decode cX5_row 8 = .ok (.iconst 0, 1) := by decide +kernel
theorem dX5_row_9 : decode cX5_row 9 = .ok (.iconst 2, 1) := by decide +kernel
theorem dX5_row_10 : decode cX5_row 10 = .ok (.invokestatic 129, 3) := by decide +kernel
theorem dX5_row_13 : decode cX5_row 13 = .ok (.ifCond .eq 9, 3) := by decide +kernel
theorem dX5_row_16 : decode cX5_row 16 = .ok (.iload_n 3, 1) := by decide +kernel
theorem dX5_row_17 : decode cX5_row 17 = .ok (.bipush 100, 2) := by decide +kernel
theorem dX5_row_19 : decode cX5_row 19 = .ok (.if_icmp .le 5, 3) := by decide +kernel
theorem dX5_row_22 : decode cX5_row 22 = .ok (.iconst (-1), 1) := by decide +kernel
theorem dX5_row_23 : decode cX5_row 23 = .ok (.ireturn, 1) := by decide +kernel
theorem dX5_row_24 : decode cX5_row 24 = .ok (.iload_n 3, 1) := by decide +kernel
theorem dX5_row_25 : decode cX5_row 25 = .ok (.ifCond .ge 6, 3) := by decide +kernel
theorem dX5_row_28 : decode cX5_row 28 = .ok (.bipush (-14), 2) := by decide +kernel
theorem dX5_row_30 : decode cX5_row 30 = .ok (.ireturn, 1) := by decide +kernel
theorem dX5_row_31 : decode cX5_row 31 = .ok (.aload_n 0, 1) := by decide +kernel
theorem dX5_row_32 : decode cX5_row 32 = .ok (.getfield 45, 3) := by decide +kernel
theorem dX5_row_35 : decode cX5_row 35 = .ok (.iload_n 1, 1) := by decide +kernel
theorem dX5_row_36 : decode cX5_row 36 = .ok (.aaload, 1) := by decide +kernel
theorem dX5_row_37 : decode cX5_row 37 = .ok (.iload_n 2, 1) := by decide +kernel
theorem dX5_row_38 : decode cX5_row 38 = .ok (.iload_n 3, 1) := by decide +kernel
theorem dX5_row_39 : decode cX5_row 39 = .ok (.invokevirtual 260, 3) := by decide +kernel
theorem dX5_row_42 : decode cX5_row 42 = .ok (.iconst 0, 1) := by decide +kernel
theorem dX5_row_43 : decode cX5_row 43 = .ok (.ireturn, 1) := by decide +kernel
theorem dX6_row_0 : decode cX6_row 0 = .ok (.iload_n 1, 1) := by decide +kernel
theorem dX6_row_1 : decode cX6_row 1 = .ok (.invokestatic 94, 3) := by decide +kernel
theorem dX6_row_4 : decode cX6_row 4 = .ok (.ifCond .eq 21, 3) := by decide +kernel
theorem dX6_row_7 : decode cX6_row 7 = .ok (.iload_n 2, 1) := by decide +kernel
theorem dX6_row_8 : decode cX6_row 8 = .ok (.i2l, 1) := by decide +kernel
theorem dX6_row_9 : decode cX6_row 9 = .ok (.lconst 0, 1) := by decide +kernel
theorem dX6_row_10 : decode cX6_row 10 = .ok (.ldc2_w 206, 3) := by decide +kernel
theorem dX6_row_13 : decode cX6_row 13 = .ok (.invokestatic 47, 3) := by decide +kernel
theorem dX6_row_16 : decode cX6_row 16 = .ok (.ifCond .eq 9, 3) := by decide +kernel
theorem dX6_row_19 : decode cX6_row 19 = .ok (.iload_n 3, 1) := by decide +kernel
theorem dX6_row_20 : decode cX6_row 20 = .ok (.bipush 100, 2) := by decide +kernel
theorem dX6_row_22 : decode cX6_row 22 = .ok (.if_icmp .le 5, 3) := by decide +kernel
theorem dX6_row_25 : decode cX6_row 25 = .ok (.iconst (-1), 1) := by decide +kernel
theorem dX6_row_26 : decode cX6_row 26 = .ok (.ireturn, 1) := by decide +kernel
theorem dX6_row_27 : decode cX6_row 27 = .ok (.iload_n 3, 1) := by decide +kernel
theorem dX6_row_28 : decode cX6_row 28 = .ok (.ifCond .ge 6, 3) := by decide +kernel
theorem dX6_row_31 : decode cX6_row 31 = .ok (.bipush (-14), 2) := by decide +kernel
theorem dX6_row_33 : decode cX6_row 33 = .ok (.ireturn, 1) := by decide +kernel
theorem dX6_row_34 : decode cX6_row 34 = .ok (.aload_n 0, 1) := by decide +kernel
theorem dX6_row_35 : decode cX6_row 35 = .ok (.getfield 22, 3) := by decide +kernel
theorem dX6_row_38 : decode cX6_row 38 = .ok (.iload_n 1, 1) := by decide +kernel
theorem dX6_row_39 : decode cX6_row 39 = .ok (.iconst 2, 1) := by decide +kernel
theorem dX6_row_40 : decode cX6_row 40 = .ok (.iastore, 1) := by decide +kernel
theorem dX6_row_41 : decode cX6_row 41 = .ok (.aload_n 0, 1) := by decide +kernel
theorem dX6_row_42 : decode cX6_row 42 = .ok (.getfield 25, 3) := by decide +kernel
theorem dX6_row_45 : decode cX6_row 45 = .ok (.iload_n 1, 1) := by decide +kernel
theorem dX6_row_46 : decode cX6_row 46 = .ok (.iload_n 2, 1) := by decide +kernel
theorem dX6_row_47 : decode cX6_row 47 = .ok (.iastore, 1) := by decide +kernel
theorem dX6_row_48 : decode cX6_row 48 = .ok (.aload_n 0, 1) := by decide +kernel
theorem dX6_row_49 : decode cX6_row 49 = .ok (.getfield 28, 3) := by decide +kernel
theorem dX6_row_52 : decode cX6_row 52 = .ok (.iload_n 1, 1) := by decide +kernel
theorem dX6_row_53 : decode cX6_row 53 = .ok (.iload_n 3, 1) := by decide +kernel
theorem dX6_row_54 : decode cX6_row 54 = .ok (.iastore, 1) := by decide +kernel
theorem dX6_row_55 : decode cX6_row 55 = .ok (.iconst 0, 1) := by decide +kernel
theorem dX6_row_56 : decode cX6_row 56 = .ok (.istore 4, 2) := by decide +kernel
theorem dX6_row_58 : decode cX6_row 58 = .ok (.iload 4, 2) := by decide +kernel
theorem dX6_row_60 : decode cX6_row 60 = .ok (.bipush 100, 2) := by decide +kernel
theorem dX6_row_62 : decode cX6_row 62 = .ok (.if_icmp .ge 22, 3) := by decide +kernel
theorem dX6_row_65 : decode cX6_row 65 = .ok (.aload_n 0, 1) := by decide +kernel
theorem dX6_row_66 : decode cX6_row 66 = .ok (.getfield 31, 3) := by decide +kernel
theorem dX6_row_69 : decode cX6_row 69 = .ok (.bipush 100, 2) := by decide +kernel
theorem dX6_row_71 : decode cX6_row 71 = .ok (.iload_n 1, 1) := by decide +kernel
theorem dX6_row_72 : decode cX6_row 72 = .ok (.imul, 1) := by decide +kernel
theorem dX6_row_73 : decode cX6_row 73 = .ok (.iload 4, 2) := by decide +kernel
theorem dX6_row_75 : decode cX6_row 75 = .ok (.iadd, 1) := by decide +kernel
theorem dX6_row_76 : decode cX6_row 76 = .ok (.iconst 0, 1) := by decide +kernel
theorem dX6_row_77 : decode cX6_row 77 = .ok (.iastore, 1) := by decide +kernel
theorem dX6_row_78 : decode cX6_row 78 = .ok (.iinc 4 1, 3) := by decide +kernel
theorem dX6_row_81 : decode cX6_row 81 = .ok (.goto (-23), 3) := by decide +kernel
theorem dX6_row_84 : decode cX6_row 84 = .ok (.iconst 0, 1) := by decide +kernel
theorem dX6_row_85 : decode cX6_row 85 = .ok (.ireturn, 1) := by decide +kernel
theorem dX3_putLowestBits_0 : decode cX3_putLowestBits 0 = .ok (.aload_n 0, 1) := by decide +kernel
theorem dX3_putLowestBits_1 : decode cX3_putLowestBits 1 = .ok (.getfield 22, 3) := by decide +kernel
theorem dX3_putLowestBits_4 : decode cX3_putLowestBits 4 = .ok (.lookupswitch 50 #[(0, 28), (1, 39)], 28) := by decide +kernel
theorem dX3_putLowestBits_32 : decode cX3_putLowestBits 32 = .ok (.aload_n 0, 1) := by decide +kernel
theorem dX3_putLowestBits_33 : decode cX3_putLowestBits 33 = .ok (.getfield 28, 3) := by decide +kernel
theorem dX3_putLowestBits_36 : decode cX3_putLowestBits 36 = .ok (.iload_n 1, 1) := by decide +kernel
theorem dX3_putLowestBits_37 : decode cX3_putLowestBits 37 = .ok (.iload_n 2, 1) := by decide +kernel
theorem dX3_putLowestBits_38 : decode cX3_putLowestBits 38 = .ok (.i2b, 1) := by decide +kernel
theorem dX3_putLowestBits_39 : decode cX3_putLowestBits 39 = .ok (.iastore, 1) := by decide +kernel
theorem dX3_putLowestBits_40 : decode cX3_putLowestBits 40 = .ok (.goto 21, 3) := by decide +kernel
theorem dX3_putLowestBits_43 : decode cX3_putLowestBits 43 = .ok (.aload_n 0, 1) := by decide +kernel
theorem dX3_putLowestBits_44 : decode cX3_putLowestBits 44 = .ok (.getfield 28, 3) := by decide +kernel
theorem dX3_putLowestBits_47 : decode cX3_putLowestBits 47 = .ok (.iload_n 1, 1) := by decide +kernel
theorem dX3_putLowestBits_48 : decode cX3_putLowestBits 48 = .ok (.iload_n 2, 1) := by decide +kernel
theorem dX3_putLowestBits_49 : decode cX3_putLowestBits 49 = .ok (.i2s, 1) := by decide +kernel
theorem dX3_putLowestBits_50 : decode cX3_putLowestBits 50 = .ok (.iastore, 1) := by decide +kernel
theorem dX3_putLowestBits_51 : decode cX3_putLowestBits 51 = .ok (.goto 10, 3) := by decide +kernel
theorem dX3_putLowestBits_54 : decode cX3_putLowestBits 54 = .ok (.aload_n 0, 1) := by decide +kernel
theorem dX3_putLowestBits_55 : decode cX3_putLowestBits 55 = .ok (.getfield 28, 3) := by decide +kernel
theorem dX3_putLowestBits_58 : decode cX3_putLowestBits 58 = .ok (.iload_n 1, 1) := by decide +kernel
theorem dX3_putLowestBits_59 : decode cX3_putLowestBits 59 = .ok (.iload_n 2, 1) := by decide +kernel
theorem dX3_putLowestBits_60 : decode cX3_putLowestBits 60 = .ok (.iastore, 1) := by decide +kernel
theorem dX3_putLowestBits_61 : decode cX3_putLowestBits 61 = .ok (.return_, 1) := by decide +kernel
theorem dX5_put_0 : decode cX5_put 0 = .ok (.aload_n 0, 1) := by decide +kernel
theorem dX5_put_1 : decode cX5_put 1 = .ok (.iload_n 1, 1) := by decide +kernel
theorem dX5_put_2 : decode cX5_put 2 = .ok (.invokevirtual 229, 3) := by decide +kernel
theorem dX5_put_5 : decode cX5_put 5 = .ok (.istore 4, 2) := by decide +kernel
theorem dX5_put_7 : decode cX5_put 7 = .ok (.iload 4, 2) := by decide +kernel
theorem dX5_put_9 : decode cX5_put 9 = .ok (.ifCond .ge 6, 3) := by decide +kernel
theorem dX5_put_12 : decode cX5_put 12 = .ok (.iload 4, 2) := by decide +kernel
theorem dX5_put_14 : decode cX5_put 14 = .ok (.ireturn, 1) := by decide +kernel
theorem dX5_put_15 : decode cX5_put 15 = .ok (.aload_n 0, 1) := by decide +kernel
theorem dX5_put_16 : decode cX5_put 16 = .ok (.getfield 45, 3) := by decide +kernel
theorem dX5_put_19 : decode cX5_put 19 = .ok (.iload_n 1, 1) := by decide +kernel
theorem dX5_put_20 : decode cX5_put 20 = .ok (.aaload, 1) := by decide +kernel
theorem dX5_put_21 : decode cX5_put 21 = .ok (.iload_n 2, 1) := by decide +kernel
theorem dX5_put_22 : decode cX5_put 22 = .ok (.invokevirtual 264, 3) := by decide +kernel
theorem dX5_put_25 : decode cX5_put 25 = .ok (.ifCond .ne 6, 3) := by decide +kernel
theorem dX5_put_28 : decode cX5_put 28 = .ok (.bipush (-13), 2) := by decide +kernel
theorem dX5_put_30 : decode cX5_put 30 = .ok (.ireturn, 1) := by decide +kernel
theorem dX5_put_31 : decode cX5_put 31 = .ok (.aload_n 0, 1) := by decide +kernel
theorem dX5_put_32 : decode cX5_put 32 = .ok (.getfield 45, 3) := by decide +kernel
theorem dX5_put_35 : decode cX5_put 35 = .ok (.iload_n 1, 1) := by decide +kernel
theorem dX5_put_36 : decode cX5_put 36 = .ok (.aaload, 1) := by decide +kernel
theorem dX5_put_37 : decode cX5_put 37 = .ok (.iload_n 2, 1) := by decide +kernel
theorem dX5_put_38 : decode cX5_put 38 = .ok (.iload_n 3, 1) := by decide +kernel
theorem dX5_put_39 : decode cX5_put 39 = .ok (.invokevirtual 267, 3) := by decide +kernel
theorem dX5_put_42 : decode cX5_put 42 = .ok (.iconst 0, 1) := by decide +kernel
theorem dX5_put_43 : decode cX5_put 43 = .ok (.ireturn, 1) := by decide +kernel
theorem dX6_put_0 : decode cX6_put 0 = .ok (.aload_n 0, 1) := by decide +kernel
theorem dX6_put_1 : decode cX6_put 1 = .ok (.iload_n 1, 1) := by decide +kernel
theorem dX6_put_2 : decode cX6_put 2 = .ok (.iconst (-1), 1) := by decide +kernel
theorem dX6_put_3 : decode cX6_put 3 = .ok (.invokevirtual 97, 3) := by decide +kernel
theorem dX6_put_6 : decode cX6_put 6 = .ok (.istore 4, 2) := by decide +kernel
theorem dX6_put_8 : decode cX6_put 8 = .ok (.iload 4, 2) := by decide +kernel
theorem dX6_put_10 : decode cX6_put 10 = .ok (.ifCond .eq 6, 3) := by decide +kernel
theorem dX6_put_13 : decode cX6_put 13 = .ok (.iload 4, 2) := by decide +kernel
theorem dX6_put_15 : decode cX6_put 15 = .ok (.ireturn, 1) := by decide +kernel
theorem dX6_put_16 : decode cX6_put 16 = .ok (.iload_n 2, 1) := by decide +kernel
theorem dX6_put_17 : decode cX6_put 17 = .ok (.i2l, 1) := by decide +kernel
theorem dX6_put_18 : decode cX6_put 18 = .ok (.lconst 0, 1) := by decide +kernel
theorem dX6_put_19 : decode cX6_put 19 = .ok (.aload_n 0, 1) := by decide +kernel
theorem dX6_put_20 : decode cX6_put 20 = .ok (.getfield 28, 3) := by decide +kernel
theorem dX6_put_23 : decode cX6_put 23 = .ok (.iload_n 1, 1) := by decide +kernel
theorem dX6_put_24 : decode cX6_put 24 = .ok (.iaload, 1) := by decide +kernel
theorem dX6_put_25 : decode cX6_put 25 = .ok (.iconst 1, 1) := by decide +kernel
theorem dX6_put_26 : decode cX6_put 26 = .ok (.isub, 1) := by decide +kernel
theorem dX6_put_27 : decode cX6_put 27 = .ok (.i2l, 1) := by decide +kernel
theorem dX6_put_28 : decode cX6_put 28 = .ok (.invokestatic 47, 3) := by decide +kernel
theorem dX6_put_31 : decode cX6_put 31 = .ok (.ifCond .ne 6, 3) := by decide +kernel
theorem dX6_put_34 : decode cX6_put 34 = .ok (.bipush (-13), 2) := by decide +kernel
theorem dX6_put_36 : decode cX6_put 36 = .ok (.ireturn, 1) := by decide +kernel
theorem dX6_put_37 : decode cX6_put 37 = .ok (.aload_n 0, 1) := by decide +kernel
theorem dX6_put_38 : decode cX6_put 38 = .ok (.getfield 31, 3) := by decide +kernel
theorem dX6_put_41 : decode cX6_put 41 = .ok (.bipush 100, 2) := by decide +kernel
theorem dX6_put_43 : decode cX6_put 43 = .ok (.iload_n 1, 1) := by decide +kernel
theorem dX6_put_44 : decode cX6_put 44 = .ok (.imul, 1) := by decide +kernel
theorem dX6_put_45 : decode cX6_put 45 = .ok (.iload_n 2, 1) := by decide +kernel
theorem dX6_put_46 : decode cX6_put 46 = .ok (.iadd, 1) := by decide +kernel
theorem dX6_put_47 : decode cX6_put 47 = .ok (.aload_n 0, 1) := by decide +kernel
theorem dX6_put_48 : decode cX6_put 48 = .ok (.getfield 25, 3) := by decide +kernel
theorem dX6_put_51 : decode cX6_put 51 = .ok (.iload_n 1, 1) := by decide +kernel
theorem dX6_put_52 : decode cX6_put 52 = .ok (.iaload, 1) := by decide +kernel
theorem dX6_put_53 : decode cX6_put 53 = .ok (.ifCond .ne 8, 3) := by decide +kernel
theorem dX6_put_56 : decode cX6_put 56 = .ok (.iload_n 3, 1) := by decide +kernel
theorem dX6_put_57 : decode cX6_put 57 = .ok (.i2b, 1) := by decide +kernel
theorem dX6_put_58 : decode cX6_put 58 = .ok (.goto 19, 3) := by decide +kernel
theorem dX6_put_61 : decode cX6_put 61 = .ok (.aload_n 0, 1) := by decide +kernel
theorem dX6_put_62 : decode cX6_put 62 = .ok (.getfield 25, 3) := by decide +kernel
theorem dX6_put_65 : decode cX6_put 65 = .ok (.iload_n 1, 1) := by decide +kernel
theorem dX6_put_66 : decode cX6_put 66 = .ok (.iaload, 1) := by decide +kernel
theorem dX6_put_67 : decode cX6_put 67 = .ok (.iconst 1, 1) := by decide +kernel
theorem dX6_put_68 : decode cX6_put 68 = .ok (.if_icmp .ne 8, 3) := by decide +kernel
theorem dX6_put_71 : decode cX6_put 71 = .ok (.iload_n 3, 1) := by decide +kernel
theorem dX6_put_72 : decode cX6_put 72 = .ok (.i2s, 1) := by decide +kernel
theorem dX6_put_73 : decode cX6_put 73 = .ok (.goto 4, 3) := by decide +kernel
theorem dX6_put_76 : decode cX6_put 76 = .ok (.iload_n 3, 1) := by decide +kernel
theorem dX6_put_77 : decode cX6_put 77 = .ok (.iastore, 1) := by decide +kernel
theorem dX6_put_78 : decode cX6_put 78 = .ok (.iconst 0, 1) := by decide +kernel
theorem dX6_put_79 : decode cX6_put 79 = .ok (.ireturn, 1) := by decide +kernel
theorem dX6_thrown_0 : decode cX6_thrown 0 = .ok (.aload_n 0, 1) := by decide +kernel
theorem dX6_thrown_1 : decode cX6_thrown 1 = .ok (.getfield 43, 3) := by decide +kernel
theorem dX6_thrown_4 : decode cX6_thrown 4 = .ok (.ireturn, 1) := by decide +kernel
theorem dX3_hasPlaces_0 : decode cX3_hasPlaces 0 = .ok (.aload_n 0, 1) := by decide +kernel
theorem dX3_hasPlaces_1 : decode cX3_hasPlaces 1 = .ok (.getfield 11, 3) := by decide +kernel
theorem dX3_hasPlaces_4 : decode cX3_hasPlaces 4 = .ok (.iconst 2, 1) := by decide +kernel
theorem dX3_hasPlaces_5 : decode cX3_hasPlaces 5 = .ok (.if_icmp .ne 33, 3) := by decide +kernel
theorem dX3_hasPlaces_8 : decode cX3_hasPlaces 8 = .ok (.iload_n 1, 1) := by decide +kernel
theorem dX3_hasPlaces_9 : decode cX3_hasPlaces 9 = .ok (.iconst 0, 1) := by decide +kernel
theorem dX3_hasPlaces_10 : decode cX3_hasPlaces 10 = .ok (.aload_n 0, 1) := by decide +kernel
theorem dX3_hasPlaces_11 : decode cX3_hasPlaces 11 = .ok (.getfield 25, 3) := by decide +kernel
theorem dX3_hasPlaces_14 : decode cX3_hasPlaces 14 = .ok (.invokestatic 42, 3) := by decide +kernel
theorem dX3_hasPlaces_17 : decode cX3_hasPlaces 17 = .ok (.ifCond .eq 21, 3) := by decide +kernel
theorem dX3_hasPlaces_20 : decode cX3_hasPlaces 20 = .ok (.iload_n 2, 1) := by decide +kernel
theorem dX3_hasPlaces_21 : decode cX3_hasPlaces 21 = .ok (.iconst 0, 1) := by decide +kernel
theorem dX3_hasPlaces_22 : decode cX3_hasPlaces 22 = .ok (.aload_n 0, 1) := by decide +kernel
theorem dX3_hasPlaces_23 : decode cX3_hasPlaces 23 = .ok (.getfield 25, 3) := by decide +kernel
theorem dX3_hasPlaces_26 : decode cX3_hasPlaces 26 = .ok (.iload_n 1, 1) := by decide +kernel
theorem dX3_hasPlaces_27 : decode cX3_hasPlaces 27 = .ok (.isub, 1) := by decide +kernel
theorem dX3_hasPlaces_28 : decode cX3_hasPlaces 28 = .ok (.invokestatic 42, 3) := by decide +kernel
theorem dX3_hasPlaces_31 : decode cX3_hasPlaces 31 = .ok (.ifCond .eq 7, 3) := by decide +kernel
theorem dX3_hasPlaces_34 : decode cX3_hasPlaces 34 = .ok (.iconst 1, 1) := by decide +kernel
theorem dX3_hasPlaces_35 : decode cX3_hasPlaces 35 = .ok (.goto 4, 3) := by decide +kernel
theorem dX3_hasPlaces_38 : decode cX3_hasPlaces 38 = .ok (.iconst 0, 1) := by decide +kernel
theorem dX3_hasPlaces_39 : decode cX3_hasPlaces 39 = .ok (.ireturn, 1) := by decide +kernel
theorem dX5_copy_0 : decode cX5_copy 0 = .ok (.iload_n 1, 1) := by decide +kernel
theorem dX5_copy_1 : decode cX5_copy 1 = .ok (.invokestatic 250, 3) := by decide +kernel
theorem dX5_copy_4 : decode cX5_copy 4 = .ok (.ifCond .eq 10, 3) := by decide +kernel
theorem dX5_copy_7 : decode cX5_copy 7 = .ok (.iload_n 3, 1) := by decide +kernel
theorem dX5_copy_8 : decode cX5_copy 8 = .ok (.invokestatic 250, 3) := by decide +kernel
theorem dX5_copy_11 : decode cX5_copy 11 = .ok (.ifCond .ne 5, 3) := by decide +kernel
theorem dX5_copy_14 : decode cX5_copy 14 = .ok (.iconst (-1), 1) := by decide +kernel
theorem dX5_copy_15 : decode cX5_copy 15 = .ok (.ireturn, 1) := by decide +kernel
theorem dX5_copy_16 : decode cX5_copy 16 = .ok (.aload_n 0, 1) := by decide +kernel
theorem dX5_copy_17 : decode cX5_copy 17 = .ok (.getfield 45, 3) := by decide +kernel
theorem dX5_copy_20 : decode cX5_copy 20 = .ok (.iload_n 1, 1) := by decide +kernel
theorem dX5_copy_21 : decode cX5_copy 21 = .ok (.aaload, 1) := by decide +kernel
theorem dX5_copy_22 : decode cX5_copy 22 = .ok (.astore 6, 2) := by decide +kernel
theorem dX5_copy_24 : decode cX5_copy 24 = .ok (.aload_n 0, 1) := by decide +kernel
theorem dX5_copy_25 : decode cX5_copy 25 = .ok (.getfield 45, 3) := by decide +kernel
theorem dX5_copy_28 : decode cX5_copy 28 = .ok (.iload_n 3, 1) := by decide +kernel
theorem dX5_copy_29 : decode cX5_copy 29 = .ok (.aaload, 1) := by decide +kernel
theorem dX5_copy_30 : decode cX5_copy 30 = .ok (.astore 7, 2) := by decide +kernel
theorem dX5_copy_32 : decode cX5_copy 32 = .ok (.aload 6, 2) := by decide +kernel
theorem dX5_copy_34 : decode cX5_copy 34 = .ok (.getfield 282, 3) := by decide +kernel
theorem dX5_copy_37 : decode cX5_copy 37 = .ok (.ifCond .eq 11, 3) := by decide +kernel
theorem dX5_copy_40 : decode cX5_copy 40 = .ok (.aload 7, 2) := by decide +kernel
theorem dX5_copy_42 : decode cX5_copy 42 = .ok (.getfield 282, 3) := by decide +kernel
theorem dX5_copy_45 : decode cX5_copy 45 = .ok (.ifCond .ne 6, 3) := by decide +kernel
theorem dX5_copy_48 : decode cX5_copy 48 = .ok (.bipush (-11), 2) := by decide +kernel
theorem dX5_copy_50 : decode cX5_copy 50 = .ok (.ireturn, 1) := by decide +kernel
theorem dX5_copy_51 : decode cX5_copy 51 = .ok (.aload 6, 2) := by decide +kernel
theorem dX5_copy_53 : decode cX5_copy 53 = .ok (.getfield 282, 3) := by decide +kernel
theorem dX5_copy_56 : decode cX5_copy 56 = .ok (.iconst 2, 1) := by decide +kernel
theorem dX5_copy_57 : decode cX5_copy 57 = .ok (.if_icmp .ne 25, 3) := by decide +kernel
theorem dX5_copy_60 : decode cX5_copy 60 = .ok (.aload 7, 2) := by decide +kernel
theorem dX5_copy_62 : decode cX5_copy 62 = .ok (.getfield 282, 3) := by decide +kernel
theorem dX5_copy_65 : decode cX5_copy 65 = .ok (.iconst 2, 1) := by decide +kernel
theorem dX5_copy_66 : decode cX5_copy 66 = .ok (.if_icmp .ne 16, 3) := by decide +kernel
theorem dX5_copy_69 : decode cX5_copy 69 = .ok (.aload 6, 2) := by decide +kernel
theorem dX5_copy_71 : decode cX5_copy 71 = .ok (.getfield 285, 3) := by decide +kernel
theorem dX5_copy_74 : decode cX5_copy 74 = .ok (.aload 7, 2) := by decide +kernel
theorem dX5_copy_76 : decode cX5_copy 76 = .ok (.getfield 285, 3) := by decide +kernel
theorem dX5_copy_79 : decode cX5_copy 79 = .ok (.if_icmp .eq 6, 3) := by decide +kernel
theorem dX5_copy_82 : decode cX5_copy 82 = .ok (.bipush (-12), 2) := by decide +kernel
theorem dX5_copy_84 : decode cX5_copy 84 = .ok (.ireturn, 1) := by decide +kernel
theorem dX5_copy_85 : decode cX5_copy 85 = .ok (.aload 6, 2) := by decide +kernel
theorem dX5_copy_87 : decode cX5_copy 87 = .ok (.iload_n 2, 1) := by decide +kernel
theorem dX5_copy_88 : decode cX5_copy 88 = .ok (.iload 5, 2) := by decide +kernel
theorem dX5_copy_90 : decode cX5_copy 90 = .ok (.invokevirtual 288, 3) := by decide +kernel
theorem dX5_copy_93 : decode cX5_copy 93 = .ok (.ifCond .eq 15, 3) := by decide +kernel
theorem dX5_copy_96 : decode cX5_copy 96 = .ok (.aload 7, 2) := by decide +kernel
theorem dX5_copy_98 : decode cX5_copy 98 = .ok (.iload 4, 2) := by decide +kernel
theorem dX5_copy_100 : decode cX5_copy 100 = .ok (.iload 5, 2) := by decide +kernel
theorem dX5_copy_102 : decode cX5_copy 102 = .ok (.invokevirtual 288, 3) := by decide +kernel
theorem dX5_copy_105 : decode cX5_copy 105 = .ok (.ifCond .ne 6, 3) := by decide +kernel
theorem dX5_copy_108 : decode cX5_copy 108 = .ok (.bipush (-13), 2) := by decide +kernel
theorem dX5_copy_110 : decode cX5_copy 110 = .ok (.ireturn, 1) := by decide +kernel
theorem dX5_copy_111 : decode cX5_copy 111 = .ok (.aload 6, 2) := by decide +kernel
theorem dX5_copy_113 : decode cX5_copy 113 = .ok (.getfield 238, 3) := by decide +kernel
theorem dX5_copy_116 : decode cX5_copy 116 = .ok (.iload_n 2, 1) := by decide +kernel
theorem dX5_copy_117 : decode cX5_copy 117 = .ok (.aload 7, 2) := by decide +kernel
theorem dX5_copy_119 : decode cX5_copy 119 = .ok (.getfield 238, 3) := by decide +kernel
theorem dX5_copy_122 : decode cX5_copy 122 = .ok (.iload 4, 2) := by decide +kernel
theorem dX5_copy_124 : decode cX5_copy 124 = .ok (.iload 5, 2) := by decide +kernel
theorem dX5_copy_126 : decode cX5_copy 126 = .ok (.invokestatic 291, 3) := by decide +kernel
theorem dX5_copy_129 : decode cX5_copy 129 = .ok (.iload 5, 2) := by decide +kernel
theorem dX5_copy_131 : decode cX5_copy 131 = .ok (.ireturn, 1) := by decide +kernel
theorem dX6_copy_0 : decode cX6_copy 0 = .ok (.iload_n 1, 1) := by decide +kernel
theorem dX6_copy_1 : decode cX6_copy 1 = .ok (.invokestatic 94, 3) := by decide +kernel
theorem dX6_copy_4 : decode cX6_copy 4 = .ok (.ifCond .eq 10, 3) := by decide +kernel
theorem dX6_copy_7 : decode cX6_copy 7 = .ok (.iload_n 3, 1) := by decide +kernel
theorem dX6_copy_8 : decode cX6_copy 8 = .ok (.invokestatic 94, 3) := by decide +kernel
theorem dX6_copy_11 : decode cX6_copy 11 = .ok (.ifCond .ne 5, 3) := by decide +kernel
theorem dX6_copy_14 : decode cX6_copy 14 = .ok (.iconst (-1), 1) := by decide +kernel
theorem dX6_copy_15 : decode cX6_copy 15 = .ok (.ireturn, 1) := by decide +kernel
theorem dX6_copy_16 : decode cX6_copy 16 = .ok (.aload_n 0, 1) := by decide +kernel
theorem dX6_copy_17 : decode cX6_copy 17 = .ok (.getfield 22, 3) := by decide +kernel
theorem dX6_copy_20 : decode cX6_copy 20 = .ok (.iload_n 1, 1) := by decide +kernel
theorem dX6_copy_21 : decode cX6_copy 21 = .ok (.iaload, 1) := by decide +kernel
theorem dX6_copy_22 : decode cX6_copy 22 = .ok (.ifCond .eq 12, 3) := by decide +kernel
theorem dX6_copy_25 : decode cX6_copy 25 = .ok (.aload_n 0, 1) := by decide +kernel
theorem dX6_copy_26 : decode cX6_copy 26 = .ok (.getfield 22, 3) := by decide +kernel
theorem dX6_copy_29 : decode cX6_copy 29 = .ok (.iload_n 3, 1) := by decide +kernel
theorem dX6_copy_30 : decode cX6_copy 30 = .ok (.iaload, 1) := by decide +kernel
theorem dX6_copy_31 : decode cX6_copy 31 = .ok (.ifCond .ne 6, 3) := by decide +kernel
theorem dX6_copy_34 : decode cX6_copy 34 = .ok (.bipush (-11), 2) := by decide +kernel
theorem dX6_copy_36 : decode cX6_copy 36 = .ok (.ireturn, 1) := by decide +kernel
theorem dX6_copy_37 : decode cX6_copy 37 = .ok (.aload_n 0, 1) := by decide +kernel
theorem dX6_copy_38 : decode cX6_copy 38 = .ok (.getfield 22, 3) := by decide +kernel
theorem dX6_copy_41 : decode cX6_copy 41 = .ok (.iload_n 1, 1) := by decide +kernel
theorem dX6_copy_42 : decode cX6_copy 42 = .ok (.iaload, 1) := by decide +kernel
theorem dX6_copy_43 : decode cX6_copy 43 = .ok (.iconst 2, 1) := by decide +kernel
theorem dX6_copy_44 : decode cX6_copy 44 = .ok (.if_icmp .ne 28, 3) := by decide +kernel
theorem dX6_copy_47 : decode cX6_copy 47 = .ok (.aload_n 0, 1) := by decide +kernel
theorem dX6_copy_48 : decode cX6_copy 48 = .ok (.getfield 22, 3) := by decide +kernel
theorem dX6_copy_51 : decode cX6_copy 51 = .ok (.iload_n 3, 1) := by decide +kernel
theorem dX6_copy_52 : decode cX6_copy 52 = .ok (.iaload, 1) := by decide +kernel
theorem dX6_copy_53 : decode cX6_copy 53 = .ok (.iconst 2, 1) := by decide +kernel
theorem dX6_copy_54 : decode cX6_copy 54 = .ok (.if_icmp .ne 18, 3) := by decide +kernel
theorem dX6_copy_57 : decode cX6_copy 57 = .ok (.aload_n 0, 1) := by decide +kernel
theorem dX6_copy_58 : decode cX6_copy 58 = .ok (.getfield 25, 3) := by decide +kernel
theorem dX6_copy_61 : decode cX6_copy 61 = .ok (.iload_n 1, 1) := by decide +kernel
theorem dX6_copy_62 : decode cX6_copy 62 = .ok (.iaload, 1) := by decide +kernel
theorem dX6_copy_63 : decode cX6_copy 63 = .ok (.aload_n 0, 1) := by decide +kernel
theorem dX6_copy_64 : decode cX6_copy 64 = .ok (.getfield 25, 3) := by decide +kernel
theorem dX6_copy_67 : decode cX6_copy 67 = .ok (.iload_n 3, 1) := by decide +kernel
theorem dX6_copy_68 : decode cX6_copy 68 = .ok (.iaload, 1) := by decide +kernel
theorem dX6_copy_69 : decode cX6_copy 69 = .ok (.if_icmp .eq 6, 3) := by decide +kernel
theorem dX6_copy_72 : decode cX6_copy 72 = .ok (.bipush (-12), 2) := by decide +kernel
theorem dX6_copy_74 : decode cX6_copy 74 = .ok (.ireturn, 1) := by decide +kernel
theorem dX6_copy_75 : decode cX6_copy 75 = .ok (.iload 5, 2) := by decide +kernel
theorem dX6_copy_77 : decode cX6_copy 77 = .ok (.ifCond .lt 39, 3) := by decide +kernel
theorem dX6_copy_80 : decode cX6_copy 80 = .ok (.iload_n 2, 1) := by decide +kernel
theorem dX6_copy_81 : decode cX6_copy 81 = .ok (.ifCond .lt 35, 3) := by decide +kernel
theorem dX6_copy_84 : decode cX6_copy 84 = .ok (.iload 4, 2) := by decide +kernel
theorem dX6_copy_86 : decode cX6_copy 86 = .ok (.ifCond .lt 30, 3) := by decide +kernel
theorem dX6_copy_89 : decode cX6_copy 89 = .ok (.iload 5, 2) := by decide +kernel
theorem dX6_copy_91 : decode cX6_copy 91 = .ok (.aload_n 0, 1) := by decide +kernel
theorem dX6_copy_92 : decode cX6_copy 92 = .ok (.getfield 28, 3) := by decide +kernel
theorem dX6_copy_95 : decode cX6_copy 95 = .ok (.iload_n 1, 1) := by decide +kernel
theorem dX6_copy_96 : decode cX6_copy 96 = .ok (.iaload, 1) := by decide +kernel
theorem dX6_copy_97 : decode cX6_copy 97 = .ok (.iload_n 2, 1) := by decide +kernel
theorem dX6_copy_98 : decode cX6_copy 98 = .ok (.isub, 1) := by decide +kernel
theorem dX6_copy_99 : decode cX6_copy 99 = .ok (.if_icmp .gt 17, 3) := by decide +kernel
theorem dX6_copy_102 : decode cX6_copy 102 = .ok (.iload 5, 2) := by decide +kernel
theorem dX6_copy_104 : decode cX6_copy 104 = .ok (.aload_n 0, 1) := by decide +kernel
theorem dX6_copy_105 : decode cX6_copy 105 = .ok (.getfield 28, 3) := by decide +kernel
theorem dX6_copy_108 : decode cX6_copy 108 = .ok (.iload_n 3, 1) := by decide +kernel
theorem dX6_copy_109 : decode cX6_copy 109 = .ok (.iaload, 1) := by decide +kernel
theorem dX6_copy_110 : decode cX6_copy 110 = .ok (.iload 4, 2) := by decide +kernel
theorem dX6_copy_112 : decode cX6_copy 112 = .ok (.isub, 1) := by decide +kernel
theorem dX6_copy_113 : decode cX6_copy 113 = .ok (.if_icmp .le 6, 3) := by decide +kernel
theorem dX6_copy_116 : decode cX6_copy 116 = .ok (.bipush (-13), 2) := by decide +kernel
theorem dX6_copy_118 : decode cX6_copy 118 = .ok (.ireturn, 1) := by decide +kernel
theorem dX6_copy_119 : decode cX6_copy 119 = .ok (.iconst 0, 1) := by decide +kernel
theorem dX6_copy_120 : decode cX6_copy 120 = .ok (.istore 6, 2) := by decide +kernel
theorem dX6_copy_122 : decode cX6_copy 122 = .ok (.iload 6, 2) := by decide +kernel
theorem dX6_copy_124 : decode cX6_copy 124 = .ok (.iload 5, 2) := by decide +kernel
theorem dX6_copy_126 : decode cX6_copy 126 = .ok (.if_icmp .ge 58, 3) := by decide +kernel
theorem dX6_copy_129 : decode cX6_copy 129 = .ok (.iload_n 2, 1) := by decide +kernel
theorem dX6_copy_130 : decode cX6_copy 130 = .ok (.iload 4, 2) := by decide +kernel
theorem dX6_copy_132 : decode cX6_copy 132 = .ok (.if_icmp .le 8, 3) := by decide +kernel
theorem dX6_copy_135 : decode cX6_copy 135 = .ok (.iload 6, 2) := by decide +kernel
theorem dX6_copy_137 : decode cX6_copy 137 = .ok (.goto 10, 3) := by decide +kernel
theorem dX6_copy_140 : decode cX6_copy 140 = .ok (.iload 5, 2) := by decide +kernel
theorem dX6_copy_142 : decode cX6_copy 142 = .ok (.iconst 1, 1) := by decide +kernel
theorem dX6_copy_143 : decode cX6_copy 143 = .ok (.isub, 1) := by decide +kernel
theorem dX6_copy_144 : decode cX6_copy 144 = .ok (.iload 6, 2) := by decide +kernel
theorem dX6_copy_146 : decode cX6_copy 146 = .ok (.isub, 1) := by decide +kernel
theorem dX6_copy_147 : decode cX6_copy 147 = .ok (.istore 7, 2) := by decide +kernel
theorem dX6_copy_149 : decode cX6_copy 149 = .ok (.aload_n 0, 1) := by decide +kernel
theorem dX6_copy_150 : decode cX6_copy 150 = .ok (.getfield 31, 3) := by decide +kernel
theorem dX6_copy_153 : decode cX6_copy 153 = .ok (.bipush 100, 2) := by decide +kernel
theorem dX6_copy_155 : decode cX6_copy 155 = .ok (.iload_n 3, 1) := by decide +kernel
theorem dX6_copy_156 : decode cX6_copy 156 = .ok (.imul, 1) := by decide +kernel
theorem dX6_copy_157 : decode cX6_copy 157 = .ok (.iload 4, 2) := by decide +kernel
theorem dX6_copy_159 : decode cX6_copy 159 = .ok (.iadd, 1) := by decide +kernel
theorem dX6_copy_160 : decode cX6_copy 160 = .ok (.iload 7, 2) := by decide +kernel
theorem dX6_copy_162 : decode cX6_copy 162 = .ok (.iadd, 1) := by decide +kernel
theorem dX6_copy_163 : decode cX6_copy 163 = .ok (.aload_n 0, 1) := by decide +kernel
theorem dX6_copy_164 : decode cX6_copy 164 = .ok (.getfield 31, 3) := by decide +kernel
theorem dX6_copy_167 : decode cX6_copy 167 = .ok (.bipush 100, 2) := by decide +kernel
theorem dX6_copy_169 : decode cX6_copy 169 = .ok (.iload_n 1, 1) := by decide +kernel
theorem dX6_copy_170 : decode cX6_copy 170 = .ok (.imul, 1) := by decide +kernel
theorem dX6_copy_171 : decode cX6_copy 171 = .ok (.iload_n 2, 1) := by decide +kernel
theorem dX6_copy_172 : decode cX6_copy 172 = .ok (.iadd, 1) := by decide +kernel
theorem dX6_copy_173 : decode cX6_copy 173 = .ok (.iload 7, 2) := by decide +kernel
theorem dX6_copy_175 : decode cX6_copy 175 = .ok (.iadd, 1) := by decide +kernel
theorem dX6_copy_176 : decode cX6_copy 176 = .ok (.iaload, 1) := by decide +kernel
theorem dX6_copy_177 : decode cX6_copy 177 = .ok (.iastore, 1) := by decide +kernel
theorem dX6_copy_178 : decode cX6_copy 178 = .ok (.iinc 6 1, 3) := by decide +kernel
theorem dX6_copy_181 : decode cX6_copy 181 = .ok (.goto (-59), 3) := by decide +kernel
theorem dX6_copy_184 : decode cX6_copy 184 = .ok (.iload 5, 2) := by decide +kernel
theorem dX6_copy_186 : decode cX6_copy 186 = .ok (.ireturn, 1) := by decide +kernel
theorem dX1_costOf_0 : decode cX1_costOf 0 = .ok (.iload_n 0, 1) := by decide +kernel
theorem dX1_costOf_1 : decode cX1_costOf 1 = .ok (.tableswitch 110 1 7 #[43, 52, 62, 73, 82, 91, 100], 43) := by decide +kernel
theorem dX1_costOf_44 : decode cX1_costOf 44 = .ok (.iconst 3, 1) := by decide +kernel
theorem dX1_costOf_45 : decode cX1_costOf 45 = .ok (.iconst 0, 1) := by decide +kernel
theorem dX1_costOf_46 : decode cX1_costOf 46 = .ok (.iload_n 1, 1) := by decide +kernel
theorem dX1_costOf_47 : decode cX1_costOf 47 = .ok (.iload_n 2, 1) := by decide +kernel
theorem dX1_costOf_48 : decode cX1_costOf 48 = .ok (.invokestatic 52, 3) := by decide +kernel
theorem dX1_costOf_51 : decode cX1_costOf 51 = .ok (.imul, 1) := by decide +kernel
theorem dX1_costOf_52 : decode cX1_costOf 52 = .ok (.ireturn, 1) := by decide +kernel
theorem dX1_costOf_53 : decode cX1_costOf 53 = .ok (.iconst 0, 1) := by decide +kernel
theorem dX1_costOf_54 : decode cX1_costOf 54 = .ok (.iload_n 1, 1) := by decide +kernel
theorem dX1_costOf_55 : decode cX1_costOf 55 = .ok (.iload_n 2, 1) := by decide +kernel
theorem dX1_costOf_56 : decode cX1_costOf 56 = .ok (.invokestatic 52, 3) := by decide +kernel
theorem dX1_costOf_59 : decode cX1_costOf 59 = .ok (.bipush 50, 2) := by decide +kernel
theorem dX1_costOf_61 : decode cX1_costOf 61 = .ok (.iadd, 1) := by decide +kernel
theorem dX1_costOf_62 : decode cX1_costOf 62 = .ok (.ireturn, 1) := by decide +kernel
theorem dX1_costOf_63 : decode cX1_costOf 63 = .ok (.iconst 2, 1) := by decide +kernel
theorem dX1_costOf_64 : decode cX1_costOf 64 = .ok (.iconst 0, 1) := by decide +kernel
theorem dX1_costOf_65 : decode cX1_costOf 65 = .ok (.iload_n 1, 1) := by decide +kernel
theorem dX1_costOf_66 : decode cX1_costOf 66 = .ok (.iload_n 2, 1) := by decide +kernel
theorem dX1_costOf_67 : decode cX1_costOf 67 = .ok (.invokestatic 52, 3) := by decide +kernel
theorem dX1_costOf_70 : decode cX1_costOf 70 = .ok (.imul, 1) := by decide +kernel
theorem dX1_costOf_71 : decode cX1_costOf 71 = .ok (.iload_n 1, 1) := by decide +kernel
theorem dX1_costOf_72 : decode cX1_costOf 72 = .ok (.iadd, 1) := by decide +kernel
theorem dX1_costOf_73 : decode cX1_costOf 73 = .ok (.ireturn, 1) := by decide +kernel
theorem dX1_costOf_74 : decode cX1_costOf 74 = .ok (.iconst 1, 1) := by decide +kernel
theorem dX1_costOf_75 : decode cX1_costOf 75 = .ok (.iload_n 1, 1) := by decide +kernel
theorem dX1_costOf_76 : decode cX1_costOf 76 = .ok (.iload_n 2, 1) := by decide +kernel
theorem dX1_costOf_77 : decode cX1_costOf 77 = .ok (.invokestatic 52, 3) := by decide +kernel
theorem dX1_costOf_80 : decode cX1_costOf 80 = .ok (.iload_n 2, 1) := by decide +kernel
theorem dX1_costOf_81 : decode cX1_costOf 81 = .ok (.isub, 1) := by decide +kernel
theorem dX1_costOf_82 : decode cX1_costOf 82 = .ok (.ireturn, 1) := by decide +kernel
theorem dX1_costOf_83 : decode cX1_costOf 83 = .ok (.iconst 2, 1) := by decide +kernel
theorem dX1_costOf_84 : decode cX1_costOf 84 = .ok (.iload_n 1, 1) := by decide +kernel
theorem dX1_costOf_85 : decode cX1_costOf 85 = .ok (.iload_n 2, 1) := by decide +kernel
theorem dX1_costOf_86 : decode cX1_costOf 86 = .ok (.invokestatic 52, 3) := by decide +kernel
theorem dX1_costOf_89 : decode cX1_costOf 89 = .ok (.iconst 2, 1) := by decide +kernel
theorem dX1_costOf_90 : decode cX1_costOf 90 = .ok (.idiv, 1) := by decide +kernel
theorem dX1_costOf_91 : decode cX1_costOf 91 = .ok (.ireturn, 1) := by decide +kernel
theorem dX1_costOf_92 : decode cX1_costOf 92 = .ok (.iconst 3, 1) := by decide +kernel
theorem dX1_costOf_93 : decode cX1_costOf 93 = .ok (.iload_n 1, 1) := by decide +kernel
theorem dX1_costOf_94 : decode cX1_costOf 94 = .ok (.iload_n 2, 1) := by decide +kernel
theorem dX1_costOf_95 : decode cX1_costOf 95 = .ok (.invokestatic 52, 3) := by decide +kernel
theorem dX1_costOf_98 : decode cX1_costOf 98 = .ok (.iconst 3, 1) := by decide +kernel
theorem dX1_costOf_99 : decode cX1_costOf 99 = .ok (.idiv, 1) := by decide +kernel
theorem dX1_costOf_100 : decode cX1_costOf 100 = .ok (.ireturn, 1) := by decide +kernel
theorem dX1_costOf_101 : decode cX1_costOf 101 = .ok (.bipush 6, 2) := by decide +kernel
theorem dX1_costOf_103 : decode cX1_costOf 103 = .ok (.iload_n 1, 1) := by decide +kernel
theorem dX1_costOf_104 : decode cX1_costOf 104 = .ok (.iload_n 2, 1) := by decide +kernel
theorem dX1_costOf_105 : decode cX1_costOf 105 = .ok (.invokestatic 52, 3) := by decide +kernel
theorem dX1_costOf_108 : decode cX1_costOf 108 = .ok (.iconst 1, 1) := by decide +kernel
theorem dX1_costOf_109 : decode cX1_costOf 109 = .ok (.isub, 1) := by decide +kernel
theorem dX1_costOf_110 : decode cX1_costOf 110 = .ok (.ireturn, 1) := by decide +kernel
theorem dX1_costOf_111 : decode cX1_costOf 111 = .ok (.iload_n 2, 1) := by decide +kernel
theorem dX1_costOf_112 : decode cX1_costOf 112 = .ok (.ireturn, 1) := by decide +kernel
section WALK
variable {p : Program} {l : Launch} {e : Env} {s : State} {m : MethodId} {args : Array Value} {below : List Frame} {meth : Method} {c : Code} {G : GG}

def b_J7_fill_53178_5 (k5 : Mem → Nat → Int32 → Int32 → Int32 → Prop) (post : Mem → Prop) (M : Mem) (a0 : Nat) (x1 : Int32) (x2 : Int32) (x3 : Int32) : Prop := (x3 ≤ x2 → (post M)) ∧ (¬ (x3 ≤ x2) → (vp_in x2 100 ∧ (∀ M3 : Mem, M3 = (mup M a0 x2.toNatClampNeg x1) → (k5 M3 a0 x1 (x2 + (1 : Int32)) x3))))
def lp_J7_fill_53178_5 (post : Mem → Prop) : Nat → Mem → Nat → Int32 → Int32 → Int32 → Prop
  | 0 => fun _ _ _ _ _ => False
  | n + 1 => fun M a0 x1 x2 x3 => b_J7_fill_53178_5 (lp_J7_fill_53178_5 post n) post M a0 x1 x2 x3
def q_J7_fill_53178 (M : Mem) (a0 : Nat) (x1 : Int32) (post : Mem → Prop) : Prop := ∃ n, lp_J7_fill_53178_5 post n M a0 x1 (0 : Int32) (100 : Int32)
set_option maxHeartbeats 4000000 in
set_option maxRecDepth 100000 in
theorem t_J7_fill_53178_5 (C : Cx G p s m args meth c RJ7 cJ7_fill_53178 4 none) {post : Mem → Prop} : ∀ (n : Nat) (M : Mem) (a0 : Nat) (x1 : Int32) (x2 : Int32) (x3 : Int32) {H : Heap} {locs : List Loc} {ls : Array Slot} (ha0 : 22 ≤ a0 ∧ a0 < 30) (w : Wd G s M H locs) (hl : lv_has ls 4 [(0, .ref (ga G a0)), (1, .int x1), (2, .int x2), (3, .int x3)]) (h : lp_J7_fill_53178_5 post n M a0 x1 x2 x3), W p l e (rmk 1) s m args below meth c H locs 0 0 (MQ below (va_Qv post (Qw G) (Af G s.heap.size)) args s 0 0 (Af G s.heap.size)) (F0 m 5 ls []) := by
  have hx := C.1.1
  have hb := C.1.2.1
  intro n9
  induction n9 with
  | zero => intro M a0 x1 x2 x3 H locs ls ha0 w hl h; exact absurd h id
  | succ n9 ih9 =>
    intro M a0 x1 x2 x3 H locs ls ha0 w hl h
    have hk5 : ∀ (M : Mem) (a0 : Nat) (x1 : Int32) (x2 : Int32) (x3 : Int32) (H : Heap) (locs : List Loc) (ls : Array Slot), (22 ≤ a0 ∧ a0 < 30) → Wd G s M H locs → lv_has ls 4 [(0, .ref (ga G a0)), (1, .int x1), (2, .int x2), (3, .int x3)] → lp_J7_fill_53178_5 post n9 M a0 x1 x2 x3 → W p l e (rmk 1) s m args below meth c H locs 0 0 (MQ below (va_Qv post (Qw G) (Af G s.heap.size)) args s 0 0 (Af G s.heap.size)) (F0 m 5 ls []) := fun M a0 x1 x2 x3 H locs ls ha0 w hl h => ih9 M a0 x1 x2 x3 ha0 w hl h
    replace h : b_J7_fill_53178_5 (lp_J7_fill_53178_5 post n9) post M a0 x1 x2 x3 := h
    unfold b_J7_fill_53178_5 at h
    refine lv_iload_n hx hb dJ7_fill_53178_5 rfl (lv_at hl 2 rfl) ?_
    refine lv_iload_n hx hb dJ7_fill_53178_6 rfl (lv_at hl 3 rfl) ?_
    refine lv_icmp_ge (tgt := 20) hx hb dJ7_fill_53178_7 (by decide) (fun c1 => ?_) (fun c1 => ?_)
    · replace h := h.1 c1
      exact ret_v C w h dJ7_fill_53178_20
    replace h := h.2 c1
    refine lv_aload_n hx hb dJ7_fill_53178_10 rfl (lv_at hl 0 rfl) ?_
    refine lv_iload_n hx hb dJ7_fill_53178_11 rfl (lv_at hl 2 rfl) ?_
    refine lv_iload_n hx hb dJ7_fill_53178_12 rfl (lv_at hl 1 rfl) ?_
    have hin2 := h.1
    replace h := h.2
    have hz_hin2 := in_lt hin2
    refine pw_st C w (i := a0) (by omega) (fun _ => (pE_el ha0)) hin2 rfl dJ7_fill_53178_13 (fun H locs w => ?_)
    obtain ⟨M3, eM3⟩ : ∃ z : Mem, z = (mup M a0 x2.toNatClampNeg x1) := ⟨_, rfl⟩
    replace w : Wd G s M3 H locs := by rw [eM3]; exact w
    replace h := h M3 eM3
    refine lv_iinc (v := (x2 + (1 : Int32))) (lv' := [(2, .int (x2 + (1 : Int32))), (0, .ref (ga G a0)), (1, .int x1), (3, .int x3)]) hx hb dJ7_fill_53178_14 hl (k := 2) rfl rfl (by decide) rfl (fun ls hl => ?_)
    refine lv_goto (tgt := 5) hx hb dJ7_fill_53178_17 (by decide) ?_
    exact hk5 M3 a0 x1 (x2 + (1 : Int32)) x3 _ _ _ ha0 w (lv_sub hl [1, 2, 0, 3] rfl) h
set_option maxHeartbeats 4000000 in
set_option maxRecDepth 100000 in
theorem c_J7_fill_53178 (l : Launch) (G : GG) (hG : Ag G) (sz : Nat) (M : Mem) (a0 : Nat) (x1 : Int32) (ha0 : 22 ≤ a0 ∧ a0 < 30) (post : Mem → Prop) (h : q_J7_fill_53178 M a0 x1 post) : Met l yJ7_fill_53178 (Cond.code yJ7_fill_53178 cJ7_fill_53178 4 none :: wsL_law) (rmk 1) (va_Pc [.ref (ga G a0), .int x1] (Pw G sz M)) (va_Qv post (Qw G) (Af G sz)) 0 0 (Af G sz) := by
  refine Met.ofW (cc := cJ7_fill_53178) (maxL := 4) (ret := none) (by decide) rfl ?_
  intro p e s m args below meth c s₁ B hml hv
  obtain ⟨rfl, hsz, hE, hP⟩ := hv
  subst hsz
  have C := Cx.of (own := RJ7) hG hE rfl hml B
  have w : Wd G s M s.heap [] := ⟨hP, va_S.rf⟩
  have hl := lv_entry [.ref (ga G a0), .int x1] (n := 4) (Nat.le_of_ble_eq_true rfl)
  rw [lg_entry_eq]
  generalize (lg_sl [.ref (ga G a0), .int x1] ++ List.replicate (4 - (lg_sl [.ref (ga G a0), .int x1]).length) Slot.unset).toArray = ls at hl ⊢
  have hl : lv_has ls 4 [(0, .ref (ga G a0)), (1, .int x1)] := hl
  have hx := C.1.1
  have hb := C.1.2.1
  show W p l e (rmk 1) s m _ below meth c s.heap [] 0 0 _ _
  unfold q_J7_fill_53178 at h
  refine lv_iconst (v := 0) hx hb dJ7_fill_53178_0 (by decide) ?_
  refine lv_istore_n (lv' := [(2, .int (0 : Int32)), (0, .ref (ga G a0)), (1, .int x1)]) hx hb dJ7_fill_53178_1 rfl hl (by decide) rfl (fun ls hl => ?_)
  refine lv_aload_n hx hb dJ7_fill_53178_2 rfl (lv_at hl 1 rfl) ?_
  refine pw_len C w (i := a0) (by omega) (pE_el ha0) (v := 100) rfl dJ7_fill_53178_3 ?_
  refine lv_istore_n (lv' := [(3, .int (100 : Int32)), (2, .int (0 : Int32)), (0, .ref (ga G a0)), (1, .int x1)]) hx hb dJ7_fill_53178_4 rfl hl (by decide) rfl (fun ls hl => ?_)
  obtain ⟨n, h⟩ := h
  exact t_J7_fill_53178_5 C n M a0 x1 (0 : Int32) (100 : Int32) ha0 w (lv_sub hl [2, 3, 1, 0] rfl) h
def q_X3_beginRow (M : Mem) (a0 : Nat) (x1 : Int32) (x2 : Int32) (post : Mem → Prop) : Prop := ∀ M1 : Mem, M1 = (mup M a0 0 (2 : Int32)) → (∀ M2 : Mem, M2 = (mup M1 a0 2 x1) → (∀ M3 : Mem, M3 = (mup M2 a0 3 x2) → (q_J7_fill_53178 M3 (8 + a0) (0 : Int32) (fun M5 => post M5))))
set_option maxHeartbeats 4000000 in
set_option maxRecDepth 100000 in
theorem c_X3_beginRow (l : Launch) (G : GG) (hG : Ag G) (sz : Nat) (M : Mem) (a0 : Nat) (x1 : Int32) (x2 : Int32) (ha0 : 14 ≤ a0 ∧ a0 < 22) (post : Mem → Prop) (h : q_X3_beginRow M a0 x1 x2 post) : Met l yX3_beginRow (Cond.code yX3_beginRow cX3_beginRow 3 none :: wsL_law) (rmk 2) (va_Pc [.ref (ga G a0), .int x1, .int x2] (Pw G sz M)) (va_Qv post (Qw G) (Af G sz)) 0 0 (Af G sz) := by
  refine Met.ofW (cc := cX3_beginRow) (maxL := 3) (ret := none) (by decide) rfl ?_
  intro p e s m args below meth c s₁ B hml hv
  obtain ⟨rfl, hsz, hE, hP⟩ := hv
  subst hsz
  have C := Cx.of (own := RX3) hG hE rfl hml B
  have w : Wd G s M s.heap [] := ⟨hP, va_S.rf⟩
  have hl := lv_entry [.ref (ga G a0), .int x1, .int x2] (n := 3) (Nat.le_of_ble_eq_true rfl)
  rw [lg_entry_eq]
  generalize (lg_sl [.ref (ga G a0), .int x1, .int x2] ++ List.replicate (3 - (lg_sl [.ref (ga G a0), .int x1, .int x2]).length) Slot.unset).toArray = ls at hl ⊢
  have hl : lv_has ls 3 [(0, .ref (ga G a0)), (1, .int x1), (2, .int x2)] := hl
  have hx := C.1.1
  have hb := C.1.2.1
  show W p l e (rmk 2) s m _ below meth c s.heap [] 0 0 _ _
  unfold q_X3_beginRow at h
  refine lv_aload_n hx hb dX3_beginRow_0 rfl (lv_at hl 0 rfl) ?_
  refine lv_iconst (v := 2) hx hb dX3_beginRow_1 (by decide) ?_
  refine pt_3_0 C w ha0 kw_4_14 dX3_beginRow_2 (fun H locs w => ?_)
  obtain ⟨M1, eM1⟩ : ∃ z : Mem, z = (mup M a0 0 (2 : Int32)) := ⟨_, rfl⟩
  replace w : Wd G s M1 H locs := by rw [eM1]; exact w
  replace h := h M1 eM1
  refine lv_aload_n hx hb dX3_beginRow_5 rfl (lv_at hl 0 rfl) ?_
  refine lv_iload_n hx hb dX3_beginRow_6 rfl (lv_at hl 1 rfl) ?_
  refine pt_3_2 C w ha0 kw_4_17 dX3_beginRow_7 (fun H locs w => ?_)
  obtain ⟨M2, eM2⟩ : ∃ z : Mem, z = (mup M1 a0 2 x1) := ⟨_, rfl⟩
  replace w : Wd G s M2 H locs := by rw [eM2]; exact w
  replace h := h M2 eM2
  refine lv_aload_n hx hb dX3_beginRow_10 rfl (lv_at hl 0 rfl) ?_
  refine lv_iload_n hx hb dX3_beginRow_11 rfl (lv_at hl 2 rfl) ?_
  refine pt_3_3 C w ha0 kw_4_18 dX3_beginRow_12 (fun H locs w => ?_)
  obtain ⟨M3, eM3⟩ : ∃ z : Mem, z = (mup M2 a0 3 x2) := ⟨_, rfl⟩
  replace w : Wd G s M3 H locs := by rw [eM3]; exact w
  replace h := h M3 eM3
  refine lv_aload_n hx hb dX3_beginRow_15 rfl (lv_at hl 0 rfl) ?_
  refine gt_3_4 C w ha0 kw_4_19 dX3_beginRow_16 ?_
  refine lv_iconst (v := 0) hx hb dX3_beginRow_19 (by decide) ?_
  refine end_v w (run_S (As := [.ref (ga G (8 + a0)), .int (0 : Int32)]) C w hl.1 (c_J7_fill_53178 l G C.2.2.1 _ _ (8 + a0) (0 : Int32) (by omega) _ h) kw_37_9 kw_37_8 kw_37_6 kw_37_7 hd_J7_fill_53178 ⟨by decide, by decide⟩ rfl (Nat.le_of_ble_eq_true rfl) dX3_beginRow_20) (fun M5 H locs h w => ?_)
  exact ret_v C w h dX3_beginRow_23
def j_X5_row_22 (post : Int32 → Mem → Prop) (M : Mem) : Prop := post (-1 : Int32) M
def q_X5_row (M : Mem) (x1 : Int32) (x2 : Int32) (x3 : Int32) (post : Int32 → Mem → Prop) : Prop := q_X5_isShelf M x1 (fun r1 M2 => (r1 = 0 → (j_X5_row_22 post M2)) ∧ (¬ (r1 = 0) → (q_X5_isWithin M2 x2 (0 : Int32) (2 : Int32) (fun r4 M5 => (r4 = 0 → (j_X5_row_22 post M5)) ∧ (¬ (r4 = 0) → ((x3 ≤ (100 : Int32) → ((0 ≤ x3 → (vp_in x1 8 ∧ (q_X3_beginRow M5 (14 + x1.toNatClampNeg) x2 x3 (fun M11 => post (0 : Int32) M11)))) ∧ (¬ (0 ≤ x3) → (post (-14 : Int32) M5)))) ∧ (¬ (x3 ≤ (100 : Int32)) → (j_X5_row_22 post M5))))))))
set_option maxHeartbeats 4000000 in
set_option maxRecDepth 100000 in
theorem t_X5_row_22 (C : Cx G p s m args meth c RX5 cX5_row 4 (some .int)) {post : Int32 → Mem → Prop} (M : Mem) {H : Heap} {locs : List Loc} {ls : Array Slot} (w : Wd G s M H locs) (hl : lv_has ls 4 []) (h : j_X5_row_22 post M) : W p l e (rmk 3) s m args below meth c H locs 0 0 (MQ below (va_Qi post (Qw G) (Af G s.heap.size)) args s 0 0 (Af G s.heap.size)) (F0 m 22 ls []) := by
  have hx := C.1.1
  have hb := C.1.2.1
  unfold j_X5_row_22 at h
  refine lv_iconst (v := -1) hx hb dX5_row_22 (by decide) ?_
  exact ret_i C w h dX5_row_23
set_option maxHeartbeats 4000000 in
set_option maxRecDepth 100000 in
theorem c_X5_row (l : Launch) (G : GG) (hG : Ag G) (sz : Nat) (M : Mem) (x1 : Int32) (x2 : Int32) (x3 : Int32) (post : Int32 → Mem → Prop) (h : q_X5_row M x1 x2 x3 post) : Met l yX5_row (Cond.code yX5_row cX5_row 4 (some .int) :: wsL_law) (rmk 3) (va_Pc [.ref (ga G 0), .int x1, .int x2, .int x3] (Pw G sz M)) (va_Qi post (Qw G) (Af G sz)) 0 0 (Af G sz) := by
  refine Met.ofW (cc := cX5_row) (maxL := 4) (ret := (some .int)) (by decide) rfl ?_
  intro p e s m args below meth c s₁ B hml hv
  obtain ⟨rfl, hsz, hE, hP⟩ := hv
  subst hsz
  have C := Cx.of (own := RX5) hG hE rfl hml B
  have w : Wd G s M s.heap [] := ⟨hP, va_S.rf⟩
  have hl := lv_entry [.ref (ga G 0), .int x1, .int x2, .int x3] (n := 4) (Nat.le_of_ble_eq_true rfl)
  rw [lg_entry_eq]
  generalize (lg_sl [.ref (ga G 0), .int x1, .int x2, .int x3] ++ List.replicate (4 - (lg_sl [.ref (ga G 0), .int x1, .int x2, .int x3]).length) Slot.unset).toArray = ls at hl ⊢
  have hl : lv_has ls 4 [(0, .ref (ga G 0)), (1, .int x1), (2, .int x2), (3, .int x3)] := hl
  have hx := C.1.1
  have hb := C.1.2.1
  show W p l e (rmk 3) s m _ below meth c s.heap [] 0 0 _ _
  unfold q_X5_row at h
  refine lv_iload_n hx hb dX5_row_0 rfl (lv_at hl 1 rfl) ?_
  refine end_i w (run_S (As := [.int x1]) C w hl.1 (c_X5_isShelf l G C.2.2.1 _ _ x1  _ h) kw_6_5 kw_1_2 kw_6_3 kw_6_4 hd_X5_isShelf ⟨by decide, by decide⟩ rfl (Nat.le_of_ble_eq_true rfl) dX5_row_1) (fun r1 M2 H locs h w => ?_)
  refine lv_if_eq (tgt := 22) hx hb dX5_row_4 (by decide) (fun c3 => ?_) (fun c3 => ?_)
  · replace h := h.1 c3
    exact t_X5_row_22 C M2   w (lv_sub hl [] rfl) h
  replace h := h.2 c3
  refine lv_iload_n hx hb dX5_row_7 rfl (lv_at hl 2 rfl) ?_
  refine lv_iconst (v := 0) hx hb dX5_row_8 (by decide) ?_
  refine lv_iconst (v := 2) hx hb dX5_row_9 (by decide) ?_
  refine end_i w (run_S (As := [.int x2, .int (0 : Int32), .int (2 : Int32)]) C w hl.1 (c_X5_isWithin l G C.2.2.1 _ _ x2 (0 : Int32) (2 : Int32)  _ h) kw_6_8 kw_1_2 kw_6_6 kw_6_7 hd_X5_isWithin ⟨by decide, by decide⟩ rfl (Nat.le_of_ble_eq_true rfl) dX5_row_10) (fun r4 M5 H locs h w => ?_)
  refine lv_if_eq (tgt := 22) hx hb dX5_row_13 (by decide) (fun c6 => ?_) (fun c6 => ?_)
  · replace h := h.1 c6
    exact t_X5_row_22 C M5   w (lv_sub hl [] rfl) h
  replace h := h.2 c6
  refine lv_iload_n hx hb dX5_row_16 rfl (lv_at hl 3 rfl) ?_
  refine lv_bipush (v := 100) hx hb dX5_row_17 (by decide) ?_
  refine lv_icmp_le (tgt := 24) hx hb dX5_row_19 (by decide) (fun c7 => ?_) (fun c7 => ?_)
  · replace h := h.1 c7
    refine lv_iload_n hx hb dX5_row_24 rfl (lv_at hl 3 rfl) ?_
    refine lv_if_ge (tgt := 31) hx hb dX5_row_25 (by decide) (fun c8 => ?_) (fun c8 => ?_)
    · replace h := h.1 c8
      refine lv_aload_n hx hb dX5_row_31 rfl (lv_at hl 0 rfl) ?_
      refine gt_5_6 C w kw_2_8 dX5_row_32 ?_
      refine lv_iload_n hx hb dX5_row_35 rfl (lv_at hl 1 rfl) ?_
      have hin9 := h.1
      replace h := h.2
      have hz_hin9 := in_lt hin9
      refine pw_ldS C w hin9 rfl dX5_row_36 ?_
      refine lv_iload_n hx hb dX5_row_37 rfl (lv_at hl 2 rfl) ?_
      refine lv_iload_n hx hb dX5_row_38 rfl (lv_at hl 3 rfl) ?_
      refine end_v w (run_VN (As := [.int x2, .int x3]) C w hl.1 (c_X3_beginRow l G C.2.2.1 _ _ (14 + x1.toNatClampNeg) x2 x3 (by omega) _ h) kw_37_5 kw_2_11 kn_83 kw_37_3 kw_37_4 hd_X3_beginRow ⟨by decide, by decide⟩ (w.recv C (i := (14 + x1.toNatClampNeg)) (by omega) (pE_3 (by omega)) rfl) rfl (Nat.le_of_ble_eq_true rfl) dX5_row_39) (fun M11 H locs h w => ?_)
      refine lv_iconst (v := 0) hx hb dX5_row_42 (by decide) ?_
      exact ret_i C w h dX5_row_43
    replace h := h.2 c8
    refine lv_bipush (v := -14) hx hb dX5_row_28 (by decide) ?_
    exact ret_i C w h dX5_row_30
  replace h := h.2 c7
  exact t_X5_row_22 C M5   w (lv_sub hl [] rfl) h
def b_X6_row_58 (k58 : Mem → Int32 → Int32 → Prop) (post : Int32 → Mem → Prop) (M : Mem) (x1 : Int32) (x4 : Int32) : Prop := ((100 : Int32) ≤ x4 → (post (0 : Int32) M)) ∧ (¬ ((100 : Int32) ≤ x4) → (vp_in (((100 : Int32) * x1) + x4) 800 ∧ (∀ M3 : Mem, M3 = (mup M 65 (((100 : Int32) * x1) + x4).toNatClampNeg (0 : Int32)) → (k58 M3 x1 (x4 + (1 : Int32))))))
def lp_X6_row_58 (post : Int32 → Mem → Prop) : Nat → Mem → Int32 → Int32 → Prop
  | 0 => fun _ _ _ => False
  | n + 1 => fun M x1 x4 => b_X6_row_58 (lp_X6_row_58 post n) post M x1 x4
def j_X6_row_25 (post : Int32 → Mem → Prop) (M : Mem) : Prop := post (-1 : Int32) M
def q_X6_row (M : Mem) (x1 : Int32) (x2 : Int32) (x3 : Int32) (post : Int32 → Mem → Prop) : Prop := q_X6_isShelf M x1 (fun r4 M5 => (r4 = 0 → (j_X6_row_25 post M5)) ∧ (¬ (r4 = 0) → (q_X6_isIn M5 x2.toInt64 (0 : Int64) (2 : Int64) (fun r7 M8 => (r7 = 0 → (j_X6_row_25 post M8)) ∧ (¬ (r7 = 0) → ((x3 ≤ (100 : Int32) → ((0 ≤ x3 → (vp_in x1 8 ∧ (∀ M13 : Mem, M13 = (mup M8 62 x1.toNatClampNeg (2 : Int32)) → (∀ M14 : Mem, M14 = (mup M13 63 x1.toNatClampNeg x2) → (∀ M15 : Mem, M15 = (mup M14 64 x1.toNatClampNeg x3) → (∃ n, lp_X6_row_58 post n M15 x1 (0 : Int32))))))) ∧ (¬ (0 ≤ x3) → (post (-14 : Int32) M8)))) ∧ (¬ (x3 ≤ (100 : Int32)) → (j_X6_row_25 post M8))))))))
set_option maxHeartbeats 4000000 in
set_option maxRecDepth 100000 in
theorem t_X6_row_58 (C : Cx G p s m args meth c RX6 cX6_row 5 (some .int)) {post : Int32 → Mem → Prop} : ∀ (n : Nat) (M : Mem) (x1 : Int32) (x4 : Int32) {H : Heap} {locs : List Loc} {ls : Array Slot} (w : Wd G s M H locs) (hl : lv_has ls 5 [(0, .ref (ga G 57)), (1, .int x1), (4, .int x4)]) (h : lp_X6_row_58 post n M x1 x4), W p l e (rmk 3) s m args below meth c H locs 0 0 (MQ below (va_Qi post (Qw G) (Af G s.heap.size)) args s 0 0 (Af G s.heap.size)) (F0 m 58 ls []) := by
  have hx := C.1.1
  have hb := C.1.2.1
  intro n9
  induction n9 with
  | zero => intro M x1 x4 H locs ls w hl h; exact absurd h id
  | succ n9 ih9 =>
    intro M x1 x4 H locs ls w hl h
    have hk58 : ∀ (M : Mem) (x1 : Int32) (x4 : Int32) (H : Heap) (locs : List Loc) (ls : Array Slot), Wd G s M H locs → lv_has ls 5 [(0, .ref (ga G 57)), (1, .int x1), (4, .int x4)] → lp_X6_row_58 post n9 M x1 x4 → W p l e (rmk 3) s m args below meth c H locs 0 0 (MQ below (va_Qi post (Qw G) (Af G s.heap.size)) args s 0 0 (Af G s.heap.size)) (F0 m 58 ls []) := fun M x1 x4 H locs ls w hl h => ih9 M x1 x4 w hl h
    replace h : b_X6_row_58 (lp_X6_row_58 post n9) post M x1 x4 := h
    unfold b_X6_row_58 at h
    refine lv_iload hx hb dX6_row_58 (lv_at hl 2 rfl) ?_
    refine lv_bipush (v := 100) hx hb dX6_row_60 (by decide) ?_
    refine lv_icmp_ge (tgt := 84) hx hb dX6_row_62 (by decide) (fun c1 => ?_) (fun c1 => ?_)
    · replace h := h.1 c1
      refine lv_iconst (v := 0) hx hb dX6_row_84 (by decide) ?_
      exact ret_i C w h dX6_row_85
    replace h := h.2 c1
    refine lv_aload_n hx hb dX6_row_65 rfl (lv_at hl 0 rfl) ?_
    refine gt_6_7 C w kw_5_7 dX6_row_66 ?_
    refine lv_bipush (v := 100) hx hb dX6_row_69 (by decide) ?_
    refine lv_iload_n hx hb dX6_row_71 rfl (lv_at hl 1 rfl) ?_
    refine lv_imul hx hb dX6_row_72 ?_
    refine lv_iload hx hb dX6_row_73 (lv_at hl 2 rfl) ?_
    refine lv_iadd hx hb dX6_row_75 ?_
    refine lv_iconst (v := 0) hx hb dX6_row_76 (by decide) ?_
    have hin2 := h.1
    replace h := h.2
    have hz_hin2 := in_lt hin2
    refine pw_st C w (i := 65) (by decide) (fun _ => pE_65) hin2 rfl dX6_row_77 (fun H locs w => ?_)
    obtain ⟨M3, eM3⟩ : ∃ z : Mem, z = (mup M 65 (((100 : Int32) * x1) + x4).toNatClampNeg (0 : Int32)) := ⟨_, rfl⟩
    replace w : Wd G s M3 H locs := by rw [eM3]; exact w
    replace h := h M3 eM3
    refine lv_iinc (v := (x4 + (1 : Int32))) (lv' := [(4, .int (x4 + (1 : Int32))), (0, .ref (ga G 57)), (1, .int x1)]) hx hb dX6_row_78 hl (k := 2) rfl rfl (by decide) rfl (fun ls hl => ?_)
    refine lv_goto (tgt := 58) hx hb dX6_row_81 (by decide) ?_
    exact hk58 M3 x1 (x4 + (1 : Int32)) _ _ _  w (lv_sub hl [1, 2, 0] rfl) h
set_option maxHeartbeats 4000000 in
set_option maxRecDepth 100000 in
theorem t_X6_row_25 (C : Cx G p s m args meth c RX6 cX6_row 5 (some .int)) {post : Int32 → Mem → Prop} (M : Mem) {H : Heap} {locs : List Loc} {ls : Array Slot} (w : Wd G s M H locs) (hl : lv_has ls 5 []) (h : j_X6_row_25 post M) : W p l e (rmk 3) s m args below meth c H locs 0 0 (MQ below (va_Qi post (Qw G) (Af G s.heap.size)) args s 0 0 (Af G s.heap.size)) (F0 m 25 ls []) := by
  have hx := C.1.1
  have hb := C.1.2.1
  unfold j_X6_row_25 at h
  refine lv_iconst (v := -1) hx hb dX6_row_25 (by decide) ?_
  exact ret_i C w h dX6_row_26
set_option maxHeartbeats 4000000 in
set_option maxRecDepth 100000 in
theorem c_X6_row (l : Launch) (G : GG) (hG : Ag G) (sz : Nat) (M : Mem) (x1 : Int32) (x2 : Int32) (x3 : Int32) (post : Int32 → Mem → Prop) (h : q_X6_row M x1 x2 x3 post) : Met l yX6_row (Cond.code yX6_row cX6_row 5 (some .int) :: wsL_law) (rmk 3) (va_Pc [.ref (ga G 57), .int x1, .int x2, .int x3] (Pw G sz M)) (va_Qi post (Qw G) (Af G sz)) 0 0 (Af G sz) := by
  refine Met.ofW (cc := cX6_row) (maxL := 5) (ret := (some .int)) (by decide) rfl ?_
  intro p e s m args below meth c s₁ B hml hv
  obtain ⟨rfl, hsz, hE, hP⟩ := hv
  subst hsz
  have C := Cx.of (own := RX6) hG hE rfl hml B
  have w : Wd G s M s.heap [] := ⟨hP, va_S.rf⟩
  have hl := lv_entry [.ref (ga G 57), .int x1, .int x2, .int x3] (n := 5) (Nat.le_of_ble_eq_true rfl)
  rw [lg_entry_eq]
  generalize (lg_sl [.ref (ga G 57), .int x1, .int x2, .int x3] ++ List.replicate (5 - (lg_sl [.ref (ga G 57), .int x1, .int x2, .int x3]).length) Slot.unset).toArray = ls at hl ⊢
  have hl : lv_has ls 5 [(0, .ref (ga G 57)), (1, .int x1), (2, .int x2), (3, .int x3)] := hl
  have hx := C.1.1
  have hb := C.1.2.1
  show W p l e (rmk 3) s m _ below meth c s.heap [] 0 0 _ _
  unfold q_X6_row at h
  refine lv_iload_n hx hb dX6_row_0 rfl (lv_at hl 1 rfl) ?_
  refine end_i w (run_S (As := [.int x1]) C w hl.1 (c_X6_isShelf l G C.2.2.1 _ _ x1  _ h) kw_12_1 kw_1_5 kw_11_23 kw_12_0 hd_X6_isShelf ⟨by decide, by decide⟩ rfl (Nat.le_of_ble_eq_true rfl) dX6_row_1) (fun r4 M5 H locs h w => ?_)
  refine lv_if_eq (tgt := 25) hx hb dX6_row_4 (by decide) (fun c6 => ?_) (fun c6 => ?_)
  · replace h := h.1 c6
    exact t_X6_row_25 C M5   w (lv_sub hl [] rfl) h
  replace h := h.2 c6
  refine lv_iload_n hx hb dX6_row_7 rfl (lv_at hl 2 rfl) ?_
  refine lv_i2l hx hb dX6_row_8 rfl ?_
  refine lv_lconst (v := 0) hx hb dX6_row_9 (by decide) ?_
  refine lv_ldc2 hx hb C.1.2.2.2.1 (C.ws kw_23_18) dX6_row_10 ?_
  refine end_i w (run_S (As := [.long x2.toInt64, .long (0 : Int64), .long (2 : Int64)]) C w hl.1 (c_X6_isIn l G C.2.2.1 _ _ x2.toInt64 (0 : Int64) (2 : Int64)  _ h) kw_12_5 kw_1_5 kw_12_3 kw_12_4 hd_X6_isIn ⟨by decide, by decide⟩ rfl (Nat.le_of_ble_eq_true rfl) dX6_row_13) (fun r7 M8 H locs h w => ?_)
  refine lv_if_eq (tgt := 25) hx hb dX6_row_16 (by decide) (fun c9 => ?_) (fun c9 => ?_)
  · replace h := h.1 c9
    exact t_X6_row_25 C M8   w (lv_sub hl [] rfl) h
  replace h := h.2 c9
  refine lv_iload_n hx hb dX6_row_19 rfl (lv_at hl 3 rfl) ?_
  refine lv_bipush (v := 100) hx hb dX6_row_20 (by decide) ?_
  refine lv_icmp_le (tgt := 27) hx hb dX6_row_22 (by decide) (fun c10 => ?_) (fun c10 => ?_)
  · replace h := h.1 c10
    refine lv_iload_n hx hb dX6_row_27 rfl (lv_at hl 3 rfl) ?_
    refine lv_if_ge (tgt := 34) hx hb dX6_row_28 (by decide) (fun c11 => ?_) (fun c11 => ?_)
    · replace h := h.1 c11
      refine lv_aload_n hx hb dX6_row_34 rfl (lv_at hl 0 rfl) ?_
      refine gt_6_4 C w kw_5_4 dX6_row_35 ?_
      refine lv_iload_n hx hb dX6_row_38 rfl (lv_at hl 1 rfl) ?_
      refine lv_iconst (v := 2) hx hb dX6_row_39 (by decide) ?_
      have hin12 := h.1
      replace h := h.2
      have hz_hin12 := in_lt hin12
      refine pw_st C w (i := 62) (by decide) (fun _ => pE_62) hin12 rfl dX6_row_40 (fun H locs w => ?_)
      obtain ⟨M13, eM13⟩ : ∃ z : Mem, z = (mup M8 62 x1.toNatClampNeg (2 : Int32)) := ⟨_, rfl⟩
      replace w : Wd G s M13 H locs := by rw [eM13]; exact w
      replace h := h M13 eM13
      refine lv_aload_n hx hb dX6_row_41 rfl (lv_at hl 0 rfl) ?_
      refine gt_6_5 C w kw_5_5 dX6_row_42 ?_
      refine lv_iload_n hx hb dX6_row_45 rfl (lv_at hl 1 rfl) ?_
      refine lv_iload_n hx hb dX6_row_46 rfl (lv_at hl 2 rfl) ?_
      refine pw_st C w (i := 63) (by decide) (fun _ => pE_63) hin12 rfl dX6_row_47 (fun H locs w => ?_)
      obtain ⟨M14, eM14⟩ : ∃ z : Mem, z = (mup M13 63 x1.toNatClampNeg x2) := ⟨_, rfl⟩
      replace w : Wd G s M14 H locs := by rw [eM14]; exact w
      replace h := h M14 eM14
      refine lv_aload_n hx hb dX6_row_48 rfl (lv_at hl 0 rfl) ?_
      refine gt_6_6 C w kw_5_6 dX6_row_49 ?_
      refine lv_iload_n hx hb dX6_row_52 rfl (lv_at hl 1 rfl) ?_
      refine lv_iload_n hx hb dX6_row_53 rfl (lv_at hl 3 rfl) ?_
      refine pw_st C w (i := 64) (by decide) (fun _ => pE_64) hin12 rfl dX6_row_54 (fun H locs w => ?_)
      obtain ⟨M15, eM15⟩ : ∃ z : Mem, z = (mup M14 64 x1.toNatClampNeg x3) := ⟨_, rfl⟩
      replace w : Wd G s M15 H locs := by rw [eM15]; exact w
      replace h := h M15 eM15
      refine lv_iconst (v := 0) hx hb dX6_row_55 (by decide) ?_
      refine lv_istore (lv' := [(4, .int (0 : Int32)), (0, .ref (ga G 57)), (1, .int x1), (2, .int x2), (3, .int x3)]) hx hb dX6_row_56 hl (by decide) rfl (fun ls hl => ?_)
      obtain ⟨n, h⟩ := h
      exact t_X6_row_58 C n M15 x1 (0 : Int32)  w (lv_sub hl [1, 2, 0] rfl) h
    replace h := h.2 c11
    refine lv_bipush (v := -14) hx hb dX6_row_31 (by decide) ?_
    exact ret_i C w h dX6_row_33
  replace h := h.2 c10
  exact t_X6_row_25 C M8   w (lv_sub hl [] rfl) h
def j_X3_putLowestBits_61 (post : Mem → Prop) (M : Mem) : Prop := post M
def q_X3_putLowestBits (M : Mem) (a0 : Nat) (x1 : Int32) (x2 : Int32) (post : Mem → Prop) : Prop := ((M a0 2) = (0 : Int32) → (vp_in x1 100 ∧ (∀ M3 : Mem, M3 = (mup M (8 + a0) x1.toNatClampNeg x2.toInt8.toInt32) → (j_X3_putLowestBits_61 post M3)))) ∧ (¬ (M a0 2) = (0 : Int32) → (((M a0 2) = (1 : Int32) → (vp_in x1 100 ∧ (∀ M6 : Mem, M6 = (mup M (8 + a0) x1.toNatClampNeg x2.toInt16.toInt32) → (j_X3_putLowestBits_61 post M6)))) ∧ (¬ (M a0 2) = (1 : Int32) → (vp_in x1 100 ∧ (∀ M8 : Mem, M8 = (mup M (8 + a0) x1.toNatClampNeg x2) → (j_X3_putLowestBits_61 post M8))))))
set_option maxHeartbeats 4000000 in
set_option maxRecDepth 100000 in
theorem t_X3_putLowestBits_61 (C : Cx G p s m args meth c RX3 cX3_putLowestBits 3 none) {post : Mem → Prop} (M : Mem) {H : Heap} {locs : List Loc} {ls : Array Slot} (w : Wd G s M H locs) (hl : lv_has ls 3 []) (h : j_X3_putLowestBits_61 post M) : W p l e (rmk 1) s m args below meth c H locs 0 0 (MQ below (va_Qv post (Qw G) (Af G s.heap.size)) args s 0 0 (Af G s.heap.size)) (F0 m 61 ls []) := by
  have hx := C.1.1
  have hb := C.1.2.1
  unfold j_X3_putLowestBits_61 at h
  exact ret_v C w h dX3_putLowestBits_61
set_option maxHeartbeats 4000000 in
set_option maxRecDepth 100000 in
theorem c_X3_putLowestBits (l : Launch) (G : GG) (hG : Ag G) (sz : Nat) (M : Mem) (a0 : Nat) (x1 : Int32) (x2 : Int32) (ha0 : 14 ≤ a0 ∧ a0 < 22) (post : Mem → Prop) (h : q_X3_putLowestBits M a0 x1 x2 post) : Met l yX3_putLowestBits (Cond.code yX3_putLowestBits cX3_putLowestBits 3 none :: wsL_law) (rmk 1) (va_Pc [.ref (ga G a0), .int x1, .int x2] (Pw G sz M)) (va_Qv post (Qw G) (Af G sz)) 0 0 (Af G sz) := by
  refine Met.ofW (cc := cX3_putLowestBits) (maxL := 3) (ret := none) (by decide) rfl ?_
  intro p e s m args below meth c s₁ B hml hv
  obtain ⟨rfl, hsz, hE, hP⟩ := hv
  subst hsz
  have C := Cx.of (own := RX3) hG hE rfl hml B
  have w : Wd G s M s.heap [] := ⟨hP, va_S.rf⟩
  have hl := lv_entry [.ref (ga G a0), .int x1, .int x2] (n := 3) (Nat.le_of_ble_eq_true rfl)
  rw [lg_entry_eq]
  generalize (lg_sl [.ref (ga G a0), .int x1, .int x2] ++ List.replicate (3 - (lg_sl [.ref (ga G a0), .int x1, .int x2]).length) Slot.unset).toArray = ls at hl ⊢
  have hl : lv_has ls 3 [(0, .ref (ga G a0)), (1, .int x1), (2, .int x2)] := hl
  have hx := C.1.1
  have hb := C.1.2.1
  show W p l e (rmk 1) s m _ below meth c s.heap [] 0 0 _ _
  unfold q_X3_putLowestBits at h
  refine lv_aload_n hx hb dX3_putLowestBits_0 rfl (lv_at hl 0 rfl) ?_
  refine gt_3_2 C w ha0 kw_4_17 dX3_putLowestBits_1 ?_
  by_cases c1 : (M a0 2) = (0 : Int32)
  · replace h := h.1 c1
    refine lv_lookup (off := 28) (tgt := 32) hx hb dX3_putLowestBits_4 (by decide) (by rw [c1]; decide) (by decide) ?_
    refine lv_aload_n hx hb dX3_putLowestBits_32 rfl (lv_at hl 0 rfl) ?_
    refine gt_3_4 C w ha0 kw_4_19 dX3_putLowestBits_33 ?_
    refine lv_iload_n hx hb dX3_putLowestBits_36 rfl (lv_at hl 1 rfl) ?_
    refine lv_iload_n hx hb dX3_putLowestBits_37 rfl (lv_at hl 2 rfl) ?_
    refine lv_i2b hx hb dX3_putLowestBits_38 rfl ?_
    have hin2 := h.1
    replace h := h.2
    have hz_hin2 := in_lt hin2
    refine pw_st C w (i := (8 + a0)) (by omega) (fun _ => (pE_el (by omega))) hin2 rfl dX3_putLowestBits_39 (fun H locs w => ?_)
    obtain ⟨M3, eM3⟩ : ∃ z : Mem, z = (mup M (8 + a0) x1.toNatClampNeg x2.toInt8.toInt32) := ⟨_, rfl⟩
    replace w : Wd G s M3 H locs := by rw [eM3]; exact w
    replace h := h M3 eM3
    refine lv_goto (tgt := 61) hx hb dX3_putLowestBits_40 (by decide) ?_
    exact t_X3_putLowestBits_61 C M3   w (lv_sub hl [] rfl) h
  replace h := h.2 c1
  by_cases c4 : (M a0 2) = (1 : Int32)
  · replace h := h.1 c4
    refine lv_lookup (off := 39) (tgt := 43) hx hb dX3_putLowestBits_4 (by decide) (by rw [c4]; decide) (by decide) ?_
    refine lv_aload_n hx hb dX3_putLowestBits_43 rfl (lv_at hl 0 rfl) ?_
    refine gt_3_4 C w ha0 kw_4_19 dX3_putLowestBits_44 ?_
    refine lv_iload_n hx hb dX3_putLowestBits_47 rfl (lv_at hl 1 rfl) ?_
    refine lv_iload_n hx hb dX3_putLowestBits_48 rfl (lv_at hl 2 rfl) ?_
    refine lv_i2s hx hb dX3_putLowestBits_49 rfl ?_
    have hin5 := h.1
    replace h := h.2
    have hz_hin5 := in_lt hin5
    refine pw_st C w (i := (8 + a0)) (by omega) (fun _ => (pE_el (by omega))) hin5 rfl dX3_putLowestBits_50 (fun H locs w => ?_)
    obtain ⟨M6, eM6⟩ : ∃ z : Mem, z = (mup M (8 + a0) x1.toNatClampNeg x2.toInt16.toInt32) := ⟨_, rfl⟩
    replace w : Wd G s M6 H locs := by rw [eM6]; exact w
    replace h := h M6 eM6
    refine lv_goto (tgt := 61) hx hb dX3_putLowestBits_51 (by decide) ?_
    exact t_X3_putLowestBits_61 C M6   w (lv_sub hl [] rfl) h
  replace h := h.2 c4
  refine lv_lookup (off := 50) (tgt := 54) hx hb dX3_putLowestBits_4 (by decide) ((lv_osw c1 (by decide)).trans ((lv_osw c4 (by decide)).trans rfl)) (by decide) ?_
  refine lv_aload_n hx hb dX3_putLowestBits_54 rfl (lv_at hl 0 rfl) ?_
  refine gt_3_4 C w ha0 kw_4_19 dX3_putLowestBits_55 ?_
  refine lv_iload_n hx hb dX3_putLowestBits_58 rfl (lv_at hl 1 rfl) ?_
  refine lv_iload_n hx hb dX3_putLowestBits_59 rfl (lv_at hl 2 rfl) ?_
  have hin7 := h.1
  replace h := h.2
  have hz_hin7 := in_lt hin7
  refine pw_st C w (i := (8 + a0)) (by omega) (fun _ => (pE_el (by omega))) hin7 rfl dX3_putLowestBits_60 (fun H locs w => ?_)
  obtain ⟨M8, eM8⟩ : ∃ z : Mem, z = (mup M (8 + a0) x1.toNatClampNeg x2) := ⟨_, rfl⟩
  replace w : Wd G s M8 H locs := by rw [eM8]; exact w
  replace h := h M8 eM8
  exact t_X3_putLowestBits_61 C M8   w (lv_sub hl [] rfl) h
def q_X5_put (M : Mem) (x1 : Int32) (x2 : Int32) (x3 : Int32) (post : Int32 → Mem → Prop) : Prop := q_X5_refusalOfRow M x1 (fun r1 M2 => (0 ≤ r1 → (vp_in x1 8 ∧ (q_X3_hasPlace M2 (14 + x1.toNatClampNeg) x2 (fun r5 M6 => (r5 = 0 → (post (-13 : Int32) M6)) ∧ (¬ (r5 = 0) → (q_X3_putLowestBits M6 (14 + x1.toNatClampNeg) x2 x3 (fun M9 => post (0 : Int32) M9))))))) ∧ (¬ (0 ≤ r1) → (post r1 M2)))
set_option maxHeartbeats 4000000 in
set_option maxRecDepth 100000 in
theorem c_X5_put (l : Launch) (G : GG) (hG : Ag G) (sz : Nat) (M : Mem) (x1 : Int32) (x2 : Int32) (x3 : Int32) (post : Int32 → Mem → Prop) (h : q_X5_put M x1 x2 x3 post) : Met l yX5_put (Cond.code yX5_put cX5_put 5 (some .int) :: wsL_law) (rmk 5) (va_Pc [.ref (ga G 0), .int x1, .int x2, .int x3] (Pw G sz M)) (va_Qi post (Qw G) (Af G sz)) 0 0 (Af G sz) := by
  refine Met.ofW (cc := cX5_put) (maxL := 5) (ret := (some .int)) (by decide) rfl ?_
  intro p e s m args below meth c s₁ B hml hv
  obtain ⟨rfl, hsz, hE, hP⟩ := hv
  subst hsz
  have C := Cx.of (own := RX5) hG hE rfl hml B
  have w : Wd G s M s.heap [] := ⟨hP, va_S.rf⟩
  have hl := lv_entry [.ref (ga G 0), .int x1, .int x2, .int x3] (n := 5) (Nat.le_of_ble_eq_true rfl)
  rw [lg_entry_eq]
  generalize (lg_sl [.ref (ga G 0), .int x1, .int x2, .int x3] ++ List.replicate (5 - (lg_sl [.ref (ga G 0), .int x1, .int x2, .int x3]).length) Slot.unset).toArray = ls at hl ⊢
  have hl : lv_has ls 5 [(0, .ref (ga G 0)), (1, .int x1), (2, .int x2), (3, .int x3)] := hl
  have hx := C.1.1
  have hb := C.1.2.1
  show W p l e (rmk 5) s m _ below meth c s.heap [] 0 0 _ _
  unfold q_X5_put at h
  refine lv_aload_n hx hb dX5_put_0 rfl (lv_at hl 0 rfl) ?_
  refine lv_iload_n hx hb dX5_put_1 rfl (lv_at hl 1 rfl) ?_
  refine end_i w (run_V (As := [.int x1]) C w hl.1 (c_X5_refusalOfRow l G C.2.2.1 _ _ x1  _ h) kw_5_22 kw_1_2 kw_5_19 kw_5_20 kw_5_21 hd_X5_refusalOfRow ⟨by decide, by decide⟩ (w.recv C (i := 0) (by decide) (pE_5) rfl) rfl (Nat.le_of_ble_eq_true rfl) dX5_put_2) (fun r1 M2 H locs h w => ?_)
  refine lv_istore (lv' := [(4, .int r1), (0, .ref (ga G 0)), (1, .int x1), (2, .int x2), (3, .int x3)]) hx hb dX5_put_5 hl (by decide) rfl (fun ls hl => ?_)
  refine lv_iload hx hb dX5_put_7 (lv_at hl 0 rfl) ?_
  refine lv_if_ge (tgt := 15) hx hb dX5_put_9 (by decide) (fun c3 => ?_) (fun c3 => ?_)
  · replace h := h.1 c3
    refine lv_aload_n hx hb dX5_put_15 rfl (lv_at hl 1 rfl) ?_
    refine gt_5_6 C w kw_2_8 dX5_put_16 ?_
    refine lv_iload_n hx hb dX5_put_19 rfl (lv_at hl 2 rfl) ?_
    have hin4 := h.1
    replace h := h.2
    have hz_hin4 := in_lt hin4
    refine pw_ldS C w hin4 rfl dX5_put_20 ?_
    refine lv_iload_n hx hb dX5_put_21 rfl (lv_at hl 3 rfl) ?_
    refine end_i w (run_VN (As := [.int x2]) C w hl.1 (c_X3_hasPlace l G C.2.2.1 _ _ (14 + x1.toNatClampNeg) x2 (by omega) _ h) kw_7_8 kw_2_11 kn_84 kw_7_6 kw_7_7 hd_X3_hasPlace ⟨by decide, by decide⟩ (w.recv C (i := (14 + x1.toNatClampNeg)) (by omega) (pE_3 (by omega)) rfl) rfl (Nat.le_of_ble_eq_true rfl) dX5_put_22) (fun r5 M6 H locs h w => ?_)
    refine lv_if_ne (tgt := 31) hx hb dX5_put_25 (by decide) (fun c7 => ?_) (fun c7 => ?_)
    · replace h := h.2 c7
      refine lv_aload_n hx hb dX5_put_31 rfl (lv_at hl 1 rfl) ?_
      refine gt_5_6 C w kw_2_8 dX5_put_32 ?_
      refine lv_iload_n hx hb dX5_put_35 rfl (lv_at hl 2 rfl) ?_
      refine pw_ldS C w hin4 rfl dX5_put_36 ?_
      refine lv_iload_n hx hb dX5_put_37 rfl (lv_at hl 3 rfl) ?_
      refine lv_iload_n hx hb dX5_put_38 rfl (lv_at hl 4 rfl) ?_
      refine end_v w (run_VN (As := [.int x2, .int x3]) C w hl.1 (c_X3_putLowestBits l G C.2.2.1 _ _ (14 + x1.toNatClampNeg) x2 x3 (by omega) _ h) kw_37_20 kw_2_11 kn_85 kw_37_18 kw_37_19 hd_X3_putLowestBits ⟨by decide, by decide⟩ (w.recv C (i := (14 + x1.toNatClampNeg)) (by omega) (pE_3 (by omega)) rfl) rfl (Nat.le_of_ble_eq_true rfl) dX5_put_39) (fun M9 H locs h w => ?_)
      refine lv_iconst (v := 0) hx hb dX5_put_42 (by decide) ?_
      exact ret_i C w h dX5_put_43
    replace h := h.1 c7
    refine lv_bipush (v := -13) hx hb dX5_put_28 (by decide) ?_
    exact ret_i C w h dX5_put_30
  replace h := h.2 c3
  refine lv_iload hx hb dX5_put_12 (lv_at hl 0 rfl) ?_
  exact ret_i C w h dX5_put_14
def j_X6_put_77 (post : Int32 → Mem → Prop) (M : Mem) (y0 : Int32) (y1 : Int32) : Prop := vp_in y1 800 ∧ (∀ M2 : Mem, M2 = (mup M 65 y1.toNatClampNeg y0) → (post (0 : Int32) M2))
def q_X6_put (M : Mem) (x1 : Int32) (x2 : Int32) (x3 : Int32) (post : Int32 → Mem → Prop) : Prop := q_X6_wrongRow M x1 (-1 : Int32) (fun r3 M4 => (r3 = 0 → (vp_in x1 8 ∧ (q_X6_isIn M4 x2.toInt64 (0 : Int64) (((M4 64 x1.toNatClampNeg) - (1 : Int32)).toInt64) (fun r7 M8 => (r7 = 0 → (post (-13 : Int32) M8)) ∧ (¬ (r7 = 0) → (((M8 63 x1.toNatClampNeg) = 0 → (j_X6_put_77 post M8 x3.toInt8.toInt32 (((100 : Int32) * x1) + x2))) ∧ (¬ ((M8 63 x1.toNatClampNeg) = 0) → (((M8 63 x1.toNatClampNeg) = (1 : Int32) → (j_X6_put_77 post M8 x3.toInt16.toInt32 (((100 : Int32) * x1) + x2))) ∧ (¬ ((M8 63 x1.toNatClampNeg) = (1 : Int32)) → (j_X6_put_77 post M8 x3 (((100 : Int32) * x1) + x2))))))))))) ∧ (¬ (r3 = 0) → (post r3 M4)))
set_option maxHeartbeats 4000000 in
set_option maxRecDepth 100000 in
theorem t_X6_put_77 (C : Cx G p s m args meth c RX6 cX6_put 5 (some .int)) {post : Int32 → Mem → Prop} (M : Mem) (y0 : Int32) (y1 : Int32) {H : Heap} {locs : List Loc} {ls : Array Slot} (w : Wd G s M H locs) (hl : lv_has ls 5 []) (h : j_X6_put_77 post M y0 y1) : W p l e (rmk 4) s m args below meth c H locs 0 0 (MQ below (va_Qi post (Qw G) (Af G s.heap.size)) args s 0 0 (Af G s.heap.size)) (F0 m 77 ls [.int y0, .int y1, .ref (ga G 65)]) := by
  have hx := C.1.1
  have hb := C.1.2.1
  unfold j_X6_put_77 at h
  have hin1 := h.1
  replace h := h.2
  have hz_hin1 := in_lt hin1
  refine pw_st C w (i := 65) (by decide) (fun _ => pE_65) hin1 rfl dX6_put_77 (fun H locs w => ?_)
  obtain ⟨M2, eM2⟩ : ∃ z : Mem, z = (mup M 65 y1.toNatClampNeg y0) := ⟨_, rfl⟩
  replace w : Wd G s M2 H locs := by rw [eM2]; exact w
  replace h := h M2 eM2
  refine lv_iconst (v := 0) hx hb dX6_put_78 (by decide) ?_
  exact ret_i C w h dX6_put_79
set_option maxHeartbeats 4000000 in
set_option maxRecDepth 100000 in
theorem c_X6_put (l : Launch) (G : GG) (hG : Ag G) (sz : Nat) (M : Mem) (x1 : Int32) (x2 : Int32) (x3 : Int32) (post : Int32 → Mem → Prop) (h : q_X6_put M x1 x2 x3 post) : Met l yX6_put (Cond.code yX6_put cX6_put 5 (some .int) :: wsL_law) (rmk 4) (va_Pc [.ref (ga G 57), .int x1, .int x2, .int x3] (Pw G sz M)) (va_Qi post (Qw G) (Af G sz)) 0 0 (Af G sz) := by
  refine Met.ofW (cc := cX6_put) (maxL := 5) (ret := (some .int)) (by decide) rfl ?_
  intro p e s m args below meth c s₁ B hml hv
  obtain ⟨rfl, hsz, hE, hP⟩ := hv
  subst hsz
  have C := Cx.of (own := RX6) hG hE rfl hml B
  have w : Wd G s M s.heap [] := ⟨hP, va_S.rf⟩
  have hl := lv_entry [.ref (ga G 57), .int x1, .int x2, .int x3] (n := 5) (Nat.le_of_ble_eq_true rfl)
  rw [lg_entry_eq]
  generalize (lg_sl [.ref (ga G 57), .int x1, .int x2, .int x3] ++ List.replicate (5 - (lg_sl [.ref (ga G 57), .int x1, .int x2, .int x3]).length) Slot.unset).toArray = ls at hl ⊢
  have hl : lv_has ls 5 [(0, .ref (ga G 57)), (1, .int x1), (2, .int x2), (3, .int x3)] := hl
  have hx := C.1.1
  have hb := C.1.2.1
  show W p l e (rmk 4) s m _ below meth c s.heap [] 0 0 _ _
  unfold q_X6_put at h
  refine lv_aload_n hx hb dX6_put_0 rfl (lv_at hl 0 rfl) ?_
  refine lv_iload_n hx hb dX6_put_1 rfl (lv_at hl 1 rfl) ?_
  refine lv_iconst (v := -1) hx hb dX6_put_2 (by decide) ?_
  refine end_i w (run_V (As := [.int x1, .int (-1 : Int32)]) C w hl.1 (c_X6_wrongRow l G C.2.2.1 _ _ x1 (-1 : Int32)  _ h) kw_11_22 kw_1_5 kw_11_19 kw_11_20 kw_11_21 hd_X6_wrongRow ⟨by decide, by decide⟩ (w.recv C (i := 57) (by decide) (pE_6) rfl) rfl (Nat.le_of_ble_eq_true rfl) dX6_put_3) (fun r3 M4 H locs h w => ?_)
  refine lv_istore (lv' := [(4, .int r3), (0, .ref (ga G 57)), (1, .int x1), (2, .int x2), (3, .int x3)]) hx hb dX6_put_6 hl (by decide) rfl (fun ls hl => ?_)
  refine lv_iload hx hb dX6_put_8 (lv_at hl 0 rfl) ?_
  refine lv_if_eq (tgt := 16) hx hb dX6_put_10 (by decide) (fun c5 => ?_) (fun c5 => ?_)
  · replace h := h.1 c5
    refine lv_iload_n hx hb dX6_put_16 rfl (lv_at hl 3 rfl) ?_
    refine lv_i2l hx hb dX6_put_17 rfl ?_
    refine lv_lconst (v := 0) hx hb dX6_put_18 (by decide) ?_
    refine lv_aload_n hx hb dX6_put_19 rfl (lv_at hl 1 rfl) ?_
    refine gt_6_6 C w kw_5_6 dX6_put_20 ?_
    refine lv_iload_n hx hb dX6_put_23 rfl (lv_at hl 2 rfl) ?_
    have hin6 := h.1
    replace h := h.2
    have hz_hin6 := in_lt hin6
    refine pw_ld C w (i := 64) (by decide) pE_64 hin6 rfl dX6_put_24 ?_
    refine lv_iconst (v := 1) hx hb dX6_put_25 (by decide) ?_
    refine lv_isub hx hb dX6_put_26 ?_
    refine lv_i2l hx hb dX6_put_27 rfl ?_
    refine end_i w (run_S (As := [.long x2.toInt64, .long (0 : Int64), .long ((M4 64 x1.toNatClampNeg) - (1 : Int32)).toInt64]) C w hl.1 (c_X6_isIn l G C.2.2.1 _ _ x2.toInt64 (0 : Int64) (((M4 64 x1.toNatClampNeg) - (1 : Int32)).toInt64)  _ h) kw_12_5 kw_1_5 kw_12_3 kw_12_4 hd_X6_isIn ⟨by decide, by decide⟩ rfl (Nat.le_of_ble_eq_true rfl) dX6_put_28) (fun r7 M8 H locs h w => ?_)
    refine lv_if_ne (tgt := 37) hx hb dX6_put_31 (by decide) (fun c9 => ?_) (fun c9 => ?_)
    · replace h := h.2 c9
      refine lv_aload_n hx hb dX6_put_37 rfl (lv_at hl 1 rfl) ?_
      refine gt_6_7 C w kw_5_7 dX6_put_38 ?_
      refine lv_bipush (v := 100) hx hb dX6_put_41 (by decide) ?_
      refine lv_iload_n hx hb dX6_put_43 rfl (lv_at hl 2 rfl) ?_
      refine lv_imul hx hb dX6_put_44 ?_
      refine lv_iload_n hx hb dX6_put_45 rfl (lv_at hl 3 rfl) ?_
      refine lv_iadd hx hb dX6_put_46 ?_
      refine lv_aload_n hx hb dX6_put_47 rfl (lv_at hl 1 rfl) ?_
      refine gt_6_5 C w kw_5_5 dX6_put_48 ?_
      refine lv_iload_n hx hb dX6_put_51 rfl (lv_at hl 2 rfl) ?_
      refine pw_ld C w (i := 63) (by decide) pE_63 hin6 rfl dX6_put_52 ?_
      refine lv_if_ne (tgt := 61) hx hb dX6_put_53 (by decide) (fun c10 => ?_) (fun c10 => ?_)
      · replace h := h.2 c10
        refine lv_aload_n hx hb dX6_put_61 rfl (lv_at hl 1 rfl) ?_
        refine gt_6_5 C w kw_5_5 dX6_put_62 ?_
        refine lv_iload_n hx hb dX6_put_65 rfl (lv_at hl 2 rfl) ?_
        refine pw_ld C w (i := 63) (by decide) pE_63 hin6 rfl dX6_put_66 ?_
        refine lv_iconst (v := 1) hx hb dX6_put_67 (by decide) ?_
        refine lv_icmp_ne (tgt := 76) hx hb dX6_put_68 (by decide) (fun c11 => ?_) (fun c11 => ?_)
        · replace h := h.2 c11
          refine lv_iload_n hx hb dX6_put_76 rfl (lv_at hl 4 rfl) ?_
          exact t_X6_put_77 C M8 x3 (((100 : Int32) * x1) + x2)  w (lv_sub hl [] rfl) h
        replace h := h.1 c11
        refine lv_iload_n hx hb dX6_put_71 rfl (lv_at hl 4 rfl) ?_
        refine lv_i2s hx hb dX6_put_72 rfl ?_
        refine lv_goto (tgt := 77) hx hb dX6_put_73 (by decide) ?_
        exact t_X6_put_77 C M8 x3.toInt16.toInt32 (((100 : Int32) * x1) + x2)  w (lv_sub hl [] rfl) h
      replace h := h.1 c10
      refine lv_iload_n hx hb dX6_put_56 rfl (lv_at hl 4 rfl) ?_
      refine lv_i2b hx hb dX6_put_57 rfl ?_
      refine lv_goto (tgt := 77) hx hb dX6_put_58 (by decide) ?_
      exact t_X6_put_77 C M8 x3.toInt8.toInt32 (((100 : Int32) * x1) + x2)  w (lv_sub hl [] rfl) h
    replace h := h.1 c9
    refine lv_bipush (v := -13) hx hb dX6_put_34 (by decide) ?_
    exact ret_i C w h dX6_put_36
  replace h := h.2 c5
  refine lv_iload hx hb dX6_put_13 (lv_at hl 0 rfl) ?_
  exact ret_i C w h dX6_put_15
def q_X6_thrown (M : Mem) (post : Int32 → Mem → Prop) : Prop := post (M 57 11) M
set_option maxHeartbeats 4000000 in
set_option maxRecDepth 100000 in
theorem c_X6_thrown (l : Launch) (G : GG) (hG : Ag G) (sz : Nat) (M : Mem) (post : Int32 → Mem → Prop) (h : q_X6_thrown M post) : Met l yX6_thrown (Cond.code yX6_thrown cX6_thrown 1 (some .int) :: wsL_law) (rmk 1) (va_Pc [.ref (ga G 57)] (Pw G sz M)) (va_Qi post (Qw G) (Af G sz)) 0 0 (Af G sz) := by
  refine Met.ofW (cc := cX6_thrown) (maxL := 1) (ret := (some .int)) (by decide) rfl ?_
  intro p e s m args below meth c s₁ B hml hv
  obtain ⟨rfl, hsz, hE, hP⟩ := hv
  subst hsz
  have C := Cx.of (own := RX6) hG hE rfl hml B
  have w : Wd G s M s.heap [] := ⟨hP, va_S.rf⟩
  have hl := lv_entry [.ref (ga G 57)] (n := 1) (Nat.le_of_ble_eq_true rfl)
  rw [lg_entry_eq]
  generalize (lg_sl [.ref (ga G 57)] ++ List.replicate (1 - (lg_sl [.ref (ga G 57)]).length) Slot.unset).toArray = ls at hl ⊢
  have hl : lv_has ls 1 [(0, .ref (ga G 57))] := hl
  have hx := C.1.1
  have hb := C.1.2.1
  show W p l e (rmk 1) s m _ below meth c s.heap [] 0 0 _ _
  unfold q_X6_thrown at h
  refine lv_aload_n hx hb dX6_thrown_0 rfl (lv_at hl 0 rfl) ?_
  refine gt_6_11 C w kw_38_19 dX6_thrown_1 ?_
  exact ret_i C w h dX6_thrown_4
def j_X3_hasPlaces_39 (post : Int32 → Mem → Prop) (M : Mem) (y0 : Int32) : Prop := (y0 = 0 ∨ y0 = 1) ∧ post y0 M
def j_X3_hasPlaces_38 (post : Int32 → Mem → Prop) (M : Mem) : Prop := j_X3_hasPlaces_39 post M (0 : Int32)
def q_X3_hasPlaces (M : Mem) (a0 : Nat) (x1 : Int32) (x2 : Int32) (post : Int32 → Mem → Prop) : Prop := ((M a0 0) = (2 : Int32) → (q_X5_isWithin M x1 (0 : Int32) (M a0 3) (fun r2 M3 => (r2 = 0 → (j_X3_hasPlaces_38 post M3)) ∧ (¬ (r2 = 0) → (q_X5_isWithin M3 x2 (0 : Int32) ((M3 a0 3) - x1) (fun r5 M6 => (r5 = 0 → (j_X3_hasPlaces_38 post M6)) ∧ (¬ (r5 = 0) → (j_X3_hasPlaces_39 post M6 (1 : Int32))))))))) ∧ (¬ ((M a0 0) = (2 : Int32)) → (j_X3_hasPlaces_38 post M))
set_option maxHeartbeats 4000000 in
set_option maxRecDepth 100000 in
theorem t_X3_hasPlaces_39 (C : Cx G p s m args meth c RX3 cX3_hasPlaces 3 (some .boolean)) {post : Int32 → Mem → Prop} (M : Mem) (y0 : Int32) {H : Heap} {locs : List Loc} {ls : Array Slot} (w : Wd G s M H locs) (hl : lv_has ls 3 []) (h : j_X3_hasPlaces_39 post M y0) : W p l e (rmk 2) s m args below meth c H locs 0 0 (MQ below (va_Qi post (Qw G) (Af G s.heap.size)) args s 0 0 (Af G s.heap.size)) (F0 m 39 ls [.int y0]) := by
  have hx := C.1.1
  have hb := C.1.2.1
  unfold j_X3_hasPlaces_39 at h
  exact ret_z C w h dX3_hasPlaces_39
set_option maxHeartbeats 4000000 in
set_option maxRecDepth 100000 in
theorem t_X3_hasPlaces_38 (C : Cx G p s m args meth c RX3 cX3_hasPlaces 3 (some .boolean)) {post : Int32 → Mem → Prop} (M : Mem) {H : Heap} {locs : List Loc} {ls : Array Slot} (w : Wd G s M H locs) (hl : lv_has ls 3 []) (h : j_X3_hasPlaces_38 post M) : W p l e (rmk 2) s m args below meth c H locs 0 0 (MQ below (va_Qi post (Qw G) (Af G s.heap.size)) args s 0 0 (Af G s.heap.size)) (F0 m 38 ls []) := by
  have hx := C.1.1
  have hb := C.1.2.1
  unfold j_X3_hasPlaces_38 at h
  refine lv_iconst (v := 0) hx hb dX3_hasPlaces_38 (by decide) ?_
  exact t_X3_hasPlaces_39 C M (0 : Int32)  w (lv_sub hl [] rfl) h
set_option maxHeartbeats 4000000 in
set_option maxRecDepth 100000 in
theorem c_X3_hasPlaces (l : Launch) (G : GG) (hG : Ag G) (sz : Nat) (M : Mem) (a0 : Nat) (x1 : Int32) (x2 : Int32) (ha0 : 14 ≤ a0 ∧ a0 < 22) (post : Int32 → Mem → Prop) (h : q_X3_hasPlaces M a0 x1 x2 post) : Met l yX3_hasPlaces (Cond.code yX3_hasPlaces cX3_hasPlaces 3 (some .boolean) :: wsL_law) (rmk 2) (va_Pc [.ref (ga G a0), .int x1, .int x2] (Pw G sz M)) (va_Qi post (Qw G) (Af G sz)) 0 0 (Af G sz) := by
  refine Met.ofW (cc := cX3_hasPlaces) (maxL := 3) (ret := (some .boolean)) (by decide) rfl ?_
  intro p e s m args below meth c s₁ B hml hv
  obtain ⟨rfl, hsz, hE, hP⟩ := hv
  subst hsz
  have C := Cx.of (own := RX3) hG hE rfl hml B
  have w : Wd G s M s.heap [] := ⟨hP, va_S.rf⟩
  have hl := lv_entry [.ref (ga G a0), .int x1, .int x2] (n := 3) (Nat.le_of_ble_eq_true rfl)
  rw [lg_entry_eq]
  generalize (lg_sl [.ref (ga G a0), .int x1, .int x2] ++ List.replicate (3 - (lg_sl [.ref (ga G a0), .int x1, .int x2]).length) Slot.unset).toArray = ls at hl ⊢
  have hl : lv_has ls 3 [(0, .ref (ga G a0)), (1, .int x1), (2, .int x2)] := hl
  have hx := C.1.1
  have hb := C.1.2.1
  show W p l e (rmk 2) s m _ below meth c s.heap [] 0 0 _ _
  unfold q_X3_hasPlaces at h
  refine lv_aload_n hx hb dX3_hasPlaces_0 rfl (lv_at hl 0 rfl) ?_
  refine gt_3_0 C w ha0 kw_4_14 dX3_hasPlaces_1 ?_
  refine lv_iconst (v := 2) hx hb dX3_hasPlaces_4 (by decide) ?_
  refine lv_icmp_ne (tgt := 38) hx hb dX3_hasPlaces_5 (by decide) (fun c1 => ?_) (fun c1 => ?_)
  · replace h := h.2 c1
    exact t_X3_hasPlaces_38 C M   w (lv_sub hl [] rfl) h
  replace h := h.1 c1
  refine lv_iload_n hx hb dX3_hasPlaces_8 rfl (lv_at hl 1 rfl) ?_
  refine lv_iconst (v := 0) hx hb dX3_hasPlaces_9 (by decide) ?_
  refine lv_aload_n hx hb dX3_hasPlaces_10 rfl (lv_at hl 0 rfl) ?_
  refine gt_3_3 C w ha0 kw_4_18 dX3_hasPlaces_11 ?_
  refine end_i w (run_SN (As := [.int x1, .int (0 : Int32), .int (M a0 3)]) C w hl.1 (c_X5_isWithin l G C.2.2.1 _ _ x1 (0 : Int32) (M a0 3)  _ h) kw_6_8 kw_1_2 kn_75 kw_6_7 hd_X5_isWithin ⟨by decide, by decide⟩ rfl (Nat.le_of_ble_eq_true rfl) dX3_hasPlaces_14) (fun r2 M3 H locs h w => ?_)
  refine lv_if_eq (tgt := 38) hx hb dX3_hasPlaces_17 (by decide) (fun c4 => ?_) (fun c4 => ?_)
  · replace h := h.1 c4
    exact t_X3_hasPlaces_38 C M3   w (lv_sub hl [] rfl) h
  replace h := h.2 c4
  refine lv_iload_n hx hb dX3_hasPlaces_20 rfl (lv_at hl 2 rfl) ?_
  refine lv_iconst (v := 0) hx hb dX3_hasPlaces_21 (by decide) ?_
  refine lv_aload_n hx hb dX3_hasPlaces_22 rfl (lv_at hl 0 rfl) ?_
  refine gt_3_3 C w ha0 kw_4_18 dX3_hasPlaces_23 ?_
  refine lv_iload_n hx hb dX3_hasPlaces_26 rfl (lv_at hl 1 rfl) ?_
  refine lv_isub hx hb dX3_hasPlaces_27 ?_
  refine end_i w (run_SN (As := [.int x2, .int (0 : Int32), .int ((M3 a0 3) - x1)]) C w hl.1 (c_X5_isWithin l G C.2.2.1 _ _ x2 (0 : Int32) ((M3 a0 3) - x1)  _ h) kw_6_8 kw_1_2 kn_75 kw_6_7 hd_X5_isWithin ⟨by decide, by decide⟩ rfl (Nat.le_of_ble_eq_true rfl) dX3_hasPlaces_28) (fun r5 M6 H locs h w => ?_)
  refine lv_if_eq (tgt := 38) hx hb dX3_hasPlaces_31 (by decide) (fun c7 => ?_) (fun c7 => ?_)
  · replace h := h.1 c7
    exact t_X3_hasPlaces_38 C M6   w (lv_sub hl [] rfl) h
  replace h := h.2 c7
  refine lv_iconst (v := 1) hx hb dX3_hasPlaces_34 (by decide) ?_
  refine lv_goto (tgt := 39) hx hb dX3_hasPlaces_35 (by decide) ?_
  exact t_X3_hasPlaces_39 C M6 (1 : Int32)  w (lv_sub hl [] rfl) h
def j_X5_copy_108 (post : Int32 → Mem → Prop) (M : Mem) : Prop := post (-13 : Int32) M
def j_X5_copy_82 (post : Int32 → Mem → Prop) (M : Mem) : Prop := post (-12 : Int32) M
def j_X5_copy_48 (post : Int32 → Mem → Prop) (M : Mem) : Prop := post (-11 : Int32) M
def j_X5_copy_14 (post : Int32 → Mem → Prop) (M : Mem) : Prop := post (-1 : Int32) M
def q_X5_copy (M : Mem) (x1 : Int32) (x2 : Int32) (x3 : Int32) (x4 : Int32) (x5 : Int32) (post : Int32 → Mem → Prop) : Prop := q_X5_isShelf M x1 (fun r1 M2 => (r1 = 0 → (j_X5_copy_14 post M2)) ∧ (¬ (r1 = 0) → (q_X5_isShelf M2 x3 (fun r4 M5 => (r4 = 0 → (j_X5_copy_14 post M5)) ∧ (¬ (r4 = 0) → (vp_in x1 8 ∧ (vp_in x3 8 ∧ (((M5 (14 + x1.toNatClampNeg) 0) = 0 → (j_X5_copy_48 post M5)) ∧ (¬ ((M5 (14 + x1.toNatClampNeg) 0) = 0) → (((M5 (14 + x3.toNatClampNeg) 0) = 0 → (j_X5_copy_48 post M5)) ∧ (¬ ((M5 (14 + x3.toNatClampNeg) 0) = 0) → (((M5 (14 + x1.toNatClampNeg) 0) = (2 : Int32) → (((M5 (14 + x3.toNatClampNeg) 0) = (2 : Int32) → (((M5 (14 + x1.toNatClampNeg) 2) = (M5 (14 + x3.toNatClampNeg) 2) → (q_X3_hasPlaces M5 (14 + x1.toNatClampNeg) x2 x5 (fun r14 M15 => (r14 = 0 → (j_X5_copy_108 post M15)) ∧ (¬ (r14 = 0) → (q_X3_hasPlaces M15 (14 + x3.toNatClampNeg) x4 x5 (fun r17 M18 => (r17 = 0 → (j_X5_copy_108 post M18)) ∧ (¬ (r17 = 0) → ((¬ x2 < 0 ∧ ¬ x4 < 0 ∧ ¬ x5 < 0 ∧ x2.toNatClampNeg + x5.toNatClampNeg ≤ 100 ∧ x4.toNatClampNeg + x5.toNatClampNeg ≤ 100) ∧ (∀ M20 : Mem, M20 = (va_up M18 (8 + (14 + x3.toNatClampNeg)) (va_cpy (M18 (8 + (14 + x1.toNatClampNeg))) (M18 (8 + (14 + x3.toNatClampNeg))) x2.toNatClampNeg x4.toNatClampNeg x5.toNatClampNeg)) → (post x5 M20)))))))))) ∧ (¬ ((M5 (14 + x1.toNatClampNeg) 2) = (M5 (14 + x3.toNatClampNeg) 2)) → (j_X5_copy_82 post M5)))) ∧ (¬ ((M5 (14 + x3.toNatClampNeg) 0) = (2 : Int32)) → (j_X5_copy_82 post M5)))) ∧ (¬ ((M5 (14 + x1.toNatClampNeg) 0) = (2 : Int32)) → (j_X5_copy_82 post M5))))))))))))))
set_option maxHeartbeats 4000000 in
set_option maxRecDepth 100000 in
theorem t_X5_copy_108 (C : Cx G p s m args meth c RX5 cX5_copy 8 (some .int)) {post : Int32 → Mem → Prop} (M : Mem) {H : Heap} {locs : List Loc} {ls : Array Slot} (w : Wd G s M H locs) (hl : lv_has ls 8 []) (h : j_X5_copy_108 post M) : W p l e (rmk 3) s m args below meth c H locs 0 0 (MQ below (va_Qi post (Qw G) (Af G s.heap.size)) args s 0 0 (Af G s.heap.size)) (F0 m 108 ls []) := by
  have hx := C.1.1
  have hb := C.1.2.1
  unfold j_X5_copy_108 at h
  refine lv_bipush (v := -13) hx hb dX5_copy_108 (by decide) ?_
  exact ret_i C w h dX5_copy_110
set_option maxHeartbeats 4000000 in
set_option maxRecDepth 100000 in
theorem t_X5_copy_82 (C : Cx G p s m args meth c RX5 cX5_copy 8 (some .int)) {post : Int32 → Mem → Prop} (M : Mem) {H : Heap} {locs : List Loc} {ls : Array Slot} (w : Wd G s M H locs) (hl : lv_has ls 8 []) (h : j_X5_copy_82 post M) : W p l e (rmk 3) s m args below meth c H locs 0 0 (MQ below (va_Qi post (Qw G) (Af G s.heap.size)) args s 0 0 (Af G s.heap.size)) (F0 m 82 ls []) := by
  have hx := C.1.1
  have hb := C.1.2.1
  unfold j_X5_copy_82 at h
  refine lv_bipush (v := -12) hx hb dX5_copy_82 (by decide) ?_
  exact ret_i C w h dX5_copy_84
set_option maxHeartbeats 4000000 in
set_option maxRecDepth 100000 in
theorem t_X5_copy_48 (C : Cx G p s m args meth c RX5 cX5_copy 8 (some .int)) {post : Int32 → Mem → Prop} (M : Mem) {H : Heap} {locs : List Loc} {ls : Array Slot} (w : Wd G s M H locs) (hl : lv_has ls 8 []) (h : j_X5_copy_48 post M) : W p l e (rmk 3) s m args below meth c H locs 0 0 (MQ below (va_Qi post (Qw G) (Af G s.heap.size)) args s 0 0 (Af G s.heap.size)) (F0 m 48 ls []) := by
  have hx := C.1.1
  have hb := C.1.2.1
  unfold j_X5_copy_48 at h
  refine lv_bipush (v := -11) hx hb dX5_copy_48 (by decide) ?_
  exact ret_i C w h dX5_copy_50
set_option maxHeartbeats 4000000 in
set_option maxRecDepth 100000 in
theorem t_X5_copy_14 (C : Cx G p s m args meth c RX5 cX5_copy 8 (some .int)) {post : Int32 → Mem → Prop} (M : Mem) {H : Heap} {locs : List Loc} {ls : Array Slot} (w : Wd G s M H locs) (hl : lv_has ls 8 []) (h : j_X5_copy_14 post M) : W p l e (rmk 3) s m args below meth c H locs 0 0 (MQ below (va_Qi post (Qw G) (Af G s.heap.size)) args s 0 0 (Af G s.heap.size)) (F0 m 14 ls []) := by
  have hx := C.1.1
  have hb := C.1.2.1
  unfold j_X5_copy_14 at h
  refine lv_iconst (v := -1) hx hb dX5_copy_14 (by decide) ?_
  exact ret_i C w h dX5_copy_15
set_option maxHeartbeats 4000000 in
set_option maxRecDepth 100000 in
theorem c_X5_copy (l : Launch) (G : GG) (hG : Ag G) (sz : Nat) (M : Mem) (x1 : Int32) (x2 : Int32) (x3 : Int32) (x4 : Int32) (x5 : Int32) (post : Int32 → Mem → Prop) (h : q_X5_copy M x1 x2 x3 x4 x5 post) : Met l yX5_copy (Cond.code yX5_copy cX5_copy 8 (some .int) :: wsL_law) (rmk 3) (va_Pc [.ref (ga G 0), .int x1, .int x2, .int x3, .int x4, .int x5] (Pw G sz M)) (va_Qi post (Qw G) (Af G sz)) 0 0 (Af G sz) := by
  refine Met.ofW (cc := cX5_copy) (maxL := 8) (ret := (some .int)) (by decide) rfl ?_
  intro p e s m args below meth c s₁ B hml hv
  obtain ⟨rfl, hsz, hE, hP⟩ := hv
  subst hsz
  have C := Cx.of (own := RX5) hG hE rfl hml B
  have w : Wd G s M s.heap [] := ⟨hP, va_S.rf⟩
  have hl := lv_entry [.ref (ga G 0), .int x1, .int x2, .int x3, .int x4, .int x5] (n := 8) (Nat.le_of_ble_eq_true rfl)
  rw [lg_entry_eq]
  generalize (lg_sl [.ref (ga G 0), .int x1, .int x2, .int x3, .int x4, .int x5] ++ List.replicate (8 - (lg_sl [.ref (ga G 0), .int x1, .int x2, .int x3, .int x4, .int x5]).length) Slot.unset).toArray = ls at hl ⊢
  have hl : lv_has ls 8 [(0, .ref (ga G 0)), (1, .int x1), (2, .int x2), (3, .int x3), (4, .int x4), (5, .int x5)] := hl
  have hx := C.1.1
  have hb := C.1.2.1
  show W p l e (rmk 3) s m _ below meth c s.heap [] 0 0 _ _
  unfold q_X5_copy at h
  refine lv_iload_n hx hb dX5_copy_0 rfl (lv_at hl 1 rfl) ?_
  refine end_i w (run_S (As := [.int x1]) C w hl.1 (c_X5_isShelf l G C.2.2.1 _ _ x1  _ h) kw_6_5 kw_1_2 kw_6_3 kw_6_4 hd_X5_isShelf ⟨by decide, by decide⟩ rfl (Nat.le_of_ble_eq_true rfl) dX5_copy_1) (fun r1 M2 H locs h w => ?_)
  refine lv_if_eq (tgt := 14) hx hb dX5_copy_4 (by decide) (fun c3 => ?_) (fun c3 => ?_)
  · replace h := h.1 c3
    exact t_X5_copy_14 C M2   w (lv_sub hl [] rfl) h
  replace h := h.2 c3
  refine lv_iload_n hx hb dX5_copy_7 rfl (lv_at hl 3 rfl) ?_
  refine end_i w (run_S (As := [.int x3]) C w hl.1 (c_X5_isShelf l G C.2.2.1 _ _ x3  _ h) kw_6_5 kw_1_2 kw_6_3 kw_6_4 hd_X5_isShelf ⟨by decide, by decide⟩ rfl (Nat.le_of_ble_eq_true rfl) dX5_copy_8) (fun r4 M5 H locs h w => ?_)
  refine lv_if_ne (tgt := 16) hx hb dX5_copy_11 (by decide) (fun c6 => ?_) (fun c6 => ?_)
  · replace h := h.2 c6
    refine lv_aload_n hx hb dX5_copy_16 rfl (lv_at hl 0 rfl) ?_
    refine gt_5_6 C w kw_2_8 dX5_copy_17 ?_
    refine lv_iload_n hx hb dX5_copy_20 rfl (lv_at hl 1 rfl) ?_
    have hin7 := h.1
    replace h := h.2
    have hz_hin7 := in_lt hin7
    refine pw_ldS C w hin7 rfl dX5_copy_21 ?_
    refine lv_astore (lv' := [(6, .ref (ga G (14 + x1.toNatClampNeg))), (0, .ref (ga G 0)), (1, .int x1), (2, .int x2), (3, .int x3), (4, .int x4), (5, .int x5)]) hx hb dX5_copy_22 hl (by decide) rfl (fun ls hl => ?_)
    refine lv_aload_n hx hb dX5_copy_24 rfl (lv_at hl 1 rfl) ?_
    refine gt_5_6 C w kw_2_8 dX5_copy_25 ?_
    refine lv_iload_n hx hb dX5_copy_28 rfl (lv_at hl 4 rfl) ?_
    have hin8 := h.1
    replace h := h.2
    have hz_hin8 := in_lt hin8
    refine pw_ldS C w hin8 rfl dX5_copy_29 ?_
    refine lv_astore (lv' := [(7, .ref (ga G (14 + x3.toNatClampNeg))), (6, .ref (ga G (14 + x1.toNatClampNeg))), (0, .ref (ga G 0)), (1, .int x1), (2, .int x2), (3, .int x3), (4, .int x4), (5, .int x5)]) hx hb dX5_copy_30 hl (by decide) rfl (fun ls hl => ?_)
    refine lv_aload hx hb dX5_copy_32 (lv_at hl 1 rfl) ?_
    refine gn_3_0 C w (by omega) kn_29 dX5_copy_34 ?_
    refine lv_if_eq (tgt := 48) hx hb dX5_copy_37 (by decide) (fun c9 => ?_) (fun c9 => ?_)
    · replace h := h.1 c9
      exact t_X5_copy_48 C M5   w (lv_sub hl [] rfl) h
    replace h := h.2 c9
    refine lv_aload hx hb dX5_copy_40 (lv_at hl 0 rfl) ?_
    refine gn_3_0 C w (by omega) kn_29 dX5_copy_42 ?_
    refine lv_if_ne (tgt := 51) hx hb dX5_copy_45 (by decide) (fun c10 => ?_) (fun c10 => ?_)
    · replace h := h.2 c10
      refine lv_aload hx hb dX5_copy_51 (lv_at hl 1 rfl) ?_
      refine gn_3_0 C w (by omega) kn_29 dX5_copy_53 ?_
      refine lv_iconst (v := 2) hx hb dX5_copy_56 (by decide) ?_
      refine lv_icmp_ne (tgt := 82) hx hb dX5_copy_57 (by decide) (fun c11 => ?_) (fun c11 => ?_)
      · replace h := h.2 c11
        exact t_X5_copy_82 C M5   w (lv_sub hl [] rfl) h
      replace h := h.1 c11
      refine lv_aload hx hb dX5_copy_60 (lv_at hl 0 rfl) ?_
      refine gn_3_0 C w (by omega) kn_29 dX5_copy_62 ?_
      refine lv_iconst (v := 2) hx hb dX5_copy_65 (by decide) ?_
      refine lv_icmp_ne (tgt := 82) hx hb dX5_copy_66 (by decide) (fun c12 => ?_) (fun c12 => ?_)
      · replace h := h.2 c12
        exact t_X5_copy_82 C M5   w (lv_sub hl [] rfl) h
      replace h := h.1 c12
      refine lv_aload hx hb dX5_copy_69 (lv_at hl 1 rfl) ?_
      refine gn_3_2 C w (by omega) kn_31 dX5_copy_71 ?_
      refine lv_aload hx hb dX5_copy_74 (lv_at hl 0 rfl) ?_
      refine gn_3_2 C w (by omega) kn_31 dX5_copy_76 ?_
      refine lv_icmp_eq (tgt := 85) hx hb dX5_copy_79 (by decide) (fun c13 => ?_) (fun c13 => ?_)
      · replace h := h.1 c13
        refine lv_aload hx hb dX5_copy_85 (lv_at hl 1 rfl) ?_
        refine lv_iload_n hx hb dX5_copy_87 rfl (lv_at hl 4 rfl) ?_
        refine lv_iload hx hb dX5_copy_88 (lv_at hl 7 rfl) ?_
        refine end_i w (run_VN (As := [.int x2, .int x5]) C w hl.1 (c_X3_hasPlaces l G C.2.2.1 _ _ (14 + x1.toNatClampNeg) x2 x5 (by omega) _ h) kw_39_7 kw_2_11 kn_86 kw_39_5 kw_39_6 hd_X3_hasPlaces ⟨by decide, by decide⟩ (w.recv C (i := (14 + x1.toNatClampNeg)) (by omega) (pE_3 (by omega)) rfl) rfl (Nat.le_of_ble_eq_true rfl) dX5_copy_90) (fun r14 M15 H locs h w => ?_)
        refine lv_if_eq (tgt := 108) hx hb dX5_copy_93 (by decide) (fun c16 => ?_) (fun c16 => ?_)
        · replace h := h.1 c16
          exact t_X5_copy_108 C M15   w (lv_sub hl [] rfl) h
        replace h := h.2 c16
        refine lv_aload hx hb dX5_copy_96 (lv_at hl 0 rfl) ?_
        refine lv_iload hx hb dX5_copy_98 (lv_at hl 6 rfl) ?_
        refine lv_iload hx hb dX5_copy_100 (lv_at hl 7 rfl) ?_
        refine end_i w (run_VN (As := [.int x4, .int x5]) C w hl.1 (c_X3_hasPlaces l G C.2.2.1 _ _ (14 + x3.toNatClampNeg) x4 x5 (by omega) _ h) kw_39_7 kw_2_11 kn_86 kw_39_5 kw_39_6 hd_X3_hasPlaces ⟨by decide, by decide⟩ (w.recv C (i := (14 + x3.toNatClampNeg)) (by omega) (pE_3 (by omega)) rfl) rfl (Nat.le_of_ble_eq_true rfl) dX5_copy_102) (fun r17 M18 H locs h w => ?_)
        refine lv_if_ne (tgt := 111) hx hb dX5_copy_105 (by decide) (fun c19 => ?_) (fun c19 => ?_)
        · replace h := h.2 c19
          refine lv_aload hx hb dX5_copy_111 (lv_at hl 1 rfl) ?_
          refine gn_3_4 C w (by omega) kn_34 dX5_copy_113 ?_
          refine lv_iload_n hx hb dX5_copy_116 rfl (lv_at hl 4 rfl) ?_
          refine lv_aload hx hb dX5_copy_117 (lv_at hl 0 rfl) ?_
          refine gn_3_4 C w (by omega) kn_34 dX5_copy_119 ?_
          refine lv_iload hx hb dX5_copy_122 (lv_at hl 6 rfl) ?_
          refine lv_iload hx hb dX5_copy_124 (lv_at hl 7 rfl) ?_
          refine pw_cpy C w hl.1 (i := (8 + (14 + x1.toNatClampNeg))) (i1 := (8 + (14 + x3.toNatClampNeg))) (by omega) (pE_el (by omega)) (by omega) (fun _ => (pE_el (by omega))) kw_39_4 kw_6_13 kw_6_14 kw_6_15 h.1 (by decide) (by decide) dX5_copy_126 (fun H locs w => ?_)
          replace h := h.2
          obtain ⟨M20, eM20⟩ : ∃ z : Mem, z = (va_up M18 (8 + (14 + x3.toNatClampNeg)) (va_cpy (M18 (8 + (14 + x1.toNatClampNeg))) (M18 (8 + (14 + x3.toNatClampNeg))) x2.toNatClampNeg x4.toNatClampNeg x5.toNatClampNeg)) := ⟨_, rfl⟩
          replace w : Wd G s M20 H locs := by rw [eM20]; exact w
          replace h := h M20 eM20
          refine lv_iload hx hb dX5_copy_129 (lv_at hl 7 rfl) ?_
          exact ret_i C w h dX5_copy_131
        replace h := h.1 c19
        exact t_X5_copy_108 C M18   w (lv_sub hl [] rfl) h
      replace h := h.2 c13
      exact t_X5_copy_82 C M5   w (lv_sub hl [] rfl) h
    replace h := h.1 c10
    exact t_X5_copy_48 C M5   w (lv_sub hl [] rfl) h
  replace h := h.1 c6
  exact t_X5_copy_14 C M5   w (lv_sub hl [] rfl) h
def j_X6_copy_147 (k122 : Mem → Int32 → Int32 → Int32 → Int32 → Int32 → Int32 → Prop) (post : Int32 → Mem → Prop) (M : Mem) (y0 : Int32) (x1 : Int32) (x2 : Int32) (x3 : Int32) (x4 : Int32) (x5 : Int32) (x6 : Int32) : Prop := vp_in ((((100 : Int32) * x1) + x2) + y0) 800 ∧ (vp_in ((((100 : Int32) * x3) + x4) + y0) 800 ∧ (∀ M3 : Mem, M3 = (mup M 65 ((((100 : Int32) * x3) + x4) + y0).toNatClampNeg (M 65 ((((100 : Int32) * x1) + x2) + y0).toNatClampNeg)) → (k122 M3 x1 x2 x3 x4 x5 (x6 + (1 : Int32)))))
def b_X6_copy_122 (k122 : Mem → Int32 → Int32 → Int32 → Int32 → Int32 → Int32 → Prop) (post : Int32 → Mem → Prop) (M : Mem) (x1 : Int32) (x2 : Int32) (x3 : Int32) (x4 : Int32) (x5 : Int32) (x6 : Int32) : Prop := (x5 ≤ x6 → (post x5 M)) ∧ (¬ (x5 ≤ x6) → ((x2 ≤ x4 → (j_X6_copy_147 k122 post M ((x5 - (1 : Int32)) - x6) x1 x2 x3 x4 x5 x6)) ∧ (¬ (x2 ≤ x4) → (j_X6_copy_147 k122 post M x6 x1 x2 x3 x4 x5 x6))))
def lp_X6_copy_122 (post : Int32 → Mem → Prop) : Nat → Mem → Int32 → Int32 → Int32 → Int32 → Int32 → Int32 → Prop
  | 0 => fun _ _ _ _ _ _ _ => False
  | n + 1 => fun M x1 x2 x3 x4 x5 x6 => b_X6_copy_122 (lp_X6_copy_122 post n) post M x1 x2 x3 x4 x5 x6
def j_X6_copy_116 (post : Int32 → Mem → Prop) (M : Mem) : Prop := post (-13 : Int32) M
def j_X6_copy_72 (post : Int32 → Mem → Prop) (M : Mem) : Prop := post (-12 : Int32) M
def j_X6_copy_34 (post : Int32 → Mem → Prop) (M : Mem) : Prop := post (-11 : Int32) M
def j_X6_copy_14 (post : Int32 → Mem → Prop) (M : Mem) : Prop := post (-1 : Int32) M
def q_X6_copy (M : Mem) (x1 : Int32) (x2 : Int32) (x3 : Int32) (x4 : Int32) (x5 : Int32) (post : Int32 → Mem → Prop) : Prop := q_X6_isShelf M x1 (fun r6 M7 => (r6 = 0 → (j_X6_copy_14 post M7)) ∧ (¬ (r6 = 0) → (q_X6_isShelf M7 x3 (fun r9 M10 => (r9 = 0 → (j_X6_copy_14 post M10)) ∧ (¬ (r9 = 0) → (vp_in x1 8 ∧ (((M10 62 x1.toNatClampNeg) = 0 → (j_X6_copy_34 post M10)) ∧ (¬ ((M10 62 x1.toNatClampNeg) = 0) → (vp_in x3 8 ∧ (((M10 62 x3.toNatClampNeg) = 0 → (j_X6_copy_34 post M10)) ∧ (¬ ((M10 62 x3.toNatClampNeg) = 0) → (((M10 62 x1.toNatClampNeg) = (2 : Int32) → (((M10 62 x3.toNatClampNeg) = (2 : Int32) → (((M10 63 x1.toNatClampNeg) = (M10 63 x3.toNatClampNeg) → ((x5 < 0 → (j_X6_copy_116 post M10)) ∧ (¬ (x5 < 0) → ((x2 < 0 → (j_X6_copy_116 post M10)) ∧ (¬ (x2 < 0) → ((x4 < 0 → (j_X6_copy_116 post M10)) ∧ (¬ (x4 < 0) → ((((M10 64 x1.toNatClampNeg) - x2) < x5 → (j_X6_copy_116 post M10)) ∧ (¬ (((M10 64 x1.toNatClampNeg) - x2) < x5) → ((x5 ≤ ((M10 64 x3.toNatClampNeg) - x4) → (∃ n, lp_X6_copy_122 post n M10 x1 x2 x3 x4 x5 (0 : Int32))) ∧ (¬ (x5 ≤ ((M10 64 x3.toNatClampNeg) - x4)) → (j_X6_copy_116 post M10)))))))))))) ∧ (¬ ((M10 63 x1.toNatClampNeg) = (M10 63 x3.toNatClampNeg)) → (j_X6_copy_72 post M10)))) ∧ (¬ ((M10 62 x3.toNatClampNeg) = (2 : Int32)) → (j_X6_copy_72 post M10)))) ∧ (¬ ((M10 62 x1.toNatClampNeg) = (2 : Int32)) → (j_X6_copy_72 post M10))))))))))))))
set_option maxHeartbeats 4000000 in
set_option maxRecDepth 100000 in
theorem t_X6_copy_147 (C : Cx G p s m args meth c RX6 cX6_copy 8 (some .int)) {post : Int32 → Mem → Prop} {k122 : Mem → Int32 → Int32 → Int32 → Int32 → Int32 → Int32 → Prop} (hk122 : ∀ (M : Mem) (x1 : Int32) (x2 : Int32) (x3 : Int32) (x4 : Int32) (x5 : Int32) (x6 : Int32) (H : Heap) (locs : List Loc) (ls : Array Slot), Wd G s M H locs → lv_has ls 8 [(0, .ref (ga G 57)), (1, .int x1), (2, .int x2), (3, .int x3), (4, .int x4), (5, .int x5), (6, .int x6)] → k122 M x1 x2 x3 x4 x5 x6 → W p l e (rmk 3) s m args below meth c H locs 0 0 (MQ below (va_Qi post (Qw G) (Af G s.heap.size)) args s 0 0 (Af G s.heap.size)) (F0 m 122 ls [])) (M : Mem) (y0 : Int32) (x1 : Int32) (x2 : Int32) (x3 : Int32) (x4 : Int32) (x5 : Int32) (x6 : Int32) {H : Heap} {locs : List Loc} {ls : Array Slot} (w : Wd G s M H locs) (hl : lv_has ls 8 [(0, .ref (ga G 57)), (1, .int x1), (2, .int x2), (3, .int x3), (4, .int x4), (5, .int x5), (6, .int x6)]) (h : j_X6_copy_147 k122 post M y0 x1 x2 x3 x4 x5 x6) : W p l e (rmk 3) s m args below meth c H locs 0 0 (MQ below (va_Qi post (Qw G) (Af G s.heap.size)) args s 0 0 (Af G s.heap.size)) (F0 m 147 ls [.int y0]) := by
  have hx := C.1.1
  have hb := C.1.2.1
  unfold j_X6_copy_147 at h
  refine lv_istore (lv' := [(7, .int y0), (0, .ref (ga G 57)), (1, .int x1), (2, .int x2), (3, .int x3), (4, .int x4), (5, .int x5), (6, .int x6)]) hx hb dX6_copy_147 hl (by decide) rfl (fun ls hl => ?_)
  refine lv_aload_n hx hb dX6_copy_149 rfl (lv_at hl 1 rfl) ?_
  refine gt_6_7 C w kw_5_7 dX6_copy_150 ?_
  refine lv_bipush (v := 100) hx hb dX6_copy_153 (by decide) ?_
  refine lv_iload_n hx hb dX6_copy_155 rfl (lv_at hl 4 rfl) ?_
  refine lv_imul hx hb dX6_copy_156 ?_
  refine lv_iload hx hb dX6_copy_157 (lv_at hl 5 rfl) ?_
  refine lv_iadd hx hb dX6_copy_159 ?_
  refine lv_iload hx hb dX6_copy_160 (lv_at hl 0 rfl) ?_
  refine lv_iadd hx hb dX6_copy_162 ?_
  refine lv_aload_n hx hb dX6_copy_163 rfl (lv_at hl 1 rfl) ?_
  refine gt_6_7 C w kw_5_7 dX6_copy_164 ?_
  refine lv_bipush (v := 100) hx hb dX6_copy_167 (by decide) ?_
  refine lv_iload_n hx hb dX6_copy_169 rfl (lv_at hl 2 rfl) ?_
  refine lv_imul hx hb dX6_copy_170 ?_
  refine lv_iload_n hx hb dX6_copy_171 rfl (lv_at hl 3 rfl) ?_
  refine lv_iadd hx hb dX6_copy_172 ?_
  refine lv_iload hx hb dX6_copy_173 (lv_at hl 0 rfl) ?_
  refine lv_iadd hx hb dX6_copy_175 ?_
  have hin1 := h.1
  replace h := h.2
  have hz_hin1 := in_lt hin1
  refine pw_ld C w (i := 65) (by decide) pE_65 hin1 rfl dX6_copy_176 ?_
  have hin2 := h.1
  replace h := h.2
  have hz_hin2 := in_lt hin2
  refine pw_st C w (i := 65) (by decide) (fun _ => pE_65) hin2 rfl dX6_copy_177 (fun H locs w => ?_)
  obtain ⟨M3, eM3⟩ : ∃ z : Mem, z = (mup M 65 ((((100 : Int32) * x3) + x4) + y0).toNatClampNeg (M 65 ((((100 : Int32) * x1) + x2) + y0).toNatClampNeg)) := ⟨_, rfl⟩
  replace w : Wd G s M3 H locs := by rw [eM3]; exact w
  replace h := h M3 eM3
  refine lv_iinc (v := (x6 + (1 : Int32))) (lv' := [(6, .int (x6 + (1 : Int32))), (7, .int y0), (0, .ref (ga G 57)), (1, .int x1), (2, .int x2), (3, .int x3), (4, .int x4), (5, .int x5)]) hx hb dX6_copy_178 hl (k := 7) rfl rfl (by decide) rfl (fun ls hl => ?_)
  refine lv_goto (tgt := 122) hx hb dX6_copy_181 (by decide) ?_
  exact hk122 M3 x1 x2 x3 x4 x5 (x6 + (1 : Int32)) _ _ _  w (lv_sub hl [2, 3, 4, 5, 6, 7, 0] rfl) h
set_option maxHeartbeats 4000000 in
set_option maxRecDepth 100000 in
theorem t_X6_copy_122 (C : Cx G p s m args meth c RX6 cX6_copy 8 (some .int)) {post : Int32 → Mem → Prop} : ∀ (n : Nat) (M : Mem) (x1 : Int32) (x2 : Int32) (x3 : Int32) (x4 : Int32) (x5 : Int32) (x6 : Int32) {H : Heap} {locs : List Loc} {ls : Array Slot} (w : Wd G s M H locs) (hl : lv_has ls 8 [(0, .ref (ga G 57)), (1, .int x1), (2, .int x2), (3, .int x3), (4, .int x4), (5, .int x5), (6, .int x6)]) (h : lp_X6_copy_122 post n M x1 x2 x3 x4 x5 x6), W p l e (rmk 3) s m args below meth c H locs 0 0 (MQ below (va_Qi post (Qw G) (Af G s.heap.size)) args s 0 0 (Af G s.heap.size)) (F0 m 122 ls []) := by
  have hx := C.1.1
  have hb := C.1.2.1
  intro n9
  induction n9 with
  | zero => intro M x1 x2 x3 x4 x5 x6 H locs ls w hl h; exact absurd h id
  | succ n9 ih9 =>
    intro M x1 x2 x3 x4 x5 x6 H locs ls w hl h
    have hk122 : ∀ (M : Mem) (x1 : Int32) (x2 : Int32) (x3 : Int32) (x4 : Int32) (x5 : Int32) (x6 : Int32) (H : Heap) (locs : List Loc) (ls : Array Slot), Wd G s M H locs → lv_has ls 8 [(0, .ref (ga G 57)), (1, .int x1), (2, .int x2), (3, .int x3), (4, .int x4), (5, .int x5), (6, .int x6)] → lp_X6_copy_122 post n9 M x1 x2 x3 x4 x5 x6 → W p l e (rmk 3) s m args below meth c H locs 0 0 (MQ below (va_Qi post (Qw G) (Af G s.heap.size)) args s 0 0 (Af G s.heap.size)) (F0 m 122 ls []) := fun M x1 x2 x3 x4 x5 x6 H locs ls w hl h => ih9 M x1 x2 x3 x4 x5 x6 w hl h
    replace h : b_X6_copy_122 (lp_X6_copy_122 post n9) post M x1 x2 x3 x4 x5 x6 := h
    unfold b_X6_copy_122 at h
    refine lv_iload hx hb dX6_copy_122 (lv_at hl 6 rfl) ?_
    refine lv_iload hx hb dX6_copy_124 (lv_at hl 5 rfl) ?_
    refine lv_icmp_ge (tgt := 184) hx hb dX6_copy_126 (by decide) (fun c4 => ?_) (fun c4 => ?_)
    · replace h := h.1 c4
      refine lv_iload hx hb dX6_copy_184 (lv_at hl 5 rfl) ?_
      exact ret_i C w h dX6_copy_186
    replace h := h.2 c4
    refine lv_iload_n hx hb dX6_copy_129 rfl (lv_at hl 2 rfl) ?_
    refine lv_iload hx hb dX6_copy_130 (lv_at hl 4 rfl) ?_
    refine lv_icmp_le (tgt := 140) hx hb dX6_copy_132 (by decide) (fun c5 => ?_) (fun c5 => ?_)
    · replace h := h.1 c5
      refine lv_iload hx hb dX6_copy_140 (lv_at hl 5 rfl) ?_
      refine lv_iconst (v := 1) hx hb dX6_copy_142 (by decide) ?_
      refine lv_isub hx hb dX6_copy_143 ?_
      refine lv_iload hx hb dX6_copy_144 (lv_at hl 6 rfl) ?_
      refine lv_isub hx hb dX6_copy_146 ?_
      exact t_X6_copy_147 C hk122 M ((x5 - (1 : Int32)) - x6) x1 x2 x3 x4 x5 x6  w (lv_sub hl [0, 1, 2, 3, 4, 5, 6] rfl) h
    replace h := h.2 c5
    refine lv_iload hx hb dX6_copy_135 (lv_at hl 6 rfl) ?_
    refine lv_goto (tgt := 147) hx hb dX6_copy_137 (by decide) ?_
    exact t_X6_copy_147 C hk122 M x6 x1 x2 x3 x4 x5 x6  w (lv_sub hl [0, 1, 2, 3, 4, 5, 6] rfl) h
set_option maxHeartbeats 4000000 in
set_option maxRecDepth 100000 in
theorem t_X6_copy_116 (C : Cx G p s m args meth c RX6 cX6_copy 8 (some .int)) {post : Int32 → Mem → Prop} (M : Mem) {H : Heap} {locs : List Loc} {ls : Array Slot} (w : Wd G s M H locs) (hl : lv_has ls 8 []) (h : j_X6_copy_116 post M) : W p l e (rmk 3) s m args below meth c H locs 0 0 (MQ below (va_Qi post (Qw G) (Af G s.heap.size)) args s 0 0 (Af G s.heap.size)) (F0 m 116 ls []) := by
  have hx := C.1.1
  have hb := C.1.2.1
  unfold j_X6_copy_116 at h
  refine lv_bipush (v := -13) hx hb dX6_copy_116 (by decide) ?_
  exact ret_i C w h dX6_copy_118
set_option maxHeartbeats 4000000 in
set_option maxRecDepth 100000 in
theorem t_X6_copy_72 (C : Cx G p s m args meth c RX6 cX6_copy 8 (some .int)) {post : Int32 → Mem → Prop} (M : Mem) {H : Heap} {locs : List Loc} {ls : Array Slot} (w : Wd G s M H locs) (hl : lv_has ls 8 []) (h : j_X6_copy_72 post M) : W p l e (rmk 3) s m args below meth c H locs 0 0 (MQ below (va_Qi post (Qw G) (Af G s.heap.size)) args s 0 0 (Af G s.heap.size)) (F0 m 72 ls []) := by
  have hx := C.1.1
  have hb := C.1.2.1
  unfold j_X6_copy_72 at h
  refine lv_bipush (v := -12) hx hb dX6_copy_72 (by decide) ?_
  exact ret_i C w h dX6_copy_74
set_option maxHeartbeats 4000000 in
set_option maxRecDepth 100000 in
theorem t_X6_copy_34 (C : Cx G p s m args meth c RX6 cX6_copy 8 (some .int)) {post : Int32 → Mem → Prop} (M : Mem) {H : Heap} {locs : List Loc} {ls : Array Slot} (w : Wd G s M H locs) (hl : lv_has ls 8 []) (h : j_X6_copy_34 post M) : W p l e (rmk 3) s m args below meth c H locs 0 0 (MQ below (va_Qi post (Qw G) (Af G s.heap.size)) args s 0 0 (Af G s.heap.size)) (F0 m 34 ls []) := by
  have hx := C.1.1
  have hb := C.1.2.1
  unfold j_X6_copy_34 at h
  refine lv_bipush (v := -11) hx hb dX6_copy_34 (by decide) ?_
  exact ret_i C w h dX6_copy_36
set_option maxHeartbeats 4000000 in
set_option maxRecDepth 100000 in
theorem t_X6_copy_14 (C : Cx G p s m args meth c RX6 cX6_copy 8 (some .int)) {post : Int32 → Mem → Prop} (M : Mem) {H : Heap} {locs : List Loc} {ls : Array Slot} (w : Wd G s M H locs) (hl : lv_has ls 8 []) (h : j_X6_copy_14 post M) : W p l e (rmk 3) s m args below meth c H locs 0 0 (MQ below (va_Qi post (Qw G) (Af G s.heap.size)) args s 0 0 (Af G s.heap.size)) (F0 m 14 ls []) := by
  have hx := C.1.1
  have hb := C.1.2.1
  unfold j_X6_copy_14 at h
  refine lv_iconst (v := -1) hx hb dX6_copy_14 (by decide) ?_
  exact ret_i C w h dX6_copy_15
set_option maxHeartbeats 4000000 in
set_option maxRecDepth 100000 in
theorem c_X6_copy (l : Launch) (G : GG) (hG : Ag G) (sz : Nat) (M : Mem) (x1 : Int32) (x2 : Int32) (x3 : Int32) (x4 : Int32) (x5 : Int32) (post : Int32 → Mem → Prop) (h : q_X6_copy M x1 x2 x3 x4 x5 post) : Met l yX6_copy (Cond.code yX6_copy cX6_copy 8 (some .int) :: wsL_law) (rmk 3) (va_Pc [.ref (ga G 57), .int x1, .int x2, .int x3, .int x4, .int x5] (Pw G sz M)) (va_Qi post (Qw G) (Af G sz)) 0 0 (Af G sz) := by
  refine Met.ofW (cc := cX6_copy) (maxL := 8) (ret := (some .int)) (by decide) rfl ?_
  intro p e s m args below meth c s₁ B hml hv
  obtain ⟨rfl, hsz, hE, hP⟩ := hv
  subst hsz
  have C := Cx.of (own := RX6) hG hE rfl hml B
  have w : Wd G s M s.heap [] := ⟨hP, va_S.rf⟩
  have hl := lv_entry [.ref (ga G 57), .int x1, .int x2, .int x3, .int x4, .int x5] (n := 8) (Nat.le_of_ble_eq_true rfl)
  rw [lg_entry_eq]
  generalize (lg_sl [.ref (ga G 57), .int x1, .int x2, .int x3, .int x4, .int x5] ++ List.replicate (8 - (lg_sl [.ref (ga G 57), .int x1, .int x2, .int x3, .int x4, .int x5]).length) Slot.unset).toArray = ls at hl ⊢
  have hl : lv_has ls 8 [(0, .ref (ga G 57)), (1, .int x1), (2, .int x2), (3, .int x3), (4, .int x4), (5, .int x5)] := hl
  have hx := C.1.1
  have hb := C.1.2.1
  show W p l e (rmk 3) s m _ below meth c s.heap [] 0 0 _ _
  unfold q_X6_copy at h
  refine lv_iload_n hx hb dX6_copy_0 rfl (lv_at hl 1 rfl) ?_
  refine end_i w (run_S (As := [.int x1]) C w hl.1 (c_X6_isShelf l G C.2.2.1 _ _ x1  _ h) kw_12_1 kw_1_5 kw_11_23 kw_12_0 hd_X6_isShelf ⟨by decide, by decide⟩ rfl (Nat.le_of_ble_eq_true rfl) dX6_copy_1) (fun r6 M7 H locs h w => ?_)
  refine lv_if_eq (tgt := 14) hx hb dX6_copy_4 (by decide) (fun c8 => ?_) (fun c8 => ?_)
  · replace h := h.1 c8
    exact t_X6_copy_14 C M7   w (lv_sub hl [] rfl) h
  replace h := h.2 c8
  refine lv_iload_n hx hb dX6_copy_7 rfl (lv_at hl 3 rfl) ?_
  refine end_i w (run_S (As := [.int x3]) C w hl.1 (c_X6_isShelf l G C.2.2.1 _ _ x3  _ h) kw_12_1 kw_1_5 kw_11_23 kw_12_0 hd_X6_isShelf ⟨by decide, by decide⟩ rfl (Nat.le_of_ble_eq_true rfl) dX6_copy_8) (fun r9 M10 H locs h w => ?_)
  refine lv_if_ne (tgt := 16) hx hb dX6_copy_11 (by decide) (fun c11 => ?_) (fun c11 => ?_)
  · replace h := h.2 c11
    refine lv_aload_n hx hb dX6_copy_16 rfl (lv_at hl 0 rfl) ?_
    refine gt_6_4 C w kw_5_4 dX6_copy_17 ?_
    refine lv_iload_n hx hb dX6_copy_20 rfl (lv_at hl 1 rfl) ?_
    have hin12 := h.1
    replace h := h.2
    have hz_hin12 := in_lt hin12
    refine pw_ld C w (i := 62) (by decide) pE_62 hin12 rfl dX6_copy_21 ?_
    refine lv_if_eq (tgt := 34) hx hb dX6_copy_22 (by decide) (fun c13 => ?_) (fun c13 => ?_)
    · replace h := h.1 c13
      exact t_X6_copy_34 C M10   w (lv_sub hl [] rfl) h
    replace h := h.2 c13
    refine lv_aload_n hx hb dX6_copy_25 rfl (lv_at hl 0 rfl) ?_
    refine gt_6_4 C w kw_5_4 dX6_copy_26 ?_
    refine lv_iload_n hx hb dX6_copy_29 rfl (lv_at hl 3 rfl) ?_
    have hin14 := h.1
    replace h := h.2
    have hz_hin14 := in_lt hin14
    refine pw_ld C w (i := 62) (by decide) pE_62 hin14 rfl dX6_copy_30 ?_
    refine lv_if_ne (tgt := 37) hx hb dX6_copy_31 (by decide) (fun c15 => ?_) (fun c15 => ?_)
    · replace h := h.2 c15
      refine lv_aload_n hx hb dX6_copy_37 rfl (lv_at hl 0 rfl) ?_
      refine gt_6_4 C w kw_5_4 dX6_copy_38 ?_
      refine lv_iload_n hx hb dX6_copy_41 rfl (lv_at hl 1 rfl) ?_
      refine pw_ld C w (i := 62) (by decide) pE_62 hin12 rfl dX6_copy_42 ?_
      refine lv_iconst (v := 2) hx hb dX6_copy_43 (by decide) ?_
      refine lv_icmp_ne (tgt := 72) hx hb dX6_copy_44 (by decide) (fun c16 => ?_) (fun c16 => ?_)
      · replace h := h.2 c16
        exact t_X6_copy_72 C M10   w (lv_sub hl [] rfl) h
      replace h := h.1 c16
      refine lv_aload_n hx hb dX6_copy_47 rfl (lv_at hl 0 rfl) ?_
      refine gt_6_4 C w kw_5_4 dX6_copy_48 ?_
      refine lv_iload_n hx hb dX6_copy_51 rfl (lv_at hl 3 rfl) ?_
      refine pw_ld C w (i := 62) (by decide) pE_62 hin14 rfl dX6_copy_52 ?_
      refine lv_iconst (v := 2) hx hb dX6_copy_53 (by decide) ?_
      refine lv_icmp_ne (tgt := 72) hx hb dX6_copy_54 (by decide) (fun c17 => ?_) (fun c17 => ?_)
      · replace h := h.2 c17
        exact t_X6_copy_72 C M10   w (lv_sub hl [] rfl) h
      replace h := h.1 c17
      refine lv_aload_n hx hb dX6_copy_57 rfl (lv_at hl 0 rfl) ?_
      refine gt_6_5 C w kw_5_5 dX6_copy_58 ?_
      refine lv_iload_n hx hb dX6_copy_61 rfl (lv_at hl 1 rfl) ?_
      refine pw_ld C w (i := 63) (by decide) pE_63 hin12 rfl dX6_copy_62 ?_
      refine lv_aload_n hx hb dX6_copy_63 rfl (lv_at hl 0 rfl) ?_
      refine gt_6_5 C w kw_5_5 dX6_copy_64 ?_
      refine lv_iload_n hx hb dX6_copy_67 rfl (lv_at hl 3 rfl) ?_
      refine pw_ld C w (i := 63) (by decide) pE_63 hin14 rfl dX6_copy_68 ?_
      refine lv_icmp_eq (tgt := 75) hx hb dX6_copy_69 (by decide) (fun c18 => ?_) (fun c18 => ?_)
      · replace h := h.1 c18
        refine lv_iload hx hb dX6_copy_75 (lv_at hl 5 rfl) ?_
        refine lv_if_lt (tgt := 116) hx hb dX6_copy_77 (by decide) (fun c19 => ?_) (fun c19 => ?_)
        · replace h := h.1 c19
          exact t_X6_copy_116 C M10   w (lv_sub hl [] rfl) h
        replace h := h.2 c19
        refine lv_iload_n hx hb dX6_copy_80 rfl (lv_at hl 2 rfl) ?_
        refine lv_if_lt (tgt := 116) hx hb dX6_copy_81 (by decide) (fun c20 => ?_) (fun c20 => ?_)
        · replace h := h.1 c20
          exact t_X6_copy_116 C M10   w (lv_sub hl [] rfl) h
        replace h := h.2 c20
        refine lv_iload hx hb dX6_copy_84 (lv_at hl 4 rfl) ?_
        refine lv_if_lt (tgt := 116) hx hb dX6_copy_86 (by decide) (fun c21 => ?_) (fun c21 => ?_)
        · replace h := h.1 c21
          exact t_X6_copy_116 C M10   w (lv_sub hl [] rfl) h
        replace h := h.2 c21
        refine lv_iload hx hb dX6_copy_89 (lv_at hl 5 rfl) ?_
        refine lv_aload_n hx hb dX6_copy_91 rfl (lv_at hl 0 rfl) ?_
        refine gt_6_6 C w kw_5_6 dX6_copy_92 ?_
        refine lv_iload_n hx hb dX6_copy_95 rfl (lv_at hl 1 rfl) ?_
        refine pw_ld C w (i := 64) (by decide) pE_64 hin12 rfl dX6_copy_96 ?_
        refine lv_iload_n hx hb dX6_copy_97 rfl (lv_at hl 2 rfl) ?_
        refine lv_isub hx hb dX6_copy_98 ?_
        refine lv_icmp_gt (tgt := 116) hx hb dX6_copy_99 (by decide) (fun c22 => ?_) (fun c22 => ?_)
        · replace h := h.1 c22
          exact t_X6_copy_116 C M10   w (lv_sub hl [] rfl) h
        replace h := h.2 c22
        refine lv_iload hx hb dX6_copy_102 (lv_at hl 5 rfl) ?_
        refine lv_aload_n hx hb dX6_copy_104 rfl (lv_at hl 0 rfl) ?_
        refine gt_6_6 C w kw_5_6 dX6_copy_105 ?_
        refine lv_iload_n hx hb dX6_copy_108 rfl (lv_at hl 3 rfl) ?_
        refine pw_ld C w (i := 64) (by decide) pE_64 hin14 rfl dX6_copy_109 ?_
        refine lv_iload hx hb dX6_copy_110 (lv_at hl 4 rfl) ?_
        refine lv_isub hx hb dX6_copy_112 ?_
        refine lv_icmp_le (tgt := 119) hx hb dX6_copy_113 (by decide) (fun c23 => ?_) (fun c23 => ?_)
        · replace h := h.1 c23
          refine lv_iconst (v := 0) hx hb dX6_copy_119 (by decide) ?_
          refine lv_istore (lv' := [(6, .int (0 : Int32)), (0, .ref (ga G 57)), (1, .int x1), (2, .int x2), (3, .int x3), (4, .int x4), (5, .int x5)]) hx hb dX6_copy_120 hl (by decide) rfl (fun ls hl => ?_)
          obtain ⟨n, h⟩ := h
          exact t_X6_copy_122 C n M10 x1 x2 x3 x4 x5 (0 : Int32)  w (lv_sub hl [1, 2, 3, 4, 5, 6, 0] rfl) h
        replace h := h.2 c23
        exact t_X6_copy_116 C M10   w (lv_sub hl [] rfl) h
      replace h := h.2 c18
      exact t_X6_copy_72 C M10   w (lv_sub hl [] rfl) h
    replace h := h.1 c15
    exact t_X6_copy_34 C M10   w (lv_sub hl [] rfl) h
  replace h := h.1 c11
  exact t_X6_copy_14 C M10   w (lv_sub hl [] rfl) h
def q_X1_costOf : Nat → Mem → Int32 → Int32 → Int32 → (Int32 → Mem → Prop) → Prop
  | 0 => fun _ _ _ _ _ => False
  | n + 1 => fun M x0 x1 x2 post => (x0 = (1 : Int32) → (q_X1_costOf n M (0 : Int32) x1 x2 (fun r2 M3 => post ((3 : Int32) * r2) M3))) ∧ (¬ x0 = (1 : Int32) → ((x0 = (2 : Int32) → (q_X1_costOf n M (0 : Int32) x1 x2 (fun r5 M6 => post (r5 + (50 : Int32)) M6))) ∧ (¬ x0 = (2 : Int32) → ((x0 = (3 : Int32) → (q_X1_costOf n M (0 : Int32) x1 x2 (fun r8 M9 => post (((2 : Int32) * r8) + x1) M9))) ∧ (¬ x0 = (3 : Int32) → ((x0 = (4 : Int32) → (q_X1_costOf n M (1 : Int32) x1 x2 (fun r11 M12 => post (r11 - x2) M12))) ∧ (¬ x0 = (4 : Int32) → ((x0 = (5 : Int32) → (q_X1_costOf n M (2 : Int32) x1 x2 (fun r14 M15 => post (r14 / (2 : Int32)) M15))) ∧ (¬ x0 = (5 : Int32) → ((x0 = (6 : Int32) → (q_X1_costOf n M (3 : Int32) x1 x2 (fun r17 M18 => post (r17 / (3 : Int32)) M18))) ∧ (¬ x0 = (6 : Int32) → ((x0 = (7 : Int32) → (q_X1_costOf n M (6 : Int32) x1 x2 (fun r20 M21 => post (r20 - (1 : Int32)) M21))) ∧ (¬ x0 = (7 : Int32) → (post x2 M))))))))))))))
set_option maxHeartbeats 4000000 in
set_option maxRecDepth 100000 in
theorem c_X1_costOf (l : Launch) (G : GG) (hG : Ag G) : ∀ (n sz : Nat) (M : Mem) (x0 : Int32) (x1 : Int32) (x2 : Int32) (post : Int32 → Mem → Prop) (h : q_X1_costOf n M x0 x1 x2 post), Met l yX1_costOf (Cond.code yX1_costOf cX1_costOf 3 (some .int) :: wsL_law) (rmk n) (va_Pc [.int x0, .int x1, .int x2] (Pw G sz M)) (va_Qi post (Qw G) (Af G sz)) 0 0 (Af G sz) := by
  intro n
  induction n with
  | zero => intro sz M x0 x1 x2 post h; exact absurd h id
  | succ n ih =>
  intro sz M x0 x1 x2 post h
  refine Met.ofW (cc := cX1_costOf) (maxL := 3) (ret := (some .int)) (by decide) rfl ?_
  intro p e s m args below meth c s₁ B hml hv
  obtain ⟨rfl, hsz, hE, hP⟩ := hv
  subst hsz
  have C := Cx.of (own := RX1) hG hE rfl hml B
  have w : Wd G s M s.heap [] := ⟨hP, va_S.rf⟩
  have hl := lv_entry [.int x0, .int x1, .int x2] (n := 3) (Nat.le_of_ble_eq_true rfl)
  rw [lg_entry_eq]
  generalize (lg_sl [.int x0, .int x1, .int x2] ++ List.replicate (3 - (lg_sl [.int x0, .int x1, .int x2]).length) Slot.unset).toArray = ls at hl ⊢
  have hl : lv_has ls 3 [(0, .int x0), (1, .int x1), (2, .int x2)] := hl
  have hx := C.1.1
  have hb := C.1.2.1
  show W p l e (rmk (n + 1)) s m _ below meth c s.heap [] 0 0 _ _
  replace h : (x0 = (1 : Int32) → (q_X1_costOf n M (0 : Int32) x1 x2 (fun r2 M3 => post ((3 : Int32) * r2) M3))) ∧ (¬ x0 = (1 : Int32) → ((x0 = (2 : Int32) → (q_X1_costOf n M (0 : Int32) x1 x2 (fun r5 M6 => post (r5 + (50 : Int32)) M6))) ∧ (¬ x0 = (2 : Int32) → ((x0 = (3 : Int32) → (q_X1_costOf n M (0 : Int32) x1 x2 (fun r8 M9 => post (((2 : Int32) * r8) + x1) M9))) ∧ (¬ x0 = (3 : Int32) → ((x0 = (4 : Int32) → (q_X1_costOf n M (1 : Int32) x1 x2 (fun r11 M12 => post (r11 - x2) M12))) ∧ (¬ x0 = (4 : Int32) → ((x0 = (5 : Int32) → (q_X1_costOf n M (2 : Int32) x1 x2 (fun r14 M15 => post (r14 / (2 : Int32)) M15))) ∧ (¬ x0 = (5 : Int32) → ((x0 = (6 : Int32) → (q_X1_costOf n M (3 : Int32) x1 x2 (fun r17 M18 => post (r17 / (3 : Int32)) M18))) ∧ (¬ x0 = (6 : Int32) → ((x0 = (7 : Int32) → (q_X1_costOf n M (6 : Int32) x1 x2 (fun r20 M21 => post (r20 - (1 : Int32)) M21))) ∧ (¬ x0 = (7 : Int32) → (post x2 M)))))))))))))) := h
  refine lv_iload_n hx hb dX1_costOf_0 rfl (lv_at hl 0 rfl) ?_
  by_cases c1 : x0 = (1 : Int32)
  · replace h := h.1 c1
    refine lv_tableIn (off := 43) (tgt := 44) hx hb dX1_costOf_1 (by rw [c1]; decide) (by rw [c1]; decide) (by rw [c1]; decide) (by decide) ?_
    refine lv_iconst (v := 3) hx hb dX1_costOf_44 (by decide) ?_
    refine lv_iconst (v := 0) hx hb dX1_costOf_45 (by decide) ?_
    refine lv_iload_n hx hb dX1_costOf_46 rfl (lv_at hl 1 rfl) ?_
    refine lv_iload_n hx hb dX1_costOf_47 rfl (lv_at hl 2 rfl) ?_
    refine end_i w (run_S (As := [.int (0 : Int32), .int x1, .int x2]) C w hl.1 (ih _ _ (0 : Int32) x1 x2 _ h) kw_40_1 kw_2_1 kw_39_23 kw_40_0 hd_X1_costOf ⟨Nat.le_refl _, by decide⟩ rfl (Nat.le_of_ble_eq_true rfl) dX1_costOf_48) (fun r2 M3 H locs h w => ?_)
    refine lv_imul hx hb dX1_costOf_51 ?_
    exact ret_i C w h dX1_costOf_52
  replace h := h.2 c1
  by_cases c4 : x0 = (2 : Int32)
  · replace h := h.1 c4
    refine lv_tableIn (off := 52) (tgt := 53) hx hb dX1_costOf_1 (by rw [c4]; decide) (by rw [c4]; decide) (by rw [c4]; decide) (by decide) ?_
    refine lv_iconst (v := 0) hx hb dX1_costOf_53 (by decide) ?_
    refine lv_iload_n hx hb dX1_costOf_54 rfl (lv_at hl 1 rfl) ?_
    refine lv_iload_n hx hb dX1_costOf_55 rfl (lv_at hl 2 rfl) ?_
    refine end_i w (run_S (As := [.int (0 : Int32), .int x1, .int x2]) C w hl.1 (ih _ _ (0 : Int32) x1 x2 _ h) kw_40_1 kw_2_1 kw_39_23 kw_40_0 hd_X1_costOf ⟨Nat.le_refl _, by decide⟩ rfl (Nat.le_of_ble_eq_true rfl) dX1_costOf_56) (fun r5 M6 H locs h w => ?_)
    refine lv_bipush (v := 50) hx hb dX1_costOf_59 (by decide) ?_
    refine lv_iadd hx hb dX1_costOf_61 ?_
    exact ret_i C w h dX1_costOf_62
  replace h := h.2 c4
  by_cases c7 : x0 = (3 : Int32)
  · replace h := h.1 c7
    refine lv_tableIn (off := 62) (tgt := 63) hx hb dX1_costOf_1 (by rw [c7]; decide) (by rw [c7]; decide) (by rw [c7]; decide) (by decide) ?_
    refine lv_iconst (v := 2) hx hb dX1_costOf_63 (by decide) ?_
    refine lv_iconst (v := 0) hx hb dX1_costOf_64 (by decide) ?_
    refine lv_iload_n hx hb dX1_costOf_65 rfl (lv_at hl 1 rfl) ?_
    refine lv_iload_n hx hb dX1_costOf_66 rfl (lv_at hl 2 rfl) ?_
    refine end_i w (run_S (As := [.int (0 : Int32), .int x1, .int x2]) C w hl.1 (ih _ _ (0 : Int32) x1 x2 _ h) kw_40_1 kw_2_1 kw_39_23 kw_40_0 hd_X1_costOf ⟨Nat.le_refl _, by decide⟩ rfl (Nat.le_of_ble_eq_true rfl) dX1_costOf_67) (fun r8 M9 H locs h w => ?_)
    refine lv_imul hx hb dX1_costOf_70 ?_
    refine lv_iload_n hx hb dX1_costOf_71 rfl (lv_at hl 1 rfl) ?_
    refine lv_iadd hx hb dX1_costOf_72 ?_
    exact ret_i C w h dX1_costOf_73
  replace h := h.2 c7
  by_cases c10 : x0 = (4 : Int32)
  · replace h := h.1 c10
    refine lv_tableIn (off := 73) (tgt := 74) hx hb dX1_costOf_1 (by rw [c10]; decide) (by rw [c10]; decide) (by rw [c10]; decide) (by decide) ?_
    refine lv_iconst (v := 1) hx hb dX1_costOf_74 (by decide) ?_
    refine lv_iload_n hx hb dX1_costOf_75 rfl (lv_at hl 1 rfl) ?_
    refine lv_iload_n hx hb dX1_costOf_76 rfl (lv_at hl 2 rfl) ?_
    refine end_i w (run_S (As := [.int (1 : Int32), .int x1, .int x2]) C w hl.1 (ih _ _ (1 : Int32) x1 x2 _ h) kw_40_1 kw_2_1 kw_39_23 kw_40_0 hd_X1_costOf ⟨Nat.le_refl _, by decide⟩ rfl (Nat.le_of_ble_eq_true rfl) dX1_costOf_77) (fun r11 M12 H locs h w => ?_)
    refine lv_iload_n hx hb dX1_costOf_80 rfl (lv_at hl 2 rfl) ?_
    refine lv_isub hx hb dX1_costOf_81 ?_
    exact ret_i C w h dX1_costOf_82
  replace h := h.2 c10
  by_cases c13 : x0 = (5 : Int32)
  · replace h := h.1 c13
    refine lv_tableIn (off := 82) (tgt := 83) hx hb dX1_costOf_1 (by rw [c13]; decide) (by rw [c13]; decide) (by rw [c13]; decide) (by decide) ?_
    refine lv_iconst (v := 2) hx hb dX1_costOf_83 (by decide) ?_
    refine lv_iload_n hx hb dX1_costOf_84 rfl (lv_at hl 1 rfl) ?_
    refine lv_iload_n hx hb dX1_costOf_85 rfl (lv_at hl 2 rfl) ?_
    refine end_i w (run_S (As := [.int (2 : Int32), .int x1, .int x2]) C w hl.1 (ih _ _ (2 : Int32) x1 x2 _ h) kw_40_1 kw_2_1 kw_39_23 kw_40_0 hd_X1_costOf ⟨Nat.le_refl _, by decide⟩ rfl (Nat.le_of_ble_eq_true rfl) dX1_costOf_86) (fun r14 M15 H locs h w => ?_)
    refine lv_iconst (v := 2) hx hb dX1_costOf_89 (by decide) ?_
    refine lv_idiv hx hb dX1_costOf_90 (by decide) ?_
    exact ret_i C w h dX1_costOf_91
  replace h := h.2 c13
  by_cases c16 : x0 = (6 : Int32)
  · replace h := h.1 c16
    refine lv_tableIn (off := 91) (tgt := 92) hx hb dX1_costOf_1 (by rw [c16]; decide) (by rw [c16]; decide) (by rw [c16]; decide) (by decide) ?_
    refine lv_iconst (v := 3) hx hb dX1_costOf_92 (by decide) ?_
    refine lv_iload_n hx hb dX1_costOf_93 rfl (lv_at hl 1 rfl) ?_
    refine lv_iload_n hx hb dX1_costOf_94 rfl (lv_at hl 2 rfl) ?_
    refine end_i w (run_S (As := [.int (3 : Int32), .int x1, .int x2]) C w hl.1 (ih _ _ (3 : Int32) x1 x2 _ h) kw_40_1 kw_2_1 kw_39_23 kw_40_0 hd_X1_costOf ⟨Nat.le_refl _, by decide⟩ rfl (Nat.le_of_ble_eq_true rfl) dX1_costOf_95) (fun r17 M18 H locs h w => ?_)
    refine lv_iconst (v := 3) hx hb dX1_costOf_98 (by decide) ?_
    refine lv_idiv hx hb dX1_costOf_99 (by decide) ?_
    exact ret_i C w h dX1_costOf_100
  replace h := h.2 c16
  by_cases c19 : x0 = (7 : Int32)
  · replace h := h.1 c19
    refine lv_tableIn (off := 100) (tgt := 101) hx hb dX1_costOf_1 (by rw [c19]; decide) (by rw [c19]; decide) (by rw [c19]; decide) (by decide) ?_
    refine lv_bipush (v := 6) hx hb dX1_costOf_101 (by decide) ?_
    refine lv_iload_n hx hb dX1_costOf_103 rfl (lv_at hl 1 rfl) ?_
    refine lv_iload_n hx hb dX1_costOf_104 rfl (lv_at hl 2 rfl) ?_
    refine end_i w (run_S (As := [.int (6 : Int32), .int x1, .int x2]) C w hl.1 (ih _ _ (6 : Int32) x1 x2 _ h) kw_40_1 kw_2_1 kw_39_23 kw_40_0 hd_X1_costOf ⟨Nat.le_refl _, by decide⟩ rfl (Nat.le_of_ble_eq_true rfl) dX1_costOf_105) (fun r20 M21 H locs h w => ?_)
    refine lv_iconst (v := 1) hx hb dX1_costOf_108 (by decide) ?_
    refine lv_isub hx hb dX1_costOf_109 ?_
    exact ret_i C w h dX1_costOf_110
  replace h := h.2 c19
  have nc1 := lv_neT c1 (a := 1) (by decide)
  have nc4 := lv_neT c4 (a := 2) (by decide)
  have nc7 := lv_neT c7 (a := 3) (by decide)
  have nc10 := lv_neT c10 (a := 4) (by decide)
  have nc13 := lv_neT c13 (a := 5) (by decide)
  have nc16 := lv_neT c16 (a := 6) (by decide)
  have nc19 := lv_neT c19 (a := 7) (by decide)
  refine lv_tableOut (tgt := 111) hx hb dX1_costOf_1 (by omega) (by decide) ?_
  refine lv_iload_n hx hb dX1_costOf_111 rfl (lv_at hl 2 rfl) ?_
  exact ret_i C w h dX1_costOf_112
end WALK
