theorem dX6_partsIn_0 : decode cX6_partsIn 0 = .ok (.aload_n 0, 1) := by decide +kernel
theorem dX6_partsIn_1 : decode cX6_partsIn 1 = .ok (.getfield 9, 3) := by decide +kernel
theorem dX6_partsIn_4 : decode cX6_partsIn 4 = .ok (.aload_n 0, 1) := by decide +kernel
theorem dX6_partsIn_5 : decode cX6_partsIn 5 = .ok (.getfield 19, 3) := by decide +kernel
theorem dX6_partsIn_8 : decode cX6_partsIn 8 = .ok (.invokestatic 104, 3) := by decide +kernel
theorem dX6_partsIn_11 : decode cX6_partsIn 11 = .ok (.aload_n 0, 1) := by decide +kernel
theorem dX6_partsIn_12 : decode cX6_partsIn 12 = .ok (.aload_n 0, 1) := by decide +kernel
theorem dX6_partsIn_13 : decode cX6_partsIn 13 = .ok (.invokevirtual 173, 3) := by decide +kernel
theorem dX6_partsIn_16 : decode cX6_partsIn 16 = .ok (.invokevirtual 176, 3) := by decide +kernel
theorem dX6_partsIn_19 : decode cX6_partsIn 19 = .ok (.bipush (-4), 2) := by decide +kernel
theorem dX6_partsIn_21 : decode cX6_partsIn 21 = .ok (.istore_n 2, 1) := by decide +kernel
theorem dX6_partsIn_22 : decode cX6_partsIn 22 = .ok (.iconst 0, 1) := by decide +kernel
theorem dX6_partsIn_23 : decode cX6_partsIn 23 = .ok (.istore_n 3, 1) := by decide +kernel
theorem dX6_partsIn_24 : decode cX6_partsIn 24 = .ok (.iload_n 3, 1) := by decide +kernel
theorem dX6_partsIn_25 : decode cX6_partsIn 25 = .ok (.iload_n 1, 1) := by decide +kernel
theorem dX6_partsIn_26 : decode cX6_partsIn 26 = .ok (.if_icmp .ge 34, 3) := by decide +kernel
theorem dX6_partsIn_29 : decode cX6_partsIn 29 = .ok (.iload_n 2, 1) := by decide +kernel
theorem dX6_partsIn_30 : decode cX6_partsIn 30 = .ok (.ifCond .ge 30, 3) := by decide +kernel
theorem dX6_partsIn_33 : decode cX6_partsIn 33 = .ok (.aload_n 0, 1) := by decide +kernel
theorem dX6_partsIn_34 : decode cX6_partsIn 34 = .ok (.aload_n 0, 1) := by decide +kernel
theorem dX6_partsIn_35 : decode cX6_partsIn 35 = .ok (.getfield 9, 3) := by decide +kernel
theorem dX6_partsIn_38 : decode cX6_partsIn 38 = .ok (.iconst 5, 1) := by decide +kernel
theorem dX6_partsIn_39 : decode cX6_partsIn 39 = .ok (.iaload, 1) := by decide +kernel
theorem dX6_partsIn_40 : decode cX6_partsIn 40 = .ok (.invokevirtual 195, 3) := by decide +kernel
theorem dX6_partsIn_43 : decode cX6_partsIn 43 = .ok (.istore 4, 2) := by decide +kernel
theorem dX6_partsIn_45 : decode cX6_partsIn 45 = .ok (.aload_n 0, 1) := by decide +kernel
theorem dX6_partsIn_46 : decode cX6_partsIn 46 = .ok (.getfield 185, 3) := by decide +kernel
theorem dX6_partsIn_49 : decode cX6_partsIn 49 = .ok (.ifCond .lt 5, 3) := by decide +kernel
theorem dX6_partsIn_52 : decode cX6_partsIn 52 = .ok (.iload_n 3, 1) := by decide +kernel
theorem dX6_partsIn_53 : decode cX6_partsIn 53 = .ok (.istore_n 2, 1) := by decide +kernel
theorem dX6_partsIn_54 : decode cX6_partsIn 54 = .ok (.iinc 3 1, 3) := by decide +kernel
theorem dX6_partsIn_57 : decode cX6_partsIn 57 = .ok (.goto (-33), 3) := by decide +kernel
theorem dX6_partsIn_60 : decode cX6_partsIn 60 = .ok (.aload_n 0, 1) := by decide +kernel
theorem dX6_partsIn_61 : decode cX6_partsIn 61 = .ok (.getfield 19, 3) := by decide +kernel
theorem dX6_partsIn_64 : decode cX6_partsIn 64 = .ok (.aload_n 0, 1) := by decide +kernel
theorem dX6_partsIn_65 : decode cX6_partsIn 65 = .ok (.getfield 9, 3) := by decide +kernel
theorem dX6_partsIn_68 : decode cX6_partsIn 68 = .ok (.invokestatic 104, 3) := by decide +kernel
theorem dX6_partsIn_71 : decode cX6_partsIn 71 = .ok (.iload_n 2, 1) := by decide +kernel
theorem dX6_partsIn_72 : decode cX6_partsIn 72 = .ok (.ireturn, 1) := by decide +kernel
theorem dX6_holds_0 : decode cX6_holds 0 = .ok (.iload_n 1, 1) := by decide +kernel
theorem dX6_holds_1 : decode cX6_holds 1 = .ok (.i2l, 1) := by decide +kernel
theorem dX6_holds_2 : decode cX6_holds 2 = .ok (.lconst 0, 1) := by decide +kernel
theorem dX6_holds_3 : decode cX6_holds 3 = .ok (.ldc2_w 204, 3) := by decide +kernel
theorem dX6_holds_6 : decode cX6_holds 6 = .ok (.invokestatic 47, 3) := by decide +kernel
theorem dX6_holds_9 : decode cX6_holds 9 = .ok (.ifCond .eq 15, 3) := by decide +kernel
theorem dX6_holds_12 : decode cX6_holds 12 = .ok (.iload_n 2, 1) := by decide +kernel
theorem dX6_holds_13 : decode cX6_holds 13 = .ok (.i2l, 1) := by decide +kernel
theorem dX6_holds_14 : decode cX6_holds 14 = .ok (.lconst 0, 1) := by decide +kernel
theorem dX6_holds_15 : decode cX6_holds 15 = .ok (.ldc2_w 206, 3) := by decide +kernel
theorem dX6_holds_18 : decode cX6_holds 18 = .ok (.invokestatic 47, 3) := by decide +kernel
theorem dX6_holds_21 : decode cX6_holds 21 = .ok (.ifCond .ne 5, 3) := by decide +kernel
theorem dX6_holds_24 : decode cX6_holds 24 = .ok (.iconst (-1), 1) := by decide +kernel
theorem dX6_holds_25 : decode cX6_holds 25 = .ok (.ireturn, 1) := by decide +kernel
theorem dX6_holds_26 : decode cX6_holds 26 = .ok (.aload_n 0, 1) := by decide +kernel
theorem dX6_holds_27 : decode cX6_holds 27 = .ok (.invokevirtual 170, 3) := by decide +kernel
theorem dX6_holds_30 : decode cX6_holds 30 = .ok (.ifCond .ne 6, 3) := by decide +kernel
theorem dX6_holds_33 : decode cX6_holds 33 = .ok (.bipush (-3), 2) := by decide +kernel
theorem dX6_holds_35 : decode cX6_holds 35 = .ok (.ireturn, 1) := by decide +kernel
theorem dX6_holds_36 : decode cX6_holds 36 = .ok (.aload_n 0, 1) := by decide +kernel
theorem dX6_holds_37 : decode cX6_holds 37 = .ok (.iload_n 1, 1) := by decide +kernel
theorem dX6_holds_38 : decode cX6_holds 38 = .ok (.invokevirtual 208, 3) := by decide +kernel
theorem dX6_holds_41 : decode cX6_holds 41 = .ok (.istore_n 3, 1) := by decide +kernel
theorem dX6_holds_42 : decode cX6_holds 42 = .ok (.iload_n 2, 1) := by decide +kernel
theorem dX6_holds_43 : decode cX6_holds 43 = .ok (.ifCond .ne 15, 3) := by decide +kernel
theorem dX6_holds_46 : decode cX6_holds 46 = .ok (.iload_n 3, 1) := by decide +kernel
theorem dX6_holds_47 : decode cX6_holds 47 = .ok (.ifCond .ge 7, 3) := by decide +kernel
theorem dX6_holds_50 : decode cX6_holds 50 = .ok (.iconst 1, 1) := by decide +kernel
theorem dX6_holds_51 : decode cX6_holds 51 = .ok (.goto 24, 3) := by decide +kernel
theorem dX6_holds_54 : decode cX6_holds 54 = .ok (.iconst 0, 1) := by decide +kernel
theorem dX6_holds_55 : decode cX6_holds 55 = .ok (.goto 20, 3) := by decide +kernel
theorem dX6_holds_58 : decode cX6_holds 58 = .ok (.iload_n 3, 1) := by decide +kernel
theorem dX6_holds_59 : decode cX6_holds 59 = .ok (.ifCond .lt 8, 3) := by decide +kernel
theorem dX6_holds_62 : decode cX6_holds 62 = .ok (.iload_n 2, 1) := by decide +kernel
theorem dX6_holds_63 : decode cX6_holds 63 = .ok (.iconst 1, 1) := by decide +kernel
theorem dX6_holds_64 : decode cX6_holds 64 = .ok (.if_icmp .ne 7, 3) := by decide +kernel
theorem dX6_holds_67 : decode cX6_holds 67 = .ok (.iload_n 3, 1) := by decide +kernel
theorem dX6_holds_68 : decode cX6_holds 68 = .ok (.goto 7, 3) := by decide +kernel
theorem dX6_holds_71 : decode cX6_holds 71 = .ok (.aload_n 0, 1) := by decide +kernel
theorem dX6_holds_72 : decode cX6_holds 72 = .ok (.getfield 185, 3) := by decide +kernel
theorem dX6_holds_75 : decode cX6_holds 75 = .ok (.ireturn, 1) := by decide +kernel
theorem dX5_fastest_0 : decode cX5_fastest 0 = .ok (.iload_n 1, 1) := by decide +kernel
theorem dX5_fastest_1 : decode cX5_fastest 1 = .ok (.iconst 0, 1) := by decide +kernel
theorem dX5_fastest_2 : decode cX5_fastest 2 = .ok (.sipush 400, 3) := by decide +kernel
theorem dX5_fastest_5 : decode cX5_fastest 5 = .ok (.invokestatic 129, 3) := by decide +kernel
theorem dX5_fastest_8 : decode cX5_fastest 8 = .ok (.ifCond .ne 5, 3) := by decide +kernel
theorem dX5_fastest_11 : decode cX5_fastest 11 = .ok (.iconst (-1), 1) := by decide +kernel
theorem dX5_fastest_12 : decode cX5_fastest 12 = .ok (.ireturn, 1) := by decide +kernel
theorem dX5_fastest_13 : decode cX5_fastest 13 = .ok (.aload_n 0, 1) := by decide +kernel
theorem dX5_fastest_14 : decode cX5_fastest 14 = .ok (.invokevirtual 110, 3) := by decide +kernel
theorem dX5_fastest_17 : decode cX5_fastest 17 = .ok (.ifCond .ne 6, 3) := by decide +kernel
theorem dX5_fastest_20 : decode cX5_fastest 20 = .ok (.bipush (-3), 2) := by decide +kernel
theorem dX5_fastest_22 : decode cX5_fastest 22 = .ok (.ireturn, 1) := by decide +kernel
theorem dX5_fastest_23 : decode cX5_fastest 23 = .ok (.getstatic 152, 3) := by decide +kernel
theorem dX5_fastest_26 : decode cX5_fastest 26 = .ok (.iconst 2, 1) := by decide +kernel
theorem dX5_fastest_27 : decode cX5_fastest 27 = .ok (.iaload, 1) := by decide +kernel
theorem dX5_fastest_28 : decode cX5_fastest 28 = .ok (.istore_n 2, 1) := by decide +kernel
theorem dX5_fastest_29 : decode cX5_fastest 29 = .ok (.iload_n 2, 1) := by decide +kernel
theorem dX5_fastest_30 : decode cX5_fastest 30 = .ok (.ifCond .lt 29, 3) := by decide +kernel
theorem dX5_fastest_33 : decode cX5_fastest 33 = .ok (.aload_n 0, 1) := by decide +kernel
theorem dX5_fastest_34 : decode cX5_fastest 34 = .ok (.getfield 25, 3) := by decide +kernel
theorem dX5_fastest_37 : decode cX5_fastest 37 = .ok (.iload_n 2, 1) := by decide +kernel
theorem dX5_fastest_38 : decode cX5_fastest 38 = .ok (.putfield 155, 3) := by decide +kernel
theorem dX5_fastest_41 : decode cX5_fastest 41 = .ok (.aload_n 0, 1) := by decide +kernel
theorem dX5_fastest_42 : decode cX5_fastest 42 = .ok (.iload_n 1, 1) := by decide +kernel
theorem dX5_fastest_43 : decode cX5_fastest 43 = .ok (.invokevirtual 149, 3) := by decide +kernel
theorem dX5_fastest_46 : decode cX5_fastest 46 = .ok (.bipush (-4), 2) := by decide +kernel
theorem dX5_fastest_48 : decode cX5_fastest 48 = .ok (.if_icmp .ne 5, 3) := by decide +kernel
theorem dX5_fastest_51 : decode cX5_fastest 51 = .ok (.iload_n 2, 1) := by decide +kernel
theorem dX5_fastest_52 : decode cX5_fastest 52 = .ok (.ireturn, 1) := by decide +kernel
theorem dX5_fastest_53 : decode cX5_fastest 53 = .ok (.iinc 2 (-1), 3) := by decide +kernel
theorem dX5_fastest_56 : decode cX5_fastest 56 = .ok (.goto (-27), 3) := by decide +kernel
theorem dX5_fastest_59 : decode cX5_fastest 59 = .ok (.bipush (-4), 2) := by decide +kernel
theorem dX5_fastest_61 : decode cX5_fastest 61 = .ok (.ireturn, 1) := by decide +kernel
theorem dX6_fastest_0 : decode cX6_fastest 0 = .ok (.iload_n 1, 1) := by decide +kernel
theorem dX6_fastest_1 : decode cX6_fastest 1 = .ok (.i2l, 1) := by decide +kernel
theorem dX6_fastest_2 : decode cX6_fastest 2 = .ok (.lconst 0, 1) := by decide +kernel
theorem dX6_fastest_3 : decode cX6_fastest 3 = .ok (.ldc2_w 204, 3) := by decide +kernel
theorem dX6_fastest_6 : decode cX6_fastest 6 = .ok (.invokestatic 47, 3) := by decide +kernel
theorem dX6_fastest_9 : decode cX6_fastest 9 = .ok (.ifCond .ne 5, 3) := by decide +kernel
theorem dX6_fastest_12 : decode cX6_fastest 12 = .ok (.iconst (-1), 1) := by decide +kernel
theorem dX6_fastest_13 : decode cX6_fastest 13 = .ok (.ireturn, 1) := by decide +kernel
theorem dX6_fastest_14 : decode cX6_fastest 14 = .ok (.aload_n 0, 1) := by decide +kernel
theorem dX6_fastest_15 : decode cX6_fastest 15 = .ok (.invokevirtual 170, 3) := by decide +kernel
theorem dX6_fastest_18 : decode cX6_fastest 18 = .ok (.ifCond .ne 6, 3) := by decide +kernel
theorem dX6_fastest_21 : decode cX6_fastest 21 = .ok (.bipush (-3), 2) := by decide +kernel
theorem dX6_fastest_23 : decode cX6_fastest 23 = .ok (.ireturn, 1) := by decide +kernel
theorem dX6_fastest_24 : decode cX6_fastest 24 = .ok (.aload_n 0, 1) := by decide +kernel
theorem dX6_fastest_25 : decode cX6_fastest 25 = .ok (.getfield 9, 3) := by decide +kernel
theorem dX6_fastest_28 : decode cX6_fastest 28 = .ok (.bipush 7, 2) := by decide +kernel
theorem dX6_fastest_30 : decode cX6_fastest 30 = .ok (.iaload, 1) := by decide +kernel
theorem dX6_fastest_31 : decode cX6_fastest 31 = .ok (.istore_n 2, 1) := by decide +kernel
theorem dX6_fastest_32 : decode cX6_fastest 32 = .ok (.bipush (-4), 2) := by decide +kernel
theorem dX6_fastest_34 : decode cX6_fastest 34 = .ok (.istore_n 3, 1) := by decide +kernel
theorem dX6_fastest_35 : decode cX6_fastest 35 = .ok (.iconst 0, 1) := by decide +kernel
theorem dX6_fastest_36 : decode cX6_fastest 36 = .ok (.istore 4, 2) := by decide +kernel
theorem dX6_fastest_38 : decode cX6_fastest 38 = .ok (.iload 4, 2) := by decide +kernel
theorem dX6_fastest_40 : decode cX6_fastest 40 = .ok (.bipush 10, 2) := by decide +kernel
theorem dX6_fastest_42 : decode cX6_fastest 42 = .ok (.if_icmp .ge 29, 3) := by decide +kernel
theorem dX6_fastest_45 : decode cX6_fastest 45 = .ok (.aload_n 0, 1) := by decide +kernel
theorem dX6_fastest_46 : decode cX6_fastest 46 = .ok (.getfield 9, 3) := by decide +kernel
theorem dX6_fastest_49 : decode cX6_fastest 49 = .ok (.bipush 7, 2) := by decide +kernel
theorem dX6_fastest_51 : decode cX6_fastest 51 = .ok (.iload 4, 2) := by decide +kernel
theorem dX6_fastest_53 : decode cX6_fastest 53 = .ok (.iastore, 1) := by decide +kernel
theorem dX6_fastest_54 : decode cX6_fastest 54 = .ok (.aload_n 0, 1) := by decide +kernel
theorem dX6_fastest_55 : decode cX6_fastest 55 = .ok (.iload_n 1, 1) := by decide +kernel
theorem dX6_fastest_56 : decode cX6_fastest 56 = .ok (.invokevirtual 208, 3) := by decide +kernel
theorem dX6_fastest_59 : decode cX6_fastest 59 = .ok (.ifCond .ge 6, 3) := by decide +kernel
theorem dX6_fastest_62 : decode cX6_fastest 62 = .ok (.iload 4, 2) := by decide +kernel
theorem dX6_fastest_64 : decode cX6_fastest 64 = .ok (.istore_n 3, 1) := by decide +kernel
theorem dX6_fastest_65 : decode cX6_fastest 65 = .ok (.iinc 4 1, 3) := by decide +kernel
theorem dX6_fastest_68 : decode cX6_fastest 68 = .ok (.goto (-30), 3) := by decide +kernel
theorem dX6_fastest_71 : decode cX6_fastest 71 = .ok (.aload_n 0, 1) := by decide +kernel
theorem dX6_fastest_72 : decode cX6_fastest 72 = .ok (.getfield 9, 3) := by decide +kernel
theorem dX6_fastest_75 : decode cX6_fastest 75 = .ok (.bipush 7, 2) := by decide +kernel
theorem dX6_fastest_77 : decode cX6_fastest 77 = .ok (.iload_n 2, 1) := by decide +kernel
theorem dX6_fastest_78 : decode cX6_fastest 78 = .ok (.iastore, 1) := by decide +kernel
theorem dX6_fastest_79 : decode cX6_fastest 79 = .ok (.iload_n 3, 1) := by decide +kernel
theorem dX6_fastest_80 : decode cX6_fastest 80 = .ok (.ireturn, 1) := by decide +kernel
theorem dX5_longer_0 : decode cX5_longer 0 = .ok (.aload_n 0, 1) := by decide +kernel
theorem dX5_longer_1 : decode cX5_longer 1 = .ok (.getfield 10, 3) := by decide +kernel
theorem dX5_longer_4 : decode cX5_longer 4 = .ok (.iload_n 1, 1) := by decide +kernel
theorem dX5_longer_5 : decode cX5_longer 5 = .ok (.invokevirtual 66, 3) := by decide +kernel
theorem dX5_longer_8 : decode cX5_longer 8 = .ok (.ifCond .eq 14, 3) := by decide +kernel
theorem dX5_longer_11 : decode cX5_longer 11 = .ok (.iload_n 2, 1) := by decide +kernel
theorem dX5_longer_12 : decode cX5_longer 12 = .ok (.iconst 0, 1) := by decide +kernel
theorem dX5_longer_13 : decode cX5_longer 13 = .ok (.sipush 9999, 3) := by decide +kernel
theorem dX5_longer_16 : decode cX5_longer 16 = .ok (.invokestatic 129, 3) := by decide +kernel
theorem dX5_longer_19 : decode cX5_longer 19 = .ok (.ifCond .ne 5, 3) := by decide +kernel
theorem dX5_longer_22 : decode cX5_longer 22 = .ok (.iconst (-1), 1) := by decide +kernel
theorem dX5_longer_23 : decode cX5_longer 23 = .ok (.ireturn, 1) := by decide +kernel
theorem dX5_longer_24 : decode cX5_longer 24 = .ok (.aload_n 0, 1) := by decide +kernel
theorem dX5_longer_25 : decode cX5_longer 25 = .ok (.invokevirtual 110, 3) := by decide +kernel
theorem dX5_longer_28 : decode cX5_longer 28 = .ok (.ifCond .ne 6, 3) := by decide +kernel
theorem dX5_longer_31 : decode cX5_longer 31 = .ok (.bipush (-3), 2) := by decide +kernel
theorem dX5_longer_33 : decode cX5_longer 33 = .ok (.ireturn, 1) := by decide +kernel
theorem dX5_longer_34 : decode cX5_longer 34 = .ok (.iconst 0, 1) := by decide +kernel
theorem dX5_longer_35 : decode cX5_longer 35 = .ok (.istore_n 3, 1) := by decide +kernel
theorem dX5_longer_36 : decode cX5_longer 36 = .ok (.iload_n 3, 1) := by decide +kernel
theorem dX5_longer_37 : decode cX5_longer 37 = .ok (.bipush 99, 2) := by decide +kernel
theorem dX5_longer_39 : decode cX5_longer 39 = .ok (.if_icmp .gt 39, 3) := by decide +kernel
theorem dX5_longer_42 : decode cX5_longer 42 = .ok (.aload_n 0, 1) := by decide +kernel
theorem dX5_longer_43 : decode cX5_longer 43 = .ok (.getfield 25, 3) := by decide +kernel
theorem dX5_longer_46 : decode cX5_longer 46 = .ok (.invokevirtual 143, 3) := by decide +kernel
theorem dX5_longer_49 : decode cX5_longer 49 = .ok (.iload_n 2, 1) := by decide +kernel
theorem dX5_longer_50 : decode cX5_longer 50 = .ok (.if_icmp .gt 5, 3) := by decide +kernel
theorem dX5_longer_53 : decode cX5_longer 53 = .ok (.iload_n 3, 1) := by decide +kernel
theorem dX5_longer_54 : decode cX5_longer 54 = .ok (.ireturn, 1) := by decide +kernel
theorem dX5_longer_55 : decode cX5_longer 55 = .ok (.aload_n 0, 1) := by decide +kernel
theorem dX5_longer_56 : decode cX5_longer 56 = .ok (.getfield 25, 3) := by decide +kernel
theorem dX5_longer_59 : decode cX5_longer 59 = .ok (.aload_n 0, 1) := by decide +kernel
theorem dX5_longer_60 : decode cX5_longer 60 = .ok (.getfield 10, 3) := by decide +kernel
theorem dX5_longer_63 : decode cX5_longer 63 = .ok (.getfield 70, 3) := by decide +kernel
theorem dX5_longer_66 : decode cX5_longer 66 = .ok (.iload_n 1, 1) := by decide +kernel
theorem dX5_longer_67 : decode cX5_longer 67 = .ok (.aaload, 1) := by decide +kernel
theorem dX5_longer_68 : decode cX5_longer 68 = .ok (.iconst 1, 1) := by decide +kernel
theorem dX5_longer_69 : decode cX5_longer 69 = .ok (.invokevirtual 158, 3) := by decide +kernel
theorem dX5_longer_72 : decode cX5_longer 72 = .ok (.iinc 3 1, 3) := by decide +kernel
theorem dX5_longer_75 : decode cX5_longer 75 = .ok (.goto (-39), 3) := by decide +kernel
theorem dX5_longer_78 : decode cX5_longer 78 = .ok (.bipush (-4), 2) := by decide +kernel
theorem dX5_longer_80 : decode cX5_longer 80 = .ok (.ireturn, 1) := by decide +kernel
theorem dX6_longer_0 : decode cX6_longer 0 = .ok (.aload_n 0, 1) := by decide +kernel
theorem dX6_longer_1 : decode cX6_longer 1 = .ok (.iload_n 1, 1) := by decide +kernel
theorem dX6_longer_2 : decode cX6_longer 2 = .ok (.invokevirtual 117, 3) := by decide +kernel
theorem dX6_longer_5 : decode cX6_longer 5 = .ok (.ifCond .eq 15, 3) := by decide +kernel
theorem dX6_longer_8 : decode cX6_longer 8 = .ok (.iload_n 2, 1) := by decide +kernel
theorem dX6_longer_9 : decode cX6_longer 9 = .ok (.i2l, 1) := by decide +kernel
theorem dX6_longer_10 : decode cX6_longer 10 = .ok (.lconst 0, 1) := by decide +kernel
theorem dX6_longer_11 : decode cX6_longer 11 = .ok (.ldc2_w 180, 3) := by decide +kernel
theorem dX6_longer_14 : decode cX6_longer 14 = .ok (.invokestatic 47, 3) := by decide +kernel
theorem dX6_longer_17 : decode cX6_longer 17 = .ok (.ifCond .ne 5, 3) := by decide +kernel
theorem dX6_longer_20 : decode cX6_longer 20 = .ok (.iconst (-1), 1) := by decide +kernel
theorem dX6_longer_21 : decode cX6_longer 21 = .ok (.ireturn, 1) := by decide +kernel
theorem dX6_longer_22 : decode cX6_longer 22 = .ok (.aload_n 0, 1) := by decide +kernel
theorem dX6_longer_23 : decode cX6_longer 23 = .ok (.invokevirtual 170, 3) := by decide +kernel
theorem dX6_longer_26 : decode cX6_longer 26 = .ok (.ifCond .ne 6, 3) := by decide +kernel
theorem dX6_longer_29 : decode cX6_longer 29 = .ok (.bipush (-3), 2) := by decide +kernel
theorem dX6_longer_31 : decode cX6_longer 31 = .ok (.ireturn, 1) := by decide +kernel
theorem dX6_longer_32 : decode cX6_longer 32 = .ok (.aload_n 0, 1) := by decide +kernel
theorem dX6_longer_33 : decode cX6_longer 33 = .ok (.iload_n 1, 1) := by decide +kernel
theorem dX6_longer_34 : decode cX6_longer 34 = .ok (.iconst 2, 1) := by decide +kernel
theorem dX6_longer_35 : decode cX6_longer 35 = .ok (.invokevirtual 111, 3) := by decide +kernel
theorem dX6_longer_38 : decode cX6_longer 38 = .ok (.istore_n 3, 1) := by decide +kernel
theorem dX6_longer_39 : decode cX6_longer 39 = .ok (.bipush (-4), 2) := by decide +kernel
theorem dX6_longer_41 : decode cX6_longer 41 = .ok (.istore 4, 2) := by decide +kernel
theorem dX6_longer_43 : decode cX6_longer 43 = .ok (.iconst 0, 1) := by decide +kernel
theorem dX6_longer_44 : decode cX6_longer 44 = .ok (.istore 5, 2) := by decide +kernel
theorem dX6_longer_46 : decode cX6_longer 46 = .ok (.iload 5, 2) := by decide +kernel
theorem dX6_longer_48 : decode cX6_longer 48 = .ok (.bipush 100, 2) := by decide +kernel
theorem dX6_longer_50 : decode cX6_longer 50 = .ok (.if_icmp .ge 44, 3) := by decide +kernel
theorem dX6_longer_53 : decode cX6_longer 53 = .ok (.iload 4, 2) := by decide +kernel
theorem dX6_longer_55 : decode cX6_longer 55 = .ok (.ifCond .ge 39, 3) := by decide +kernel
theorem dX6_longer_58 : decode cX6_longer 58 = .ok (.aload_n 0, 1) := by decide +kernel
theorem dX6_longer_59 : decode cX6_longer 59 = .ok (.iload_n 1, 1) := by decide +kernel
theorem dX6_longer_60 : decode cX6_longer 60 = .ok (.iconst 2, 1) := by decide +kernel
theorem dX6_longer_61 : decode cX6_longer 61 = .ok (.iload_n 3, 1) := by decide +kernel
theorem dX6_longer_62 : decode cX6_longer 62 = .ok (.iload 5, 2) := by decide +kernel
theorem dX6_longer_64 : decode cX6_longer 64 = .ok (.iadd, 1) := by decide +kernel
theorem dX6_longer_65 : decode cX6_longer 65 = .ok (.invokevirtual 191, 3) := by decide +kernel
theorem dX6_longer_68 : decode cX6_longer 68 = .ok (.aload_n 0, 1) := by decide +kernel
theorem dX6_longer_69 : decode cX6_longer 69 = .ok (.aload_n 0, 1) := by decide +kernel
theorem dX6_longer_70 : decode cX6_longer 70 = .ok (.invokevirtual 173, 3) := by decide +kernel
theorem dX6_longer_73 : decode cX6_longer 73 = .ok (.invokevirtual 176, 3) := by decide +kernel
theorem dX6_longer_76 : decode cX6_longer 76 = .ok (.aload_n 0, 1) := by decide +kernel
theorem dX6_longer_77 : decode cX6_longer 77 = .ok (.invokevirtual 201, 3) := by decide +kernel
theorem dX6_longer_80 : decode cX6_longer 80 = .ok (.iload_n 2, 1) := by decide +kernel
theorem dX6_longer_81 : decode cX6_longer 81 = .ok (.if_icmp .gt 7, 3) := by decide +kernel
theorem dX6_longer_84 : decode cX6_longer 84 = .ok (.iload 5, 2) := by decide +kernel
theorem dX6_longer_86 : decode cX6_longer 86 = .ok (.istore 4, 2) := by decide +kernel
theorem dX6_longer_88 : decode cX6_longer 88 = .ok (.iinc 5 1, 3) := by decide +kernel
theorem dX6_longer_91 : decode cX6_longer 91 = .ok (.goto (-45), 3) := by decide +kernel
theorem dX6_longer_94 : decode cX6_longer 94 = .ok (.aload_n 0, 1) := by decide +kernel
theorem dX6_longer_95 : decode cX6_longer 95 = .ok (.iload_n 1, 1) := by decide +kernel
theorem dX6_longer_96 : decode cX6_longer 96 = .ok (.iconst 2, 1) := by decide +kernel
theorem dX6_longer_97 : decode cX6_longer 97 = .ok (.iload_n 3, 1) := by decide +kernel
theorem dX6_longer_98 : decode cX6_longer 98 = .ok (.invokevirtual 191, 3) := by decide +kernel
theorem dX6_longer_101 : decode cX6_longer 101 = .ok (.iload 4, 2) := by decide +kernel
theorem dX6_longer_103 : decode cX6_longer 103 = .ok (.ireturn, 1) := by decide +kernel
theorem dX5_layStock_0 : decode cX5_layStock 0 = .ok (.aload_n 0, 1) := by decide +kernel
theorem dX5_layStock_1 : decode cX5_layStock 1 = .ok (.getfield 25, 3) := by decide +kernel
theorem dX5_layStock_4 : decode cX5_layStock 4 = .ok (.aload_n 0, 1) := by decide +kernel
theorem dX5_layStock_5 : decode cX5_layStock 5 = .ok (.getfield 10, 3) := by decide +kernel
theorem dX5_layStock_8 : decode cX5_layStock 8 = .ok (.invokevirtual 321, 3) := by decide +kernel
theorem dX5_layStock_11 : decode cX5_layStock 11 = .ok (.iconst 0, 1) := by decide +kernel
theorem dX5_layStock_12 : decode cX5_layStock 12 = .ok (.istore_n 2, 1) := by decide +kernel
theorem dX5_layStock_13 : decode cX5_layStock 13 = .ok (.iload_n 2, 1) := by decide +kernel
theorem dX5_layStock_14 : decode cX5_layStock 14 = .ok (.aload_n 0, 1) := by decide +kernel
theorem dX5_layStock_15 : decode cX5_layStock 15 = .ok (.getfield 10, 3) := by decide +kernel
theorem dX5_layStock_18 : decode cX5_layStock 18 = .ok (.getfield 162, 3) := by decide +kernel
theorem dX5_layStock_21 : decode cX5_layStock 21 = .ok (.if_icmp .ge 61, 3) := by decide +kernel
theorem dX5_layStock_24 : decode cX5_layStock 24 = .ok (.iload_n 1, 1) := by decide +kernel
theorem dX5_layStock_25 : decode cX5_layStock 25 = .ok (.iload_n 2, 1) := by decide +kernel
theorem dX5_layStock_26 : decode cX5_layStock 26 = .ok (.ishr, 1) := by decide +kernel
theorem dX5_layStock_27 : decode cX5_layStock 27 = .ok (.iconst 1, 1) := by decide +kernel
theorem dX5_layStock_28 : decode cX5_layStock 28 = .ok (.iand, 1) := by decide +kernel
theorem dX5_layStock_29 : decode cX5_layStock 29 = .ok (.ifCond .ne 6, 3) := by decide +kernel
theorem dX5_layStock_32 : decode cX5_layStock 32 = .ok (.goto 44, 3) := by decide +kernel
theorem dX5_layStock_35 : decode cX5_layStock 35 = .ok (.aload_n 0, 1) := by decide +kernel
theorem dX5_layStock_36 : decode cX5_layStock 36 = .ok (.getfield 10, 3) := by decide +kernel
theorem dX5_layStock_39 : decode cX5_layStock 39 = .ok (.getfield 99, 3) := by decide +kernel
theorem dX5_layStock_42 : decode cX5_layStock 42 = .ok (.iload_n 2, 1) := by decide +kernel
theorem dX5_layStock_43 : decode cX5_layStock 43 = .ok (.if_icmp .ne 5, 3) := by decide +kernel
theorem dX5_layStock_46 : decode cX5_layStock 46 = .ok (.iconst 0, 1) := by decide +kernel
theorem dX5_layStock_47 : decode cX5_layStock 47 = .ok (.ireturn, 1) := by decide +kernel
theorem dX5_layStock_48 : decode cX5_layStock 48 = .ok (.aload_n 0, 1) := by decide +kernel
theorem dX5_layStock_49 : decode cX5_layStock 49 = .ok (.getfield 25, 3) := by decide +kernel
theorem dX5_layStock_52 : decode cX5_layStock 52 = .ok (.aload_n 0, 1) := by decide +kernel
theorem dX5_layStock_53 : decode cX5_layStock 53 = .ok (.getfield 10, 3) := by decide +kernel
theorem dX5_layStock_56 : decode cX5_layStock 56 = .ok (.getfield 70, 3) := by decide +kernel
theorem dX5_layStock_59 : decode cX5_layStock 59 = .ok (.iload_n 2, 1) := by decide +kernel
theorem dX5_layStock_60 : decode cX5_layStock 60 = .ok (.aaload, 1) := by decide +kernel
theorem dX5_layStock_61 : decode cX5_layStock 61 = .ok (.aload_n 0, 1) := by decide +kernel
theorem dX5_layStock_62 : decode cX5_layStock 62 = .ok (.getfield 10, 3) := by decide +kernel
theorem dX5_layStock_65 : decode cX5_layStock 65 = .ok (.getfield 70, 3) := by decide +kernel
theorem dX5_layStock_68 : decode cX5_layStock 68 = .ok (.iload_n 2, 1) := by decide +kernel
theorem dX5_layStock_69 : decode cX5_layStock 69 = .ok (.aaload, 1) := by decide +kernel
theorem dX5_layStock_70 : decode cX5_layStock 70 = .ok (.getfield 78, 3) := by decide +kernel
theorem dX5_layStock_73 : decode cX5_layStock 73 = .ok (.invokevirtual 158, 3) := by decide +kernel
theorem dX5_layStock_76 : decode cX5_layStock 76 = .ok (.iinc 2 1, 3) := by decide +kernel
theorem dX5_layStock_79 : decode cX5_layStock 79 = .ok (.goto (-66), 3) := by decide +kernel
theorem dX5_layStock_82 : decode cX5_layStock 82 = .ok (.iconst 1, 1) := by decide +kernel
theorem dX5_layStock_83 : decode cX5_layStock 83 = .ok (.ireturn, 1) := by decide +kernel
theorem dX5_stock_0 : decode cX5_stock 0 = .ok (.iload_n 1, 1) := by decide +kernel
theorem dX5_stock_1 : decode cX5_stock 1 = .ok (.iconst 1, 1) := by decide +kernel
theorem dX5_stock_2 : decode cX5_stock 2 = .ok (.sipush 999, 3) := by decide +kernel
theorem dX5_stock_5 : decode cX5_stock 5 = .ok (.invokestatic 129, 3) := by decide +kernel
theorem dX5_stock_8 : decode cX5_stock 8 = .ok (.ifCond .eq 12, 3) := by decide +kernel
theorem dX5_stock_11 : decode cX5_stock 11 = .ok (.iload_n 2, 1) := by decide +kernel
theorem dX5_stock_12 : decode cX5_stock 12 = .ok (.iconst 0, 1) := by decide +kernel
theorem dX5_stock_13 : decode cX5_stock 13 = .ok (.iconst 1, 1) := by decide +kernel
theorem dX5_stock_14 : decode cX5_stock 14 = .ok (.invokestatic 129, 3) := by decide +kernel
theorem dX5_stock_17 : decode cX5_stock 17 = .ok (.ifCond .ne 5, 3) := by decide +kernel
theorem dX5_stock_20 : decode cX5_stock 20 = .ok (.iconst (-1), 1) := by decide +kernel
theorem dX5_stock_21 : decode cX5_stock 21 = .ok (.ireturn, 1) := by decide +kernel
theorem dX5_stock_22 : decode cX5_stock 22 = .ok (.bipush (-4), 2) := by decide +kernel
theorem dX5_stock_24 : decode cX5_stock 24 = .ok (.istore_n 3, 1) := by decide +kernel
theorem dX5_stock_25 : decode cX5_stock 25 = .ok (.bipush (-4), 2) := by decide +kernel
theorem dX5_stock_27 : decode cX5_stock 27 = .ok (.istore 4, 2) := by decide +kernel
theorem dX5_stock_29 : decode cX5_stock 29 = .ok (.iconst 1, 1) := by decide +kernel
theorem dX5_stock_30 : decode cX5_stock 30 = .ok (.istore 5, 2) := by decide +kernel
theorem dX5_stock_32 : decode cX5_stock 32 = .ok (.iload 5, 2) := by decide +kernel
theorem dX5_stock_34 : decode cX5_stock 34 = .ok (.iconst 1, 1) := by decide +kernel
theorem dX5_stock_35 : decode cX5_stock 35 = .ok (.aload_n 0, 1) := by decide +kernel
theorem dX5_stock_36 : decode cX5_stock 36 = .ok (.getfield 10, 3) := by decide +kernel
theorem dX5_stock_39 : decode cX5_stock 39 = .ok (.getfield 162, 3) := by decide +kernel
theorem dX5_stock_42 : decode cX5_stock 42 = .ok (.ishl, 1) := by decide +kernel
theorem dX5_stock_43 : decode cX5_stock 43 = .ok (.if_icmp .ge 61, 3) := by decide +kernel
theorem dX5_stock_46 : decode cX5_stock 46 = .ok (.aload_n 0, 1) := by decide +kernel
theorem dX5_stock_47 : decode cX5_stock 47 = .ok (.iload 5, 2) := by decide +kernel
theorem dX5_stock_49 : decode cX5_stock 49 = .ok (.invokevirtual 165, 3) := by decide +kernel
theorem dX5_stock_52 : decode cX5_stock 52 = .ok (.ifCond .eq 46, 3) := by decide +kernel
theorem dX5_stock_55 : decode cX5_stock 55 = .ok (.aload_n 0, 1) := by decide +kernel
theorem dX5_stock_56 : decode cX5_stock 56 = .ok (.getfield 25, 3) := by decide +kernel
theorem dX5_stock_59 : decode cX5_stock 59 = .ok (.getfield 114, 3) := by decide +kernel
theorem dX5_stock_62 : decode cX5_stock 62 = .ok (.iload_n 1, 1) := by decide +kernel
theorem dX5_stock_63 : decode cX5_stock 63 = .ok (.if_icmp .le 6, 3) := by decide +kernel
theorem dX5_stock_66 : decode cX5_stock 66 = .ok (.goto 32, 3) := by decide +kernel
theorem dX5_stock_69 : decode cX5_stock 69 = .ok (.aload_n 0, 1) := by decide +kernel
theorem dX5_stock_70 : decode cX5_stock 70 = .ok (.getfield 25, 3) := by decide +kernel
theorem dX5_stock_73 : decode cX5_stock 73 = .ok (.invokevirtual 143, 3) := by decide +kernel
theorem dX5_stock_76 : decode cX5_stock 76 = .ok (.istore 6, 2) := by decide +kernel
theorem dX5_stock_78 : decode cX5_stock 78 = .ok (.iload_n 3, 1) := by decide +kernel
theorem dX5_stock_79 : decode cX5_stock 79 = .ok (.bipush (-4), 2) := by decide +kernel
theorem dX5_stock_81 : decode cX5_stock 81 = .ok (.if_icmp .eq 10, 3) := by decide +kernel
theorem dX5_stock_84 : decode cX5_stock 84 = .ok (.iload 6, 2) := by decide +kernel
theorem dX5_stock_86 : decode cX5_stock 86 = .ok (.iload 4, 2) := by decide +kernel
theorem dX5_stock_88 : decode cX5_stock 88 = .ok (.if_icmp .ge 10, 3) := by decide +kernel
theorem dX5_stock_91 : decode cX5_stock 91 = .ok (.iload 5, 2) := by decide +kernel
theorem dX5_stock_93 : decode cX5_stock 93 = .ok (.istore_n 3, 1) := by decide +kernel
theorem dX5_stock_94 : decode cX5_stock 94 = .ok (.iload 6, 2) := by decide +kernel
theorem dX5_stock_96 : decode cX5_stock 96 = .ok (.istore 4, 2) := by decide +kernel
theorem dX5_stock_98 : decode cX5_stock 98 = .ok (.iinc 5 1, 3) := by decide +kernel
theorem dX5_stock_101 : decode cX5_stock 101 = .ok (.goto (-69), 3) := by decide +kernel
theorem dX5_stock_104 : decode cX5_stock 104 = .ok (.iload_n 2, 1) := by decide +kernel
theorem dX5_stock_105 : decode cX5_stock 105 = .ok (.ifCond .ne 7, 3) := by decide +kernel
theorem dX5_stock_108 : decode cX5_stock 108 = .ok (.iload_n 3, 1) := by decide +kernel
theorem dX5_stock_109 : decode cX5_stock 109 = .ok (.goto 5, 3) := by decide +kernel
theorem dX5_stock_112 : decode cX5_stock 112 = .ok (.iload 4, 2) := by decide +kernel
theorem dX5_stock_114 : decode cX5_stock 114 = .ok (.ireturn, 1) := by decide +kernel
theorem dX6_stock_0 : decode cX6_stock 0 = .ok (.iload_n 1, 1) := by decide +kernel
theorem dX6_stock_1 : decode cX6_stock 1 = .ok (.i2l, 1) := by decide +kernel
theorem dX6_stock_2 : decode cX6_stock 2 = .ok (.lconst 1, 1) := by decide +kernel
theorem dX6_stock_3 : decode cX6_stock 3 = .ok (.ldc2_w 211, 3) := by decide +kernel
theorem dX6_stock_6 : decode cX6_stock 6 = .ok (.invokestatic 47, 3) := by decide +kernel
theorem dX6_stock_9 : decode cX6_stock 9 = .ok (.ifCond .eq 13, 3) := by decide +kernel
theorem dX6_stock_12 : decode cX6_stock 12 = .ok (.iload_n 2, 1) := by decide +kernel
theorem dX6_stock_13 : decode cX6_stock 13 = .ok (.i2l, 1) := by decide +kernel
theorem dX6_stock_14 : decode cX6_stock 14 = .ok (.lconst 0, 1) := by decide +kernel
theorem dX6_stock_15 : decode cX6_stock 15 = .ok (.lconst 1, 1) := by decide +kernel
theorem dX6_stock_16 : decode cX6_stock 16 = .ok (.invokestatic 47, 3) := by decide +kernel
theorem dX6_stock_19 : decode cX6_stock 19 = .ok (.ifCond .ne 5, 3) := by decide +kernel
theorem dX6_stock_22 : decode cX6_stock 22 = .ok (.iconst (-1), 1) := by decide +kernel
theorem dX6_stock_23 : decode cX6_stock 23 = .ok (.ireturn, 1) := by decide +kernel
theorem dX6_stock_24 : decode cX6_stock 24 = .ok (.bipush (-4), 2) := by decide +kernel
theorem dX6_stock_26 : decode cX6_stock 26 = .ok (.istore_n 3, 1) := by decide +kernel
theorem dX6_stock_27 : decode cX6_stock 27 = .ok (.iconst 0, 1) := by decide +kernel
theorem dX6_stock_28 : decode cX6_stock 28 = .ok (.istore 4, 2) := by decide +kernel
theorem dX6_stock_30 : decode cX6_stock 30 = .ok (.iconst 1, 1) := by decide +kernel
theorem dX6_stock_31 : decode cX6_stock 31 = .ok (.istore 5, 2) := by decide +kernel
theorem dX6_stock_33 : decode cX6_stock 33 = .ok (.iload 5, 2) := by decide +kernel
theorem dX6_stock_35 : decode cX6_stock 35 = .ok (.aload_n 0, 1) := by decide +kernel
theorem dX6_stock_36 : decode cX6_stock 36 = .ok (.invokevirtual 173, 3) := by decide +kernel
theorem dX6_stock_39 : decode cX6_stock 39 = .ok (.if_icmp .gt 116, 3) := by decide +kernel
theorem dX6_stock_42 : decode cX6_stock 42 = .ok (.iconst 1, 1) := by decide +kernel
theorem dX6_stock_43 : decode cX6_stock 43 = .ok (.istore 6, 2) := by decide +kernel
theorem dX6_stock_45 : decode cX6_stock 45 = .ok (.iconst 0, 1) := by decide +kernel
theorem dX6_stock_46 : decode cX6_stock 46 = .ok (.istore 7, 2) := by decide +kernel
theorem dX6_stock_48 : decode cX6_stock 48 = .ok (.iload 7, 2) := by decide +kernel
theorem dX6_stock_50 : decode cX6_stock 50 = .ok (.aload_n 0, 1) := by decide +kernel
theorem dX6_stock_51 : decode cX6_stock 51 = .ok (.getfield 9, 3) := by decide +kernel
theorem dX6_stock_54 : decode cX6_stock 54 = .ok (.iconst 0, 1) := by decide +kernel
theorem dX6_stock_55 : decode cX6_stock 55 = .ok (.iaload, 1) := by decide +kernel
theorem dX6_stock_56 : decode cX6_stock 56 = .ok (.if_icmp .ge 41, 3) := by decide +kernel
theorem dX6_stock_59 : decode cX6_stock 59 = .ok (.iload 6, 2) := by decide +kernel
theorem dX6_stock_61 : decode cX6_stock 61 = .ok (.ifCond .eq 27, 3) := by decide +kernel
theorem dX6_stock_64 : decode cX6_stock 64 = .ok (.iload 5, 2) := by decide +kernel
theorem dX6_stock_66 : decode cX6_stock 66 = .ok (.iload 7, 2) := by decide +kernel
theorem dX6_stock_68 : decode cX6_stock 68 = .ok (.ishr, 1) := by decide +kernel
theorem dX6_stock_69 : decode cX6_stock 69 = .ok (.iconst 1, 1) := by decide +kernel
theorem dX6_stock_70 : decode cX6_stock 70 = .ok (.iand, 1) := by decide +kernel
theorem dX6_stock_71 : decode cX6_stock 71 = .ok (.ifCond .eq 13, 3) := by decide +kernel
theorem dX6_stock_74 : decode cX6_stock 74 = .ok (.aload_n 0, 1) := by decide +kernel
theorem dX6_stock_75 : decode cX6_stock 75 = .ok (.iload 7, 2) := by decide +kernel
theorem dX6_stock_77 : decode cX6_stock 77 = .ok (.iconst 4, 1) := by decide +kernel
theorem dX6_stock_78 : decode cX6_stock 78 = .ok (.invokevirtual 111, 3) := by decide +kernel
theorem dX6_stock_81 : decode cX6_stock 81 = .ok (.ifCond .ne 7, 3) := by decide +kernel
theorem dX6_stock_84 : decode cX6_stock 84 = .ok (.iconst 1, 1) := by decide +kernel
theorem dX6_stock_85 : decode cX6_stock 85 = .ok (.goto 4, 3) := by decide +kernel
theorem dX6_stock_88 : decode cX6_stock 88 = .ok (.iconst 0, 1) := by decide +kernel
theorem dX6_stock_89 : decode cX6_stock 89 = .ok (.istore 6, 2) := by decide +kernel
theorem dX6_stock_91 : decode cX6_stock 91 = .ok (.iinc 7 1, 3) := by decide +kernel
theorem dX6_stock_94 : decode cX6_stock 94 = .ok (.goto (-46), 3) := by decide +kernel
theorem dX6_stock_97 : decode cX6_stock 97 = .ok (.iload 6, 2) := by decide +kernel
theorem dX6_stock_99 : decode cX6_stock 99 = .ok (.ifCond .ne 6, 3) := by decide +kernel
theorem dX6_stock_102 : decode cX6_stock 102 = .ok (.goto 47, 3) := by decide +kernel
theorem dX6_stock_105 : decode cX6_stock 105 = .ok (.aload_n 0, 1) := by decide +kernel
theorem dX6_stock_106 : decode cX6_stock 106 = .ok (.iload 5, 2) := by decide +kernel
theorem dX6_stock_108 : decode cX6_stock 108 = .ok (.invokevirtual 176, 3) := by decide +kernel
theorem dX6_stock_111 : decode cX6_stock 111 = .ok (.aload_n 0, 1) := by decide +kernel
theorem dX6_stock_112 : decode cX6_stock 112 = .ok (.getfield 138, 3) := by decide +kernel
theorem dX6_stock_115 : decode cX6_stock 115 = .ok (.iload_n 1, 1) := by decide +kernel
theorem dX6_stock_116 : decode cX6_stock 116 = .ok (.if_icmp .le 6, 3) := by decide +kernel
theorem dX6_stock_119 : decode cX6_stock 119 = .ok (.goto 30, 3) := by decide +kernel
theorem dX6_stock_122 : decode cX6_stock 122 = .ok (.aload_n 0, 1) := by decide +kernel
theorem dX6_stock_123 : decode cX6_stock 123 = .ok (.invokevirtual 201, 3) := by decide +kernel
theorem dX6_stock_126 : decode cX6_stock 126 = .ok (.istore 7, 2) := by decide +kernel
theorem dX6_stock_128 : decode cX6_stock 128 = .ok (.iload_n 3, 1) := by decide +kernel
theorem dX6_stock_129 : decode cX6_stock 129 = .ok (.ifCond .lt 13, 3) := by decide +kernel
theorem dX6_stock_132 : decode cX6_stock 132 = .ok (.iload 7, 2) := by decide +kernel
theorem dX6_stock_134 : decode cX6_stock 134 = .ok (.iload 4, 2) := by decide +kernel
theorem dX6_stock_136 : decode cX6_stock 136 = .ok (.if_icmp .lt 6, 3) := by decide +kernel
theorem dX6_stock_139 : decode cX6_stock 139 = .ok (.goto 10, 3) := by decide +kernel
theorem dX6_stock_142 : decode cX6_stock 142 = .ok (.iload 5, 2) := by decide +kernel
theorem dX6_stock_144 : decode cX6_stock 144 = .ok (.istore_n 3, 1) := by decide +kernel
theorem dX6_stock_145 : decode cX6_stock 145 = .ok (.iload 7, 2) := by decide +kernel
theorem dX6_stock_147 : decode cX6_stock 147 = .ok (.istore 4, 2) := by decide +kernel
theorem dX6_stock_149 : decode cX6_stock 149 = .ok (.iinc 5 1, 3) := by decide +kernel
theorem dX6_stock_152 : decode cX6_stock 152 = .ok (.goto (-119), 3) := by decide +kernel
theorem dX6_stock_155 : decode cX6_stock 155 = .ok (.iload_n 3, 1) := by decide +kernel
theorem dX6_stock_156 : decode cX6_stock 156 = .ok (.ifCond .ge 8, 3) := by decide +kernel
theorem dX6_stock_159 : decode cX6_stock 159 = .ok (.bipush (-4), 2) := by decide +kernel
theorem dX6_stock_161 : decode cX6_stock 161 = .ok (.goto 13, 3) := by decide +kernel
theorem dX6_stock_164 : decode cX6_stock 164 = .ok (.iload_n 2, 1) := by decide +kernel
theorem dX6_stock_165 : decode cX6_stock 165 = .ok (.ifCond .ne 7, 3) := by decide +kernel
theorem dX6_stock_168 : decode cX6_stock 168 = .ok (.iload_n 3, 1) := by decide +kernel
theorem dX6_stock_169 : decode cX6_stock 169 = .ok (.goto 5, 3) := by decide +kernel
theorem dX6_stock_172 : decode cX6_stock 172 = .ok (.iload 4, 2) := by decide +kernel
theorem dX6_stock_174 : decode cX6_stock 174 = .ok (.ireturn, 1) := by decide +kernel
theorem dX5_bridge_0 : decode cX5_bridge 0 = .ok (.iload_n 1, 1) := by decide +kernel
theorem dX5_bridge_1 : decode cX5_bridge 1 = .ok (.iconst 0, 1) := by decide +kernel
theorem dX5_bridge_2 : decode cX5_bridge 2 = .ok (.bipush 7, 2) := by decide +kernel
theorem dX5_bridge_4 : decode cX5_bridge 4 = .ok (.invokestatic 129, 3) := by decide +kernel
theorem dX5_bridge_7 : decode cX5_bridge 7 = .ok (.ifCond .eq 13, 3) := by decide +kernel
theorem dX5_bridge_10 : decode cX5_bridge 10 = .ok (.iload_n 2, 1) := by decide +kernel
theorem dX5_bridge_11 : decode cX5_bridge 11 = .ok (.iconst 1, 1) := by decide +kernel
theorem dX5_bridge_12 : decode cX5_bridge 12 = .ok (.bipush 99, 2) := by decide +kernel
theorem dX5_bridge_14 : decode cX5_bridge 14 = .ok (.invokestatic 129, 3) := by decide +kernel
theorem dX5_bridge_17 : decode cX5_bridge 17 = .ok (.ifCond .ne 6, 3) := by decide +kernel
theorem dX5_bridge_20 : decode cX5_bridge 20 = .ok (.ldc 168, 2) := by decide +kernel
theorem dX5_bridge_22 : decode cX5_bridge 22 = .ok (.ireturn, 1) := by decide +kernel
theorem dX5_bridge_23 : decode cX5_bridge 23 = .ok (.aload_n 0, 1) := by decide +kernel
theorem dX5_bridge_24 : decode cX5_bridge 24 = .ok (.invokevirtual 110, 3) := by decide +kernel
theorem dX5_bridge_27 : decode cX5_bridge 27 = .ok (.ifCond .ne 6, 3) := by decide +kernel
theorem dX5_bridge_30 : decode cX5_bridge 30 = .ok (.ldc 169, 2) := by decide +kernel
theorem dX5_bridge_32 : decode cX5_bridge 32 = .ok (.ireturn, 1) := by decide +kernel
theorem dX5_bridge_33 : decode cX5_bridge 33 = .ok (.aload_n 0, 1) := by decide +kernel
theorem dX5_bridge_34 : decode cX5_bridge 34 = .ok (.getfield 25, 3) := by decide +kernel
theorem dX5_bridge_37 : decode cX5_bridge 37 = .ok (.invokevirtual 143, 3) := by decide +kernel
theorem dX5_bridge_40 : decode cX5_bridge 40 = .ok (.istore_n 3, 1) := by decide +kernel
theorem dX5_bridge_41 : decode cX5_bridge 41 = .ok (.aload_n 0, 1) := by decide +kernel
theorem dX5_bridge_42 : decode cX5_bridge 42 = .ok (.getfield 32, 3) := by decide +kernel
theorem dX5_bridge_45 : decode cX5_bridge 45 = .ok (.iload_n 1, 1) := by decide +kernel
theorem dX5_bridge_46 : decode cX5_bridge 46 = .ok (.iconst 0, 1) := by decide +kernel
theorem dX5_bridge_47 : decode cX5_bridge 47 = .ok (.iload_n 2, 1) := by decide +kernel
theorem dX5_bridge_48 : decode cX5_bridge 48 = .ok (.bipush 6, 2) := by decide +kernel
theorem dX5_bridge_50 : decode cX5_bridge 50 = .ok (.invokevirtual 170, 3) := by decide +kernel
theorem dX5_bridge_53 : decode cX5_bridge 53 = .ok (.aload_n 0, 1) := by decide +kernel
theorem dX5_bridge_54 : decode cX5_bridge 54 = .ok (.getfield 25, 3) := by decide +kernel
theorem dX5_bridge_57 : decode cX5_bridge 57 = .ok (.aload_n 0, 1) := by decide +kernel
theorem dX5_bridge_58 : decode cX5_bridge 58 = .ok (.getfield 32, 3) := by decide +kernel
theorem dX5_bridge_61 : decode cX5_bridge 61 = .ok (.iload_n 2, 1) := by decide +kernel
theorem dX5_bridge_62 : decode cX5_bridge 62 = .ok (.invokevirtual 158, 3) := by decide +kernel
theorem dX5_bridge_65 : decode cX5_bridge 65 = .ok (.iload_n 3, 1) := by decide +kernel
theorem dX5_bridge_66 : decode cX5_bridge 66 = .ok (.aload_n 0, 1) := by decide +kernel
theorem dX5_bridge_67 : decode cX5_bridge 67 = .ok (.getfield 25, 3) := by decide +kernel
theorem dX5_bridge_70 : decode cX5_bridge 70 = .ok (.invokevirtual 143, 3) := by decide +kernel
theorem dX5_bridge_73 : decode cX5_bridge 73 = .ok (.isub, 1) := by decide +kernel
theorem dX5_bridge_74 : decode cX5_bridge 74 = .ok (.ireturn, 1) := by decide +kernel
section WALK
variable {p : Program} {l : Launch} {e : Env} {s : State} {m : MethodId} {args : Array Value} {below : List Frame} {meth : Method} {c : Code} {G : GG}

def j_X6_partsIn_60 (post : Int32 → Mem → Prop) (M : Mem) (x2 : Int32) : Prop := q_X6_copies M 61 58 (fun M2 => post x2 M2)
def j_X6_partsIn_54 (k24 : Mem → Int32 → Int32 → Int32 → Prop) (post : Int32 → Mem → Prop) (M : Mem) (x1 : Int32) (x2 : Int32) (x3 : Int32) : Prop := k24 M x1 x2 (x3 + (1 : Int32))
def b_X6_partsIn_24 (k24 : Mem → Int32 → Int32 → Int32 → Prop) (post : Int32 → Mem → Prop) (M : Mem) (x1 : Int32) (x2 : Int32) (x3 : Int32) : Prop := (x1 ≤ x3 → (j_X6_partsIn_60 post M x2)) ∧ (¬ (x1 ≤ x3) → ((0 ≤ x2 → (j_X6_partsIn_60 post M x2)) ∧ (¬ (0 ≤ x2) → (q_X6_goesTenth M (M 58 5) (fun r5 M6 => ((M6 57 22) < 0 → (j_X6_partsIn_54 k24 post M6 x1 x2 x3)) ∧ (¬ ((M6 57 22) < 0) → (j_X6_partsIn_54 k24 post M6 x1 x3 x3)))))))
def lp_X6_partsIn_24 (post : Int32 → Mem → Prop) : Nat → Mem → Int32 → Int32 → Int32 → Prop
  | 0 => fun _ _ _ _ => False
  | n + 1 => fun M x1 x2 x3 => b_X6_partsIn_24 (lp_X6_partsIn_24 post n) post M x1 x2 x3
def q_X6_partsIn (M : Mem) (x1 : Int32) (post : Int32 → Mem → Prop) : Prop := q_X6_copies M 58 61 (fun M9 => q_X6_allPieces M9  (fun r10 M11 => q_X6_sumsUp M11 r10 (fun M13 => ∃ n, lp_X6_partsIn_24 post n M13 x1 (-4 : Int32) (0 : Int32))))
set_option maxHeartbeats 4000000 in
set_option maxRecDepth 100000 in
theorem t_X6_partsIn_60 (C : Cx G p s m args meth c RX6 cX6_partsIn 5 (some .int)) {post : Int32 → Mem → Prop} (M : Mem) (x2 : Int32) {H : Heap} {locs : List Loc} {ls : Array Slot} (w : Wd G s M H locs) (hl : lv_has ls 5 [(0, .ref (ga G 57)), (2, .int x2)]) (h : j_X6_partsIn_60 post M x2) : W p l e (rmk 5) s m args below meth c H locs 0 0 (MQ below (va_Qi post (Qw G) (Af G s.heap.size)) args s 0 0 (Af G s.heap.size)) (F0 m 60 ls []) := by
  have hx := C.1.1
  have hb := C.1.2.1
  unfold j_X6_partsIn_60 at h
  refine lv_aload_n hx hb dX6_partsIn_60 rfl (lv_at hl 0 rfl) ?_
  refine gt_6_3 C w kw_5_3 dX6_partsIn_61 ?_
  refine lv_aload_n hx hb dX6_partsIn_64 rfl (lv_at hl 0 rfl) ?_
  refine gt_6_0 C w kw_5_0 dX6_partsIn_65 ?_
  refine end_v w (run_S (As := [.ref (ga G 61), .ref (ga G 58)]) C w hl.1 (c_X6_copies l G C.2.2.1 _ _ 61 58 ⟨by decide, by decide⟩ ⟨by decide, by decide⟩ _ h) kw_13_8 kw_1_5 kw_13_6 kw_13_7 hd_X6_copies ⟨by decide, by decide⟩ rfl (Nat.le_of_ble_eq_true rfl) dX6_partsIn_68) (fun M2 H locs h w => ?_)
  refine lv_iload_n hx hb dX6_partsIn_71 rfl (lv_at hl 1 rfl) ?_
  exact ret_i C w h dX6_partsIn_72
set_option maxHeartbeats 4000000 in
set_option maxRecDepth 100000 in
theorem t_X6_partsIn_54 (C : Cx G p s m args meth c RX6 cX6_partsIn 5 (some .int)) {post : Int32 → Mem → Prop} {k24 : Mem → Int32 → Int32 → Int32 → Prop} (hk24 : ∀ (M : Mem) (x1 : Int32) (x2 : Int32) (x3 : Int32) (H : Heap) (locs : List Loc) (ls : Array Slot), Wd G s M H locs → lv_has ls 5 [(0, .ref (ga G 57)), (1, .int x1), (2, .int x2), (3, .int x3)] → k24 M x1 x2 x3 → W p l e (rmk 5) s m args below meth c H locs 0 0 (MQ below (va_Qi post (Qw G) (Af G s.heap.size)) args s 0 0 (Af G s.heap.size)) (F0 m 24 ls [])) (M : Mem) (x1 : Int32) (x2 : Int32) (x3 : Int32) {H : Heap} {locs : List Loc} {ls : Array Slot} (w : Wd G s M H locs) (hl : lv_has ls 5 [(0, .ref (ga G 57)), (1, .int x1), (2, .int x2), (3, .int x3)]) (h : j_X6_partsIn_54 k24 post M x1 x2 x3) : W p l e (rmk 5) s m args below meth c H locs 0 0 (MQ below (va_Qi post (Qw G) (Af G s.heap.size)) args s 0 0 (Af G s.heap.size)) (F0 m 54 ls []) := by
  have hx := C.1.1
  have hb := C.1.2.1
  unfold j_X6_partsIn_54 at h
  refine lv_iinc (v := (x3 + (1 : Int32))) (lv' := [(3, .int (x3 + (1 : Int32))), (0, .ref (ga G 57)), (1, .int x1), (2, .int x2)]) hx hb dX6_partsIn_54 hl (k := 3) rfl rfl (by decide) rfl (fun ls hl => ?_)
  refine lv_goto (tgt := 24) hx hb dX6_partsIn_57 (by decide) ?_
  exact hk24 M x1 x2 (x3 + (1 : Int32)) _ _ _  w (lv_sub hl [1, 2, 3, 0] rfl) h
set_option maxHeartbeats 4000000 in
set_option maxRecDepth 100000 in
theorem t_X6_partsIn_24 (C : Cx G p s m args meth c RX6 cX6_partsIn 5 (some .int)) {post : Int32 → Mem → Prop} : ∀ (n : Nat) (M : Mem) (x1 : Int32) (x2 : Int32) (x3 : Int32) {H : Heap} {locs : List Loc} {ls : Array Slot} (w : Wd G s M H locs) (hl : lv_has ls 5 [(0, .ref (ga G 57)), (1, .int x1), (2, .int x2), (3, .int x3)]) (h : lp_X6_partsIn_24 post n M x1 x2 x3), W p l e (rmk 5) s m args below meth c H locs 0 0 (MQ below (va_Qi post (Qw G) (Af G s.heap.size)) args s 0 0 (Af G s.heap.size)) (F0 m 24 ls []) := by
  have hx := C.1.1
  have hb := C.1.2.1
  intro n9
  induction n9 with
  | zero => intro M x1 x2 x3 H locs ls w hl h; exact absurd h id
  | succ n9 ih9 =>
    intro M x1 x2 x3 H locs ls w hl h
    have hk24 : ∀ (M : Mem) (x1 : Int32) (x2 : Int32) (x3 : Int32) (H : Heap) (locs : List Loc) (ls : Array Slot), Wd G s M H locs → lv_has ls 5 [(0, .ref (ga G 57)), (1, .int x1), (2, .int x2), (3, .int x3)] → lp_X6_partsIn_24 post n9 M x1 x2 x3 → W p l e (rmk 5) s m args below meth c H locs 0 0 (MQ below (va_Qi post (Qw G) (Af G s.heap.size)) args s 0 0 (Af G s.heap.size)) (F0 m 24 ls []) := fun M x1 x2 x3 H locs ls w hl h => ih9 M x1 x2 x3 w hl h
    replace h : b_X6_partsIn_24 (lp_X6_partsIn_24 post n9) post M x1 x2 x3 := h
    unfold b_X6_partsIn_24 at h
    refine lv_iload_n hx hb dX6_partsIn_24 rfl (lv_at hl 3 rfl) ?_
    refine lv_iload_n hx hb dX6_partsIn_25 rfl (lv_at hl 1 rfl) ?_
    refine lv_icmp_ge (tgt := 60) hx hb dX6_partsIn_26 (by decide) (fun c3 => ?_) (fun c3 => ?_)
    · replace h := h.1 c3
      exact t_X6_partsIn_60 C M x2  w (lv_sub hl [0, 2] rfl) h
    replace h := h.2 c3
    refine lv_iload_n hx hb dX6_partsIn_29 rfl (lv_at hl 2 rfl) ?_
    refine lv_if_ge (tgt := 60) hx hb dX6_partsIn_30 (by decide) (fun c4 => ?_) (fun c4 => ?_)
    · replace h := h.1 c4
      exact t_X6_partsIn_60 C M x2  w (lv_sub hl [0, 2] rfl) h
    replace h := h.2 c4
    refine lv_aload_n hx hb dX6_partsIn_33 rfl (lv_at hl 0 rfl) ?_
    refine lv_aload_n hx hb dX6_partsIn_34 rfl (lv_at hl 0 rfl) ?_
    refine gt_6_0 C w kw_5_0 dX6_partsIn_35 ?_
    refine lv_iconst (v := 5) hx hb dX6_partsIn_38 (by decide) ?_
    refine pw_ld C w (i := 58) (by decide) pE_58 (vl (x := (5 : Int32)) (by decide)) (k := 5) (by decide) dX6_partsIn_39 ?_
    refine end_i w (run_V (As := [.int (M 58 5)]) C w hl.1 (c_X6_goesTenth l G C.2.2.1 _ _ (M 58 5)  _ h) kw_21_22 kw_1_5 kw_21_19 kw_21_20 kw_21_21 hd_X6_goesTenth ⟨by decide, by decide⟩ (w.recv C (i := 57) (by decide) (pE_6) rfl) rfl (Nat.le_of_ble_eq_true rfl) dX6_partsIn_40) (fun r5 M6 H locs h w => ?_)
    refine lv_istore (lv' := [(4, .int r5), (0, .ref (ga G 57)), (1, .int x1), (2, .int x2), (3, .int x3)]) hx hb dX6_partsIn_43 hl (by decide) rfl (fun ls hl => ?_)
    refine lv_aload_n hx hb dX6_partsIn_45 rfl (lv_at hl 1 rfl) ?_
    refine gt_6_22 C w kw_21_23 dX6_partsIn_46 ?_
    refine lv_if_lt (tgt := 54) hx hb dX6_partsIn_49 (by decide) (fun c7 => ?_) (fun c7 => ?_)
    · replace h := h.1 c7
      exact t_X6_partsIn_54 C hk24 M6 x1 x2 x3  w (lv_sub hl [1, 2, 3, 4] rfl) h
    replace h := h.2 c7
    refine lv_iload_n hx hb dX6_partsIn_52 rfl (lv_at hl 4 rfl) ?_
    refine lv_istore_n (lv' := [(2, .int x3), (4, .int r5), (0, .ref (ga G 57)), (1, .int x1), (3, .int x3)]) hx hb dX6_partsIn_53 rfl hl (by decide) rfl (fun ls hl => ?_)
    exact t_X6_partsIn_54 C hk24 M6 x1 x3 x3  w (lv_sub hl [2, 3, 0, 4] rfl) h
set_option maxHeartbeats 4000000 in
set_option maxRecDepth 100000 in
theorem c_X6_partsIn (l : Launch) (G : GG) (hG : Ag G) (sz : Nat) (M : Mem) (x1 : Int32) (post : Int32 → Mem → Prop) (h : q_X6_partsIn M x1 post) : Met l yX6_partsIn (Cond.code yX6_partsIn cX6_partsIn 5 (some .int) :: wsL_law) (rmk 5) (va_Pc [.ref (ga G 57), .int x1] (Pw G sz M)) (va_Qi post (Qw G) (Af G sz)) 0 0 (Af G sz) := by
  refine Met.ofW (cc := cX6_partsIn) (maxL := 5) (ret := (some .int)) (by decide) rfl ?_
  intro p e s m args below meth c s₁ B hml hv
  obtain ⟨rfl, hsz, hE, hP⟩ := hv
  subst hsz
  have C := Cx.of (own := RX6) hG hE rfl hml B
  have w : Wd G s M s.heap [] := ⟨hP, va_S.rf⟩
  have hl := lv_entry [.ref (ga G 57), .int x1] (n := 5) (Nat.le_of_ble_eq_true rfl)
  rw [lg_entry_eq]
  generalize (lg_sl [.ref (ga G 57), .int x1] ++ List.replicate (5 - (lg_sl [.ref (ga G 57), .int x1]).length) Slot.unset).toArray = ls at hl ⊢
  have hl : lv_has ls 5 [(0, .ref (ga G 57)), (1, .int x1)] := hl
  have hx := C.1.1
  have hb := C.1.2.1
  show W p l e (rmk 5) s m _ below meth c s.heap [] 0 0 _ _
  unfold q_X6_partsIn at h
  refine lv_aload_n hx hb dX6_partsIn_0 rfl (lv_at hl 0 rfl) ?_
  refine gt_6_0 C w kw_5_0 dX6_partsIn_1 ?_
  refine lv_aload_n hx hb dX6_partsIn_4 rfl (lv_at hl 0 rfl) ?_
  refine gt_6_3 C w kw_5_3 dX6_partsIn_5 ?_
  refine end_v w (run_S (As := [.ref (ga G 58), .ref (ga G 61)]) C w hl.1 (c_X6_copies l G C.2.2.1 _ _ 58 61 ⟨by decide, by decide⟩ ⟨by decide, by decide⟩ _ h) kw_13_8 kw_1_5 kw_13_6 kw_13_7 hd_X6_copies ⟨by decide, by decide⟩ rfl (Nat.le_of_ble_eq_true rfl) dX6_partsIn_8) (fun M9 H locs h w => ?_)
  refine lv_aload_n hx hb dX6_partsIn_11 rfl (lv_at hl 0 rfl) ?_
  refine lv_aload_n hx hb dX6_partsIn_12 rfl (lv_at hl 0 rfl) ?_
  refine end_i w (run_V (As := []) C w hl.1 (c_X6_allPieces l G C.2.2.1 _ _   _ h) kw_17_15 kw_1_5 kw_17_12 kw_17_13 kw_17_14 hd_X6_allPieces ⟨by decide, by decide⟩ (w.recv C (i := 57) (by decide) (pE_6) rfl) rfl (Nat.le_of_ble_eq_true rfl) dX6_partsIn_13) (fun r10 M11 H locs h w => ?_)
  refine end_v w (run_V (As := [.int r10]) C w hl.1 (c_X6_sumsUp l G C.2.2.1 _ _ r10  _ h) kw_17_19 kw_1_5 kw_17_16 kw_17_17 kw_17_18 hd_X6_sumsUp ⟨by decide, by decide⟩ (w.recv C (i := 57) (by decide) (pE_6) rfl) rfl (Nat.le_of_ble_eq_true rfl) dX6_partsIn_16) (fun M13 H locs h w => ?_)
  refine lv_bipush (v := -4) hx hb dX6_partsIn_19 (by decide) ?_
  refine lv_istore_n (lv' := [(2, .int (-4 : Int32)), (0, .ref (ga G 57)), (1, .int x1)]) hx hb dX6_partsIn_21 rfl hl (by decide) rfl (fun ls hl => ?_)
  refine lv_iconst (v := 0) hx hb dX6_partsIn_22 (by decide) ?_
  refine lv_istore_n (lv' := [(3, .int (0 : Int32)), (2, .int (-4 : Int32)), (0, .ref (ga G 57)), (1, .int x1)]) hx hb dX6_partsIn_23 rfl hl (by decide) rfl (fun ls hl => ?_)
  obtain ⟨n, h⟩ := h
  exact t_X6_partsIn_24 C n M13 x1 (-4 : Int32) (0 : Int32)  w (lv_sub hl [2, 3, 1, 0] rfl) h
def j_X6_holds_75 (post : Int32 → Mem → Prop) (M : Mem) (y0 : Int32) : Prop := post y0 M
def j_X6_holds_67 (post : Int32 → Mem → Prop) (M : Mem) (x3 : Int32) : Prop := j_X6_holds_75 post M x3
def j_X6_holds_24 (post : Int32 → Mem → Prop) (M : Mem) : Prop := post (-1 : Int32) M
def q_X6_holds (M : Mem) (x1 : Int32) (x2 : Int32) (post : Int32 → Mem → Prop) : Prop := q_X6_isIn M x1.toInt64 (0 : Int64) (400 : Int64) (fun r1 M2 => (r1 = 0 → (j_X6_holds_24 post M2)) ∧ (¬ (r1 = 0) → (q_X6_isIn M2 x2.toInt64 (0 : Int64) (2 : Int64) (fun r4 M5 => (r4 = 0 → (j_X6_holds_24 post M5)) ∧ (¬ (r4 = 0) → (q_X6_isLine M5  (fun r7 M8 => (r7 = 0 → (post (-3 : Int32) M8)) ∧ (¬ (r7 = 0) → (q_X6_partsIn M8 x1 (fun r10 M11 => (x2 = 0 → ((0 ≤ r10 → (j_X6_holds_75 post M11 (0 : Int32))) ∧ (¬ (0 ≤ r10) → (j_X6_holds_75 post M11 (1 : Int32))))) ∧ (¬ (x2 = 0) → ((r10 < 0 → (j_X6_holds_67 post M11 r10)) ∧ (¬ (r10 < 0) → ((x2 = (1 : Int32) → (j_X6_holds_67 post M11 r10)) ∧ (¬ (x2 = (1 : Int32)) → (j_X6_holds_75 post M11 (M11 57 22)))))))))))))))))
set_option maxHeartbeats 4000000 in
set_option maxRecDepth 100000 in
theorem t_X6_holds_75 (C : Cx G p s m args meth c RX6 cX6_holds 4 (some .int)) {post : Int32 → Mem → Prop} (M : Mem) (y0 : Int32) {H : Heap} {locs : List Loc} {ls : Array Slot} (w : Wd G s M H locs) (hl : lv_has ls 4 []) (h : j_X6_holds_75 post M y0) : W p l e (rmk 6) s m args below meth c H locs 0 0 (MQ below (va_Qi post (Qw G) (Af G s.heap.size)) args s 0 0 (Af G s.heap.size)) (F0 m 75 ls [.int y0]) := by
  have hx := C.1.1
  have hb := C.1.2.1
  unfold j_X6_holds_75 at h
  exact ret_i C w h dX6_holds_75
set_option maxHeartbeats 4000000 in
set_option maxRecDepth 100000 in
theorem t_X6_holds_67 (C : Cx G p s m args meth c RX6 cX6_holds 4 (some .int)) {post : Int32 → Mem → Prop} (M : Mem) (x3 : Int32) {H : Heap} {locs : List Loc} {ls : Array Slot} (w : Wd G s M H locs) (hl : lv_has ls 4 [(3, .int x3)]) (h : j_X6_holds_67 post M x3) : W p l e (rmk 6) s m args below meth c H locs 0 0 (MQ below (va_Qi post (Qw G) (Af G s.heap.size)) args s 0 0 (Af G s.heap.size)) (F0 m 67 ls []) := by
  have hx := C.1.1
  have hb := C.1.2.1
  unfold j_X6_holds_67 at h
  refine lv_iload_n hx hb dX6_holds_67 rfl (lv_at hl 0 rfl) ?_
  refine lv_goto (tgt := 75) hx hb dX6_holds_68 (by decide) ?_
  exact t_X6_holds_75 C M x3  w (lv_sub hl [] rfl) h
set_option maxHeartbeats 4000000 in
set_option maxRecDepth 100000 in
theorem t_X6_holds_24 (C : Cx G p s m args meth c RX6 cX6_holds 4 (some .int)) {post : Int32 → Mem → Prop} (M : Mem) {H : Heap} {locs : List Loc} {ls : Array Slot} (w : Wd G s M H locs) (hl : lv_has ls 4 []) (h : j_X6_holds_24 post M) : W p l e (rmk 6) s m args below meth c H locs 0 0 (MQ below (va_Qi post (Qw G) (Af G s.heap.size)) args s 0 0 (Af G s.heap.size)) (F0 m 24 ls []) := by
  have hx := C.1.1
  have hb := C.1.2.1
  unfold j_X6_holds_24 at h
  refine lv_iconst (v := -1) hx hb dX6_holds_24 (by decide) ?_
  exact ret_i C w h dX6_holds_25
set_option maxHeartbeats 4000000 in
set_option maxRecDepth 100000 in
theorem c_X6_holds (l : Launch) (G : GG) (hG : Ag G) (sz : Nat) (M : Mem) (x1 : Int32) (x2 : Int32) (post : Int32 → Mem → Prop) (h : q_X6_holds M x1 x2 post) : Met l yX6_holds (Cond.code yX6_holds cX6_holds 4 (some .int) :: wsL_law) (rmk 6) (va_Pc [.ref (ga G 57), .int x1, .int x2] (Pw G sz M)) (va_Qi post (Qw G) (Af G sz)) 0 0 (Af G sz) := by
  refine Met.ofW (cc := cX6_holds) (maxL := 4) (ret := (some .int)) (by decide) rfl ?_
  intro p e s m args below meth c s₁ B hml hv
  obtain ⟨rfl, hsz, hE, hP⟩ := hv
  subst hsz
  have C := Cx.of (own := RX6) hG hE rfl hml B
  have w : Wd G s M s.heap [] := ⟨hP, va_S.rf⟩
  have hl := lv_entry [.ref (ga G 57), .int x1, .int x2] (n := 4) (Nat.le_of_ble_eq_true rfl)
  rw [lg_entry_eq]
  generalize (lg_sl [.ref (ga G 57), .int x1, .int x2] ++ List.replicate (4 - (lg_sl [.ref (ga G 57), .int x1, .int x2]).length) Slot.unset).toArray = ls at hl ⊢
  have hl : lv_has ls 4 [(0, .ref (ga G 57)), (1, .int x1), (2, .int x2)] := hl
  have hx := C.1.1
  have hb := C.1.2.1
  show W p l e (rmk 6) s m _ below meth c s.heap [] 0 0 _ _
  unfold q_X6_holds at h
  refine lv_iload_n hx hb dX6_holds_0 rfl (lv_at hl 1 rfl) ?_
  refine lv_i2l hx hb dX6_holds_1 rfl ?_
  refine lv_lconst (v := 0) hx hb dX6_holds_2 (by decide) ?_
  refine lv_ldc2 hx hb C.1.2.2.2.1 (C.ws kw_23_17) dX6_holds_3 ?_
  refine end_i w (run_S (As := [.long x1.toInt64, .long (0 : Int64), .long (400 : Int64)]) C w hl.1 (c_X6_isIn l G C.2.2.1 _ _ x1.toInt64 (0 : Int64) (400 : Int64)  _ h) kw_12_5 kw_1_5 kw_12_3 kw_12_4 hd_X6_isIn ⟨by decide, by decide⟩ rfl (Nat.le_of_ble_eq_true rfl) dX6_holds_6) (fun r1 M2 H locs h w => ?_)
  refine lv_if_eq (tgt := 24) hx hb dX6_holds_9 (by decide) (fun c3 => ?_) (fun c3 => ?_)
  · replace h := h.1 c3
    exact t_X6_holds_24 C M2   w (lv_sub hl [] rfl) h
  replace h := h.2 c3
  refine lv_iload_n hx hb dX6_holds_12 rfl (lv_at hl 2 rfl) ?_
  refine lv_i2l hx hb dX6_holds_13 rfl ?_
  refine lv_lconst (v := 0) hx hb dX6_holds_14 (by decide) ?_
  refine lv_ldc2 hx hb C.1.2.2.2.1 (C.ws kw_23_18) dX6_holds_15 ?_
  refine end_i w (run_S (As := [.long x2.toInt64, .long (0 : Int64), .long (2 : Int64)]) C w hl.1 (c_X6_isIn l G C.2.2.1 _ _ x2.toInt64 (0 : Int64) (2 : Int64)  _ h) kw_12_5 kw_1_5 kw_12_3 kw_12_4 hd_X6_isIn ⟨by decide, by decide⟩ rfl (Nat.le_of_ble_eq_true rfl) dX6_holds_18) (fun r4 M5 H locs h w => ?_)
  refine lv_if_ne (tgt := 26) hx hb dX6_holds_21 (by decide) (fun c6 => ?_) (fun c6 => ?_)
  · replace h := h.2 c6
    refine lv_aload_n hx hb dX6_holds_26 rfl (lv_at hl 0 rfl) ?_
    refine end_i w (run_V (As := []) C w hl.1 (c_X6_isLine l G C.2.2.1 _ _   _ h) kw_17_11 kw_1_5 kw_17_8 kw_17_9 kw_17_10 hd_X6_isLine ⟨by decide, by decide⟩ (w.recv C (i := 57) (by decide) (pE_6) rfl) rfl (Nat.le_of_ble_eq_true rfl) dX6_holds_27) (fun r7 M8 H locs h w => ?_)
    refine lv_if_ne (tgt := 36) hx hb dX6_holds_30 (by decide) (fun c9 => ?_) (fun c9 => ?_)
    · replace h := h.2 c9
      refine lv_aload_n hx hb dX6_holds_36 rfl (lv_at hl 0 rfl) ?_
      refine lv_iload_n hx hb dX6_holds_37 rfl (lv_at hl 1 rfl) ?_
      refine end_i w (run_V (As := [.int x1]) C w hl.1 (c_X6_partsIn l G C.2.2.1 _ _ x1  _ h) kw_23_22 kw_1_5 kw_23_19 kw_23_20 kw_23_21 hd_X6_partsIn ⟨by decide, by decide⟩ (w.recv C (i := 57) (by decide) (pE_6) rfl) rfl (Nat.le_of_ble_eq_true rfl) dX6_holds_38) (fun r10 M11 H locs h w => ?_)
      refine lv_istore_n (lv' := [(3, .int r10), (0, .ref (ga G 57)), (1, .int x1), (2, .int x2)]) hx hb dX6_holds_41 rfl hl (by decide) rfl (fun ls hl => ?_)
      refine lv_iload_n hx hb dX6_holds_42 rfl (lv_at hl 3 rfl) ?_
      refine lv_if_ne (tgt := 58) hx hb dX6_holds_43 (by decide) (fun c12 => ?_) (fun c12 => ?_)
      · replace h := h.2 c12
        refine lv_iload_n hx hb dX6_holds_58 rfl (lv_at hl 0 rfl) ?_
        refine lv_if_lt (tgt := 67) hx hb dX6_holds_59 (by decide) (fun c13 => ?_) (fun c13 => ?_)
        · replace h := h.1 c13
          exact t_X6_holds_67 C M11 r10  w (lv_sub hl [0] rfl) h
        replace h := h.2 c13
        refine lv_iload_n hx hb dX6_holds_62 rfl (lv_at hl 3 rfl) ?_
        refine lv_iconst (v := 1) hx hb dX6_holds_63 (by decide) ?_
        refine lv_icmp_ne (tgt := 71) hx hb dX6_holds_64 (by decide) (fun c14 => ?_) (fun c14 => ?_)
        · replace h := h.2 c14
          refine lv_aload_n hx hb dX6_holds_71 rfl (lv_at hl 1 rfl) ?_
          refine gt_6_22 C w kw_21_23 dX6_holds_72 ?_
          exact t_X6_holds_75 C M11 (M11 57 22)  w (lv_sub hl [] rfl) h
        replace h := h.1 c14
        exact t_X6_holds_67 C M11 r10  w (lv_sub hl [0] rfl) h
      replace h := h.1 c12
      refine lv_iload_n hx hb dX6_holds_46 rfl (lv_at hl 0 rfl) ?_
      refine lv_if_ge (tgt := 54) hx hb dX6_holds_47 (by decide) (fun c15 => ?_) (fun c15 => ?_)
      · replace h := h.1 c15
        refine lv_iconst (v := 0) hx hb dX6_holds_54 (by decide) ?_
        refine lv_goto (tgt := 75) hx hb dX6_holds_55 (by decide) ?_
        exact t_X6_holds_75 C M11 (0 : Int32)  w (lv_sub hl [] rfl) h
      replace h := h.2 c15
      refine lv_iconst (v := 1) hx hb dX6_holds_50 (by decide) ?_
      refine lv_goto (tgt := 75) hx hb dX6_holds_51 (by decide) ?_
      exact t_X6_holds_75 C M11 (1 : Int32)  w (lv_sub hl [] rfl) h
    replace h := h.1 c9
    refine lv_bipush (v := -3) hx hb dX6_holds_33 (by decide) ?_
    exact ret_i C w h dX6_holds_35
  replace h := h.1 c6
  exact t_X6_holds_24 C M5   w (lv_sub hl [] rfl) h
def b_X5_fastest_29 (k29 : Mem → Int32 → Int32 → Prop) (post : Int32 → Mem → Prop) (M : Mem) (x1 : Int32) (x2 : Int32) : Prop := (x2 < 0 → (post (-4 : Int32) M)) ∧ (¬ (x2 < 0) → (∀ M2 : Mem, M2 = (mup M 4 5 x2) → (q_X5_partsWithin M2 x1 (fun r3 M4 => (r3 = (-4 : Int32) → (post x2 M4)) ∧ (¬ (r3 = (-4 : Int32)) → (k29 M4 x1 (x2 + (-1 : Int32))))))))
def lp_X5_fastest_29 (post : Int32 → Mem → Prop) : Nat → Mem → Int32 → Int32 → Prop
  | 0 => fun _ _ _ => False
  | n + 1 => fun M x1 x2 => b_X5_fastest_29 (lp_X5_fastest_29 post n) post M x1 x2
def q_X5_fastest (M : Mem) (x1 : Int32) (post : Int32 → Mem → Prop) : Prop := q_X5_isWithin M x1 (0 : Int32) (400 : Int32) (fun r6 M7 => (r6 = 0 → (post (-1 : Int32) M7)) ∧ (¬ (r6 = 0) → (q_X5_layLine M7  (fun r9 M10 => (r9 = 0 → (post (-3 : Int32) M10)) ∧ (¬ (r9 = 0) → (∃ n, lp_X5_fastest_29 post n M10 x1 (mostT 2)))))))
set_option maxHeartbeats 4000000 in
set_option maxRecDepth 100000 in
theorem t_X5_fastest_29 (C : Cx G p s m args meth c RX5 cX5_fastest 3 (some .int)) {post : Int32 → Mem → Prop} : ∀ (n : Nat) (M : Mem) (x1 : Int32) (x2 : Int32) {H : Heap} {locs : List Loc} {ls : Array Slot} (w : Wd G s M H locs) (hl : lv_has ls 3 [(0, .ref (ga G 0)), (1, .int x1), (2, .int x2)]) (h : lp_X5_fastest_29 post n M x1 x2), W p l e (rmk 6) s m args below meth c H locs 0 0 (MQ below (va_Qi post (Qw G) (Af G s.heap.size)) args s 0 0 (Af G s.heap.size)) (F0 m 29 ls []) := by
  have hx := C.1.1
  have hb := C.1.2.1
  intro n9
  induction n9 with
  | zero => intro M x1 x2 H locs ls w hl h; exact absurd h id
  | succ n9 ih9 =>
    intro M x1 x2 H locs ls w hl h
    have hk29 : ∀ (M : Mem) (x1 : Int32) (x2 : Int32) (H : Heap) (locs : List Loc) (ls : Array Slot), Wd G s M H locs → lv_has ls 3 [(0, .ref (ga G 0)), (1, .int x1), (2, .int x2)] → lp_X5_fastest_29 post n9 M x1 x2 → W p l e (rmk 6) s m args below meth c H locs 0 0 (MQ below (va_Qi post (Qw G) (Af G s.heap.size)) args s 0 0 (Af G s.heap.size)) (F0 m 29 ls []) := fun M x1 x2 H locs ls w hl h => ih9 M x1 x2 w hl h
    replace h : b_X5_fastest_29 (lp_X5_fastest_29 post n9) post M x1 x2 := h
    unfold b_X5_fastest_29 at h
    refine lv_iload_n hx hb dX5_fastest_29 rfl (lv_at hl 2 rfl) ?_
    refine lv_if_lt (tgt := 59) hx hb dX5_fastest_30 (by decide) (fun c1 => ?_) (fun c1 => ?_)
    · replace h := h.1 c1
      refine lv_bipush (v := -4) hx hb dX5_fastest_59 (by decide) ?_
      exact ret_i C w h dX5_fastest_61
    replace h := h.2 c1
    refine lv_aload_n hx hb dX5_fastest_33 rfl (lv_at hl 0 rfl) ?_
    refine gt_5_3 C w kw_1_22 dX5_fastest_34 ?_
    refine lv_iload_n hx hb dX5_fastest_37 rfl (lv_at hl 2 rfl) ?_
    refine pn_0_5 C w kn_28 dX5_fastest_38 (fun H locs w => ?_)
    obtain ⟨M2, eM2⟩ : ∃ z : Mem, z = (mup M 4 5 x2) := ⟨_, rfl⟩
    replace w : Wd G s M2 H locs := by rw [eM2]; exact w
    replace h := h M2 eM2
    refine lv_aload_n hx hb dX5_fastest_41 rfl (lv_at hl 0 rfl) ?_
    refine lv_iload_n hx hb dX5_fastest_42 rfl (lv_at hl 1 rfl) ?_
    refine end_i w (run_V (As := [.int x1]) C w hl.1 (c_X5_partsWithin l G C.2.2.1 _ _ x1  _ h) kw_23_12 kw_1_2 kw_23_9 kw_23_10 kw_23_11 hd_X5_partsWithin ⟨by decide, by decide⟩ (w.recv C (i := 0) (by decide) (pE_5) rfl) rfl (Nat.le_of_ble_eq_true rfl) dX5_fastest_43) (fun r3 M4 H locs h w => ?_)
    refine lv_bipush (v := -4) hx hb dX5_fastest_46 (by decide) ?_
    refine lv_icmp_ne (tgt := 53) hx hb dX5_fastest_48 (by decide) (fun c5 => ?_) (fun c5 => ?_)
    · replace h := h.2 c5
      refine lv_iinc (v := (x2 + (-1 : Int32))) (lv' := [(2, .int (x2 + (-1 : Int32))), (0, .ref (ga G 0)), (1, .int x1)]) hx hb dX5_fastest_53 hl (k := 2) rfl rfl (by decide) rfl (fun ls hl => ?_)
      refine lv_goto (tgt := 29) hx hb dX5_fastest_56 (by decide) ?_
      exact hk29 M4 x1 (x2 + (-1 : Int32)) _ _ _  w (lv_sub hl [1, 2, 0] rfl) h
    replace h := h.1 c5
    refine lv_iload_n hx hb dX5_fastest_51 rfl (lv_at hl 2 rfl) ?_
    exact ret_i C w h dX5_fastest_52
set_option maxHeartbeats 4000000 in
set_option maxRecDepth 100000 in
theorem c_X5_fastest (l : Launch) (G : GG) (hG : Ag G) (sz : Nat) (M : Mem) (x1 : Int32) (post : Int32 → Mem → Prop) (h : q_X5_fastest M x1 post) : Met l yX5_fastest (Cond.code yX5_fastest cX5_fastest 3 (some .int) :: wsL_law) (rmk 6) (va_Pc [.ref (ga G 0), .int x1] (Pw G sz M)) (va_Qi post (Qw G) (Af G sz)) 0 0 (Af G sz) := by
  refine Met.ofW (cc := cX5_fastest) (maxL := 3) (ret := (some .int)) (by decide) rfl ?_
  intro p e s m args below meth c s₁ B hml hv
  obtain ⟨rfl, hsz, hE, hP⟩ := hv
  subst hsz
  have C := Cx.of (own := RX5) hG hE rfl hml B
  have w : Wd G s M s.heap [] := ⟨hP, va_S.rf⟩
  have hl := lv_entry [.ref (ga G 0), .int x1] (n := 3) (Nat.le_of_ble_eq_true rfl)
  rw [lg_entry_eq]
  generalize (lg_sl [.ref (ga G 0), .int x1] ++ List.replicate (3 - (lg_sl [.ref (ga G 0), .int x1]).length) Slot.unset).toArray = ls at hl ⊢
  have hl : lv_has ls 3 [(0, .ref (ga G 0)), (1, .int x1)] := hl
  have hx := C.1.1
  have hb := C.1.2.1
  show W p l e (rmk 6) s m _ below meth c s.heap [] 0 0 _ _
  unfold q_X5_fastest at h
  refine lv_iload_n hx hb dX5_fastest_0 rfl (lv_at hl 1 rfl) ?_
  refine lv_iconst (v := 0) hx hb dX5_fastest_1 (by decide) ?_
  refine lv_sipush (v := 400) hx hb dX5_fastest_2 (by decide) ?_
  refine end_i w (run_S (As := [.int x1, .int (0 : Int32), .int (400 : Int32)]) C w hl.1 (c_X5_isWithin l G C.2.2.1 _ _ x1 (0 : Int32) (400 : Int32)  _ h) kw_6_8 kw_1_2 kw_6_6 kw_6_7 hd_X5_isWithin ⟨by decide, by decide⟩ rfl (Nat.le_of_ble_eq_true rfl) dX5_fastest_5) (fun r6 M7 H locs h w => ?_)
  refine lv_if_ne (tgt := 13) hx hb dX5_fastest_8 (by decide) (fun c8 => ?_) (fun c8 => ?_)
  · replace h := h.2 c8
    refine lv_aload_n hx hb dX5_fastest_13 rfl (lv_at hl 0 rfl) ?_
    refine end_i w (run_V (As := []) C w hl.1 (c_X5_layLine l G C.2.2.1 _ _   _ h) kw_15_21 kw_1_2 kw_15_18 kw_15_19 kw_15_20 hd_X5_layLine ⟨by decide, by decide⟩ (w.recv C (i := 0) (by decide) (pE_5) rfl) rfl (Nat.le_of_ble_eq_true rfl) dX5_fastest_14) (fun r9 M10 H locs h w => ?_)
    refine lv_if_ne (tgt := 23) hx hb dX5_fastest_17 (by decide) (fun c11 => ?_) (fun c11 => ?_)
    · replace h := h.2 c11
      refine gs_gM C w kw_24_3 dX5_fastest_23 ?_
      refine lv_iconst (v := 2) hx hb dX5_fastest_26 (by decide) ?_
      refine ts_gM C w (vl (x := (2 : Int32)) (by decide)) (k := 2) (by decide) dX5_fastest_27 ?_
      refine lv_istore_n (lv' := [(2, .int (mostT 2)), (0, .ref (ga G 0)), (1, .int x1)]) hx hb dX5_fastest_28 rfl hl (by decide) rfl (fun ls hl => ?_)
      obtain ⟨n, h⟩ := h
      exact t_X5_fastest_29 C n M10 x1 (mostT 2)  w (lv_sub hl [1, 2, 0] rfl) h
    replace h := h.1 c11
    refine lv_bipush (v := -3) hx hb dX5_fastest_20 (by decide) ?_
    exact ret_i C w h dX5_fastest_22
  replace h := h.1 c8
  refine lv_iconst (v := -1) hx hb dX5_fastest_11 (by decide) ?_
  exact ret_i C w h dX5_fastest_12
def j_X6_fastest_65 (k38 : Mem → Int32 → Int32 → Int32 → Int32 → Prop) (post : Int32 → Mem → Prop) (M : Mem) (x1 : Int32) (x2 : Int32) (x3 : Int32) (x4 : Int32) : Prop := k38 M x1 x2 x3 (x4 + (1 : Int32))
def b_X6_fastest_38 (k38 : Mem → Int32 → Int32 → Int32 → Int32 → Prop) (post : Int32 → Mem → Prop) (M : Mem) (x1 : Int32) (x2 : Int32) (x3 : Int32) (x4 : Int32) : Prop := ((10 : Int32) ≤ x4 → (∀ M2 : Mem, M2 = (mup M 58 7 x2) → (post x3 M2))) ∧ (¬ ((10 : Int32) ≤ x4) → (∀ M3 : Mem, M3 = (mup M 58 7 x4) → (q_X6_partsIn M3 x1 (fun r4 M5 => (0 ≤ r4 → (j_X6_fastest_65 k38 post M5 x1 x2 x3 x4)) ∧ (¬ (0 ≤ r4) → (j_X6_fastest_65 k38 post M5 x1 x2 x4 x4))))))
def lp_X6_fastest_38 (post : Int32 → Mem → Prop) : Nat → Mem → Int32 → Int32 → Int32 → Int32 → Prop
  | 0 => fun _ _ _ _ _ => False
  | n + 1 => fun M x1 x2 x3 x4 => b_X6_fastest_38 (lp_X6_fastest_38 post n) post M x1 x2 x3 x4
def q_X6_fastest (M : Mem) (x1 : Int32) (post : Int32 → Mem → Prop) : Prop := q_X6_isIn M x1.toInt64 (0 : Int64) (400 : Int64) (fun r7 M8 => (r7 = 0 → (post (-1 : Int32) M8)) ∧ (¬ (r7 = 0) → (q_X6_isLine M8  (fun r10 M11 => (r10 = 0 → (post (-3 : Int32) M11)) ∧ (¬ (r10 = 0) → (∃ n, lp_X6_fastest_38 post n M11 x1 (M11 58 7) (-4 : Int32) (0 : Int32)))))))
set_option maxHeartbeats 4000000 in
set_option maxRecDepth 100000 in
theorem t_X6_fastest_65 (C : Cx G p s m args meth c RX6 cX6_fastest 5 (some .int)) {post : Int32 → Mem → Prop} {k38 : Mem → Int32 → Int32 → Int32 → Int32 → Prop} (hk38 : ∀ (M : Mem) (x1 : Int32) (x2 : Int32) (x3 : Int32) (x4 : Int32) (H : Heap) (locs : List Loc) (ls : Array Slot), Wd G s M H locs → lv_has ls 5 [(0, .ref (ga G 57)), (1, .int x1), (2, .int x2), (3, .int x3), (4, .int x4)] → k38 M x1 x2 x3 x4 → W p l e (rmk 6) s m args below meth c H locs 0 0 (MQ below (va_Qi post (Qw G) (Af G s.heap.size)) args s 0 0 (Af G s.heap.size)) (F0 m 38 ls [])) (M : Mem) (x1 : Int32) (x2 : Int32) (x3 : Int32) (x4 : Int32) {H : Heap} {locs : List Loc} {ls : Array Slot} (w : Wd G s M H locs) (hl : lv_has ls 5 [(0, .ref (ga G 57)), (1, .int x1), (2, .int x2), (3, .int x3), (4, .int x4)]) (h : j_X6_fastest_65 k38 post M x1 x2 x3 x4) : W p l e (rmk 6) s m args below meth c H locs 0 0 (MQ below (va_Qi post (Qw G) (Af G s.heap.size)) args s 0 0 (Af G s.heap.size)) (F0 m 65 ls []) := by
  have hx := C.1.1
  have hb := C.1.2.1
  unfold j_X6_fastest_65 at h
  refine lv_iinc (v := (x4 + (1 : Int32))) (lv' := [(4, .int (x4 + (1 : Int32))), (0, .ref (ga G 57)), (1, .int x1), (2, .int x2), (3, .int x3)]) hx hb dX6_fastest_65 hl (k := 4) rfl rfl (by decide) rfl (fun ls hl => ?_)
  refine lv_goto (tgt := 38) hx hb dX6_fastest_68 (by decide) ?_
  exact hk38 M x1 x2 x3 (x4 + (1 : Int32)) _ _ _  w (lv_sub hl [1, 2, 3, 4, 0] rfl) h
set_option maxHeartbeats 4000000 in
set_option maxRecDepth 100000 in
theorem t_X6_fastest_38 (C : Cx G p s m args meth c RX6 cX6_fastest 5 (some .int)) {post : Int32 → Mem → Prop} : ∀ (n : Nat) (M : Mem) (x1 : Int32) (x2 : Int32) (x3 : Int32) (x4 : Int32) {H : Heap} {locs : List Loc} {ls : Array Slot} (w : Wd G s M H locs) (hl : lv_has ls 5 [(0, .ref (ga G 57)), (1, .int x1), (2, .int x2), (3, .int x3), (4, .int x4)]) (h : lp_X6_fastest_38 post n M x1 x2 x3 x4), W p l e (rmk 6) s m args below meth c H locs 0 0 (MQ below (va_Qi post (Qw G) (Af G s.heap.size)) args s 0 0 (Af G s.heap.size)) (F0 m 38 ls []) := by
  have hx := C.1.1
  have hb := C.1.2.1
  intro n9
  induction n9 with
  | zero => intro M x1 x2 x3 x4 H locs ls w hl h; exact absurd h id
  | succ n9 ih9 =>
    intro M x1 x2 x3 x4 H locs ls w hl h
    have hk38 : ∀ (M : Mem) (x1 : Int32) (x2 : Int32) (x3 : Int32) (x4 : Int32) (H : Heap) (locs : List Loc) (ls : Array Slot), Wd G s M H locs → lv_has ls 5 [(0, .ref (ga G 57)), (1, .int x1), (2, .int x2), (3, .int x3), (4, .int x4)] → lp_X6_fastest_38 post n9 M x1 x2 x3 x4 → W p l e (rmk 6) s m args below meth c H locs 0 0 (MQ below (va_Qi post (Qw G) (Af G s.heap.size)) args s 0 0 (Af G s.heap.size)) (F0 m 38 ls []) := fun M x1 x2 x3 x4 H locs ls w hl h => ih9 M x1 x2 x3 x4 w hl h
    replace h : b_X6_fastest_38 (lp_X6_fastest_38 post n9) post M x1 x2 x3 x4 := h
    unfold b_X6_fastest_38 at h
    refine lv_iload hx hb dX6_fastest_38 (lv_at hl 4 rfl) ?_
    refine lv_bipush (v := 10) hx hb dX6_fastest_40 (by decide) ?_
    refine lv_icmp_ge (tgt := 71) hx hb dX6_fastest_42 (by decide) (fun c1 => ?_) (fun c1 => ?_)
    · replace h := h.1 c1
      refine lv_aload_n hx hb dX6_fastest_71 rfl (lv_at hl 0 rfl) ?_
      refine gt_6_0 C w kw_5_0 dX6_fastest_72 ?_
      refine lv_bipush (v := 7) hx hb dX6_fastest_75 (by decide) ?_
      refine lv_iload_n hx hb dX6_fastest_77 rfl (lv_at hl 2 rfl) ?_
      refine pw_st C w (i := 58) (by decide) (fun _ => pE_58) (vl (x := (7 : Int32)) (by decide)) (k := 7) (by decide) dX6_fastest_78 (fun H locs w => ?_)
      obtain ⟨M2, eM2⟩ : ∃ z : Mem, z = (mup M 58 7 x2) := ⟨_, rfl⟩
      replace w : Wd G s M2 H locs := by rw [eM2]; exact w
      replace h := h M2 eM2
      refine lv_iload_n hx hb dX6_fastest_79 rfl (lv_at hl 3 rfl) ?_
      exact ret_i C w h dX6_fastest_80
    replace h := h.2 c1
    refine lv_aload_n hx hb dX6_fastest_45 rfl (lv_at hl 0 rfl) ?_
    refine gt_6_0 C w kw_5_0 dX6_fastest_46 ?_
    refine lv_bipush (v := 7) hx hb dX6_fastest_49 (by decide) ?_
    refine lv_iload hx hb dX6_fastest_51 (lv_at hl 4 rfl) ?_
    refine pw_st C w (i := 58) (by decide) (fun _ => pE_58) (vl (x := (7 : Int32)) (by decide)) (k := 7) (by decide) dX6_fastest_53 (fun H locs w => ?_)
    obtain ⟨M3, eM3⟩ : ∃ z : Mem, z = (mup M 58 7 x4) := ⟨_, rfl⟩
    replace w : Wd G s M3 H locs := by rw [eM3]; exact w
    replace h := h M3 eM3
    refine lv_aload_n hx hb dX6_fastest_54 rfl (lv_at hl 0 rfl) ?_
    refine lv_iload_n hx hb dX6_fastest_55 rfl (lv_at hl 1 rfl) ?_
    refine end_i w (run_V (As := [.int x1]) C w hl.1 (c_X6_partsIn l G C.2.2.1 _ _ x1  _ h) kw_23_22 kw_1_5 kw_23_19 kw_23_20 kw_23_21 hd_X6_partsIn ⟨by decide, by decide⟩ (w.recv C (i := 57) (by decide) (pE_6) rfl) rfl (Nat.le_of_ble_eq_true rfl) dX6_fastest_56) (fun r4 M5 H locs h w => ?_)
    refine lv_if_ge (tgt := 65) hx hb dX6_fastest_59 (by decide) (fun c6 => ?_) (fun c6 => ?_)
    · replace h := h.1 c6
      exact t_X6_fastest_65 C hk38 M5 x1 x2 x3 x4  w (lv_sub hl [0, 1, 2, 3, 4] rfl) h
    replace h := h.2 c6
    refine lv_iload hx hb dX6_fastest_62 (lv_at hl 4 rfl) ?_
    refine lv_istore_n (lv' := [(3, .int x4), (0, .ref (ga G 57)), (1, .int x1), (2, .int x2), (4, .int x4)]) hx hb dX6_fastest_64 rfl hl (by decide) rfl (fun ls hl => ?_)
    exact t_X6_fastest_65 C hk38 M5 x1 x2 x4 x4  w (lv_sub hl [1, 2, 3, 0, 4] rfl) h
set_option maxHeartbeats 4000000 in
set_option maxRecDepth 100000 in
theorem c_X6_fastest (l : Launch) (G : GG) (hG : Ag G) (sz : Nat) (M : Mem) (x1 : Int32) (post : Int32 → Mem → Prop) (h : q_X6_fastest M x1 post) : Met l yX6_fastest (Cond.code yX6_fastest cX6_fastest 5 (some .int) :: wsL_law) (rmk 6) (va_Pc [.ref (ga G 57), .int x1] (Pw G sz M)) (va_Qi post (Qw G) (Af G sz)) 0 0 (Af G sz) := by
  refine Met.ofW (cc := cX6_fastest) (maxL := 5) (ret := (some .int)) (by decide) rfl ?_
  intro p e s m args below meth c s₁ B hml hv
  obtain ⟨rfl, hsz, hE, hP⟩ := hv
  subst hsz
  have C := Cx.of (own := RX6) hG hE rfl hml B
  have w : Wd G s M s.heap [] := ⟨hP, va_S.rf⟩
  have hl := lv_entry [.ref (ga G 57), .int x1] (n := 5) (Nat.le_of_ble_eq_true rfl)
  rw [lg_entry_eq]
  generalize (lg_sl [.ref (ga G 57), .int x1] ++ List.replicate (5 - (lg_sl [.ref (ga G 57), .int x1]).length) Slot.unset).toArray = ls at hl ⊢
  have hl : lv_has ls 5 [(0, .ref (ga G 57)), (1, .int x1)] := hl
  have hx := C.1.1
  have hb := C.1.2.1
  show W p l e (rmk 6) s m _ below meth c s.heap [] 0 0 _ _
  unfold q_X6_fastest at h
  refine lv_iload_n hx hb dX6_fastest_0 rfl (lv_at hl 1 rfl) ?_
  refine lv_i2l hx hb dX6_fastest_1 rfl ?_
  refine lv_lconst (v := 0) hx hb dX6_fastest_2 (by decide) ?_
  refine lv_ldc2 hx hb C.1.2.2.2.1 (C.ws kw_23_17) dX6_fastest_3 ?_
  refine end_i w (run_S (As := [.long x1.toInt64, .long (0 : Int64), .long (400 : Int64)]) C w hl.1 (c_X6_isIn l G C.2.2.1 _ _ x1.toInt64 (0 : Int64) (400 : Int64)  _ h) kw_12_5 kw_1_5 kw_12_3 kw_12_4 hd_X6_isIn ⟨by decide, by decide⟩ rfl (Nat.le_of_ble_eq_true rfl) dX6_fastest_6) (fun r7 M8 H locs h w => ?_)
  refine lv_if_ne (tgt := 14) hx hb dX6_fastest_9 (by decide) (fun c9 => ?_) (fun c9 => ?_)
  · replace h := h.2 c9
    refine lv_aload_n hx hb dX6_fastest_14 rfl (lv_at hl 0 rfl) ?_
    refine end_i w (run_V (As := []) C w hl.1 (c_X6_isLine l G C.2.2.1 _ _   _ h) kw_17_11 kw_1_5 kw_17_8 kw_17_9 kw_17_10 hd_X6_isLine ⟨by decide, by decide⟩ (w.recv C (i := 57) (by decide) (pE_6) rfl) rfl (Nat.le_of_ble_eq_true rfl) dX6_fastest_15) (fun r10 M11 H locs h w => ?_)
    refine lv_if_ne (tgt := 24) hx hb dX6_fastest_18 (by decide) (fun c12 => ?_) (fun c12 => ?_)
    · replace h := h.2 c12
      refine lv_aload_n hx hb dX6_fastest_24 rfl (lv_at hl 0 rfl) ?_
      refine gt_6_0 C w kw_5_0 dX6_fastest_25 ?_
      refine lv_bipush (v := 7) hx hb dX6_fastest_28 (by decide) ?_
      refine pw_ld C w (i := 58) (by decide) pE_58 (vl (x := (7 : Int32)) (by decide)) (k := 7) (by decide) dX6_fastest_30 ?_
      refine lv_istore_n (lv' := [(2, .int (M11 58 7)), (0, .ref (ga G 57)), (1, .int x1)]) hx hb dX6_fastest_31 rfl hl (by decide) rfl (fun ls hl => ?_)
      refine lv_bipush (v := -4) hx hb dX6_fastest_32 (by decide) ?_
      refine lv_istore_n (lv' := [(3, .int (-4 : Int32)), (2, .int (M11 58 7)), (0, .ref (ga G 57)), (1, .int x1)]) hx hb dX6_fastest_34 rfl hl (by decide) rfl (fun ls hl => ?_)
      refine lv_iconst (v := 0) hx hb dX6_fastest_35 (by decide) ?_
      refine lv_istore (lv' := [(4, .int (0 : Int32)), (3, .int (-4 : Int32)), (2, .int (M11 58 7)), (0, .ref (ga G 57)), (1, .int x1)]) hx hb dX6_fastest_36 hl (by decide) rfl (fun ls hl => ?_)
      obtain ⟨n, h⟩ := h
      exact t_X6_fastest_38 C n M11 x1 (M11 58 7) (-4 : Int32) (0 : Int32)  w (lv_sub hl [3, 4, 2, 1, 0] rfl) h
    replace h := h.1 c12
    refine lv_bipush (v := -3) hx hb dX6_fastest_21 (by decide) ?_
    exact ret_i C w h dX6_fastest_23
  replace h := h.1 c9
  refine lv_iconst (v := -1) hx hb dX6_fastest_12 (by decide) ?_
  exact ret_i C w h dX6_fastest_13
def b_X5_longer_36 (k36 : Mem → Int32 → Int32 → Int32 → Prop) (post : Int32 → Mem → Prop) (M : Mem) (x1 : Int32) (x2 : Int32) (x3 : Int32) : Prop := ((99 : Int32) < x3 → (post (-4 : Int32) M)) ∧ (¬ ((99 : Int32) < x3) → (q_X0_greatestPull M  (fun r2 M3 => (x2 < r2 → (vp_in x1 6 ∧ (q_X0_add M3 (38 + x1.toNatClampNeg) (1 : Int32) (fun M7 => k36 M7 x1 x2 (x3 + (1 : Int32)))))) ∧ (¬ (x2 < r2) → (post x3 M3)))))
def lp_X5_longer_36 (post : Int32 → Mem → Prop) : Nat → Mem → Int32 → Int32 → Int32 → Prop
  | 0 => fun _ _ _ _ => False
  | n + 1 => fun M x1 x2 x3 => b_X5_longer_36 (lp_X5_longer_36 post n) post M x1 x2 x3
def j_X5_longer_22 (post : Int32 → Mem → Prop) (M : Mem) : Prop := post (-1 : Int32) M
def q_X5_longer (M : Mem) (x1 : Int32) (x2 : Int32) (post : Int32 → Mem → Prop) : Prop := q_X4_has M 1 x1 (fun r8 M9 => (r8 = 0 → (j_X5_longer_22 post M9)) ∧ (¬ (r8 = 0) → (q_X5_isWithin M9 x2 (0 : Int32) (9999 : Int32) (fun r11 M12 => (r11 = 0 → (j_X5_longer_22 post M12)) ∧ (¬ (r11 = 0) → (q_X5_layLine M12  (fun r14 M15 => (r14 = 0 → (post (-3 : Int32) M15)) ∧ (¬ (r14 = 0) → (∃ n, lp_X5_longer_36 post n M15 x1 x2 (0 : Int32))))))))))
set_option maxHeartbeats 4000000 in
set_option maxRecDepth 100000 in
theorem t_X5_longer_36 (C : Cx G p s m args meth c RX5 cX5_longer 4 (some .int)) {post : Int32 → Mem → Prop} : ∀ (n : Nat) (M : Mem) (x1 : Int32) (x2 : Int32) (x3 : Int32) {H : Heap} {locs : List Loc} {ls : Array Slot} (w : Wd G s M H locs) (hl : lv_has ls 4 [(0, .ref (ga G 0)), (1, .int x1), (2, .int x2), (3, .int x3)]) (h : lp_X5_longer_36 post n M x1 x2 x3), W p l e (rmk 5) s m args below meth c H locs 0 0 (MQ below (va_Qi post (Qw G) (Af G s.heap.size)) args s 0 0 (Af G s.heap.size)) (F0 m 36 ls []) := by
  have hx := C.1.1
  have hb := C.1.2.1
  intro n9
  induction n9 with
  | zero => intro M x1 x2 x3 H locs ls w hl h; exact absurd h id
  | succ n9 ih9 =>
    intro M x1 x2 x3 H locs ls w hl h
    have hk36 : ∀ (M : Mem) (x1 : Int32) (x2 : Int32) (x3 : Int32) (H : Heap) (locs : List Loc) (ls : Array Slot), Wd G s M H locs → lv_has ls 4 [(0, .ref (ga G 0)), (1, .int x1), (2, .int x2), (3, .int x3)] → lp_X5_longer_36 post n9 M x1 x2 x3 → W p l e (rmk 5) s m args below meth c H locs 0 0 (MQ below (va_Qi post (Qw G) (Af G s.heap.size)) args s 0 0 (Af G s.heap.size)) (F0 m 36 ls []) := fun M x1 x2 x3 H locs ls w hl h => ih9 M x1 x2 x3 w hl h
    replace h : b_X5_longer_36 (lp_X5_longer_36 post n9) post M x1 x2 x3 := h
    unfold b_X5_longer_36 at h
    refine lv_iload_n hx hb dX5_longer_36 rfl (lv_at hl 3 rfl) ?_
    refine lv_bipush (v := 99) hx hb dX5_longer_37 (by decide) ?_
    refine lv_icmp_gt (tgt := 78) hx hb dX5_longer_39 (by decide) (fun c1 => ?_) (fun c1 => ?_)
    · replace h := h.1 c1
      refine lv_bipush (v := -4) hx hb dX5_longer_78 (by decide) ?_
      exact ret_i C w h dX5_longer_80
    replace h := h.2 c1
    refine lv_aload_n hx hb dX5_longer_42 rfl (lv_at hl 0 rfl) ?_
    refine gt_5_3 C w kw_1_22 dX5_longer_43 ?_
    refine end_i w (run_VN (As := []) C w hl.1 (c_X0_greatestPull l G C.2.2.1 _ _   _ h) kw_22_14 kw_1_21 kn_68 kw_22_12 kw_22_13 hd_X0_greatestPull ⟨by decide, by decide⟩ (w.recv C (i := 4) (by decide) (pE_0) rfl) rfl (Nat.le_of_ble_eq_true rfl) dX5_longer_46) (fun r2 M3 H locs h w => ?_)
    refine lv_iload_n hx hb dX5_longer_49 rfl (lv_at hl 2 rfl) ?_
    refine lv_icmp_gt (tgt := 55) hx hb dX5_longer_50 (by decide) (fun c4 => ?_) (fun c4 => ?_)
    · replace h := h.1 c4
      refine lv_aload_n hx hb dX5_longer_55 rfl (lv_at hl 0 rfl) ?_
      refine gt_5_3 C w kw_1_22 dX5_longer_56 ?_
      refine lv_aload_n hx hb dX5_longer_59 rfl (lv_at hl 0 rfl) ?_
      refine gt_5_0 C w kw_1_16 dX5_longer_60 ?_
      refine gn_4_0 C w ⟨by decide, by decide⟩ kn_13 dX5_longer_63 ?_
      refine lv_iload_n hx hb dX5_longer_66 rfl (lv_at hl 1 rfl) ?_
      have hin5 := h.1
      replace h := h.2
      have hz_hin5 := in_lt hin5
      refine pw_ldP C w (i := 8) ⟨by decide, by decide⟩ hin5 dX5_longer_67 (j := (38 + x1.toNatClampNeg)) (by omega) ?_
      refine lv_iconst (v := 1) hx hb dX5_longer_68 (by decide) ?_
      refine end_v w (run_VN (As := [.ref (ga G (38 + x1.toNatClampNeg)), .int (1 : Int32)]) C w hl.1 (c_X0_add l G C.2.2.1 _ _ (38 + x1.toNatClampNeg) (1 : Int32) (by omega) _ h) kw_16_6 kw_1_21 kn_57 kw_16_4 kw_16_5 hd_X0_add ⟨by decide, by decide⟩ (w.recv C (i := 4) (by decide) (pE_0) rfl) rfl (Nat.le_of_ble_eq_true rfl) dX5_longer_69) (fun M7 H locs h w => ?_)
      refine lv_iinc (v := (x3 + (1 : Int32))) (lv' := [(3, .int (x3 + (1 : Int32))), (0, .ref (ga G 0)), (1, .int x1), (2, .int x2)]) hx hb dX5_longer_72 hl (k := 3) rfl rfl (by decide) rfl (fun ls hl => ?_)
      refine lv_goto (tgt := 36) hx hb dX5_longer_75 (by decide) ?_
      exact hk36 M7 x1 x2 (x3 + (1 : Int32)) _ _ _  w (lv_sub hl [1, 2, 3, 0] rfl) h
    replace h := h.2 c4
    refine lv_iload_n hx hb dX5_longer_53 rfl (lv_at hl 3 rfl) ?_
    exact ret_i C w h dX5_longer_54
set_option maxHeartbeats 4000000 in
set_option maxRecDepth 100000 in
theorem t_X5_longer_22 (C : Cx G p s m args meth c RX5 cX5_longer 4 (some .int)) {post : Int32 → Mem → Prop} (M : Mem) {H : Heap} {locs : List Loc} {ls : Array Slot} (w : Wd G s M H locs) (hl : lv_has ls 4 []) (h : j_X5_longer_22 post M) : W p l e (rmk 5) s m args below meth c H locs 0 0 (MQ below (va_Qi post (Qw G) (Af G s.heap.size)) args s 0 0 (Af G s.heap.size)) (F0 m 22 ls []) := by
  have hx := C.1.1
  have hb := C.1.2.1
  unfold j_X5_longer_22 at h
  refine lv_iconst (v := -1) hx hb dX5_longer_22 (by decide) ?_
  exact ret_i C w h dX5_longer_23
set_option maxHeartbeats 4000000 in
set_option maxRecDepth 100000 in
theorem c_X5_longer (l : Launch) (G : GG) (hG : Ag G) (sz : Nat) (M : Mem) (x1 : Int32) (x2 : Int32) (post : Int32 → Mem → Prop) (h : q_X5_longer M x1 x2 post) : Met l yX5_longer (Cond.code yX5_longer cX5_longer 4 (some .int) :: wsL_law) (rmk 5) (va_Pc [.ref (ga G 0), .int x1, .int x2] (Pw G sz M)) (va_Qi post (Qw G) (Af G sz)) 0 0 (Af G sz) := by
  refine Met.ofW (cc := cX5_longer) (maxL := 4) (ret := (some .int)) (by decide) rfl ?_
  intro p e s m args below meth c s₁ B hml hv
  obtain ⟨rfl, hsz, hE, hP⟩ := hv
  subst hsz
  have C := Cx.of (own := RX5) hG hE rfl hml B
  have w : Wd G s M s.heap [] := ⟨hP, va_S.rf⟩
  have hl := lv_entry [.ref (ga G 0), .int x1, .int x2] (n := 4) (Nat.le_of_ble_eq_true rfl)
  rw [lg_entry_eq]
  generalize (lg_sl [.ref (ga G 0), .int x1, .int x2] ++ List.replicate (4 - (lg_sl [.ref (ga G 0), .int x1, .int x2]).length) Slot.unset).toArray = ls at hl ⊢
  have hl : lv_has ls 4 [(0, .ref (ga G 0)), (1, .int x1), (2, .int x2)] := hl
  have hx := C.1.1
  have hb := C.1.2.1
  show W p l e (rmk 5) s m _ below meth c s.heap [] 0 0 _ _
  unfold q_X5_longer at h
  refine lv_aload_n hx hb dX5_longer_0 rfl (lv_at hl 0 rfl) ?_
  refine gt_5_0 C w kw_1_16 dX5_longer_1 ?_
  refine lv_iload_n hx hb dX5_longer_4 rfl (lv_at hl 1 rfl) ?_
  refine end_i w (run_VN (As := [.int x1]) C w hl.1 (c_X4_has l G C.2.2.1 _ _ 1 x1 ⟨by decide, by decide⟩ _ h) kw_13_22 kw_1_15 kn_53 kw_13_20 kw_13_21 hd_X4_has ⟨by decide, by decide⟩ (w.recv C (i := 1) (by decide) (pE_4 ⟨by decide, by decide⟩) rfl) rfl (Nat.le_of_ble_eq_true rfl) dX5_longer_5) (fun r8 M9 H locs h w => ?_)
  refine lv_if_eq (tgt := 22) hx hb dX5_longer_8 (by decide) (fun c10 => ?_) (fun c10 => ?_)
  · replace h := h.1 c10
    exact t_X5_longer_22 C M9   w (lv_sub hl [] rfl) h
  replace h := h.2 c10
  refine lv_iload_n hx hb dX5_longer_11 rfl (lv_at hl 2 rfl) ?_
  refine lv_iconst (v := 0) hx hb dX5_longer_12 (by decide) ?_
  refine lv_sipush (v := 9999) hx hb dX5_longer_13 (by decide) ?_
  refine end_i w (run_S (As := [.int x2, .int (0 : Int32), .int (9999 : Int32)]) C w hl.1 (c_X5_isWithin l G C.2.2.1 _ _ x2 (0 : Int32) (9999 : Int32)  _ h) kw_6_8 kw_1_2 kw_6_6 kw_6_7 hd_X5_isWithin ⟨by decide, by decide⟩ rfl (Nat.le_of_ble_eq_true rfl) dX5_longer_16) (fun r11 M12 H locs h w => ?_)
  refine lv_if_ne (tgt := 24) hx hb dX5_longer_19 (by decide) (fun c13 => ?_) (fun c13 => ?_)
  · replace h := h.2 c13
    refine lv_aload_n hx hb dX5_longer_24 rfl (lv_at hl 0 rfl) ?_
    refine end_i w (run_V (As := []) C w hl.1 (c_X5_layLine l G C.2.2.1 _ _   _ h) kw_15_21 kw_1_2 kw_15_18 kw_15_19 kw_15_20 hd_X5_layLine ⟨by decide, by decide⟩ (w.recv C (i := 0) (by decide) (pE_5) rfl) rfl (Nat.le_of_ble_eq_true rfl) dX5_longer_25) (fun r14 M15 H locs h w => ?_)
    refine lv_if_ne (tgt := 34) hx hb dX5_longer_28 (by decide) (fun c16 => ?_) (fun c16 => ?_)
    · replace h := h.2 c16
      refine lv_iconst (v := 0) hx hb dX5_longer_34 (by decide) ?_
      refine lv_istore_n (lv' := [(3, .int (0 : Int32)), (0, .ref (ga G 0)), (1, .int x1), (2, .int x2)]) hx hb dX5_longer_35 rfl hl (by decide) rfl (fun ls hl => ?_)
      obtain ⟨n, h⟩ := h
      exact t_X5_longer_36 C n M15 x1 x2 (0 : Int32)  w (lv_sub hl [1, 2, 3, 0] rfl) h
    replace h := h.1 c16
    refine lv_bipush (v := -3) hx hb dX5_longer_31 (by decide) ?_
    exact ret_i C w h dX5_longer_33
  replace h := h.1 c13
  exact t_X5_longer_22 C M12   w (lv_sub hl [] rfl) h
def j_X6_longer_94 (post : Int32 → Mem → Prop) (M : Mem) (x1 : Int32) (x3 : Int32) (x4 : Int32) : Prop := q_X6_puts M x1 (2 : Int32) x3 (fun M2 => post x4 M2)
def j_X6_longer_88 (k46 : Mem → Int32 → Int32 → Int32 → Int32 → Int32 → Prop) (post : Int32 → Mem → Prop) (M : Mem) (x1 : Int32) (x2 : Int32) (x3 : Int32) (x4 : Int32) (x5 : Int32) : Prop := k46 M x1 x2 x3 x4 (x5 + (1 : Int32))
def b_X6_longer_46 (k46 : Mem → Int32 → Int32 → Int32 → Int32 → Int32 → Prop) (post : Int32 → Mem → Prop) (M : Mem) (x1 : Int32) (x2 : Int32) (x3 : Int32) (x4 : Int32) (x5 : Int32) : Prop := ((100 : Int32) ≤ x5 → (j_X6_longer_94 post M x1 x3 x4)) ∧ (¬ ((100 : Int32) ≤ x5) → ((0 ≤ x4 → (j_X6_longer_94 post M x1 x3 x4)) ∧ (¬ (0 ≤ x4) → (q_X6_puts M x1 (2 : Int32) (x3 + x5) (fun M6 => q_X6_allPieces M6  (fun r7 M8 => q_X6_sumsUp M8 r7 (fun M10 => q_X6_greatestOf M10  (fun r11 M12 => (x2 < r11 → (j_X6_longer_88 k46 post M12 x1 x2 x3 x4 x5)) ∧ (¬ (x2 < r11) → (j_X6_longer_88 k46 post M12 x1 x2 x3 x5 x5))))))))))
def lp_X6_longer_46 (post : Int32 → Mem → Prop) : Nat → Mem → Int32 → Int32 → Int32 → Int32 → Int32 → Prop
  | 0 => fun _ _ _ _ _ _ => False
  | n + 1 => fun M x1 x2 x3 x4 x5 => b_X6_longer_46 (lp_X6_longer_46 post n) post M x1 x2 x3 x4 x5
def j_X6_longer_20 (post : Int32 → Mem → Prop) (M : Mem) : Prop := post (-1 : Int32) M
def q_X6_longer (M : Mem) (x1 : Int32) (x2 : Int32) (post : Int32 → Mem → Prop) : Prop := q_X6_isPiece M x1 (fun r14 M15 => (r14 = 0 → (j_X6_longer_20 post M15)) ∧ (¬ (r14 = 0) → (q_X6_isIn M15 x2.toInt64 (0 : Int64) (9999 : Int64) (fun r17 M18 => (r17 = 0 → (j_X6_longer_20 post M18)) ∧ (¬ (r17 = 0) → (q_X6_isLine M18  (fun r20 M21 => (r20 = 0 → (post (-3 : Int32) M21)) ∧ (¬ (r20 = 0) → (q_X6_get M21 x1 (2 : Int32) (fun r23 M24 => ∃ n, lp_X6_longer_46 post n M24 x1 x2 r23 (-4 : Int32) (0 : Int32)))))))))))
set_option maxHeartbeats 4000000 in
set_option maxRecDepth 100000 in
theorem t_X6_longer_94 (C : Cx G p s m args meth c RX6 cX6_longer 6 (some .int)) {post : Int32 → Mem → Prop} (M : Mem) (x1 : Int32) (x3 : Int32) (x4 : Int32) {H : Heap} {locs : List Loc} {ls : Array Slot} (w : Wd G s M H locs) (hl : lv_has ls 6 [(0, .ref (ga G 57)), (1, .int x1), (3, .int x3), (4, .int x4)]) (h : j_X6_longer_94 post M x1 x3 x4) : W p l e (rmk 5) s m args below meth c H locs 0 0 (MQ below (va_Qi post (Qw G) (Af G s.heap.size)) args s 0 0 (Af G s.heap.size)) (F0 m 94 ls []) := by
  have hx := C.1.1
  have hb := C.1.2.1
  unfold j_X6_longer_94 at h
  refine lv_aload_n hx hb dX6_longer_94 rfl (lv_at hl 0 rfl) ?_
  refine lv_iload_n hx hb dX6_longer_95 rfl (lv_at hl 1 rfl) ?_
  refine lv_iconst (v := 2) hx hb dX6_longer_96 (by decide) ?_
  refine lv_iload_n hx hb dX6_longer_97 rfl (lv_at hl 2 rfl) ?_
  refine end_v w (run_V (As := [.int x1, .int (2 : Int32), .int x3]) C w hl.1 (c_X6_puts l G C.2.2.1 _ _ x1 (2 : Int32) x3  _ h) kw_22_7 kw_1_5 kw_22_4 kw_22_5 kw_22_6 hd_X6_puts ⟨by decide, by decide⟩ (w.recv C (i := 57) (by decide) (pE_6) rfl) rfl (Nat.le_of_ble_eq_true rfl) dX6_longer_98) (fun M2 H locs h w => ?_)
  refine lv_iload hx hb dX6_longer_101 (lv_at hl 3 rfl) ?_
  exact ret_i C w h dX6_longer_103
set_option maxHeartbeats 4000000 in
set_option maxRecDepth 100000 in
theorem t_X6_longer_88 (C : Cx G p s m args meth c RX6 cX6_longer 6 (some .int)) {post : Int32 → Mem → Prop} {k46 : Mem → Int32 → Int32 → Int32 → Int32 → Int32 → Prop} (hk46 : ∀ (M : Mem) (x1 : Int32) (x2 : Int32) (x3 : Int32) (x4 : Int32) (x5 : Int32) (H : Heap) (locs : List Loc) (ls : Array Slot), Wd G s M H locs → lv_has ls 6 [(0, .ref (ga G 57)), (1, .int x1), (2, .int x2), (3, .int x3), (4, .int x4), (5, .int x5)] → k46 M x1 x2 x3 x4 x5 → W p l e (rmk 5) s m args below meth c H locs 0 0 (MQ below (va_Qi post (Qw G) (Af G s.heap.size)) args s 0 0 (Af G s.heap.size)) (F0 m 46 ls [])) (M : Mem) (x1 : Int32) (x2 : Int32) (x3 : Int32) (x4 : Int32) (x5 : Int32) {H : Heap} {locs : List Loc} {ls : Array Slot} (w : Wd G s M H locs) (hl : lv_has ls 6 [(0, .ref (ga G 57)), (1, .int x1), (2, .int x2), (3, .int x3), (4, .int x4), (5, .int x5)]) (h : j_X6_longer_88 k46 post M x1 x2 x3 x4 x5) : W p l e (rmk 5) s m args below meth c H locs 0 0 (MQ below (va_Qi post (Qw G) (Af G s.heap.size)) args s 0 0 (Af G s.heap.size)) (F0 m 88 ls []) := by
  have hx := C.1.1
  have hb := C.1.2.1
  unfold j_X6_longer_88 at h
  refine lv_iinc (v := (x5 + (1 : Int32))) (lv' := [(5, .int (x5 + (1 : Int32))), (0, .ref (ga G 57)), (1, .int x1), (2, .int x2), (3, .int x3), (4, .int x4)]) hx hb dX6_longer_88 hl (k := 5) rfl rfl (by decide) rfl (fun ls hl => ?_)
  refine lv_goto (tgt := 46) hx hb dX6_longer_91 (by decide) ?_
  exact hk46 M x1 x2 x3 x4 (x5 + (1 : Int32)) _ _ _  w (lv_sub hl [1, 2, 3, 4, 5, 0] rfl) h
set_option maxHeartbeats 4000000 in
set_option maxRecDepth 100000 in
theorem t_X6_longer_46 (C : Cx G p s m args meth c RX6 cX6_longer 6 (some .int)) {post : Int32 → Mem → Prop} : ∀ (n : Nat) (M : Mem) (x1 : Int32) (x2 : Int32) (x3 : Int32) (x4 : Int32) (x5 : Int32) {H : Heap} {locs : List Loc} {ls : Array Slot} (w : Wd G s M H locs) (hl : lv_has ls 6 [(0, .ref (ga G 57)), (1, .int x1), (2, .int x2), (3, .int x3), (4, .int x4), (5, .int x5)]) (h : lp_X6_longer_46 post n M x1 x2 x3 x4 x5), W p l e (rmk 5) s m args below meth c H locs 0 0 (MQ below (va_Qi post (Qw G) (Af G s.heap.size)) args s 0 0 (Af G s.heap.size)) (F0 m 46 ls []) := by
  have hx := C.1.1
  have hb := C.1.2.1
  intro n9
  induction n9 with
  | zero => intro M x1 x2 x3 x4 x5 H locs ls w hl h; exact absurd h id
  | succ n9 ih9 =>
    intro M x1 x2 x3 x4 x5 H locs ls w hl h
    have hk46 : ∀ (M : Mem) (x1 : Int32) (x2 : Int32) (x3 : Int32) (x4 : Int32) (x5 : Int32) (H : Heap) (locs : List Loc) (ls : Array Slot), Wd G s M H locs → lv_has ls 6 [(0, .ref (ga G 57)), (1, .int x1), (2, .int x2), (3, .int x3), (4, .int x4), (5, .int x5)] → lp_X6_longer_46 post n9 M x1 x2 x3 x4 x5 → W p l e (rmk 5) s m args below meth c H locs 0 0 (MQ below (va_Qi post (Qw G) (Af G s.heap.size)) args s 0 0 (Af G s.heap.size)) (F0 m 46 ls []) := fun M x1 x2 x3 x4 x5 H locs ls w hl h => ih9 M x1 x2 x3 x4 x5 w hl h
    replace h : b_X6_longer_46 (lp_X6_longer_46 post n9) post M x1 x2 x3 x4 x5 := h
    unfold b_X6_longer_46 at h
    refine lv_iload hx hb dX6_longer_46 (lv_at hl 5 rfl) ?_
    refine lv_bipush (v := 100) hx hb dX6_longer_48 (by decide) ?_
    refine lv_icmp_ge (tgt := 94) hx hb dX6_longer_50 (by decide) (fun c3 => ?_) (fun c3 => ?_)
    · replace h := h.1 c3
      exact t_X6_longer_94 C M x1 x3 x4  w (lv_sub hl [0, 1, 3, 4] rfl) h
    replace h := h.2 c3
    refine lv_iload hx hb dX6_longer_53 (lv_at hl 4 rfl) ?_
    refine lv_if_ge (tgt := 94) hx hb dX6_longer_55 (by decide) (fun c4 => ?_) (fun c4 => ?_)
    · replace h := h.1 c4
      exact t_X6_longer_94 C M x1 x3 x4  w (lv_sub hl [0, 1, 3, 4] rfl) h
    replace h := h.2 c4
    refine lv_aload_n hx hb dX6_longer_58 rfl (lv_at hl 0 rfl) ?_
    refine lv_iload_n hx hb dX6_longer_59 rfl (lv_at hl 1 rfl) ?_
    refine lv_iconst (v := 2) hx hb dX6_longer_60 (by decide) ?_
    refine lv_iload_n hx hb dX6_longer_61 rfl (lv_at hl 3 rfl) ?_
    refine lv_iload hx hb dX6_longer_62 (lv_at hl 5 rfl) ?_
    refine lv_iadd hx hb dX6_longer_64 ?_
    refine end_v w (run_V (As := [.int x1, .int (2 : Int32), .int (x3 + x5)]) C w hl.1 (c_X6_puts l G C.2.2.1 _ _ x1 (2 : Int32) (x3 + x5)  _ h) kw_22_7 kw_1_5 kw_22_4 kw_22_5 kw_22_6 hd_X6_puts ⟨by decide, by decide⟩ (w.recv C (i := 57) (by decide) (pE_6) rfl) rfl (Nat.le_of_ble_eq_true rfl) dX6_longer_65) (fun M6 H locs h w => ?_)
    refine lv_aload_n hx hb dX6_longer_68 rfl (lv_at hl 0 rfl) ?_
    refine lv_aload_n hx hb dX6_longer_69 rfl (lv_at hl 0 rfl) ?_
    refine end_i w (run_V (As := []) C w hl.1 (c_X6_allPieces l G C.2.2.1 _ _   _ h) kw_17_15 kw_1_5 kw_17_12 kw_17_13 kw_17_14 hd_X6_allPieces ⟨by decide, by decide⟩ (w.recv C (i := 57) (by decide) (pE_6) rfl) rfl (Nat.le_of_ble_eq_true rfl) dX6_longer_70) (fun r7 M8 H locs h w => ?_)
    refine end_v w (run_V (As := [.int r7]) C w hl.1 (c_X6_sumsUp l G C.2.2.1 _ _ r7  _ h) kw_17_19 kw_1_5 kw_17_16 kw_17_17 kw_17_18 hd_X6_sumsUp ⟨by decide, by decide⟩ (w.recv C (i := 57) (by decide) (pE_6) rfl) rfl (Nat.le_of_ble_eq_true rfl) dX6_longer_73) (fun M10 H locs h w => ?_)
    refine lv_aload_n hx hb dX6_longer_76 rfl (lv_at hl 0 rfl) ?_
    refine end_i w (run_V (As := []) C w hl.1 (c_X6_greatestOf l G C.2.2.1 _ _   _ h) kw_23_4 kw_1_5 kw_23_1 kw_23_2 kw_23_3 hd_X6_greatestOf ⟨by decide, by decide⟩ (w.recv C (i := 57) (by decide) (pE_6) rfl) rfl (Nat.le_of_ble_eq_true rfl) dX6_longer_77) (fun r11 M12 H locs h w => ?_)
    refine lv_iload_n hx hb dX6_longer_80 rfl (lv_at hl 2 rfl) ?_
    refine lv_icmp_gt (tgt := 88) hx hb dX6_longer_81 (by decide) (fun c13 => ?_) (fun c13 => ?_)
    · replace h := h.1 c13
      exact t_X6_longer_88 C hk46 M12 x1 x2 x3 x4 x5  w (lv_sub hl [0, 1, 2, 3, 4, 5] rfl) h
    replace h := h.2 c13
    refine lv_iload hx hb dX6_longer_84 (lv_at hl 5 rfl) ?_
    refine lv_istore (lv' := [(4, .int x5), (0, .ref (ga G 57)), (1, .int x1), (2, .int x2), (3, .int x3), (5, .int x5)]) hx hb dX6_longer_86 hl (by decide) rfl (fun ls hl => ?_)
    exact t_X6_longer_88 C hk46 M12 x1 x2 x3 x5 x5  w (lv_sub hl [1, 2, 3, 4, 0, 5] rfl) h
set_option maxHeartbeats 4000000 in
set_option maxRecDepth 100000 in
theorem t_X6_longer_20 (C : Cx G p s m args meth c RX6 cX6_longer 6 (some .int)) {post : Int32 → Mem → Prop} (M : Mem) {H : Heap} {locs : List Loc} {ls : Array Slot} (w : Wd G s M H locs) (hl : lv_has ls 6 []) (h : j_X6_longer_20 post M) : W p l e (rmk 5) s m args below meth c H locs 0 0 (MQ below (va_Qi post (Qw G) (Af G s.heap.size)) args s 0 0 (Af G s.heap.size)) (F0 m 20 ls []) := by
  have hx := C.1.1
  have hb := C.1.2.1
  unfold j_X6_longer_20 at h
  refine lv_iconst (v := -1) hx hb dX6_longer_20 (by decide) ?_
  exact ret_i C w h dX6_longer_21
set_option maxHeartbeats 4000000 in
set_option maxRecDepth 100000 in
theorem c_X6_longer (l : Launch) (G : GG) (hG : Ag G) (sz : Nat) (M : Mem) (x1 : Int32) (x2 : Int32) (post : Int32 → Mem → Prop) (h : q_X6_longer M x1 x2 post) : Met l yX6_longer (Cond.code yX6_longer cX6_longer 6 (some .int) :: wsL_law) (rmk 5) (va_Pc [.ref (ga G 57), .int x1, .int x2] (Pw G sz M)) (va_Qi post (Qw G) (Af G sz)) 0 0 (Af G sz) := by
  refine Met.ofW (cc := cX6_longer) (maxL := 6) (ret := (some .int)) (by decide) rfl ?_
  intro p e s m args below meth c s₁ B hml hv
  obtain ⟨rfl, hsz, hE, hP⟩ := hv
  subst hsz
  have C := Cx.of (own := RX6) hG hE rfl hml B
  have w : Wd G s M s.heap [] := ⟨hP, va_S.rf⟩
  have hl := lv_entry [.ref (ga G 57), .int x1, .int x2] (n := 6) (Nat.le_of_ble_eq_true rfl)
  rw [lg_entry_eq]
  generalize (lg_sl [.ref (ga G 57), .int x1, .int x2] ++ List.replicate (6 - (lg_sl [.ref (ga G 57), .int x1, .int x2]).length) Slot.unset).toArray = ls at hl ⊢
  have hl : lv_has ls 6 [(0, .ref (ga G 57)), (1, .int x1), (2, .int x2)] := hl
  have hx := C.1.1
  have hb := C.1.2.1
  show W p l e (rmk 5) s m _ below meth c s.heap [] 0 0 _ _
  unfold q_X6_longer at h
  refine lv_aload_n hx hb dX6_longer_0 rfl (lv_at hl 0 rfl) ?_
  refine lv_iload_n hx hb dX6_longer_1 rfl (lv_at hl 1 rfl) ?_
  refine end_i w (run_V (As := [.int x1]) C w hl.1 (c_X6_isPiece l G C.2.2.1 _ _ x1  _ h) kw_14_6 kw_1_5 kw_14_3 kw_14_4 kw_14_5 hd_X6_isPiece ⟨by decide, by decide⟩ (w.recv C (i := 57) (by decide) (pE_6) rfl) rfl (Nat.le_of_ble_eq_true rfl) dX6_longer_2) (fun r14 M15 H locs h w => ?_)
  refine lv_if_eq (tgt := 20) hx hb dX6_longer_5 (by decide) (fun c16 => ?_) (fun c16 => ?_)
  · replace h := h.1 c16
    exact t_X6_longer_20 C M15   w (lv_sub hl [] rfl) h
  replace h := h.2 c16
  refine lv_iload_n hx hb dX6_longer_8 rfl (lv_at hl 2 rfl) ?_
  refine lv_i2l hx hb dX6_longer_9 rfl ?_
  refine lv_lconst (v := 0) hx hb dX6_longer_10 (by decide) ?_
  refine lv_ldc2 hx hb C.1.2.2.2.1 (C.ws kw_19_2) dX6_longer_11 ?_
  refine end_i w (run_S (As := [.long x2.toInt64, .long (0 : Int64), .long (9999 : Int64)]) C w hl.1 (c_X6_isIn l G C.2.2.1 _ _ x2.toInt64 (0 : Int64) (9999 : Int64)  _ h) kw_12_5 kw_1_5 kw_12_3 kw_12_4 hd_X6_isIn ⟨by decide, by decide⟩ rfl (Nat.le_of_ble_eq_true rfl) dX6_longer_14) (fun r17 M18 H locs h w => ?_)
  refine lv_if_ne (tgt := 22) hx hb dX6_longer_17 (by decide) (fun c19 => ?_) (fun c19 => ?_)
  · replace h := h.2 c19
    refine lv_aload_n hx hb dX6_longer_22 rfl (lv_at hl 0 rfl) ?_
    refine end_i w (run_V (As := []) C w hl.1 (c_X6_isLine l G C.2.2.1 _ _   _ h) kw_17_11 kw_1_5 kw_17_8 kw_17_9 kw_17_10 hd_X6_isLine ⟨by decide, by decide⟩ (w.recv C (i := 57) (by decide) (pE_6) rfl) rfl (Nat.le_of_ble_eq_true rfl) dX6_longer_23) (fun r20 M21 H locs h w => ?_)
    refine lv_if_ne (tgt := 32) hx hb dX6_longer_26 (by decide) (fun c22 => ?_) (fun c22 => ?_)
    · replace h := h.2 c22
      refine lv_aload_n hx hb dX6_longer_32 rfl (lv_at hl 0 rfl) ?_
      refine lv_iload_n hx hb dX6_longer_33 rfl (lv_at hl 1 rfl) ?_
      refine lv_iconst (v := 2) hx hb dX6_longer_34 (by decide) ?_
      refine end_i w (run_V (As := [.int x1, .int (2 : Int32)]) C w hl.1 (c_X6_get l G C.2.2.1 _ _ x1 (2 : Int32)  _ h) kw_14_10 kw_1_5 kw_14_7 kw_14_8 kw_14_9 hd_X6_get ⟨by decide, by decide⟩ (w.recv C (i := 57) (by decide) (pE_6) rfl) rfl (Nat.le_of_ble_eq_true rfl) dX6_longer_35) (fun r23 M24 H locs h w => ?_)
      refine lv_istore_n (lv' := [(3, .int r23), (0, .ref (ga G 57)), (1, .int x1), (2, .int x2)]) hx hb dX6_longer_38 rfl hl (by decide) rfl (fun ls hl => ?_)
      refine lv_bipush (v := -4) hx hb dX6_longer_39 (by decide) ?_
      refine lv_istore (lv' := [(4, .int (-4 : Int32)), (3, .int r23), (0, .ref (ga G 57)), (1, .int x1), (2, .int x2)]) hx hb dX6_longer_41 hl (by decide) rfl (fun ls hl => ?_)
      refine lv_iconst (v := 0) hx hb dX6_longer_43 (by decide) ?_
      refine lv_istore (lv' := [(5, .int (0 : Int32)), (4, .int (-4 : Int32)), (3, .int r23), (0, .ref (ga G 57)), (1, .int x1), (2, .int x2)]) hx hb dX6_longer_44 hl (by decide) rfl (fun ls hl => ?_)
      obtain ⟨n, h⟩ := h
      exact t_X6_longer_46 C n M24 x1 x2 r23 (-4 : Int32) (0 : Int32)  w (lv_sub hl [3, 4, 5, 2, 1, 0] rfl) h
    replace h := h.1 c22
    refine lv_bipush (v := -3) hx hb dX6_longer_29 (by decide) ?_
    exact ret_i C w h dX6_longer_31
  replace h := h.1 c19
  exact t_X6_longer_20 C M18   w (lv_sub hl [] rfl) h
def j_X5_layStock_76 (k13 : Mem → Int32 → Int32 → Prop) (post : Int32 → Mem → Prop) (M : Mem) (x1 : Int32) (x2 : Int32) : Prop := k13 M x1 (x2 + (1 : Int32))
def b_X5_layStock_13 (k13 : Mem → Int32 → Int32 → Prop) (post : Int32 → Mem → Prop) (M : Mem) (x1 : Int32) (x2 : Int32) : Prop := ((M 1 1) ≤ x2 → (post (1 : Int32) M)) ∧ (¬ ((M 1 1) ≤ x2) → ((((x1 >>> (x2 &&& 31)) &&& (1 : Int32)) = 0 → (j_X5_layStock_76 k13 post M x1 x2)) ∧ (¬ (((x1 >>> (x2 &&& 31)) &&& (1 : Int32)) = 0) → (((M 1 7) = x2 → (post (0 : Int32) M)) ∧ (¬ ((M 1 7) = x2) → (vp_in x2 6 ∧ (q_X0_add M (38 + x2.toNatClampNeg) (M (38 + x2.toNatClampNeg) 2) (fun M6 => j_X5_layStock_76 k13 post M6 x1 x2))))))))
def lp_X5_layStock_13 (post : Int32 → Mem → Prop) : Nat → Mem → Int32 → Int32 → Prop
  | 0 => fun _ _ _ => False
  | n + 1 => fun M x1 x2 => b_X5_layStock_13 (lp_X5_layStock_13 post n) post M x1 x2
def q_X5_layStock (M : Mem) (x1 : Int32) (post : Int32 → Mem → Prop) : Prop := q_X0_begin M 1 (fun M8 => ∃ n, lp_X5_layStock_13 post n M8 x1 (0 : Int32))
set_option maxHeartbeats 4000000 in
set_option maxRecDepth 100000 in
theorem t_X5_layStock_76 (C : Cx G p s m args meth c RX5 cX5_layStock 3 (some .boolean)) {post : Int32 → Mem → Prop} {k13 : Mem → Int32 → Int32 → Prop} (hk13 : ∀ (M : Mem) (x1 : Int32) (x2 : Int32) (H : Heap) (locs : List Loc) (ls : Array Slot), Wd G s M H locs → lv_has ls 3 [(0, .ref (ga G 0)), (1, .int x1), (2, .int x2)] → k13 M x1 x2 → W p l e (rmk 2) s m args below meth c H locs 0 0 (MQ below (va_Qi post (Qw G) (Af G s.heap.size)) args s 0 0 (Af G s.heap.size)) (F0 m 13 ls [])) (M : Mem) (x1 : Int32) (x2 : Int32) {H : Heap} {locs : List Loc} {ls : Array Slot} (w : Wd G s M H locs) (hl : lv_has ls 3 [(0, .ref (ga G 0)), (1, .int x1), (2, .int x2)]) (h : j_X5_layStock_76 k13 post M x1 x2) : W p l e (rmk 2) s m args below meth c H locs 0 0 (MQ below (va_Qi post (Qw G) (Af G s.heap.size)) args s 0 0 (Af G s.heap.size)) (F0 m 76 ls []) := by
  have hx := C.1.1
  have hb := C.1.2.1
  unfold j_X5_layStock_76 at h
  refine lv_iinc (v := (x2 + (1 : Int32))) (lv' := [(2, .int (x2 + (1 : Int32))), (0, .ref (ga G 0)), (1, .int x1)]) hx hb dX5_layStock_76 hl (k := 2) rfl rfl (by decide) rfl (fun ls hl => ?_)
  refine lv_goto (tgt := 13) hx hb dX5_layStock_79 (by decide) ?_
  exact hk13 M x1 (x2 + (1 : Int32)) _ _ _  w (lv_sub hl [1, 2, 0] rfl) h
set_option maxHeartbeats 4000000 in
set_option maxRecDepth 100000 in
theorem t_X5_layStock_13 (C : Cx G p s m args meth c RX5 cX5_layStock 3 (some .boolean)) {post : Int32 → Mem → Prop} : ∀ (n : Nat) (M : Mem) (x1 : Int32) (x2 : Int32) {H : Heap} {locs : List Loc} {ls : Array Slot} (w : Wd G s M H locs) (hl : lv_has ls 3 [(0, .ref (ga G 0)), (1, .int x1), (2, .int x2)]) (h : lp_X5_layStock_13 post n M x1 x2), W p l e (rmk 2) s m args below meth c H locs 0 0 (MQ below (va_Qi post (Qw G) (Af G s.heap.size)) args s 0 0 (Af G s.heap.size)) (F0 m 13 ls []) := by
  have hx := C.1.1
  have hb := C.1.2.1
  intro n9
  induction n9 with
  | zero => intro M x1 x2 H locs ls w hl h; exact absurd h id
  | succ n9 ih9 =>
    intro M x1 x2 H locs ls w hl h
    have hk13 : ∀ (M : Mem) (x1 : Int32) (x2 : Int32) (H : Heap) (locs : List Loc) (ls : Array Slot), Wd G s M H locs → lv_has ls 3 [(0, .ref (ga G 0)), (1, .int x1), (2, .int x2)] → lp_X5_layStock_13 post n9 M x1 x2 → W p l e (rmk 2) s m args below meth c H locs 0 0 (MQ below (va_Qi post (Qw G) (Af G s.heap.size)) args s 0 0 (Af G s.heap.size)) (F0 m 13 ls []) := fun M x1 x2 H locs ls w hl h => ih9 M x1 x2 w hl h
    replace h : b_X5_layStock_13 (lp_X5_layStock_13 post n9) post M x1 x2 := h
    unfold b_X5_layStock_13 at h
    refine lv_iload_n hx hb dX5_layStock_13 rfl (lv_at hl 2 rfl) ?_
    refine lv_aload_n hx hb dX5_layStock_14 rfl (lv_at hl 0 rfl) ?_
    refine gt_5_0 C w kw_1_16 dX5_layStock_15 ?_
    refine gn_4_1 C w ⟨by decide, by decide⟩ kn_14 dX5_layStock_18 ?_
    refine lv_icmp_ge (tgt := 82) hx hb dX5_layStock_21 (by decide) (fun c1 => ?_) (fun c1 => ?_)
    · replace h := h.1 c1
      refine lv_iconst (v := 1) hx hb dX5_layStock_82 (by decide) ?_
      exact ret_z C w ⟨Or.inr rfl, h⟩ dX5_layStock_83
    replace h := h.2 c1
    refine lv_iload_n hx hb dX5_layStock_24 rfl (lv_at hl 1 rfl) ?_
    refine lv_iload_n hx hb dX5_layStock_25 rfl (lv_at hl 2 rfl) ?_
    refine lv_ishr hx hb dX5_layStock_26 ?_
    refine lv_iconst (v := 1) hx hb dX5_layStock_27 (by decide) ?_
    refine lv_iand hx hb dX5_layStock_28 ?_
    refine lv_if_ne (tgt := 35) hx hb dX5_layStock_29 (by decide) (fun c2 => ?_) (fun c2 => ?_)
    · replace h := h.2 c2
      refine lv_aload_n hx hb dX5_layStock_35 rfl (lv_at hl 0 rfl) ?_
      refine gt_5_0 C w kw_1_16 dX5_layStock_36 ?_
      refine gn_4_7 C w ⟨by decide, by decide⟩ kn_22 dX5_layStock_39 ?_
      refine lv_iload_n hx hb dX5_layStock_42 rfl (lv_at hl 2 rfl) ?_
      refine lv_icmp_ne (tgt := 48) hx hb dX5_layStock_43 (by decide) (fun c3 => ?_) (fun c3 => ?_)
      · replace h := h.2 c3
        refine lv_aload_n hx hb dX5_layStock_48 rfl (lv_at hl 0 rfl) ?_
        refine gt_5_3 C w kw_1_22 dX5_layStock_49 ?_
        refine lv_aload_n hx hb dX5_layStock_52 rfl (lv_at hl 0 rfl) ?_
        refine gt_5_0 C w kw_1_16 dX5_layStock_53 ?_
        refine gn_4_0 C w ⟨by decide, by decide⟩ kn_13 dX5_layStock_56 ?_
        refine lv_iload_n hx hb dX5_layStock_59 rfl (lv_at hl 2 rfl) ?_
        have hin4 := h.1
        replace h := h.2
        have hz_hin4 := in_lt hin4
        refine pw_ldP C w (i := 8) ⟨by decide, by decide⟩ hin4 dX5_layStock_60 (j := (38 + x2.toNatClampNeg)) (by omega) ?_
        refine lv_aload_n hx hb dX5_layStock_61 rfl (lv_at hl 0 rfl) ?_
        refine gt_5_0 C w kw_1_16 dX5_layStock_62 ?_
        refine gn_4_0 C w ⟨by decide, by decide⟩ kn_13 dX5_layStock_65 ?_
        refine lv_iload_n hx hb dX5_layStock_68 rfl (lv_at hl 2 rfl) ?_
        refine pw_ldP C w (i := 8) ⟨by decide, by decide⟩ hin4 dX5_layStock_69 (j := (38 + x2.toNatClampNeg)) (by omega) ?_
        refine gn_1_2 C w (by omega) kn_3 dX5_layStock_70 ?_
        refine end_v w (run_VN (As := [.ref (ga G (38 + x2.toNatClampNeg)), .int (M (38 + x2.toNatClampNeg) 2)]) C w hl.1 (c_X0_add l G C.2.2.1 _ _ (38 + x2.toNatClampNeg) (M (38 + x2.toNatClampNeg) 2) (by omega) _ h) kw_16_6 kw_1_21 kn_57 kw_16_4 kw_16_5 hd_X0_add ⟨by decide, by decide⟩ (w.recv C (i := 4) (by decide) (pE_0) rfl) rfl (Nat.le_of_ble_eq_true rfl) dX5_layStock_73) (fun M6 H locs h w => ?_)
        exact t_X5_layStock_76 C hk13 M6 x1 x2  w (lv_sub hl [0, 1, 2] rfl) h
      replace h := h.1 c3
      refine lv_iconst (v := 0) hx hb dX5_layStock_46 (by decide) ?_
      exact ret_z C w ⟨Or.inl rfl, h⟩ dX5_layStock_47
    replace h := h.1 c2
    refine lv_goto (tgt := 76) hx hb dX5_layStock_32 (by decide) ?_
    exact t_X5_layStock_76 C hk13 M x1 x2  w (lv_sub hl [0, 1, 2] rfl) h
set_option maxHeartbeats 4000000 in
set_option maxRecDepth 100000 in
theorem c_X5_layStock (l : Launch) (G : GG) (hG : Ag G) (sz : Nat) (M : Mem) (x1 : Int32) (post : Int32 → Mem → Prop) (h : q_X5_layStock M x1 post) : Met l yX5_layStock (Cond.code yX5_layStock cX5_layStock 3 (some .boolean) :: wsL_law) (rmk 2) (va_Pc [.ref (ga G 0), .int x1] (Pw G sz M)) (va_Qi post (Qw G) (Af G sz)) 0 0 (Af G sz) := by
  refine Met.ofW (cc := cX5_layStock) (maxL := 3) (ret := (some .boolean)) (by decide) rfl ?_
  intro p e s m args below meth c s₁ B hml hv
  obtain ⟨rfl, hsz, hE, hP⟩ := hv
  subst hsz
  have C := Cx.of (own := RX5) hG hE rfl hml B
  have w : Wd G s M s.heap [] := ⟨hP, va_S.rf⟩
  have hl := lv_entry [.ref (ga G 0), .int x1] (n := 3) (Nat.le_of_ble_eq_true rfl)
  rw [lg_entry_eq]
  generalize (lg_sl [.ref (ga G 0), .int x1] ++ List.replicate (3 - (lg_sl [.ref (ga G 0), .int x1]).length) Slot.unset).toArray = ls at hl ⊢
  have hl : lv_has ls 3 [(0, .ref (ga G 0)), (1, .int x1)] := hl
  have hx := C.1.1
  have hb := C.1.2.1
  show W p l e (rmk 2) s m _ below meth c s.heap [] 0 0 _ _
  unfold q_X5_layStock at h
  refine lv_aload_n hx hb dX5_layStock_0 rfl (lv_at hl 0 rfl) ?_
  refine gt_5_3 C w kw_1_22 dX5_layStock_1 ?_
  refine lv_aload_n hx hb dX5_layStock_4 rfl (lv_at hl 0 rfl) ?_
  refine gt_5_0 C w kw_1_16 dX5_layStock_5 ?_
  refine end_v w (run_VN (As := [.ref (ga G 1)]) C w hl.1 (c_X0_begin l G C.2.2.1 _ _ 1 ⟨by decide, by decide⟩ _ h) kw_16_3 kw_1_21 kn_56 kw_16_1 kw_16_2 hd_X0_begin ⟨by decide, by decide⟩ (w.recv C (i := 4) (by decide) (pE_0) rfl) rfl (Nat.le_of_ble_eq_true rfl) dX5_layStock_8) (fun M8 H locs h w => ?_)
  refine lv_iconst (v := 0) hx hb dX5_layStock_11 (by decide) ?_
  refine lv_istore_n (lv' := [(2, .int (0 : Int32)), (0, .ref (ga G 0)), (1, .int x1)]) hx hb dX5_layStock_12 rfl hl (by decide) rfl (fun ls hl => ?_)
  obtain ⟨n, h⟩ := h
  exact t_X5_layStock_13 C n M8 x1 (0 : Int32)  w (lv_sub hl [1, 2, 0] rfl) h
def j_X5_stock_114 (post : Int32 → Mem → Prop) (M : Mem) (y0 : Int32) : Prop := post y0 M
def j_X5_stock_98 (k32 : Mem → Int32 → Int32 → Int32 → Int32 → Int32 → Prop) (post : Int32 → Mem → Prop) (M : Mem) (x1 : Int32) (x2 : Int32) (x3 : Int32) (x4 : Int32) (x5 : Int32) : Prop := k32 M x1 x2 x3 x4 (x5 + (1 : Int32))
def j_X5_stock_91 (k32 : Mem → Int32 → Int32 → Int32 → Int32 → Int32 → Prop) (post : Int32 → Mem → Prop) (M : Mem) (x1 : Int32) (x2 : Int32) (x5 : Int32) (x6 : Int32) : Prop := j_X5_stock_98 k32 post M x1 x2 x5 x6 x5
def b_X5_stock_32 (k32 : Mem → Int32 → Int32 → Int32 → Int32 → Int32 → Prop) (post : Int32 → Mem → Prop) (M : Mem) (x1 : Int32) (x2 : Int32) (x3 : Int32) (x4 : Int32) (x5 : Int32) : Prop := (((1 : Int32) <<< ((M 1 1) &&& 31)) ≤ x5 → ((x2 = 0 → (j_X5_stock_114 post M x3)) ∧ (¬ (x2 = 0) → (j_X5_stock_114 post M x4)))) ∧ (¬ (((1 : Int32) <<< ((M 1 1) &&& 31)) ≤ x5) → (q_X5_layStock M x5 (fun r3 M4 => (r3 = 0 → (j_X5_stock_98 k32 post M4 x1 x2 x3 x4 x5)) ∧ (¬ (r3 = 0) → (((M4 4 0) ≤ x1 → (q_X0_greatestPull M4  (fun r7 M8 => (x3 = (-4 : Int32) → (j_X5_stock_91 k32 post M8 x1 x2 x5 r7)) ∧ (¬ (x3 = (-4 : Int32)) → ((x4 ≤ r7 → (j_X5_stock_98 k32 post M8 x1 x2 x3 x4 x5)) ∧ (¬ (x4 ≤ r7) → (j_X5_stock_91 k32 post M8 x1 x2 x5 r7))))))) ∧ (¬ ((M4 4 0) ≤ x1) → (j_X5_stock_98 k32 post M4 x1 x2 x3 x4 x5)))))))
def lp_X5_stock_32 (post : Int32 → Mem → Prop) : Nat → Mem → Int32 → Int32 → Int32 → Int32 → Int32 → Prop
  | 0 => fun _ _ _ _ _ _ => False
  | n + 1 => fun M x1 x2 x3 x4 x5 => b_X5_stock_32 (lp_X5_stock_32 post n) post M x1 x2 x3 x4 x5
def j_X5_stock_20 (post : Int32 → Mem → Prop) (M : Mem) : Prop := post (-1 : Int32) M
def q_X5_stock (M : Mem) (x1 : Int32) (x2 : Int32) (post : Int32 → Mem → Prop) : Prop := q_X5_isWithin M x1 (1 : Int32) (999 : Int32) (fun r11 M12 => (r11 = 0 → (j_X5_stock_20 post M12)) ∧ (¬ (r11 = 0) → (q_X5_isWithin M12 x2 (0 : Int32) (1 : Int32) (fun r14 M15 => (r14 = 0 → (j_X5_stock_20 post M15)) ∧ (¬ (r14 = 0) → (∃ n, lp_X5_stock_32 post n M15 x1 x2 (-4 : Int32) (-4 : Int32) (1 : Int32)))))))
set_option maxHeartbeats 4000000 in
set_option maxRecDepth 100000 in
theorem t_X5_stock_114 (C : Cx G p s m args meth c RX5 cX5_stock 7 (some .int)) {post : Int32 → Mem → Prop} (M : Mem) (y0 : Int32) {H : Heap} {locs : List Loc} {ls : Array Slot} (w : Wd G s M H locs) (hl : lv_has ls 7 []) (h : j_X5_stock_114 post M y0) : W p l e (rmk 5) s m args below meth c H locs 0 0 (MQ below (va_Qi post (Qw G) (Af G s.heap.size)) args s 0 0 (Af G s.heap.size)) (F0 m 114 ls [.int y0]) := by
  have hx := C.1.1
  have hb := C.1.2.1
  unfold j_X5_stock_114 at h
  exact ret_i C w h dX5_stock_114
set_option maxHeartbeats 4000000 in
set_option maxRecDepth 100000 in
theorem t_X5_stock_98 (C : Cx G p s m args meth c RX5 cX5_stock 7 (some .int)) {post : Int32 → Mem → Prop} {k32 : Mem → Int32 → Int32 → Int32 → Int32 → Int32 → Prop} (hk32 : ∀ (M : Mem) (x1 : Int32) (x2 : Int32) (x3 : Int32) (x4 : Int32) (x5 : Int32) (H : Heap) (locs : List Loc) (ls : Array Slot), Wd G s M H locs → lv_has ls 7 [(0, .ref (ga G 0)), (1, .int x1), (2, .int x2), (3, .int x3), (4, .int x4), (5, .int x5)] → k32 M x1 x2 x3 x4 x5 → W p l e (rmk 5) s m args below meth c H locs 0 0 (MQ below (va_Qi post (Qw G) (Af G s.heap.size)) args s 0 0 (Af G s.heap.size)) (F0 m 32 ls [])) (M : Mem) (x1 : Int32) (x2 : Int32) (x3 : Int32) (x4 : Int32) (x5 : Int32) {H : Heap} {locs : List Loc} {ls : Array Slot} (w : Wd G s M H locs) (hl : lv_has ls 7 [(0, .ref (ga G 0)), (1, .int x1), (2, .int x2), (3, .int x3), (4, .int x4), (5, .int x5)]) (h : j_X5_stock_98 k32 post M x1 x2 x3 x4 x5) : W p l e (rmk 5) s m args below meth c H locs 0 0 (MQ below (va_Qi post (Qw G) (Af G s.heap.size)) args s 0 0 (Af G s.heap.size)) (F0 m 98 ls []) := by
  have hx := C.1.1
  have hb := C.1.2.1
  unfold j_X5_stock_98 at h
  refine lv_iinc (v := (x5 + (1 : Int32))) (lv' := [(5, .int (x5 + (1 : Int32))), (0, .ref (ga G 0)), (1, .int x1), (2, .int x2), (3, .int x3), (4, .int x4)]) hx hb dX5_stock_98 hl (k := 5) rfl rfl (by decide) rfl (fun ls hl => ?_)
  refine lv_goto (tgt := 32) hx hb dX5_stock_101 (by decide) ?_
  exact hk32 M x1 x2 x3 x4 (x5 + (1 : Int32)) _ _ _  w (lv_sub hl [1, 2, 3, 4, 5, 0] rfl) h
set_option maxHeartbeats 4000000 in
set_option maxRecDepth 100000 in
theorem t_X5_stock_91 (C : Cx G p s m args meth c RX5 cX5_stock 7 (some .int)) {post : Int32 → Mem → Prop} {k32 : Mem → Int32 → Int32 → Int32 → Int32 → Int32 → Prop} (hk32 : ∀ (M : Mem) (x1 : Int32) (x2 : Int32) (x3 : Int32) (x4 : Int32) (x5 : Int32) (H : Heap) (locs : List Loc) (ls : Array Slot), Wd G s M H locs → lv_has ls 7 [(0, .ref (ga G 0)), (1, .int x1), (2, .int x2), (3, .int x3), (4, .int x4), (5, .int x5)] → k32 M x1 x2 x3 x4 x5 → W p l e (rmk 5) s m args below meth c H locs 0 0 (MQ below (va_Qi post (Qw G) (Af G s.heap.size)) args s 0 0 (Af G s.heap.size)) (F0 m 32 ls [])) (M : Mem) (x1 : Int32) (x2 : Int32) (x5 : Int32) (x6 : Int32) {H : Heap} {locs : List Loc} {ls : Array Slot} (w : Wd G s M H locs) (hl : lv_has ls 7 [(0, .ref (ga G 0)), (1, .int x1), (2, .int x2), (5, .int x5), (6, .int x6)]) (h : j_X5_stock_91 k32 post M x1 x2 x5 x6) : W p l e (rmk 5) s m args below meth c H locs 0 0 (MQ below (va_Qi post (Qw G) (Af G s.heap.size)) args s 0 0 (Af G s.heap.size)) (F0 m 91 ls []) := by
  have hx := C.1.1
  have hb := C.1.2.1
  unfold j_X5_stock_91 at h
  refine lv_iload hx hb dX5_stock_91 (lv_at hl 3 rfl) ?_
  refine lv_istore_n (lv' := [(3, .int x5), (0, .ref (ga G 0)), (1, .int x1), (2, .int x2), (5, .int x5), (6, .int x6)]) hx hb dX5_stock_93 rfl hl (by decide) rfl (fun ls hl => ?_)
  refine lv_iload hx hb dX5_stock_94 (lv_at hl 5 rfl) ?_
  refine lv_istore (lv' := [(4, .int x6), (3, .int x5), (0, .ref (ga G 0)), (1, .int x1), (2, .int x2), (5, .int x5), (6, .int x6)]) hx hb dX5_stock_96 hl (by decide) rfl (fun ls hl => ?_)
  exact t_X5_stock_98 C hk32 M x1 x2 x5 x6 x5  w (lv_sub hl [2, 3, 4, 1, 0, 5] rfl) h
set_option maxHeartbeats 4000000 in
set_option maxRecDepth 100000 in
theorem t_X5_stock_32 (C : Cx G p s m args meth c RX5 cX5_stock 7 (some .int)) {post : Int32 → Mem → Prop} : ∀ (n : Nat) (M : Mem) (x1 : Int32) (x2 : Int32) (x3 : Int32) (x4 : Int32) (x5 : Int32) {H : Heap} {locs : List Loc} {ls : Array Slot} (w : Wd G s M H locs) (hl : lv_has ls 7 [(0, .ref (ga G 0)), (1, .int x1), (2, .int x2), (3, .int x3), (4, .int x4), (5, .int x5)]) (h : lp_X5_stock_32 post n M x1 x2 x3 x4 x5), W p l e (rmk 5) s m args below meth c H locs 0 0 (MQ below (va_Qi post (Qw G) (Af G s.heap.size)) args s 0 0 (Af G s.heap.size)) (F0 m 32 ls []) := by
  have hx := C.1.1
  have hb := C.1.2.1
  intro n9
  induction n9 with
  | zero => intro M x1 x2 x3 x4 x5 H locs ls w hl h; exact absurd h id
  | succ n9 ih9 =>
    intro M x1 x2 x3 x4 x5 H locs ls w hl h
    have hk32 : ∀ (M : Mem) (x1 : Int32) (x2 : Int32) (x3 : Int32) (x4 : Int32) (x5 : Int32) (H : Heap) (locs : List Loc) (ls : Array Slot), Wd G s M H locs → lv_has ls 7 [(0, .ref (ga G 0)), (1, .int x1), (2, .int x2), (3, .int x3), (4, .int x4), (5, .int x5)] → lp_X5_stock_32 post n9 M x1 x2 x3 x4 x5 → W p l e (rmk 5) s m args below meth c H locs 0 0 (MQ below (va_Qi post (Qw G) (Af G s.heap.size)) args s 0 0 (Af G s.heap.size)) (F0 m 32 ls []) := fun M x1 x2 x3 x4 x5 H locs ls w hl h => ih9 M x1 x2 x3 x4 x5 w hl h
    replace h : b_X5_stock_32 (lp_X5_stock_32 post n9) post M x1 x2 x3 x4 x5 := h
    unfold b_X5_stock_32 at h
    refine lv_iload hx hb dX5_stock_32 (lv_at hl 5 rfl) ?_
    refine lv_iconst (v := 1) hx hb dX5_stock_34 (by decide) ?_
    refine lv_aload_n hx hb dX5_stock_35 rfl (lv_at hl 0 rfl) ?_
    refine gt_5_0 C w kw_1_16 dX5_stock_36 ?_
    refine gn_4_1 C w ⟨by decide, by decide⟩ kn_14 dX5_stock_39 ?_
    refine lv_ishl hx hb dX5_stock_42 ?_
    refine lv_icmp_ge (tgt := 104) hx hb dX5_stock_43 (by decide) (fun c1 => ?_) (fun c1 => ?_)
    · replace h := h.1 c1
      refine lv_iload_n hx hb dX5_stock_104 rfl (lv_at hl 2 rfl) ?_
      refine lv_if_ne (tgt := 112) hx hb dX5_stock_105 (by decide) (fun c2 => ?_) (fun c2 => ?_)
      · replace h := h.2 c2
        refine lv_iload hx hb dX5_stock_112 (lv_at hl 4 rfl) ?_
        exact t_X5_stock_114 C M x4  w (lv_sub hl [] rfl) h
      replace h := h.1 c2
      refine lv_iload_n hx hb dX5_stock_108 rfl (lv_at hl 3 rfl) ?_
      refine lv_goto (tgt := 114) hx hb dX5_stock_109 (by decide) ?_
      exact t_X5_stock_114 C M x3  w (lv_sub hl [] rfl) h
    replace h := h.2 c1
    refine lv_aload_n hx hb dX5_stock_46 rfl (lv_at hl 0 rfl) ?_
    refine lv_iload hx hb dX5_stock_47 (lv_at hl 5 rfl) ?_
    refine end_i w (run_V (As := [.int x5]) C w hl.1 (c_X5_layStock l G C.2.2.1 _ _ x5  _ h) kw_24_23 kw_1_2 kw_24_20 kw_24_21 kw_24_22 hd_X5_layStock ⟨by decide, by decide⟩ (w.recv C (i := 0) (by decide) (pE_5) rfl) rfl (Nat.le_of_ble_eq_true rfl) dX5_stock_49) (fun r3 M4 H locs h w => ?_)
    refine lv_if_eq (tgt := 98) hx hb dX5_stock_52 (by decide) (fun c5 => ?_) (fun c5 => ?_)
    · replace h := h.1 c5
      exact t_X5_stock_98 C hk32 M4 x1 x2 x3 x4 x5  w (lv_sub hl [0, 1, 2, 3, 4, 5] rfl) h
    replace h := h.2 c5
    refine lv_aload_n hx hb dX5_stock_55 rfl (lv_at hl 0 rfl) ?_
    refine gt_5_3 C w kw_1_22 dX5_stock_56 ?_
    refine gn_0_0 C w kn_24 dX5_stock_59 ?_
    refine lv_iload_n hx hb dX5_stock_62 rfl (lv_at hl 1 rfl) ?_
    refine lv_icmp_le (tgt := 69) hx hb dX5_stock_63 (by decide) (fun c6 => ?_) (fun c6 => ?_)
    · replace h := h.1 c6
      refine lv_aload_n hx hb dX5_stock_69 rfl (lv_at hl 0 rfl) ?_
      refine gt_5_3 C w kw_1_22 dX5_stock_70 ?_
      refine end_i w (run_VN (As := []) C w hl.1 (c_X0_greatestPull l G C.2.2.1 _ _   _ h) kw_22_14 kw_1_21 kn_68 kw_22_12 kw_22_13 hd_X0_greatestPull ⟨by decide, by decide⟩ (w.recv C (i := 4) (by decide) (pE_0) rfl) rfl (Nat.le_of_ble_eq_true rfl) dX5_stock_73) (fun r7 M8 H locs h w => ?_)
      refine lv_istore (lv' := [(6, .int r7), (0, .ref (ga G 0)), (1, .int x1), (2, .int x2), (3, .int x3), (4, .int x4), (5, .int x5)]) hx hb dX5_stock_76 hl (by decide) rfl (fun ls hl => ?_)
      refine lv_iload_n hx hb dX5_stock_78 rfl (lv_at hl 4 rfl) ?_
      refine lv_bipush (v := -4) hx hb dX5_stock_79 (by decide) ?_
      refine lv_icmp_eq (tgt := 91) hx hb dX5_stock_81 (by decide) (fun c9 => ?_) (fun c9 => ?_)
      · replace h := h.1 c9
        exact t_X5_stock_91 C hk32 M8 x1 x2 x5 r7  w (lv_sub hl [1, 2, 3, 6, 0] rfl) h
      replace h := h.2 c9
      refine lv_iload hx hb dX5_stock_84 (lv_at hl 0 rfl) ?_
      refine lv_iload hx hb dX5_stock_86 (lv_at hl 5 rfl) ?_
      refine lv_icmp_ge (tgt := 98) hx hb dX5_stock_88 (by decide) (fun c10 => ?_) (fun c10 => ?_)
      · replace h := h.1 c10
        exact t_X5_stock_98 C hk32 M8 x1 x2 x3 x4 x5  w (lv_sub hl [1, 2, 3, 4, 5, 6] rfl) h
      replace h := h.2 c10
      exact t_X5_stock_91 C hk32 M8 x1 x2 x5 r7  w (lv_sub hl [1, 2, 3, 6, 0] rfl) h
    replace h := h.2 c6
    refine lv_goto (tgt := 98) hx hb dX5_stock_66 (by decide) ?_
    exact t_X5_stock_98 C hk32 M4 x1 x2 x3 x4 x5  w (lv_sub hl [0, 1, 2, 3, 4, 5] rfl) h
set_option maxHeartbeats 4000000 in
set_option maxRecDepth 100000 in
theorem t_X5_stock_20 (C : Cx G p s m args meth c RX5 cX5_stock 7 (some .int)) {post : Int32 → Mem → Prop} (M : Mem) {H : Heap} {locs : List Loc} {ls : Array Slot} (w : Wd G s M H locs) (hl : lv_has ls 7 []) (h : j_X5_stock_20 post M) : W p l e (rmk 5) s m args below meth c H locs 0 0 (MQ below (va_Qi post (Qw G) (Af G s.heap.size)) args s 0 0 (Af G s.heap.size)) (F0 m 20 ls []) := by
  have hx := C.1.1
  have hb := C.1.2.1
  unfold j_X5_stock_20 at h
  refine lv_iconst (v := -1) hx hb dX5_stock_20 (by decide) ?_
  exact ret_i C w h dX5_stock_21
set_option maxHeartbeats 4000000 in
set_option maxRecDepth 100000 in
theorem c_X5_stock (l : Launch) (G : GG) (hG : Ag G) (sz : Nat) (M : Mem) (x1 : Int32) (x2 : Int32) (post : Int32 → Mem → Prop) (h : q_X5_stock M x1 x2 post) : Met l yX5_stock (Cond.code yX5_stock cX5_stock 7 (some .int) :: wsL_law) (rmk 5) (va_Pc [.ref (ga G 0), .int x1, .int x2] (Pw G sz M)) (va_Qi post (Qw G) (Af G sz)) 0 0 (Af G sz) := by
  refine Met.ofW (cc := cX5_stock) (maxL := 7) (ret := (some .int)) (by decide) rfl ?_
  intro p e s m args below meth c s₁ B hml hv
  obtain ⟨rfl, hsz, hE, hP⟩ := hv
  subst hsz
  have C := Cx.of (own := RX5) hG hE rfl hml B
  have w : Wd G s M s.heap [] := ⟨hP, va_S.rf⟩
  have hl := lv_entry [.ref (ga G 0), .int x1, .int x2] (n := 7) (Nat.le_of_ble_eq_true rfl)
  rw [lg_entry_eq]
  generalize (lg_sl [.ref (ga G 0), .int x1, .int x2] ++ List.replicate (7 - (lg_sl [.ref (ga G 0), .int x1, .int x2]).length) Slot.unset).toArray = ls at hl ⊢
  have hl : lv_has ls 7 [(0, .ref (ga G 0)), (1, .int x1), (2, .int x2)] := hl
  have hx := C.1.1
  have hb := C.1.2.1
  show W p l e (rmk 5) s m _ below meth c s.heap [] 0 0 _ _
  unfold q_X5_stock at h
  refine lv_iload_n hx hb dX5_stock_0 rfl (lv_at hl 1 rfl) ?_
  refine lv_iconst (v := 1) hx hb dX5_stock_1 (by decide) ?_
  refine lv_sipush (v := 999) hx hb dX5_stock_2 (by decide) ?_
  refine end_i w (run_S (As := [.int x1, .int (1 : Int32), .int (999 : Int32)]) C w hl.1 (c_X5_isWithin l G C.2.2.1 _ _ x1 (1 : Int32) (999 : Int32)  _ h) kw_6_8 kw_1_2 kw_6_6 kw_6_7 hd_X5_isWithin ⟨by decide, by decide⟩ rfl (Nat.le_of_ble_eq_true rfl) dX5_stock_5) (fun r11 M12 H locs h w => ?_)
  refine lv_if_eq (tgt := 20) hx hb dX5_stock_8 (by decide) (fun c13 => ?_) (fun c13 => ?_)
  · replace h := h.1 c13
    exact t_X5_stock_20 C M12   w (lv_sub hl [] rfl) h
  replace h := h.2 c13
  refine lv_iload_n hx hb dX5_stock_11 rfl (lv_at hl 2 rfl) ?_
  refine lv_iconst (v := 0) hx hb dX5_stock_12 (by decide) ?_
  refine lv_iconst (v := 1) hx hb dX5_stock_13 (by decide) ?_
  refine end_i w (run_S (As := [.int x2, .int (0 : Int32), .int (1 : Int32)]) C w hl.1 (c_X5_isWithin l G C.2.2.1 _ _ x2 (0 : Int32) (1 : Int32)  _ h) kw_6_8 kw_1_2 kw_6_6 kw_6_7 hd_X5_isWithin ⟨by decide, by decide⟩ rfl (Nat.le_of_ble_eq_true rfl) dX5_stock_14) (fun r14 M15 H locs h w => ?_)
  refine lv_if_ne (tgt := 22) hx hb dX5_stock_17 (by decide) (fun c16 => ?_) (fun c16 => ?_)
  · replace h := h.2 c16
    refine lv_bipush (v := -4) hx hb dX5_stock_22 (by decide) ?_
    refine lv_istore_n (lv' := [(3, .int (-4 : Int32)), (0, .ref (ga G 0)), (1, .int x1), (2, .int x2)]) hx hb dX5_stock_24 rfl hl (by decide) rfl (fun ls hl => ?_)
    refine lv_bipush (v := -4) hx hb dX5_stock_25 (by decide) ?_
    refine lv_istore (lv' := [(4, .int (-4 : Int32)), (3, .int (-4 : Int32)), (0, .ref (ga G 0)), (1, .int x1), (2, .int x2)]) hx hb dX5_stock_27 hl (by decide) rfl (fun ls hl => ?_)
    refine lv_iconst (v := 1) hx hb dX5_stock_29 (by decide) ?_
    refine lv_istore (lv' := [(5, .int (1 : Int32)), (4, .int (-4 : Int32)), (3, .int (-4 : Int32)), (0, .ref (ga G 0)), (1, .int x1), (2, .int x2)]) hx hb dX5_stock_30 hl (by decide) rfl (fun ls hl => ?_)
    obtain ⟨n, h⟩ := h
    exact t_X5_stock_32 C n M15 x1 x2 (-4 : Int32) (-4 : Int32) (1 : Int32)  w (lv_sub hl [3, 4, 5, 2, 1, 0] rfl) h
  replace h := h.1 c16
  exact t_X5_stock_20 C M15   w (lv_sub hl [] rfl) h
def j_X6_stock_174 (post : Int32 → Mem → Prop) (M : Mem) (y0 : Int32) : Prop := post y0 M
def j_X6_stock_149 (k33 : Mem → Int32 → Int32 → Int32 → Int32 → Int32 → Prop) (post : Int32 → Mem → Prop) (M : Mem) (x1 : Int32) (x2 : Int32) (x3 : Int32) (x4 : Int32) (x5 : Int32) : Prop := k33 M x1 x2 x3 x4 (x5 + (1 : Int32))
def j_X6_stock_142 (k33 : Mem → Int32 → Int32 → Int32 → Int32 → Int32 → Prop) (post : Int32 → Mem → Prop) (M : Mem) (x1 : Int32) (x2 : Int32) (x5 : Int32) (x7 : Int32) : Prop := j_X6_stock_149 k33 post M x1 x2 x5 x7 x5
def j_X6_stock_89 (k33 : Mem → Int32 → Int32 → Int32 → Int32 → Int32 → Prop) (k48 : Mem → Int32 → Int32 → Int32 → Int32 → Int32 → Int32 → Int32 → Prop) (post : Int32 → Mem → Prop) (M : Mem) (y0 : Int32) (x1 : Int32) (x2 : Int32) (x3 : Int32) (x4 : Int32) (x5 : Int32) (x7 : Int32) : Prop := k48 M x1 x2 x3 x4 x5 y0 (x7 + (1 : Int32))
def j_X6_stock_88 (k33 : Mem → Int32 → Int32 → Int32 → Int32 → Int32 → Prop) (k48 : Mem → Int32 → Int32 → Int32 → Int32 → Int32 → Int32 → Int32 → Prop) (post : Int32 → Mem → Prop) (M : Mem) (x1 : Int32) (x2 : Int32) (x3 : Int32) (x4 : Int32) (x5 : Int32) (x7 : Int32) : Prop := j_X6_stock_89 k33 k48 post M (0 : Int32) x1 x2 x3 x4 x5 x7
def j_X6_stock_84 (k33 : Mem → Int32 → Int32 → Int32 → Int32 → Int32 → Prop) (k48 : Mem → Int32 → Int32 → Int32 → Int32 → Int32 → Int32 → Int32 → Prop) (post : Int32 → Mem → Prop) (M : Mem) (x1 : Int32) (x2 : Int32) (x3 : Int32) (x4 : Int32) (x5 : Int32) (x7 : Int32) : Prop := j_X6_stock_89 k33 k48 post M (1 : Int32) x1 x2 x3 x4 x5 x7
def b_X6_stock_48 (k33 : Mem → Int32 → Int32 → Int32 → Int32 → Int32 → Prop) (k48 : Mem → Int32 → Int32 → Int32 → Int32 → Int32 → Int32 → Int32 → Prop) (post : Int32 → Mem → Prop) (M : Mem) (x1 : Int32) (x2 : Int32) (x3 : Int32) (x4 : Int32) (x5 : Int32) (x6 : Int32) (x7 : Int32) : Prop := ((M 58 0) ≤ x7 → ((x6 = 0 → (j_X6_stock_149 k33 post M x1 x2 x3 x4 x5)) ∧ (¬ (x6 = 0) → (q_X6_sumsUp M x5 (fun M4 => ((M4 57 18) ≤ x1 → (q_X6_greatestOf M4  (fun r6 M7 => (x3 < 0 → (j_X6_stock_142 k33 post M7 x1 x2 x5 r6)) ∧ (¬ (x3 < 0) → ((r6 < x4 → (j_X6_stock_142 k33 post M7 x1 x2 x5 r6)) ∧ (¬ (r6 < x4) → (j_X6_stock_149 k33 post M7 x1 x2 x3 x4 x5))))))) ∧ (¬ ((M4 57 18) ≤ x1) → (j_X6_stock_149 k33 post M4 x1 x2 x3 x4 x5))))))) ∧ (¬ ((M 58 0) ≤ x7) → ((x6 = 0 → (j_X6_stock_88 k33 k48 post M x1 x2 x3 x4 x5 x7)) ∧ (¬ (x6 = 0) → ((((x5 >>> (x7 &&& 31)) &&& (1 : Int32)) = 0 → (j_X6_stock_84 k33 k48 post M x1 x2 x3 x4 x5 x7)) ∧ (¬ (((x5 >>> (x7 &&& 31)) &&& (1 : Int32)) = 0) → (q_X6_get M x7 (4 : Int32) (fun r12 M13 => (r12 = 0 → (j_X6_stock_84 k33 k48 post M13 x1 x2 x3 x4 x5 x7)) ∧ (¬ (r12 = 0) → (j_X6_stock_88 k33 k48 post M13 x1 x2 x3 x4 x5 x7)))))))))
def lp_X6_stock_48 (k33 : Mem → Int32 → Int32 → Int32 → Int32 → Int32 → Prop) (post : Int32 → Mem → Prop) : Nat → Mem → Int32 → Int32 → Int32 → Int32 → Int32 → Int32 → Int32 → Prop
  | 0 => fun _ _ _ _ _ _ _ _ => False
  | n + 1 => fun M x1 x2 x3 x4 x5 x6 x7 => b_X6_stock_48 k33 (lp_X6_stock_48 k33 post n) post M x1 x2 x3 x4 x5 x6 x7
def b_X6_stock_33 (k33 : Mem → Int32 → Int32 → Int32 → Int32 → Int32 → Prop) (post : Int32 → Mem → Prop) (M : Mem) (x1 : Int32) (x2 : Int32) (x3 : Int32) (x4 : Int32) (x5 : Int32) : Prop := q_X6_allPieces M  (fun r15 M16 => (r15 < x5 → ((0 ≤ x3 → ((x2 = 0 → (j_X6_stock_174 post M16 x3)) ∧ (¬ (x2 = 0) → (j_X6_stock_174 post M16 x4)))) ∧ (¬ (0 ≤ x3) → (j_X6_stock_174 post M16 (-4 : Int32))))) ∧ (¬ (r15 < x5) → (∃ n, lp_X6_stock_48 k33 post n M16 x1 x2 x3 x4 x5 (1 : Int32) (0 : Int32))))
def lp_X6_stock_33 (post : Int32 → Mem → Prop) : Nat → Mem → Int32 → Int32 → Int32 → Int32 → Int32 → Prop
  | 0 => fun _ _ _ _ _ _ => False
  | n + 1 => fun M x1 x2 x3 x4 x5 => b_X6_stock_33 (lp_X6_stock_33 post n) post M x1 x2 x3 x4 x5
def j_X6_stock_22 (post : Int32 → Mem → Prop) (M : Mem) : Prop := post (-1 : Int32) M
def q_X6_stock (M : Mem) (x1 : Int32) (x2 : Int32) (post : Int32 → Mem → Prop) : Prop := q_X6_isIn M x1.toInt64 (1 : Int64) (999 : Int64) (fun r20 M21 => (r20 = 0 → (j_X6_stock_22 post M21)) ∧ (¬ (r20 = 0) → (q_X6_isIn M21 x2.toInt64 (0 : Int64) (1 : Int64) (fun r23 M24 => (r23 = 0 → (j_X6_stock_22 post M24)) ∧ (¬ (r23 = 0) → (∃ n, lp_X6_stock_33 post n M24 x1 x2 (-4 : Int32) (0 : Int32) (1 : Int32)))))))
set_option maxHeartbeats 4000000 in
set_option maxRecDepth 100000 in
theorem t_X6_stock_174 (C : Cx G p s m args meth c RX6 cX6_stock 8 (some .int)) {post : Int32 → Mem → Prop} (M : Mem) (y0 : Int32) {H : Heap} {locs : List Loc} {ls : Array Slot} (w : Wd G s M H locs) (hl : lv_has ls 8 []) (h : j_X6_stock_174 post M y0) : W p l e (rmk 5) s m args below meth c H locs 0 0 (MQ below (va_Qi post (Qw G) (Af G s.heap.size)) args s 0 0 (Af G s.heap.size)) (F0 m 174 ls [.int y0]) := by
  have hx := C.1.1
  have hb := C.1.2.1
  unfold j_X6_stock_174 at h
  exact ret_i C w h dX6_stock_174
set_option maxHeartbeats 4000000 in
set_option maxRecDepth 100000 in
theorem t_X6_stock_149 (C : Cx G p s m args meth c RX6 cX6_stock 8 (some .int)) {post : Int32 → Mem → Prop} {k33 : Mem → Int32 → Int32 → Int32 → Int32 → Int32 → Prop} (hk33 : ∀ (M : Mem) (x1 : Int32) (x2 : Int32) (x3 : Int32) (x4 : Int32) (x5 : Int32) (H : Heap) (locs : List Loc) (ls : Array Slot), Wd G s M H locs → lv_has ls 8 [(0, .ref (ga G 57)), (1, .int x1), (2, .int x2), (3, .int x3), (4, .int x4), (5, .int x5)] → k33 M x1 x2 x3 x4 x5 → W p l e (rmk 5) s m args below meth c H locs 0 0 (MQ below (va_Qi post (Qw G) (Af G s.heap.size)) args s 0 0 (Af G s.heap.size)) (F0 m 33 ls [])) (M : Mem) (x1 : Int32) (x2 : Int32) (x3 : Int32) (x4 : Int32) (x5 : Int32) {H : Heap} {locs : List Loc} {ls : Array Slot} (w : Wd G s M H locs) (hl : lv_has ls 8 [(0, .ref (ga G 57)), (1, .int x1), (2, .int x2), (3, .int x3), (4, .int x4), (5, .int x5)]) (h : j_X6_stock_149 k33 post M x1 x2 x3 x4 x5) : W p l e (rmk 5) s m args below meth c H locs 0 0 (MQ below (va_Qi post (Qw G) (Af G s.heap.size)) args s 0 0 (Af G s.heap.size)) (F0 m 149 ls []) := by
  have hx := C.1.1
  have hb := C.1.2.1
  unfold j_X6_stock_149 at h
  refine lv_iinc (v := (x5 + (1 : Int32))) (lv' := [(5, .int (x5 + (1 : Int32))), (0, .ref (ga G 57)), (1, .int x1), (2, .int x2), (3, .int x3), (4, .int x4)]) hx hb dX6_stock_149 hl (k := 5) rfl rfl (by decide) rfl (fun ls hl => ?_)
  refine lv_goto (tgt := 33) hx hb dX6_stock_152 (by decide) ?_
  exact hk33 M x1 x2 x3 x4 (x5 + (1 : Int32)) _ _ _  w (lv_sub hl [1, 2, 3, 4, 5, 0] rfl) h
set_option maxHeartbeats 4000000 in
set_option maxRecDepth 100000 in
theorem t_X6_stock_142 (C : Cx G p s m args meth c RX6 cX6_stock 8 (some .int)) {post : Int32 → Mem → Prop} {k33 : Mem → Int32 → Int32 → Int32 → Int32 → Int32 → Prop} (hk33 : ∀ (M : Mem) (x1 : Int32) (x2 : Int32) (x3 : Int32) (x4 : Int32) (x5 : Int32) (H : Heap) (locs : List Loc) (ls : Array Slot), Wd G s M H locs → lv_has ls 8 [(0, .ref (ga G 57)), (1, .int x1), (2, .int x2), (3, .int x3), (4, .int x4), (5, .int x5)] → k33 M x1 x2 x3 x4 x5 → W p l e (rmk 5) s m args below meth c H locs 0 0 (MQ below (va_Qi post (Qw G) (Af G s.heap.size)) args s 0 0 (Af G s.heap.size)) (F0 m 33 ls [])) (M : Mem) (x1 : Int32) (x2 : Int32) (x5 : Int32) (x7 : Int32) {H : Heap} {locs : List Loc} {ls : Array Slot} (w : Wd G s M H locs) (hl : lv_has ls 8 [(0, .ref (ga G 57)), (1, .int x1), (2, .int x2), (5, .int x5), (7, .int x7)]) (h : j_X6_stock_142 k33 post M x1 x2 x5 x7) : W p l e (rmk 5) s m args below meth c H locs 0 0 (MQ below (va_Qi post (Qw G) (Af G s.heap.size)) args s 0 0 (Af G s.heap.size)) (F0 m 142 ls []) := by
  have hx := C.1.1
  have hb := C.1.2.1
  unfold j_X6_stock_142 at h
  refine lv_iload hx hb dX6_stock_142 (lv_at hl 3 rfl) ?_
  refine lv_istore_n (lv' := [(3, .int x5), (0, .ref (ga G 57)), (1, .int x1), (2, .int x2), (5, .int x5), (7, .int x7)]) hx hb dX6_stock_144 rfl hl (by decide) rfl (fun ls hl => ?_)
  refine lv_iload hx hb dX6_stock_145 (lv_at hl 5 rfl) ?_
  refine lv_istore (lv' := [(4, .int x7), (3, .int x5), (0, .ref (ga G 57)), (1, .int x1), (2, .int x2), (5, .int x5), (7, .int x7)]) hx hb dX6_stock_147 hl (by decide) rfl (fun ls hl => ?_)
  exact t_X6_stock_149 C hk33 M x1 x2 x5 x7 x5  w (lv_sub hl [2, 3, 4, 1, 0, 5] rfl) h
set_option maxHeartbeats 4000000 in
set_option maxRecDepth 100000 in
theorem t_X6_stock_89 (C : Cx G p s m args meth c RX6 cX6_stock 8 (some .int)) {post : Int32 → Mem → Prop} {k33 : Mem → Int32 → Int32 → Int32 → Int32 → Int32 → Prop} {k48 : Mem → Int32 → Int32 → Int32 → Int32 → Int32 → Int32 → Int32 → Prop} (hk33 : ∀ (M : Mem) (x1 : Int32) (x2 : Int32) (x3 : Int32) (x4 : Int32) (x5 : Int32) (H : Heap) (locs : List Loc) (ls : Array Slot), Wd G s M H locs → lv_has ls 8 [(0, .ref (ga G 57)), (1, .int x1), (2, .int x2), (3, .int x3), (4, .int x4), (5, .int x5)] → k33 M x1 x2 x3 x4 x5 → W p l e (rmk 5) s m args below meth c H locs 0 0 (MQ below (va_Qi post (Qw G) (Af G s.heap.size)) args s 0 0 (Af G s.heap.size)) (F0 m 33 ls [])) (hk48 : ∀ (M : Mem) (x1 : Int32) (x2 : Int32) (x3 : Int32) (x4 : Int32) (x5 : Int32) (x6 : Int32) (x7 : Int32) (H : Heap) (locs : List Loc) (ls : Array Slot), Wd G s M H locs → lv_has ls 8 [(0, .ref (ga G 57)), (1, .int x1), (2, .int x2), (3, .int x3), (4, .int x4), (5, .int x5), (6, .int x6), (7, .int x7)] → k48 M x1 x2 x3 x4 x5 x6 x7 → W p l e (rmk 5) s m args below meth c H locs 0 0 (MQ below (va_Qi post (Qw G) (Af G s.heap.size)) args s 0 0 (Af G s.heap.size)) (F0 m 48 ls [])) (M : Mem) (y0 : Int32) (x1 : Int32) (x2 : Int32) (x3 : Int32) (x4 : Int32) (x5 : Int32) (x7 : Int32) {H : Heap} {locs : List Loc} {ls : Array Slot} (w : Wd G s M H locs) (hl : lv_has ls 8 [(0, .ref (ga G 57)), (1, .int x1), (2, .int x2), (3, .int x3), (4, .int x4), (5, .int x5), (7, .int x7)]) (h : j_X6_stock_89 k33 k48 post M y0 x1 x2 x3 x4 x5 x7) : W p l e (rmk 5) s m args below meth c H locs 0 0 (MQ below (va_Qi post (Qw G) (Af G s.heap.size)) args s 0 0 (Af G s.heap.size)) (F0 m 89 ls [.int y0]) := by
  have hx := C.1.1
  have hb := C.1.2.1
  unfold j_X6_stock_89 at h
  refine lv_istore (lv' := [(6, .int y0), (0, .ref (ga G 57)), (1, .int x1), (2, .int x2), (3, .int x3), (4, .int x4), (5, .int x5), (7, .int x7)]) hx hb dX6_stock_89 hl (by decide) rfl (fun ls hl => ?_)
  refine lv_iinc (v := (x7 + (1 : Int32))) (lv' := [(7, .int (x7 + (1 : Int32))), (6, .int y0), (0, .ref (ga G 57)), (1, .int x1), (2, .int x2), (3, .int x3), (4, .int x4), (5, .int x5)]) hx hb dX6_stock_91 hl (k := 7) rfl rfl (by decide) rfl (fun ls hl => ?_)
  refine lv_goto (tgt := 48) hx hb dX6_stock_94 (by decide) ?_
  exact hk48 M x1 x2 x3 x4 x5 y0 (x7 + (1 : Int32)) _ _ _  w (lv_sub hl [2, 3, 4, 5, 6, 7, 1, 0] rfl) h
set_option maxHeartbeats 4000000 in
set_option maxRecDepth 100000 in
theorem t_X6_stock_88 (C : Cx G p s m args meth c RX6 cX6_stock 8 (some .int)) {post : Int32 → Mem → Prop} {k33 : Mem → Int32 → Int32 → Int32 → Int32 → Int32 → Prop} {k48 : Mem → Int32 → Int32 → Int32 → Int32 → Int32 → Int32 → Int32 → Prop} (hk33 : ∀ (M : Mem) (x1 : Int32) (x2 : Int32) (x3 : Int32) (x4 : Int32) (x5 : Int32) (H : Heap) (locs : List Loc) (ls : Array Slot), Wd G s M H locs → lv_has ls 8 [(0, .ref (ga G 57)), (1, .int x1), (2, .int x2), (3, .int x3), (4, .int x4), (5, .int x5)] → k33 M x1 x2 x3 x4 x5 → W p l e (rmk 5) s m args below meth c H locs 0 0 (MQ below (va_Qi post (Qw G) (Af G s.heap.size)) args s 0 0 (Af G s.heap.size)) (F0 m 33 ls [])) (hk48 : ∀ (M : Mem) (x1 : Int32) (x2 : Int32) (x3 : Int32) (x4 : Int32) (x5 : Int32) (x6 : Int32) (x7 : Int32) (H : Heap) (locs : List Loc) (ls : Array Slot), Wd G s M H locs → lv_has ls 8 [(0, .ref (ga G 57)), (1, .int x1), (2, .int x2), (3, .int x3), (4, .int x4), (5, .int x5), (6, .int x6), (7, .int x7)] → k48 M x1 x2 x3 x4 x5 x6 x7 → W p l e (rmk 5) s m args below meth c H locs 0 0 (MQ below (va_Qi post (Qw G) (Af G s.heap.size)) args s 0 0 (Af G s.heap.size)) (F0 m 48 ls [])) (M : Mem) (x1 : Int32) (x2 : Int32) (x3 : Int32) (x4 : Int32) (x5 : Int32) (x7 : Int32) {H : Heap} {locs : List Loc} {ls : Array Slot} (w : Wd G s M H locs) (hl : lv_has ls 8 [(0, .ref (ga G 57)), (1, .int x1), (2, .int x2), (3, .int x3), (4, .int x4), (5, .int x5), (7, .int x7)]) (h : j_X6_stock_88 k33 k48 post M x1 x2 x3 x4 x5 x7) : W p l e (rmk 5) s m args below meth c H locs 0 0 (MQ below (va_Qi post (Qw G) (Af G s.heap.size)) args s 0 0 (Af G s.heap.size)) (F0 m 88 ls []) := by
  have hx := C.1.1
  have hb := C.1.2.1
  unfold j_X6_stock_88 at h
  refine lv_iconst (v := 0) hx hb dX6_stock_88 (by decide) ?_
  exact t_X6_stock_89 C hk33 hk48 M (0 : Int32) x1 x2 x3 x4 x5 x7  w (lv_sub hl [0, 1, 2, 3, 4, 5, 6] rfl) h
set_option maxHeartbeats 4000000 in
set_option maxRecDepth 100000 in
theorem t_X6_stock_84 (C : Cx G p s m args meth c RX6 cX6_stock 8 (some .int)) {post : Int32 → Mem → Prop} {k33 : Mem → Int32 → Int32 → Int32 → Int32 → Int32 → Prop} {k48 : Mem → Int32 → Int32 → Int32 → Int32 → Int32 → Int32 → Int32 → Prop} (hk33 : ∀ (M : Mem) (x1 : Int32) (x2 : Int32) (x3 : Int32) (x4 : Int32) (x5 : Int32) (H : Heap) (locs : List Loc) (ls : Array Slot), Wd G s M H locs → lv_has ls 8 [(0, .ref (ga G 57)), (1, .int x1), (2, .int x2), (3, .int x3), (4, .int x4), (5, .int x5)] → k33 M x1 x2 x3 x4 x5 → W p l e (rmk 5) s m args below meth c H locs 0 0 (MQ below (va_Qi post (Qw G) (Af G s.heap.size)) args s 0 0 (Af G s.heap.size)) (F0 m 33 ls [])) (hk48 : ∀ (M : Mem) (x1 : Int32) (x2 : Int32) (x3 : Int32) (x4 : Int32) (x5 : Int32) (x6 : Int32) (x7 : Int32) (H : Heap) (locs : List Loc) (ls : Array Slot), Wd G s M H locs → lv_has ls 8 [(0, .ref (ga G 57)), (1, .int x1), (2, .int x2), (3, .int x3), (4, .int x4), (5, .int x5), (6, .int x6), (7, .int x7)] → k48 M x1 x2 x3 x4 x5 x6 x7 → W p l e (rmk 5) s m args below meth c H locs 0 0 (MQ below (va_Qi post (Qw G) (Af G s.heap.size)) args s 0 0 (Af G s.heap.size)) (F0 m 48 ls [])) (M : Mem) (x1 : Int32) (x2 : Int32) (x3 : Int32) (x4 : Int32) (x5 : Int32) (x7 : Int32) {H : Heap} {locs : List Loc} {ls : Array Slot} (w : Wd G s M H locs) (hl : lv_has ls 8 [(0, .ref (ga G 57)), (1, .int x1), (2, .int x2), (3, .int x3), (4, .int x4), (5, .int x5), (7, .int x7)]) (h : j_X6_stock_84 k33 k48 post M x1 x2 x3 x4 x5 x7) : W p l e (rmk 5) s m args below meth c H locs 0 0 (MQ below (va_Qi post (Qw G) (Af G s.heap.size)) args s 0 0 (Af G s.heap.size)) (F0 m 84 ls []) := by
  have hx := C.1.1
  have hb := C.1.2.1
  unfold j_X6_stock_84 at h
  refine lv_iconst (v := 1) hx hb dX6_stock_84 (by decide) ?_
  refine lv_goto (tgt := 89) hx hb dX6_stock_85 (by decide) ?_
  exact t_X6_stock_89 C hk33 hk48 M (1 : Int32) x1 x2 x3 x4 x5 x7  w (lv_sub hl [0, 1, 2, 3, 4, 5, 6] rfl) h
set_option maxHeartbeats 4000000 in
set_option maxRecDepth 100000 in
theorem t_X6_stock_48 (C : Cx G p s m args meth c RX6 cX6_stock 8 (some .int)) {post : Int32 → Mem → Prop} {k33 : Mem → Int32 → Int32 → Int32 → Int32 → Int32 → Prop} (hk33 : ∀ (M : Mem) (x1 : Int32) (x2 : Int32) (x3 : Int32) (x4 : Int32) (x5 : Int32) (H : Heap) (locs : List Loc) (ls : Array Slot), Wd G s M H locs → lv_has ls 8 [(0, .ref (ga G 57)), (1, .int x1), (2, .int x2), (3, .int x3), (4, .int x4), (5, .int x5)] → k33 M x1 x2 x3 x4 x5 → W p l e (rmk 5) s m args below meth c H locs 0 0 (MQ below (va_Qi post (Qw G) (Af G s.heap.size)) args s 0 0 (Af G s.heap.size)) (F0 m 33 ls [])) : ∀ (n : Nat) (M : Mem) (x1 : Int32) (x2 : Int32) (x3 : Int32) (x4 : Int32) (x5 : Int32) (x6 : Int32) (x7 : Int32) {H : Heap} {locs : List Loc} {ls : Array Slot} (w : Wd G s M H locs) (hl : lv_has ls 8 [(0, .ref (ga G 57)), (1, .int x1), (2, .int x2), (3, .int x3), (4, .int x4), (5, .int x5), (6, .int x6), (7, .int x7)]) (h : lp_X6_stock_48 k33 post n M x1 x2 x3 x4 x5 x6 x7), W p l e (rmk 5) s m args below meth c H locs 0 0 (MQ below (va_Qi post (Qw G) (Af G s.heap.size)) args s 0 0 (Af G s.heap.size)) (F0 m 48 ls []) := by
  have hx := C.1.1
  have hb := C.1.2.1
  intro n9
  induction n9 with
  | zero => intro M x1 x2 x3 x4 x5 x6 x7 H locs ls w hl h; exact absurd h id
  | succ n9 ih9 =>
    intro M x1 x2 x3 x4 x5 x6 x7 H locs ls w hl h
    have hk48 : ∀ (M : Mem) (x1 : Int32) (x2 : Int32) (x3 : Int32) (x4 : Int32) (x5 : Int32) (x6 : Int32) (x7 : Int32) (H : Heap) (locs : List Loc) (ls : Array Slot), Wd G s M H locs → lv_has ls 8 [(0, .ref (ga G 57)), (1, .int x1), (2, .int x2), (3, .int x3), (4, .int x4), (5, .int x5), (6, .int x6), (7, .int x7)] → lp_X6_stock_48 k33 post n9 M x1 x2 x3 x4 x5 x6 x7 → W p l e (rmk 5) s m args below meth c H locs 0 0 (MQ below (va_Qi post (Qw G) (Af G s.heap.size)) args s 0 0 (Af G s.heap.size)) (F0 m 48 ls []) := fun M x1 x2 x3 x4 x5 x6 x7 H locs ls w hl h => ih9 M x1 x2 x3 x4 x5 x6 x7 w hl h
    replace h : b_X6_stock_48 k33 (lp_X6_stock_48 k33 post n9) post M x1 x2 x3 x4 x5 x6 x7 := h
    unfold b_X6_stock_48 at h
    refine lv_iload hx hb dX6_stock_48 (lv_at hl 7 rfl) ?_
    refine lv_aload_n hx hb dX6_stock_50 rfl (lv_at hl 0 rfl) ?_
    refine gt_6_0 C w kw_5_0 dX6_stock_51 ?_
    refine lv_iconst (v := 0) hx hb dX6_stock_54 (by decide) ?_
    refine pw_ld C w (i := 58) (by decide) pE_58 (vl (x := (0 : Int32)) (by decide)) (k := 0) (by decide) dX6_stock_55 ?_
    refine lv_icmp_ge (tgt := 97) hx hb dX6_stock_56 (by decide) (fun c1 => ?_) (fun c1 => ?_)
    · replace h := h.1 c1
      refine lv_iload hx hb dX6_stock_97 (lv_at hl 6 rfl) ?_
      refine lv_if_ne (tgt := 105) hx hb dX6_stock_99 (by decide) (fun c2 => ?_) (fun c2 => ?_)
      · replace h := h.2 c2
        refine lv_aload_n hx hb dX6_stock_105 rfl (lv_at hl 0 rfl) ?_
        refine lv_iload hx hb dX6_stock_106 (lv_at hl 5 rfl) ?_
        refine end_v w (run_V (As := [.int x5]) C w hl.1 (c_X6_sumsUp l G C.2.2.1 _ _ x5  _ h) kw_17_19 kw_1_5 kw_17_16 kw_17_17 kw_17_18 hd_X6_sumsUp ⟨by decide, by decide⟩ (w.recv C (i := 57) (by decide) (pE_6) rfl) rfl (Nat.le_of_ble_eq_true rfl) dX6_stock_108) (fun M4 H locs h w => ?_)
        refine lv_aload_n hx hb dX6_stock_111 rfl (lv_at hl 0 rfl) ?_
        refine gt_6_18 C w kw_17_5 dX6_stock_112 ?_
        refine lv_iload_n hx hb dX6_stock_115 rfl (lv_at hl 1 rfl) ?_
        refine lv_icmp_le (tgt := 122) hx hb dX6_stock_116 (by decide) (fun c5 => ?_) (fun c5 => ?_)
        · replace h := h.1 c5
          refine lv_aload_n hx hb dX6_stock_122 rfl (lv_at hl 0 rfl) ?_
          refine end_i w (run_V (As := []) C w hl.1 (c_X6_greatestOf l G C.2.2.1 _ _   _ h) kw_23_4 kw_1_5 kw_23_1 kw_23_2 kw_23_3 hd_X6_greatestOf ⟨by decide, by decide⟩ (w.recv C (i := 57) (by decide) (pE_6) rfl) rfl (Nat.le_of_ble_eq_true rfl) dX6_stock_123) (fun r6 M7 H locs h w => ?_)
          refine lv_istore (lv' := [(7, .int r6), (0, .ref (ga G 57)), (1, .int x1), (2, .int x2), (3, .int x3), (4, .int x4), (5, .int x5), (6, .int x6)]) hx hb dX6_stock_126 hl (by decide) rfl (fun ls hl => ?_)
          refine lv_iload_n hx hb dX6_stock_128 rfl (lv_at hl 4 rfl) ?_
          refine lv_if_lt (tgt := 142) hx hb dX6_stock_129 (by decide) (fun c8 => ?_) (fun c8 => ?_)
          · replace h := h.1 c8
            exact t_X6_stock_142 C hk33 M7 x1 x2 x5 r6  w (lv_sub hl [1, 2, 3, 6, 0] rfl) h
          replace h := h.2 c8
          refine lv_iload hx hb dX6_stock_132 (lv_at hl 0 rfl) ?_
          refine lv_iload hx hb dX6_stock_134 (lv_at hl 5 rfl) ?_
          refine lv_icmp_lt (tgt := 142) hx hb dX6_stock_136 (by decide) (fun c9 => ?_) (fun c9 => ?_)
          · replace h := h.1 c9
            exact t_X6_stock_142 C hk33 M7 x1 x2 x5 r6  w (lv_sub hl [1, 2, 3, 6, 0] rfl) h
          replace h := h.2 c9
          refine lv_goto (tgt := 149) hx hb dX6_stock_139 (by decide) ?_
          exact t_X6_stock_149 C hk33 M7 x1 x2 x3 x4 x5  w (lv_sub hl [1, 2, 3, 4, 5, 6] rfl) h
        replace h := h.2 c5
        refine lv_goto (tgt := 149) hx hb dX6_stock_119 (by decide) ?_
        exact t_X6_stock_149 C hk33 M4 x1 x2 x3 x4 x5  w (lv_sub hl [0, 1, 2, 3, 4, 5] rfl) h
      replace h := h.1 c2
      refine lv_goto (tgt := 149) hx hb dX6_stock_102 (by decide) ?_
      exact t_X6_stock_149 C hk33 M x1 x2 x3 x4 x5  w (lv_sub hl [0, 1, 2, 3, 4, 5] rfl) h
    replace h := h.2 c1
    refine lv_iload hx hb dX6_stock_59 (lv_at hl 6 rfl) ?_
    refine lv_if_eq (tgt := 88) hx hb dX6_stock_61 (by decide) (fun c10 => ?_) (fun c10 => ?_)
    · replace h := h.1 c10
      exact t_X6_stock_88 C hk33 hk48 M x1 x2 x3 x4 x5 x7  w (lv_sub hl [0, 1, 2, 3, 4, 5, 7] rfl) h
    replace h := h.2 c10
    refine lv_iload hx hb dX6_stock_64 (lv_at hl 5 rfl) ?_
    refine lv_iload hx hb dX6_stock_66 (lv_at hl 7 rfl) ?_
    refine lv_ishr hx hb dX6_stock_68 ?_
    refine lv_iconst (v := 1) hx hb dX6_stock_69 (by decide) ?_
    refine lv_iand hx hb dX6_stock_70 ?_
    refine lv_if_eq (tgt := 84) hx hb dX6_stock_71 (by decide) (fun c11 => ?_) (fun c11 => ?_)
    · replace h := h.1 c11
      exact t_X6_stock_84 C hk33 hk48 M x1 x2 x3 x4 x5 x7  w (lv_sub hl [0, 1, 2, 3, 4, 5, 7] rfl) h
    replace h := h.2 c11
    refine lv_aload_n hx hb dX6_stock_74 rfl (lv_at hl 0 rfl) ?_
    refine lv_iload hx hb dX6_stock_75 (lv_at hl 7 rfl) ?_
    refine lv_iconst (v := 4) hx hb dX6_stock_77 (by decide) ?_
    refine end_i w (run_V (As := [.int x7, .int (4 : Int32)]) C w hl.1 (c_X6_get l G C.2.2.1 _ _ x7 (4 : Int32)  _ h) kw_14_10 kw_1_5 kw_14_7 kw_14_8 kw_14_9 hd_X6_get ⟨by decide, by decide⟩ (w.recv C (i := 57) (by decide) (pE_6) rfl) rfl (Nat.le_of_ble_eq_true rfl) dX6_stock_78) (fun r12 M13 H locs h w => ?_)
    refine lv_if_ne (tgt := 88) hx hb dX6_stock_81 (by decide) (fun c14 => ?_) (fun c14 => ?_)
    · replace h := h.2 c14
      exact t_X6_stock_88 C hk33 hk48 M13 x1 x2 x3 x4 x5 x7  w (lv_sub hl [0, 1, 2, 3, 4, 5, 7] rfl) h
    replace h := h.1 c14
    exact t_X6_stock_84 C hk33 hk48 M13 x1 x2 x3 x4 x5 x7  w (lv_sub hl [0, 1, 2, 3, 4, 5, 7] rfl) h
set_option maxHeartbeats 4000000 in
set_option maxRecDepth 100000 in
theorem t_X6_stock_33 (C : Cx G p s m args meth c RX6 cX6_stock 8 (some .int)) {post : Int32 → Mem → Prop} : ∀ (n : Nat) (M : Mem) (x1 : Int32) (x2 : Int32) (x3 : Int32) (x4 : Int32) (x5 : Int32) {H : Heap} {locs : List Loc} {ls : Array Slot} (w : Wd G s M H locs) (hl : lv_has ls 8 [(0, .ref (ga G 57)), (1, .int x1), (2, .int x2), (3, .int x3), (4, .int x4), (5, .int x5)]) (h : lp_X6_stock_33 post n M x1 x2 x3 x4 x5), W p l e (rmk 5) s m args below meth c H locs 0 0 (MQ below (va_Qi post (Qw G) (Af G s.heap.size)) args s 0 0 (Af G s.heap.size)) (F0 m 33 ls []) := by
  have hx := C.1.1
  have hb := C.1.2.1
  intro n9
  induction n9 with
  | zero => intro M x1 x2 x3 x4 x5 H locs ls w hl h; exact absurd h id
  | succ n9 ih9 =>
    intro M x1 x2 x3 x4 x5 H locs ls w hl h
    have hk33 : ∀ (M : Mem) (x1 : Int32) (x2 : Int32) (x3 : Int32) (x4 : Int32) (x5 : Int32) (H : Heap) (locs : List Loc) (ls : Array Slot), Wd G s M H locs → lv_has ls 8 [(0, .ref (ga G 57)), (1, .int x1), (2, .int x2), (3, .int x3), (4, .int x4), (5, .int x5)] → lp_X6_stock_33 post n9 M x1 x2 x3 x4 x5 → W p l e (rmk 5) s m args below meth c H locs 0 0 (MQ below (va_Qi post (Qw G) (Af G s.heap.size)) args s 0 0 (Af G s.heap.size)) (F0 m 33 ls []) := fun M x1 x2 x3 x4 x5 H locs ls w hl h => ih9 M x1 x2 x3 x4 x5 w hl h
    replace h : b_X6_stock_33 (lp_X6_stock_33 post n9) post M x1 x2 x3 x4 x5 := h
    unfold b_X6_stock_33 at h
    refine lv_iload hx hb dX6_stock_33 (lv_at hl 5 rfl) ?_
    refine lv_aload_n hx hb dX6_stock_35 rfl (lv_at hl 0 rfl) ?_
    refine end_i w (run_V (As := []) C w hl.1 (c_X6_allPieces l G C.2.2.1 _ _   _ h) kw_17_15 kw_1_5 kw_17_12 kw_17_13 kw_17_14 hd_X6_allPieces ⟨by decide, by decide⟩ (w.recv C (i := 57) (by decide) (pE_6) rfl) rfl (Nat.le_of_ble_eq_true rfl) dX6_stock_36) (fun r15 M16 H locs h w => ?_)
    refine lv_icmp_gt (tgt := 155) hx hb dX6_stock_39 (by decide) (fun c17 => ?_) (fun c17 => ?_)
    · replace h := h.1 c17
      refine lv_iload_n hx hb dX6_stock_155 rfl (lv_at hl 3 rfl) ?_
      refine lv_if_ge (tgt := 164) hx hb dX6_stock_156 (by decide) (fun c18 => ?_) (fun c18 => ?_)
      · replace h := h.1 c18
        refine lv_iload_n hx hb dX6_stock_164 rfl (lv_at hl 2 rfl) ?_
        refine lv_if_ne (tgt := 172) hx hb dX6_stock_165 (by decide) (fun c19 => ?_) (fun c19 => ?_)
        · replace h := h.2 c19
          refine lv_iload hx hb dX6_stock_172 (lv_at hl 4 rfl) ?_
          exact t_X6_stock_174 C M16 x4  w (lv_sub hl [] rfl) h
        replace h := h.1 c19
        refine lv_iload_n hx hb dX6_stock_168 rfl (lv_at hl 3 rfl) ?_
        refine lv_goto (tgt := 174) hx hb dX6_stock_169 (by decide) ?_
        exact t_X6_stock_174 C M16 x3  w (lv_sub hl [] rfl) h
      replace h := h.2 c18
      refine lv_bipush (v := -4) hx hb dX6_stock_159 (by decide) ?_
      refine lv_goto (tgt := 174) hx hb dX6_stock_161 (by decide) ?_
      exact t_X6_stock_174 C M16 (-4 : Int32)  w (lv_sub hl [] rfl) h
    replace h := h.2 c17
    refine lv_iconst (v := 1) hx hb dX6_stock_42 (by decide) ?_
    refine lv_istore (lv' := [(6, .int (1 : Int32)), (0, .ref (ga G 57)), (1, .int x1), (2, .int x2), (3, .int x3), (4, .int x4), (5, .int x5)]) hx hb dX6_stock_43 hl (by decide) rfl (fun ls hl => ?_)
    refine lv_iconst (v := 0) hx hb dX6_stock_45 (by decide) ?_
    refine lv_istore (lv' := [(7, .int (0 : Int32)), (6, .int (1 : Int32)), (0, .ref (ga G 57)), (1, .int x1), (2, .int x2), (3, .int x3), (4, .int x4), (5, .int x5)]) hx hb dX6_stock_46 hl (by decide) rfl (fun ls hl => ?_)
    obtain ⟨n, h⟩ := h
    exact t_X6_stock_48 C hk33 n M16 x1 x2 x3 x4 x5 (1 : Int32) (0 : Int32)  w (lv_sub hl [2, 3, 4, 5, 6, 7, 1, 0] rfl) h
set_option maxHeartbeats 4000000 in
set_option maxRecDepth 100000 in
theorem t_X6_stock_22 (C : Cx G p s m args meth c RX6 cX6_stock 8 (some .int)) {post : Int32 → Mem → Prop} (M : Mem) {H : Heap} {locs : List Loc} {ls : Array Slot} (w : Wd G s M H locs) (hl : lv_has ls 8 []) (h : j_X6_stock_22 post M) : W p l e (rmk 5) s m args below meth c H locs 0 0 (MQ below (va_Qi post (Qw G) (Af G s.heap.size)) args s 0 0 (Af G s.heap.size)) (F0 m 22 ls []) := by
  have hx := C.1.1
  have hb := C.1.2.1
  unfold j_X6_stock_22 at h
  refine lv_iconst (v := -1) hx hb dX6_stock_22 (by decide) ?_
  exact ret_i C w h dX6_stock_23
set_option maxHeartbeats 4000000 in
set_option maxRecDepth 100000 in
theorem c_X6_stock (l : Launch) (G : GG) (hG : Ag G) (sz : Nat) (M : Mem) (x1 : Int32) (x2 : Int32) (post : Int32 → Mem → Prop) (h : q_X6_stock M x1 x2 post) : Met l yX6_stock (Cond.code yX6_stock cX6_stock 8 (some .int) :: wsL_law) (rmk 5) (va_Pc [.ref (ga G 57), .int x1, .int x2] (Pw G sz M)) (va_Qi post (Qw G) (Af G sz)) 0 0 (Af G sz) := by
  refine Met.ofW (cc := cX6_stock) (maxL := 8) (ret := (some .int)) (by decide) rfl ?_
  intro p e s m args below meth c s₁ B hml hv
  obtain ⟨rfl, hsz, hE, hP⟩ := hv
  subst hsz
  have C := Cx.of (own := RX6) hG hE rfl hml B
  have w : Wd G s M s.heap [] := ⟨hP, va_S.rf⟩
  have hl := lv_entry [.ref (ga G 57), .int x1, .int x2] (n := 8) (Nat.le_of_ble_eq_true rfl)
  rw [lg_entry_eq]
  generalize (lg_sl [.ref (ga G 57), .int x1, .int x2] ++ List.replicate (8 - (lg_sl [.ref (ga G 57), .int x1, .int x2]).length) Slot.unset).toArray = ls at hl ⊢
  have hl : lv_has ls 8 [(0, .ref (ga G 57)), (1, .int x1), (2, .int x2)] := hl
  have hx := C.1.1
  have hb := C.1.2.1
  show W p l e (rmk 5) s m _ below meth c s.heap [] 0 0 _ _
  unfold q_X6_stock at h
  refine lv_iload_n hx hb dX6_stock_0 rfl (lv_at hl 1 rfl) ?_
  refine lv_i2l hx hb dX6_stock_1 rfl ?_
  refine lv_lconst (v := 1) hx hb dX6_stock_2 (by decide) ?_
  refine lv_ldc2 hx hb C.1.2.2.2.1 (C.ws kw_25_4) dX6_stock_3 ?_
  refine end_i w (run_S (As := [.long x1.toInt64, .long (1 : Int64), .long (999 : Int64)]) C w hl.1 (c_X6_isIn l G C.2.2.1 _ _ x1.toInt64 (1 : Int64) (999 : Int64)  _ h) kw_12_5 kw_1_5 kw_12_3 kw_12_4 hd_X6_isIn ⟨by decide, by decide⟩ rfl (Nat.le_of_ble_eq_true rfl) dX6_stock_6) (fun r20 M21 H locs h w => ?_)
  refine lv_if_eq (tgt := 22) hx hb dX6_stock_9 (by decide) (fun c22 => ?_) (fun c22 => ?_)
  · replace h := h.1 c22
    exact t_X6_stock_22 C M21   w (lv_sub hl [] rfl) h
  replace h := h.2 c22
  refine lv_iload_n hx hb dX6_stock_12 rfl (lv_at hl 2 rfl) ?_
  refine lv_i2l hx hb dX6_stock_13 rfl ?_
  refine lv_lconst (v := 0) hx hb dX6_stock_14 (by decide) ?_
  refine lv_lconst (v := 1) hx hb dX6_stock_15 (by decide) ?_
  refine end_i w (run_S (As := [.long x2.toInt64, .long (0 : Int64), .long (1 : Int64)]) C w hl.1 (c_X6_isIn l G C.2.2.1 _ _ x2.toInt64 (0 : Int64) (1 : Int64)  _ h) kw_12_5 kw_1_5 kw_12_3 kw_12_4 hd_X6_isIn ⟨by decide, by decide⟩ rfl (Nat.le_of_ble_eq_true rfl) dX6_stock_16) (fun r23 M24 H locs h w => ?_)
  refine lv_if_ne (tgt := 24) hx hb dX6_stock_19 (by decide) (fun c25 => ?_) (fun c25 => ?_)
  · replace h := h.2 c25
    refine lv_bipush (v := -4) hx hb dX6_stock_24 (by decide) ?_
    refine lv_istore_n (lv' := [(3, .int (-4 : Int32)), (0, .ref (ga G 57)), (1, .int x1), (2, .int x2)]) hx hb dX6_stock_26 rfl hl (by decide) rfl (fun ls hl => ?_)
    refine lv_iconst (v := 0) hx hb dX6_stock_27 (by decide) ?_
    refine lv_istore (lv' := [(4, .int (0 : Int32)), (3, .int (-4 : Int32)), (0, .ref (ga G 57)), (1, .int x1), (2, .int x2)]) hx hb dX6_stock_28 hl (by decide) rfl (fun ls hl => ?_)
    refine lv_iconst (v := 1) hx hb dX6_stock_30 (by decide) ?_
    refine lv_istore (lv' := [(5, .int (1 : Int32)), (4, .int (0 : Int32)), (3, .int (-4 : Int32)), (0, .ref (ga G 57)), (1, .int x1), (2, .int x2)]) hx hb dX6_stock_31 hl (by decide) rfl (fun ls hl => ?_)
    obtain ⟨n, h⟩ := h
    exact t_X6_stock_33 C n M24 x1 x2 (-4 : Int32) (0 : Int32) (1 : Int32)  w (lv_sub hl [3, 4, 5, 2, 1, 0] rfl) h
  replace h := h.1 c25
  exact t_X6_stock_22 C M24   w (lv_sub hl [] rfl) h
def j_X5_bridge_20 (post : Int32 → Mem → Prop) (M : Mem) : Prop := post (-1000000001 : Int32) M
def q_X5_bridge (M : Mem) (x1 : Int32) (x2 : Int32) (post : Int32 → Mem → Prop) : Prop := q_X5_isWithin M x1 (0 : Int32) (7 : Int32) (fun r1 M2 => (r1 = 0 → (j_X5_bridge_20 post M2)) ∧ (¬ (r1 = 0) → (q_X5_isWithin M2 x2 (1 : Int32) (99 : Int32) (fun r4 M5 => (r4 = 0 → (j_X5_bridge_20 post M5)) ∧ (¬ (r4 = 0) → (q_X5_layLine M5  (fun r7 M8 => (r7 = 0 → (post (-1000000003 : Int32) M8)) ∧ (¬ (r7 = 0) → (q_X0_greatestPull M8  (fun r10 M11 => q_X1_begin M11 56 x1 (0 : Int32) x2 (6 : Int32) (fun M13 => q_X0_add M13 56 x2 (fun M15 => q_X0_greatestPull M15  (fun r16 M17 => post (r10 - r16) M17)))))))))))))
set_option maxHeartbeats 4000000 in
set_option maxRecDepth 100000 in
theorem t_X5_bridge_20 (C : Cx G p s m args meth c RX5 cX5_bridge 4 (some .int)) {post : Int32 → Mem → Prop} (M : Mem) {H : Heap} {locs : List Loc} {ls : Array Slot} (w : Wd G s M H locs) (hl : lv_has ls 4 []) (h : j_X5_bridge_20 post M) : W p l e (rmk 6) s m args below meth c H locs 0 0 (MQ below (va_Qi post (Qw G) (Af G s.heap.size)) args s 0 0 (Af G s.heap.size)) (F0 m 20 ls []) := by
  have hx := C.1.1
  have hb := C.1.2.1
  unfold j_X5_bridge_20 at h
  refine lv_ldc hx hb C.1.2.2.2.1 (C.ws kw_25_9) dX5_bridge_20 ?_
  exact ret_i C w h dX5_bridge_22
set_option maxHeartbeats 4000000 in
set_option maxRecDepth 100000 in
theorem c_X5_bridge (l : Launch) (G : GG) (hG : Ag G) (sz : Nat) (M : Mem) (x1 : Int32) (x2 : Int32) (post : Int32 → Mem → Prop) (h : q_X5_bridge M x1 x2 post) : Met l yX5_bridge (Cond.code yX5_bridge cX5_bridge 4 (some .int) :: wsL_law) (rmk 6) (va_Pc [.ref (ga G 0), .int x1, .int x2] (Pw G sz M)) (va_Qi post (Qw G) (Af G sz)) 0 0 (Af G sz) := by
  refine Met.ofW (cc := cX5_bridge) (maxL := 4) (ret := (some .int)) (by decide) rfl ?_
  intro p e s m args below meth c s₁ B hml hv
  obtain ⟨rfl, hsz, hE, hP⟩ := hv
  subst hsz
  have C := Cx.of (own := RX5) hG hE rfl hml B
  have w : Wd G s M s.heap [] := ⟨hP, va_S.rf⟩
  have hl := lv_entry [.ref (ga G 0), .int x1, .int x2] (n := 4) (Nat.le_of_ble_eq_true rfl)
  rw [lg_entry_eq]
  generalize (lg_sl [.ref (ga G 0), .int x1, .int x2] ++ List.replicate (4 - (lg_sl [.ref (ga G 0), .int x1, .int x2]).length) Slot.unset).toArray = ls at hl ⊢
  have hl : lv_has ls 4 [(0, .ref (ga G 0)), (1, .int x1), (2, .int x2)] := hl
  have hx := C.1.1
  have hb := C.1.2.1
  show W p l e (rmk 6) s m _ below meth c s.heap [] 0 0 _ _
  unfold q_X5_bridge at h
  refine lv_iload_n hx hb dX5_bridge_0 rfl (lv_at hl 1 rfl) ?_
  refine lv_iconst (v := 0) hx hb dX5_bridge_1 (by decide) ?_
  refine lv_bipush (v := 7) hx hb dX5_bridge_2 (by decide) ?_
  refine end_i w (run_S (As := [.int x1, .int (0 : Int32), .int (7 : Int32)]) C w hl.1 (c_X5_isWithin l G C.2.2.1 _ _ x1 (0 : Int32) (7 : Int32)  _ h) kw_6_8 kw_1_2 kw_6_6 kw_6_7 hd_X5_isWithin ⟨by decide, by decide⟩ rfl (Nat.le_of_ble_eq_true rfl) dX5_bridge_4) (fun r1 M2 H locs h w => ?_)
  refine lv_if_eq (tgt := 20) hx hb dX5_bridge_7 (by decide) (fun c3 => ?_) (fun c3 => ?_)
  · replace h := h.1 c3
    exact t_X5_bridge_20 C M2   w (lv_sub hl [] rfl) h
  replace h := h.2 c3
  refine lv_iload_n hx hb dX5_bridge_10 rfl (lv_at hl 2 rfl) ?_
  refine lv_iconst (v := 1) hx hb dX5_bridge_11 (by decide) ?_
  refine lv_bipush (v := 99) hx hb dX5_bridge_12 (by decide) ?_
  refine end_i w (run_S (As := [.int x2, .int (1 : Int32), .int (99 : Int32)]) C w hl.1 (c_X5_isWithin l G C.2.2.1 _ _ x2 (1 : Int32) (99 : Int32)  _ h) kw_6_8 kw_1_2 kw_6_6 kw_6_7 hd_X5_isWithin ⟨by decide, by decide⟩ rfl (Nat.le_of_ble_eq_true rfl) dX5_bridge_14) (fun r4 M5 H locs h w => ?_)
  refine lv_if_ne (tgt := 23) hx hb dX5_bridge_17 (by decide) (fun c6 => ?_) (fun c6 => ?_)
  · replace h := h.2 c6
    refine lv_aload_n hx hb dX5_bridge_23 rfl (lv_at hl 0 rfl) ?_
    refine end_i w (run_V (As := []) C w hl.1 (c_X5_layLine l G C.2.2.1 _ _   _ h) kw_15_21 kw_1_2 kw_15_18 kw_15_19 kw_15_20 hd_X5_layLine ⟨by decide, by decide⟩ (w.recv C (i := 0) (by decide) (pE_5) rfl) rfl (Nat.le_of_ble_eq_true rfl) dX5_bridge_24) (fun r7 M8 H locs h w => ?_)
    refine lv_if_ne (tgt := 33) hx hb dX5_bridge_27 (by decide) (fun c9 => ?_) (fun c9 => ?_)
    · replace h := h.2 c9
      refine lv_aload_n hx hb dX5_bridge_33 rfl (lv_at hl 0 rfl) ?_
      refine gt_5_3 C w kw_1_22 dX5_bridge_34 ?_
      refine end_i w (run_VN (As := []) C w hl.1 (c_X0_greatestPull l G C.2.2.1 _ _   _ h) kw_22_14 kw_1_21 kn_68 kw_22_12 kw_22_13 hd_X0_greatestPull ⟨by decide, by decide⟩ (w.recv C (i := 4) (by decide) (pE_0) rfl) rfl (Nat.le_of_ble_eq_true rfl) dX5_bridge_37) (fun r10 M11 H locs h w => ?_)
      refine lv_istore_n (lv' := [(3, .int r10), (0, .ref (ga G 0)), (1, .int x1), (2, .int x2)]) hx hb dX5_bridge_40 rfl hl (by decide) rfl (fun ls hl => ?_)
      refine lv_aload_n hx hb dX5_bridge_41 rfl (lv_at hl 1 rfl) ?_
      refine gt_5_4 C w kw_2_2 dX5_bridge_42 ?_
      refine lv_iload_n hx hb dX5_bridge_45 rfl (lv_at hl 2 rfl) ?_
      refine lv_iconst (v := 0) hx hb dX5_bridge_46 (by decide) ?_
      refine lv_iload_n hx hb dX5_bridge_47 rfl (lv_at hl 3 rfl) ?_
      refine lv_bipush (v := 6) hx hb dX5_bridge_48 (by decide) ?_
      refine end_v w (run_VN (As := [.int x1, .int (0 : Int32), .int x2, .int (6 : Int32)]) C w hl.1 (c_X1_begin l G C.2.2.1 _ _ 56 x1 (0 : Int32) x2 (6 : Int32) ⟨by decide, by decide⟩ _ h) kw_10_17 kw_2_1 kn_70 kw_10_15 kw_10_16 hd_X1_begin ⟨by decide, by decide⟩ (w.recv C (i := 56) (by decide) (pE_1 ⟨by decide, by decide⟩) rfl) rfl (Nat.le_of_ble_eq_true rfl) dX5_bridge_50) (fun M13 H locs h w => ?_)
      refine lv_aload_n hx hb dX5_bridge_53 rfl (lv_at hl 1 rfl) ?_
      refine gt_5_3 C w kw_1_22 dX5_bridge_54 ?_
      refine lv_aload_n hx hb dX5_bridge_57 rfl (lv_at hl 1 rfl) ?_
      refine gt_5_4 C w kw_2_2 dX5_bridge_58 ?_
      refine lv_iload_n hx hb dX5_bridge_61 rfl (lv_at hl 3 rfl) ?_
      refine end_v w (run_VN (As := [.ref (ga G 56), .int x2]) C w hl.1 (c_X0_add l G C.2.2.1 _ _ 56 x2 ⟨by decide, by decide⟩ _ h) kw_16_6 kw_1_21 kn_57 kw_16_4 kw_16_5 hd_X0_add ⟨by decide, by decide⟩ (w.recv C (i := 4) (by decide) (pE_0) rfl) rfl (Nat.le_of_ble_eq_true rfl) dX5_bridge_62) (fun M15 H locs h w => ?_)
      refine lv_iload_n hx hb dX5_bridge_65 rfl (lv_at hl 0 rfl) ?_
      refine lv_aload_n hx hb dX5_bridge_66 rfl (lv_at hl 1 rfl) ?_
      refine gt_5_3 C w kw_1_22 dX5_bridge_67 ?_
      refine end_i w (run_VN (As := []) C w hl.1 (c_X0_greatestPull l G C.2.2.1 _ _   _ h) kw_22_14 kw_1_21 kn_68 kw_22_12 kw_22_13 hd_X0_greatestPull ⟨by decide, by decide⟩ (w.recv C (i := 4) (by decide) (pE_0) rfl) rfl (Nat.le_of_ble_eq_true rfl) dX5_bridge_70) (fun r16 M17 H locs h w => ?_)
      refine lv_isub hx hb dX5_bridge_73 ?_
      exact ret_i C w h dX5_bridge_74
    replace h := h.1 c9
    refine lv_ldc hx hb C.1.2.2.2.1 (C.ws kw_25_10) dX5_bridge_30 ?_
    exact ret_i C w h dX5_bridge_32
  replace h := h.1 c6
  exact t_X5_bridge_20 C M5   w (lv_sub hl [] rfl) h
end WALK
