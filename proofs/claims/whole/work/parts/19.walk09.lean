theorem dX6_renders_0 : decode cX6_renders 0 = .ok (.iload_n 1, 1) := by decide +kernel
theorem dX6_renders_1 : decode cX6_renders 1 = .ok (.i2l, 1) := by decide +kernel
theorem dX6_renders_2 : decode cX6_renders 2 = .ok (.lconst 0, 1) := by decide +kernel
theorem dX6_renders_3 : decode cX6_renders 3 = .ok (.ldc2_w 180, 3) := by decide +kernel
theorem dX6_renders_6 : decode cX6_renders 6 = .ok (.invokestatic 47, 3) := by decide +kernel
theorem dX6_renders_9 : decode cX6_renders 9 = .ok (.ifCond .ne 5, 3) := by decide +kernel
theorem dX6_renders_12 : decode cX6_renders 12 = .ok (.iconst (-1), 1) := by decide +kernel
theorem dX6_renders_13 : decode cX6_renders 13 = .ok (.ireturn, 1) := by decide +kernel
theorem dX6_renders_14 : decode cX6_renders 14 = .ok (.aload_n 0, 1) := by decide +kernel
theorem dX6_renders_15 : decode cX6_renders 15 = .ok (.invokevirtual 170, 3) := by decide +kernel
theorem dX6_renders_18 : decode cX6_renders 18 = .ok (.ifCond .ne 6, 3) := by decide +kernel
theorem dX6_renders_21 : decode cX6_renders 21 = .ok (.bipush (-3), 2) := by decide +kernel
theorem dX6_renders_23 : decode cX6_renders 23 = .ok (.ireturn, 1) := by decide +kernel
theorem dX6_renders_24 : decode cX6_renders 24 = .ok (.aload_n 0, 1) := by decide +kernel
theorem dX6_renders_25 : decode cX6_renders 25 = .ok (.aload_n 0, 1) := by decide +kernel
theorem dX6_renders_26 : decode cX6_renders 26 = .ok (.invokevirtual 173, 3) := by decide +kernel
theorem dX6_renders_29 : decode cX6_renders 29 = .ok (.invokevirtual 176, 3) := by decide +kernel
theorem dX6_renders_32 : decode cX6_renders 32 = .ok (.aload_n 0, 1) := by decide +kernel
theorem dX6_renders_33 : decode cX6_renders 33 = .ok (.iload_n 1, 1) := by decide +kernel
theorem dX6_renders_34 : decode cX6_renders 34 = .ok (.invokevirtual 232, 3) := by decide +kernel
theorem dX6_renders_37 : decode cX6_renders 37 = .ok (.ireturn, 1) := by decide +kernel
theorem dX5_winch_0 : decode cX5_winch 0 = .ok (.iload_n 1, 1) := by decide +kernel
theorem dX5_winch_1 : decode cX5_winch 1 = .ok (.iconst 0, 1) := by decide +kernel
theorem dX5_winch_2 : decode cX5_winch 2 = .ok (.getstatic 152, 3) := by decide +kernel
theorem dX5_winch_5 : decode cX5_winch 5 = .ok (.iconst 1, 1) := by decide +kernel
theorem dX5_winch_6 : decode cX5_winch 6 = .ok (.iaload, 1) := by decide +kernel
theorem dX5_winch_7 : decode cX5_winch 7 = .ok (.invokestatic 129, 3) := by decide +kernel
theorem dX5_winch_10 : decode cX5_winch 10 = .ok (.ifCond .ne 5, 3) := by decide +kernel
theorem dX5_winch_13 : decode cX5_winch 13 = .ok (.iconst (-1), 1) := by decide +kernel
theorem dX5_winch_14 : decode cX5_winch 14 = .ok (.ireturn, 1) := by decide +kernel
theorem dX5_winch_15 : decode cX5_winch 15 = .ok (.aload_n 0, 1) := by decide +kernel
theorem dX5_winch_16 : decode cX5_winch 16 = .ok (.invokevirtual 110, 3) := by decide +kernel
theorem dX5_winch_19 : decode cX5_winch 19 = .ok (.ifCond .ne 6, 3) := by decide +kernel
theorem dX5_winch_22 : decode cX5_winch 22 = .ok (.bipush (-3), 2) := by decide +kernel
theorem dX5_winch_24 : decode cX5_winch 24 = .ok (.ireturn, 1) := by decide +kernel
theorem dX5_winch_25 : decode cX5_winch 25 = .ok (.aload_n 0, 1) := by decide +kernel
theorem dX5_winch_26 : decode cX5_winch 26 = .ok (.getfield 25, 3) := by decide +kernel
theorem dX5_winch_29 : decode cX5_winch 29 = .ok (.iconst 0, 1) := by decide +kernel
theorem dX5_winch_30 : decode cX5_winch 30 = .ok (.invokevirtual 202, 3) := by decide +kernel
theorem dX5_winch_33 : decode cX5_winch 33 = .ok (.iload_n 1, 1) := by decide +kernel
theorem dX5_winch_34 : decode cX5_winch 34 = .ok (.if_icmp .gt 5, 3) := by decide +kernel
theorem dX5_winch_37 : decode cX5_winch 37 = .ok (.iconst 0, 1) := by decide +kernel
theorem dX5_winch_38 : decode cX5_winch 38 = .ok (.ireturn, 1) := by decide +kernel
theorem dX5_winch_39 : decode cX5_winch 39 = .ok (.sipush 10000, 3) := by decide +kernel
theorem dX5_winch_42 : decode cX5_winch 42 = .ok (.istore_n 2, 1) := by decide +kernel
theorem dX5_winch_43 : decode cX5_winch 43 = .ok (.iconst 0, 1) := by decide +kernel
theorem dX5_winch_44 : decode cX5_winch 44 = .ok (.istore_n 3, 1) := by decide +kernel
theorem dX5_winch_45 : decode cX5_winch 45 = .ok (.iload_n 3, 1) := by decide +kernel
theorem dX5_winch_46 : decode cX5_winch 46 = .ok (.aload_n 0, 1) := by decide +kernel
theorem dX5_winch_47 : decode cX5_winch 47 = .ok (.getfield 25, 3) := by decide +kernel
theorem dX5_winch_50 : decode cX5_winch 50 = .ok (.getfield 205, 3) := by decide +kernel
theorem dX5_winch_53 : decode cX5_winch 53 = .ok (.if_icmp .ge 41, 3) := by decide +kernel
theorem dX5_winch_56 : decode cX5_winch 56 = .ok (.aload_n 0, 1) := by decide +kernel
theorem dX5_winch_57 : decode cX5_winch 57 = .ok (.getfield 25, 3) := by decide +kernel
theorem dX5_winch_60 : decode cX5_winch 60 = .ok (.iload_n 3, 1) := by decide +kernel
theorem dX5_winch_61 : decode cX5_winch 61 = .ok (.invokevirtual 136, 3) := by decide +kernel
theorem dX5_winch_64 : decode cX5_winch 64 = .ok (.istore 4, 2) := by decide +kernel
theorem dX5_winch_66 : decode cX5_winch 66 = .ok (.iload 4, 2) := by decide +kernel
theorem dX5_winch_68 : decode cX5_winch 68 = .ok (.iload_n 2, 1) := by decide +kernel
theorem dX5_winch_69 : decode cX5_winch 69 = .ok (.if_icmp .ge 19, 3) := by decide +kernel
theorem dX5_winch_72 : decode cX5_winch 72 = .ok (.aload_n 0, 1) := by decide +kernel
theorem dX5_winch_73 : decode cX5_winch 73 = .ok (.getfield 25, 3) := by decide +kernel
theorem dX5_winch_76 : decode cX5_winch 76 = .ok (.iload 4, 2) := by decide +kernel
theorem dX5_winch_78 : decode cX5_winch 78 = .ok (.invokevirtual 202, 3) := by decide +kernel
theorem dX5_winch_81 : decode cX5_winch 81 = .ok (.iload_n 1, 1) := by decide +kernel
theorem dX5_winch_82 : decode cX5_winch 82 = .ok (.if_icmp .gt 6, 3) := by decide +kernel
theorem dX5_winch_85 : decode cX5_winch 85 = .ok (.iload 4, 2) := by decide +kernel
theorem dX5_winch_87 : decode cX5_winch 87 = .ok (.istore_n 2, 1) := by decide +kernel
theorem dX5_winch_88 : decode cX5_winch 88 = .ok (.iinc 3 1, 3) := by decide +kernel
theorem dX5_winch_91 : decode cX5_winch 91 = .ok (.goto (-46), 3) := by decide +kernel
theorem dX5_winch_94 : decode cX5_winch 94 = .ok (.iload_n 2, 1) := by decide +kernel
theorem dX5_winch_95 : decode cX5_winch 95 = .ok (.sipush 9999, 3) := by decide +kernel
theorem dX5_winch_98 : decode cX5_winch 98 = .ok (.if_icmp .le 8, 3) := by decide +kernel
theorem dX5_winch_101 : decode cX5_winch 101 = .ok (.bipush (-4), 2) := by decide +kernel
theorem dX5_winch_103 : decode cX5_winch 103 = .ok (.goto 4, 3) := by decide +kernel
theorem dX5_winch_106 : decode cX5_winch 106 = .ok (.iload_n 2, 1) := by decide +kernel
theorem dX5_winch_107 : decode cX5_winch 107 = .ok (.ireturn, 1) := by decide +kernel
theorem dX6_winch_0 : decode cX6_winch 0 = .ok (.iload_n 1, 1) := by decide +kernel
theorem dX6_winch_1 : decode cX6_winch 1 = .ok (.i2l, 1) := by decide +kernel
theorem dX6_winch_2 : decode cX6_winch 2 = .ok (.lconst 0, 1) := by decide +kernel
theorem dX6_winch_3 : decode cX6_winch 3 = .ok (.ldc2_w 92, 3) := by decide +kernel
theorem dX6_winch_6 : decode cX6_winch 6 = .ok (.invokestatic 47, 3) := by decide +kernel
theorem dX6_winch_9 : decode cX6_winch 9 = .ok (.ifCond .ne 5, 3) := by decide +kernel
theorem dX6_winch_12 : decode cX6_winch 12 = .ok (.iconst (-1), 1) := by decide +kernel
theorem dX6_winch_13 : decode cX6_winch 13 = .ok (.ireturn, 1) := by decide +kernel
theorem dX6_winch_14 : decode cX6_winch 14 = .ok (.aload_n 0, 1) := by decide +kernel
theorem dX6_winch_15 : decode cX6_winch 15 = .ok (.invokevirtual 170, 3) := by decide +kernel
theorem dX6_winch_18 : decode cX6_winch 18 = .ok (.ifCond .ne 6, 3) := by decide +kernel
theorem dX6_winch_21 : decode cX6_winch 21 = .ok (.bipush (-3), 2) := by decide +kernel
theorem dX6_winch_23 : decode cX6_winch 23 = .ok (.ireturn, 1) := by decide +kernel
theorem dX6_winch_24 : decode cX6_winch 24 = .ok (.aload_n 0, 1) := by decide +kernel
theorem dX6_winch_25 : decode cX6_winch 25 = .ok (.aload_n 0, 1) := by decide +kernel
theorem dX6_winch_26 : decode cX6_winch 26 = .ok (.invokevirtual 173, 3) := by decide +kernel
theorem dX6_winch_29 : decode cX6_winch 29 = .ok (.invokevirtual 176, 3) := by decide +kernel
theorem dX6_winch_32 : decode cX6_winch 32 = .ok (.iconst 0, 1) := by decide +kernel
theorem dX6_winch_33 : decode cX6_winch 33 = .ok (.istore_n 2, 1) := by decide +kernel
theorem dX6_winch_34 : decode cX6_winch 34 = .ok (.iload_n 2, 1) := by decide +kernel
theorem dX6_winch_35 : decode cX6_winch 35 = .ok (.sipush 9999, 3) := by decide +kernel
theorem dX6_winch_38 : decode cX6_winch 38 = .ok (.if_icmp .gt 20, 3) := by decide +kernel
theorem dX6_winch_41 : decode cX6_winch 41 = .ok (.aload_n 0, 1) := by decide +kernel
theorem dX6_winch_42 : decode cX6_winch 42 = .ok (.iload_n 2, 1) := by decide +kernel
theorem dX6_winch_43 : decode cX6_winch 43 = .ok (.invokevirtual 232, 3) := by decide +kernel
theorem dX6_winch_46 : decode cX6_winch 46 = .ok (.iload_n 1, 1) := by decide +kernel
theorem dX6_winch_47 : decode cX6_winch 47 = .ok (.if_icmp .gt 5, 3) := by decide +kernel
theorem dX6_winch_50 : decode cX6_winch 50 = .ok (.iload_n 2, 1) := by decide +kernel
theorem dX6_winch_51 : decode cX6_winch 51 = .ok (.ireturn, 1) := by decide +kernel
theorem dX6_winch_52 : decode cX6_winch 52 = .ok (.iinc 2 1, 3) := by decide +kernel
theorem dX6_winch_55 : decode cX6_winch 55 = .ok (.goto (-21), 3) := by decide +kernel
theorem dX6_winch_58 : decode cX6_winch 58 = .ok (.bipush (-4), 2) := by decide +kernel
theorem dX6_winch_60 : decode cX6_winch 60 = .ok (.ireturn, 1) := by decide +kernel
theorem dX3_holdsLegs_0 : decode cX3_holdsLegs 0 = .ok (.aload_n 0, 1) := by decide +kernel
theorem dX3_holdsLegs_1 : decode cX3_holdsLegs 1 = .ok (.getfield 25, 3) := by decide +kernel
theorem dX3_holdsLegs_4 : decode cX3_holdsLegs 4 = .ok (.ifCond .eq 21, 3) := by decide +kernel
theorem dX3_holdsLegs_7 : decode cX3_holdsLegs 7 = .ok (.aload_n 0, 1) := by decide +kernel
theorem dX3_holdsLegs_8 : decode cX3_holdsLegs 8 = .ok (.getfield 25, 3) := by decide +kernel
theorem dX3_holdsLegs_11 : decode cX3_holdsLegs 11 = .ok (.iconst 3, 1) := by decide +kernel
theorem dX3_holdsLegs_12 : decode cX3_holdsLegs 12 = .ok (.irem, 1) := by decide +kernel
theorem dX3_holdsLegs_13 : decode cX3_holdsLegs 13 = .ok (.ifCond .ne 12, 3) := by decide +kernel
theorem dX3_holdsLegs_16 : decode cX3_holdsLegs 16 = .ok (.aload_n 0, 1) := by decide +kernel
theorem dX3_holdsLegs_17 : decode cX3_holdsLegs 17 = .ok (.getfield 25, 3) := by decide +kernel
theorem dX3_holdsLegs_20 : decode cX3_holdsLegs 20 = .ok (.bipush 24, 2) := by decide +kernel
theorem dX3_holdsLegs_22 : decode cX3_holdsLegs 22 = .ok (.if_icmp .le 5, 3) := by decide +kernel
theorem dX3_holdsLegs_25 : decode cX3_holdsLegs 25 = .ok (.iconst 0, 1) := by decide +kernel
theorem dX3_holdsLegs_26 : decode cX3_holdsLegs 26 = .ok (.ireturn, 1) := by decide +kernel
theorem dX3_holdsLegs_27 : decode cX3_holdsLegs 27 = .ok (.iconst 0, 1) := by decide +kernel
theorem dX3_holdsLegs_28 : decode cX3_holdsLegs 28 = .ok (.istore_n 1, 1) := by decide +kernel
theorem dX3_holdsLegs_29 : decode cX3_holdsLegs 29 = .ok (.iload_n 1, 1) := by decide +kernel
theorem dX3_holdsLegs_30 : decode cX3_holdsLegs 30 = .ok (.aload_n 0, 1) := by decide +kernel
theorem dX3_holdsLegs_31 : decode cX3_holdsLegs 31 = .ok (.getfield 25, 3) := by decide +kernel
theorem dX3_holdsLegs_34 : decode cX3_holdsLegs 34 = .ok (.if_icmp .ge 56, 3) := by decide +kernel
theorem dX3_holdsLegs_37 : decode cX3_holdsLegs 37 = .ok (.aload_n 0, 1) := by decide +kernel
theorem dX3_holdsLegs_38 : decode cX3_holdsLegs 38 = .ok (.getfield 28, 3) := by decide +kernel
theorem dX3_holdsLegs_41 : decode cX3_holdsLegs 41 = .ok (.iload_n 1, 1) := by decide +kernel
theorem dX3_holdsLegs_42 : decode cX3_holdsLegs 42 = .ok (.iaload, 1) := by decide +kernel
theorem dX3_holdsLegs_43 : decode cX3_holdsLegs 43 = .ok (.iconst 1, 1) := by decide +kernel
theorem dX3_holdsLegs_44 : decode cX3_holdsLegs 44 = .ok (.bipush 99, 2) := by decide +kernel
theorem dX3_holdsLegs_46 : decode cX3_holdsLegs 46 = .ok (.invokestatic 42, 3) := by decide +kernel
theorem dX3_holdsLegs_49 : decode cX3_holdsLegs 49 = .ok (.ifCond .eq 33, 3) := by decide +kernel
theorem dX3_holdsLegs_52 : decode cX3_holdsLegs 52 = .ok (.iconst 0, 1) := by decide +kernel
theorem dX3_holdsLegs_53 : decode cX3_holdsLegs 53 = .ok (.aload_n 0, 1) := by decide +kernel
theorem dX3_holdsLegs_54 : decode cX3_holdsLegs 54 = .ok (.getfield 28, 3) := by decide +kernel
theorem dX3_holdsLegs_57 : decode cX3_holdsLegs 57 = .ok (.iload_n 1, 1) := by decide +kernel
theorem dX3_holdsLegs_58 : decode cX3_holdsLegs 58 = .ok (.iconst 1, 1) := by decide +kernel
theorem dX3_holdsLegs_59 : decode cX3_holdsLegs 59 = .ok (.iadd, 1) := by decide +kernel
theorem dX3_holdsLegs_60 : decode cX3_holdsLegs 60 = .ok (.iaload, 1) := by decide +kernel
theorem dX3_holdsLegs_61 : decode cX3_holdsLegs 61 = .ok (.invokestatic 51, 3) := by decide +kernel
theorem dX3_holdsLegs_64 : decode cX3_holdsLegs 64 = .ok (.ifCond .eq 18, 3) := by decide +kernel
theorem dX3_holdsLegs_67 : decode cX3_holdsLegs 67 = .ok (.iconst 2, 1) := by decide +kernel
theorem dX3_holdsLegs_68 : decode cX3_holdsLegs 68 = .ok (.aload_n 0, 1) := by decide +kernel
theorem dX3_holdsLegs_69 : decode cX3_holdsLegs 69 = .ok (.getfield 28, 3) := by decide +kernel
theorem dX3_holdsLegs_72 : decode cX3_holdsLegs 72 = .ok (.iload_n 1, 1) := by decide +kernel
theorem dX3_holdsLegs_73 : decode cX3_holdsLegs 73 = .ok (.iconst 2, 1) := by decide +kernel
theorem dX3_holdsLegs_74 : decode cX3_holdsLegs 74 = .ok (.iadd, 1) := by decide +kernel
theorem dX3_holdsLegs_75 : decode cX3_holdsLegs 75 = .ok (.iaload, 1) := by decide +kernel
theorem dX3_holdsLegs_76 : decode cX3_holdsLegs 76 = .ok (.invokestatic 51, 3) := by decide +kernel
theorem dX3_holdsLegs_79 : decode cX3_holdsLegs 79 = .ok (.ifCond .ne 5, 3) := by decide +kernel
theorem dX3_holdsLegs_82 : decode cX3_holdsLegs 82 = .ok (.iconst 0, 1) := by decide +kernel
theorem dX3_holdsLegs_83 : decode cX3_holdsLegs 83 = .ok (.ireturn, 1) := by decide +kernel
theorem dX3_holdsLegs_84 : decode cX3_holdsLegs 84 = .ok (.iinc 1 3, 3) := by decide +kernel
theorem dX3_holdsLegs_87 : decode cX3_holdsLegs 87 = .ok (.goto (-58), 3) := by decide +kernel
theorem dX3_holdsLegs_90 : decode cX3_holdsLegs 90 = .ok (.iconst 1, 1) := by decide +kernel
theorem dX3_holdsLegs_91 : decode cX3_holdsLegs 91 = .ok (.ireturn, 1) := by decide +kernel
theorem dX3_legsHeld_0 : decode cX3_legsHeld 0 = .ok (.aload_n 0, 1) := by decide +kernel
theorem dX3_legsHeld_1 : decode cX3_legsHeld 1 = .ok (.getfield 25, 3) := by decide +kernel
theorem dX3_legsHeld_4 : decode cX3_legsHeld 4 = .ok (.iconst 3, 1) := by decide +kernel
theorem dX3_legsHeld_5 : decode cX3_legsHeld 5 = .ok (.idiv, 1) := by decide +kernel
theorem dX3_legsHeld_6 : decode cX3_legsHeld 6 = .ok (.ireturn, 1) := by decide +kernel
theorem dX5_greatestOfLegs_0 : decode cX5_greatestOfLegs 0 = .ok (.iconst 0, 1) := by decide +kernel
theorem dX5_greatestOfLegs_1 : decode cX5_greatestOfLegs 1 = .ok (.istore_n 3, 1) := by decide +kernel
theorem dX5_greatestOfLegs_2 : decode cX5_greatestOfLegs 2 = .ok (.iconst 0, 1) := by decide +kernel
theorem dX5_greatestOfLegs_3 : decode cX5_greatestOfLegs 3 = .ok (.istore 4, 2) := by decide +kernel
theorem dX5_greatestOfLegs_5 : decode cX5_greatestOfLegs 5 = .ok (.iload 4, 2) := by decide +kernel
theorem dX5_greatestOfLegs_7 : decode cX5_greatestOfLegs 7 = .ok (.aload_n 1, 1) := by decide +kernel
theorem dX5_greatestOfLegs_8 : decode cX5_greatestOfLegs 8 = .ok (.invokevirtual 329, 3) := by decide +kernel
theorem dX5_greatestOfLegs_11 : decode cX5_greatestOfLegs 11 = .ok (.if_icmp .ge 67, 3) := by decide +kernel
theorem dX5_greatestOfLegs_14 : decode cX5_greatestOfLegs 14 = .ok (.aload_n 0, 1) := by decide +kernel
theorem dX5_greatestOfLegs_15 : decode cX5_greatestOfLegs 15 = .ok (.getfield 25, 3) := by decide +kernel
theorem dX5_greatestOfLegs_18 : decode cX5_greatestOfLegs 18 = .ok (.aload_n 1, 1) := by decide +kernel
theorem dX5_greatestOfLegs_19 : decode cX5_greatestOfLegs 19 = .ok (.getfield 238, 3) := by decide +kernel
theorem dX5_greatestOfLegs_22 : decode cX5_greatestOfLegs 22 = .ok (.iconst 3, 1) := by decide +kernel
theorem dX5_greatestOfLegs_23 : decode cX5_greatestOfLegs 23 = .ok (.iload 4, 2) := by decide +kernel
theorem dX5_greatestOfLegs_25 : decode cX5_greatestOfLegs 25 = .ok (.imul, 1) := by decide +kernel
theorem dX5_greatestOfLegs_26 : decode cX5_greatestOfLegs 26 = .ok (.iconst 1, 1) := by decide +kernel
theorem dX5_greatestOfLegs_27 : decode cX5_greatestOfLegs 27 = .ok (.iadd, 1) := by decide +kernel
theorem dX5_greatestOfLegs_28 : decode cX5_greatestOfLegs 28 = .ok (.iaload, 1) := by decide +kernel
theorem dX5_greatestOfLegs_29 : decode cX5_greatestOfLegs 29 = .ok (.putfield 326, 3) := by decide +kernel
theorem dX5_greatestOfLegs_32 : decode cX5_greatestOfLegs 32 = .ok (.aload_n 0, 1) := by decide +kernel
theorem dX5_greatestOfLegs_33 : decode cX5_greatestOfLegs 33 = .ok (.getfield 25, 3) := by decide +kernel
theorem dX5_greatestOfLegs_36 : decode cX5_greatestOfLegs 36 = .ok (.iload 4, 2) := by decide +kernel
theorem dX5_greatestOfLegs_38 : decode cX5_greatestOfLegs 38 = .ok (.iload_n 2, 1) := by decide +kernel
theorem dX5_greatestOfLegs_39 : decode cX5_greatestOfLegs 39 = .ok (.if_icmp .ne 7, 3) := by decide +kernel
theorem dX5_greatestOfLegs_42 : decode cX5_greatestOfLegs 42 = .ok (.iconst 0, 1) := by decide +kernel
theorem dX5_greatestOfLegs_43 : decode cX5_greatestOfLegs 43 = .ok (.goto 14, 3) := by decide +kernel
theorem dX5_greatestOfLegs_46 : decode cX5_greatestOfLegs 46 = .ok (.aload_n 1, 1) := by decide +kernel
theorem dX5_greatestOfLegs_47 : decode cX5_greatestOfLegs 47 = .ok (.getfield 238, 3) := by decide +kernel
theorem dX5_greatestOfLegs_50 : decode cX5_greatestOfLegs 50 = .ok (.iconst 3, 1) := by decide +kernel
theorem dX5_greatestOfLegs_51 : decode cX5_greatestOfLegs 51 = .ok (.iload 4, 2) := by decide +kernel
theorem dX5_greatestOfLegs_53 : decode cX5_greatestOfLegs 53 = .ok (.imul, 1) := by decide +kernel
theorem dX5_greatestOfLegs_54 : decode cX5_greatestOfLegs 54 = .ok (.iconst 2, 1) := by decide +kernel
theorem dX5_greatestOfLegs_55 : decode cX5_greatestOfLegs 55 = .ok (.iadd, 1) := by decide +kernel
theorem dX5_greatestOfLegs_56 : decode cX5_greatestOfLegs 56 = .ok (.iaload, 1) := by decide +kernel
theorem dX5_greatestOfLegs_57 : decode cX5_greatestOfLegs 57 = .ok (.putfield 155, 3) := by decide +kernel
theorem dX5_greatestOfLegs_60 : decode cX5_greatestOfLegs 60 = .ok (.iload_n 3, 1) := by decide +kernel
theorem dX5_greatestOfLegs_61 : decode cX5_greatestOfLegs 61 = .ok (.aload_n 0, 1) := by decide +kernel
theorem dX5_greatestOfLegs_62 : decode cX5_greatestOfLegs 62 = .ok (.getfield 25, 3) := by decide +kernel
theorem dX5_greatestOfLegs_65 : decode cX5_greatestOfLegs 65 = .ok (.invokevirtual 143, 3) := by decide +kernel
theorem dX5_greatestOfLegs_68 : decode cX5_greatestOfLegs 68 = .ok (.invokestatic 181, 3) := by decide +kernel
theorem dX5_greatestOfLegs_71 : decode cX5_greatestOfLegs 71 = .ok (.istore_n 3, 1) := by decide +kernel
theorem dX5_greatestOfLegs_72 : decode cX5_greatestOfLegs 72 = .ok (.iinc 4 1, 3) := by decide +kernel
theorem dX5_greatestOfLegs_75 : decode cX5_greatestOfLegs 75 = .ok (.goto (-70), 3) := by decide +kernel
theorem dX5_greatestOfLegs_78 : decode cX5_greatestOfLegs 78 = .ok (.iload_n 3, 1) := by decide +kernel
theorem dX5_greatestOfLegs_79 : decode cX5_greatestOfLegs 79 = .ok (.ireturn, 1) := by decide +kernel
theorem dX5_hoursOfLegs_0 : decode cX5_hoursOfLegs 0 = .ok (.iconst 0, 1) := by decide +kernel
theorem dX5_hoursOfLegs_1 : decode cX5_hoursOfLegs 1 = .ok (.istore_n 1, 1) := by decide +kernel
theorem dX5_hoursOfLegs_2 : decode cX5_hoursOfLegs 2 = .ok (.iconst 0, 1) := by decide +kernel
theorem dX5_hoursOfLegs_3 : decode cX5_hoursOfLegs 3 = .ok (.istore_n 2, 1) := by decide +kernel
theorem dX5_hoursOfLegs_4 : decode cX5_hoursOfLegs 4 = .ok (.iload_n 2, 1) := by decide +kernel
theorem dX5_hoursOfLegs_5 : decode cX5_hoursOfLegs 5 = .ok (.aload_n 0, 1) := by decide +kernel
theorem dX5_hoursOfLegs_6 : decode cX5_hoursOfLegs 6 = .ok (.invokevirtual 329, 3) := by decide +kernel
theorem dX5_hoursOfLegs_9 : decode cX5_hoursOfLegs 9 = .ok (.if_icmp .ge 20, 3) := by decide +kernel
theorem dX5_hoursOfLegs_12 : decode cX5_hoursOfLegs 12 = .ok (.iload_n 1, 1) := by decide +kernel
theorem dX5_hoursOfLegs_13 : decode cX5_hoursOfLegs 13 = .ok (.aload_n 0, 1) := by decide +kernel
theorem dX5_hoursOfLegs_14 : decode cX5_hoursOfLegs 14 = .ok (.getfield 238, 3) := by decide +kernel
theorem dX5_hoursOfLegs_17 : decode cX5_hoursOfLegs 17 = .ok (.iconst 3, 1) := by decide +kernel
theorem dX5_hoursOfLegs_18 : decode cX5_hoursOfLegs 18 = .ok (.iload_n 2, 1) := by decide +kernel
theorem dX5_hoursOfLegs_19 : decode cX5_hoursOfLegs 19 = .ok (.imul, 1) := by decide +kernel
theorem dX5_hoursOfLegs_20 : decode cX5_hoursOfLegs 20 = .ok (.iaload, 1) := by decide +kernel
theorem dX5_hoursOfLegs_21 : decode cX5_hoursOfLegs 21 = .ok (.iadd, 1) := by decide +kernel
theorem dX5_hoursOfLegs_22 : decode cX5_hoursOfLegs 22 = .ok (.istore_n 1, 1) := by decide +kernel
theorem dX5_hoursOfLegs_23 : decode cX5_hoursOfLegs 23 = .ok (.iinc 2 1, 3) := by decide +kernel
theorem dX5_hoursOfLegs_26 : decode cX5_hoursOfLegs 26 = .ok (.goto (-22), 3) := by decide +kernel
theorem dX5_hoursOfLegs_29 : decode cX5_hoursOfLegs 29 = .ok (.iload_n 1, 1) := by decide +kernel
theorem dX5_hoursOfLegs_30 : decode cX5_hoursOfLegs 30 = .ok (.ireturn, 1) := by decide +kernel
theorem dX5_legToSlow_0 : decode cX5_legToSlow 0 = .ok (.iconst 0, 1) := by decide +kernel
theorem dX5_legToSlow_1 : decode cX5_legToSlow 1 = .ok (.istore_n 2, 1) := by decide +kernel
theorem dX5_legToSlow_2 : decode cX5_legToSlow 2 = .ok (.aload_n 0, 1) := by decide +kernel
theorem dX5_legToSlow_3 : decode cX5_legToSlow 3 = .ok (.aload_n 1, 1) := by decide +kernel
theorem dX5_legToSlow_4 : decode cX5_legToSlow 4 = .ok (.iconst 0, 1) := by decide +kernel
theorem dX5_legToSlow_5 : decode cX5_legToSlow 5 = .ok (.invokevirtual 211, 3) := by decide +kernel
theorem dX5_legToSlow_8 : decode cX5_legToSlow 8 = .ok (.istore_n 3, 1) := by decide +kernel
theorem dX5_legToSlow_9 : decode cX5_legToSlow 9 = .ok (.iconst 1, 1) := by decide +kernel
theorem dX5_legToSlow_10 : decode cX5_legToSlow 10 = .ok (.istore 4, 2) := by decide +kernel
theorem dX5_legToSlow_12 : decode cX5_legToSlow 12 = .ok (.iload 4, 2) := by decide +kernel
theorem dX5_legToSlow_14 : decode cX5_legToSlow 14 = .ok (.aload_n 1, 1) := by decide +kernel
theorem dX5_legToSlow_15 : decode cX5_legToSlow 15 = .ok (.invokevirtual 329, 3) := by decide +kernel
theorem dX5_legToSlow_18 : decode cX5_legToSlow 18 = .ok (.if_icmp .ge 30, 3) := by decide +kernel
theorem dX5_legToSlow_21 : decode cX5_legToSlow 21 = .ok (.aload_n 0, 1) := by decide +kernel
theorem dX5_legToSlow_22 : decode cX5_legToSlow 22 = .ok (.aload_n 1, 1) := by decide +kernel
theorem dX5_legToSlow_23 : decode cX5_legToSlow 23 = .ok (.iload 4, 2) := by decide +kernel
theorem dX5_legToSlow_25 : decode cX5_legToSlow 25 = .ok (.invokevirtual 211, 3) := by decide +kernel
theorem dX5_legToSlow_28 : decode cX5_legToSlow 28 = .ok (.istore 5, 2) := by decide +kernel
theorem dX5_legToSlow_30 : decode cX5_legToSlow 30 = .ok (.iload 5, 2) := by decide +kernel
theorem dX5_legToSlow_32 : decode cX5_legToSlow 32 = .ok (.iload_n 3, 1) := by decide +kernel
theorem dX5_legToSlow_33 : decode cX5_legToSlow 33 = .ok (.if_icmp .ge 9, 3) := by decide +kernel
theorem dX5_legToSlow_36 : decode cX5_legToSlow 36 = .ok (.iload 4, 2) := by decide +kernel
theorem dX5_legToSlow_38 : decode cX5_legToSlow 38 = .ok (.istore_n 2, 1) := by decide +kernel
theorem dX5_legToSlow_39 : decode cX5_legToSlow 39 = .ok (.iload 5, 2) := by decide +kernel
theorem dX5_legToSlow_41 : decode cX5_legToSlow 41 = .ok (.istore_n 3, 1) := by decide +kernel
theorem dX5_legToSlow_42 : decode cX5_legToSlow 42 = .ok (.iinc 4 1, 3) := by decide +kernel
theorem dX5_legToSlow_45 : decode cX5_legToSlow 45 = .ok (.goto (-33), 3) := by decide +kernel
theorem dX5_legToSlow_48 : decode cX5_legToSlow 48 = .ok (.iload_n 2, 1) := by decide +kernel
theorem dX5_legToSlow_49 : decode cX5_legToSlow 49 = .ok (.ireturn, 1) := by decide +kernel
theorem dX5_legs_0 : decode cX5_legs 0 = .ok (.iload_n 2, 1) := by decide +kernel
theorem dX5_legs_1 : decode cX5_legs 1 = .ok (.iconst 0, 1) := by decide +kernel
theorem dX5_legs_2 : decode cX5_legs 2 = .ok (.iconst 2, 1) := by decide +kernel
theorem dX5_legs_3 : decode cX5_legs 3 = .ok (.invokestatic 129, 3) := by decide +kernel
theorem dX5_legs_6 : decode cX5_legs 6 = .ok (.ifCond .ne 5, 3) := by decide +kernel
theorem dX5_legs_9 : decode cX5_legs 9 = .ok (.iconst (-1), 1) := by decide +kernel
theorem dX5_legs_10 : decode cX5_legs 10 = .ok (.ireturn, 1) := by decide +kernel
theorem dX5_legs_11 : decode cX5_legs 11 = .ok (.aload_n 0, 1) := by decide +kernel
theorem dX5_legs_12 : decode cX5_legs 12 = .ok (.iload_n 1, 1) := by decide +kernel
theorem dX5_legs_13 : decode cX5_legs 13 = .ok (.invokevirtual 54, 3) := by decide +kernel
theorem dX5_legs_16 : decode cX5_legs 16 = .ok (.istore_n 3, 1) := by decide +kernel
theorem dX5_legs_17 : decode cX5_legs 17 = .ok (.iload_n 3, 1) := by decide +kernel
theorem dX5_legs_18 : decode cX5_legs 18 = .ok (.ifCond .ge 5, 3) := by decide +kernel
theorem dX5_legs_21 : decode cX5_legs 21 = .ok (.iload_n 3, 1) := by decide +kernel
theorem dX5_legs_22 : decode cX5_legs 22 = .ok (.ireturn, 1) := by decide +kernel
theorem dX5_legs_23 : decode cX5_legs 23 = .ok (.aload_n 0, 1) := by decide +kernel
theorem dX5_legs_24 : decode cX5_legs 24 = .ok (.getfield 45, 3) := by decide +kernel
theorem dX5_legs_27 : decode cX5_legs 27 = .ok (.iload_n 1, 1) := by decide +kernel
theorem dX5_legs_28 : decode cX5_legs 28 = .ok (.aaload, 1) := by decide +kernel
theorem dX5_legs_29 : decode cX5_legs 29 = .ok (.astore 4, 2) := by decide +kernel
theorem dX5_legs_31 : decode cX5_legs 31 = .ok (.aload 4, 2) := by decide +kernel
theorem dX5_legs_33 : decode cX5_legs 33 = .ok (.invokevirtual 208, 3) := by decide +kernel
theorem dX5_legs_36 : decode cX5_legs 36 = .ok (.ifCond .ne 6, 3) := by decide +kernel
theorem dX5_legs_39 : decode cX5_legs 39 = .ok (.bipush (-13), 2) := by decide +kernel
theorem dX5_legs_41 : decode cX5_legs 41 = .ok (.ireturn, 1) := by decide +kernel
theorem dX5_legs_42 : decode cX5_legs 42 = .ok (.aload_n 0, 1) := by decide +kernel
theorem dX5_legs_43 : decode cX5_legs 43 = .ok (.invokevirtual 110, 3) := by decide +kernel
theorem dX5_legs_46 : decode cX5_legs 46 = .ok (.ifCond .ne 6, 3) := by decide +kernel
theorem dX5_legs_49 : decode cX5_legs 49 = .ok (.bipush (-3), 2) := by decide +kernel
theorem dX5_legs_51 : decode cX5_legs 51 = .ok (.ireturn, 1) := by decide +kernel
theorem dX5_legs_52 : decode cX5_legs 52 = .ok (.iload_n 2, 1) := by decide +kernel
theorem dX5_legs_53 : decode cX5_legs 53 = .ok (.lookupswitch 42 #[(0, 27), (1, 36)], 27) := by decide +kernel
theorem dX5_legs_80 : decode cX5_legs 80 = .ok (.aload_n 0, 1) := by decide +kernel
theorem dX5_legs_81 : decode cX5_legs 81 = .ok (.aload 4, 2) := by decide +kernel
theorem dX5_legs_83 : decode cX5_legs 83 = .ok (.bipush (-4), 2) := by decide +kernel
theorem dX5_legs_85 : decode cX5_legs 85 = .ok (.invokevirtual 211, 3) := by decide +kernel
theorem dX5_legs_88 : decode cX5_legs 88 = .ok (.ireturn, 1) := by decide +kernel
theorem dX5_legs_89 : decode cX5_legs 89 = .ok (.aload 4, 2) := by decide +kernel
theorem dX5_legs_91 : decode cX5_legs 91 = .ok (.invokestatic 215, 3) := by decide +kernel
theorem dX5_legs_94 : decode cX5_legs 94 = .ok (.ireturn, 1) := by decide +kernel
theorem dX5_legs_95 : decode cX5_legs 95 = .ok (.aload_n 0, 1) := by decide +kernel
theorem dX5_legs_96 : decode cX5_legs 96 = .ok (.aload 4, 2) := by decide +kernel
theorem dX5_legs_98 : decode cX5_legs 98 = .ok (.invokevirtual 219, 3) := by decide +kernel
theorem dX5_legs_101 : decode cX5_legs 101 = .ok (.ireturn, 1) := by decide +kernel
theorem dX6_greatestBy_0 : decode cX6_greatestBy 0 = .ok (.aload_n 0, 1) := by decide +kernel
theorem dX6_greatestBy_1 : decode cX6_greatestBy 1 = .ok (.getfield 9, 3) := by decide +kernel
theorem dX6_greatestBy_4 : decode cX6_greatestBy 4 = .ok (.iconst 5, 1) := by decide +kernel
theorem dX6_greatestBy_5 : decode cX6_greatestBy 5 = .ok (.iaload, 1) := by decide +kernel
theorem dX6_greatestBy_6 : decode cX6_greatestBy 6 = .ok (.istore_n 3, 1) := by decide +kernel
theorem dX6_greatestBy_7 : decode cX6_greatestBy 7 = .ok (.aload_n 0, 1) := by decide +kernel
theorem dX6_greatestBy_8 : decode cX6_greatestBy 8 = .ok (.getfield 9, 3) := by decide +kernel
theorem dX6_greatestBy_11 : decode cX6_greatestBy 11 = .ok (.bipush 7, 2) := by decide +kernel
theorem dX6_greatestBy_13 : decode cX6_greatestBy 13 = .ok (.iaload, 1) := by decide +kernel
theorem dX6_greatestBy_14 : decode cX6_greatestBy 14 = .ok (.istore 4, 2) := by decide +kernel
theorem dX6_greatestBy_16 : decode cX6_greatestBy 16 = .ok (.aload_n 0, 1) := by decide +kernel
theorem dX6_greatestBy_17 : decode cX6_greatestBy 17 = .ok (.getfield 9, 3) := by decide +kernel
theorem dX6_greatestBy_20 : decode cX6_greatestBy 20 = .ok (.iconst 5, 1) := by decide +kernel
theorem dX6_greatestBy_21 : decode cX6_greatestBy 21 = .ok (.iload_n 1, 1) := by decide +kernel
theorem dX6_greatestBy_22 : decode cX6_greatestBy 22 = .ok (.iastore, 1) := by decide +kernel
theorem dX6_greatestBy_23 : decode cX6_greatestBy 23 = .ok (.aload_n 0, 1) := by decide +kernel
theorem dX6_greatestBy_24 : decode cX6_greatestBy 24 = .ok (.getfield 9, 3) := by decide +kernel
theorem dX6_greatestBy_27 : decode cX6_greatestBy 27 = .ok (.bipush 7, 2) := by decide +kernel
theorem dX6_greatestBy_29 : decode cX6_greatestBy 29 = .ok (.iload_n 2, 1) := by decide +kernel
theorem dX6_greatestBy_30 : decode cX6_greatestBy 30 = .ok (.iastore, 1) := by decide +kernel
theorem dX6_greatestBy_31 : decode cX6_greatestBy 31 = .ok (.aload_n 0, 1) := by decide +kernel
theorem dX6_greatestBy_32 : decode cX6_greatestBy 32 = .ok (.invokevirtual 201, 3) := by decide +kernel
theorem dX6_greatestBy_35 : decode cX6_greatestBy 35 = .ok (.istore 5, 2) := by decide +kernel
theorem dX6_greatestBy_37 : decode cX6_greatestBy 37 = .ok (.aload_n 0, 1) := by decide +kernel
theorem dX6_greatestBy_38 : decode cX6_greatestBy 38 = .ok (.getfield 9, 3) := by decide +kernel
theorem dX6_greatestBy_41 : decode cX6_greatestBy 41 = .ok (.iconst 5, 1) := by decide +kernel
theorem dX6_greatestBy_42 : decode cX6_greatestBy 42 = .ok (.iload_n 3, 1) := by decide +kernel
theorem dX6_greatestBy_43 : decode cX6_greatestBy 43 = .ok (.iastore, 1) := by decide +kernel
theorem dX6_greatestBy_44 : decode cX6_greatestBy 44 = .ok (.aload_n 0, 1) := by decide +kernel
theorem dX6_greatestBy_45 : decode cX6_greatestBy 45 = .ok (.getfield 9, 3) := by decide +kernel
theorem dX6_greatestBy_48 : decode cX6_greatestBy 48 = .ok (.bipush 7, 2) := by decide +kernel
theorem dX6_greatestBy_50 : decode cX6_greatestBy 50 = .ok (.iload 4, 2) := by decide +kernel
theorem dX6_greatestBy_52 : decode cX6_greatestBy 52 = .ok (.iastore, 1) := by decide +kernel
theorem dX6_greatestBy_53 : decode cX6_greatestBy 53 = .ok (.iload 5, 2) := by decide +kernel
theorem dX6_greatestBy_55 : decode cX6_greatestBy 55 = .ok (.ireturn, 1) := by decide +kernel
theorem dX6_greatestLegs_0 : decode cX6_greatestLegs 0 = .ok (.iconst (-1), 1) := by decide +kernel
theorem dX6_greatestLegs_1 : decode cX6_greatestLegs 1 = .ok (.istore_n 3, 1) := by decide +kernel
theorem dX6_greatestLegs_2 : decode cX6_greatestLegs 2 = .ok (.iconst 0, 1) := by decide +kernel
theorem dX6_greatestLegs_3 : decode cX6_greatestLegs 3 = .ok (.istore 4, 2) := by decide +kernel
theorem dX6_greatestLegs_5 : decode cX6_greatestLegs 5 = .ok (.iload 4, 2) := by decide +kernel
theorem dX6_greatestLegs_7 : decode cX6_greatestLegs 7 = .ok (.aload_n 0, 1) := by decide +kernel
theorem dX6_greatestLegs_8 : decode cX6_greatestLegs 8 = .ok (.getfield 28, 3) := by decide +kernel
theorem dX6_greatestLegs_11 : decode cX6_greatestLegs 11 = .ok (.iload_n 1, 1) := by decide +kernel
theorem dX6_greatestLegs_12 : decode cX6_greatestLegs 12 = .ok (.iaload, 1) := by decide +kernel
theorem dX6_greatestLegs_13 : decode cX6_greatestLegs 13 = .ok (.iconst 3, 1) := by decide +kernel
theorem dX6_greatestLegs_14 : decode cX6_greatestLegs 14 = .ok (.idiv, 1) := by decide +kernel
theorem dX6_greatestLegs_15 : decode cX6_greatestLegs 15 = .ok (.if_icmp .ge 67, 3) := by decide +kernel
theorem dX6_greatestLegs_18 : decode cX6_greatestLegs 18 = .ok (.bipush 100, 2) := by decide +kernel
theorem dX6_greatestLegs_20 : decode cX6_greatestLegs 20 = .ok (.iload_n 1, 1) := by decide +kernel
theorem dX6_greatestLegs_21 : decode cX6_greatestLegs 21 = .ok (.imul, 1) := by decide +kernel
theorem dX6_greatestLegs_22 : decode cX6_greatestLegs 22 = .ok (.iconst 3, 1) := by decide +kernel
theorem dX6_greatestLegs_23 : decode cX6_greatestLegs 23 = .ok (.iload 4, 2) := by decide +kernel
theorem dX6_greatestLegs_25 : decode cX6_greatestLegs 25 = .ok (.imul, 1) := by decide +kernel
theorem dX6_greatestLegs_26 : decode cX6_greatestLegs 26 = .ok (.iadd, 1) := by decide +kernel
theorem dX6_greatestLegs_27 : decode cX6_greatestLegs 27 = .ok (.istore 5, 2) := by decide +kernel
theorem dX6_greatestLegs_29 : decode cX6_greatestLegs 29 = .ok (.aload_n 0, 1) := by decide +kernel
theorem dX6_greatestLegs_30 : decode cX6_greatestLegs 30 = .ok (.aload_n 0, 1) := by decide +kernel
theorem dX6_greatestLegs_31 : decode cX6_greatestLegs 31 = .ok (.getfield 31, 3) := by decide +kernel
theorem dX6_greatestLegs_34 : decode cX6_greatestLegs 34 = .ok (.iload 5, 2) := by decide +kernel
theorem dX6_greatestLegs_36 : decode cX6_greatestLegs 36 = .ok (.iconst 1, 1) := by decide +kernel
theorem dX6_greatestLegs_37 : decode cX6_greatestLegs 37 = .ok (.iadd, 1) := by decide +kernel
theorem dX6_greatestLegs_38 : decode cX6_greatestLegs 38 = .ok (.iaload, 1) := by decide +kernel
theorem dX6_greatestLegs_39 : decode cX6_greatestLegs 39 = .ok (.iload 4, 2) := by decide +kernel
theorem dX6_greatestLegs_41 : decode cX6_greatestLegs 41 = .ok (.iload_n 2, 1) := by decide +kernel
theorem dX6_greatestLegs_42 : decode cX6_greatestLegs 42 = .ok (.if_icmp .ne 7, 3) := by decide +kernel
theorem dX6_greatestLegs_45 : decode cX6_greatestLegs 45 = .ok (.iconst 0, 1) := by decide +kernel
theorem dX6_greatestLegs_46 : decode cX6_greatestLegs 46 = .ok (.goto 12, 3) := by decide +kernel
theorem dX6_greatestLegs_49 : decode cX6_greatestLegs 49 = .ok (.aload_n 0, 1) := by decide +kernel
theorem dX6_greatestLegs_50 : decode cX6_greatestLegs 50 = .ok (.getfield 31, 3) := by decide +kernel
theorem dX6_greatestLegs_53 : decode cX6_greatestLegs 53 = .ok (.iload 5, 2) := by decide +kernel
theorem dX6_greatestLegs_55 : decode cX6_greatestLegs 55 = .ok (.iconst 2, 1) := by decide +kernel
theorem dX6_greatestLegs_56 : decode cX6_greatestLegs 56 = .ok (.iadd, 1) := by decide +kernel
theorem dX6_greatestLegs_57 : decode cX6_greatestLegs 57 = .ok (.iaload, 1) := by decide +kernel
theorem dX6_greatestLegs_58 : decode cX6_greatestLegs 58 = .ok (.invokevirtual 239, 3) := by decide +kernel
theorem dX6_greatestLegs_61 : decode cX6_greatestLegs 61 = .ok (.istore 6, 2) := by decide +kernel
theorem dX6_greatestLegs_63 : decode cX6_greatestLegs 63 = .ok (.iload 6, 2) := by decide +kernel
theorem dX6_greatestLegs_65 : decode cX6_greatestLegs 65 = .ok (.iload_n 3, 1) := by decide +kernel
theorem dX6_greatestLegs_66 : decode cX6_greatestLegs 66 = .ok (.if_icmp .le 8, 3) := by decide +kernel
theorem dX6_greatestLegs_69 : decode cX6_greatestLegs 69 = .ok (.iload 6, 2) := by decide +kernel
theorem dX6_greatestLegs_71 : decode cX6_greatestLegs 71 = .ok (.goto 4, 3) := by decide +kernel
theorem dX6_greatestLegs_74 : decode cX6_greatestLegs 74 = .ok (.iload_n 3, 1) := by decide +kernel
theorem dX6_greatestLegs_75 : decode cX6_greatestLegs 75 = .ok (.istore_n 3, 1) := by decide +kernel
theorem dX6_greatestLegs_76 : decode cX6_greatestLegs 76 = .ok (.iinc 4 1, 3) := by decide +kernel
theorem dX6_greatestLegs_79 : decode cX6_greatestLegs 79 = .ok (.goto (-74), 3) := by decide +kernel
theorem dX6_greatestLegs_82 : decode cX6_greatestLegs 82 = .ok (.iload_n 3, 1) := by decide +kernel
theorem dX6_greatestLegs_83 : decode cX6_greatestLegs 83 = .ok (.ireturn, 1) := by decide +kernel
theorem dX6_wrongLegs_0 : decode cX6_wrongLegs 0 = .ok (.aload_n 0, 1) := by decide +kernel
theorem dX6_wrongLegs_1 : decode cX6_wrongLegs 1 = .ok (.iload_n 1, 1) := by decide +kernel
theorem dX6_wrongLegs_2 : decode cX6_wrongLegs 2 = .ok (.iconst 0, 1) := by decide +kernel
theorem dX6_wrongLegs_3 : decode cX6_wrongLegs 3 = .ok (.invokevirtual 97, 3) := by decide +kernel
theorem dX6_wrongLegs_6 : decode cX6_wrongLegs 6 = .ok (.istore_n 2, 1) := by decide +kernel
theorem dX6_wrongLegs_7 : decode cX6_wrongLegs 7 = .ok (.iload_n 2, 1) := by decide +kernel
theorem dX6_wrongLegs_8 : decode cX6_wrongLegs 8 = .ok (.ifCond .eq 5, 3) := by decide +kernel
theorem dX6_wrongLegs_11 : decode cX6_wrongLegs 11 = .ok (.iload_n 2, 1) := by decide +kernel
theorem dX6_wrongLegs_12 : decode cX6_wrongLegs 12 = .ok (.ireturn, 1) := by decide +kernel
theorem dX6_wrongLegs_13 : decode cX6_wrongLegs 13 = .ok (.aload_n 0, 1) := by decide +kernel
theorem dX6_wrongLegs_14 : decode cX6_wrongLegs 14 = .ok (.getfield 28, 3) := by decide +kernel
theorem dX6_wrongLegs_17 : decode cX6_wrongLegs 17 = .ok (.iload_n 1, 1) := by decide +kernel
theorem dX6_wrongLegs_18 : decode cX6_wrongLegs 18 = .ok (.iaload, 1) := by decide +kernel
theorem dX6_wrongLegs_19 : decode cX6_wrongLegs 19 = .ok (.ifCond .eq 25, 3) := by decide +kernel
theorem dX6_wrongLegs_22 : decode cX6_wrongLegs 22 = .ok (.aload_n 0, 1) := by decide +kernel
theorem dX6_wrongLegs_23 : decode cX6_wrongLegs 23 = .ok (.getfield 28, 3) := by decide +kernel
theorem dX6_wrongLegs_26 : decode cX6_wrongLegs 26 = .ok (.iload_n 1, 1) := by decide +kernel
theorem dX6_wrongLegs_27 : decode cX6_wrongLegs 27 = .ok (.iaload, 1) := by decide +kernel
theorem dX6_wrongLegs_28 : decode cX6_wrongLegs 28 = .ok (.iconst 3, 1) := by decide +kernel
theorem dX6_wrongLegs_29 : decode cX6_wrongLegs 29 = .ok (.irem, 1) := by decide +kernel
theorem dX6_wrongLegs_30 : decode cX6_wrongLegs 30 = .ok (.ifCond .ne 14, 3) := by decide +kernel
theorem dX6_wrongLegs_33 : decode cX6_wrongLegs 33 = .ok (.aload_n 0, 1) := by decide +kernel
theorem dX6_wrongLegs_34 : decode cX6_wrongLegs 34 = .ok (.getfield 28, 3) := by decide +kernel
theorem dX6_wrongLegs_37 : decode cX6_wrongLegs 37 = .ok (.iload_n 1, 1) := by decide +kernel
theorem dX6_wrongLegs_38 : decode cX6_wrongLegs 38 = .ok (.iaload, 1) := by decide +kernel
theorem dX6_wrongLegs_39 : decode cX6_wrongLegs 39 = .ok (.bipush 24, 2) := by decide +kernel
theorem dX6_wrongLegs_41 : decode cX6_wrongLegs 41 = .ok (.if_icmp .le 6, 3) := by decide +kernel
theorem dX6_wrongLegs_44 : decode cX6_wrongLegs 44 = .ok (.bipush (-13), 2) := by decide +kernel
theorem dX6_wrongLegs_46 : decode cX6_wrongLegs 46 = .ok (.ireturn, 1) := by decide +kernel
theorem dX6_wrongLegs_47 : decode cX6_wrongLegs 47 = .ok (.iconst 0, 1) := by decide +kernel
theorem dX6_wrongLegs_48 : decode cX6_wrongLegs 48 = .ok (.istore_n 3, 1) := by decide +kernel
theorem dX6_wrongLegs_49 : decode cX6_wrongLegs 49 = .ok (.iload_n 3, 1) := by decide +kernel
theorem dX6_wrongLegs_50 : decode cX6_wrongLegs 50 = .ok (.aload_n 0, 1) := by decide +kernel
theorem dX6_wrongLegs_51 : decode cX6_wrongLegs 51 = .ok (.getfield 28, 3) := by decide +kernel
theorem dX6_wrongLegs_54 : decode cX6_wrongLegs 54 = .ok (.iload_n 1, 1) := by decide +kernel
theorem dX6_wrongLegs_55 : decode cX6_wrongLegs 55 = .ok (.iaload, 1) := by decide +kernel
theorem dX6_wrongLegs_56 : decode cX6_wrongLegs 56 = .ok (.if_icmp .ge 78, 3) := by decide +kernel
theorem dX6_wrongLegs_59 : decode cX6_wrongLegs 59 = .ok (.bipush 100, 2) := by decide +kernel
theorem dX6_wrongLegs_61 : decode cX6_wrongLegs 61 = .ok (.iload_n 1, 1) := by decide +kernel
theorem dX6_wrongLegs_62 : decode cX6_wrongLegs 62 = .ok (.imul, 1) := by decide +kernel
theorem dX6_wrongLegs_63 : decode cX6_wrongLegs 63 = .ok (.iload_n 3, 1) := by decide +kernel
theorem dX6_wrongLegs_64 : decode cX6_wrongLegs 64 = .ok (.iadd, 1) := by decide +kernel
theorem dX6_wrongLegs_65 : decode cX6_wrongLegs 65 = .ok (.istore 4, 2) := by decide +kernel
theorem dX6_wrongLegs_67 : decode cX6_wrongLegs 67 = .ok (.aload_n 0, 1) := by decide +kernel
theorem dX6_wrongLegs_68 : decode cX6_wrongLegs 68 = .ok (.getfield 31, 3) := by decide +kernel
theorem dX6_wrongLegs_71 : decode cX6_wrongLegs 71 = .ok (.iload 4, 2) := by decide +kernel
theorem dX6_wrongLegs_73 : decode cX6_wrongLegs 73 = .ok (.iaload, 1) := by decide +kernel
theorem dX6_wrongLegs_74 : decode cX6_wrongLegs 74 = .ok (.i2l, 1) := by decide +kernel
theorem dX6_wrongLegs_75 : decode cX6_wrongLegs 75 = .ok (.lconst 1, 1) := by decide +kernel
theorem dX6_wrongLegs_76 : decode cX6_wrongLegs 76 = .ok (.ldc2_w 88, 3) := by decide +kernel
theorem dX6_wrongLegs_79 : decode cX6_wrongLegs 79 = .ok (.invokestatic 47, 3) := by decide +kernel
theorem dX6_wrongLegs_82 : decode cX6_wrongLegs 82 = .ok (.ifCond .eq 43, 3) := by decide +kernel
theorem dX6_wrongLegs_85 : decode cX6_wrongLegs 85 = .ok (.aload_n 0, 1) := by decide +kernel
theorem dX6_wrongLegs_86 : decode cX6_wrongLegs 86 = .ok (.getfield 31, 3) := by decide +kernel
theorem dX6_wrongLegs_89 : decode cX6_wrongLegs 89 = .ok (.iload 4, 2) := by decide +kernel
theorem dX6_wrongLegs_91 : decode cX6_wrongLegs 91 = .ok (.iconst 1, 1) := by decide +kernel
theorem dX6_wrongLegs_92 : decode cX6_wrongLegs 92 = .ok (.iadd, 1) := by decide +kernel
theorem dX6_wrongLegs_93 : decode cX6_wrongLegs 93 = .ok (.iaload, 1) := by decide +kernel
theorem dX6_wrongLegs_94 : decode cX6_wrongLegs 94 = .ok (.i2l, 1) := by decide +kernel
theorem dX6_wrongLegs_95 : decode cX6_wrongLegs 95 = .ok (.lconst 0, 1) := by decide +kernel
theorem dX6_wrongLegs_96 : decode cX6_wrongLegs 96 = .ok (.ldc2_w 235, 3) := by decide +kernel
theorem dX6_wrongLegs_99 : decode cX6_wrongLegs 99 = .ok (.invokestatic 47, 3) := by decide +kernel
theorem dX6_wrongLegs_102 : decode cX6_wrongLegs 102 = .ok (.ifCond .eq 23, 3) := by decide +kernel
theorem dX6_wrongLegs_105 : decode cX6_wrongLegs 105 = .ok (.aload_n 0, 1) := by decide +kernel
theorem dX6_wrongLegs_106 : decode cX6_wrongLegs 106 = .ok (.getfield 31, 3) := by decide +kernel
theorem dX6_wrongLegs_109 : decode cX6_wrongLegs 109 = .ok (.iload 4, 2) := by decide +kernel
theorem dX6_wrongLegs_111 : decode cX6_wrongLegs 111 = .ok (.iconst 2, 1) := by decide +kernel
theorem dX6_wrongLegs_112 : decode cX6_wrongLegs 112 = .ok (.iadd, 1) := by decide +kernel
theorem dX6_wrongLegs_113 : decode cX6_wrongLegs 113 = .ok (.iaload, 1) := by decide +kernel
theorem dX6_wrongLegs_114 : decode cX6_wrongLegs 114 = .ok (.i2l, 1) := by decide +kernel
theorem dX6_wrongLegs_115 : decode cX6_wrongLegs 115 = .ok (.lconst 0, 1) := by decide +kernel
theorem dX6_wrongLegs_116 : decode cX6_wrongLegs 116 = .ok (.ldc2_w 237, 3) := by decide +kernel
theorem dX6_wrongLegs_119 : decode cX6_wrongLegs 119 = .ok (.invokestatic 47, 3) := by decide +kernel
theorem dX6_wrongLegs_122 : decode cX6_wrongLegs 122 = .ok (.ifCond .ne 6, 3) := by decide +kernel
theorem dX6_wrongLegs_125 : decode cX6_wrongLegs 125 = .ok (.bipush (-13), 2) := by decide +kernel
theorem dX6_wrongLegs_127 : decode cX6_wrongLegs 127 = .ok (.ireturn, 1) := by decide +kernel
theorem dX6_wrongLegs_128 : decode cX6_wrongLegs 128 = .ok (.iinc 3 3, 3) := by decide +kernel
theorem dX6_wrongLegs_131 : decode cX6_wrongLegs 131 = .ok (.goto (-82), 3) := by decide +kernel
theorem dX6_wrongLegs_134 : decode cX6_wrongLegs 134 = .ok (.iconst 0, 1) := by decide +kernel
theorem dX6_wrongLegs_135 : decode cX6_wrongLegs 135 = .ok (.ireturn, 1) := by decide +kernel
section WALK
variable {p : Program} {l : Launch} {e : Env} {s : State} {m : MethodId} {args : Array Value} {below : List Frame} {meth : Method} {c : Code} {G : GG}

def q_X6_renders (M : Mem) (x1 : Int32) (post : Int32 → Mem → Prop) : Prop := q_X6_isIn M x1.toInt64 (0 : Int64) (9999 : Int64) (fun r1 M2 => (r1 = 0 → (post (-1 : Int32) M2)) ∧ (¬ (r1 = 0) → (q_X6_isLine M2  (fun r4 M5 => (r4 = 0 → (post (-3 : Int32) M5)) ∧ (¬ (r4 = 0) → (q_X6_allPieces M5  (fun r7 M8 => q_X6_sumsUp M8 r7 (fun M10 => q_X6_above M10 x1 (fun r11 M12 => post r11 M12)))))))))
set_option maxHeartbeats 4000000 in
set_option maxRecDepth 100000 in
theorem c_X6_renders (l : Launch) (G : GG) (hG : Ag G) (sz : Nat) (M : Mem) (x1 : Int32) (post : Int32 → Mem → Prop) (h : q_X6_renders M x1 post) : Met l yX6_renders (Cond.code yX6_renders cX6_renders 2 (some .int) :: wsL_law) (rmk 5) (va_Pc [.ref (ga G 57), .int x1] (Pw G sz M)) (va_Qi post (Qw G) (Af G sz)) 0 0 (Af G sz) := by
  refine Met.ofW (cc := cX6_renders) (maxL := 2) (ret := (some .int)) (by decide) rfl ?_
  intro p e s m args below meth c s₁ B hml hv
  obtain ⟨rfl, hsz, hE, hP⟩ := hv
  subst hsz
  have C := Cx.of (own := RX6) hG hE rfl hml B
  have w : Wd G s M s.heap [] := ⟨hP, va_S.rf⟩
  have hl := lv_entry [.ref (ga G 57), .int x1] (n := 2) (Nat.le_of_ble_eq_true rfl)
  rw [lg_entry_eq]
  generalize (lg_sl [.ref (ga G 57), .int x1] ++ List.replicate (2 - (lg_sl [.ref (ga G 57), .int x1]).length) Slot.unset).toArray = ls at hl ⊢
  have hl : lv_has ls 2 [(0, .ref (ga G 57)), (1, .int x1)] := hl
  have hx := C.1.1
  have hb := C.1.2.1
  show W p l e (rmk 5) s m _ below meth c s.heap [] 0 0 _ _
  unfold q_X6_renders at h
  refine lv_iload_n hx hb dX6_renders_0 rfl (lv_at hl 1 rfl) ?_
  refine lv_i2l hx hb dX6_renders_1 rfl ?_
  refine lv_lconst (v := 0) hx hb dX6_renders_2 (by decide) ?_
  refine lv_ldc2 hx hb C.1.2.2.2.1 (C.ws kw_19_2) dX6_renders_3 ?_
  refine end_i w (run_S (As := [.long x1.toInt64, .long (0 : Int64), .long (9999 : Int64)]) C w hl.1 (c_X6_isIn l G C.2.2.1 _ _ x1.toInt64 (0 : Int64) (9999 : Int64)  _ h) kw_12_5 kw_1_5 kw_12_3 kw_12_4 hd_X6_isIn ⟨by decide, by decide⟩ rfl (Nat.le_of_ble_eq_true rfl) dX6_renders_6) (fun r1 M2 H locs h w => ?_)
  refine lv_if_ne (tgt := 14) hx hb dX6_renders_9 (by decide) (fun c3 => ?_) (fun c3 => ?_)
  · replace h := h.2 c3
    refine lv_aload_n hx hb dX6_renders_14 rfl (lv_at hl 0 rfl) ?_
    refine end_i w (run_V (As := []) C w hl.1 (c_X6_isLine l G C.2.2.1 _ _   _ h) kw_17_11 kw_1_5 kw_17_8 kw_17_9 kw_17_10 hd_X6_isLine ⟨by decide, by decide⟩ (w.recv C (i := 57) (by decide) (pE_6) rfl) rfl (Nat.le_of_ble_eq_true rfl) dX6_renders_15) (fun r4 M5 H locs h w => ?_)
    refine lv_if_ne (tgt := 24) hx hb dX6_renders_18 (by decide) (fun c6 => ?_) (fun c6 => ?_)
    · replace h := h.2 c6
      refine lv_aload_n hx hb dX6_renders_24 rfl (lv_at hl 0 rfl) ?_
      refine lv_aload_n hx hb dX6_renders_25 rfl (lv_at hl 0 rfl) ?_
      refine end_i w (run_V (As := []) C w hl.1 (c_X6_allPieces l G C.2.2.1 _ _   _ h) kw_17_15 kw_1_5 kw_17_12 kw_17_13 kw_17_14 hd_X6_allPieces ⟨by decide, by decide⟩ (w.recv C (i := 57) (by decide) (pE_6) rfl) rfl (Nat.le_of_ble_eq_true rfl) dX6_renders_26) (fun r7 M8 H locs h w => ?_)
      refine end_v w (run_V (As := [.int r7]) C w hl.1 (c_X6_sumsUp l G C.2.2.1 _ _ r7  _ h) kw_17_19 kw_1_5 kw_17_16 kw_17_17 kw_17_18 hd_X6_sumsUp ⟨by decide, by decide⟩ (w.recv C (i := 57) (by decide) (pE_6) rfl) rfl (Nat.le_of_ble_eq_true rfl) dX6_renders_29) (fun M10 H locs h w => ?_)
      refine lv_aload_n hx hb dX6_renders_32 rfl (lv_at hl 0 rfl) ?_
      refine lv_iload_n hx hb dX6_renders_33 rfl (lv_at hl 1 rfl) ?_
      refine end_i w (run_V (As := [.int x1]) C w hl.1 (c_X6_above l G C.2.2.1 _ _ x1  _ h) kw_31_16 kw_1_5 kw_31_13 kw_31_14 kw_31_15 hd_X6_above ⟨by decide, by decide⟩ (w.recv C (i := 57) (by decide) (pE_6) rfl) rfl (Nat.le_of_ble_eq_true rfl) dX6_renders_34) (fun r11 M12 H locs h w => ?_)
      exact ret_i C w h dX6_renders_37
    replace h := h.1 c6
    refine lv_bipush (v := -3) hx hb dX6_renders_21 (by decide) ?_
    exact ret_i C w h dX6_renders_23
  replace h := h.1 c3
  refine lv_iconst (v := -1) hx hb dX6_renders_12 (by decide) ?_
  exact ret_i C w h dX6_renders_13
def j_X5_winch_107 (post : Int32 → Mem → Prop) (M : Mem) (y0 : Int32) : Prop := post y0 M
def j_X5_winch_88 (k45 : Mem → Int32 → Int32 → Int32 → Prop) (post : Int32 → Mem → Prop) (M : Mem) (x1 : Int32) (x2 : Int32) (x3 : Int32) : Prop := k45 M x1 x2 (x3 + (1 : Int32))
def b_X5_winch_45 (k45 : Mem → Int32 → Int32 → Int32 → Prop) (post : Int32 → Mem → Prop) (M : Mem) (x1 : Int32) (x2 : Int32) (x3 : Int32) : Prop := ((M 4 4) ≤ x3 → ((x2 ≤ (9999 : Int32) → (j_X5_winch_107 post M x2)) ∧ (¬ (x2 ≤ (9999 : Int32)) → (j_X5_winch_107 post M (-4 : Int32))))) ∧ (¬ ((M 4 4) ≤ x3) → (q_X0_pullAt M x3 (fun r3 M4 => (x2 ≤ r3 → (j_X5_winch_88 k45 post M4 x1 x2 x3)) ∧ (¬ (x2 ≤ r3) → (q_X0_pullsAbove M4 r3 (fun r6 M7 => (x1 < r6 → (j_X5_winch_88 k45 post M7 x1 x2 x3)) ∧ (¬ (x1 < r6) → (j_X5_winch_88 k45 post M7 x1 r3 x3))))))))
def lp_X5_winch_45 (post : Int32 → Mem → Prop) : Nat → Mem → Int32 → Int32 → Int32 → Prop
  | 0 => fun _ _ _ _ => False
  | n + 1 => fun M x1 x2 x3 => b_X5_winch_45 (lp_X5_winch_45 post n) post M x1 x2 x3
def q_X5_winch (M : Mem) (x1 : Int32) (post : Int32 → Mem → Prop) : Prop := q_X5_isWithin M x1 (0 : Int32) (mostT 1) (fun r9 M10 => (r9 = 0 → (post (-1 : Int32) M10)) ∧ (¬ (r9 = 0) → (q_X5_layLine M10  (fun r12 M13 => (r12 = 0 → (post (-3 : Int32) M13)) ∧ (¬ (r12 = 0) → (q_X0_pullsAbove M13 (0 : Int32) (fun r15 M16 => (x1 < r15 → (∃ n, lp_X5_winch_45 post n M16 x1 (10000 : Int32) (0 : Int32))) ∧ (¬ (x1 < r15) → (post (0 : Int32) M16)))))))))
set_option maxHeartbeats 4000000 in
set_option maxRecDepth 100000 in
theorem t_X5_winch_107 (C : Cx G p s m args meth c RX5 cX5_winch 5 (some .int)) {post : Int32 → Mem → Prop} (M : Mem) (y0 : Int32) {H : Heap} {locs : List Loc} {ls : Array Slot} (w : Wd G s M H locs) (hl : lv_has ls 5 []) (h : j_X5_winch_107 post M y0) : W p l e (rmk 6) s m args below meth c H locs 0 0 (MQ below (va_Qi post (Qw G) (Af G s.heap.size)) args s 0 0 (Af G s.heap.size)) (F0 m 107 ls [.int y0]) := by
  have hx := C.1.1
  have hb := C.1.2.1
  unfold j_X5_winch_107 at h
  exact ret_i C w h dX5_winch_107
set_option maxHeartbeats 4000000 in
set_option maxRecDepth 100000 in
theorem t_X5_winch_88 (C : Cx G p s m args meth c RX5 cX5_winch 5 (some .int)) {post : Int32 → Mem → Prop} {k45 : Mem → Int32 → Int32 → Int32 → Prop} (hk45 : ∀ (M : Mem) (x1 : Int32) (x2 : Int32) (x3 : Int32) (H : Heap) (locs : List Loc) (ls : Array Slot), Wd G s M H locs → lv_has ls 5 [(0, .ref (ga G 0)), (1, .int x1), (2, .int x2), (3, .int x3)] → k45 M x1 x2 x3 → W p l e (rmk 6) s m args below meth c H locs 0 0 (MQ below (va_Qi post (Qw G) (Af G s.heap.size)) args s 0 0 (Af G s.heap.size)) (F0 m 45 ls [])) (M : Mem) (x1 : Int32) (x2 : Int32) (x3 : Int32) {H : Heap} {locs : List Loc} {ls : Array Slot} (w : Wd G s M H locs) (hl : lv_has ls 5 [(0, .ref (ga G 0)), (1, .int x1), (2, .int x2), (3, .int x3)]) (h : j_X5_winch_88 k45 post M x1 x2 x3) : W p l e (rmk 6) s m args below meth c H locs 0 0 (MQ below (va_Qi post (Qw G) (Af G s.heap.size)) args s 0 0 (Af G s.heap.size)) (F0 m 88 ls []) := by
  have hx := C.1.1
  have hb := C.1.2.1
  unfold j_X5_winch_88 at h
  refine lv_iinc (v := (x3 + (1 : Int32))) (lv' := [(3, .int (x3 + (1 : Int32))), (0, .ref (ga G 0)), (1, .int x1), (2, .int x2)]) hx hb dX5_winch_88 hl (k := 3) rfl rfl (by decide) rfl (fun ls hl => ?_)
  refine lv_goto (tgt := 45) hx hb dX5_winch_91 (by decide) ?_
  exact hk45 M x1 x2 (x3 + (1 : Int32)) _ _ _  w (lv_sub hl [1, 2, 3, 0] rfl) h
set_option maxHeartbeats 4000000 in
set_option maxRecDepth 100000 in
theorem t_X5_winch_45 (C : Cx G p s m args meth c RX5 cX5_winch 5 (some .int)) {post : Int32 → Mem → Prop} : ∀ (n : Nat) (M : Mem) (x1 : Int32) (x2 : Int32) (x3 : Int32) {H : Heap} {locs : List Loc} {ls : Array Slot} (w : Wd G s M H locs) (hl : lv_has ls 5 [(0, .ref (ga G 0)), (1, .int x1), (2, .int x2), (3, .int x3)]) (h : lp_X5_winch_45 post n M x1 x2 x3), W p l e (rmk 6) s m args below meth c H locs 0 0 (MQ below (va_Qi post (Qw G) (Af G s.heap.size)) args s 0 0 (Af G s.heap.size)) (F0 m 45 ls []) := by
  have hx := C.1.1
  have hb := C.1.2.1
  intro n9
  induction n9 with
  | zero => intro M x1 x2 x3 H locs ls w hl h; exact absurd h id
  | succ n9 ih9 =>
    intro M x1 x2 x3 H locs ls w hl h
    have hk45 : ∀ (M : Mem) (x1 : Int32) (x2 : Int32) (x3 : Int32) (H : Heap) (locs : List Loc) (ls : Array Slot), Wd G s M H locs → lv_has ls 5 [(0, .ref (ga G 0)), (1, .int x1), (2, .int x2), (3, .int x3)] → lp_X5_winch_45 post n9 M x1 x2 x3 → W p l e (rmk 6) s m args below meth c H locs 0 0 (MQ below (va_Qi post (Qw G) (Af G s.heap.size)) args s 0 0 (Af G s.heap.size)) (F0 m 45 ls []) := fun M x1 x2 x3 H locs ls w hl h => ih9 M x1 x2 x3 w hl h
    replace h : b_X5_winch_45 (lp_X5_winch_45 post n9) post M x1 x2 x3 := h
    unfold b_X5_winch_45 at h
    refine lv_iload_n hx hb dX5_winch_45 rfl (lv_at hl 3 rfl) ?_
    refine lv_aload_n hx hb dX5_winch_46 rfl (lv_at hl 0 rfl) ?_
    refine gt_5_3 C w kw_1_22 dX5_winch_47 ?_
    refine gn_0_4 C w kn_27 dX5_winch_50 ?_
    refine lv_icmp_ge (tgt := 94) hx hb dX5_winch_53 (by decide) (fun c1 => ?_) (fun c1 => ?_)
    · replace h := h.1 c1
      refine lv_iload_n hx hb dX5_winch_94 rfl (lv_at hl 2 rfl) ?_
      refine lv_sipush (v := 9999) hx hb dX5_winch_95 (by decide) ?_
      refine lv_icmp_le (tgt := 106) hx hb dX5_winch_98 (by decide) (fun c2 => ?_) (fun c2 => ?_)
      · replace h := h.1 c2
        refine lv_iload_n hx hb dX5_winch_106 rfl (lv_at hl 2 rfl) ?_
        exact t_X5_winch_107 C M x2  w (lv_sub hl [] rfl) h
      replace h := h.2 c2
      refine lv_bipush (v := -4) hx hb dX5_winch_101 (by decide) ?_
      refine lv_goto (tgt := 107) hx hb dX5_winch_103 (by decide) ?_
      exact t_X5_winch_107 C M (-4 : Int32)  w (lv_sub hl [] rfl) h
    replace h := h.2 c1
    refine lv_aload_n hx hb dX5_winch_56 rfl (lv_at hl 0 rfl) ?_
    refine gt_5_3 C w kw_1_22 dX5_winch_57 ?_
    refine lv_iload_n hx hb dX5_winch_60 rfl (lv_at hl 3 rfl) ?_
    refine end_i w (run_VN (As := [.int x3]) C w hl.1 (c_X0_pullAt l G C.2.2.1 _ _ x3  _ h) kw_19_20 kw_1_21 kn_63 kw_19_18 kw_19_19 hd_X0_pullAt ⟨by decide, by decide⟩ (w.recv C (i := 4) (by decide) (pE_0) rfl) rfl (Nat.le_of_ble_eq_true rfl) dX5_winch_61) (fun r3 M4 H locs h w => ?_)
    refine lv_istore (lv' := [(4, .int r3), (0, .ref (ga G 0)), (1, .int x1), (2, .int x2), (3, .int x3)]) hx hb dX5_winch_64 hl (by decide) rfl (fun ls hl => ?_)
    refine lv_iload hx hb dX5_winch_66 (lv_at hl 0 rfl) ?_
    refine lv_iload_n hx hb dX5_winch_68 rfl (lv_at hl 3 rfl) ?_
    refine lv_icmp_ge (tgt := 88) hx hb dX5_winch_69 (by decide) (fun c5 => ?_) (fun c5 => ?_)
    · replace h := h.1 c5
      exact t_X5_winch_88 C hk45 M4 x1 x2 x3  w (lv_sub hl [1, 2, 3, 4] rfl) h
    replace h := h.2 c5
    refine lv_aload_n hx hb dX5_winch_72 rfl (lv_at hl 1 rfl) ?_
    refine gt_5_3 C w kw_1_22 dX5_winch_73 ?_
    refine lv_iload hx hb dX5_winch_76 (lv_at hl 0 rfl) ?_
    refine end_i w (run_VN (As := [.int r3]) C w hl.1 (c_X0_pullsAbove l G C.2.2.1 _ _ r3  _ h) kw_31_8 kw_1_21 kn_73 kw_31_6 kw_31_7 hd_X0_pullsAbove ⟨by decide, by decide⟩ (w.recv C (i := 4) (by decide) (pE_0) rfl) rfl (Nat.le_of_ble_eq_true rfl) dX5_winch_78) (fun r6 M7 H locs h w => ?_)
    refine lv_iload_n hx hb dX5_winch_81 rfl (lv_at hl 2 rfl) ?_
    refine lv_icmp_gt (tgt := 88) hx hb dX5_winch_82 (by decide) (fun c8 => ?_) (fun c8 => ?_)
    · replace h := h.1 c8
      exact t_X5_winch_88 C hk45 M7 x1 x2 x3  w (lv_sub hl [1, 2, 3, 4] rfl) h
    replace h := h.2 c8
    refine lv_iload hx hb dX5_winch_85 (lv_at hl 0 rfl) ?_
    refine lv_istore_n (lv' := [(2, .int r3), (4, .int r3), (0, .ref (ga G 0)), (1, .int x1), (3, .int x3)]) hx hb dX5_winch_87 rfl hl (by decide) rfl (fun ls hl => ?_)
    exact t_X5_winch_88 C hk45 M7 x1 r3 x3  w (lv_sub hl [2, 3, 0, 4] rfl) h
set_option maxHeartbeats 4000000 in
set_option maxRecDepth 100000 in
theorem c_X5_winch (l : Launch) (G : GG) (hG : Ag G) (sz : Nat) (M : Mem) (x1 : Int32) (post : Int32 → Mem → Prop) (h : q_X5_winch M x1 post) : Met l yX5_winch (Cond.code yX5_winch cX5_winch 5 (some .int) :: wsL_law) (rmk 6) (va_Pc [.ref (ga G 0), .int x1] (Pw G sz M)) (va_Qi post (Qw G) (Af G sz)) 0 0 (Af G sz) := by
  refine Met.ofW (cc := cX5_winch) (maxL := 5) (ret := (some .int)) (by decide) rfl ?_
  intro p e s m args below meth c s₁ B hml hv
  obtain ⟨rfl, hsz, hE, hP⟩ := hv
  subst hsz
  have C := Cx.of (own := RX5) hG hE rfl hml B
  have w : Wd G s M s.heap [] := ⟨hP, va_S.rf⟩
  have hl := lv_entry [.ref (ga G 0), .int x1] (n := 5) (Nat.le_of_ble_eq_true rfl)
  rw [lg_entry_eq]
  generalize (lg_sl [.ref (ga G 0), .int x1] ++ List.replicate (5 - (lg_sl [.ref (ga G 0), .int x1]).length) Slot.unset).toArray = ls at hl ⊢
  have hl : lv_has ls 5 [(0, .ref (ga G 0)), (1, .int x1)] := hl
  have hx := C.1.1
  have hb := C.1.2.1
  show W p l e (rmk 6) s m _ below meth c s.heap [] 0 0 _ _
  unfold q_X5_winch at h
  refine lv_iload_n hx hb dX5_winch_0 rfl (lv_at hl 1 rfl) ?_
  refine lv_iconst (v := 0) hx hb dX5_winch_1 (by decide) ?_
  refine gs_gM C w kw_24_3 dX5_winch_2 ?_
  refine lv_iconst (v := 1) hx hb dX5_winch_5 (by decide) ?_
  refine ts_gM C w (vl (x := (1 : Int32)) (by decide)) (k := 1) (by decide) dX5_winch_6 ?_
  refine end_i w (run_S (As := [.int x1, .int (0 : Int32), .int (mostT 1)]) C w hl.1 (c_X5_isWithin l G C.2.2.1 _ _ x1 (0 : Int32) (mostT 1)  _ h) kw_6_8 kw_1_2 kw_6_6 kw_6_7 hd_X5_isWithin ⟨by decide, by decide⟩ rfl (Nat.le_of_ble_eq_true rfl) dX5_winch_7) (fun r9 M10 H locs h w => ?_)
  refine lv_if_ne (tgt := 15) hx hb dX5_winch_10 (by decide) (fun c11 => ?_) (fun c11 => ?_)
  · replace h := h.2 c11
    refine lv_aload_n hx hb dX5_winch_15 rfl (lv_at hl 0 rfl) ?_
    refine end_i w (run_V (As := []) C w hl.1 (c_X5_layLine l G C.2.2.1 _ _   _ h) kw_15_21 kw_1_2 kw_15_18 kw_15_19 kw_15_20 hd_X5_layLine ⟨by decide, by decide⟩ (w.recv C (i := 0) (by decide) (pE_5) rfl) rfl (Nat.le_of_ble_eq_true rfl) dX5_winch_16) (fun r12 M13 H locs h w => ?_)
    refine lv_if_ne (tgt := 25) hx hb dX5_winch_19 (by decide) (fun c14 => ?_) (fun c14 => ?_)
    · replace h := h.2 c14
      refine lv_aload_n hx hb dX5_winch_25 rfl (lv_at hl 0 rfl) ?_
      refine gt_5_3 C w kw_1_22 dX5_winch_26 ?_
      refine lv_iconst (v := 0) hx hb dX5_winch_29 (by decide) ?_
      refine end_i w (run_VN (As := [.int (0 : Int32)]) C w hl.1 (c_X0_pullsAbove l G C.2.2.1 _ _ (0 : Int32)  _ h) kw_31_8 kw_1_21 kn_73 kw_31_6 kw_31_7 hd_X0_pullsAbove ⟨by decide, by decide⟩ (w.recv C (i := 4) (by decide) (pE_0) rfl) rfl (Nat.le_of_ble_eq_true rfl) dX5_winch_30) (fun r15 M16 H locs h w => ?_)
      refine lv_iload_n hx hb dX5_winch_33 rfl (lv_at hl 1 rfl) ?_
      refine lv_icmp_gt (tgt := 39) hx hb dX5_winch_34 (by decide) (fun c17 => ?_) (fun c17 => ?_)
      · replace h := h.1 c17
        refine lv_sipush (v := 10000) hx hb dX5_winch_39 (by decide) ?_
        refine lv_istore_n (lv' := [(2, .int (10000 : Int32)), (0, .ref (ga G 0)), (1, .int x1)]) hx hb dX5_winch_42 rfl hl (by decide) rfl (fun ls hl => ?_)
        refine lv_iconst (v := 0) hx hb dX5_winch_43 (by decide) ?_
        refine lv_istore_n (lv' := [(3, .int (0 : Int32)), (2, .int (10000 : Int32)), (0, .ref (ga G 0)), (1, .int x1)]) hx hb dX5_winch_44 rfl hl (by decide) rfl (fun ls hl => ?_)
        obtain ⟨n, h⟩ := h
        exact t_X5_winch_45 C n M16 x1 (10000 : Int32) (0 : Int32)  w (lv_sub hl [2, 3, 1, 0] rfl) h
      replace h := h.2 c17
      refine lv_iconst (v := 0) hx hb dX5_winch_37 (by decide) ?_
      exact ret_i C w h dX5_winch_38
    replace h := h.1 c14
    refine lv_bipush (v := -3) hx hb dX5_winch_22 (by decide) ?_
    exact ret_i C w h dX5_winch_24
  replace h := h.1 c11
  refine lv_iconst (v := -1) hx hb dX5_winch_13 (by decide) ?_
  exact ret_i C w h dX5_winch_14
def b_X6_winch_34 (k34 : Mem → Int32 → Int32 → Prop) (post : Int32 → Mem → Prop) (M : Mem) (x1 : Int32) (x2 : Int32) : Prop := ((9999 : Int32) < x2 → (post (-4 : Int32) M)) ∧ (¬ ((9999 : Int32) < x2) → (q_X6_above M x2 (fun r2 M3 => (x1 < r2 → (k34 M3 x1 (x2 + (1 : Int32)))) ∧ (¬ (x1 < r2) → (post x2 M3)))))
def lp_X6_winch_34 (post : Int32 → Mem → Prop) : Nat → Mem → Int32 → Int32 → Prop
  | 0 => fun _ _ _ => False
  | n + 1 => fun M x1 x2 => b_X6_winch_34 (lp_X6_winch_34 post n) post M x1 x2
def q_X6_winch (M : Mem) (x1 : Int32) (post : Int32 → Mem → Prop) : Prop := q_X6_isIn M x1.toInt64 (0 : Int64) (40 : Int64) (fun r5 M6 => (r5 = 0 → (post (-1 : Int32) M6)) ∧ (¬ (r5 = 0) → (q_X6_isLine M6  (fun r8 M9 => (r8 = 0 → (post (-3 : Int32) M9)) ∧ (¬ (r8 = 0) → (q_X6_allPieces M9  (fun r11 M12 => q_X6_sumsUp M12 r11 (fun M14 => ∃ n, lp_X6_winch_34 post n M14 x1 (0 : Int32)))))))))
set_option maxHeartbeats 4000000 in
set_option maxRecDepth 100000 in
theorem t_X6_winch_34 (C : Cx G p s m args meth c RX6 cX6_winch 3 (some .int)) {post : Int32 → Mem → Prop} : ∀ (n : Nat) (M : Mem) (x1 : Int32) (x2 : Int32) {H : Heap} {locs : List Loc} {ls : Array Slot} (w : Wd G s M H locs) (hl : lv_has ls 3 [(0, .ref (ga G 57)), (1, .int x1), (2, .int x2)]) (h : lp_X6_winch_34 post n M x1 x2), W p l e (rmk 5) s m args below meth c H locs 0 0 (MQ below (va_Qi post (Qw G) (Af G s.heap.size)) args s 0 0 (Af G s.heap.size)) (F0 m 34 ls []) := by
  have hx := C.1.1
  have hb := C.1.2.1
  intro n9
  induction n9 with
  | zero => intro M x1 x2 H locs ls w hl h; exact absurd h id
  | succ n9 ih9 =>
    intro M x1 x2 H locs ls w hl h
    have hk34 : ∀ (M : Mem) (x1 : Int32) (x2 : Int32) (H : Heap) (locs : List Loc) (ls : Array Slot), Wd G s M H locs → lv_has ls 3 [(0, .ref (ga G 57)), (1, .int x1), (2, .int x2)] → lp_X6_winch_34 post n9 M x1 x2 → W p l e (rmk 5) s m args below meth c H locs 0 0 (MQ below (va_Qi post (Qw G) (Af G s.heap.size)) args s 0 0 (Af G s.heap.size)) (F0 m 34 ls []) := fun M x1 x2 H locs ls w hl h => ih9 M x1 x2 w hl h
    replace h : b_X6_winch_34 (lp_X6_winch_34 post n9) post M x1 x2 := h
    unfold b_X6_winch_34 at h
    refine lv_iload_n hx hb dX6_winch_34 rfl (lv_at hl 2 rfl) ?_
    refine lv_sipush (v := 9999) hx hb dX6_winch_35 (by decide) ?_
    refine lv_icmp_gt (tgt := 58) hx hb dX6_winch_38 (by decide) (fun c1 => ?_) (fun c1 => ?_)
    · replace h := h.1 c1
      refine lv_bipush (v := -4) hx hb dX6_winch_58 (by decide) ?_
      exact ret_i C w h dX6_winch_60
    replace h := h.2 c1
    refine lv_aload_n hx hb dX6_winch_41 rfl (lv_at hl 0 rfl) ?_
    refine lv_iload_n hx hb dX6_winch_42 rfl (lv_at hl 2 rfl) ?_
    refine end_i w (run_V (As := [.int x2]) C w hl.1 (c_X6_above l G C.2.2.1 _ _ x2  _ h) kw_31_16 kw_1_5 kw_31_13 kw_31_14 kw_31_15 hd_X6_above ⟨by decide, by decide⟩ (w.recv C (i := 57) (by decide) (pE_6) rfl) rfl (Nat.le_of_ble_eq_true rfl) dX6_winch_43) (fun r2 M3 H locs h w => ?_)
    refine lv_iload_n hx hb dX6_winch_46 rfl (lv_at hl 1 rfl) ?_
    refine lv_icmp_gt (tgt := 52) hx hb dX6_winch_47 (by decide) (fun c4 => ?_) (fun c4 => ?_)
    · replace h := h.1 c4
      refine lv_iinc (v := (x2 + (1 : Int32))) (lv' := [(2, .int (x2 + (1 : Int32))), (0, .ref (ga G 57)), (1, .int x1)]) hx hb dX6_winch_52 hl (k := 2) rfl rfl (by decide) rfl (fun ls hl => ?_)
      refine lv_goto (tgt := 34) hx hb dX6_winch_55 (by decide) ?_
      exact hk34 M3 x1 (x2 + (1 : Int32)) _ _ _  w (lv_sub hl [1, 2, 0] rfl) h
    replace h := h.2 c4
    refine lv_iload_n hx hb dX6_winch_50 rfl (lv_at hl 2 rfl) ?_
    exact ret_i C w h dX6_winch_51
set_option maxHeartbeats 4000000 in
set_option maxRecDepth 100000 in
theorem c_X6_winch (l : Launch) (G : GG) (hG : Ag G) (sz : Nat) (M : Mem) (x1 : Int32) (post : Int32 → Mem → Prop) (h : q_X6_winch M x1 post) : Met l yX6_winch (Cond.code yX6_winch cX6_winch 3 (some .int) :: wsL_law) (rmk 5) (va_Pc [.ref (ga G 57), .int x1] (Pw G sz M)) (va_Qi post (Qw G) (Af G sz)) 0 0 (Af G sz) := by
  refine Met.ofW (cc := cX6_winch) (maxL := 3) (ret := (some .int)) (by decide) rfl ?_
  intro p e s m args below meth c s₁ B hml hv
  obtain ⟨rfl, hsz, hE, hP⟩ := hv
  subst hsz
  have C := Cx.of (own := RX6) hG hE rfl hml B
  have w : Wd G s M s.heap [] := ⟨hP, va_S.rf⟩
  have hl := lv_entry [.ref (ga G 57), .int x1] (n := 3) (Nat.le_of_ble_eq_true rfl)
  rw [lg_entry_eq]
  generalize (lg_sl [.ref (ga G 57), .int x1] ++ List.replicate (3 - (lg_sl [.ref (ga G 57), .int x1]).length) Slot.unset).toArray = ls at hl ⊢
  have hl : lv_has ls 3 [(0, .ref (ga G 57)), (1, .int x1)] := hl
  have hx := C.1.1
  have hb := C.1.2.1
  show W p l e (rmk 5) s m _ below meth c s.heap [] 0 0 _ _
  unfold q_X6_winch at h
  refine lv_iload_n hx hb dX6_winch_0 rfl (lv_at hl 1 rfl) ?_
  refine lv_i2l hx hb dX6_winch_1 rfl ?_
  refine lv_lconst (v := 0) hx hb dX6_winch_2 (by decide) ?_
  refine lv_ldc2 hx hb C.1.2.2.2.1 (C.ws kw_13_15) dX6_winch_3 ?_
  refine end_i w (run_S (As := [.long x1.toInt64, .long (0 : Int64), .long (40 : Int64)]) C w hl.1 (c_X6_isIn l G C.2.2.1 _ _ x1.toInt64 (0 : Int64) (40 : Int64)  _ h) kw_12_5 kw_1_5 kw_12_3 kw_12_4 hd_X6_isIn ⟨by decide, by decide⟩ rfl (Nat.le_of_ble_eq_true rfl) dX6_winch_6) (fun r5 M6 H locs h w => ?_)
  refine lv_if_ne (tgt := 14) hx hb dX6_winch_9 (by decide) (fun c7 => ?_) (fun c7 => ?_)
  · replace h := h.2 c7
    refine lv_aload_n hx hb dX6_winch_14 rfl (lv_at hl 0 rfl) ?_
    refine end_i w (run_V (As := []) C w hl.1 (c_X6_isLine l G C.2.2.1 _ _   _ h) kw_17_11 kw_1_5 kw_17_8 kw_17_9 kw_17_10 hd_X6_isLine ⟨by decide, by decide⟩ (w.recv C (i := 57) (by decide) (pE_6) rfl) rfl (Nat.le_of_ble_eq_true rfl) dX6_winch_15) (fun r8 M9 H locs h w => ?_)
    refine lv_if_ne (tgt := 24) hx hb dX6_winch_18 (by decide) (fun c10 => ?_) (fun c10 => ?_)
    · replace h := h.2 c10
      refine lv_aload_n hx hb dX6_winch_24 rfl (lv_at hl 0 rfl) ?_
      refine lv_aload_n hx hb dX6_winch_25 rfl (lv_at hl 0 rfl) ?_
      refine end_i w (run_V (As := []) C w hl.1 (c_X6_allPieces l G C.2.2.1 _ _   _ h) kw_17_15 kw_1_5 kw_17_12 kw_17_13 kw_17_14 hd_X6_allPieces ⟨by decide, by decide⟩ (w.recv C (i := 57) (by decide) (pE_6) rfl) rfl (Nat.le_of_ble_eq_true rfl) dX6_winch_26) (fun r11 M12 H locs h w => ?_)
      refine end_v w (run_V (As := [.int r11]) C w hl.1 (c_X6_sumsUp l G C.2.2.1 _ _ r11  _ h) kw_17_19 kw_1_5 kw_17_16 kw_17_17 kw_17_18 hd_X6_sumsUp ⟨by decide, by decide⟩ (w.recv C (i := 57) (by decide) (pE_6) rfl) rfl (Nat.le_of_ble_eq_true rfl) dX6_winch_29) (fun M14 H locs h w => ?_)
      refine lv_iconst (v := 0) hx hb dX6_winch_32 (by decide) ?_
      refine lv_istore_n (lv' := [(2, .int (0 : Int32)), (0, .ref (ga G 57)), (1, .int x1)]) hx hb dX6_winch_33 rfl hl (by decide) rfl (fun ls hl => ?_)
      obtain ⟨n, h⟩ := h
      exact t_X6_winch_34 C n M14 x1 (0 : Int32)  w (lv_sub hl [1, 2, 0] rfl) h
    replace h := h.1 c10
    refine lv_bipush (v := -3) hx hb dX6_winch_21 (by decide) ?_
    exact ret_i C w h dX6_winch_23
  replace h := h.1 c7
  refine lv_iconst (v := -1) hx hb dX6_winch_12 (by decide) ?_
  exact ret_i C w h dX6_winch_13
def j_X3_holdsLegs_82 (post : Int32 → Mem → Prop) (M : Mem) : Prop := post (0 : Int32) M
def b_X3_holdsLegs_29 (k29 : Mem → Nat → Int32 → Prop) (post : Int32 → Mem → Prop) (M : Mem) (a0 : Nat) (x1 : Int32) : Prop := ((M a0 3) ≤ x1 → (post (1 : Int32) M)) ∧ (¬ ((M a0 3) ≤ x1) → (vp_in x1 100 ∧ (q_X5_isWithin M (M (8 + a0) x1.toNatClampNeg) (1 : Int32) (99 : Int32) (fun r3 M4 => (r3 = 0 → (j_X3_holdsLegs_82 post M4)) ∧ (¬ (r3 = 0) → (vp_in (x1 + (1 : Int32)) 100 ∧ (q_X4_maySet M4 (0 : Int32) (M4 (8 + a0) (x1 + (1 : Int32)).toNatClampNeg) (fun r7 M8 => (r7 = 0 → (j_X3_holdsLegs_82 post M8)) ∧ (¬ (r7 = 0) → (vp_in (x1 + (2 : Int32)) 100 ∧ (q_X4_maySet M8 (2 : Int32) (M8 (8 + a0) (x1 + (2 : Int32)).toNatClampNeg) (fun r11 M12 => (r11 = 0 → (j_X3_holdsLegs_82 post M12)) ∧ (¬ (r11 = 0) → (k29 M12 a0 (x1 + (3 : Int32))))))))))))))))
def lp_X3_holdsLegs_29 (post : Int32 → Mem → Prop) : Nat → Mem → Nat → Int32 → Prop
  | 0 => fun _ _ _ => False
  | n + 1 => fun M a0 x1 => b_X3_holdsLegs_29 (lp_X3_holdsLegs_29 post n) post M a0 x1
def j_X3_holdsLegs_25 (post : Int32 → Mem → Prop) (M : Mem) : Prop := post (0 : Int32) M
def q_X3_holdsLegs (M : Mem) (a0 : Nat) (post : Int32 → Mem → Prop) : Prop := ((M a0 3) = 0 → (j_X3_holdsLegs_25 post M)) ∧ (¬ ((M a0 3) = 0) → ((((M a0 3) - (M a0 3) / (3 : Int32) * (3 : Int32)) = 0 → (((M a0 3) ≤ (24 : Int32) → (∃ n, lp_X3_holdsLegs_29 post n M a0 (0 : Int32))) ∧ (¬ ((M a0 3) ≤ (24 : Int32)) → (j_X3_holdsLegs_25 post M)))) ∧ (¬ (((M a0 3) - (M a0 3) / (3 : Int32) * (3 : Int32)) = 0) → (j_X3_holdsLegs_25 post M))))
set_option maxHeartbeats 4000000 in
set_option maxRecDepth 100000 in
theorem t_X3_holdsLegs_82 (C : Cx G p s m args meth c RX3 cX3_holdsLegs 2 (some .boolean)) {post : Int32 → Mem → Prop} (M : Mem) {H : Heap} {locs : List Loc} {ls : Array Slot} (w : Wd G s M H locs) (hl : lv_has ls 2 []) (h : j_X3_holdsLegs_82 post M) : W p l e (rmk 3) s m args below meth c H locs 0 0 (MQ below (va_Qi post (Qw G) (Af G s.heap.size)) args s 0 0 (Af G s.heap.size)) (F0 m 82 ls []) := by
  have hx := C.1.1
  have hb := C.1.2.1
  unfold j_X3_holdsLegs_82 at h
  refine lv_iconst (v := 0) hx hb dX3_holdsLegs_82 (by decide) ?_
  exact ret_z C w ⟨Or.inl rfl, h⟩ dX3_holdsLegs_83
set_option maxHeartbeats 4000000 in
set_option maxRecDepth 100000 in
theorem t_X3_holdsLegs_29 (C : Cx G p s m args meth c RX3 cX3_holdsLegs 2 (some .boolean)) {post : Int32 → Mem → Prop} : ∀ (n : Nat) (M : Mem) (a0 : Nat) (x1 : Int32) {H : Heap} {locs : List Loc} {ls : Array Slot} (ha0 : 14 ≤ a0 ∧ a0 < 22) (w : Wd G s M H locs) (hl : lv_has ls 2 [(0, .ref (ga G a0)), (1, .int x1)]) (h : lp_X3_holdsLegs_29 post n M a0 x1), W p l e (rmk 3) s m args below meth c H locs 0 0 (MQ below (va_Qi post (Qw G) (Af G s.heap.size)) args s 0 0 (Af G s.heap.size)) (F0 m 29 ls []) := by
  have hx := C.1.1
  have hb := C.1.2.1
  intro n9
  induction n9 with
  | zero => intro M a0 x1 H locs ls ha0 w hl h; exact absurd h id
  | succ n9 ih9 =>
    intro M a0 x1 H locs ls ha0 w hl h
    have hk29 : ∀ (M : Mem) (a0 : Nat) (x1 : Int32) (H : Heap) (locs : List Loc) (ls : Array Slot), (14 ≤ a0 ∧ a0 < 22) → Wd G s M H locs → lv_has ls 2 [(0, .ref (ga G a0)), (1, .int x1)] → lp_X3_holdsLegs_29 post n9 M a0 x1 → W p l e (rmk 3) s m args below meth c H locs 0 0 (MQ below (va_Qi post (Qw G) (Af G s.heap.size)) args s 0 0 (Af G s.heap.size)) (F0 m 29 ls []) := fun M a0 x1 H locs ls ha0 w hl h => ih9 M a0 x1 ha0 w hl h
    replace h : b_X3_holdsLegs_29 (lp_X3_holdsLegs_29 post n9) post M a0 x1 := h
    unfold b_X3_holdsLegs_29 at h
    refine lv_iload_n hx hb dX3_holdsLegs_29 rfl (lv_at hl 1 rfl) ?_
    refine lv_aload_n hx hb dX3_holdsLegs_30 rfl (lv_at hl 0 rfl) ?_
    refine gt_3_3 C w ha0 kw_4_18 dX3_holdsLegs_31 ?_
    refine lv_icmp_ge (tgt := 90) hx hb dX3_holdsLegs_34 (by decide) (fun c1 => ?_) (fun c1 => ?_)
    · replace h := h.1 c1
      refine lv_iconst (v := 1) hx hb dX3_holdsLegs_90 (by decide) ?_
      exact ret_z C w ⟨Or.inr rfl, h⟩ dX3_holdsLegs_91
    replace h := h.2 c1
    refine lv_aload_n hx hb dX3_holdsLegs_37 rfl (lv_at hl 0 rfl) ?_
    refine gt_3_4 C w ha0 kw_4_19 dX3_holdsLegs_38 ?_
    refine lv_iload_n hx hb dX3_holdsLegs_41 rfl (lv_at hl 1 rfl) ?_
    have hin2 := h.1
    replace h := h.2
    have hz_hin2 := in_lt hin2
    refine pw_ld C w (i := (8 + a0)) (by omega) (pE_el (by omega)) hin2 rfl dX3_holdsLegs_42 ?_
    refine lv_iconst (v := 1) hx hb dX3_holdsLegs_43 (by decide) ?_
    refine lv_bipush (v := 99) hx hb dX3_holdsLegs_44 (by decide) ?_
    refine end_i w (run_SN (As := [.int (M (8 + a0) x1.toNatClampNeg), .int (1 : Int32), .int (99 : Int32)]) C w hl.1 (c_X5_isWithin l G C.2.2.1 _ _ (M (8 + a0) x1.toNatClampNeg) (1 : Int32) (99 : Int32)  _ h) kw_6_8 kw_1_2 kn_75 kw_6_7 hd_X5_isWithin ⟨by decide, by decide⟩ rfl (Nat.le_of_ble_eq_true rfl) dX3_holdsLegs_46) (fun r3 M4 H locs h w => ?_)
    refine lv_if_eq (tgt := 82) hx hb dX3_holdsLegs_49 (by decide) (fun c5 => ?_) (fun c5 => ?_)
    · replace h := h.1 c5
      exact t_X3_holdsLegs_82 C M4   w (lv_sub hl [] rfl) h
    replace h := h.2 c5
    refine lv_iconst (v := 0) hx hb dX3_holdsLegs_52 (by decide) ?_
    refine lv_aload_n hx hb dX3_holdsLegs_53 rfl (lv_at hl 0 rfl) ?_
    refine gt_3_4 C w ha0 kw_4_19 dX3_holdsLegs_54 ?_
    refine lv_iload_n hx hb dX3_holdsLegs_57 rfl (lv_at hl 1 rfl) ?_
    refine lv_iconst (v := 1) hx hb dX3_holdsLegs_58 (by decide) ?_
    refine lv_iadd hx hb dX3_holdsLegs_59 ?_
    have hin6 := h.1
    replace h := h.2
    have hz_hin6 := in_lt hin6
    refine pw_ld C w (i := (8 + a0)) (by omega) (pE_el (by omega)) hin6 rfl dX3_holdsLegs_60 ?_
    refine end_i w (run_SN (As := [.int (0 : Int32), .int (M4 (8 + a0) (x1 + (1 : Int32)).toNatClampNeg)]) C w hl.1 (c_X4_maySet l G C.2.2.1 _ _ (0 : Int32) (M4 (8 + a0) (x1 + (1 : Int32)).toNatClampNeg)  _ h) kw_11_11 kw_1_15 kn_76 kw_11_10 hd_X4_maySet ⟨by decide, by decide⟩ rfl (Nat.le_of_ble_eq_true rfl) dX3_holdsLegs_61) (fun r7 M8 H locs h w => ?_)
    refine lv_if_eq (tgt := 82) hx hb dX3_holdsLegs_64 (by decide) (fun c9 => ?_) (fun c9 => ?_)
    · replace h := h.1 c9
      exact t_X3_holdsLegs_82 C M8   w (lv_sub hl [] rfl) h
    replace h := h.2 c9
    refine lv_iconst (v := 2) hx hb dX3_holdsLegs_67 (by decide) ?_
    refine lv_aload_n hx hb dX3_holdsLegs_68 rfl (lv_at hl 0 rfl) ?_
    refine gt_3_4 C w ha0 kw_4_19 dX3_holdsLegs_69 ?_
    refine lv_iload_n hx hb dX3_holdsLegs_72 rfl (lv_at hl 1 rfl) ?_
    refine lv_iconst (v := 2) hx hb dX3_holdsLegs_73 (by decide) ?_
    refine lv_iadd hx hb dX3_holdsLegs_74 ?_
    have hin10 := h.1
    replace h := h.2
    have hz_hin10 := in_lt hin10
    refine pw_ld C w (i := (8 + a0)) (by omega) (pE_el (by omega)) hin10 rfl dX3_holdsLegs_75 ?_
    refine end_i w (run_SN (As := [.int (2 : Int32), .int (M8 (8 + a0) (x1 + (2 : Int32)).toNatClampNeg)]) C w hl.1 (c_X4_maySet l G C.2.2.1 _ _ (2 : Int32) (M8 (8 + a0) (x1 + (2 : Int32)).toNatClampNeg)  _ h) kw_11_11 kw_1_15 kn_76 kw_11_10 hd_X4_maySet ⟨by decide, by decide⟩ rfl (Nat.le_of_ble_eq_true rfl) dX3_holdsLegs_76) (fun r11 M12 H locs h w => ?_)
    refine lv_if_ne (tgt := 84) hx hb dX3_holdsLegs_79 (by decide) (fun c13 => ?_) (fun c13 => ?_)
    · replace h := h.2 c13
      refine lv_iinc (v := (x1 + (3 : Int32))) (lv' := [(1, .int (x1 + (3 : Int32))), (0, .ref (ga G a0))]) hx hb dX3_holdsLegs_84 hl (k := 1) rfl rfl (by decide) rfl (fun ls hl => ?_)
      refine lv_goto (tgt := 29) hx hb dX3_holdsLegs_87 (by decide) ?_
      exact hk29 M12 a0 (x1 + (3 : Int32)) _ _ _ ha0 w (lv_sub hl [1, 0] rfl) h
    replace h := h.1 c13
    exact t_X3_holdsLegs_82 C M12   w (lv_sub hl [] rfl) h
set_option maxHeartbeats 4000000 in
set_option maxRecDepth 100000 in
theorem t_X3_holdsLegs_25 (C : Cx G p s m args meth c RX3 cX3_holdsLegs 2 (some .boolean)) {post : Int32 → Mem → Prop} (M : Mem) {H : Heap} {locs : List Loc} {ls : Array Slot} (w : Wd G s M H locs) (hl : lv_has ls 2 []) (h : j_X3_holdsLegs_25 post M) : W p l e (rmk 3) s m args below meth c H locs 0 0 (MQ below (va_Qi post (Qw G) (Af G s.heap.size)) args s 0 0 (Af G s.heap.size)) (F0 m 25 ls []) := by
  have hx := C.1.1
  have hb := C.1.2.1
  unfold j_X3_holdsLegs_25 at h
  refine lv_iconst (v := 0) hx hb dX3_holdsLegs_25 (by decide) ?_
  exact ret_z C w ⟨Or.inl rfl, h⟩ dX3_holdsLegs_26
set_option maxHeartbeats 4000000 in
set_option maxRecDepth 100000 in
theorem c_X3_holdsLegs (l : Launch) (G : GG) (hG : Ag G) (sz : Nat) (M : Mem) (a0 : Nat) (ha0 : 14 ≤ a0 ∧ a0 < 22) (post : Int32 → Mem → Prop) (h : q_X3_holdsLegs M a0 post) : Met l yX3_holdsLegs (Cond.code yX3_holdsLegs cX3_holdsLegs 2 (some .boolean) :: wsL_law) (rmk 3) (va_Pc [.ref (ga G a0)] (Pw G sz M)) (va_Qi post (Qw G) (Af G sz)) 0 0 (Af G sz) := by
  refine Met.ofW (cc := cX3_holdsLegs) (maxL := 2) (ret := (some .boolean)) (by decide) rfl ?_
  intro p e s m args below meth c s₁ B hml hv
  obtain ⟨rfl, hsz, hE, hP⟩ := hv
  subst hsz
  have C := Cx.of (own := RX3) hG hE rfl hml B
  have w : Wd G s M s.heap [] := ⟨hP, va_S.rf⟩
  have hl := lv_entry [.ref (ga G a0)] (n := 2) (Nat.le_of_ble_eq_true rfl)
  rw [lg_entry_eq]
  generalize (lg_sl [.ref (ga G a0)] ++ List.replicate (2 - (lg_sl [.ref (ga G a0)]).length) Slot.unset).toArray = ls at hl ⊢
  have hl : lv_has ls 2 [(0, .ref (ga G a0))] := hl
  have hx := C.1.1
  have hb := C.1.2.1
  show W p l e (rmk 3) s m _ below meth c s.heap [] 0 0 _ _
  unfold q_X3_holdsLegs at h
  refine lv_aload_n hx hb dX3_holdsLegs_0 rfl (lv_at hl 0 rfl) ?_
  refine gt_3_3 C w ha0 kw_4_18 dX3_holdsLegs_1 ?_
  refine lv_if_eq (tgt := 25) hx hb dX3_holdsLegs_4 (by decide) (fun c14 => ?_) (fun c14 => ?_)
  · replace h := h.1 c14
    exact t_X3_holdsLegs_25 C M   w (lv_sub hl [] rfl) h
  replace h := h.2 c14
  refine lv_aload_n hx hb dX3_holdsLegs_7 rfl (lv_at hl 0 rfl) ?_
  refine gt_3_3 C w ha0 kw_4_18 dX3_holdsLegs_8 ?_
  refine lv_iconst (v := 3) hx hb dX3_holdsLegs_11 (by decide) ?_
  refine lv_irem hx hb dX3_holdsLegs_12 (by decide) ?_
  refine lv_if_ne (tgt := 25) hx hb dX3_holdsLegs_13 (by decide) (fun c15 => ?_) (fun c15 => ?_)
  · replace h := h.2 c15
    exact t_X3_holdsLegs_25 C M   w (lv_sub hl [] rfl) h
  replace h := h.1 c15
  refine lv_aload_n hx hb dX3_holdsLegs_16 rfl (lv_at hl 0 rfl) ?_
  refine gt_3_3 C w ha0 kw_4_18 dX3_holdsLegs_17 ?_
  refine lv_bipush (v := 24) hx hb dX3_holdsLegs_20 (by decide) ?_
  refine lv_icmp_le (tgt := 27) hx hb dX3_holdsLegs_22 (by decide) (fun c16 => ?_) (fun c16 => ?_)
  · replace h := h.1 c16
    refine lv_iconst (v := 0) hx hb dX3_holdsLegs_27 (by decide) ?_
    refine lv_istore_n (lv' := [(1, .int (0 : Int32)), (0, .ref (ga G a0))]) hx hb dX3_holdsLegs_28 rfl hl (by decide) rfl (fun ls hl => ?_)
    obtain ⟨n, h⟩ := h
    exact t_X3_holdsLegs_29 C n M a0 (0 : Int32) ha0 w (lv_sub hl [1, 0] rfl) h
  replace h := h.2 c16
  exact t_X3_holdsLegs_25 C M   w (lv_sub hl [] rfl) h
def q_X3_legsHeld (M : Mem) (a0 : Nat) (post : Int32 → Mem → Prop) : Prop := post ((M a0 3) / (3 : Int32)) M
set_option maxHeartbeats 4000000 in
set_option maxRecDepth 100000 in
theorem c_X3_legsHeld (l : Launch) (G : GG) (hG : Ag G) (sz : Nat) (M : Mem) (a0 : Nat) (ha0 : 14 ≤ a0 ∧ a0 < 22) (post : Int32 → Mem → Prop) (h : q_X3_legsHeld M a0 post) : Met l yX3_legsHeld (Cond.code yX3_legsHeld cX3_legsHeld 1 (some .int) :: wsL_law) (rmk 1) (va_Pc [.ref (ga G a0)] (Pw G sz M)) (va_Qi post (Qw G) (Af G sz)) 0 0 (Af G sz) := by
  refine Met.ofW (cc := cX3_legsHeld) (maxL := 1) (ret := (some .int)) (by decide) rfl ?_
  intro p e s m args below meth c s₁ B hml hv
  obtain ⟨rfl, hsz, hE, hP⟩ := hv
  subst hsz
  have C := Cx.of (own := RX3) hG hE rfl hml B
  have w : Wd G s M s.heap [] := ⟨hP, va_S.rf⟩
  have hl := lv_entry [.ref (ga G a0)] (n := 1) (Nat.le_of_ble_eq_true rfl)
  rw [lg_entry_eq]
  generalize (lg_sl [.ref (ga G a0)] ++ List.replicate (1 - (lg_sl [.ref (ga G a0)]).length) Slot.unset).toArray = ls at hl ⊢
  have hl : lv_has ls 1 [(0, .ref (ga G a0))] := hl
  have hx := C.1.1
  have hb := C.1.2.1
  show W p l e (rmk 1) s m _ below meth c s.heap [] 0 0 _ _
  unfold q_X3_legsHeld at h
  refine lv_aload_n hx hb dX3_legsHeld_0 rfl (lv_at hl 0 rfl) ?_
  refine gt_3_3 C w ha0 kw_4_18 dX3_legsHeld_1 ?_
  refine lv_iconst (v := 3) hx hb dX3_legsHeld_4 (by decide) ?_
  refine lv_idiv hx hb dX3_legsHeld_5 (by decide) ?_
  exact ret_i C w h dX3_legsHeld_6
def j_X5_greatestOfLegs_57 (k5 : Mem → Nat → Int32 → Int32 → Int32 → Prop) (post : Int32 → Mem → Prop) (M : Mem) (y0 : Int32) (a1 : Nat) (x2 : Int32) (x3 : Int32) (x4 : Int32) : Prop := ∀ M1 : Mem, M1 = (mup M 4 5 y0) → (q_X0_greatestPull M1  (fun r2 M3 => k5 M3 a1 x2 (if x3 < r2 then r2 else x3) (x4 + (1 : Int32))))
def b_X5_greatestOfLegs_5 (k5 : Mem → Nat → Int32 → Int32 → Int32 → Prop) (post : Int32 → Mem → Prop) (M : Mem) (a1 : Nat) (x2 : Int32) (x3 : Int32) (x4 : Int32) : Prop := q_X3_legsHeld M a1 (fun r4 M5 => (r4 ≤ x4 → (post x3 M5)) ∧ (¬ (r4 ≤ x4) → (vp_in (((3 : Int32) * x4) + (1 : Int32)) 100 ∧ (∀ M8 : Mem, M8 = (mup M5 4 3 (M5 (8 + a1) (((3 : Int32) * x4) + (1 : Int32)).toNatClampNeg)) → ((x4 = x2 → (j_X5_greatestOfLegs_57 k5 post M8 (0 : Int32) a1 x2 x3 x4)) ∧ (¬ (x4 = x2) → (vp_in (((3 : Int32) * x4) + (2 : Int32)) 100 ∧ (j_X5_greatestOfLegs_57 k5 post M8 (M8 (8 + a1) (((3 : Int32) * x4) + (2 : Int32)).toNatClampNeg) a1 x2 x3 x4))))))))
def lp_X5_greatestOfLegs_5 (post : Int32 → Mem → Prop) : Nat → Mem → Nat → Int32 → Int32 → Int32 → Prop
  | 0 => fun _ _ _ _ _ => False
  | n + 1 => fun M a1 x2 x3 x4 => b_X5_greatestOfLegs_5 (lp_X5_greatestOfLegs_5 post n) post M a1 x2 x3 x4
def q_X5_greatestOfLegs (M : Mem) (a1 : Nat) (x2 : Int32) (post : Int32 → Mem → Prop) : Prop := ∃ n, lp_X5_greatestOfLegs_5 post n M a1 x2 (0 : Int32) (0 : Int32)
set_option maxHeartbeats 4000000 in
set_option maxRecDepth 100000 in
theorem t_X5_greatestOfLegs_57 (C : Cx G p s m args meth c RX5 cX5_greatestOfLegs 5 (some .int)) {post : Int32 → Mem → Prop} {k5 : Mem → Nat → Int32 → Int32 → Int32 → Prop} (hk5 : ∀ (M : Mem) (a1 : Nat) (x2 : Int32) (x3 : Int32) (x4 : Int32) (H : Heap) (locs : List Loc) (ls : Array Slot), (14 ≤ a1 ∧ a1 < 22) → Wd G s M H locs → lv_has ls 5 [(0, .ref (ga G 0)), (1, .ref (ga G a1)), (2, .int x2), (3, .int x3), (4, .int x4)] → k5 M a1 x2 x3 x4 → W p l e (rmk 5) s m args below meth c H locs 0 0 (MQ below (va_Qi post (Qw G) (Af G s.heap.size)) args s 0 0 (Af G s.heap.size)) (F0 m 5 ls [])) (M : Mem) (y0 : Int32) (a1 : Nat) (x2 : Int32) (x3 : Int32) (x4 : Int32) {H : Heap} {locs : List Loc} {ls : Array Slot} (ha1 : 14 ≤ a1 ∧ a1 < 22) (w : Wd G s M H locs) (hl : lv_has ls 5 [(0, .ref (ga G 0)), (1, .ref (ga G a1)), (2, .int x2), (3, .int x3), (4, .int x4)]) (h : j_X5_greatestOfLegs_57 k5 post M y0 a1 x2 x3 x4) : W p l e (rmk 5) s m args below meth c H locs 0 0 (MQ below (va_Qi post (Qw G) (Af G s.heap.size)) args s 0 0 (Af G s.heap.size)) (F0 m 57 ls [.int y0, .ref (ga G 4)]) := by
  have hx := C.1.1
  have hb := C.1.2.1
  unfold j_X5_greatestOfLegs_57 at h
  refine pn_0_5 C w kn_28 dX5_greatestOfLegs_57 (fun H locs w => ?_)
  obtain ⟨M1, eM1⟩ : ∃ z : Mem, z = (mup M 4 5 y0) := ⟨_, rfl⟩
  replace w : Wd G s M1 H locs := by rw [eM1]; exact w
  replace h := h M1 eM1
  refine lv_iload_n hx hb dX5_greatestOfLegs_60 rfl (lv_at hl 3 rfl) ?_
  refine lv_aload_n hx hb dX5_greatestOfLegs_61 rfl (lv_at hl 0 rfl) ?_
  refine gt_5_3 C w kw_1_22 dX5_greatestOfLegs_62 ?_
  refine end_i w (run_VN (As := []) C w hl.1 (c_X0_greatestPull l G C.2.2.1 _ _   _ h) kw_22_14 kw_1_21 kn_68 kw_22_12 kw_22_13 hd_X0_greatestPull ⟨by decide, by decide⟩ (w.recv C (i := 4) (by decide) (pE_0) rfl) rfl (Nat.le_of_ble_eq_true rfl) dX5_greatestOfLegs_65) (fun r2 M3 H locs h w => ?_)
  refine va_mmax hx hb (C.ml hl) C.1.2.2.2.1 (C.ws kw_26_22) (C.ws kw_16_11) (C.ws kw_16_12) (C.ws kw_16_13) (Nat.le_of_ble_eq_true rfl) (Nat.le_of_ble_eq_true rfl) (Nat.le_refl 0) (Nat.le_refl 0) dX5_greatestOfLegs_68 ?_
  refine lv_istore_n (lv' := [(3, .int (if x3 < r2 then r2 else x3)), (0, .ref (ga G 0)), (1, .ref (ga G a1)), (2, .int x2), (4, .int x4)]) hx hb dX5_greatestOfLegs_71 rfl hl (by decide) rfl (fun ls hl => ?_)
  refine lv_iinc (v := (x4 + (1 : Int32))) (lv' := [(4, .int (x4 + (1 : Int32))), (3, .int (if x3 < r2 then r2 else x3)), (0, .ref (ga G 0)), (1, .ref (ga G a1)), (2, .int x2)]) hx hb dX5_greatestOfLegs_72 hl (k := 4) rfl rfl (by decide) rfl (fun ls hl => ?_)
  refine lv_goto (tgt := 5) hx hb dX5_greatestOfLegs_75 (by decide) ?_
  exact hk5 M3 a1 x2 (if x3 < r2 then r2 else x3) (x4 + (1 : Int32)) _ _ _ ha1 w (lv_sub hl [2, 3, 4, 1, 0] rfl) h
set_option maxHeartbeats 4000000 in
set_option maxRecDepth 100000 in
theorem t_X5_greatestOfLegs_5 (C : Cx G p s m args meth c RX5 cX5_greatestOfLegs 5 (some .int)) {post : Int32 → Mem → Prop} : ∀ (n : Nat) (M : Mem) (a1 : Nat) (x2 : Int32) (x3 : Int32) (x4 : Int32) {H : Heap} {locs : List Loc} {ls : Array Slot} (ha1 : 14 ≤ a1 ∧ a1 < 22) (w : Wd G s M H locs) (hl : lv_has ls 5 [(0, .ref (ga G 0)), (1, .ref (ga G a1)), (2, .int x2), (3, .int x3), (4, .int x4)]) (h : lp_X5_greatestOfLegs_5 post n M a1 x2 x3 x4), W p l e (rmk 5) s m args below meth c H locs 0 0 (MQ below (va_Qi post (Qw G) (Af G s.heap.size)) args s 0 0 (Af G s.heap.size)) (F0 m 5 ls []) := by
  have hx := C.1.1
  have hb := C.1.2.1
  intro n9
  induction n9 with
  | zero => intro M a1 x2 x3 x4 H locs ls ha1 w hl h; exact absurd h id
  | succ n9 ih9 =>
    intro M a1 x2 x3 x4 H locs ls ha1 w hl h
    have hk5 : ∀ (M : Mem) (a1 : Nat) (x2 : Int32) (x3 : Int32) (x4 : Int32) (H : Heap) (locs : List Loc) (ls : Array Slot), (14 ≤ a1 ∧ a1 < 22) → Wd G s M H locs → lv_has ls 5 [(0, .ref (ga G 0)), (1, .ref (ga G a1)), (2, .int x2), (3, .int x3), (4, .int x4)] → lp_X5_greatestOfLegs_5 post n9 M a1 x2 x3 x4 → W p l e (rmk 5) s m args below meth c H locs 0 0 (MQ below (va_Qi post (Qw G) (Af G s.heap.size)) args s 0 0 (Af G s.heap.size)) (F0 m 5 ls []) := fun M a1 x2 x3 x4 H locs ls ha1 w hl h => ih9 M a1 x2 x3 x4 ha1 w hl h
    replace h : b_X5_greatestOfLegs_5 (lp_X5_greatestOfLegs_5 post n9) post M a1 x2 x3 x4 := h
    unfold b_X5_greatestOfLegs_5 at h
    refine lv_iload hx hb dX5_greatestOfLegs_5 (lv_at hl 4 rfl) ?_
    refine lv_aload_n hx hb dX5_greatestOfLegs_7 rfl (lv_at hl 1 rfl) ?_
    refine end_i w (run_VN (As := []) C w hl.1 (c_X3_legsHeld l G C.2.2.1 _ _ a1 ha1 _ h) kw_32_14 kw_2_11 kn_77 kw_32_12 kw_32_13 hd_X3_legsHeld ⟨by decide, by decide⟩ (w.recv C (i := a1) (by omega) (pE_3 ha1) rfl) rfl (Nat.le_of_ble_eq_true rfl) dX5_greatestOfLegs_8) (fun r4 M5 H locs h w => ?_)
    refine lv_icmp_ge (tgt := 78) hx hb dX5_greatestOfLegs_11 (by decide) (fun c6 => ?_) (fun c6 => ?_)
    · replace h := h.1 c6
      refine lv_iload_n hx hb dX5_greatestOfLegs_78 rfl (lv_at hl 3 rfl) ?_
      exact ret_i C w h dX5_greatestOfLegs_79
    replace h := h.2 c6
    refine lv_aload_n hx hb dX5_greatestOfLegs_14 rfl (lv_at hl 0 rfl) ?_
    refine gt_5_3 C w kw_1_22 dX5_greatestOfLegs_15 ?_
    refine lv_aload_n hx hb dX5_greatestOfLegs_18 rfl (lv_at hl 1 rfl) ?_
    refine gn_3_4 C w ha1 kn_34 dX5_greatestOfLegs_19 ?_
    refine lv_iconst (v := 3) hx hb dX5_greatestOfLegs_22 (by decide) ?_
    refine lv_iload hx hb dX5_greatestOfLegs_23 (lv_at hl 4 rfl) ?_
    refine lv_imul hx hb dX5_greatestOfLegs_25 ?_
    refine lv_iconst (v := 1) hx hb dX5_greatestOfLegs_26 (by decide) ?_
    refine lv_iadd hx hb dX5_greatestOfLegs_27 ?_
    have hin7 := h.1
    replace h := h.2
    have hz_hin7 := in_lt hin7
    refine pw_ld C w (i := (8 + a1)) (by omega) (pE_el (by omega)) hin7 rfl dX5_greatestOfLegs_28 ?_
    refine pn_0_3 C w kn_26 dX5_greatestOfLegs_29 (fun H locs w => ?_)
    obtain ⟨M8, eM8⟩ : ∃ z : Mem, z = (mup M5 4 3 (M5 (8 + a1) (((3 : Int32) * x4) + (1 : Int32)).toNatClampNeg)) := ⟨_, rfl⟩
    replace w : Wd G s M8 H locs := by rw [eM8]; exact w
    replace h := h M8 eM8
    refine lv_aload_n hx hb dX5_greatestOfLegs_32 rfl (lv_at hl 0 rfl) ?_
    refine gt_5_3 C w kw_1_22 dX5_greatestOfLegs_33 ?_
    refine lv_iload hx hb dX5_greatestOfLegs_36 (lv_at hl 4 rfl) ?_
    refine lv_iload_n hx hb dX5_greatestOfLegs_38 rfl (lv_at hl 2 rfl) ?_
    refine lv_icmp_ne (tgt := 46) hx hb dX5_greatestOfLegs_39 (by decide) (fun c9 => ?_) (fun c9 => ?_)
    · replace h := h.2 c9
      refine lv_aload_n hx hb dX5_greatestOfLegs_46 rfl (lv_at hl 1 rfl) ?_
      refine gn_3_4 C w ha1 kn_34 dX5_greatestOfLegs_47 ?_
      refine lv_iconst (v := 3) hx hb dX5_greatestOfLegs_50 (by decide) ?_
      refine lv_iload hx hb dX5_greatestOfLegs_51 (lv_at hl 4 rfl) ?_
      refine lv_imul hx hb dX5_greatestOfLegs_53 ?_
      refine lv_iconst (v := 2) hx hb dX5_greatestOfLegs_54 (by decide) ?_
      refine lv_iadd hx hb dX5_greatestOfLegs_55 ?_
      have hin10 := h.1
      replace h := h.2
      have hz_hin10 := in_lt hin10
      refine pw_ld C w (i := (8 + a1)) (by omega) (pE_el (by omega)) hin10 rfl dX5_greatestOfLegs_56 ?_
      exact t_X5_greatestOfLegs_57 C hk5 M8 (M8 (8 + a1) (((3 : Int32) * x4) + (2 : Int32)).toNatClampNeg) a1 x2 x3 x4 ha1 w (lv_sub hl [0, 1, 2, 3, 4] rfl) h
    replace h := h.1 c9
    refine lv_iconst (v := 0) hx hb dX5_greatestOfLegs_42 (by decide) ?_
    refine lv_goto (tgt := 57) hx hb dX5_greatestOfLegs_43 (by decide) ?_
    exact t_X5_greatestOfLegs_57 C hk5 M8 (0 : Int32) a1 x2 x3 x4 ha1 w (lv_sub hl [0, 1, 2, 3, 4] rfl) h
set_option maxHeartbeats 4000000 in
set_option maxRecDepth 100000 in
theorem c_X5_greatestOfLegs (l : Launch) (G : GG) (hG : Ag G) (sz : Nat) (M : Mem) (a1 : Nat) (x2 : Int32) (ha1 : 14 ≤ a1 ∧ a1 < 22) (post : Int32 → Mem → Prop) (h : q_X5_greatestOfLegs M a1 x2 post) : Met l yX5_greatestOfLegs (Cond.code yX5_greatestOfLegs cX5_greatestOfLegs 5 (some .int) :: wsL_law) (rmk 5) (va_Pc [.ref (ga G 0), .ref (ga G a1), .int x2] (Pw G sz M)) (va_Qi post (Qw G) (Af G sz)) 0 0 (Af G sz) := by
  refine Met.ofW (cc := cX5_greatestOfLegs) (maxL := 5) (ret := (some .int)) (by decide) rfl ?_
  intro p e s m args below meth c s₁ B hml hv
  obtain ⟨rfl, hsz, hE, hP⟩ := hv
  subst hsz
  have C := Cx.of (own := RX5) hG hE rfl hml B
  have w : Wd G s M s.heap [] := ⟨hP, va_S.rf⟩
  have hl := lv_entry [.ref (ga G 0), .ref (ga G a1), .int x2] (n := 5) (Nat.le_of_ble_eq_true rfl)
  rw [lg_entry_eq]
  generalize (lg_sl [.ref (ga G 0), .ref (ga G a1), .int x2] ++ List.replicate (5 - (lg_sl [.ref (ga G 0), .ref (ga G a1), .int x2]).length) Slot.unset).toArray = ls at hl ⊢
  have hl : lv_has ls 5 [(0, .ref (ga G 0)), (1, .ref (ga G a1)), (2, .int x2)] := hl
  have hx := C.1.1
  have hb := C.1.2.1
  show W p l e (rmk 5) s m _ below meth c s.heap [] 0 0 _ _
  unfold q_X5_greatestOfLegs at h
  refine lv_iconst (v := 0) hx hb dX5_greatestOfLegs_0 (by decide) ?_
  refine lv_istore_n (lv' := [(3, .int (0 : Int32)), (0, .ref (ga G 0)), (1, .ref (ga G a1)), (2, .int x2)]) hx hb dX5_greatestOfLegs_1 rfl hl (by decide) rfl (fun ls hl => ?_)
  refine lv_iconst (v := 0) hx hb dX5_greatestOfLegs_2 (by decide) ?_
  refine lv_istore (lv' := [(4, .int (0 : Int32)), (3, .int (0 : Int32)), (0, .ref (ga G 0)), (1, .ref (ga G a1)), (2, .int x2)]) hx hb dX5_greatestOfLegs_3 hl (by decide) rfl (fun ls hl => ?_)
  obtain ⟨n, h⟩ := h
  exact t_X5_greatestOfLegs_5 C n M a1 x2 (0 : Int32) (0 : Int32) ha1 w (lv_sub hl [2, 3, 4, 1, 0] rfl) h
def b_X5_hoursOfLegs_4 (k4 : Mem → Nat → Int32 → Int32 → Prop) (post : Int32 → Mem → Prop) (M : Mem) (a0 : Nat) (x1 : Int32) (x2 : Int32) : Prop := q_X3_legsHeld M a0 (fun r1 M2 => (r1 ≤ x2 → (post x1 M2)) ∧ (¬ (r1 ≤ x2) → (vp_in ((3 : Int32) * x2) 100 ∧ (∀ v5 : Int32, v5 = (x1 + (M2 (8 + a0) ((3 : Int32) * x2).toNatClampNeg)) → (k4 M2 a0 v5 (x2 + (1 : Int32)))))))
def lp_X5_hoursOfLegs_4 (post : Int32 → Mem → Prop) : Nat → Mem → Nat → Int32 → Int32 → Prop
  | 0 => fun _ _ _ _ => False
  | n + 1 => fun M a0 x1 x2 => b_X5_hoursOfLegs_4 (lp_X5_hoursOfLegs_4 post n) post M a0 x1 x2
def q_X5_hoursOfLegs (M : Mem) (a0 : Nat) (post : Int32 → Mem → Prop) : Prop := ∃ n, lp_X5_hoursOfLegs_4 post n M a0 (0 : Int32) (0 : Int32)
set_option maxHeartbeats 4000000 in
set_option maxRecDepth 100000 in
theorem t_X5_hoursOfLegs_4 (C : Cx G p s m args meth c RX5 cX5_hoursOfLegs 3 (some .int)) {post : Int32 → Mem → Prop} : ∀ (n : Nat) (M : Mem) (a0 : Nat) (x1 : Int32) (x2 : Int32) {H : Heap} {locs : List Loc} {ls : Array Slot} (ha0 : 14 ≤ a0 ∧ a0 < 22) (w : Wd G s M H locs) (hl : lv_has ls 3 [(0, .ref (ga G a0)), (1, .int x1), (2, .int x2)]) (h : lp_X5_hoursOfLegs_4 post n M a0 x1 x2), W p l e (rmk 2) s m args below meth c H locs 0 0 (MQ below (va_Qi post (Qw G) (Af G s.heap.size)) args s 0 0 (Af G s.heap.size)) (F0 m 4 ls []) := by
  have hx := C.1.1
  have hb := C.1.2.1
  intro n9
  induction n9 with
  | zero => intro M a0 x1 x2 H locs ls ha0 w hl h; exact absurd h id
  | succ n9 ih9 =>
    intro M a0 x1 x2 H locs ls ha0 w hl h
    have hk4 : ∀ (M : Mem) (a0 : Nat) (x1 : Int32) (x2 : Int32) (H : Heap) (locs : List Loc) (ls : Array Slot), (14 ≤ a0 ∧ a0 < 22) → Wd G s M H locs → lv_has ls 3 [(0, .ref (ga G a0)), (1, .int x1), (2, .int x2)] → lp_X5_hoursOfLegs_4 post n9 M a0 x1 x2 → W p l e (rmk 2) s m args below meth c H locs 0 0 (MQ below (va_Qi post (Qw G) (Af G s.heap.size)) args s 0 0 (Af G s.heap.size)) (F0 m 4 ls []) := fun M a0 x1 x2 H locs ls ha0 w hl h => ih9 M a0 x1 x2 ha0 w hl h
    replace h : b_X5_hoursOfLegs_4 (lp_X5_hoursOfLegs_4 post n9) post M a0 x1 x2 := h
    unfold b_X5_hoursOfLegs_4 at h
    refine lv_iload_n hx hb dX5_hoursOfLegs_4 rfl (lv_at hl 2 rfl) ?_
    refine lv_aload_n hx hb dX5_hoursOfLegs_5 rfl (lv_at hl 0 rfl) ?_
    refine end_i w (run_VN (As := []) C w hl.1 (c_X3_legsHeld l G C.2.2.1 _ _ a0 ha0 _ h) kw_32_14 kw_2_11 kn_77 kw_32_12 kw_32_13 hd_X3_legsHeld ⟨by decide, by decide⟩ (w.recv C (i := a0) (by omega) (pE_3 ha0) rfl) rfl (Nat.le_of_ble_eq_true rfl) dX5_hoursOfLegs_6) (fun r1 M2 H locs h w => ?_)
    refine lv_icmp_ge (tgt := 29) hx hb dX5_hoursOfLegs_9 (by decide) (fun c3 => ?_) (fun c3 => ?_)
    · replace h := h.1 c3
      refine lv_iload_n hx hb dX5_hoursOfLegs_29 rfl (lv_at hl 1 rfl) ?_
      exact ret_i C w h dX5_hoursOfLegs_30
    replace h := h.2 c3
    refine lv_iload_n hx hb dX5_hoursOfLegs_12 rfl (lv_at hl 1 rfl) ?_
    refine lv_aload_n hx hb dX5_hoursOfLegs_13 rfl (lv_at hl 0 rfl) ?_
    refine gn_3_4 C w ha0 kn_34 dX5_hoursOfLegs_14 ?_
    refine lv_iconst (v := 3) hx hb dX5_hoursOfLegs_17 (by decide) ?_
    refine lv_iload_n hx hb dX5_hoursOfLegs_18 rfl (lv_at hl 2 rfl) ?_
    refine lv_imul hx hb dX5_hoursOfLegs_19 ?_
    have hin4 := h.1
    replace h := h.2
    have hz_hin4 := in_lt hin4
    refine pw_ld C w (i := (8 + a0)) (by omega) (pE_el (by omega)) hin4 rfl dX5_hoursOfLegs_20 ?_
    refine lv_iadd hx hb dX5_hoursOfLegs_21 ?_
    refine lv_topi (fun v5 ev5 => ?_)
    replace h := h v5 ev5
    refine lv_istore_n (lv' := [(1, .int v5), (0, .ref (ga G a0)), (2, .int x2)]) hx hb dX5_hoursOfLegs_22 rfl hl (by decide) rfl (fun ls hl => ?_)
    refine lv_iinc (v := (x2 + (1 : Int32))) (lv' := [(2, .int (x2 + (1 : Int32))), (1, .int v5), (0, .ref (ga G a0))]) hx hb dX5_hoursOfLegs_23 hl (k := 2) rfl rfl (by decide) rfl (fun ls hl => ?_)
    refine lv_goto (tgt := 4) hx hb dX5_hoursOfLegs_26 (by decide) ?_
    exact hk4 M2 a0 v5 (x2 + (1 : Int32)) _ _ _ ha0 w (lv_sub hl [2, 1, 0] rfl) h
set_option maxHeartbeats 4000000 in
set_option maxRecDepth 100000 in
theorem c_X5_hoursOfLegs (l : Launch) (G : GG) (hG : Ag G) (sz : Nat) (M : Mem) (a0 : Nat) (ha0 : 14 ≤ a0 ∧ a0 < 22) (post : Int32 → Mem → Prop) (h : q_X5_hoursOfLegs M a0 post) : Met l yX5_hoursOfLegs (Cond.code yX5_hoursOfLegs cX5_hoursOfLegs 3 (some .int) :: wsL_law) (rmk 2) (va_Pc [.ref (ga G a0)] (Pw G sz M)) (va_Qi post (Qw G) (Af G sz)) 0 0 (Af G sz) := by
  refine Met.ofW (cc := cX5_hoursOfLegs) (maxL := 3) (ret := (some .int)) (by decide) rfl ?_
  intro p e s m args below meth c s₁ B hml hv
  obtain ⟨rfl, hsz, hE, hP⟩ := hv
  subst hsz
  have C := Cx.of (own := RX5) hG hE rfl hml B
  have w : Wd G s M s.heap [] := ⟨hP, va_S.rf⟩
  have hl := lv_entry [.ref (ga G a0)] (n := 3) (Nat.le_of_ble_eq_true rfl)
  rw [lg_entry_eq]
  generalize (lg_sl [.ref (ga G a0)] ++ List.replicate (3 - (lg_sl [.ref (ga G a0)]).length) Slot.unset).toArray = ls at hl ⊢
  have hl : lv_has ls 3 [(0, .ref (ga G a0))] := hl
  have hx := C.1.1
  have hb := C.1.2.1
  show W p l e (rmk 2) s m _ below meth c s.heap [] 0 0 _ _
  unfold q_X5_hoursOfLegs at h
  refine lv_iconst (v := 0) hx hb dX5_hoursOfLegs_0 (by decide) ?_
  refine lv_istore_n (lv' := [(1, .int (0 : Int32)), (0, .ref (ga G a0))]) hx hb dX5_hoursOfLegs_1 rfl hl (by decide) rfl (fun ls hl => ?_)
  refine lv_iconst (v := 0) hx hb dX5_hoursOfLegs_2 (by decide) ?_
  refine lv_istore_n (lv' := [(2, .int (0 : Int32)), (1, .int (0 : Int32)), (0, .ref (ga G a0))]) hx hb dX5_hoursOfLegs_3 rfl hl (by decide) rfl (fun ls hl => ?_)
  obtain ⟨n, h⟩ := h
  exact t_X5_hoursOfLegs_4 C n M a0 (0 : Int32) (0 : Int32) ha0 w (lv_sub hl [2, 1, 0] rfl) h
def j_X5_legToSlow_42 (k12 : Mem → Nat → Int32 → Int32 → Int32 → Prop) (post : Int32 → Mem → Prop) (M : Mem) (a1 : Nat) (x2 : Int32) (x3 : Int32) (x4 : Int32) : Prop := k12 M a1 x2 x3 (x4 + (1 : Int32))
def b_X5_legToSlow_12 (k12 : Mem → Nat → Int32 → Int32 → Int32 → Prop) (post : Int32 → Mem → Prop) (M : Mem) (a1 : Nat) (x2 : Int32) (x3 : Int32) (x4 : Int32) : Prop := q_X3_legsHeld M a1 (fun r1 M2 => (r1 ≤ x4 → (post x2 M2)) ∧ (¬ (r1 ≤ x4) → (q_X5_greatestOfLegs M2 a1 x4 (fun r4 M5 => (x3 ≤ r4 → (j_X5_legToSlow_42 k12 post M5 a1 x2 x3 x4)) ∧ (¬ (x3 ≤ r4) → (j_X5_legToSlow_42 k12 post M5 a1 x4 r4 x4))))))
def lp_X5_legToSlow_12 (post : Int32 → Mem → Prop) : Nat → Mem → Nat → Int32 → Int32 → Int32 → Prop
  | 0 => fun _ _ _ _ _ => False
  | n + 1 => fun M a1 x2 x3 x4 => b_X5_legToSlow_12 (lp_X5_legToSlow_12 post n) post M a1 x2 x3 x4
def q_X5_legToSlow (M : Mem) (a1 : Nat) (post : Int32 → Mem → Prop) : Prop := q_X5_greatestOfLegs M a1 (0 : Int32) (fun r7 M8 => ∃ n, lp_X5_legToSlow_12 post n M8 a1 (0 : Int32) r7 (1 : Int32))
set_option maxHeartbeats 4000000 in
set_option maxRecDepth 100000 in
theorem t_X5_legToSlow_42 (C : Cx G p s m args meth c RX5 cX5_legToSlow 6 (some .int)) {post : Int32 → Mem → Prop} {k12 : Mem → Nat → Int32 → Int32 → Int32 → Prop} (hk12 : ∀ (M : Mem) (a1 : Nat) (x2 : Int32) (x3 : Int32) (x4 : Int32) (H : Heap) (locs : List Loc) (ls : Array Slot), (14 ≤ a1 ∧ a1 < 22) → Wd G s M H locs → lv_has ls 6 [(0, .ref (ga G 0)), (1, .ref (ga G a1)), (2, .int x2), (3, .int x3), (4, .int x4)] → k12 M a1 x2 x3 x4 → W p l e (rmk 6) s m args below meth c H locs 0 0 (MQ below (va_Qi post (Qw G) (Af G s.heap.size)) args s 0 0 (Af G s.heap.size)) (F0 m 12 ls [])) (M : Mem) (a1 : Nat) (x2 : Int32) (x3 : Int32) (x4 : Int32) {H : Heap} {locs : List Loc} {ls : Array Slot} (ha1 : 14 ≤ a1 ∧ a1 < 22) (w : Wd G s M H locs) (hl : lv_has ls 6 [(0, .ref (ga G 0)), (1, .ref (ga G a1)), (2, .int x2), (3, .int x3), (4, .int x4)]) (h : j_X5_legToSlow_42 k12 post M a1 x2 x3 x4) : W p l e (rmk 6) s m args below meth c H locs 0 0 (MQ below (va_Qi post (Qw G) (Af G s.heap.size)) args s 0 0 (Af G s.heap.size)) (F0 m 42 ls []) := by
  have hx := C.1.1
  have hb := C.1.2.1
  unfold j_X5_legToSlow_42 at h
  refine lv_iinc (v := (x4 + (1 : Int32))) (lv' := [(4, .int (x4 + (1 : Int32))), (0, .ref (ga G 0)), (1, .ref (ga G a1)), (2, .int x2), (3, .int x3)]) hx hb dX5_legToSlow_42 hl (k := 4) rfl rfl (by decide) rfl (fun ls hl => ?_)
  refine lv_goto (tgt := 12) hx hb dX5_legToSlow_45 (by decide) ?_
  exact hk12 M a1 x2 x3 (x4 + (1 : Int32)) _ _ _ ha1 w (lv_sub hl [1, 2, 3, 4, 0] rfl) h
set_option maxHeartbeats 4000000 in
set_option maxRecDepth 100000 in
theorem t_X5_legToSlow_12 (C : Cx G p s m args meth c RX5 cX5_legToSlow 6 (some .int)) {post : Int32 → Mem → Prop} : ∀ (n : Nat) (M : Mem) (a1 : Nat) (x2 : Int32) (x3 : Int32) (x4 : Int32) {H : Heap} {locs : List Loc} {ls : Array Slot} (ha1 : 14 ≤ a1 ∧ a1 < 22) (w : Wd G s M H locs) (hl : lv_has ls 6 [(0, .ref (ga G 0)), (1, .ref (ga G a1)), (2, .int x2), (3, .int x3), (4, .int x4)]) (h : lp_X5_legToSlow_12 post n M a1 x2 x3 x4), W p l e (rmk 6) s m args below meth c H locs 0 0 (MQ below (va_Qi post (Qw G) (Af G s.heap.size)) args s 0 0 (Af G s.heap.size)) (F0 m 12 ls []) := by
  have hx := C.1.1
  have hb := C.1.2.1
  intro n9
  induction n9 with
  | zero => intro M a1 x2 x3 x4 H locs ls ha1 w hl h; exact absurd h id
  | succ n9 ih9 =>
    intro M a1 x2 x3 x4 H locs ls ha1 w hl h
    have hk12 : ∀ (M : Mem) (a1 : Nat) (x2 : Int32) (x3 : Int32) (x4 : Int32) (H : Heap) (locs : List Loc) (ls : Array Slot), (14 ≤ a1 ∧ a1 < 22) → Wd G s M H locs → lv_has ls 6 [(0, .ref (ga G 0)), (1, .ref (ga G a1)), (2, .int x2), (3, .int x3), (4, .int x4)] → lp_X5_legToSlow_12 post n9 M a1 x2 x3 x4 → W p l e (rmk 6) s m args below meth c H locs 0 0 (MQ below (va_Qi post (Qw G) (Af G s.heap.size)) args s 0 0 (Af G s.heap.size)) (F0 m 12 ls []) := fun M a1 x2 x3 x4 H locs ls ha1 w hl h => ih9 M a1 x2 x3 x4 ha1 w hl h
    replace h : b_X5_legToSlow_12 (lp_X5_legToSlow_12 post n9) post M a1 x2 x3 x4 := h
    unfold b_X5_legToSlow_12 at h
    refine lv_iload hx hb dX5_legToSlow_12 (lv_at hl 4 rfl) ?_
    refine lv_aload_n hx hb dX5_legToSlow_14 rfl (lv_at hl 1 rfl) ?_
    refine end_i w (run_VN (As := []) C w hl.1 (c_X3_legsHeld l G C.2.2.1 _ _ a1 ha1 _ h) kw_32_14 kw_2_11 kn_77 kw_32_12 kw_32_13 hd_X3_legsHeld ⟨by decide, by decide⟩ (w.recv C (i := a1) (by omega) (pE_3 ha1) rfl) rfl (Nat.le_of_ble_eq_true rfl) dX5_legToSlow_15) (fun r1 M2 H locs h w => ?_)
    refine lv_icmp_ge (tgt := 48) hx hb dX5_legToSlow_18 (by decide) (fun c3 => ?_) (fun c3 => ?_)
    · replace h := h.1 c3
      refine lv_iload_n hx hb dX5_legToSlow_48 rfl (lv_at hl 2 rfl) ?_
      exact ret_i C w h dX5_legToSlow_49
    replace h := h.2 c3
    refine lv_aload_n hx hb dX5_legToSlow_21 rfl (lv_at hl 0 rfl) ?_
    refine lv_aload_n hx hb dX5_legToSlow_22 rfl (lv_at hl 1 rfl) ?_
    refine lv_iload hx hb dX5_legToSlow_23 (lv_at hl 4 rfl) ?_
    refine end_i w (run_V (As := [.ref (ga G a1), .int x4]) C w hl.1 (c_X5_greatestOfLegs l G C.2.2.1 _ _ a1 x4 ha1 _ h) kw_32_11 kw_1_2 kw_32_8 kw_32_9 kw_32_10 hd_X5_greatestOfLegs ⟨by decide, by decide⟩ (w.recv C (i := 0) (by decide) (pE_5) rfl) rfl (Nat.le_of_ble_eq_true rfl) dX5_legToSlow_25) (fun r4 M5 H locs h w => ?_)
    refine lv_istore (lv' := [(5, .int r4), (0, .ref (ga G 0)), (1, .ref (ga G a1)), (2, .int x2), (3, .int x3), (4, .int x4)]) hx hb dX5_legToSlow_28 hl (by decide) rfl (fun ls hl => ?_)
    refine lv_iload hx hb dX5_legToSlow_30 (lv_at hl 0 rfl) ?_
    refine lv_iload_n hx hb dX5_legToSlow_32 rfl (lv_at hl 4 rfl) ?_
    refine lv_icmp_ge (tgt := 42) hx hb dX5_legToSlow_33 (by decide) (fun c6 => ?_) (fun c6 => ?_)
    · replace h := h.1 c6
      exact t_X5_legToSlow_42 C hk12 M5 a1 x2 x3 x4 ha1 w (lv_sub hl [1, 2, 3, 4, 5] rfl) h
    replace h := h.2 c6
    refine lv_iload hx hb dX5_legToSlow_36 (lv_at hl 5 rfl) ?_
    refine lv_istore_n (lv' := [(2, .int x4), (5, .int r4), (0, .ref (ga G 0)), (1, .ref (ga G a1)), (3, .int x3), (4, .int x4)]) hx hb dX5_legToSlow_38 rfl hl (by decide) rfl (fun ls hl => ?_)
    refine lv_iload hx hb dX5_legToSlow_39 (lv_at hl 1 rfl) ?_
    refine lv_istore_n (lv' := [(3, .int r4), (2, .int x4), (5, .int r4), (0, .ref (ga G 0)), (1, .ref (ga G a1)), (4, .int x4)]) hx hb dX5_legToSlow_41 rfl hl (by decide) rfl (fun ls hl => ?_)
    exact t_X5_legToSlow_42 C hk12 M5 a1 x4 r4 x4 ha1 w (lv_sub hl [3, 4, 1, 0, 5] rfl) h
set_option maxHeartbeats 4000000 in
set_option maxRecDepth 100000 in
theorem c_X5_legToSlow (l : Launch) (G : GG) (hG : Ag G) (sz : Nat) (M : Mem) (a1 : Nat) (ha1 : 14 ≤ a1 ∧ a1 < 22) (post : Int32 → Mem → Prop) (h : q_X5_legToSlow M a1 post) : Met l yX5_legToSlow (Cond.code yX5_legToSlow cX5_legToSlow 6 (some .int) :: wsL_law) (rmk 6) (va_Pc [.ref (ga G 0), .ref (ga G a1)] (Pw G sz M)) (va_Qi post (Qw G) (Af G sz)) 0 0 (Af G sz) := by
  refine Met.ofW (cc := cX5_legToSlow) (maxL := 6) (ret := (some .int)) (by decide) rfl ?_
  intro p e s m args below meth c s₁ B hml hv
  obtain ⟨rfl, hsz, hE, hP⟩ := hv
  subst hsz
  have C := Cx.of (own := RX5) hG hE rfl hml B
  have w : Wd G s M s.heap [] := ⟨hP, va_S.rf⟩
  have hl := lv_entry [.ref (ga G 0), .ref (ga G a1)] (n := 6) (Nat.le_of_ble_eq_true rfl)
  rw [lg_entry_eq]
  generalize (lg_sl [.ref (ga G 0), .ref (ga G a1)] ++ List.replicate (6 - (lg_sl [.ref (ga G 0), .ref (ga G a1)]).length) Slot.unset).toArray = ls at hl ⊢
  have hl : lv_has ls 6 [(0, .ref (ga G 0)), (1, .ref (ga G a1))] := hl
  have hx := C.1.1
  have hb := C.1.2.1
  show W p l e (rmk 6) s m _ below meth c s.heap [] 0 0 _ _
  unfold q_X5_legToSlow at h
  refine lv_iconst (v := 0) hx hb dX5_legToSlow_0 (by decide) ?_
  refine lv_istore_n (lv' := [(2, .int (0 : Int32)), (0, .ref (ga G 0)), (1, .ref (ga G a1))]) hx hb dX5_legToSlow_1 rfl hl (by decide) rfl (fun ls hl => ?_)
  refine lv_aload_n hx hb dX5_legToSlow_2 rfl (lv_at hl 1 rfl) ?_
  refine lv_aload_n hx hb dX5_legToSlow_3 rfl (lv_at hl 2 rfl) ?_
  refine lv_iconst (v := 0) hx hb dX5_legToSlow_4 (by decide) ?_
  refine end_i w (run_V (As := [.ref (ga G a1), .int (0 : Int32)]) C w hl.1 (c_X5_greatestOfLegs l G C.2.2.1 _ _ a1 (0 : Int32) ha1 _ h) kw_32_11 kw_1_2 kw_32_8 kw_32_9 kw_32_10 hd_X5_greatestOfLegs ⟨by decide, by decide⟩ (w.recv C (i := 0) (by decide) (pE_5) rfl) rfl (Nat.le_of_ble_eq_true rfl) dX5_legToSlow_5) (fun r7 M8 H locs h w => ?_)
  refine lv_istore_n (lv' := [(3, .int r7), (2, .int (0 : Int32)), (0, .ref (ga G 0)), (1, .ref (ga G a1))]) hx hb dX5_legToSlow_8 rfl hl (by decide) rfl (fun ls hl => ?_)
  refine lv_iconst (v := 1) hx hb dX5_legToSlow_9 (by decide) ?_
  refine lv_istore (lv' := [(4, .int (1 : Int32)), (3, .int r7), (2, .int (0 : Int32)), (0, .ref (ga G 0)), (1, .ref (ga G a1))]) hx hb dX5_legToSlow_10 hl (by decide) rfl (fun ls hl => ?_)
  obtain ⟨n, h⟩ := h
  exact t_X5_legToSlow_12 C n M8 a1 (0 : Int32) r7 (1 : Int32) ha1 w (lv_sub hl [3, 4, 2, 1, 0] rfl) h
def q_X5_legs (M : Mem) (x1 : Int32) (x2 : Int32) (post : Int32 → Mem → Prop) : Prop := q_X5_isWithin M x2 (0 : Int32) (2 : Int32) (fun r1 M2 => (r1 = 0 → (post (-1 : Int32) M2)) ∧ (¬ (r1 = 0) → (q_X5_refusalOfBytes M2 x1 (fun r4 M5 => (0 ≤ r4 → (vp_in x1 8 ∧ (q_X3_holdsLegs M5 (14 + x1.toNatClampNeg) (fun r8 M9 => (r8 = 0 → (post (-13 : Int32) M9)) ∧ (¬ (r8 = 0) → (q_X5_layLine M9  (fun r11 M12 => (r11 = 0 → (post (-3 : Int32) M12)) ∧ (¬ (r11 = 0) → ((x2 = (0 : Int32) → (q_X5_greatestOfLegs M12 (14 + x1.toNatClampNeg) (-4 : Int32) (fun r15 M16 => post r15 M16))) ∧ (¬ x2 = (0 : Int32) → ((x2 = (1 : Int32) → (q_X5_hoursOfLegs M12 (14 + x1.toNatClampNeg) (fun r18 M19 => post r18 M19))) ∧ (¬ x2 = (1 : Int32) → (q_X5_legToSlow M12 (14 + x1.toNatClampNeg) (fun r20 M21 => post r20 M21)))))))))))))) ∧ (¬ (0 ≤ r4) → (post r4 M5))))))
set_option maxHeartbeats 4000000 in
set_option maxRecDepth 100000 in
theorem c_X5_legs (l : Launch) (G : GG) (hG : Ag G) (sz : Nat) (M : Mem) (x1 : Int32) (x2 : Int32) (post : Int32 → Mem → Prop) (h : q_X5_legs M x1 x2 post) : Met l yX5_legs (Cond.code yX5_legs cX5_legs 5 (some .int) :: wsL_law) (rmk 7) (va_Pc [.ref (ga G 0), .int x1, .int x2] (Pw G sz M)) (va_Qi post (Qw G) (Af G sz)) 0 0 (Af G sz) := by
  refine Met.ofW (cc := cX5_legs) (maxL := 5) (ret := (some .int)) (by decide) rfl ?_
  intro p e s m args below meth c s₁ B hml hv
  obtain ⟨rfl, hsz, hE, hP⟩ := hv
  subst hsz
  have C := Cx.of (own := RX5) hG hE rfl hml B
  have w : Wd G s M s.heap [] := ⟨hP, va_S.rf⟩
  have hl := lv_entry [.ref (ga G 0), .int x1, .int x2] (n := 5) (Nat.le_of_ble_eq_true rfl)
  rw [lg_entry_eq]
  generalize (lg_sl [.ref (ga G 0), .int x1, .int x2] ++ List.replicate (5 - (lg_sl [.ref (ga G 0), .int x1, .int x2]).length) Slot.unset).toArray = ls at hl ⊢
  have hl : lv_has ls 5 [(0, .ref (ga G 0)), (1, .int x1), (2, .int x2)] := hl
  have hx := C.1.1
  have hb := C.1.2.1
  show W p l e (rmk 7) s m _ below meth c s.heap [] 0 0 _ _
  unfold q_X5_legs at h
  refine lv_iload_n hx hb dX5_legs_0 rfl (lv_at hl 2 rfl) ?_
  refine lv_iconst (v := 0) hx hb dX5_legs_1 (by decide) ?_
  refine lv_iconst (v := 2) hx hb dX5_legs_2 (by decide) ?_
  refine end_i w (run_S (As := [.int x2, .int (0 : Int32), .int (2 : Int32)]) C w hl.1 (c_X5_isWithin l G C.2.2.1 _ _ x2 (0 : Int32) (2 : Int32)  _ h) kw_6_8 kw_1_2 kw_6_6 kw_6_7 hd_X5_isWithin ⟨by decide, by decide⟩ rfl (Nat.le_of_ble_eq_true rfl) dX5_legs_3) (fun r1 M2 H locs h w => ?_)
  refine lv_if_ne (tgt := 11) hx hb dX5_legs_6 (by decide) (fun c3 => ?_) (fun c3 => ?_)
  · replace h := h.2 c3
    refine lv_aload_n hx hb dX5_legs_11 rfl (lv_at hl 0 rfl) ?_
    refine lv_iload_n hx hb dX5_legs_12 rfl (lv_at hl 1 rfl) ?_
    refine end_i w (run_V (As := [.int x1]) C w hl.1 (c_X5_refusalOfBytes l G C.2.2.1 _ _ x1  _ h) kw_5_18 kw_1_2 kw_5_15 kw_5_16 kw_5_17 hd_X5_refusalOfBytes ⟨by decide, by decide⟩ (w.recv C (i := 0) (by decide) (pE_5) rfl) rfl (Nat.le_of_ble_eq_true rfl) dX5_legs_13) (fun r4 M5 H locs h w => ?_)
    refine lv_istore_n (lv' := [(3, .int r4), (0, .ref (ga G 0)), (1, .int x1), (2, .int x2)]) hx hb dX5_legs_16 rfl hl (by decide) rfl (fun ls hl => ?_)
    refine lv_iload_n hx hb dX5_legs_17 rfl (lv_at hl 0 rfl) ?_
    refine lv_if_ge (tgt := 23) hx hb dX5_legs_18 (by decide) (fun c6 => ?_) (fun c6 => ?_)
    · replace h := h.1 c6
      refine lv_aload_n hx hb dX5_legs_23 rfl (lv_at hl 1 rfl) ?_
      refine gt_5_6 C w kw_2_8 dX5_legs_24 ?_
      refine lv_iload_n hx hb dX5_legs_27 rfl (lv_at hl 2 rfl) ?_
      have hin7 := h.1
      replace h := h.2
      have hz_hin7 := in_lt hin7
      refine pw_ldS C w hin7 rfl dX5_legs_28 ?_
      refine lv_astore (lv' := [(4, .ref (ga G (14 + x1.toNatClampNeg))), (3, .int r4), (0, .ref (ga G 0)), (1, .int x1), (2, .int x2)]) hx hb dX5_legs_29 hl (by decide) rfl (fun ls hl => ?_)
      refine lv_aload hx hb dX5_legs_31 (lv_at hl 0 rfl) ?_
      refine end_i w (run_VN (As := []) C w hl.1 (c_X3_holdsLegs l G C.2.2.1 _ _ (14 + x1.toNatClampNeg) (by omega) _ h) kw_32_7 kw_2_11 kn_74 kw_32_5 kw_32_6 hd_X3_holdsLegs ⟨by decide, by decide⟩ (w.recv C (i := (14 + x1.toNatClampNeg)) (by omega) (pE_3 (by omega)) rfl) rfl (Nat.le_of_ble_eq_true rfl) dX5_legs_33) (fun r8 M9 H locs h w => ?_)
      refine lv_if_ne (tgt := 42) hx hb dX5_legs_36 (by decide) (fun c10 => ?_) (fun c10 => ?_)
      · replace h := h.2 c10
        refine lv_aload_n hx hb dX5_legs_42 rfl (lv_at hl 2 rfl) ?_
        refine end_i w (run_V (As := []) C w hl.1 (c_X5_layLine l G C.2.2.1 _ _   _ h) kw_15_21 kw_1_2 kw_15_18 kw_15_19 kw_15_20 hd_X5_layLine ⟨by decide, by decide⟩ (w.recv C (i := 0) (by decide) (pE_5) rfl) rfl (Nat.le_of_ble_eq_true rfl) dX5_legs_43) (fun r11 M12 H locs h w => ?_)
        refine lv_if_ne (tgt := 52) hx hb dX5_legs_46 (by decide) (fun c13 => ?_) (fun c13 => ?_)
        · replace h := h.2 c13
          refine lv_iload_n hx hb dX5_legs_52 rfl (lv_at hl 4 rfl) ?_
          by_cases c14 : x2 = (0 : Int32)
          · replace h := h.1 c14
            refine lv_lookup (off := 27) (tgt := 80) hx hb dX5_legs_53 (by decide) (by rw [c14]; decide) (by decide) ?_
            refine lv_aload_n hx hb dX5_legs_80 rfl (lv_at hl 2 rfl) ?_
            refine lv_aload hx hb dX5_legs_81 (lv_at hl 0 rfl) ?_
            refine lv_bipush (v := -4) hx hb dX5_legs_83 (by decide) ?_
            refine end_i w (run_V (As := [.ref (ga G (14 + x1.toNatClampNeg)), .int (-4 : Int32)]) C w hl.1 (c_X5_greatestOfLegs l G C.2.2.1 _ _ (14 + x1.toNatClampNeg) (-4 : Int32) (by omega) _ h) kw_32_11 kw_1_2 kw_32_8 kw_32_9 kw_32_10 hd_X5_greatestOfLegs ⟨by decide, by decide⟩ (w.recv C (i := 0) (by decide) (pE_5) rfl) rfl (Nat.le_of_ble_eq_true rfl) dX5_legs_85) (fun r15 M16 H locs h w => ?_)
            exact ret_i C w h dX5_legs_88
          replace h := h.2 c14
          by_cases c17 : x2 = (1 : Int32)
          · replace h := h.1 c17
            refine lv_lookup (off := 36) (tgt := 89) hx hb dX5_legs_53 (by decide) (by rw [c17]; decide) (by decide) ?_
            refine lv_aload hx hb dX5_legs_89 (lv_at hl 0 rfl) ?_
            refine end_i w (run_S (As := [.ref (ga G (14 + x1.toNatClampNeg))]) C w hl.1 (c_X5_hoursOfLegs l G C.2.2.1 _ _ (14 + x1.toNatClampNeg) (by omega) _ h) kw_32_17 kw_1_2 kw_32_15 kw_32_16 hd_X5_hoursOfLegs ⟨by decide, by decide⟩ rfl (Nat.le_of_ble_eq_true rfl) dX5_legs_91) (fun r18 M19 H locs h w => ?_)
            exact ret_i C w h dX5_legs_94
          replace h := h.2 c17
          refine lv_lookup (off := 42) (tgt := 95) hx hb dX5_legs_53 (by decide) ((lv_osw c14 (by decide)).trans ((lv_osw c17 (by decide)).trans rfl)) (by decide) ?_
          refine lv_aload_n hx hb dX5_legs_95 rfl (lv_at hl 2 rfl) ?_
          refine lv_aload hx hb dX5_legs_96 (lv_at hl 0 rfl) ?_
          refine end_i w (run_V (As := [.ref (ga G (14 + x1.toNatClampNeg))]) C w hl.1 (c_X5_legToSlow l G C.2.2.1 _ _ (14 + x1.toNatClampNeg) (by omega) _ h) kw_32_21 kw_1_2 kw_32_18 kw_32_19 kw_32_20 hd_X5_legToSlow ⟨by decide, by decide⟩ (w.recv C (i := 0) (by decide) (pE_5) rfl) rfl (Nat.le_of_ble_eq_true rfl) dX5_legs_98) (fun r20 M21 H locs h w => ?_)
          exact ret_i C w h dX5_legs_101
        replace h := h.1 c13
        refine lv_bipush (v := -3) hx hb dX5_legs_49 (by decide) ?_
        exact ret_i C w h dX5_legs_51
      replace h := h.1 c10
      refine lv_bipush (v := -13) hx hb dX5_legs_39 (by decide) ?_
      exact ret_i C w h dX5_legs_41
    replace h := h.2 c6
    refine lv_iload_n hx hb dX5_legs_21 rfl (lv_at hl 0 rfl) ?_
    exact ret_i C w h dX5_legs_22
  replace h := h.1 c3
  refine lv_iconst (v := -1) hx hb dX5_legs_9 (by decide) ?_
  exact ret_i C w h dX5_legs_10
def q_X6_greatestBy (M : Mem) (x1 : Int32) (x2 : Int32) (post : Int32 → Mem → Prop) : Prop := ∀ M1 : Mem, M1 = (mup M 58 5 x1) → (∀ M2 : Mem, M2 = (mup M1 58 7 x2) → (q_X6_greatestOf M2  (fun r3 M4 => ∀ M5 : Mem, M5 = (mup M4 58 5 (M 58 5)) → (∀ M6 : Mem, M6 = (mup M5 58 7 (M 58 7)) → (post r3 M6)))))
set_option maxHeartbeats 4000000 in
set_option maxRecDepth 100000 in
theorem c_X6_greatestBy (l : Launch) (G : GG) (hG : Ag G) (sz : Nat) (M : Mem) (x1 : Int32) (x2 : Int32) (post : Int32 → Mem → Prop) (h : q_X6_greatestBy M x1 x2 post) : Met l yX6_greatestBy (Cond.code yX6_greatestBy cX6_greatestBy 6 (some .int) :: wsL_law) (rmk 5) (va_Pc [.ref (ga G 57), .int x1, .int x2] (Pw G sz M)) (va_Qi post (Qw G) (Af G sz)) 0 0 (Af G sz) := by
  refine Met.ofW (cc := cX6_greatestBy) (maxL := 6) (ret := (some .int)) (by decide) rfl ?_
  intro p e s m args below meth c s₁ B hml hv
  obtain ⟨rfl, hsz, hE, hP⟩ := hv
  subst hsz
  have C := Cx.of (own := RX6) hG hE rfl hml B
  have w : Wd G s M s.heap [] := ⟨hP, va_S.rf⟩
  have hl := lv_entry [.ref (ga G 57), .int x1, .int x2] (n := 6) (Nat.le_of_ble_eq_true rfl)
  rw [lg_entry_eq]
  generalize (lg_sl [.ref (ga G 57), .int x1, .int x2] ++ List.replicate (6 - (lg_sl [.ref (ga G 57), .int x1, .int x2]).length) Slot.unset).toArray = ls at hl ⊢
  have hl : lv_has ls 6 [(0, .ref (ga G 57)), (1, .int x1), (2, .int x2)] := hl
  have hx := C.1.1
  have hb := C.1.2.1
  show W p l e (rmk 5) s m _ below meth c s.heap [] 0 0 _ _
  unfold q_X6_greatestBy at h
  refine lv_aload_n hx hb dX6_greatestBy_0 rfl (lv_at hl 0 rfl) ?_
  refine gt_6_0 C w kw_5_0 dX6_greatestBy_1 ?_
  refine lv_iconst (v := 5) hx hb dX6_greatestBy_4 (by decide) ?_
  refine pw_ld C w (i := 58) (by decide) pE_58 (vl (x := (5 : Int32)) (by decide)) (k := 5) (by decide) dX6_greatestBy_5 ?_
  refine lv_istore_n (lv' := [(3, .int (M 58 5)), (0, .ref (ga G 57)), (1, .int x1), (2, .int x2)]) hx hb dX6_greatestBy_6 rfl hl (by decide) rfl (fun ls hl => ?_)
  refine lv_aload_n hx hb dX6_greatestBy_7 rfl (lv_at hl 1 rfl) ?_
  refine gt_6_0 C w kw_5_0 dX6_greatestBy_8 ?_
  refine lv_bipush (v := 7) hx hb dX6_greatestBy_11 (by decide) ?_
  refine pw_ld C w (i := 58) (by decide) pE_58 (vl (x := (7 : Int32)) (by decide)) (k := 7) (by decide) dX6_greatestBy_13 ?_
  refine lv_istore (lv' := [(4, .int (M 58 7)), (3, .int (M 58 5)), (0, .ref (ga G 57)), (1, .int x1), (2, .int x2)]) hx hb dX6_greatestBy_14 hl (by decide) rfl (fun ls hl => ?_)
  refine lv_aload_n hx hb dX6_greatestBy_16 rfl (lv_at hl 2 rfl) ?_
  refine gt_6_0 C w kw_5_0 dX6_greatestBy_17 ?_
  refine lv_iconst (v := 5) hx hb dX6_greatestBy_20 (by decide) ?_
  refine lv_iload_n hx hb dX6_greatestBy_21 rfl (lv_at hl 3 rfl) ?_
  refine pw_st C w (i := 58) (by decide) (fun _ => pE_58) (vl (x := (5 : Int32)) (by decide)) (k := 5) (by decide) dX6_greatestBy_22 (fun H locs w => ?_)
  obtain ⟨M1, eM1⟩ : ∃ z : Mem, z = (mup M 58 5 x1) := ⟨_, rfl⟩
  replace w : Wd G s M1 H locs := by rw [eM1]; exact w
  replace h := h M1 eM1
  refine lv_aload_n hx hb dX6_greatestBy_23 rfl (lv_at hl 2 rfl) ?_
  refine gt_6_0 C w kw_5_0 dX6_greatestBy_24 ?_
  refine lv_bipush (v := 7) hx hb dX6_greatestBy_27 (by decide) ?_
  refine lv_iload_n hx hb dX6_greatestBy_29 rfl (lv_at hl 4 rfl) ?_
  refine pw_st C w (i := 58) (by decide) (fun _ => pE_58) (vl (x := (7 : Int32)) (by decide)) (k := 7) (by decide) dX6_greatestBy_30 (fun H locs w => ?_)
  obtain ⟨M2, eM2⟩ : ∃ z : Mem, z = (mup M1 58 7 x2) := ⟨_, rfl⟩
  replace w : Wd G s M2 H locs := by rw [eM2]; exact w
  replace h := h M2 eM2
  refine lv_aload_n hx hb dX6_greatestBy_31 rfl (lv_at hl 2 rfl) ?_
  refine end_i w (run_V (As := []) C w hl.1 (c_X6_greatestOf l G C.2.2.1 _ _   _ h) kw_23_4 kw_1_5 kw_23_1 kw_23_2 kw_23_3 hd_X6_greatestOf ⟨by decide, by decide⟩ (w.recv C (i := 57) (by decide) (pE_6) rfl) rfl (Nat.le_of_ble_eq_true rfl) dX6_greatestBy_32) (fun r3 M4 H locs h w => ?_)
  refine lv_istore (lv' := [(5, .int r3), (4, .int (M 58 7)), (3, .int (M 58 5)), (0, .ref (ga G 57)), (1, .int x1), (2, .int x2)]) hx hb dX6_greatestBy_35 hl (by decide) rfl (fun ls hl => ?_)
  refine lv_aload_n hx hb dX6_greatestBy_37 rfl (lv_at hl 3 rfl) ?_
  refine gt_6_0 C w kw_5_0 dX6_greatestBy_38 ?_
  refine lv_iconst (v := 5) hx hb dX6_greatestBy_41 (by decide) ?_
  refine lv_iload_n hx hb dX6_greatestBy_42 rfl (lv_at hl 2 rfl) ?_
  refine pw_st C w (i := 58) (by decide) (fun _ => pE_58) (vl (x := (5 : Int32)) (by decide)) (k := 5) (by decide) dX6_greatestBy_43 (fun H locs w => ?_)
  obtain ⟨M5, eM5⟩ : ∃ z : Mem, z = (mup M4 58 5 (M 58 5)) := ⟨_, rfl⟩
  replace w : Wd G s M5 H locs := by rw [eM5]; exact w
  replace h := h M5 eM5
  refine lv_aload_n hx hb dX6_greatestBy_44 rfl (lv_at hl 3 rfl) ?_
  refine gt_6_0 C w kw_5_0 dX6_greatestBy_45 ?_
  refine lv_bipush (v := 7) hx hb dX6_greatestBy_48 (by decide) ?_
  refine lv_iload hx hb dX6_greatestBy_50 (lv_at hl 1 rfl) ?_
  refine pw_st C w (i := 58) (by decide) (fun _ => pE_58) (vl (x := (7 : Int32)) (by decide)) (k := 7) (by decide) dX6_greatestBy_52 (fun H locs w => ?_)
  obtain ⟨M6, eM6⟩ : ∃ z : Mem, z = (mup M5 58 7 (M 58 7)) := ⟨_, rfl⟩
  replace w : Wd G s M6 H locs := by rw [eM6]; exact w
  replace h := h M6 eM6
  refine lv_iload hx hb dX6_greatestBy_53 (lv_at hl 0 rfl) ?_
  exact ret_i C w h dX6_greatestBy_55
def j_X6_greatestLegs_75 (k5 : Mem → Int32 → Int32 → Int32 → Int32 → Prop) (post : Int32 → Mem → Prop) (M : Mem) (y0 : Int32) (x1 : Int32) (x2 : Int32) (x4 : Int32) : Prop := k5 M x1 x2 y0 (x4 + (1 : Int32))
def j_X6_greatestLegs_58 (k5 : Mem → Int32 → Int32 → Int32 → Int32 → Prop) (post : Int32 → Mem → Prop) (M : Mem) (y0 : Int32) (y1 : Int32) (x1 : Int32) (x2 : Int32) (x3 : Int32) (x4 : Int32) : Prop := q_X6_greatestBy M y1 y0 (fun r1 M2 => (r1 ≤ x3 → (j_X6_greatestLegs_75 k5 post M2 x3 x1 x2 x4)) ∧ (¬ (r1 ≤ x3) → (j_X6_greatestLegs_75 k5 post M2 r1 x1 x2 x4)))
def b_X6_greatestLegs_5 (k5 : Mem → Int32 → Int32 → Int32 → Int32 → Prop) (post : Int32 → Mem → Prop) (M : Mem) (x1 : Int32) (x2 : Int32) (x3 : Int32) (x4 : Int32) : Prop := vp_in x1 8 ∧ ((((M 64 x1.toNatClampNeg) / (3 : Int32)) ≤ x4 → (post x3 M)) ∧ (¬ (((M 64 x1.toNatClampNeg) / (3 : Int32)) ≤ x4) → (∀ v6 : Int32, v6 = (((100 : Int32) * x1) + ((3 : Int32) * x4)) → (vp_in (v6 + (1 : Int32)) 800 ∧ ((x4 = x2 → (j_X6_greatestLegs_58 k5 post M (0 : Int32) (M 65 (v6 + (1 : Int32)).toNatClampNeg) x1 x2 x3 x4)) ∧ (¬ (x4 = x2) → (vp_in (v6 + (2 : Int32)) 800 ∧ (j_X6_greatestLegs_58 k5 post M (M 65 (v6 + (2 : Int32)).toNatClampNeg) (M 65 (v6 + (1 : Int32)).toNatClampNeg) x1 x2 x3 x4))))))))
def lp_X6_greatestLegs_5 (post : Int32 → Mem → Prop) : Nat → Mem → Int32 → Int32 → Int32 → Int32 → Prop
  | 0 => fun _ _ _ _ _ => False
  | n + 1 => fun M x1 x2 x3 x4 => b_X6_greatestLegs_5 (lp_X6_greatestLegs_5 post n) post M x1 x2 x3 x4
def q_X6_greatestLegs (M : Mem) (x1 : Int32) (x2 : Int32) (post : Int32 → Mem → Prop) : Prop := ∃ n, lp_X6_greatestLegs_5 post n M x1 x2 (-1 : Int32) (0 : Int32)
set_option maxHeartbeats 4000000 in
set_option maxRecDepth 100000 in
theorem t_X6_greatestLegs_75 (C : Cx G p s m args meth c RX6 cX6_greatestLegs 7 (some .int)) {post : Int32 → Mem → Prop} {k5 : Mem → Int32 → Int32 → Int32 → Int32 → Prop} (hk5 : ∀ (M : Mem) (x1 : Int32) (x2 : Int32) (x3 : Int32) (x4 : Int32) (H : Heap) (locs : List Loc) (ls : Array Slot), Wd G s M H locs → lv_has ls 7 [(0, .ref (ga G 57)), (1, .int x1), (2, .int x2), (3, .int x3), (4, .int x4)] → k5 M x1 x2 x3 x4 → W p l e (rmk 6) s m args below meth c H locs 0 0 (MQ below (va_Qi post (Qw G) (Af G s.heap.size)) args s 0 0 (Af G s.heap.size)) (F0 m 5 ls [])) (M : Mem) (y0 : Int32) (x1 : Int32) (x2 : Int32) (x4 : Int32) {H : Heap} {locs : List Loc} {ls : Array Slot} (w : Wd G s M H locs) (hl : lv_has ls 7 [(0, .ref (ga G 57)), (1, .int x1), (2, .int x2), (4, .int x4)]) (h : j_X6_greatestLegs_75 k5 post M y0 x1 x2 x4) : W p l e (rmk 6) s m args below meth c H locs 0 0 (MQ below (va_Qi post (Qw G) (Af G s.heap.size)) args s 0 0 (Af G s.heap.size)) (F0 m 75 ls [.int y0]) := by
  have hx := C.1.1
  have hb := C.1.2.1
  unfold j_X6_greatestLegs_75 at h
  refine lv_istore_n (lv' := [(3, .int y0), (0, .ref (ga G 57)), (1, .int x1), (2, .int x2), (4, .int x4)]) hx hb dX6_greatestLegs_75 rfl hl (by decide) rfl (fun ls hl => ?_)
  refine lv_iinc (v := (x4 + (1 : Int32))) (lv' := [(4, .int (x4 + (1 : Int32))), (3, .int y0), (0, .ref (ga G 57)), (1, .int x1), (2, .int x2)]) hx hb dX6_greatestLegs_76 hl (k := 4) rfl rfl (by decide) rfl (fun ls hl => ?_)
  refine lv_goto (tgt := 5) hx hb dX6_greatestLegs_79 (by decide) ?_
  exact hk5 M x1 x2 y0 (x4 + (1 : Int32)) _ _ _  w (lv_sub hl [2, 3, 4, 1, 0] rfl) h
set_option maxHeartbeats 4000000 in
set_option maxRecDepth 100000 in
theorem t_X6_greatestLegs_58 (C : Cx G p s m args meth c RX6 cX6_greatestLegs 7 (some .int)) {post : Int32 → Mem → Prop} {k5 : Mem → Int32 → Int32 → Int32 → Int32 → Prop} (hk5 : ∀ (M : Mem) (x1 : Int32) (x2 : Int32) (x3 : Int32) (x4 : Int32) (H : Heap) (locs : List Loc) (ls : Array Slot), Wd G s M H locs → lv_has ls 7 [(0, .ref (ga G 57)), (1, .int x1), (2, .int x2), (3, .int x3), (4, .int x4)] → k5 M x1 x2 x3 x4 → W p l e (rmk 6) s m args below meth c H locs 0 0 (MQ below (va_Qi post (Qw G) (Af G s.heap.size)) args s 0 0 (Af G s.heap.size)) (F0 m 5 ls [])) (M : Mem) (y0 : Int32) (y1 : Int32) (x1 : Int32) (x2 : Int32) (x3 : Int32) (x4 : Int32) {H : Heap} {locs : List Loc} {ls : Array Slot} (w : Wd G s M H locs) (hl : lv_has ls 7 [(0, .ref (ga G 57)), (1, .int x1), (2, .int x2), (3, .int x3), (4, .int x4)]) (h : j_X6_greatestLegs_58 k5 post M y0 y1 x1 x2 x3 x4) : W p l e (rmk 6) s m args below meth c H locs 0 0 (MQ below (va_Qi post (Qw G) (Af G s.heap.size)) args s 0 0 (Af G s.heap.size)) (F0 m 58 ls [.int y0, .int y1, .ref (ga G 57)]) := by
  have hx := C.1.1
  have hb := C.1.2.1
  unfold j_X6_greatestLegs_58 at h
  refine end_i w (run_V (As := [.int y1, .int y0]) C w hl.1 (c_X6_greatestBy l G C.2.2.1 _ _ y1 y0  _ h) kw_33_15 kw_1_5 kw_33_12 kw_33_13 kw_33_14 hd_X6_greatestBy ⟨by decide, by decide⟩ (w.recv C (i := 57) (by decide) (pE_6) rfl) rfl (Nat.le_of_ble_eq_true rfl) dX6_greatestLegs_58) (fun r1 M2 H locs h w => ?_)
  refine lv_istore (lv' := [(6, .int r1), (0, .ref (ga G 57)), (1, .int x1), (2, .int x2), (3, .int x3), (4, .int x4)]) hx hb dX6_greatestLegs_61 hl (by decide) rfl (fun ls hl => ?_)
  refine lv_iload hx hb dX6_greatestLegs_63 (lv_at hl 0 rfl) ?_
  refine lv_iload_n hx hb dX6_greatestLegs_65 rfl (lv_at hl 4 rfl) ?_
  refine lv_icmp_le (tgt := 74) hx hb dX6_greatestLegs_66 (by decide) (fun c3 => ?_) (fun c3 => ?_)
  · replace h := h.1 c3
    refine lv_iload_n hx hb dX6_greatestLegs_74 rfl (lv_at hl 4 rfl) ?_
    exact t_X6_greatestLegs_75 C hk5 M2 x3 x1 x2 x4  w (lv_sub hl [1, 2, 3, 5] rfl) h
  replace h := h.2 c3
  refine lv_iload hx hb dX6_greatestLegs_69 (lv_at hl 0 rfl) ?_
  refine lv_goto (tgt := 75) hx hb dX6_greatestLegs_71 (by decide) ?_
  exact t_X6_greatestLegs_75 C hk5 M2 r1 x1 x2 x4  w (lv_sub hl [1, 2, 3, 5] rfl) h
set_option maxHeartbeats 4000000 in
set_option maxRecDepth 100000 in
theorem t_X6_greatestLegs_5 (C : Cx G p s m args meth c RX6 cX6_greatestLegs 7 (some .int)) {post : Int32 → Mem → Prop} : ∀ (n : Nat) (M : Mem) (x1 : Int32) (x2 : Int32) (x3 : Int32) (x4 : Int32) {H : Heap} {locs : List Loc} {ls : Array Slot} (w : Wd G s M H locs) (hl : lv_has ls 7 [(0, .ref (ga G 57)), (1, .int x1), (2, .int x2), (3, .int x3), (4, .int x4)]) (h : lp_X6_greatestLegs_5 post n M x1 x2 x3 x4), W p l e (rmk 6) s m args below meth c H locs 0 0 (MQ below (va_Qi post (Qw G) (Af G s.heap.size)) args s 0 0 (Af G s.heap.size)) (F0 m 5 ls []) := by
  have hx := C.1.1
  have hb := C.1.2.1
  intro n9
  induction n9 with
  | zero => intro M x1 x2 x3 x4 H locs ls w hl h; exact absurd h id
  | succ n9 ih9 =>
    intro M x1 x2 x3 x4 H locs ls w hl h
    have hk5 : ∀ (M : Mem) (x1 : Int32) (x2 : Int32) (x3 : Int32) (x4 : Int32) (H : Heap) (locs : List Loc) (ls : Array Slot), Wd G s M H locs → lv_has ls 7 [(0, .ref (ga G 57)), (1, .int x1), (2, .int x2), (3, .int x3), (4, .int x4)] → lp_X6_greatestLegs_5 post n9 M x1 x2 x3 x4 → W p l e (rmk 6) s m args below meth c H locs 0 0 (MQ below (va_Qi post (Qw G) (Af G s.heap.size)) args s 0 0 (Af G s.heap.size)) (F0 m 5 ls []) := fun M x1 x2 x3 x4 H locs ls w hl h => ih9 M x1 x2 x3 x4 w hl h
    replace h : b_X6_greatestLegs_5 (lp_X6_greatestLegs_5 post n9) post M x1 x2 x3 x4 := h
    unfold b_X6_greatestLegs_5 at h
    refine lv_iload hx hb dX6_greatestLegs_5 (lv_at hl 4 rfl) ?_
    refine lv_aload_n hx hb dX6_greatestLegs_7 rfl (lv_at hl 0 rfl) ?_
    refine gt_6_6 C w kw_5_6 dX6_greatestLegs_8 ?_
    refine lv_iload_n hx hb dX6_greatestLegs_11 rfl (lv_at hl 1 rfl) ?_
    have hin4 := h.1
    replace h := h.2
    have hz_hin4 := in_lt hin4
    refine pw_ld C w (i := 64) (by decide) pE_64 hin4 rfl dX6_greatestLegs_12 ?_
    refine lv_iconst (v := 3) hx hb dX6_greatestLegs_13 (by decide) ?_
    refine lv_idiv hx hb dX6_greatestLegs_14 (by decide) ?_
    refine lv_icmp_ge (tgt := 82) hx hb dX6_greatestLegs_15 (by decide) (fun c5 => ?_) (fun c5 => ?_)
    · replace h := h.1 c5
      refine lv_iload_n hx hb dX6_greatestLegs_82 rfl (lv_at hl 3 rfl) ?_
      exact ret_i C w h dX6_greatestLegs_83
    replace h := h.2 c5
    refine lv_bipush (v := 100) hx hb dX6_greatestLegs_18 (by decide) ?_
    refine lv_iload_n hx hb dX6_greatestLegs_20 rfl (lv_at hl 1 rfl) ?_
    refine lv_imul hx hb dX6_greatestLegs_21 ?_
    refine lv_iconst (v := 3) hx hb dX6_greatestLegs_22 (by decide) ?_
    refine lv_iload hx hb dX6_greatestLegs_23 (lv_at hl 4 rfl) ?_
    refine lv_imul hx hb dX6_greatestLegs_25 ?_
    refine lv_iadd hx hb dX6_greatestLegs_26 ?_
    refine lv_topi (fun v6 ev6 => ?_)
    replace h := h v6 ev6
    refine lv_istore (lv' := [(5, .int v6), (0, .ref (ga G 57)), (1, .int x1), (2, .int x2), (3, .int x3), (4, .int x4)]) hx hb dX6_greatestLegs_27 hl (by decide) rfl (fun ls hl => ?_)
    refine lv_aload_n hx hb dX6_greatestLegs_29 rfl (lv_at hl 1 rfl) ?_
    refine lv_aload_n hx hb dX6_greatestLegs_30 rfl (lv_at hl 1 rfl) ?_
    refine gt_6_7 C w kw_5_7 dX6_greatestLegs_31 ?_
    refine lv_iload hx hb dX6_greatestLegs_34 (lv_at hl 0 rfl) ?_
    refine lv_iconst (v := 1) hx hb dX6_greatestLegs_36 (by decide) ?_
    refine lv_iadd hx hb dX6_greatestLegs_37 ?_
    have hin7 := h.1
    replace h := h.2
    have hz_hin7 := in_lt hin7
    refine pw_ld C w (i := 65) (by decide) pE_65 hin7 rfl dX6_greatestLegs_38 ?_
    refine lv_iload hx hb dX6_greatestLegs_39 (lv_at hl 5 rfl) ?_
    refine lv_iload_n hx hb dX6_greatestLegs_41 rfl (lv_at hl 3 rfl) ?_
    refine lv_icmp_ne (tgt := 49) hx hb dX6_greatestLegs_42 (by decide) (fun c8 => ?_) (fun c8 => ?_)
    · replace h := h.2 c8
      refine lv_aload_n hx hb dX6_greatestLegs_49 rfl (lv_at hl 1 rfl) ?_
      refine gt_6_7 C w kw_5_7 dX6_greatestLegs_50 ?_
      refine lv_iload hx hb dX6_greatestLegs_53 (lv_at hl 0 rfl) ?_
      refine lv_iconst (v := 2) hx hb dX6_greatestLegs_55 (by decide) ?_
      refine lv_iadd hx hb dX6_greatestLegs_56 ?_
      have hin9 := h.1
      replace h := h.2
      have hz_hin9 := in_lt hin9
      refine pw_ld C w (i := 65) (by decide) pE_65 hin9 rfl dX6_greatestLegs_57 ?_
      exact t_X6_greatestLegs_58 C hk5 M (M 65 (v6 + (2 : Int32)).toNatClampNeg) (M 65 (v6 + (1 : Int32)).toNatClampNeg) x1 x2 x3 x4  w (lv_sub hl [1, 2, 3, 4, 5] rfl) h
    replace h := h.1 c8
    refine lv_iconst (v := 0) hx hb dX6_greatestLegs_45 (by decide) ?_
    refine lv_goto (tgt := 58) hx hb dX6_greatestLegs_46 (by decide) ?_
    exact t_X6_greatestLegs_58 C hk5 M (0 : Int32) (M 65 (v6 + (1 : Int32)).toNatClampNeg) x1 x2 x3 x4  w (lv_sub hl [1, 2, 3, 4, 5] rfl) h
set_option maxHeartbeats 4000000 in
set_option maxRecDepth 100000 in
theorem c_X6_greatestLegs (l : Launch) (G : GG) (hG : Ag G) (sz : Nat) (M : Mem) (x1 : Int32) (x2 : Int32) (post : Int32 → Mem → Prop) (h : q_X6_greatestLegs M x1 x2 post) : Met l yX6_greatestLegs (Cond.code yX6_greatestLegs cX6_greatestLegs 7 (some .int) :: wsL_law) (rmk 6) (va_Pc [.ref (ga G 57), .int x1, .int x2] (Pw G sz M)) (va_Qi post (Qw G) (Af G sz)) 0 0 (Af G sz) := by
  refine Met.ofW (cc := cX6_greatestLegs) (maxL := 7) (ret := (some .int)) (by decide) rfl ?_
  intro p e s m args below meth c s₁ B hml hv
  obtain ⟨rfl, hsz, hE, hP⟩ := hv
  subst hsz
  have C := Cx.of (own := RX6) hG hE rfl hml B
  have w : Wd G s M s.heap [] := ⟨hP, va_S.rf⟩
  have hl := lv_entry [.ref (ga G 57), .int x1, .int x2] (n := 7) (Nat.le_of_ble_eq_true rfl)
  rw [lg_entry_eq]
  generalize (lg_sl [.ref (ga G 57), .int x1, .int x2] ++ List.replicate (7 - (lg_sl [.ref (ga G 57), .int x1, .int x2]).length) Slot.unset).toArray = ls at hl ⊢
  have hl : lv_has ls 7 [(0, .ref (ga G 57)), (1, .int x1), (2, .int x2)] := hl
  have hx := C.1.1
  have hb := C.1.2.1
  show W p l e (rmk 6) s m _ below meth c s.heap [] 0 0 _ _
  unfold q_X6_greatestLegs at h
  refine lv_iconst (v := -1) hx hb dX6_greatestLegs_0 (by decide) ?_
  refine lv_istore_n (lv' := [(3, .int (-1 : Int32)), (0, .ref (ga G 57)), (1, .int x1), (2, .int x2)]) hx hb dX6_greatestLegs_1 rfl hl (by decide) rfl (fun ls hl => ?_)
  refine lv_iconst (v := 0) hx hb dX6_greatestLegs_2 (by decide) ?_
  refine lv_istore (lv' := [(4, .int (0 : Int32)), (3, .int (-1 : Int32)), (0, .ref (ga G 57)), (1, .int x1), (2, .int x2)]) hx hb dX6_greatestLegs_3 hl (by decide) rfl (fun ls hl => ?_)
  obtain ⟨n, h⟩ := h
  exact t_X6_greatestLegs_5 C n M x1 x2 (-1 : Int32) (0 : Int32)  w (lv_sub hl [2, 3, 4, 1, 0] rfl) h
def j_X6_wrongLegs_125 (post : Int32 → Mem → Prop) (M : Mem) : Prop := post (-13 : Int32) M
def b_X6_wrongLegs_49 (k49 : Mem → Int32 → Int32 → Prop) (post : Int32 → Mem → Prop) (M : Mem) (x1 : Int32) (x3 : Int32) : Prop := vp_in x1 8 ∧ (((M 64 x1.toNatClampNeg) ≤ x3 → (post (0 : Int32) M)) ∧ (¬ ((M 64 x1.toNatClampNeg) ≤ x3) → (vp_in (((100 : Int32) * x1) + x3) 800 ∧ (q_X6_isIn M ((M 65 (((100 : Int32) * x1) + x3).toNatClampNeg).toInt64) (1 : Int64) (99 : Int64) (fun r4 M5 => (r4 = 0 → (j_X6_wrongLegs_125 post M5)) ∧ (¬ (r4 = 0) → (vp_in ((((100 : Int32) * x1) + x3) + (1 : Int32)) 800 ∧ (q_X6_isIn M5 ((M5 65 ((((100 : Int32) * x1) + x3) + (1 : Int32)).toNatClampNeg).toInt64) (0 : Int64) (60 : Int64) (fun r8 M9 => (r8 = 0 → (j_X6_wrongLegs_125 post M9)) ∧ (¬ (r8 = 0) → (vp_in ((((100 : Int32) * x1) + x3) + (2 : Int32)) 800 ∧ (q_X6_isIn M9 ((M9 65 ((((100 : Int32) * x1) + x3) + (2 : Int32)).toNatClampNeg).toInt64) (0 : Int64) (9 : Int64) (fun r12 M13 => (r12 = 0 → (j_X6_wrongLegs_125 post M13)) ∧ (¬ (r12 = 0) → (k49 M13 x1 (x3 + (3 : Int32)))))))))))))))))
def lp_X6_wrongLegs_49 (post : Int32 → Mem → Prop) : Nat → Mem → Int32 → Int32 → Prop
  | 0 => fun _ _ _ => False
  | n + 1 => fun M x1 x3 => b_X6_wrongLegs_49 (lp_X6_wrongLegs_49 post n) post M x1 x3
def j_X6_wrongLegs_44 (post : Int32 → Mem → Prop) (M : Mem) : Prop := post (-13 : Int32) M
def q_X6_wrongLegs (M : Mem) (x1 : Int32) (post : Int32 → Mem → Prop) : Prop := q_X6_wrongRow M x1 (0 : Int32) (fun r15 M16 => (r15 = 0 → (vp_in x1 8 ∧ (((M16 64 x1.toNatClampNeg) = 0 → (j_X6_wrongLegs_44 post M16)) ∧ (¬ ((M16 64 x1.toNatClampNeg) = 0) → ((((M16 64 x1.toNatClampNeg) - (M16 64 x1.toNatClampNeg) / (3 : Int32) * (3 : Int32)) = 0 → (((M16 64 x1.toNatClampNeg) ≤ (24 : Int32) → (∃ n, lp_X6_wrongLegs_49 post n M16 x1 (0 : Int32))) ∧ (¬ ((M16 64 x1.toNatClampNeg) ≤ (24 : Int32)) → (j_X6_wrongLegs_44 post M16)))) ∧ (¬ (((M16 64 x1.toNatClampNeg) - (M16 64 x1.toNatClampNeg) / (3 : Int32) * (3 : Int32)) = 0) → (j_X6_wrongLegs_44 post M16))))))) ∧ (¬ (r15 = 0) → (post r15 M16)))
set_option maxHeartbeats 4000000 in
set_option maxRecDepth 100000 in
theorem t_X6_wrongLegs_125 (C : Cx G p s m args meth c RX6 cX6_wrongLegs 5 (some .int)) {post : Int32 → Mem → Prop} (M : Mem) {H : Heap} {locs : List Loc} {ls : Array Slot} (w : Wd G s M H locs) (hl : lv_has ls 5 []) (h : j_X6_wrongLegs_125 post M) : W p l e (rmk 4) s m args below meth c H locs 0 0 (MQ below (va_Qi post (Qw G) (Af G s.heap.size)) args s 0 0 (Af G s.heap.size)) (F0 m 125 ls []) := by
  have hx := C.1.1
  have hb := C.1.2.1
  unfold j_X6_wrongLegs_125 at h
  refine lv_bipush (v := -13) hx hb dX6_wrongLegs_125 (by decide) ?_
  exact ret_i C w h dX6_wrongLegs_127
set_option maxHeartbeats 4000000 in
set_option maxRecDepth 100000 in
theorem t_X6_wrongLegs_49 (C : Cx G p s m args meth c RX6 cX6_wrongLegs 5 (some .int)) {post : Int32 → Mem → Prop} : ∀ (n : Nat) (M : Mem) (x1 : Int32) (x3 : Int32) {H : Heap} {locs : List Loc} {ls : Array Slot} (w : Wd G s M H locs) (hl : lv_has ls 5 [(0, .ref (ga G 57)), (1, .int x1), (3, .int x3)]) (h : lp_X6_wrongLegs_49 post n M x1 x3), W p l e (rmk 4) s m args below meth c H locs 0 0 (MQ below (va_Qi post (Qw G) (Af G s.heap.size)) args s 0 0 (Af G s.heap.size)) (F0 m 49 ls []) := by
  have hx := C.1.1
  have hb := C.1.2.1
  intro n9
  induction n9 with
  | zero => intro M x1 x3 H locs ls w hl h; exact absurd h id
  | succ n9 ih9 =>
    intro M x1 x3 H locs ls w hl h
    have hk49 : ∀ (M : Mem) (x1 : Int32) (x3 : Int32) (H : Heap) (locs : List Loc) (ls : Array Slot), Wd G s M H locs → lv_has ls 5 [(0, .ref (ga G 57)), (1, .int x1), (3, .int x3)] → lp_X6_wrongLegs_49 post n9 M x1 x3 → W p l e (rmk 4) s m args below meth c H locs 0 0 (MQ below (va_Qi post (Qw G) (Af G s.heap.size)) args s 0 0 (Af G s.heap.size)) (F0 m 49 ls []) := fun M x1 x3 H locs ls w hl h => ih9 M x1 x3 w hl h
    replace h : b_X6_wrongLegs_49 (lp_X6_wrongLegs_49 post n9) post M x1 x3 := h
    unfold b_X6_wrongLegs_49 at h
    refine lv_iload_n hx hb dX6_wrongLegs_49 rfl (lv_at hl 2 rfl) ?_
    refine lv_aload_n hx hb dX6_wrongLegs_50 rfl (lv_at hl 0 rfl) ?_
    refine gt_6_6 C w kw_5_6 dX6_wrongLegs_51 ?_
    refine lv_iload_n hx hb dX6_wrongLegs_54 rfl (lv_at hl 1 rfl) ?_
    have hin1 := h.1
    replace h := h.2
    have hz_hin1 := in_lt hin1
    refine pw_ld C w (i := 64) (by decide) pE_64 hin1 rfl dX6_wrongLegs_55 ?_
    refine lv_icmp_ge (tgt := 134) hx hb dX6_wrongLegs_56 (by decide) (fun c2 => ?_) (fun c2 => ?_)
    · replace h := h.1 c2
      refine lv_iconst (v := 0) hx hb dX6_wrongLegs_134 (by decide) ?_
      exact ret_i C w h dX6_wrongLegs_135
    replace h := h.2 c2
    refine lv_bipush (v := 100) hx hb dX6_wrongLegs_59 (by decide) ?_
    refine lv_iload_n hx hb dX6_wrongLegs_61 rfl (lv_at hl 1 rfl) ?_
    refine lv_imul hx hb dX6_wrongLegs_62 ?_
    refine lv_iload_n hx hb dX6_wrongLegs_63 rfl (lv_at hl 2 rfl) ?_
    refine lv_iadd hx hb dX6_wrongLegs_64 ?_
    refine lv_istore (lv' := [(4, .int (((100 : Int32) * x1) + x3)), (0, .ref (ga G 57)), (1, .int x1), (3, .int x3)]) hx hb dX6_wrongLegs_65 hl (by decide) rfl (fun ls hl => ?_)
    refine lv_aload_n hx hb dX6_wrongLegs_67 rfl (lv_at hl 1 rfl) ?_
    refine gt_6_7 C w kw_5_7 dX6_wrongLegs_68 ?_
    refine lv_iload hx hb dX6_wrongLegs_71 (lv_at hl 0 rfl) ?_
    have hin3 := h.1
    replace h := h.2
    have hz_hin3 := in_lt hin3
    refine pw_ld C w (i := 65) (by decide) pE_65 hin3 rfl dX6_wrongLegs_73 ?_
    refine lv_i2l hx hb dX6_wrongLegs_74 rfl ?_
    refine lv_lconst (v := 1) hx hb dX6_wrongLegs_75 (by decide) ?_
    refine lv_ldc2 hx hb C.1.2.2.2.1 (C.ws kw_13_13) dX6_wrongLegs_76 ?_
    refine end_i w (run_S (As := [.long (M 65 (((100 : Int32) * x1) + x3).toNatClampNeg).toInt64, .long (1 : Int64), .long (99 : Int64)]) C w hl.1 (c_X6_isIn l G C.2.2.1 _ _ ((M 65 (((100 : Int32) * x1) + x3).toNatClampNeg).toInt64) (1 : Int64) (99 : Int64)  _ h) kw_12_5 kw_1_5 kw_12_3 kw_12_4 hd_X6_isIn ⟨by decide, by decide⟩ rfl (Nat.le_of_ble_eq_true rfl) dX6_wrongLegs_79) (fun r4 M5 H locs h w => ?_)
    refine lv_if_eq (tgt := 125) hx hb dX6_wrongLegs_82 (by decide) (fun c6 => ?_) (fun c6 => ?_)
    · replace h := h.1 c6
      exact t_X6_wrongLegs_125 C M5   w (lv_sub hl [] rfl) h
    replace h := h.2 c6
    refine lv_aload_n hx hb dX6_wrongLegs_85 rfl (lv_at hl 1 rfl) ?_
    refine gt_6_7 C w kw_5_7 dX6_wrongLegs_86 ?_
    refine lv_iload hx hb dX6_wrongLegs_89 (lv_at hl 0 rfl) ?_
    refine lv_iconst (v := 1) hx hb dX6_wrongLegs_91 (by decide) ?_
    refine lv_iadd hx hb dX6_wrongLegs_92 ?_
    have hin7 := h.1
    replace h := h.2
    have hz_hin7 := in_lt hin7
    refine pw_ld C w (i := 65) (by decide) pE_65 hin7 rfl dX6_wrongLegs_93 ?_
    refine lv_i2l hx hb dX6_wrongLegs_94 rfl ?_
    refine lv_lconst (v := 0) hx hb dX6_wrongLegs_95 (by decide) ?_
    refine lv_ldc2 hx hb C.1.2.2.2.1 (C.ws kw_33_6) dX6_wrongLegs_96 ?_
    refine end_i w (run_S (As := [.long (M5 65 ((((100 : Int32) * x1) + x3) + (1 : Int32)).toNatClampNeg).toInt64, .long (0 : Int64), .long (60 : Int64)]) C w hl.1 (c_X6_isIn l G C.2.2.1 _ _ ((M5 65 ((((100 : Int32) * x1) + x3) + (1 : Int32)).toNatClampNeg).toInt64) (0 : Int64) (60 : Int64)  _ h) kw_12_5 kw_1_5 kw_12_3 kw_12_4 hd_X6_isIn ⟨by decide, by decide⟩ rfl (Nat.le_of_ble_eq_true rfl) dX6_wrongLegs_99) (fun r8 M9 H locs h w => ?_)
    refine lv_if_eq (tgt := 125) hx hb dX6_wrongLegs_102 (by decide) (fun c10 => ?_) (fun c10 => ?_)
    · replace h := h.1 c10
      exact t_X6_wrongLegs_125 C M9   w (lv_sub hl [] rfl) h
    replace h := h.2 c10
    refine lv_aload_n hx hb dX6_wrongLegs_105 rfl (lv_at hl 1 rfl) ?_
    refine gt_6_7 C w kw_5_7 dX6_wrongLegs_106 ?_
    refine lv_iload hx hb dX6_wrongLegs_109 (lv_at hl 0 rfl) ?_
    refine lv_iconst (v := 2) hx hb dX6_wrongLegs_111 (by decide) ?_
    refine lv_iadd hx hb dX6_wrongLegs_112 ?_
    have hin11 := h.1
    replace h := h.2
    have hz_hin11 := in_lt hin11
    refine pw_ld C w (i := 65) (by decide) pE_65 hin11 rfl dX6_wrongLegs_113 ?_
    refine lv_i2l hx hb dX6_wrongLegs_114 rfl ?_
    refine lv_lconst (v := 0) hx hb dX6_wrongLegs_115 (by decide) ?_
    refine lv_ldc2 hx hb C.1.2.2.2.1 (C.ws kw_33_7) dX6_wrongLegs_116 ?_
    refine end_i w (run_S (As := [.long (M9 65 ((((100 : Int32) * x1) + x3) + (2 : Int32)).toNatClampNeg).toInt64, .long (0 : Int64), .long (9 : Int64)]) C w hl.1 (c_X6_isIn l G C.2.2.1 _ _ ((M9 65 ((((100 : Int32) * x1) + x3) + (2 : Int32)).toNatClampNeg).toInt64) (0 : Int64) (9 : Int64)  _ h) kw_12_5 kw_1_5 kw_12_3 kw_12_4 hd_X6_isIn ⟨by decide, by decide⟩ rfl (Nat.le_of_ble_eq_true rfl) dX6_wrongLegs_119) (fun r12 M13 H locs h w => ?_)
    refine lv_if_ne (tgt := 128) hx hb dX6_wrongLegs_122 (by decide) (fun c14 => ?_) (fun c14 => ?_)
    · replace h := h.2 c14
      refine lv_iinc (v := (x3 + (3 : Int32))) (lv' := [(3, .int (x3 + (3 : Int32))), (4, .int (((100 : Int32) * x1) + x3)), (0, .ref (ga G 57)), (1, .int x1)]) hx hb dX6_wrongLegs_128 hl (k := 3) rfl rfl (by decide) rfl (fun ls hl => ?_)
      refine lv_goto (tgt := 49) hx hb dX6_wrongLegs_131 (by decide) ?_
      exact hk49 M13 x1 (x3 + (3 : Int32)) _ _ _  w (lv_sub hl [2, 3, 0] rfl) h
    replace h := h.1 c14
    exact t_X6_wrongLegs_125 C M13   w (lv_sub hl [] rfl) h
set_option maxHeartbeats 4000000 in
set_option maxRecDepth 100000 in
theorem t_X6_wrongLegs_44 (C : Cx G p s m args meth c RX6 cX6_wrongLegs 5 (some .int)) {post : Int32 → Mem → Prop} (M : Mem) {H : Heap} {locs : List Loc} {ls : Array Slot} (w : Wd G s M H locs) (hl : lv_has ls 5 []) (h : j_X6_wrongLegs_44 post M) : W p l e (rmk 4) s m args below meth c H locs 0 0 (MQ below (va_Qi post (Qw G) (Af G s.heap.size)) args s 0 0 (Af G s.heap.size)) (F0 m 44 ls []) := by
  have hx := C.1.1
  have hb := C.1.2.1
  unfold j_X6_wrongLegs_44 at h
  refine lv_bipush (v := -13) hx hb dX6_wrongLegs_44 (by decide) ?_
  exact ret_i C w h dX6_wrongLegs_46
set_option maxHeartbeats 4000000 in
set_option maxRecDepth 100000 in
theorem c_X6_wrongLegs (l : Launch) (G : GG) (hG : Ag G) (sz : Nat) (M : Mem) (x1 : Int32) (post : Int32 → Mem → Prop) (h : q_X6_wrongLegs M x1 post) : Met l yX6_wrongLegs (Cond.code yX6_wrongLegs cX6_wrongLegs 5 (some .int) :: wsL_law) (rmk 4) (va_Pc [.ref (ga G 57), .int x1] (Pw G sz M)) (va_Qi post (Qw G) (Af G sz)) 0 0 (Af G sz) := by
  refine Met.ofW (cc := cX6_wrongLegs) (maxL := 5) (ret := (some .int)) (by decide) rfl ?_
  intro p e s m args below meth c s₁ B hml hv
  obtain ⟨rfl, hsz, hE, hP⟩ := hv
  subst hsz
  have C := Cx.of (own := RX6) hG hE rfl hml B
  have w : Wd G s M s.heap [] := ⟨hP, va_S.rf⟩
  have hl := lv_entry [.ref (ga G 57), .int x1] (n := 5) (Nat.le_of_ble_eq_true rfl)
  rw [lg_entry_eq]
  generalize (lg_sl [.ref (ga G 57), .int x1] ++ List.replicate (5 - (lg_sl [.ref (ga G 57), .int x1]).length) Slot.unset).toArray = ls at hl ⊢
  have hl : lv_has ls 5 [(0, .ref (ga G 57)), (1, .int x1)] := hl
  have hx := C.1.1
  have hb := C.1.2.1
  show W p l e (rmk 4) s m _ below meth c s.heap [] 0 0 _ _
  unfold q_X6_wrongLegs at h
  refine lv_aload_n hx hb dX6_wrongLegs_0 rfl (lv_at hl 0 rfl) ?_
  refine lv_iload_n hx hb dX6_wrongLegs_1 rfl (lv_at hl 1 rfl) ?_
  refine lv_iconst (v := 0) hx hb dX6_wrongLegs_2 (by decide) ?_
  refine end_i w (run_V (As := [.int x1, .int (0 : Int32)]) C w hl.1 (c_X6_wrongRow l G C.2.2.1 _ _ x1 (0 : Int32)  _ h) kw_11_22 kw_1_5 kw_11_19 kw_11_20 kw_11_21 hd_X6_wrongRow ⟨by decide, by decide⟩ (w.recv C (i := 57) (by decide) (pE_6) rfl) rfl (Nat.le_of_ble_eq_true rfl) dX6_wrongLegs_3) (fun r15 M16 H locs h w => ?_)
  refine lv_istore_n (lv' := [(2, .int r15), (0, .ref (ga G 57)), (1, .int x1)]) hx hb dX6_wrongLegs_6 rfl hl (by decide) rfl (fun ls hl => ?_)
  refine lv_iload_n hx hb dX6_wrongLegs_7 rfl (lv_at hl 0 rfl) ?_
  refine lv_if_eq (tgt := 13) hx hb dX6_wrongLegs_8 (by decide) (fun c17 => ?_) (fun c17 => ?_)
  · replace h := h.1 c17
    refine lv_aload_n hx hb dX6_wrongLegs_13 rfl (lv_at hl 1 rfl) ?_
    refine gt_6_6 C w kw_5_6 dX6_wrongLegs_14 ?_
    refine lv_iload_n hx hb dX6_wrongLegs_17 rfl (lv_at hl 2 rfl) ?_
    have hin18 := h.1
    replace h := h.2
    have hz_hin18 := in_lt hin18
    refine pw_ld C w (i := 64) (by decide) pE_64 hin18 rfl dX6_wrongLegs_18 ?_
    refine lv_if_eq (tgt := 44) hx hb dX6_wrongLegs_19 (by decide) (fun c19 => ?_) (fun c19 => ?_)
    · replace h := h.1 c19
      exact t_X6_wrongLegs_44 C M16   w (lv_sub hl [] rfl) h
    replace h := h.2 c19
    refine lv_aload_n hx hb dX6_wrongLegs_22 rfl (lv_at hl 1 rfl) ?_
    refine gt_6_6 C w kw_5_6 dX6_wrongLegs_23 ?_
    refine lv_iload_n hx hb dX6_wrongLegs_26 rfl (lv_at hl 2 rfl) ?_
    refine pw_ld C w (i := 64) (by decide) pE_64 hin18 rfl dX6_wrongLegs_27 ?_
    refine lv_iconst (v := 3) hx hb dX6_wrongLegs_28 (by decide) ?_
    refine lv_irem hx hb dX6_wrongLegs_29 (by decide) ?_
    refine lv_if_ne (tgt := 44) hx hb dX6_wrongLegs_30 (by decide) (fun c20 => ?_) (fun c20 => ?_)
    · replace h := h.2 c20
      exact t_X6_wrongLegs_44 C M16   w (lv_sub hl [] rfl) h
    replace h := h.1 c20
    refine lv_aload_n hx hb dX6_wrongLegs_33 rfl (lv_at hl 1 rfl) ?_
    refine gt_6_6 C w kw_5_6 dX6_wrongLegs_34 ?_
    refine lv_iload_n hx hb dX6_wrongLegs_37 rfl (lv_at hl 2 rfl) ?_
    refine pw_ld C w (i := 64) (by decide) pE_64 hin18 rfl dX6_wrongLegs_38 ?_
    refine lv_bipush (v := 24) hx hb dX6_wrongLegs_39 (by decide) ?_
    refine lv_icmp_le (tgt := 47) hx hb dX6_wrongLegs_41 (by decide) (fun c21 => ?_) (fun c21 => ?_)
    · replace h := h.1 c21
      refine lv_iconst (v := 0) hx hb dX6_wrongLegs_47 (by decide) ?_
      refine lv_istore_n (lv' := [(3, .int (0 : Int32)), (2, .int r15), (0, .ref (ga G 57)), (1, .int x1)]) hx hb dX6_wrongLegs_48 rfl hl (by decide) rfl (fun ls hl => ?_)
      obtain ⟨n, h⟩ := h
      exact t_X6_wrongLegs_49 C n M16 x1 (0 : Int32)  w (lv_sub hl [2, 3, 0] rfl) h
    replace h := h.2 c21
    exact t_X6_wrongLegs_44 C M16   w (lv_sub hl [] rfl) h
  replace h := h.2 c17
  refine lv_iload_n hx hb dX6_wrongLegs_11 rfl (lv_at hl 0 rfl) ?_
  exact ret_i C w h dX6_wrongLegs_12
end WALK
