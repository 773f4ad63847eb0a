theorem dX5_grows_0 : decode cX5_grows 0 = .ok (.aload_n 0, 1) := by decide +kernel
theorem dX5_grows_1 : decode cX5_grows 1 = .ok (.aload_n 0, 1) := by decide +kernel
theorem dX5_grows_2 : decode cX5_grows 2 = .ok (.getfield 10, 3) := by decide +kernel
theorem dX5_grows_5 : decode cX5_grows 5 = .ok (.getfield 106, 3) := by decide +kernel
theorem dX5_grows_8 : decode cX5_grows 8 = .ok (.bipush 6, 2) := by decide +kernel
theorem dX5_grows_10 : decode cX5_grows 10 = .ok (.iaload, 1) := by decide +kernel
theorem dX5_grows_11 : decode cX5_grows 11 = .ok (.invokevirtual 199, 3) := by decide +kernel
theorem dX5_grows_14 : decode cX5_grows 14 = .ok (.ifCond .eq 7, 3) := by decide +kernel
theorem dX5_grows_17 : decode cX5_grows 17 = .ok (.iconst 1, 1) := by decide +kernel
theorem dX5_grows_18 : decode cX5_grows 18 = .ok (.goto 4, 3) := by decide +kernel
theorem dX5_grows_21 : decode cX5_grows 21 = .ok (.iconst 0, 1) := by decide +kernel
theorem dX5_grows_22 : decode cX5_grows 22 = .ok (.ireturn, 1) := by decide +kernel
theorem dX6_isGrowing_0 : decode cX6_isGrowing 0 = .ok (.aload_n 0, 1) := by decide +kernel
theorem dX6_isGrowing_1 : decode cX6_isGrowing 1 = .ok (.getfield 9, 3) := by decide +kernel
theorem dX6_isGrowing_4 : decode cX6_isGrowing 4 = .ok (.aload_n 0, 1) := by decide +kernel
theorem dX6_isGrowing_5 : decode cX6_isGrowing 5 = .ok (.getfield 19, 3) := by decide +kernel
theorem dX6_isGrowing_8 : decode cX6_isGrowing 8 = .ok (.invokestatic 104, 3) := by decide +kernel
theorem dX6_isGrowing_11 : decode cX6_isGrowing 11 = .ok (.iconst 0, 1) := by decide +kernel
theorem dX6_isGrowing_12 : decode cX6_isGrowing 12 = .ok (.istore_n 1, 1) := by decide +kernel
theorem dX6_isGrowing_13 : decode cX6_isGrowing 13 = .ok (.iconst 0, 1) := by decide +kernel
theorem dX6_isGrowing_14 : decode cX6_isGrowing 14 = .ok (.istore_n 2, 1) := by decide +kernel
theorem dX6_isGrowing_15 : decode cX6_isGrowing 15 = .ok (.iconst 1, 1) := by decide +kernel
theorem dX6_isGrowing_16 : decode cX6_isGrowing 16 = .ok (.istore_n 3, 1) := by decide +kernel
theorem dX6_isGrowing_17 : decode cX6_isGrowing 17 = .ok (.iload_n 3, 1) := by decide +kernel
theorem dX6_isGrowing_18 : decode cX6_isGrowing 18 = .ok (.sipush 200, 3) := by decide +kernel
theorem dX6_isGrowing_21 : decode cX6_isGrowing 21 = .ok (.if_icmp .gt 59, 3) := by decide +kernel
theorem dX6_isGrowing_24 : decode cX6_isGrowing 24 = .ok (.aload_n 0, 1) := by decide +kernel
theorem dX6_isGrowing_25 : decode cX6_isGrowing 25 = .ok (.invokevirtual 226, 3) := by decide +kernel
theorem dX6_isGrowing_28 : decode cX6_isGrowing 28 = .ok (.aload_n 0, 1) := by decide +kernel
theorem dX6_isGrowing_29 : decode cX6_isGrowing 29 = .ok (.getfield 9, 3) := by decide +kernel
theorem dX6_isGrowing_32 : decode cX6_isGrowing 32 = .ok (.iconst 3, 1) := by decide +kernel
theorem dX6_isGrowing_33 : decode cX6_isGrowing 33 = .ok (.iaload, 1) := by decide +kernel
theorem dX6_isGrowing_34 : decode cX6_isGrowing 34 = .ok (.invokestatic 153, 3) := by decide +kernel
theorem dX6_isGrowing_37 : decode cX6_isGrowing 37 = .ok (.istore 4, 2) := by decide +kernel
theorem dX6_isGrowing_39 : decode cX6_isGrowing 39 = .ok (.iload_n 3, 1) := by decide +kernel
theorem dX6_isGrowing_40 : decode cX6_isGrowing 40 = .ok (.bipush 100, 2) := by decide +kernel
theorem dX6_isGrowing_42 : decode cX6_isGrowing 42 = .ok (.if_icmp .gt 19, 3) := by decide +kernel
theorem dX6_isGrowing_45 : decode cX6_isGrowing 45 = .ok (.iload 4, 2) := by decide +kernel
theorem dX6_isGrowing_47 : decode cX6_isGrowing 47 = .ok (.iload_n 1, 1) := by decide +kernel
theorem dX6_isGrowing_48 : decode cX6_isGrowing 48 = .ok (.if_icmp .le 8, 3) := by decide +kernel
theorem dX6_isGrowing_51 : decode cX6_isGrowing 51 = .ok (.iload 4, 2) := by decide +kernel
theorem dX6_isGrowing_53 : decode cX6_isGrowing 53 = .ok (.goto 4, 3) := by decide +kernel
theorem dX6_isGrowing_56 : decode cX6_isGrowing 56 = .ok (.iload_n 1, 1) := by decide +kernel
theorem dX6_isGrowing_57 : decode cX6_isGrowing 57 = .ok (.istore_n 1, 1) := by decide +kernel
theorem dX6_isGrowing_58 : decode cX6_isGrowing 58 = .ok (.goto 16, 3) := by decide +kernel
theorem dX6_isGrowing_61 : decode cX6_isGrowing 61 = .ok (.iload 4, 2) := by decide +kernel
theorem dX6_isGrowing_63 : decode cX6_isGrowing 63 = .ok (.iload_n 2, 1) := by decide +kernel
theorem dX6_isGrowing_64 : decode cX6_isGrowing 64 = .ok (.if_icmp .le 8, 3) := by decide +kernel
theorem dX6_isGrowing_67 : decode cX6_isGrowing 67 = .ok (.iload 4, 2) := by decide +kernel
theorem dX6_isGrowing_69 : decode cX6_isGrowing 69 = .ok (.goto 4, 3) := by decide +kernel
theorem dX6_isGrowing_72 : decode cX6_isGrowing 72 = .ok (.iload_n 2, 1) := by decide +kernel
theorem dX6_isGrowing_73 : decode cX6_isGrowing 73 = .ok (.istore_n 2, 1) := by decide +kernel
theorem dX6_isGrowing_74 : decode cX6_isGrowing 74 = .ok (.iinc 3 1, 3) := by decide +kernel
theorem dX6_isGrowing_77 : decode cX6_isGrowing 77 = .ok (.goto (-60), 3) := by decide +kernel
theorem dX6_isGrowing_80 : decode cX6_isGrowing 80 = .ok (.aload_n 0, 1) := by decide +kernel
theorem dX6_isGrowing_81 : decode cX6_isGrowing 81 = .ok (.getfield 19, 3) := by decide +kernel
theorem dX6_isGrowing_84 : decode cX6_isGrowing 84 = .ok (.aload_n 0, 1) := by decide +kernel
theorem dX6_isGrowing_85 : decode cX6_isGrowing 85 = .ok (.getfield 9, 3) := by decide +kernel
theorem dX6_isGrowing_88 : decode cX6_isGrowing 88 = .ok (.invokestatic 104, 3) := by decide +kernel
theorem dX6_isGrowing_91 : decode cX6_isGrowing 91 = .ok (.iload_n 2, 1) := by decide +kernel
theorem dX6_isGrowing_92 : decode cX6_isGrowing 92 = .ok (.iload_n 1, 1) := by decide +kernel
theorem dX6_isGrowing_93 : decode cX6_isGrowing 93 = .ok (.if_icmp .le 7, 3) := by decide +kernel
theorem dX6_isGrowing_96 : decode cX6_isGrowing 96 = .ok (.iconst 1, 1) := by decide +kernel
theorem dX6_isGrowing_97 : decode cX6_isGrowing 97 = .ok (.goto 4, 3) := by decide +kernel
theorem dX6_isGrowing_100 : decode cX6_isGrowing 100 = .ok (.iconst 0, 1) := by decide +kernel
theorem dX6_isGrowing_101 : decode cX6_isGrowing 101 = .ok (.ireturn, 1) := by decide +kernel
theorem dX6_grows_0 : decode cX6_grows 0 = .ok (.aload_n 0, 1) := by decide +kernel
theorem dX6_grows_1 : decode cX6_grows 1 = .ok (.invokevirtual 229, 3) := by decide +kernel
theorem dX6_grows_4 : decode cX6_grows 4 = .ok (.ifCond .eq 7, 3) := by decide +kernel
theorem dX6_grows_7 : decode cX6_grows 7 = .ok (.iconst 1, 1) := by decide +kernel
theorem dX6_grows_8 : decode cX6_grows 8 = .ok (.goto 4, 3) := by decide +kernel
theorem dX6_grows_11 : decode cX6_grows 11 = .ok (.iconst 0, 1) := by decide +kernel
theorem dX6_grows_12 : decode cX6_grows 12 = .ok (.ireturn, 1) := by decide +kernel
theorem dX5_held_0 : decode cX5_held 0 = .ok (.iconst 0, 1) := by decide +kernel
theorem dX5_held_1 : decode cX5_held 1 = .ok (.istore_n 1, 1) := by decide +kernel
theorem dX5_held_2 : decode cX5_held 2 = .ok (.iload_n 1, 1) := by decide +kernel
theorem dX5_held_3 : decode cX5_held 3 = .ok (.getstatic 152, 3) := by decide +kernel
theorem dX5_held_6 : decode cX5_held 6 = .ok (.bipush 6, 2) := by decide +kernel
theorem dX5_held_8 : decode cX5_held 8 = .ok (.iaload, 1) := by decide +kernel
theorem dX5_held_9 : decode cX5_held 9 = .ok (.if_icmp .gt 19, 3) := by decide +kernel
theorem dX5_held_12 : decode cX5_held 12 = .ok (.aload_n 0, 1) := by decide +kernel
theorem dX5_held_13 : decode cX5_held 13 = .ok (.iload_n 1, 1) := by decide +kernel
theorem dX5_held_14 : decode cX5_held 14 = .ok (.invokevirtual 199, 3) := by decide +kernel
theorem dX5_held_17 : decode cX5_held 17 = .ok (.ifCond .ne 5, 3) := by decide +kernel
theorem dX5_held_20 : decode cX5_held 20 = .ok (.iload_n 1, 1) := by decide +kernel
theorem dX5_held_21 : decode cX5_held 21 = .ok (.ireturn, 1) := by decide +kernel
theorem dX5_held_22 : decode cX5_held 22 = .ok (.iinc 1 1, 3) := by decide +kernel
theorem dX5_held_25 : decode cX5_held 25 = .ok (.goto (-23), 3) := by decide +kernel
theorem dX5_held_28 : decode cX5_held 28 = .ok (.bipush (-4), 2) := by decide +kernel
theorem dX5_held_30 : decode cX5_held 30 = .ok (.ireturn, 1) := by decide +kernel
theorem dX6_held_0 : decode cX6_held 0 = .ok (.aload_n 0, 1) := by decide +kernel
theorem dX6_held_1 : decode cX6_held 1 = .ok (.getfield 9, 3) := by decide +kernel
theorem dX6_held_4 : decode cX6_held 4 = .ok (.bipush 11, 2) := by decide +kernel
theorem dX6_held_6 : decode cX6_held 6 = .ok (.iaload, 1) := by decide +kernel
theorem dX6_held_7 : decode cX6_held 7 = .ok (.istore_n 1, 1) := by decide +kernel
theorem dX6_held_8 : decode cX6_held 8 = .ok (.bipush (-4), 2) := by decide +kernel
theorem dX6_held_10 : decode cX6_held 10 = .ok (.istore_n 2, 1) := by decide +kernel
theorem dX6_held_11 : decode cX6_held 11 = .ok (.iconst 0, 1) := by decide +kernel
theorem dX6_held_12 : decode cX6_held 12 = .ok (.istore_n 3, 1) := by decide +kernel
theorem dX6_held_13 : decode cX6_held 13 = .ok (.iload_n 3, 1) := by decide +kernel
theorem dX6_held_14 : decode cX6_held 14 = .ok (.bipush 10, 2) := by decide +kernel
theorem dX6_held_16 : decode cX6_held 16 = .ok (.if_icmp .ge 30, 3) := by decide +kernel
theorem dX6_held_19 : decode cX6_held 19 = .ok (.iload_n 2, 1) := by decide +kernel
theorem dX6_held_20 : decode cX6_held 20 = .ok (.ifCond .ge 26, 3) := by decide +kernel
theorem dX6_held_23 : decode cX6_held 23 = .ok (.aload_n 0, 1) := by decide +kernel
theorem dX6_held_24 : decode cX6_held 24 = .ok (.getfield 9, 3) := by decide +kernel
theorem dX6_held_27 : decode cX6_held 27 = .ok (.bipush 11, 2) := by decide +kernel
theorem dX6_held_29 : decode cX6_held 29 = .ok (.iload_n 3, 1) := by decide +kernel
theorem dX6_held_30 : decode cX6_held 30 = .ok (.iastore, 1) := by decide +kernel
theorem dX6_held_31 : decode cX6_held 31 = .ok (.aload_n 0, 1) := by decide +kernel
theorem dX6_held_32 : decode cX6_held 32 = .ok (.invokevirtual 229, 3) := by decide +kernel
theorem dX6_held_35 : decode cX6_held 35 = .ok (.ifCond .ne 5, 3) := by decide +kernel
theorem dX6_held_38 : decode cX6_held 38 = .ok (.iload_n 3, 1) := by decide +kernel
theorem dX6_held_39 : decode cX6_held 39 = .ok (.istore_n 2, 1) := by decide +kernel
theorem dX6_held_40 : decode cX6_held 40 = .ok (.iinc 3 1, 3) := by decide +kernel
theorem dX6_held_43 : decode cX6_held 43 = .ok (.goto (-30), 3) := by decide +kernel
theorem dX6_held_46 : decode cX6_held 46 = .ok (.aload_n 0, 1) := by decide +kernel
theorem dX6_held_47 : decode cX6_held 47 = .ok (.getfield 9, 3) := by decide +kernel
theorem dX6_held_50 : decode cX6_held 50 = .ok (.bipush 11, 2) := by decide +kernel
theorem dX6_held_52 : decode cX6_held 52 = .ok (.iload_n 1, 1) := by decide +kernel
theorem dX6_held_53 : decode cX6_held 53 = .ok (.iastore, 1) := by decide +kernel
theorem dX6_held_54 : decode cX6_held 54 = .ok (.iload_n 2, 1) := by decide +kernel
theorem dX6_held_55 : decode cX6_held 55 = .ok (.ireturn, 1) := by decide +kernel
theorem dX5_whip_0 : decode cX5_whip 0 = .ok (.aload_n 0, 1) := by decide +kernel
theorem dX5_whip_1 : decode cX5_whip 1 = .ok (.getfield 10, 3) := by decide +kernel
theorem dX5_whip_4 : decode cX5_whip 4 = .ok (.iload_n 1, 1) := by decide +kernel
theorem dX5_whip_5 : decode cX5_whip 5 = .ok (.invokevirtual 66, 3) := by decide +kernel
theorem dX5_whip_8 : decode cX5_whip 8 = .ok (.ifCond .ne 5, 3) := by decide +kernel
theorem dX5_whip_11 : decode cX5_whip 11 = .ok (.iconst (-1), 1) := by decide +kernel
theorem dX5_whip_12 : decode cX5_whip 12 = .ok (.ireturn, 1) := by decide +kernel
theorem dX5_whip_13 : decode cX5_whip 13 = .ok (.aload_n 0, 1) := by decide +kernel
theorem dX5_whip_14 : decode cX5_whip 14 = .ok (.getfield 10, 3) := by decide +kernel
theorem dX5_whip_17 : decode cX5_whip 17 = .ok (.getfield 70, 3) := by decide +kernel
theorem dX5_whip_20 : decode cX5_whip 20 = .ok (.iload_n 1, 1) := by decide +kernel
theorem dX5_whip_21 : decode cX5_whip 21 = .ok (.aaload, 1) := by decide +kernel
theorem dX5_whip_22 : decode cX5_whip 22 = .ok (.astore_n 2, 1) := by decide +kernel
theorem dX5_whip_23 : decode cX5_whip 23 = .ok (.aload_n 2, 1) := by decide +kernel
theorem dX5_whip_24 : decode cX5_whip 24 = .ok (.getfield 90, 3) := by decide +kernel
theorem dX5_whip_27 : decode cX5_whip 27 = .ok (.aload_n 2, 1) := by decide +kernel
theorem dX5_whip_28 : decode cX5_whip 28 = .ok (.getfield 87, 3) := by decide +kernel
theorem dX5_whip_31 : decode cX5_whip 31 = .ok (.imul, 1) := by decide +kernel
theorem dX5_whip_32 : decode cX5_whip 32 = .ok (.aload_n 2, 1) := by decide +kernel
theorem dX5_whip_33 : decode cX5_whip 33 = .ok (.getfield 78, 3) := by decide +kernel
theorem dX5_whip_36 : decode cX5_whip 36 = .ok (.imul, 1) := by decide +kernel
theorem dX5_whip_37 : decode cX5_whip 37 = .ok (.sipush 10000, 3) := by decide +kernel
theorem dX5_whip_40 : decode cX5_whip 40 = .ok (.idiv, 1) := by decide +kernel
theorem dX5_whip_41 : decode cX5_whip 41 = .ok (.ireturn, 1) := by decide +kernel
theorem dX6_whip_0 : decode cX6_whip 0 = .ok (.aload_n 0, 1) := by decide +kernel
theorem dX6_whip_1 : decode cX6_whip 1 = .ok (.iload_n 1, 1) := by decide +kernel
theorem dX6_whip_2 : decode cX6_whip 2 = .ok (.invokevirtual 117, 3) := by decide +kernel
theorem dX6_whip_5 : decode cX6_whip 5 = .ok (.ifCond .eq 38, 3) := by decide +kernel
theorem dX6_whip_8 : decode cX6_whip 8 = .ok (.aload_n 0, 1) := by decide +kernel
theorem dX6_whip_9 : decode cX6_whip 9 = .ok (.iload_n 1, 1) := by decide +kernel
theorem dX6_whip_10 : decode cX6_whip 10 = .ok (.invokevirtual 188, 3) := by decide +kernel
theorem dX6_whip_13 : decode cX6_whip 13 = .ok (.aload_n 0, 1) := by decide +kernel
theorem dX6_whip_14 : decode cX6_whip 14 = .ok (.iload_n 1, 1) := by decide +kernel
theorem dX6_whip_15 : decode cX6_whip 15 = .ok (.iconst 0, 1) := by decide +kernel
theorem dX6_whip_16 : decode cX6_whip 16 = .ok (.invokevirtual 111, 3) := by decide +kernel
theorem dX6_whip_19 : decode cX6_whip 19 = .ok (.aload_n 0, 1) := by decide +kernel
theorem dX6_whip_20 : decode cX6_whip 20 = .ok (.iload_n 1, 1) := by decide +kernel
theorem dX6_whip_21 : decode cX6_whip 21 = .ok (.iconst 1, 1) := by decide +kernel
theorem dX6_whip_22 : decode cX6_whip 22 = .ok (.invokevirtual 111, 3) := by decide +kernel
theorem dX6_whip_25 : decode cX6_whip 25 = .ok (.invokestatic 123, 3) := by decide +kernel
theorem dX6_whip_28 : decode cX6_whip 28 = .ok (.imul, 1) := by decide +kernel
theorem dX6_whip_29 : decode cX6_whip 29 = .ok (.aload_n 0, 1) := by decide +kernel
theorem dX6_whip_30 : decode cX6_whip 30 = .ok (.iload_n 1, 1) := by decide +kernel
theorem dX6_whip_31 : decode cX6_whip 31 = .ok (.iconst 2, 1) := by decide +kernel
theorem dX6_whip_32 : decode cX6_whip 32 = .ok (.invokevirtual 111, 3) := by decide +kernel
theorem dX6_whip_35 : decode cX6_whip 35 = .ok (.imul, 1) := by decide +kernel
theorem dX6_whip_36 : decode cX6_whip 36 = .ok (.sipush 10000, 3) := by decide +kernel
theorem dX6_whip_39 : decode cX6_whip 39 = .ok (.idiv, 1) := by decide +kernel
theorem dX6_whip_40 : decode cX6_whip 40 = .ok (.goto 4, 3) := by decide +kernel
theorem dX6_whip_43 : decode cX6_whip 43 = .ok (.iconst (-1), 1) := by decide +kernel
theorem dX6_whip_44 : decode cX6_whip 44 = .ok (.ireturn, 1) := by decide +kernel
theorem dX0_pullsAbove_0 : decode cX0_pullsAbove 0 = .ok (.iconst 0, 1) := by decide +kernel
theorem dX0_pullsAbove_1 : decode cX0_pullsAbove 1 = .ok (.istore_n 2, 1) := by decide +kernel
theorem dX0_pullsAbove_2 : decode cX0_pullsAbove 2 = .ok (.iconst 0, 1) := by decide +kernel
theorem dX0_pullsAbove_3 : decode cX0_pullsAbove 3 = .ok (.istore_n 3, 1) := by decide +kernel
theorem dX0_pullsAbove_4 : decode cX0_pullsAbove 4 = .ok (.iload_n 3, 1) := by decide +kernel
theorem dX0_pullsAbove_5 : decode cX0_pullsAbove 5 = .ok (.aload_n 0, 1) := by decide +kernel
theorem dX0_pullsAbove_6 : decode cX0_pullsAbove 6 = .ok (.getfield 24, 3) := by decide +kernel
theorem dX0_pullsAbove_9 : decode cX0_pullsAbove 9 = .ok (.if_icmp .ge 21, 3) := by decide +kernel
theorem dX0_pullsAbove_12 : decode cX0_pullsAbove 12 = .ok (.aload_n 0, 1) := by decide +kernel
theorem dX0_pullsAbove_13 : decode cX0_pullsAbove 13 = .ok (.iload_n 3, 1) := by decide +kernel
theorem dX0_pullsAbove_14 : decode cX0_pullsAbove 14 = .ok (.invokevirtual 80, 3) := by decide +kernel
theorem dX0_pullsAbove_17 : decode cX0_pullsAbove 17 = .ok (.iload_n 1, 1) := by decide +kernel
theorem dX0_pullsAbove_18 : decode cX0_pullsAbove 18 = .ok (.if_icmp .le 6, 3) := by decide +kernel
theorem dX0_pullsAbove_21 : decode cX0_pullsAbove 21 = .ok (.iinc 2 1, 3) := by decide +kernel
theorem dX0_pullsAbove_24 : decode cX0_pullsAbove 24 = .ok (.iinc 3 1, 3) := by decide +kernel
theorem dX0_pullsAbove_27 : decode cX0_pullsAbove 27 = .ok (.goto (-23), 3) := by decide +kernel
theorem dX0_pullsAbove_30 : decode cX0_pullsAbove 30 = .ok (.iload_n 2, 1) := by decide +kernel
theorem dX0_pullsAbove_31 : decode cX0_pullsAbove 31 = .ok (.ireturn, 1) := by decide +kernel
theorem dX5_renders_0 : decode cX5_renders 0 = .ok (.iload_n 1, 1) := by decide +kernel
theorem dX5_renders_1 : decode cX5_renders 1 = .ok (.iconst 0, 1) := by decide +kernel
theorem dX5_renders_2 : decode cX5_renders 2 = .ok (.sipush 9999, 3) := by decide +kernel
theorem dX5_renders_5 : decode cX5_renders 5 = .ok (.invokestatic 129, 3) := by decide +kernel
theorem dX5_renders_8 : decode cX5_renders 8 = .ok (.ifCond .ne 5, 3) := by decide +kernel
theorem dX5_renders_11 : decode cX5_renders 11 = .ok (.iconst (-1), 1) := by decide +kernel
theorem dX5_renders_12 : decode cX5_renders 12 = .ok (.ireturn, 1) := by decide +kernel
theorem dX5_renders_13 : decode cX5_renders 13 = .ok (.aload_n 0, 1) := by decide +kernel
theorem dX5_renders_14 : decode cX5_renders 14 = .ok (.invokevirtual 110, 3) := by decide +kernel
theorem dX5_renders_17 : decode cX5_renders 17 = .ok (.ifCond .eq 14, 3) := by decide +kernel
theorem dX5_renders_20 : decode cX5_renders 20 = .ok (.aload_n 0, 1) := by decide +kernel
theorem dX5_renders_21 : decode cX5_renders 21 = .ok (.getfield 25, 3) := by decide +kernel
theorem dX5_renders_24 : decode cX5_renders 24 = .ok (.iload_n 1, 1) := by decide +kernel
theorem dX5_renders_25 : decode cX5_renders 25 = .ok (.invokevirtual 202, 3) := by decide +kernel
theorem dX5_renders_28 : decode cX5_renders 28 = .ok (.goto 5, 3) := by decide +kernel
theorem dX5_renders_31 : decode cX5_renders 31 = .ok (.bipush (-3), 2) := by decide +kernel
theorem dX5_renders_33 : decode cX5_renders 33 = .ok (.ireturn, 1) := by decide +kernel
theorem dX6_above_0 : decode cX6_above 0 = .ok (.iconst 0, 1) := by decide +kernel
theorem dX6_above_1 : decode cX6_above 1 = .ok (.istore_n 2, 1) := by decide +kernel
theorem dX6_above_2 : decode cX6_above 2 = .ok (.iconst 0, 1) := by decide +kernel
theorem dX6_above_3 : decode cX6_above 3 = .ok (.istore_n 3, 1) := by decide +kernel
theorem dX6_above_4 : decode cX6_above 4 = .ok (.iload_n 3, 1) := by decide +kernel
theorem dX6_above_5 : decode cX6_above 5 = .ok (.aload_n 0, 1) := by decide +kernel
theorem dX6_above_6 : decode cX6_above 6 = .ok (.getfield 9, 3) := by decide +kernel
theorem dX6_above_9 : decode cX6_above 9 = .ok (.bipush 6, 2) := by decide +kernel
theorem dX6_above_11 : decode cX6_above 11 = .ok (.iaload, 1) := by decide +kernel
theorem dX6_above_12 : decode cX6_above 12 = .ok (.if_icmp .ge 32, 3) := by decide +kernel
theorem dX6_above_15 : decode cX6_above 15 = .ok (.iload_n 2, 1) := by decide +kernel
theorem dX6_above_16 : decode cX6_above 16 = .ok (.aload_n 0, 1) := by decide +kernel
theorem dX6_above_17 : decode cX6_above 17 = .ok (.iload_n 3, 1) := by decide +kernel
theorem dX6_above_18 : decode cX6_above 18 = .ok (.aload_n 0, 1) := by decide +kernel
theorem dX6_above_19 : decode cX6_above 19 = .ok (.getfield 9, 3) := by decide +kernel
theorem dX6_above_22 : decode cX6_above 22 = .ok (.iconst 5, 1) := by decide +kernel
theorem dX6_above_23 : decode cX6_above 23 = .ok (.iaload, 1) := by decide +kernel
theorem dX6_above_24 : decode cX6_above 24 = .ok (.invokevirtual 182, 3) := by decide +kernel
theorem dX6_above_27 : decode cX6_above 27 = .ok (.iload_n 1, 1) := by decide +kernel
theorem dX6_above_28 : decode cX6_above 28 = .ok (.if_icmp .le 7, 3) := by decide +kernel
theorem dX6_above_31 : decode cX6_above 31 = .ok (.iconst 1, 1) := by decide +kernel
theorem dX6_above_32 : decode cX6_above 32 = .ok (.goto 4, 3) := by decide +kernel
theorem dX6_above_35 : decode cX6_above 35 = .ok (.iconst 0, 1) := by decide +kernel
theorem dX6_above_36 : decode cX6_above 36 = .ok (.iadd, 1) := by decide +kernel
theorem dX6_above_37 : decode cX6_above 37 = .ok (.istore_n 2, 1) := by decide +kernel
theorem dX6_above_38 : decode cX6_above 38 = .ok (.iinc 3 1, 3) := by decide +kernel
theorem dX6_above_41 : decode cX6_above 41 = .ok (.goto (-37), 3) := by decide +kernel
theorem dX6_above_44 : decode cX6_above 44 = .ok (.iload_n 2, 1) := by decide +kernel
theorem dX6_above_45 : decode cX6_above 45 = .ok (.ireturn, 1) := by decide +kernel
theorem dX6_renders_0 : decode cX6_renders 0 = .ok (.iload_n 1, 1) := by decide +kernel
theorem dX6_renders_1 : decode cX6_renders 1 = .ok (.i2l, 1) := by decide +kernel
theorem dX6_renders_2 : decode cX6_renders 2 = .ok (.lconst 0, 1) := by decide +kernel
theorem dX6_renders_3 : decode cX6_renders 3 = .ok (.ldc2_w 180, 3) := by decide +kernel
theorem dX6_renders_6 : decode cX6_renders 6 = .ok (.invokestatic 47, 3) := by decide +kernel
theorem dX6_renders_9 : decode cX6_renders 9 = .ok (.ifCond .ne 5, 3) := by decide +kernel
theorem dX6_renders_12 : decode cX6_renders 12 = .ok (.iconst (-1), 1) := by decide +kernel
theorem dX6_renders_13 : decode cX6_renders 13 = .ok (.ireturn, 1) := by decide +kernel
theorem dX6_renders_14 : decode cX6_renders 14 = .ok (.aload_n 0, 1) := by decide +kernel
theorem dX6_renders_15 : decode cX6_renders 15 = .ok (.invokevirtual 170, 3) := by decide +kernel
theorem dX6_renders_18 : decode cX6_renders 18 = .ok (.ifCond .ne 6, 3) := by decide +kernel
theorem dX6_renders_21 : decode cX6_renders 21 = .ok (.bipush (-3), 2) := by decide +kernel
theorem dX6_renders_23 : decode cX6_renders 23 = .ok (.ireturn, 1) := by decide +kernel
theorem dX6_renders_24 : decode cX6_renders 24 = .ok (.aload_n 0, 1) := by decide +kernel
theorem dX6_renders_25 : decode cX6_renders 25 = .ok (.aload_n 0, 1) := by decide +kernel
theorem dX6_renders_26 : decode cX6_renders 26 = .ok (.invokevirtual 173, 3) := by decide +kernel
theorem dX6_renders_29 : decode cX6_renders 29 = .ok (.invokevirtual 176, 3) := by decide +kernel
theorem dX6_renders_32 : decode cX6_renders 32 = .ok (.aload_n 0, 1) := by decide +kernel
theorem dX6_renders_33 : decode cX6_renders 33 = .ok (.iload_n 1, 1) := by decide +kernel
theorem dX6_renders_34 : decode cX6_renders 34 = .ok (.invokevirtual 232, 3) := by decide +kernel
theorem dX6_renders_37 : decode cX6_renders 37 = .ok (.ireturn, 1) := by decide +kernel
theorem dX5_winch_0 : decode cX5_winch 0 = .ok (.iload_n 1, 1) := by decide +kernel
theorem dX5_winch_1 : decode cX5_winch 1 = .ok (.iconst 0, 1) := by decide +kernel
theorem dX5_winch_2 : decode cX5_winch 2 = .ok (.getstatic 152, 3) := by decide +kernel
theorem dX5_winch_5 : decode cX5_winch 5 = .ok (.iconst 1, 1) := by decide +kernel
theorem dX5_winch_6 : decode cX5_winch 6 = .ok (.iaload, 1) := by decide +kernel
theorem dX5_winch_7 : decode cX5_winch 7 = .ok (.invokestatic 129, 3) := by decide +kernel
theorem dX5_winch_10 : decode cX5_winch 10 = .ok (.ifCond .ne 5, 3) := by decide +kernel
theorem dX5_winch_13 : decode cX5_winch 13 = .ok (.iconst (-1), 1) := by decide +kernel
theorem dX5_winch_14 : decode cX5_winch 14 = .ok (.ireturn, 1) := by decide +kernel
theorem dX5_winch_15 : decode cX5_winch 15 = .ok (.aload_n 0, 1) := by decide +kernel
theorem dX5_winch_16 : decode cX5_winch 16 = .ok (.invokevirtual 110, 3) := by decide +kernel
theorem dX5_winch_19 : decode cX5_winch 19 = .ok (.ifCond .ne 6, 3) := by decide +kernel
theorem dX5_winch_22 : decode cX5_winch 22 = .ok (.bipush (-3), 2) := by decide +kernel
theorem dX5_winch_24 : decode cX5_winch 24 = .ok (.ireturn, 1) := by decide +kernel
theorem dX5_winch_25 : decode cX5_winch 25 = .ok (.aload_n 0, 1) := by decide +kernel
theorem dX5_winch_26 : decode cX5_winch 26 = .ok (.getfield 25, 3) := by decide +kernel
theorem dX5_winch_29 : decode cX5_winch 29 = .ok (.iconst 0, 1) := by decide +kernel
theorem dX5_winch_30 : decode cX5_winch 30 = .ok (.invokevirtual 202, 3) := by decide +kernel
theorem dX5_winch_33 : decode cX5_winch 33 = .ok (.iload_n 1, 1) := by decide +kernel
theorem dX5_winch_34 : decode cX5_winch 34 = .ok (.if_icmp .gt 5, 3) := by decide +kernel
theorem dX5_winch_37 : decode cX5_winch 37 = .ok (.iconst 0, 1) := by decide +kernel
theorem dX5_winch_38 : decode cX5_winch 38 = .ok (.ireturn, 1) := by decide +kernel
theorem dX5_winch_39 : decode cX5_winch 39 = .ok (.sipush 10000, 3) := by decide +kernel
theorem dX5_winch_42 : decode cX5_winch 42 = .ok (.istore_n 2, 1) := by decide +kernel
theorem dX5_winch_43 : decode cX5_winch 43 = .ok (.iconst 0, 1) := by decide +kernel
theorem dX5_winch_44 : decode cX5_winch 44 = .ok (.istore_n 3, 1) := by decide +kernel
theorem dX5_winch_45 : decode cX5_winch 45 = .ok (.iload_n 3, 1) := by decide +kernel
theorem dX5_winch_46 : decode cX5_winch 46 = .ok (.aload_n 0, 1) := by decide +kernel
theorem dX5_winch_47 : decode cX5_winch 47 = .ok (.getfield 25, 3) := by decide +kernel
theorem dX5_winch_50 : decode cX5_winch 50 = .ok (.getfield 205, 3) := by decide +kernel
theorem dX5_winch_53 : decode cX5_winch 53 = .ok (.if_icmp .ge 41, 3) := by decide +kernel
theorem dX5_winch_56 : decode cX5_winch 56 = .ok (.aload_n 0, 1) := by decide +kernel
theorem dX5_winch_57 : decode cX5_winch 57 = .ok (.getfield 25, 3) := by decide +kernel
theorem dX5_winch_60 : decode cX5_winch 60 = .ok (.iload_n 3, 1) := by decide +kernel
theorem dX5_winch_61 : decode cX5_winch 61 = .ok (.invokevirtual 136, 3) := by decide +kernel
theorem dX5_winch_64 : decode cX5_winch 64 = .ok (.istore 4, 2) := by decide +kernel
theorem dX5_winch_66 : decode cX5_winch 66 = .ok (.iload 4, 2) := by decide +kernel
theorem dX5_winch_68 : decode cX5_winch 68 = .ok (.iload_n 2, 1) := by decide +kernel
theorem dX5_winch_69 : decode cX5_winch 69 = .ok (.if_icmp .ge 19, 3) := by decide +kernel
theorem dX5_winch_72 : decode cX5_winch 72 = .ok (.aload_n 0, 1) := by decide +kernel
theorem dX5_winch_73 : decode cX5_winch 73 = .ok (.getfield 25, 3) := by decide +kernel
theorem dX5_winch_76 : decode cX5_winch 76 = .ok (.iload 4, 2) := by decide +kernel
theorem dX5_winch_78 : decode cX5_winch 78 = .ok (.invokevirtual 202, 3) := by decide +kernel
theorem dX5_winch_81 : decode cX5_winch 81 = .ok (.iload_n 1, 1) := by decide +kernel
theorem dX5_winch_82 : decode cX5_winch 82 = .ok (.if_icmp .gt 6, 3) := by decide +kernel
theorem dX5_winch_85 : decode cX5_winch 85 = .ok (.iload 4, 2) := by decide +kernel
theorem dX5_winch_87 : decode cX5_winch 87 = .ok (.istore_n 2, 1) := by decide +kernel
theorem dX5_winch_88 : decode cX5_winch 88 = .ok (.iinc 3 1, 3) := by decide +kernel
theorem dX5_winch_91 : decode cX5_winch 91 = .ok (.goto (-46), 3) := by decide +kernel
theorem dX5_winch_94 : decode cX5_winch 94 = .ok (.iload_n 2, 1) := by decide +kernel
theorem dX5_winch_95 : decode cX5_winch 95 = .ok (.sipush 9999, 3) := by decide +kernel
theorem dX5_winch_98 : decode cX5_winch 98 = .ok (.if_icmp .le 8, 3) := by decide +kernel
theorem dX5_winch_101 : decode cX5_winch 101 = .ok (.bipush (-4), 2) := by decide +kernel
theorem dX5_winch_103 : decode cX5_winch 103 = .ok (.goto 4, 3) := by decide +kernel
theorem dX5_winch_106 : decode cX5_winch 106 = .ok (.iload_n 2, 1) := by decide +kernel
theorem dX5_winch_107 : decode cX5_winch 107 = .ok (.ireturn, 1) := by decide +kernel
theorem dX6_winch_0 : decode cX6_winch 0 = .ok (.iload_n 1, 1) := by decide +kernel
theorem dX6_winch_1 : decode cX6_winch 1 = .ok (.i2l, 1) := by decide +kernel
theorem dX6_winch_2 : decode cX6_winch 2 = .ok (.lconst 0, 1) := by decide +kernel
theorem dX6_winch_3 : decode cX6_winch 3 = .ok (.ldc2_w 92, 3) := by decide +kernel
theorem dX6_winch_6 : decode cX6_winch 6 = .ok (.invokestatic 47, 3) := by decide +kernel
theorem dX6_winch_9 : decode cX6_winch 9 = .ok (.ifCond .ne 5, 3) := by decide +kernel
theorem dX6_winch_12 : decode cX6_winch 12 = .ok (.iconst (-1), 1) := by decide +kernel
theorem dX6_winch_13 : decode cX6_winch 13 = .ok (.ireturn, 1) := by decide +kernel
theorem dX6_winch_14 : decode cX6_winch 14 = .ok (.aload_n 0, 1) := by decide +kernel
theorem dX6_winch_15 : decode cX6_winch 15 = .ok (.invokevirtual 170, 3) := by decide +kernel
theorem dX6_winch_18 : decode cX6_winch 18 = .ok (.ifCond .ne 6, 3) := by decide +kernel
theorem dX6_winch_21 : decode cX6_winch 21 = .ok (.bipush (-3), 2) := by decide +kernel
theorem dX6_winch_23 : decode cX6_winch 23 = .ok (.ireturn, 1) := by decide +kernel
theorem dX6_winch_24 : decode cX6_winch 24 = .ok (.aload_n 0, 1) := by decide +kernel
theorem dX6_winch_25 : decode cX6_winch 25 = .ok (.aload_n 0, 1) := by decide +kernel
theorem dX6_winch_26 : decode cX6_winch 26 = .ok (.invokevirtual 173, 3) := by decide +kernel
theorem dX6_winch_29 : decode cX6_winch 29 = .ok (.invokevirtual 176, 3) := by decide +kernel
theorem dX6_winch_32 : decode cX6_winch 32 = .ok (.iconst 0, 1) := by decide +kernel
theorem dX6_winch_33 : decode cX6_winch 33 = .ok (.istore_n 2, 1) := by decide +kernel
theorem dX6_winch_34 : decode cX6_winch 34 = .ok (.iload_n 2, 1) := by decide +kernel
theorem dX6_winch_35 : decode cX6_winch 35 = .ok (.sipush 9999, 3) := by decide +kernel
theorem dX6_winch_38 : decode cX6_winch 38 = .ok (.if_icmp .gt 20, 3) := by decide +kernel
theorem dX6_winch_41 : decode cX6_winch 41 = .ok (.aload_n 0, 1) := by decide +kernel
theorem dX6_winch_42 : decode cX6_winch 42 = .ok (.iload_n 2, 1) := by decide +kernel
theorem dX6_winch_43 : decode cX6_winch 43 = .ok (.invokevirtual 232, 3) := by decide +kernel
theorem dX6_winch_46 : decode cX6_winch 46 = .ok (.iload_n 1, 1) := by decide +kernel
theorem dX6_winch_47 : decode cX6_winch 47 = .ok (.if_icmp .gt 5, 3) := by decide +kernel
theorem dX6_winch_50 : decode cX6_winch 50 = .ok (.iload_n 2, 1) := by decide +kernel
theorem dX6_winch_51 : decode cX6_winch 51 = .ok (.ireturn, 1) := by decide +kernel
theorem dX6_winch_52 : decode cX6_winch 52 = .ok (.iinc 2 1, 3) := by decide +kernel
theorem dX6_winch_55 : decode cX6_winch 55 = .ok (.goto (-21), 3) := by decide +kernel
theorem dX6_winch_58 : decode cX6_winch 58 = .ok (.bipush (-4), 2) := by decide +kernel
theorem dX6_winch_60 : decode cX6_winch 60 = .ok (.ireturn, 1) := by decide +kernel
theorem dX3_holdsLegs_0 : decode cX3_holdsLegs 0 = .ok (.aload_n 0, 1) := by decide +kernel
theorem dX3_holdsLegs_1 : decode cX3_holdsLegs 1 = .ok (.getfield 25, 3) := by decide +kernel
theorem dX3_holdsLegs_4 : decode cX3_holdsLegs 4 = .ok (.ifCond .eq 21, 3) := by decide +kernel
theorem dX3_holdsLegs_7 : decode cX3_holdsLegs 7 = .ok (.aload_n 0, 1) := by decide +kernel
theorem dX3_holdsLegs_8 : decode cX3_holdsLegs 8 = .ok (.getfield 25, 3) := by decide +kernel
theorem dX3_holdsLegs_11 : decode cX3_holdsLegs 11 = .ok (.iconst 3, 1) := by decide +kernel
theorem dX3_holdsLegs_12 : decode cX3_holdsLegs 12 = .ok (.irem, 1) := by decide +kernel
theorem dX3_holdsLegs_13 : decode cX3_holdsLegs 13 = .ok (.ifCond .ne 12, 3) := by decide +kernel
theorem dX3_holdsLegs_16 : decode cX3_holdsLegs 16 = .ok (.aload_n 0, 1) := by decide +kernel
theorem dX3_holdsLegs_17 : decode cX3_holdsLegs 17 = .ok (.getfield 25, 3) := by decide +kernel
theorem dX3_holdsLegs_20 : decode cX3_holdsLegs 20 = .ok (.bipush 24, 2) := by decide +kernel
theorem dX3_holdsLegs_22 : decode cX3_holdsLegs 22 = .ok (.if_icmp .le 5, 3) := by decide +kernel
theorem dX3_holdsLegs_25 : decode cX3_holdsLegs 25 = .ok (.iconst 0, 1) := by decide +kernel
theorem dX3_holdsLegs_26 : decode cX3_holdsLegs 26 = .ok (.ireturn, 1) := by decide +kernel
theorem dX3_holdsLegs_27 : decode cX3_holdsLegs 27 = .ok (.iconst 0, 1) := by decide +kernel
theorem dX3_holdsLegs_28 : decode cX3_holdsLegs 28 = .ok (.istore_n 1, 1) := by decide +kernel
theorem dX3_holdsLegs_29 : decode cX3_holdsLegs 29 = .ok (.iload_n 1, 1) := by decide +kernel
theorem dX3_holdsLegs_30 : decode cX3_holdsLegs 30 = .ok (.aload_n 0, 1) := by decide +kernel
theorem dX3_holdsLegs_31 : decode cX3_holdsLegs 31 = .ok (.getfield 25, 3) := by decide +kernel
theorem dX3_holdsLegs_34 : decode cX3_holdsLegs 34 = .ok (.if_icmp .ge 56, 3) := by decide +kernel
theorem dX3_holdsLegs_37 : decode cX3_holdsLegs 37 = .ok (.aload_n 0, 1) := by decide +kernel
theorem dX3_holdsLegs_38 : decode cX3_holdsLegs 38 = .ok (.getfield 28, 3) := by decide +kernel
theorem dX3_holdsLegs_41 : decode cX3_holdsLegs 41 = .ok (.iload_n 1, 1) := by decide +kernel
theorem dX3_holdsLegs_42 : decode cX3_holdsLegs 42 = .ok (.iaload, 1) := by decide +kernel
theorem dX3_holdsLegs_43 : decode cX3_holdsLegs 43 = .ok (.iconst 1, 1) := by decide +kernel
theorem dX3_holdsLegs_44 : decode cX3_holdsLegs 44 = .ok (.bipush 99, 2) := by decide +kernel
theorem dX3_holdsLegs_46 : decode cX3_holdsLegs 46 = .ok (.invokestatic 42, 3) := by decide +kernel
theorem dX3_holdsLegs_49 : decode cX3_holdsLegs 49 = .ok (.ifCond .eq 33, 3) := by decide +kernel
theorem dX3_holdsLegs_52 : decode cX3_holdsLegs 52 = .ok (.iconst 0, 1) := by decide +kernel
theorem dX3_holdsLegs_53 : decode cX3_holdsLegs 53 = .ok (.aload_n 0, 1) := by decide +kernel
theorem dX3_holdsLegs_54 : decode cX3_holdsLegs 54 = .ok (.getfield 28, 3) := by decide +kernel
theorem dX3_holdsLegs_57 : decode cX3_holdsLegs 57 = .ok (.iload_n 1, 1) := by decide +kernel
theorem dX3_holdsLegs_58 : decode cX3_holdsLegs 58 = .ok (.iconst 1, 1) := by decide +kernel
theorem dX3_holdsLegs_59 : decode cX3_holdsLegs 59 = .ok (.iadd, 1) := by decide +kernel
theorem dX3_holdsLegs_60 : decode cX3_holdsLegs 60 = .ok (.iaload, 1) := by decide +kernel
theorem dX3_holdsLegs_61 : decode cX3_holdsLegs 61 = .ok (.invokestatic 51, 3) := by decide +kernel
theorem dX3_holdsLegs_64 : decode cX3_holdsLegs 64 = .ok (.ifCond .eq 18, 3) := by decide +kernel
theorem dX3_holdsLegs_67 : decode cX3_holdsLegs 67 = .ok (.iconst 2, 1) := by decide +kernel
theorem dX3_holdsLegs_68 : decode cX3_holdsLegs 68 = .ok (.aload_n 0, 1) := by decide +kernel
theorem dX3_holdsLegs_69 : decode cX3_holdsLegs 69 = .ok (.getfield 28, 3) := by decide +kernel
theorem dX3_holdsLegs_72 : decode cX3_holdsLegs 72 = .ok (.iload_n 1, 1) := by decide +kernel
theorem dX3_holdsLegs_73 : decode cX3_holdsLegs 73 = .ok (.iconst 2, 1) := by decide +kernel
theorem dX3_holdsLegs_74 : decode cX3_holdsLegs 74 = .ok (.iadd, 1) := by decide +kernel
theorem dX3_holdsLegs_75 : decode cX3_holdsLegs 75 = .ok (.iaload, 1) := by decide +kernel
theorem dX3_holdsLegs_76 : decode cX3_holdsLegs 76 = .ok (.invokestatic 51, 3) := by decide +kernel
theorem dX3_holdsLegs_79 : decode cX3_holdsLegs 79 = .ok (.ifCond .ne 5, 3) := by decide +kernel
theorem dX3_holdsLegs_82 : decode cX3_holdsLegs 82 = .ok (.iconst 0, 1) := by decide +kernel
theorem dX3_holdsLegs_83 : decode cX3_holdsLegs 83 = .ok (.ireturn, 1) := by decide +kernel
theorem dX3_holdsLegs_84 : decode cX3_holdsLegs 84 = .ok (.iinc 1 3, 3) := by decide +kernel
theorem dX3_holdsLegs_87 : decode cX3_holdsLegs 87 = .ok (.goto (-58), 3) := by decide +kernel
theorem dX3_holdsLegs_90 : decode cX3_holdsLegs 90 = .ok (.iconst 1, 1) := by decide +kernel
theorem dX3_holdsLegs_91 : decode cX3_holdsLegs 91 = .ok (.ireturn, 1) := by decide +kernel
theorem dX3_legsHeld_0 : decode cX3_legsHeld 0 = .ok (.aload_n 0, 1) := by decide +kernel
theorem dX3_legsHeld_1 : decode cX3_legsHeld 1 = .ok (.getfield 25, 3) := by decide +kernel
theorem dX3_legsHeld_4 : decode cX3_legsHeld 4 = .ok (.iconst 3, 1) := by decide +kernel
theorem dX3_legsHeld_5 : decode cX3_legsHeld 5 = .ok (.idiv, 1) := by decide +kernel
theorem dX3_legsHeld_6 : decode cX3_legsHeld 6 = .ok (.ireturn, 1) := by decide +kernel
theorem dX5_greatestOfLegs_0 : decode cX5_greatestOfLegs 0 = .ok (.iconst 0, 1) := by decide +kernel
theorem dX5_greatestOfLegs_1 : decode cX5_greatestOfLegs 1 = .ok (.istore_n 3, 1) := by decide +kernel
theorem dX5_greatestOfLegs_2 : decode cX5_greatestOfLegs 2 = .ok (.iconst 0, 1) := by decide +kernel
theorem dX5_greatestOfLegs_3 : decode cX5_greatestOfLegs 3 = .ok (.istore 4, 2) := by decide +kernel
theorem dX5_greatestOfLegs_5 : decode cX5_greatestOfLegs 5 = .ok (.iload 4, 2) := by decide +kernel
theorem dX5_greatestOfLegs_7 : decode cX5_greatestOfLegs 7 = .ok (.aload_n 1, 1) := by decide +kernel
theorem dX5_greatestOfLegs_8 : decode cX5_greatestOfLegs 8 = .ok (.invokevirtual 329, 3) := by decide +kernel
theorem dX5_greatestOfLegs_11 : decode cX5_greatestOfLegs 11 = .ok (.if_icmp .ge 67, 3) := by decide +kernel
theorem dX5_greatestOfLegs_14 : decode cX5_greatestOfLegs 14 = .ok (.aload_n 0, 1) := by decide +kernel
theorem dX5_greatestOfLegs_15 : decode cX5_greatestOfLegs 15 = .ok (.getfield 25, 3) := by decide +kernel
theorem dX5_greatestOfLegs_18 : decode cX5_greatestOfLegs 18 = .ok (.aload_n 1, 1) := by decide +kernel
theorem dX5_greatestOfLegs_19 : decode cX5_greatestOfLegs 19 = .ok (.getfield 238, 3) := by decide +kernel
theorem dX5_greatestOfLegs_22 : decode cX5_greatestOfLegs 22 = .ok (.iconst 3, 1) := by decide +kernel
theorem dX5_greatestOfLegs_23 : decode cX5_greatestOfLegs 23 = .ok (.iload 4, 2) := by decide +kernel
theorem dX5_greatestOfLegs_25 : decode cX5_greatestOfLegs 25 = .ok (.imul, 1) := by decide +kernel
theorem dX5_greatestOfLegs_26 : decode cX5_greatestOfLegs 26 = .ok (.iconst 1, 1) := by decide +kernel
theorem dX5_greatestOfLegs_27 : decode cX5_greatestOfLegs 27 = .ok (.iadd, 1) := by decide +kernel
theorem dX5_greatestOfLegs_28 : decode cX5_greatestOfLegs 28 = .ok (.iaload, 1) := by decide +kernel
theorem dX5_greatestOfLegs_29 : decode cX5_greatestOfLegs 29 = .ok (.putfield 326, 3) := by decide +kernel
theorem dX5_greatestOfLegs_32 : decode cX5_greatestOfLegs 32 = .ok (.aload_n 0, 1) := by decide +kernel
theorem dX5_greatestOfLegs_33 : decode cX5_greatestOfLegs 33 = .ok (.getfield 25, 3) := by decide +kernel
theorem dX5_greatestOfLegs_36 : decode cX5_greatestOfLegs 36 = .ok (.iload 4, 2) := by decide +kernel
theorem dX5_greatestOfLegs_38 : decode cX5_greatestOfLegs 38 = .ok (.iload_n 2, 1) := by decide +kernel
theorem dX5_greatestOfLegs_39 : decode cX5_greatestOfLegs 39 = .ok (.if_icmp .ne 7, 3) := by decide +kernel
theorem dX5_greatestOfLegs_42 : decode cX5_greatestOfLegs 42 = .ok (.iconst 0, 1) := by decide +kernel
theorem dX5_greatestOfLegs_43 : decode cX5_greatestOfLegs 43 = .ok (.goto 14, 3) := by decide +kernel
theorem dX5_greatestOfLegs_46 : decode cX5_greatestOfLegs 46 = .ok (.aload_n 1, 1) := by decide +kernel
theorem dX5_greatestOfLegs_47 : decode cX5_greatestOfLegs 47 = .ok (.getfield 238, 3) := by decide +kernel
theorem dX5_greatestOfLegs_50 : decode cX5_greatestOfLegs 50 = .ok (.iconst 3, 1) := by decide +kernel
theorem dX5_greatestOfLegs_51 : decode cX5_greatestOfLegs 51 = .ok (.iload 4, 2) := by decide +kernel
theorem dX5_greatestOfLegs_53 : decode cX5_greatestOfLegs 53 = .ok (.imul, 1) := by decide +kernel
theorem dX5_greatestOfLegs_54 : decode cX5_greatestOfLegs 54 = .ok (.iconst 2, 1) := by decide +kernel
theorem dX5_greatestOfLegs_55 : decode cX5_greatestOfLegs 55 = .ok (.iadd, 1) := by decide +kernel
theorem dX5_greatestOfLegs_56 : decode cX5_greatestOfLegs 56 = .ok (.iaload, 1) := by decide +kernel
theorem dX5_greatestOfLegs_57 : decode cX5_greatestOfLegs 57 = .ok (.putfield 155, 3) := by decide +kernel
theorem dX5_greatestOfLegs_60 : decode cX5_greatestOfLegs 60 = .ok (.iload_n 3, 1) := by decide +kernel
theorem dX5_greatestOfLegs_61 : decode cX5_greatestOfLegs 61 = .ok (.aload_n 0, 1) := by decide +kernel
theorem dX5_greatestOfLegs_62 : decode cX5_greatestOfLegs 62 = .ok (.getfield 25, 3) := by decide +kernel
theorem dX5_greatestOfLegs_65 : decode cX5_greatestOfLegs 65 = .ok (.invokevirtual 143, 3) := by decide +kernel
theorem dX5_greatestOfLegs_68 : decode cX5_greatestOfLegs 68 = .ok (.invokestatic 181, 3) := by decide +kernel
theorem dX5_greatestOfLegs_71 : decode cX5_greatestOfLegs 71 = .ok (.istore_n 3, 1) := by decide +kernel
theorem dX5_greatestOfLegs_72 : decode cX5_greatestOfLegs 72 = .ok (.iinc 4 1, 3) := by decide +kernel
theorem dX5_greatestOfLegs_75 : decode cX5_greatestOfLegs 75 = .ok (.goto (-70), 3) := by decide +kernel
theorem dX5_greatestOfLegs_78 : decode cX5_greatestOfLegs 78 = .ok (.iload_n 3, 1) := by decide +kernel
theorem dX5_greatestOfLegs_79 : decode cX5_greatestOfLegs 79 = .ok (.ireturn, 1) := by decide +kernel
theorem dX5_hoursOfLegs_0 : decode cX5_hoursOfLegs 0 = .ok (.iconst 0, 1) := by decide +kernel
theorem dX5_hoursOfLegs_1 : decode cX5_hoursOfLegs 1 = .ok (.istore_n 1, 1) := by decide +kernel
theorem dX5_hoursOfLegs_2 : decode cX5_hoursOfLegs 2 = .ok (.iconst 0, 1) := by decide +kernel
theorem dX5_hoursOfLegs_3 : decode cX5_hoursOfLegs 3 = .ok (.istore_n 2, 1) := by decide +kernel
theorem dX5_hoursOfLegs_4 : decode cX5_hoursOfLegs 4 = .ok (.iload_n 2, 1) := by decide +kernel
theorem dX5_hoursOfLegs_5 : decode cX5_hoursOfLegs 5 = .ok (.aload_n 0, 1) := by decide +kernel
theorem dX5_hoursOfLegs_6 : decode cX5_hoursOfLegs 6 = .ok (.invokevirtual 329, 3) := by decide +kernel
theorem dX5_hoursOfLegs_9 : decode cX5_hoursOfLegs 9 = .ok (.if_icmp .ge 20, 3) := by decide +kernel
theorem dX5_hoursOfLegs_12 : decode cX5_hoursOfLegs 12 = .ok (.iload_n 1, 1) := by decide +kernel
theorem dX5_hoursOfLegs_13 : decode cX5_hoursOfLegs 13 = .ok (.aload_n 0, 1) := by decide +kernel
theorem dX5_hoursOfLegs_14 : decode cX5_hoursOfLegs 14 = .ok (.getfield 238, 3) := by decide +kernel
theorem dX5_hoursOfLegs_17 : decode cX5_hoursOfLegs 17 = .ok (.iconst 3, 1) := by decide +kernel
theorem dX5_hoursOfLegs_18 : decode cX5_hoursOfLegs 18 = .ok (.iload_n 2, 1) := by decide +kernel
theorem dX5_hoursOfLegs_19 : decode cX5_hoursOfLegs 19 = .ok (.imul, 1) := by decide +kernel
theorem dX5_hoursOfLegs_20 : decode cX5_hoursOfLegs 20 = .ok (.iaload, 1) := by decide +kernel
theorem dX5_hoursOfLegs_21 : decode cX5_hoursOfLegs 21 = .ok (.iadd, 1) := by decide +kernel
theorem dX5_hoursOfLegs_22 : decode cX5_hoursOfLegs 22 = .ok (.istore_n 1, 1) := by decide +kernel
theorem dX5_hoursOfLegs_23 : decode cX5_hoursOfLegs 23 = .ok (.iinc 2 1, 3) := by decide +kernel
theorem dX5_hoursOfLegs_26 : decode cX5_hoursOfLegs 26 = .ok (.goto (-22), 3) := by decide +kernel
theorem dX5_hoursOfLegs_29 : decode cX5_hoursOfLegs 29 = .ok (.iload_n 1, 1) := by decide +kernel
theorem dX5_hoursOfLegs_30 : decode cX5_hoursOfLegs 30 = .ok (.ireturn, 1) := by decide +kernel
section WALK
variable {p : Program} {l : Launch} {e : Env} {s : State} {m : MethodId} {args : Array Value} {below : List Frame} {meth : Method} {c : Code} {G : GG}

def j_X5_grows_22 (post : Int32 → Mem → Prop) (M : Mem) (y0 : Int32) : Prop := post y0 M
def q_X5_grows (M : Mem) (post : Int32 → Mem → Prop) : Prop := q_X5_growsWith M (M 11 6) (fun r1 M2 => (r1 = 0 → (j_X5_grows_22 post M2 (0 : Int32))) ∧ (¬ (r1 = 0) → (j_X5_grows_22 post M2 (1 : Int32))))
set_option maxHeartbeats 4000000 in
set_option maxRecDepth 100000 in
theorem t_X5_grows_22 (C : Cx G p s m args meth c RX5 cX5_grows 1 (some .int)) {post : Int32 → Mem → Prop} (M : Mem) (y0 : Int32) {H : Heap} {locs : List Loc} {ls : Array Slot} (w : Wd G s M H locs) (hl : lv_has ls 1 []) (h : j_X5_grows_22 post M y0) : W p l e (rmk 5) s m args below meth c H locs 0 0 (MQ below (va_Qi post (Qw G) (Af G s.heap.size)) args s 0 0 (Af G s.heap.size)) (F0 m 22 ls [.int y0]) := by
  have hx := C.1.1
  have hb := C.1.2.1
  unfold j_X5_grows_22 at h
  exact ret_i C w h dX5_grows_22
set_option maxHeartbeats 4000000 in
set_option maxRecDepth 100000 in
theorem c_X5_grows (l : Launch) (G : GG) (hG : Ag G) (sz : Nat) (M : Mem) (post : Int32 → Mem → Prop) (h : q_X5_grows M post) : Met l yX5_grows (Cond.code yX5_grows cX5_grows 1 (some .int) :: wsL_law) (rmk 5) (va_Pc [.ref (ga G 0)] (Pw G sz M)) (va_Qi post (Qw G) (Af G sz)) 0 0 (Af G sz) := by
  refine Met.ofW (cc := cX5_grows) (maxL := 1) (ret := (some .int)) (by decide) rfl ?_
  intro p e s m args below meth c s₁ B hml hv
  obtain ⟨rfl, hsz, hE, hP⟩ := hv
  subst hsz
  have C := Cx.of (own := RX5) hG hE rfl hml B
  have w : Wd G s M s.heap [] := ⟨hP, va_S.rf⟩
  have hl := lv_entry [.ref (ga G 0)] (n := 1) (Nat.le_of_ble_eq_true rfl)
  rw [lg_entry_eq]
  generalize (lg_sl [.ref (ga G 0)] ++ List.replicate (1 - (lg_sl [.ref (ga G 0)]).length) Slot.unset).toArray = ls at hl ⊢
  have hl : lv_has ls 1 [(0, .ref (ga G 0))] := hl
  have hx := C.1.1
  have hb := C.1.2.1
  show W p l e (rmk 5) s m _ below meth c s.heap [] 0 0 _ _
  unfold q_X5_grows at h
  refine lv_aload_n hx hb dX5_grows_0 rfl (lv_at hl 0 rfl) ?_
  refine lv_aload_n hx hb dX5_grows_1 rfl (lv_at hl 0 rfl) ?_
  refine gt_5_0 C w kw_1_16 dX5_grows_2 ?_
  refine gn_4_2 C w ⟨by decide, by decide⟩ kn_16 dX5_grows_5 ?_
  refine lv_bipush (v := 6) hx hb dX5_grows_8 (by decide) ?_
  refine pw_ld C w (i := 11) (by decide) (pE_st ⟨by decide, by decide⟩) (vl (x := (6 : Int32)) (by decide)) (k := 6) (by decide) dX5_grows_10 ?_
  refine end_i w (run_V (As := [.int (M 11 6)]) C w hl.1 (c_X5_growsWith l G C.2.2.1 _ _ (M 11 6)  _ h) kw_30_1 kw_1_2 kw_29_22 kw_29_23 kw_30_0 hd_X5_growsWith ⟨by decide, by decide⟩ (w.recv C (i := 0) (by decide) (pE_5) rfl) rfl (Nat.le_of_ble_eq_true rfl) dX5_grows_11) (fun r1 M2 H locs h w => ?_)
  refine lv_if_eq (tgt := 21) hx hb dX5_grows_14 (by decide) (fun c3 => ?_) (fun c3 => ?_)
  · replace h := h.1 c3
    refine lv_iconst (v := 0) hx hb dX5_grows_21 (by decide) ?_
    exact t_X5_grows_22 C M2 (0 : Int32)  w (lv_sub hl [] rfl) h
  replace h := h.2 c3
  refine lv_iconst (v := 1) hx hb dX5_grows_17 (by decide) ?_
  refine lv_goto (tgt := 22) hx hb dX5_grows_18 (by decide) ?_
  exact t_X5_grows_22 C M2 (1 : Int32)  w (lv_sub hl [] rfl) h
def j_X6_isGrowing_101 (post : Int32 → Mem → Prop) (M : Mem) (y0 : Int32) : Prop := (y0 = 0 ∨ y0 = 1) ∧ post y0 M
def j_X6_isGrowing_74 (k17 : Mem → Int32 → Int32 → Int32 → Prop) (post : Int32 → Mem → Prop) (M : Mem) (x1 : Int32) (x2 : Int32) (x3 : Int32) : Prop := k17 M x1 x2 (x3 + (1 : Int32))
def j_X6_isGrowing_73 (k17 : Mem → Int32 → Int32 → Int32 → Prop) (post : Int32 → Mem → Prop) (M : Mem) (y0 : Int32) (x1 : Int32) (x3 : Int32) : Prop := j_X6_isGrowing_74 k17 post M x1 y0 x3
def j_X6_isGrowing_57 (k17 : Mem → Int32 → Int32 → Int32 → Prop) (post : Int32 → Mem → Prop) (M : Mem) (y0 : Int32) (x2 : Int32) (x3 : Int32) : Prop := j_X6_isGrowing_74 k17 post M y0 x2 x3
def b_X6_isGrowing_17 (k17 : Mem → Int32 → Int32 → Int32 → Prop) (post : Int32 → Mem → Prop) (M : Mem) (x1 : Int32) (x2 : Int32) (x3 : Int32) : Prop := ((200 : Int32) < x3 → (q_X6_copies M 61 58 (fun M3 => (x2 ≤ x1 → (j_X6_isGrowing_101 post M3 (0 : Int32))) ∧ (¬ (x2 ≤ x1) → (j_X6_isGrowing_101 post M3 (1 : Int32)))))) ∧ (¬ ((200 : Int32) < x3) → (q_X6_goesYaw M  (fun M6 => q_X6_amount M6 (M6 58 3) (fun r7 M8 => ((100 : Int32) < x3 → ((r7 ≤ x2 → (j_X6_isGrowing_73 k17 post M8 x2 x1 x3)) ∧ (¬ (r7 ≤ x2) → (j_X6_isGrowing_73 k17 post M8 r7 x1 x3)))) ∧ (¬ ((100 : Int32) < x3) → ((r7 ≤ x1 → (j_X6_isGrowing_57 k17 post M8 x1 x2 x3)) ∧ (¬ (r7 ≤ x1) → (j_X6_isGrowing_57 k17 post M8 r7 x2 x3))))))))
def lp_X6_isGrowing_17 (post : Int32 → Mem → Prop) : Nat → Mem → Int32 → Int32 → Int32 → Prop
  | 0 => fun _ _ _ _ => False
  | n + 1 => fun M x1 x2 x3 => b_X6_isGrowing_17 (lp_X6_isGrowing_17 post n) post M x1 x2 x3
def q_X6_isGrowing (M : Mem) (post : Int32 → Mem → Prop) : Prop := q_X6_copies M 58 61 (fun M13 => ∃ n, lp_X6_isGrowing_17 post n M13 (0 : Int32) (0 : Int32) (1 : Int32))
set_option maxHeartbeats 4000000 in
set_option maxRecDepth 100000 in
theorem t_X6_isGrowing_101 (C : Cx G p s m args meth c RX6 cX6_isGrowing 5 (some .boolean)) {post : Int32 → Mem → Prop} (M : Mem) (y0 : Int32) {H : Heap} {locs : List Loc} {ls : Array Slot} (w : Wd G s M H locs) (hl : lv_has ls 5 []) (h : j_X6_isGrowing_101 post M y0) : W p l e (rmk 3) s m args below meth c H locs 0 0 (MQ below (va_Qi post (Qw G) (Af G s.heap.size)) args s 0 0 (Af G s.heap.size)) (F0 m 101 ls [.int y0]) := by
  have hx := C.1.1
  have hb := C.1.2.1
  unfold j_X6_isGrowing_101 at h
  exact ret_z C w h dX6_isGrowing_101
set_option maxHeartbeats 4000000 in
set_option maxRecDepth 100000 in
theorem t_X6_isGrowing_74 (C : Cx G p s m args meth c RX6 cX6_isGrowing 5 (some .boolean)) {post : Int32 → Mem → Prop} {k17 : Mem → Int32 → Int32 → Int32 → Prop} (hk17 : ∀ (M : Mem) (x1 : Int32) (x2 : Int32) (x3 : Int32) (H : Heap) (locs : List Loc) (ls : Array Slot), Wd G s M H locs → lv_has ls 5 [(0, .ref (ga G 57)), (1, .int x1), (2, .int x2), (3, .int x3)] → k17 M x1 x2 x3 → W p l e (rmk 3) s m args below meth c H locs 0 0 (MQ below (va_Qi post (Qw G) (Af G s.heap.size)) args s 0 0 (Af G s.heap.size)) (F0 m 17 ls [])) (M : Mem) (x1 : Int32) (x2 : Int32) (x3 : Int32) {H : Heap} {locs : List Loc} {ls : Array Slot} (w : Wd G s M H locs) (hl : lv_has ls 5 [(0, .ref (ga G 57)), (1, .int x1), (2, .int x2), (3, .int x3)]) (h : j_X6_isGrowing_74 k17 post M x1 x2 x3) : W p l e (rmk 3) s m args below meth c H locs 0 0 (MQ below (va_Qi post (Qw G) (Af G s.heap.size)) args s 0 0 (Af G s.heap.size)) (F0 m 74 ls []) := by
  have hx := C.1.1
  have hb := C.1.2.1
  unfold j_X6_isGrowing_74 at h
  refine lv_iinc (v := (x3 + (1 : Int32))) (lv' := [(3, .int (x3 + (1 : Int32))), (0, .ref (ga G 57)), (1, .int x1), (2, .int x2)]) hx hb dX6_isGrowing_74 hl (k := 3) rfl rfl (by decide) rfl (fun ls hl => ?_)
  refine lv_goto (tgt := 17) hx hb dX6_isGrowing_77 (by decide) ?_
  exact hk17 M x1 x2 (x3 + (1 : Int32)) _ _ _  w (lv_sub hl [1, 2, 3, 0] rfl) h
set_option maxHeartbeats 4000000 in
set_option maxRecDepth 100000 in
theorem t_X6_isGrowing_73 (C : Cx G p s m args meth c RX6 cX6_isGrowing 5 (some .boolean)) {post : Int32 → Mem → Prop} {k17 : Mem → Int32 → Int32 → Int32 → Prop} (hk17 : ∀ (M : Mem) (x1 : Int32) (x2 : Int32) (x3 : Int32) (H : Heap) (locs : List Loc) (ls : Array Slot), Wd G s M H locs → lv_has ls 5 [(0, .ref (ga G 57)), (1, .int x1), (2, .int x2), (3, .int x3)] → k17 M x1 x2 x3 → W p l e (rmk 3) s m args below meth c H locs 0 0 (MQ below (va_Qi post (Qw G) (Af G s.heap.size)) args s 0 0 (Af G s.heap.size)) (F0 m 17 ls [])) (M : Mem) (y0 : Int32) (x1 : Int32) (x3 : Int32) {H : Heap} {locs : List Loc} {ls : Array Slot} (w : Wd G s M H locs) (hl : lv_has ls 5 [(0, .ref (ga G 57)), (1, .int x1), (3, .int x3)]) (h : j_X6_isGrowing_73 k17 post M y0 x1 x3) : W p l e (rmk 3) s m args below meth c H locs 0 0 (MQ below (va_Qi post (Qw G) (Af G s.heap.size)) args s 0 0 (Af G s.heap.size)) (F0 m 73 ls [.int y0]) := by
  have hx := C.1.1
  have hb := C.1.2.1
  unfold j_X6_isGrowing_73 at h
  refine lv_istore_n (lv' := [(2, .int y0), (0, .ref (ga G 57)), (1, .int x1), (3, .int x3)]) hx hb dX6_isGrowing_73 rfl hl (by decide) rfl (fun ls hl => ?_)
  exact t_X6_isGrowing_74 C hk17 M x1 y0 x3  w (lv_sub hl [1, 2, 0, 3] rfl) h
set_option maxHeartbeats 4000000 in
set_option maxRecDepth 100000 in
theorem t_X6_isGrowing_57 (C : Cx G p s m args meth c RX6 cX6_isGrowing 5 (some .boolean)) {post : Int32 → Mem → Prop} {k17 : Mem → Int32 → Int32 → Int32 → Prop} (hk17 : ∀ (M : Mem) (x1 : Int32) (x2 : Int32) (x3 : Int32) (H : Heap) (locs : List Loc) (ls : Array Slot), Wd G s M H locs → lv_has ls 5 [(0, .ref (ga G 57)), (1, .int x1), (2, .int x2), (3, .int x3)] → k17 M x1 x2 x3 → W p l e (rmk 3) s m args below meth c H locs 0 0 (MQ below (va_Qi post (Qw G) (Af G s.heap.size)) args s 0 0 (Af G s.heap.size)) (F0 m 17 ls [])) (M : Mem) (y0 : Int32) (x2 : Int32) (x3 : Int32) {H : Heap} {locs : List Loc} {ls : Array Slot} (w : Wd G s M H locs) (hl : lv_has ls 5 [(0, .ref (ga G 57)), (2, .int x2), (3, .int x3)]) (h : j_X6_isGrowing_57 k17 post M y0 x2 x3) : W p l e (rmk 3) s m args below meth c H locs 0 0 (MQ below (va_Qi post (Qw G) (Af G s.heap.size)) args s 0 0 (Af G s.heap.size)) (F0 m 57 ls [.int y0]) := by
  have hx := C.1.1
  have hb := C.1.2.1
  unfold j_X6_isGrowing_57 at h
  refine lv_istore_n (lv' := [(1, .int y0), (0, .ref (ga G 57)), (2, .int x2), (3, .int x3)]) hx hb dX6_isGrowing_57 rfl hl (by decide) rfl (fun ls hl => ?_)
  refine lv_goto (tgt := 74) hx hb dX6_isGrowing_58 (by decide) ?_
  exact t_X6_isGrowing_74 C hk17 M y0 x2 x3  w (lv_sub hl [1, 0, 2, 3] rfl) h
set_option maxHeartbeats 4000000 in
set_option maxRecDepth 100000 in
theorem t_X6_isGrowing_17 (C : Cx G p s m args meth c RX6 cX6_isGrowing 5 (some .boolean)) {post : Int32 → Mem → Prop} : ∀ (n : Nat) (M : Mem) (x1 : Int32) (x2 : Int32) (x3 : Int32) {H : Heap} {locs : List Loc} {ls : Array Slot} (w : Wd G s M H locs) (hl : lv_has ls 5 [(0, .ref (ga G 57)), (1, .int x1), (2, .int x2), (3, .int x3)]) (h : lp_X6_isGrowing_17 post n M x1 x2 x3), W p l e (rmk 3) s m args below meth c H locs 0 0 (MQ below (va_Qi post (Qw G) (Af G s.heap.size)) args s 0 0 (Af G s.heap.size)) (F0 m 17 ls []) := by
  have hx := C.1.1
  have hb := C.1.2.1
  intro n9
  induction n9 with
  | zero => intro M x1 x2 x3 H locs ls w hl h; exact absurd h id
  | succ n9 ih9 =>
    intro M x1 x2 x3 H locs ls w hl h
    have hk17 : ∀ (M : Mem) (x1 : Int32) (x2 : Int32) (x3 : Int32) (H : Heap) (locs : List Loc) (ls : Array Slot), Wd G s M H locs → lv_has ls 5 [(0, .ref (ga G 57)), (1, .int x1), (2, .int x2), (3, .int x3)] → lp_X6_isGrowing_17 post n9 M x1 x2 x3 → W p l e (rmk 3) s m args below meth c H locs 0 0 (MQ below (va_Qi post (Qw G) (Af G s.heap.size)) args s 0 0 (Af G s.heap.size)) (F0 m 17 ls []) := fun M x1 x2 x3 H locs ls w hl h => ih9 M x1 x2 x3 w hl h
    replace h : b_X6_isGrowing_17 (lp_X6_isGrowing_17 post n9) post M x1 x2 x3 := h
    unfold b_X6_isGrowing_17 at h
    refine lv_iload_n hx hb dX6_isGrowing_17 rfl (lv_at hl 3 rfl) ?_
    refine lv_sipush (v := 200) hx hb dX6_isGrowing_18 (by decide) ?_
    refine lv_icmp_gt (tgt := 80) hx hb dX6_isGrowing_21 (by decide) (fun c1 => ?_) (fun c1 => ?_)
    · replace h := h.1 c1
      refine lv_aload_n hx hb dX6_isGrowing_80 rfl (lv_at hl 0 rfl) ?_
      refine gt_6_3 C w kw_5_3 dX6_isGrowing_81 ?_
      refine lv_aload_n hx hb dX6_isGrowing_84 rfl (lv_at hl 0 rfl) ?_
      refine gt_6_0 C w kw_5_0 dX6_isGrowing_85 ?_
      refine end_v w (run_S (As := [.ref (ga G 61), .ref (ga G 58)]) C w hl.1 (c_X6_copies l G C.2.2.1 _ _ 61 58 ⟨by decide, by decide⟩ ⟨by decide, by decide⟩ _ h) kw_13_8 kw_1_5 kw_13_6 kw_13_7 hd_X6_copies ⟨by decide, by decide⟩ rfl (Nat.le_of_ble_eq_true rfl) dX6_isGrowing_88) (fun M3 H locs h w => ?_)
      refine lv_iload_n hx hb dX6_isGrowing_91 rfl (lv_at hl 2 rfl) ?_
      refine lv_iload_n hx hb dX6_isGrowing_92 rfl (lv_at hl 1 rfl) ?_
      refine lv_icmp_le (tgt := 100) hx hb dX6_isGrowing_93 (by decide) (fun c4 => ?_) (fun c4 => ?_)
      · replace h := h.1 c4
        refine lv_iconst (v := 0) hx hb dX6_isGrowing_100 (by decide) ?_
        exact t_X6_isGrowing_101 C M3 (0 : Int32)  w (lv_sub hl [] rfl) h
      replace h := h.2 c4
      refine lv_iconst (v := 1) hx hb dX6_isGrowing_96 (by decide) ?_
      refine lv_goto (tgt := 101) hx hb dX6_isGrowing_97 (by decide) ?_
      exact t_X6_isGrowing_101 C M3 (1 : Int32)  w (lv_sub hl [] rfl) h
    replace h := h.2 c1
    refine lv_aload_n hx hb dX6_isGrowing_24 rfl (lv_at hl 0 rfl) ?_
    refine end_v w (run_V (As := []) C w hl.1 (c_X6_goesYaw l G C.2.2.1 _ _   _ h) kw_29_6 kw_1_5 kw_29_3 kw_29_4 kw_29_5 hd_X6_goesYaw ⟨by decide, by decide⟩ (w.recv C (i := 57) (by decide) (pE_6) rfl) rfl (Nat.le_of_ble_eq_true rfl) dX6_isGrowing_25) (fun M6 H locs h w => ?_)
    refine lv_aload_n hx hb dX6_isGrowing_28 rfl (lv_at hl 0 rfl) ?_
    refine gt_6_0 C w kw_5_0 dX6_isGrowing_29 ?_
    refine lv_iconst (v := 3) hx hb dX6_isGrowing_32 (by decide) ?_
    refine pw_ld C w (i := 58) (by decide) pE_58 (vl (x := (3 : Int32)) (by decide)) (k := 3) (by decide) dX6_isGrowing_33 ?_
    refine end_i w (run_S (As := [.int (M6 58 3)]) C w hl.1 (c_X6_amount l G C.2.2.1 _ _ (M6 58 3)  _ h) kw_19_13 kw_1_5 kw_19_11 kw_19_12 hd_X6_amount ⟨by decide, by decide⟩ rfl (Nat.le_of_ble_eq_true rfl) dX6_isGrowing_34) (fun r7 M8 H locs h w => ?_)
    refine lv_istore (lv' := [(4, .int r7), (0, .ref (ga G 57)), (1, .int x1), (2, .int x2), (3, .int x3)]) hx hb dX6_isGrowing_37 hl (by decide) rfl (fun ls hl => ?_)
    refine lv_iload_n hx hb dX6_isGrowing_39 rfl (lv_at hl 4 rfl) ?_
    refine lv_bipush (v := 100) hx hb dX6_isGrowing_40 (by decide) ?_
    refine lv_icmp_gt (tgt := 61) hx hb dX6_isGrowing_42 (by decide) (fun c9 => ?_) (fun c9 => ?_)
    · replace h := h.1 c9
      refine lv_iload hx hb dX6_isGrowing_61 (lv_at hl 0 rfl) ?_
      refine lv_iload_n hx hb dX6_isGrowing_63 rfl (lv_at hl 3 rfl) ?_
      refine lv_icmp_le (tgt := 72) hx hb dX6_isGrowing_64 (by decide) (fun c10 => ?_) (fun c10 => ?_)
      · replace h := h.1 c10
        refine lv_iload_n hx hb dX6_isGrowing_72 rfl (lv_at hl 3 rfl) ?_
        exact t_X6_isGrowing_73 C hk17 M8 x2 x1 x3  w (lv_sub hl [1, 2, 4] rfl) h
      replace h := h.2 c10
      refine lv_iload hx hb dX6_isGrowing_67 (lv_at hl 0 rfl) ?_
      refine lv_goto (tgt := 73) hx hb dX6_isGrowing_69 (by decide) ?_
      exact t_X6_isGrowing_73 C hk17 M8 r7 x1 x3  w (lv_sub hl [1, 2, 4] rfl) h
    replace h := h.2 c9
    refine lv_iload hx hb dX6_isGrowing_45 (lv_at hl 0 rfl) ?_
    refine lv_iload_n hx hb dX6_isGrowing_47 rfl (lv_at hl 2 rfl) ?_
    refine lv_icmp_le (tgt := 56) hx hb dX6_isGrowing_48 (by decide) (fun c11 => ?_) (fun c11 => ?_)
    · replace h := h.1 c11
      refine lv_iload_n hx hb dX6_isGrowing_56 rfl (lv_at hl 2 rfl) ?_
      exact t_X6_isGrowing_57 C hk17 M8 x1 x2 x3  w (lv_sub hl [1, 3, 4] rfl) h
    replace h := h.2 c11
    refine lv_iload hx hb dX6_isGrowing_51 (lv_at hl 0 rfl) ?_
    refine lv_goto (tgt := 57) hx hb dX6_isGrowing_53 (by decide) ?_
    exact t_X6_isGrowing_57 C hk17 M8 r7 x2 x3  w (lv_sub hl [1, 3, 4] rfl) h
set_option maxHeartbeats 4000000 in
set_option maxRecDepth 100000 in
theorem c_X6_isGrowing (l : Launch) (G : GG) (hG : Ag G) (sz : Nat) (M : Mem) (post : Int32 → Mem → Prop) (h : q_X6_isGrowing M post) : Met l yX6_isGrowing (Cond.code yX6_isGrowing cX6_isGrowing 5 (some .boolean) :: wsL_law) (rmk 3) (va_Pc [.ref (ga G 57)] (Pw G sz M)) (va_Qi post (Qw G) (Af G sz)) 0 0 (Af G sz) := by
  refine Met.ofW (cc := cX6_isGrowing) (maxL := 5) (ret := (some .boolean)) (by decide) rfl ?_
  intro p e s m args below meth c s₁ B hml hv
  obtain ⟨rfl, hsz, hE, hP⟩ := hv
  subst hsz
  have C := Cx.of (own := RX6) hG hE rfl hml B
  have w : Wd G s M s.heap [] := ⟨hP, va_S.rf⟩
  have hl := lv_entry [.ref (ga G 57)] (n := 5) (Nat.le_of_ble_eq_true rfl)
  rw [lg_entry_eq]
  generalize (lg_sl [.ref (ga G 57)] ++ List.replicate (5 - (lg_sl [.ref (ga G 57)]).length) Slot.unset).toArray = ls at hl ⊢
  have hl : lv_has ls 5 [(0, .ref (ga G 57))] := hl
  have hx := C.1.1
  have hb := C.1.2.1
  show W p l e (rmk 3) s m _ below meth c s.heap [] 0 0 _ _
  unfold q_X6_isGrowing at h
  refine lv_aload_n hx hb dX6_isGrowing_0 rfl (lv_at hl 0 rfl) ?_
  refine gt_6_0 C w kw_5_0 dX6_isGrowing_1 ?_
  refine lv_aload_n hx hb dX6_isGrowing_4 rfl (lv_at hl 0 rfl) ?_
  refine gt_6_3 C w kw_5_3 dX6_isGrowing_5 ?_
  refine end_v w (run_S (As := [.ref (ga G 58), .ref (ga G 61)]) C w hl.1 (c_X6_copies l G C.2.2.1 _ _ 58 61 ⟨by decide, by decide⟩ ⟨by decide, by decide⟩ _ h) kw_13_8 kw_1_5 kw_13_6 kw_13_7 hd_X6_copies ⟨by decide, by decide⟩ rfl (Nat.le_of_ble_eq_true rfl) dX6_isGrowing_8) (fun M13 H locs h w => ?_)
  refine lv_iconst (v := 0) hx hb dX6_isGrowing_11 (by decide) ?_
  refine lv_istore_n (lv' := [(1, .int (0 : Int32)), (0, .ref (ga G 57))]) hx hb dX6_isGrowing_12 rfl hl (by decide) rfl (fun ls hl => ?_)
  refine lv_iconst (v := 0) hx hb dX6_isGrowing_13 (by decide) ?_
  refine lv_istore_n (lv' := [(2, .int (0 : Int32)), (1, .int (0 : Int32)), (0, .ref (ga G 57))]) hx hb dX6_isGrowing_14 rfl hl (by decide) rfl (fun ls hl => ?_)
  refine lv_iconst (v := 1) hx hb dX6_isGrowing_15 (by decide) ?_
  refine lv_istore_n (lv' := [(3, .int (1 : Int32)), (2, .int (0 : Int32)), (1, .int (0 : Int32)), (0, .ref (ga G 57))]) hx hb dX6_isGrowing_16 rfl hl (by decide) rfl (fun ls hl => ?_)
  obtain ⟨n, h⟩ := h
  exact t_X6_isGrowing_17 C n M13 (0 : Int32) (0 : Int32) (1 : Int32)  w (lv_sub hl [3, 2, 1, 0] rfl) h
def j_X6_grows_12 (post : Int32 → Mem → Prop) (M : Mem) (y0 : Int32) : Prop := post y0 M
def q_X6_grows (M : Mem) (post : Int32 → Mem → Prop) : Prop := q_X6_isGrowing M  (fun r1 M2 => (r1 = 0 → (j_X6_grows_12 post M2 (0 : Int32))) ∧ (¬ (r1 = 0) → (j_X6_grows_12 post M2 (1 : Int32))))
set_option maxHeartbeats 4000000 in
set_option maxRecDepth 100000 in
theorem t_X6_grows_12 (C : Cx G p s m args meth c RX6 cX6_grows 1 (some .int)) {post : Int32 → Mem → Prop} (M : Mem) (y0 : Int32) {H : Heap} {locs : List Loc} {ls : Array Slot} (w : Wd G s M H locs) (hl : lv_has ls 1 []) (h : j_X6_grows_12 post M y0) : W p l e (rmk 4) s m args below meth c H locs 0 0 (MQ below (va_Qi post (Qw G) (Af G s.heap.size)) args s 0 0 (Af G s.heap.size)) (F0 m 12 ls [.int y0]) := by
  have hx := C.1.1
  have hb := C.1.2.1
  unfold j_X6_grows_12 at h
  exact ret_i C w h dX6_grows_12
set_option maxHeartbeats 4000000 in
set_option maxRecDepth 100000 in
theorem c_X6_grows (l : Launch) (G : GG) (hG : Ag G) (sz : Nat) (M : Mem) (post : Int32 → Mem → Prop) (h : q_X6_grows M post) : Met l yX6_grows (Cond.code yX6_grows cX6_grows 1 (some .int) :: wsL_law) (rmk 4) (va_Pc [.ref (ga G 57)] (Pw G sz M)) (va_Qi post (Qw G) (Af G sz)) 0 0 (Af G sz) := by
  refine Met.ofW (cc := cX6_grows) (maxL := 1) (ret := (some .int)) (by decide) rfl ?_
  intro p e s m args below meth c s₁ B hml hv
  obtain ⟨rfl, hsz, hE, hP⟩ := hv
  subst hsz
  have C := Cx.of (own := RX6) hG hE rfl hml B
  have w : Wd G s M s.heap [] := ⟨hP, va_S.rf⟩
  have hl := lv_entry [.ref (ga G 57)] (n := 1) (Nat.le_of_ble_eq_true rfl)
  rw [lg_entry_eq]
  generalize (lg_sl [.ref (ga G 57)] ++ List.replicate (1 - (lg_sl [.ref (ga G 57)]).length) Slot.unset).toArray = ls at hl ⊢
  have hl : lv_has ls 1 [(0, .ref (ga G 57))] := hl
  have hx := C.1.1
  have hb := C.1.2.1
  show W p l e (rmk 4) s m _ below meth c s.heap [] 0 0 _ _
  unfold q_X6_grows at h
  refine lv_aload_n hx hb dX6_grows_0 rfl (lv_at hl 0 rfl) ?_
  refine end_i w (run_V (As := []) C w hl.1 (c_X6_isGrowing l G C.2.2.1 _ _   _ h) kw_30_9 kw_1_5 kw_30_6 kw_30_7 kw_30_8 hd_X6_isGrowing ⟨by decide, by decide⟩ (w.recv C (i := 57) (by decide) (pE_6) rfl) rfl (Nat.le_of_ble_eq_true rfl) dX6_grows_1) (fun r1 M2 H locs h w => ?_)
  refine lv_if_eq (tgt := 11) hx hb dX6_grows_4 (by decide) (fun c3 => ?_) (fun c3 => ?_)
  · replace h := h.1 c3
    refine lv_iconst (v := 0) hx hb dX6_grows_11 (by decide) ?_
    exact t_X6_grows_12 C M2 (0 : Int32)  w (lv_sub hl [] rfl) h
  replace h := h.2 c3
  refine lv_iconst (v := 1) hx hb dX6_grows_7 (by decide) ?_
  refine lv_goto (tgt := 12) hx hb dX6_grows_8 (by decide) ?_
  exact t_X6_grows_12 C M2 (1 : Int32)  w (lv_sub hl [] rfl) h
def b_X5_held_2 (k2 : Mem → Int32 → Prop) (post : Int32 → Mem → Prop) (M : Mem) (x1 : Int32) : Prop := ((mostT 6) < x1 → (post (-4 : Int32) M)) ∧ (¬ ((mostT 6) < x1) → (q_X5_growsWith M x1 (fun r2 M3 => (r2 = 0 → (post x1 M3)) ∧ (¬ (r2 = 0) → (k2 M3 (x1 + (1 : Int32)))))))
def lp_X5_held_2 (post : Int32 → Mem → Prop) : Nat → Mem → Int32 → Prop
  | 0 => fun _ _ => False
  | n + 1 => fun M x1 => b_X5_held_2 (lp_X5_held_2 post n) post M x1
def q_X5_held (M : Mem) (post : Int32 → Mem → Prop) : Prop := ∃ n, lp_X5_held_2 post n M (0 : Int32)
set_option maxHeartbeats 4000000 in
set_option maxRecDepth 100000 in
theorem t_X5_held_2 (C : Cx G p s m args meth c RX5 cX5_held 2 (some .int)) {post : Int32 → Mem → Prop} : ∀ (n : Nat) (M : Mem) (x1 : Int32) {H : Heap} {locs : List Loc} {ls : Array Slot} (w : Wd G s M H locs) (hl : lv_has ls 2 [(0, .ref (ga G 0)), (1, .int x1)]) (h : lp_X5_held_2 post n M x1), W p l e (rmk 5) s m args below meth c H locs 0 0 (MQ below (va_Qi post (Qw G) (Af G s.heap.size)) args s 0 0 (Af G s.heap.size)) (F0 m 2 ls []) := by
  have hx := C.1.1
  have hb := C.1.2.1
  intro n9
  induction n9 with
  | zero => intro M x1 H locs ls w hl h; exact absurd h id
  | succ n9 ih9 =>
    intro M x1 H locs ls w hl h
    have hk2 : ∀ (M : Mem) (x1 : Int32) (H : Heap) (locs : List Loc) (ls : Array Slot), Wd G s M H locs → lv_has ls 2 [(0, .ref (ga G 0)), (1, .int x1)] → lp_X5_held_2 post n9 M x1 → W p l e (rmk 5) s m args below meth c H locs 0 0 (MQ below (va_Qi post (Qw G) (Af G s.heap.size)) args s 0 0 (Af G s.heap.size)) (F0 m 2 ls []) := fun M x1 H locs ls w hl h => ih9 M x1 w hl h
    replace h : b_X5_held_2 (lp_X5_held_2 post n9) post M x1 := h
    unfold b_X5_held_2 at h
    refine lv_iload_n hx hb dX5_held_2 rfl (lv_at hl 1 rfl) ?_
    refine gs_gM C w kw_24_3 dX5_held_3 ?_
    refine lv_bipush (v := 6) hx hb dX5_held_6 (by decide) ?_
    refine ts_gM C w (vl (x := (6 : Int32)) (by decide)) (k := 6) (by decide) dX5_held_8 ?_
    refine lv_icmp_gt (tgt := 28) hx hb dX5_held_9 (by decide) (fun c1 => ?_) (fun c1 => ?_)
    · replace h := h.1 c1
      refine lv_bipush (v := -4) hx hb dX5_held_28 (by decide) ?_
      exact ret_i C w h dX5_held_30
    replace h := h.2 c1
    refine lv_aload_n hx hb dX5_held_12 rfl (lv_at hl 0 rfl) ?_
    refine lv_iload_n hx hb dX5_held_13 rfl (lv_at hl 1 rfl) ?_
    refine end_i w (run_V (As := [.int x1]) C w hl.1 (c_X5_growsWith l G C.2.2.1 _ _ x1  _ h) kw_30_1 kw_1_2 kw_29_22 kw_29_23 kw_30_0 hd_X5_growsWith ⟨by decide, by decide⟩ (w.recv C (i := 0) (by decide) (pE_5) rfl) rfl (Nat.le_of_ble_eq_true rfl) dX5_held_14) (fun r2 M3 H locs h w => ?_)
    refine lv_if_ne (tgt := 22) hx hb dX5_held_17 (by decide) (fun c4 => ?_) (fun c4 => ?_)
    · replace h := h.2 c4
      refine lv_iinc (v := (x1 + (1 : Int32))) (lv' := [(1, .int (x1 + (1 : Int32))), (0, .ref (ga G 0))]) hx hb dX5_held_22 hl (k := 1) rfl rfl (by decide) rfl (fun ls hl => ?_)
      refine lv_goto (tgt := 2) hx hb dX5_held_25 (by decide) ?_
      exact hk2 M3 (x1 + (1 : Int32)) _ _ _  w (lv_sub hl [1, 0] rfl) h
    replace h := h.1 c4
    refine lv_iload_n hx hb dX5_held_20 rfl (lv_at hl 1 rfl) ?_
    exact ret_i C w h dX5_held_21
set_option maxHeartbeats 4000000 in
set_option maxRecDepth 100000 in
theorem c_X5_held (l : Launch) (G : GG) (hG : Ag G) (sz : Nat) (M : Mem) (post : Int32 → Mem → Prop) (h : q_X5_held M post) : Met l yX5_held (Cond.code yX5_held cX5_held 2 (some .int) :: wsL_law) (rmk 5) (va_Pc [.ref (ga G 0)] (Pw G sz M)) (va_Qi post (Qw G) (Af G sz)) 0 0 (Af G sz) := by
  refine Met.ofW (cc := cX5_held) (maxL := 2) (ret := (some .int)) (by decide) rfl ?_
  intro p e s m args below meth c s₁ B hml hv
  obtain ⟨rfl, hsz, hE, hP⟩ := hv
  subst hsz
  have C := Cx.of (own := RX5) hG hE rfl hml B
  have w : Wd G s M s.heap [] := ⟨hP, va_S.rf⟩
  have hl := lv_entry [.ref (ga G 0)] (n := 2) (Nat.le_of_ble_eq_true rfl)
  rw [lg_entry_eq]
  generalize (lg_sl [.ref (ga G 0)] ++ List.replicate (2 - (lg_sl [.ref (ga G 0)]).length) Slot.unset).toArray = ls at hl ⊢
  have hl : lv_has ls 2 [(0, .ref (ga G 0))] := hl
  have hx := C.1.1
  have hb := C.1.2.1
  show W p l e (rmk 5) s m _ below meth c s.heap [] 0 0 _ _
  unfold q_X5_held at h
  refine lv_iconst (v := 0) hx hb dX5_held_0 (by decide) ?_
  refine lv_istore_n (lv' := [(1, .int (0 : Int32)), (0, .ref (ga G 0))]) hx hb dX5_held_1 rfl hl (by decide) rfl (fun ls hl => ?_)
  obtain ⟨n, h⟩ := h
  exact t_X5_held_2 C n M (0 : Int32)  w (lv_sub hl [1, 0] rfl) h
def j_X6_held_46 (post : Int32 → Mem → Prop) (M : Mem) (x1 : Int32) (x2 : Int32) : Prop := ∀ M1 : Mem, M1 = (mup M 58 11 x1) → (post x2 M1)
def j_X6_held_40 (k13 : Mem → Int32 → Int32 → Int32 → Prop) (post : Int32 → Mem → Prop) (M : Mem) (x1 : Int32) (x2 : Int32) (x3 : Int32) : Prop := k13 M x1 x2 (x3 + (1 : Int32))
def b_X6_held_13 (k13 : Mem → Int32 → Int32 → Int32 → Prop) (post : Int32 → Mem → Prop) (M : Mem) (x1 : Int32) (x2 : Int32) (x3 : Int32) : Prop := ((10 : Int32) ≤ x3 → (j_X6_held_46 post M x1 x2)) ∧ (¬ ((10 : Int32) ≤ x3) → ((0 ≤ x2 → (j_X6_held_46 post M x1 x2)) ∧ (¬ (0 ≤ x2) → (∀ M4 : Mem, M4 = (mup M 58 11 x3) → (q_X6_isGrowing M4  (fun r5 M6 => (r5 = 0 → (j_X6_held_40 k13 post M6 x1 x3 x3)) ∧ (¬ (r5 = 0) → (j_X6_held_40 k13 post M6 x1 x2 x3))))))))
def lp_X6_held_13 (post : Int32 → Mem → Prop) : Nat → Mem → Int32 → Int32 → Int32 → Prop
  | 0 => fun _ _ _ _ => False
  | n + 1 => fun M x1 x2 x3 => b_X6_held_13 (lp_X6_held_13 post n) post M x1 x2 x3
def q_X6_held (M : Mem) (post : Int32 → Mem → Prop) : Prop := ∃ n, lp_X6_held_13 post n M (M 58 11) (-4 : Int32) (0 : Int32)
set_option maxHeartbeats 4000000 in
set_option maxRecDepth 100000 in
theorem t_X6_held_46 (C : Cx G p s m args meth c RX6 cX6_held 4 (some .int)) {post : Int32 → Mem → Prop} (M : Mem) (x1 : Int32) (x2 : Int32) {H : Heap} {locs : List Loc} {ls : Array Slot} (w : Wd G s M H locs) (hl : lv_has ls 4 [(0, .ref (ga G 57)), (1, .int x1), (2, .int x2)]) (h : j_X6_held_46 post M x1 x2) : W p l e (rmk 4) s m args below meth c H locs 0 0 (MQ below (va_Qi post (Qw G) (Af G s.heap.size)) args s 0 0 (Af G s.heap.size)) (F0 m 46 ls []) := by
  have hx := C.1.1
  have hb := C.1.2.1
  unfold j_X6_held_46 at h
  refine lv_aload_n hx hb dX6_held_46 rfl (lv_at hl 0 rfl) ?_
  refine gt_6_0 C w kw_5_0 dX6_held_47 ?_
  refine lv_bipush (v := 11) hx hb dX6_held_50 (by decide) ?_
  refine lv_iload_n hx hb dX6_held_52 rfl (lv_at hl 1 rfl) ?_
  refine pw_st C w (i := 58) (by decide) (fun _ => pE_58) (vl (x := (11 : Int32)) (by decide)) (k := 11) (by decide) dX6_held_53 (fun H locs w => ?_)
  obtain ⟨M1, eM1⟩ : ∃ z : Mem, z = (mup M 58 11 x1) := ⟨_, rfl⟩
  replace w : Wd G s M1 H locs := by rw [eM1]; exact w
  replace h := h M1 eM1
  refine lv_iload_n hx hb dX6_held_54 rfl (lv_at hl 2 rfl) ?_
  exact ret_i C w h dX6_held_55
set_option maxHeartbeats 4000000 in
set_option maxRecDepth 100000 in
theorem t_X6_held_40 (C : Cx G p s m args meth c RX6 cX6_held 4 (some .int)) {post : Int32 → Mem → Prop} {k13 : Mem → Int32 → Int32 → Int32 → Prop} (hk13 : ∀ (M : Mem) (x1 : Int32) (x2 : Int32) (x3 : Int32) (H : Heap) (locs : List Loc) (ls : Array Slot), Wd G s M H locs → lv_has ls 4 [(0, .ref (ga G 57)), (1, .int x1), (2, .int x2), (3, .int x3)] → k13 M x1 x2 x3 → W p l e (rmk 4) s m args below meth c H locs 0 0 (MQ below (va_Qi post (Qw G) (Af G s.heap.size)) args s 0 0 (Af G s.heap.size)) (F0 m 13 ls [])) (M : Mem) (x1 : Int32) (x2 : Int32) (x3 : Int32) {H : Heap} {locs : List Loc} {ls : Array Slot} (w : Wd G s M H locs) (hl : lv_has ls 4 [(0, .ref (ga G 57)), (1, .int x1), (2, .int x2), (3, .int x3)]) (h : j_X6_held_40 k13 post M x1 x2 x3) : W p l e (rmk 4) s m args below meth c H locs 0 0 (MQ below (va_Qi post (Qw G) (Af G s.heap.size)) args s 0 0 (Af G s.heap.size)) (F0 m 40 ls []) := by
  have hx := C.1.1
  have hb := C.1.2.1
  unfold j_X6_held_40 at h
  refine lv_iinc (v := (x3 + (1 : Int32))) (lv' := [(3, .int (x3 + (1 : Int32))), (0, .ref (ga G 57)), (1, .int x1), (2, .int x2)]) hx hb dX6_held_40 hl (k := 3) rfl rfl (by decide) rfl (fun ls hl => ?_)
  refine lv_goto (tgt := 13) hx hb dX6_held_43 (by decide) ?_
  exact hk13 M x1 x2 (x3 + (1 : Int32)) _ _ _  w (lv_sub hl [1, 2, 3, 0] rfl) h
set_option maxHeartbeats 4000000 in
set_option maxRecDepth 100000 in
theorem t_X6_held_13 (C : Cx G p s m args meth c RX6 cX6_held 4 (some .int)) {post : Int32 → Mem → Prop} : ∀ (n : Nat) (M : Mem) (x1 : Int32) (x2 : Int32) (x3 : Int32) {H : Heap} {locs : List Loc} {ls : Array Slot} (w : Wd G s M H locs) (hl : lv_has ls 4 [(0, .ref (ga G 57)), (1, .int x1), (2, .int x2), (3, .int x3)]) (h : lp_X6_held_13 post n M x1 x2 x3), W p l e (rmk 4) s m args below meth c H locs 0 0 (MQ below (va_Qi post (Qw G) (Af G s.heap.size)) args s 0 0 (Af G s.heap.size)) (F0 m 13 ls []) := by
  have hx := C.1.1
  have hb := C.1.2.1
  intro n9
  induction n9 with
  | zero => intro M x1 x2 x3 H locs ls w hl h; exact absurd h id
  | succ n9 ih9 =>
    intro M x1 x2 x3 H locs ls w hl h
    have hk13 : ∀ (M : Mem) (x1 : Int32) (x2 : Int32) (x3 : Int32) (H : Heap) (locs : List Loc) (ls : Array Slot), Wd G s M H locs → lv_has ls 4 [(0, .ref (ga G 57)), (1, .int x1), (2, .int x2), (3, .int x3)] → lp_X6_held_13 post n9 M x1 x2 x3 → W p l e (rmk 4) s m args below meth c H locs 0 0 (MQ below (va_Qi post (Qw G) (Af G s.heap.size)) args s 0 0 (Af G s.heap.size)) (F0 m 13 ls []) := fun M x1 x2 x3 H locs ls w hl h => ih9 M x1 x2 x3 w hl h
    replace h : b_X6_held_13 (lp_X6_held_13 post n9) post M x1 x2 x3 := h
    unfold b_X6_held_13 at h
    refine lv_iload_n hx hb dX6_held_13 rfl (lv_at hl 3 rfl) ?_
    refine lv_bipush (v := 10) hx hb dX6_held_14 (by decide) ?_
    refine lv_icmp_ge (tgt := 46) hx hb dX6_held_16 (by decide) (fun c2 => ?_) (fun c2 => ?_)
    · replace h := h.1 c2
      exact t_X6_held_46 C M x1 x2  w (lv_sub hl [0, 1, 2] rfl) h
    replace h := h.2 c2
    refine lv_iload_n hx hb dX6_held_19 rfl (lv_at hl 2 rfl) ?_
    refine lv_if_ge (tgt := 46) hx hb dX6_held_20 (by decide) (fun c3 => ?_) (fun c3 => ?_)
    · replace h := h.1 c3
      exact t_X6_held_46 C M x1 x2  w (lv_sub hl [0, 1, 2] rfl) h
    replace h := h.2 c3
    refine lv_aload_n hx hb dX6_held_23 rfl (lv_at hl 0 rfl) ?_
    refine gt_6_0 C w kw_5_0 dX6_held_24 ?_
    refine lv_bipush (v := 11) hx hb dX6_held_27 (by decide) ?_
    refine lv_iload_n hx hb dX6_held_29 rfl (lv_at hl 3 rfl) ?_
    refine pw_st C w (i := 58) (by decide) (fun _ => pE_58) (vl (x := (11 : Int32)) (by decide)) (k := 11) (by decide) dX6_held_30 (fun H locs w => ?_)
    obtain ⟨M4, eM4⟩ : ∃ z : Mem, z = (mup M 58 11 x3) := ⟨_, rfl⟩
    replace w : Wd G s M4 H locs := by rw [eM4]; exact w
    replace h := h M4 eM4
    refine lv_aload_n hx hb dX6_held_31 rfl (lv_at hl 0 rfl) ?_
    refine end_i w (run_V (As := []) C w hl.1 (c_X6_isGrowing l G C.2.2.1 _ _   _ h) kw_30_9 kw_1_5 kw_30_6 kw_30_7 kw_30_8 hd_X6_isGrowing ⟨by decide, by decide⟩ (w.recv C (i := 57) (by decide) (pE_6) rfl) rfl (Nat.le_of_ble_eq_true rfl) dX6_held_32) (fun r5 M6 H locs h w => ?_)
    refine lv_if_ne (tgt := 40) hx hb dX6_held_35 (by decide) (fun c7 => ?_) (fun c7 => ?_)
    · replace h := h.2 c7
      exact t_X6_held_40 C hk13 M6 x1 x2 x3  w (lv_sub hl [0, 1, 2, 3] rfl) h
    replace h := h.1 c7
    refine lv_iload_n hx hb dX6_held_38 rfl (lv_at hl 3 rfl) ?_
    refine lv_istore_n (lv' := [(2, .int x3), (0, .ref (ga G 57)), (1, .int x1), (3, .int x3)]) hx hb dX6_held_39 rfl hl (by decide) rfl (fun ls hl => ?_)
    exact t_X6_held_40 C hk13 M6 x1 x3 x3  w (lv_sub hl [1, 2, 0, 3] rfl) h
set_option maxHeartbeats 4000000 in
set_option maxRecDepth 100000 in
theorem c_X6_held (l : Launch) (G : GG) (hG : Ag G) (sz : Nat) (M : Mem) (post : Int32 → Mem → Prop) (h : q_X6_held M post) : Met l yX6_held (Cond.code yX6_held cX6_held 4 (some .int) :: wsL_law) (rmk 4) (va_Pc [.ref (ga G 57)] (Pw G sz M)) (va_Qi post (Qw G) (Af G sz)) 0 0 (Af G sz) := by
  refine Met.ofW (cc := cX6_held) (maxL := 4) (ret := (some .int)) (by decide) rfl ?_
  intro p e s m args below meth c s₁ B hml hv
  obtain ⟨rfl, hsz, hE, hP⟩ := hv
  subst hsz
  have C := Cx.of (own := RX6) hG hE rfl hml B
  have w : Wd G s M s.heap [] := ⟨hP, va_S.rf⟩
  have hl := lv_entry [.ref (ga G 57)] (n := 4) (Nat.le_of_ble_eq_true rfl)
  rw [lg_entry_eq]
  generalize (lg_sl [.ref (ga G 57)] ++ List.replicate (4 - (lg_sl [.ref (ga G 57)]).length) Slot.unset).toArray = ls at hl ⊢
  have hl : lv_has ls 4 [(0, .ref (ga G 57))] := hl
  have hx := C.1.1
  have hb := C.1.2.1
  show W p l e (rmk 4) s m _ below meth c s.heap [] 0 0 _ _
  unfold q_X6_held at h
  refine lv_aload_n hx hb dX6_held_0 rfl (lv_at hl 0 rfl) ?_
  refine gt_6_0 C w kw_5_0 dX6_held_1 ?_
  refine lv_bipush (v := 11) hx hb dX6_held_4 (by decide) ?_
  refine pw_ld C w (i := 58) (by decide) pE_58 (vl (x := (11 : Int32)) (by decide)) (k := 11) (by decide) dX6_held_6 ?_
  refine lv_istore_n (lv' := [(1, .int (M 58 11)), (0, .ref (ga G 57))]) hx hb dX6_held_7 rfl hl (by decide) rfl (fun ls hl => ?_)
  refine lv_bipush (v := -4) hx hb dX6_held_8 (by decide) ?_
  refine lv_istore_n (lv' := [(2, .int (-4 : Int32)), (1, .int (M 58 11)), (0, .ref (ga G 57))]) hx hb dX6_held_10 rfl hl (by decide) rfl (fun ls hl => ?_)
  refine lv_iconst (v := 0) hx hb dX6_held_11 (by decide) ?_
  refine lv_istore_n (lv' := [(3, .int (0 : Int32)), (2, .int (-4 : Int32)), (1, .int (M 58 11)), (0, .ref (ga G 57))]) hx hb dX6_held_12 rfl hl (by decide) rfl (fun ls hl => ?_)
  obtain ⟨n, h⟩ := h
  exact t_X6_held_13 C n M (M 58 11) (-4 : Int32) (0 : Int32)  w (lv_sub hl [3, 2, 1, 0] rfl) h
def q_X5_whip (M : Mem) (x1 : Int32) (post : Int32 → Mem → Prop) : Prop := q_X4_has M 1 x1 (fun r1 M2 => (r1 = 0 → (post (-1 : Int32) M2)) ∧ (¬ (r1 = 0) → (vp_in x1 6 ∧ (post ((((M2 (38 + x1.toNatClampNeg) 7) * (M2 (38 + x1.toNatClampNeg) 6)) * (M2 (38 + x1.toNatClampNeg) 2)) / (10000 : Int32)) M2))))
set_option maxHeartbeats 4000000 in
set_option maxRecDepth 100000 in
theorem c_X5_whip (l : Launch) (G : GG) (hG : Ag G) (sz : Nat) (M : Mem) (x1 : Int32) (post : Int32 → Mem → Prop) (h : q_X5_whip M x1 post) : Met l yX5_whip (Cond.code yX5_whip cX5_whip 3 (some .int) :: wsL_law) (rmk 2) (va_Pc [.ref (ga G 0), .int x1] (Pw G sz M)) (va_Qi post (Qw G) (Af G sz)) 0 0 (Af G sz) := by
  refine Met.ofW (cc := cX5_whip) (maxL := 3) (ret := (some .int)) (by decide) rfl ?_
  intro p e s m args below meth c s₁ B hml hv
  obtain ⟨rfl, hsz, hE, hP⟩ := hv
  subst hsz
  have C := Cx.of (own := RX5) hG hE rfl hml B
  have w : Wd G s M s.heap [] := ⟨hP, va_S.rf⟩
  have hl := lv_entry [.ref (ga G 0), .int x1] (n := 3) (Nat.le_of_ble_eq_true rfl)
  rw [lg_entry_eq]
  generalize (lg_sl [.ref (ga G 0), .int x1] ++ List.replicate (3 - (lg_sl [.ref (ga G 0), .int x1]).length) Slot.unset).toArray = ls at hl ⊢
  have hl : lv_has ls 3 [(0, .ref (ga G 0)), (1, .int x1)] := hl
  have hx := C.1.1
  have hb := C.1.2.1
  show W p l e (rmk 2) s m _ below meth c s.heap [] 0 0 _ _
  unfold q_X5_whip at h
  refine lv_aload_n hx hb dX5_whip_0 rfl (lv_at hl 0 rfl) ?_
  refine gt_5_0 C w kw_1_16 dX5_whip_1 ?_
  refine lv_iload_n hx hb dX5_whip_4 rfl (lv_at hl 1 rfl) ?_
  refine end_i w (run_VN (As := [.int x1]) C w hl.1 (c_X4_has l G C.2.2.1 _ _ 1 x1 ⟨by decide, by decide⟩ _ h) kw_13_22 kw_1_15 kn_53 kw_13_20 kw_13_21 hd_X4_has ⟨by decide, by decide⟩ (w.recv C (i := 1) (by decide) (pE_4 ⟨by decide, by decide⟩) rfl) rfl (Nat.le_of_ble_eq_true rfl) dX5_whip_5) (fun r1 M2 H locs h w => ?_)
  refine lv_if_ne (tgt := 13) hx hb dX5_whip_8 (by decide) (fun c3 => ?_) (fun c3 => ?_)
  · replace h := h.2 c3
    refine lv_aload_n hx hb dX5_whip_13 rfl (lv_at hl 0 rfl) ?_
    refine gt_5_0 C w kw_1_16 dX5_whip_14 ?_
    refine gn_4_0 C w ⟨by decide, by decide⟩ kn_13 dX5_whip_17 ?_
    refine lv_iload_n hx hb dX5_whip_20 rfl (lv_at hl 1 rfl) ?_
    have hin4 := h.1
    replace h := h.2
    have hz_hin4 := in_lt hin4
    refine pw_ldP C w (i := 8) ⟨by decide, by decide⟩ hin4 dX5_whip_21 (j := (38 + x1.toNatClampNeg)) (by omega) ?_
    refine lv_astore_n (lv' := [(2, .ref (ga G (38 + x1.toNatClampNeg))), (0, .ref (ga G 0)), (1, .int x1)]) hx hb dX5_whip_22 rfl hl (by decide) rfl (fun ls hl => ?_)
    refine lv_aload_n hx hb dX5_whip_23 rfl (lv_at hl 0 rfl) ?_
    refine gn_1_7 C w (by omega) kn_10 dX5_whip_24 ?_
    refine lv_aload_n hx hb dX5_whip_27 rfl (lv_at hl 0 rfl) ?_
    refine gn_1_6 C w (by omega) kn_9 dX5_whip_28 ?_
    refine lv_imul hx hb dX5_whip_31 ?_
    refine lv_aload_n hx hb dX5_whip_32 rfl (lv_at hl 0 rfl) ?_
    refine gn_1_2 C w (by omega) kn_3 dX5_whip_33 ?_
    refine lv_imul hx hb dX5_whip_36 ?_
    refine lv_sipush (v := 10000) hx hb dX5_whip_37 (by decide) ?_
    refine lv_idiv hx hb dX5_whip_40 (by decide) ?_
    exact ret_i C w h dX5_whip_41
  replace h := h.1 c3
  refine lv_iconst (v := -1) hx hb dX5_whip_11 (by decide) ?_
  exact ret_i C w h dX5_whip_12
def j_X6_whip_44 (post : Int32 → Mem → Prop) (M : Mem) (y0 : Int32) : Prop := post y0 M
def q_X6_whip (M : Mem) (x1 : Int32) (post : Int32 → Mem → Prop) : Prop := q_X6_isPiece M x1 (fun r1 M2 => (r1 = 0 → (j_X6_whip_44 post M2 (-1 : Int32))) ∧ (¬ (r1 = 0) → (q_X6_strengthOf M2 x1 (fun r4 M5 => q_X6_get M5 x1 (0 : Int32) (fun r6 M7 => q_X6_get M7 x1 (1 : Int32) (fun r8 M9 => q_X6_giveBy M9 r6 r8 (fun r10 M11 => q_X6_get M11 x1 (2 : Int32) (fun r12 M13 => j_X6_whip_44 post M13 (((r4 * r10) * r12) / (10000 : Int32))))))))))
set_option maxHeartbeats 4000000 in
set_option maxRecDepth 100000 in
theorem t_X6_whip_44 (C : Cx G p s m args meth c RX6 cX6_whip 2 (some .int)) {post : Int32 → Mem → Prop} (M : Mem) (y0 : Int32) {H : Heap} {locs : List Loc} {ls : Array Slot} (w : Wd G s M H locs) (hl : lv_has ls 2 []) (h : j_X6_whip_44 post M y0) : W p l e (rmk 3) s m args below meth c H locs 0 0 (MQ below (va_Qi post (Qw G) (Af G s.heap.size)) args s 0 0 (Af G s.heap.size)) (F0 m 44 ls [.int y0]) := by
  have hx := C.1.1
  have hb := C.1.2.1
  unfold j_X6_whip_44 at h
  exact ret_i C w h dX6_whip_44
set_option maxHeartbeats 4000000 in
set_option maxRecDepth 100000 in
theorem c_X6_whip (l : Launch) (G : GG) (hG : Ag G) (sz : Nat) (M : Mem) (x1 : Int32) (post : Int32 → Mem → Prop) (h : q_X6_whip M x1 post) : Met l yX6_whip (Cond.code yX6_whip cX6_whip 2 (some .int) :: wsL_law) (rmk 3) (va_Pc [.ref (ga G 57), .int x1] (Pw G sz M)) (va_Qi post (Qw G) (Af G sz)) 0 0 (Af G sz) := by
  refine Met.ofW (cc := cX6_whip) (maxL := 2) (ret := (some .int)) (by decide) rfl ?_
  intro p e s m args below meth c s₁ B hml hv
  obtain ⟨rfl, hsz, hE, hP⟩ := hv
  subst hsz
  have C := Cx.of (own := RX6) hG hE rfl hml B
  have w : Wd G s M s.heap [] := ⟨hP, va_S.rf⟩
  have hl := lv_entry [.ref (ga G 57), .int x1] (n := 2) (Nat.le_of_ble_eq_true rfl)
  rw [lg_entry_eq]
  generalize (lg_sl [.ref (ga G 57), .int x1] ++ List.replicate (2 - (lg_sl [.ref (ga G 57), .int x1]).length) Slot.unset).toArray = ls at hl ⊢
  have hl : lv_has ls 2 [(0, .ref (ga G 57)), (1, .int x1)] := hl
  have hx := C.1.1
  have hb := C.1.2.1
  show W p l e (rmk 3) s m _ below meth c s.heap [] 0 0 _ _
  unfold q_X6_whip at h
  refine lv_aload_n hx hb dX6_whip_0 rfl (lv_at hl 0 rfl) ?_
  refine lv_iload_n hx hb dX6_whip_1 rfl (lv_at hl 1 rfl) ?_
  refine end_i w (run_V (As := [.int x1]) C w hl.1 (c_X6_isPiece l G C.2.2.1 _ _ x1  _ h) kw_14_6 kw_1_5 kw_14_3 kw_14_4 kw_14_5 hd_X6_isPiece ⟨by decide, by decide⟩ (w.recv C (i := 57) (by decide) (pE_6) rfl) rfl (Nat.le_of_ble_eq_true rfl) dX6_whip_2) (fun r1 M2 H locs h w => ?_)
  refine lv_if_eq (tgt := 43) hx hb dX6_whip_5 (by decide) (fun c3 => ?_) (fun c3 => ?_)
  · replace h := h.1 c3
    refine lv_iconst (v := -1) hx hb dX6_whip_43 (by decide) ?_
    exact t_X6_whip_44 C M2 (-1 : Int32)  w (lv_sub hl [] rfl) h
  replace h := h.2 c3
  refine lv_aload_n hx hb dX6_whip_8 rfl (lv_at hl 0 rfl) ?_
  refine lv_iload_n hx hb dX6_whip_9 rfl (lv_at hl 1 rfl) ?_
  refine end_i w (run_V (As := [.int x1]) C w hl.1 (c_X6_strengthOf l G C.2.2.1 _ _ x1  _ h) kw_22_3 kw_1_5 kw_22_0 kw_22_1 kw_22_2 hd_X6_strengthOf ⟨by decide, by decide⟩ (w.recv C (i := 57) (by decide) (pE_6) rfl) rfl (Nat.le_of_ble_eq_true rfl) dX6_whip_10) (fun r4 M5 H locs h w => ?_)
  refine lv_aload_n hx hb dX6_whip_13 rfl (lv_at hl 0 rfl) ?_
  refine lv_iload_n hx hb dX6_whip_14 rfl (lv_at hl 1 rfl) ?_
  refine lv_iconst (v := 0) hx hb dX6_whip_15 (by decide) ?_
  refine end_i w (run_V (As := [.int x1, .int (0 : Int32)]) C w hl.1 (c_X6_get l G C.2.2.1 _ _ x1 (0 : Int32)  _ h) kw_14_10 kw_1_5 kw_14_7 kw_14_8 kw_14_9 hd_X6_get ⟨by decide, by decide⟩ (w.recv C (i := 57) (by decide) (pE_6) rfl) rfl (Nat.le_of_ble_eq_true rfl) dX6_whip_16) (fun r6 M7 H locs h w => ?_)
  refine lv_aload_n hx hb dX6_whip_19 rfl (lv_at hl 0 rfl) ?_
  refine lv_iload_n hx hb dX6_whip_20 rfl (lv_at hl 1 rfl) ?_
  refine lv_iconst (v := 1) hx hb dX6_whip_21 (by decide) ?_
  refine end_i w (run_V (As := [.int x1, .int (1 : Int32)]) C w hl.1 (c_X6_get l G C.2.2.1 _ _ x1 (1 : Int32)  _ h) kw_14_10 kw_1_5 kw_14_7 kw_14_8 kw_14_9 hd_X6_get ⟨by decide, by decide⟩ (w.recv C (i := 57) (by decide) (pE_6) rfl) rfl (Nat.le_of_ble_eq_true rfl) dX6_whip_22) (fun r8 M9 H locs h w => ?_)
  refine end_i w (run_S (As := [.int r6, .int r8]) C w hl.1 (c_X6_giveBy l G C.2.2.1 _ _ r6 r8  _ h) kw_14_16 kw_1_5 kw_14_14 kw_14_15 hd_X6_giveBy ⟨by decide, by decide⟩ rfl (Nat.le_of_ble_eq_true rfl) dX6_whip_25) (fun r10 M11 H locs h w => ?_)
  refine lv_imul hx hb dX6_whip_28 ?_
  refine lv_aload_n hx hb dX6_whip_29 rfl (lv_at hl 0 rfl) ?_
  refine lv_iload_n hx hb dX6_whip_30 rfl (lv_at hl 1 rfl) ?_
  refine lv_iconst (v := 2) hx hb dX6_whip_31 (by decide) ?_
  refine end_i w (run_V (As := [.int x1, .int (2 : Int32)]) C w hl.1 (c_X6_get l G C.2.2.1 _ _ x1 (2 : Int32)  _ h) kw_14_10 kw_1_5 kw_14_7 kw_14_8 kw_14_9 hd_X6_get ⟨by decide, by decide⟩ (w.recv C (i := 57) (by decide) (pE_6) rfl) rfl (Nat.le_of_ble_eq_true rfl) dX6_whip_32) (fun r12 M13 H locs h w => ?_)
  refine lv_imul hx hb dX6_whip_35 ?_
  refine lv_sipush (v := 10000) hx hb dX6_whip_36 (by decide) ?_
  refine lv_idiv hx hb dX6_whip_39 (by decide) ?_
  refine lv_goto (tgt := 44) hx hb dX6_whip_40 (by decide) ?_
  exact t_X6_whip_44 C M13 (((r4 * r10) * r12) / (10000 : Int32))  w (lv_sub hl [] rfl) h
def j_X0_pullsAbove_24 (k4 : Mem → Int32 → Int32 → Int32 → Prop) (post : Int32 → Mem → Prop) (M : Mem) (x1 : Int32) (x2 : Int32) (x3 : Int32) : Prop := k4 M x1 x2 (x3 + (1 : Int32))
def b_X0_pullsAbove_4 (k4 : Mem → Int32 → Int32 → Int32 → Prop) (post : Int32 → Mem → Prop) (M : Mem) (x1 : Int32) (x2 : Int32) (x3 : Int32) : Prop := ((M 4 4) ≤ x3 → (post x2 M)) ∧ (¬ ((M 4 4) ≤ x3) → (q_X0_pullAt M x3 (fun r2 M3 => (r2 ≤ x1 → (j_X0_pullsAbove_24 k4 post M3 x1 x2 x3)) ∧ (¬ (r2 ≤ x1) → (j_X0_pullsAbove_24 k4 post M3 x1 (x2 + (1 : Int32)) x3)))))
def lp_X0_pullsAbove_4 (post : Int32 → Mem → Prop) : Nat → Mem → Int32 → Int32 → Int32 → Prop
  | 0 => fun _ _ _ _ => False
  | n + 1 => fun M x1 x2 x3 => b_X0_pullsAbove_4 (lp_X0_pullsAbove_4 post n) post M x1 x2 x3
def q_X0_pullsAbove (M : Mem) (x1 : Int32) (post : Int32 → Mem → Prop) : Prop := ∃ n, lp_X0_pullsAbove_4 post n M x1 (0 : Int32) (0 : Int32)
set_option maxHeartbeats 4000000 in
set_option maxRecDepth 100000 in
theorem t_X0_pullsAbove_24 (C : Cx G p s m args meth c RX0 cX0_pullsAbove 4 (some .int)) {post : Int32 → Mem → Prop} {k4 : Mem → Int32 → Int32 → Int32 → Prop} (hk4 : ∀ (M : Mem) (x1 : Int32) (x2 : Int32) (x3 : Int32) (H : Heap) (locs : List Loc) (ls : Array Slot), Wd G s M H locs → lv_has ls 4 [(0, .ref (ga G 4)), (1, .int x1), (2, .int x2), (3, .int x3)] → k4 M x1 x2 x3 → W p l e (rmk 5) s m args below meth c H locs 0 0 (MQ below (va_Qi post (Qw G) (Af G s.heap.size)) args s 0 0 (Af G s.heap.size)) (F0 m 4 ls [])) (M : Mem) (x1 : Int32) (x2 : Int32) (x3 : Int32) {H : Heap} {locs : List Loc} {ls : Array Slot} (w : Wd G s M H locs) (hl : lv_has ls 4 [(0, .ref (ga G 4)), (1, .int x1), (2, .int x2), (3, .int x3)]) (h : j_X0_pullsAbove_24 k4 post M x1 x2 x3) : W p l e (rmk 5) s m args below meth c H locs 0 0 (MQ below (va_Qi post (Qw G) (Af G s.heap.size)) args s 0 0 (Af G s.heap.size)) (F0 m 24 ls []) := by
  have hx := C.1.1
  have hb := C.1.2.1
  unfold j_X0_pullsAbove_24 at h
  refine lv_iinc (v := (x3 + (1 : Int32))) (lv' := [(3, .int (x3 + (1 : Int32))), (0, .ref (ga G 4)), (1, .int x1), (2, .int x2)]) hx hb dX0_pullsAbove_24 hl (k := 3) rfl rfl (by decide) rfl (fun ls hl => ?_)
  refine lv_goto (tgt := 4) hx hb dX0_pullsAbove_27 (by decide) ?_
  exact hk4 M x1 x2 (x3 + (1 : Int32)) _ _ _  w (lv_sub hl [1, 2, 3, 0] rfl) h
set_option maxHeartbeats 4000000 in
set_option maxRecDepth 100000 in
theorem t_X0_pullsAbove_4 (C : Cx G p s m args meth c RX0 cX0_pullsAbove 4 (some .int)) {post : Int32 → Mem → Prop} : ∀ (n : Nat) (M : Mem) (x1 : Int32) (x2 : Int32) (x3 : Int32) {H : Heap} {locs : List Loc} {ls : Array Slot} (w : Wd G s M H locs) (hl : lv_has ls 4 [(0, .ref (ga G 4)), (1, .int x1), (2, .int x2), (3, .int x3)]) (h : lp_X0_pullsAbove_4 post n M x1 x2 x3), W p l e (rmk 5) s m args below meth c H locs 0 0 (MQ below (va_Qi post (Qw G) (Af G s.heap.size)) args s 0 0 (Af G s.heap.size)) (F0 m 4 ls []) := by
  have hx := C.1.1
  have hb := C.1.2.1
  intro n9
  induction n9 with
  | zero => intro M x1 x2 x3 H locs ls w hl h; exact absurd h id
  | succ n9 ih9 =>
    intro M x1 x2 x3 H locs ls w hl h
    have hk4 : ∀ (M : Mem) (x1 : Int32) (x2 : Int32) (x3 : Int32) (H : Heap) (locs : List Loc) (ls : Array Slot), Wd G s M H locs → lv_has ls 4 [(0, .ref (ga G 4)), (1, .int x1), (2, .int x2), (3, .int x3)] → lp_X0_pullsAbove_4 post n9 M x1 x2 x3 → W p l e (rmk 5) s m args below meth c H locs 0 0 (MQ below (va_Qi post (Qw G) (Af G s.heap.size)) args s 0 0 (Af G s.heap.size)) (F0 m 4 ls []) := fun M x1 x2 x3 H locs ls w hl h => ih9 M x1 x2 x3 w hl h
    replace h : b_X0_pullsAbove_4 (lp_X0_pullsAbove_4 post n9) post M x1 x2 x3 := h
    unfold b_X0_pullsAbove_4 at h
    refine lv_iload_n hx hb dX0_pullsAbove_4 rfl (lv_at hl 3 rfl) ?_
    refine lv_aload_n hx hb dX0_pullsAbove_5 rfl (lv_at hl 0 rfl) ?_
    refine gt_0_4 C w kw_4_2 dX0_pullsAbove_6 ?_
    refine lv_icmp_ge (tgt := 30) hx hb dX0_pullsAbove_9 (by decide) (fun c1 => ?_) (fun c1 => ?_)
    · replace h := h.1 c1
      refine lv_iload_n hx hb dX0_pullsAbove_30 rfl (lv_at hl 2 rfl) ?_
      exact ret_i C w h dX0_pullsAbove_31
    replace h := h.2 c1
    refine lv_aload_n hx hb dX0_pullsAbove_12 rfl (lv_at hl 0 rfl) ?_
    refine lv_iload_n hx hb dX0_pullsAbove_13 rfl (lv_at hl 3 rfl) ?_
    refine end_i w (run_V (As := [.int x3]) C w hl.1 (c_X0_pullAt l G C.2.2.1 _ _ x3  _ h) kw_19_20 kw_1_21 kw_22_19 kw_19_18 kw_19_19 hd_X0_pullAt ⟨by decide, by decide⟩ (w.recv C (i := 4) (by decide) (pE_0) rfl) rfl (Nat.le_of_ble_eq_true rfl) dX0_pullsAbove_14) (fun r2 M3 H locs h w => ?_)
    refine lv_iload_n hx hb dX0_pullsAbove_17 rfl (lv_at hl 1 rfl) ?_
    refine lv_icmp_le (tgt := 24) hx hb dX0_pullsAbove_18 (by decide) (fun c4 => ?_) (fun c4 => ?_)
    · replace h := h.1 c4
      exact t_X0_pullsAbove_24 C hk4 M3 x1 x2 x3  w (lv_sub hl [0, 1, 2, 3] rfl) h
    replace h := h.2 c4
    refine lv_iinc (v := (x2 + (1 : Int32))) (lv' := [(2, .int (x2 + (1 : Int32))), (0, .ref (ga G 4)), (1, .int x1), (3, .int x3)]) hx hb dX0_pullsAbove_21 hl (k := 2) rfl rfl (by decide) rfl (fun ls hl => ?_)
    exact t_X0_pullsAbove_24 C hk4 M3 x1 (x2 + (1 : Int32)) x3  w (lv_sub hl [1, 2, 0, 3] rfl) h
set_option maxHeartbeats 4000000 in
set_option maxRecDepth 100000 in
theorem c_X0_pullsAbove (l : Launch) (G : GG) (hG : Ag G) (sz : Nat) (M : Mem) (x1 : Int32) (post : Int32 → Mem → Prop) (h : q_X0_pullsAbove M x1 post) : Met l yX0_pullsAbove (Cond.code yX0_pullsAbove cX0_pullsAbove 4 (some .int) :: wsL_law) (rmk 5) (va_Pc [.ref (ga G 4), .int x1] (Pw G sz M)) (va_Qi post (Qw G) (Af G sz)) 0 0 (Af G sz) := by
  refine Met.ofW (cc := cX0_pullsAbove) (maxL := 4) (ret := (some .int)) (by decide) rfl ?_
  intro p e s m args below meth c s₁ B hml hv
  obtain ⟨rfl, hsz, hE, hP⟩ := hv
  subst hsz
  have C := Cx.of (own := RX0) hG hE rfl hml B
  have w : Wd G s M s.heap [] := ⟨hP, va_S.rf⟩
  have hl := lv_entry [.ref (ga G 4), .int x1] (n := 4) (Nat.le_of_ble_eq_true rfl)
  rw [lg_entry_eq]
  generalize (lg_sl [.ref (ga G 4), .int x1] ++ List.replicate (4 - (lg_sl [.ref (ga G 4), .int x1]).length) Slot.unset).toArray = ls at hl ⊢
  have hl : lv_has ls 4 [(0, .ref (ga G 4)), (1, .int x1)] := hl
  have hx := C.1.1
  have hb := C.1.2.1
  show W p l e (rmk 5) s m _ below meth c s.heap [] 0 0 _ _
  unfold q_X0_pullsAbove at h
  refine lv_iconst (v := 0) hx hb dX0_pullsAbove_0 (by decide) ?_
  refine lv_istore_n (lv' := [(2, .int (0 : Int32)), (0, .ref (ga G 4)), (1, .int x1)]) hx hb dX0_pullsAbove_1 rfl hl (by decide) rfl (fun ls hl => ?_)
  refine lv_iconst (v := 0) hx hb dX0_pullsAbove_2 (by decide) ?_
  refine lv_istore_n (lv' := [(3, .int (0 : Int32)), (2, .int (0 : Int32)), (0, .ref (ga G 4)), (1, .int x1)]) hx hb dX0_pullsAbove_3 rfl hl (by decide) rfl (fun ls hl => ?_)
  obtain ⟨n, h⟩ := h
  exact t_X0_pullsAbove_4 C n M x1 (0 : Int32) (0 : Int32)  w (lv_sub hl [2, 3, 1, 0] rfl) h
def j_X5_renders_33 (post : Int32 → Mem → Prop) (M : Mem) (y0 : Int32) : Prop := post y0 M
def q_X5_renders (M : Mem) (x1 : Int32) (post : Int32 → Mem → Prop) : Prop := q_X5_isWithin M x1 (0 : Int32) (9999 : Int32) (fun r1 M2 => (r1 = 0 → (post (-1 : Int32) M2)) ∧ (¬ (r1 = 0) → (q_X5_layLine M2  (fun r4 M5 => (r4 = 0 → (j_X5_renders_33 post M5 (-3 : Int32))) ∧ (¬ (r4 = 0) → (q_X0_pullsAbove M5 x1 (fun r7 M8 => j_X5_renders_33 post M8 r7)))))))
set_option maxHeartbeats 4000000 in
set_option maxRecDepth 100000 in
theorem t_X5_renders_33 (C : Cx G p s m args meth c RX5 cX5_renders 2 (some .int)) {post : Int32 → Mem → Prop} (M : Mem) (y0 : Int32) {H : Heap} {locs : List Loc} {ls : Array Slot} (w : Wd G s M H locs) (hl : lv_has ls 2 []) (h : j_X5_renders_33 post M y0) : W p l e (rmk 6) s m args below meth c H locs 0 0 (MQ below (va_Qi post (Qw G) (Af G s.heap.size)) args s 0 0 (Af G s.heap.size)) (F0 m 33 ls [.int y0]) := by
  have hx := C.1.1
  have hb := C.1.2.1
  unfold j_X5_renders_33 at h
  exact ret_i C w h dX5_renders_33
set_option maxHeartbeats 4000000 in
set_option maxRecDepth 100000 in
theorem c_X5_renders (l : Launch) (G : GG) (hG : Ag G) (sz : Nat) (M : Mem) (x1 : Int32) (post : Int32 → Mem → Prop) (h : q_X5_renders M x1 post) : Met l yX5_renders (Cond.code yX5_renders cX5_renders 2 (some .int) :: wsL_law) (rmk 6) (va_Pc [.ref (ga G 0), .int x1] (Pw G sz M)) (va_Qi post (Qw G) (Af G sz)) 0 0 (Af G sz) := by
  refine Met.ofW (cc := cX5_renders) (maxL := 2) (ret := (some .int)) (by decide) rfl ?_
  intro p e s m args below meth c s₁ B hml hv
  obtain ⟨rfl, hsz, hE, hP⟩ := hv
  subst hsz
  have C := Cx.of (own := RX5) hG hE rfl hml B
  have w : Wd G s M s.heap [] := ⟨hP, va_S.rf⟩
  have hl := lv_entry [.ref (ga G 0), .int x1] (n := 2) (Nat.le_of_ble_eq_true rfl)
  rw [lg_entry_eq]
  generalize (lg_sl [.ref (ga G 0), .int x1] ++ List.replicate (2 - (lg_sl [.ref (ga G 0), .int x1]).length) Slot.unset).toArray = ls at hl ⊢
  have hl : lv_has ls 2 [(0, .ref (ga G 0)), (1, .int x1)] := hl
  have hx := C.1.1
  have hb := C.1.2.1
  show W p l e (rmk 6) s m _ below meth c s.heap [] 0 0 _ _
  unfold q_X5_renders at h
  refine lv_iload_n hx hb dX5_renders_0 rfl (lv_at hl 1 rfl) ?_
  refine lv_iconst (v := 0) hx hb dX5_renders_1 (by decide) ?_
  refine lv_sipush (v := 9999) hx hb dX5_renders_2 (by decide) ?_
  refine end_i w (run_S (As := [.int x1, .int (0 : Int32), .int (9999 : Int32)]) C w hl.1 (c_X5_isWithin l G C.2.2.1 _ _ x1 (0 : Int32) (9999 : Int32)  _ h) kw_6_8 kw_1_2 kw_6_6 kw_6_7 hd_X5_isWithin ⟨by decide, by decide⟩ rfl (Nat.le_of_ble_eq_true rfl) dX5_renders_5) (fun r1 M2 H locs h w => ?_)
  refine lv_if_ne (tgt := 13) hx hb dX5_renders_8 (by decide) (fun c3 => ?_) (fun c3 => ?_)
  · replace h := h.2 c3
    refine lv_aload_n hx hb dX5_renders_13 rfl (lv_at hl 0 rfl) ?_
    refine end_i w (run_V (As := []) C w hl.1 (c_X5_layLine l G C.2.2.1 _ _   _ h) kw_15_21 kw_1_2 kw_15_18 kw_15_19 kw_15_20 hd_X5_layLine ⟨by decide, by decide⟩ (w.recv C (i := 0) (by decide) (pE_5) rfl) rfl (Nat.le_of_ble_eq_true rfl) dX5_renders_14) (fun r4 M5 H locs h w => ?_)
    refine lv_if_eq (tgt := 31) hx hb dX5_renders_17 (by decide) (fun c6 => ?_) (fun c6 => ?_)
    · replace h := h.1 c6
      refine lv_bipush (v := -3) hx hb dX5_renders_31 (by decide) ?_
      exact t_X5_renders_33 C M5 (-3 : Int32)  w (lv_sub hl [] rfl) h
    replace h := h.2 c6
    refine lv_aload_n hx hb dX5_renders_20 rfl (lv_at hl 0 rfl) ?_
    refine gt_5_3 C w kw_1_22 dX5_renders_21 ?_
    refine lv_iload_n hx hb dX5_renders_24 rfl (lv_at hl 1 rfl) ?_
    refine end_i w (run_VN (As := [.int x1]) C w hl.1 (c_X0_pullsAbove l G C.2.2.1 _ _ x1  _ h) kw_31_8 kw_1_21 kn_73 kw_31_6 kw_31_7 hd_X0_pullsAbove ⟨by decide, by decide⟩ (w.recv C (i := 4) (by decide) (pE_0) rfl) rfl (Nat.le_of_ble_eq_true rfl) dX5_renders_25) (fun r7 M8 H locs h w => ?_)
    refine lv_goto (tgt := 33) hx hb dX5_renders_28 (by decide) ?_
    exact t_X5_renders_33 C M8 r7  w (lv_sub hl [] rfl) h
  replace h := h.1 c3
  refine lv_iconst (v := -1) hx hb dX5_renders_11 (by decide) ?_
  exact ret_i C w h dX5_renders_12
def j_X6_above_36 (k4 : Mem → Int32 → Int32 → Int32 → Prop) (post : Int32 → Mem → Prop) (M : Mem) (y0 : Int32) (y1 : Int32) (x1 : Int32) (x3 : Int32) : Prop := k4 M x1 (y1 + y0) (x3 + (1 : Int32))
def b_X6_above_4 (k4 : Mem → Int32 → Int32 → Int32 → Prop) (post : Int32 → Mem → Prop) (M : Mem) (x1 : Int32) (x2 : Int32) (x3 : Int32) : Prop := ((M 58 6) ≤ x3 → (post x2 M)) ∧ (¬ ((M 58 6) ≤ x3) → (q_X6_pullAt M x3 (M 58 5) (fun r2 M3 => (r2 ≤ x1 → (j_X6_above_36 k4 post M3 (0 : Int32) x2 x1 x3)) ∧ (¬ (r2 ≤ x1) → (j_X6_above_36 k4 post M3 (1 : Int32) x2 x1 x3)))))
def lp_X6_above_4 (post : Int32 → Mem → Prop) : Nat → Mem → Int32 → Int32 → Int32 → Prop
  | 0 => fun _ _ _ _ => False
  | n + 1 => fun M x1 x2 x3 => b_X6_above_4 (lp_X6_above_4 post n) post M x1 x2 x3
def q_X6_above (M : Mem) (x1 : Int32) (post : Int32 → Mem → Prop) : Prop := ∃ n, lp_X6_above_4 post n M x1 (0 : Int32) (0 : Int32)
set_option maxHeartbeats 4000000 in
set_option maxRecDepth 100000 in
theorem t_X6_above_36 (C : Cx G p s m args meth c RX6 cX6_above 4 (some .int)) {post : Int32 → Mem → Prop} {k4 : Mem → Int32 → Int32 → Int32 → Prop} (hk4 : ∀ (M : Mem) (x1 : Int32) (x2 : Int32) (x3 : Int32) (H : Heap) (locs : List Loc) (ls : Array Slot), Wd G s M H locs → lv_has ls 4 [(0, .ref (ga G 57)), (1, .int x1), (2, .int x2), (3, .int x3)] → k4 M x1 x2 x3 → W p l e (rmk 4) s m args below meth c H locs 0 0 (MQ below (va_Qi post (Qw G) (Af G s.heap.size)) args s 0 0 (Af G s.heap.size)) (F0 m 4 ls [])) (M : Mem) (y0 : Int32) (y1 : Int32) (x1 : Int32) (x3 : Int32) {H : Heap} {locs : List Loc} {ls : Array Slot} (w : Wd G s M H locs) (hl : lv_has ls 4 [(0, .ref (ga G 57)), (1, .int x1), (3, .int x3)]) (h : j_X6_above_36 k4 post M y0 y1 x1 x3) : W p l e (rmk 4) s m args below meth c H locs 0 0 (MQ below (va_Qi post (Qw G) (Af G s.heap.size)) args s 0 0 (Af G s.heap.size)) (F0 m 36 ls [.int y0, .int y1]) := by
  have hx := C.1.1
  have hb := C.1.2.1
  unfold j_X6_above_36 at h
  refine lv_iadd hx hb dX6_above_36 ?_
  refine lv_istore_n (lv' := [(2, .int (y1 + y0)), (0, .ref (ga G 57)), (1, .int x1), (3, .int x3)]) hx hb dX6_above_37 rfl hl (by decide) rfl (fun ls hl => ?_)
  refine lv_iinc (v := (x3 + (1 : Int32))) (lv' := [(3, .int (x3 + (1 : Int32))), (2, .int (y1 + y0)), (0, .ref (ga G 57)), (1, .int x1)]) hx hb dX6_above_38 hl (k := 3) rfl rfl (by decide) rfl (fun ls hl => ?_)
  refine lv_goto (tgt := 4) hx hb dX6_above_41 (by decide) ?_
  exact hk4 M x1 (y1 + y0) (x3 + (1 : Int32)) _ _ _  w (lv_sub hl [2, 3, 1, 0] rfl) h
set_option maxHeartbeats 4000000 in
set_option maxRecDepth 100000 in
theorem t_X6_above_4 (C : Cx G p s m args meth c RX6 cX6_above 4 (some .int)) {post : Int32 → Mem → Prop} : ∀ (n : Nat) (M : Mem) (x1 : Int32) (x2 : Int32) (x3 : Int32) {H : Heap} {locs : List Loc} {ls : Array Slot} (w : Wd G s M H locs) (hl : lv_has ls 4 [(0, .ref (ga G 57)), (1, .int x1), (2, .int x2), (3, .int x3)]) (h : lp_X6_above_4 post n M x1 x2 x3), W p l e (rmk 4) s m args below meth c H locs 0 0 (MQ below (va_Qi post (Qw G) (Af G s.heap.size)) args s 0 0 (Af G s.heap.size)) (F0 m 4 ls []) := by
  have hx := C.1.1
  have hb := C.1.2.1
  intro n9
  induction n9 with
  | zero => intro M x1 x2 x3 H locs ls w hl h; exact absurd h id
  | succ n9 ih9 =>
    intro M x1 x2 x3 H locs ls w hl h
    have hk4 : ∀ (M : Mem) (x1 : Int32) (x2 : Int32) (x3 : Int32) (H : Heap) (locs : List Loc) (ls : Array Slot), Wd G s M H locs → lv_has ls 4 [(0, .ref (ga G 57)), (1, .int x1), (2, .int x2), (3, .int x3)] → lp_X6_above_4 post n9 M x1 x2 x3 → W p l e (rmk 4) s m args below meth c H locs 0 0 (MQ below (va_Qi post (Qw G) (Af G s.heap.size)) args s 0 0 (Af G s.heap.size)) (F0 m 4 ls []) := fun M x1 x2 x3 H locs ls w hl h => ih9 M x1 x2 x3 w hl h
    replace h : b_X6_above_4 (lp_X6_above_4 post n9) post M x1 x2 x3 := h
    unfold b_X6_above_4 at h
    refine lv_iload_n hx hb dX6_above_4 rfl (lv_at hl 3 rfl) ?_
    refine lv_aload_n hx hb dX6_above_5 rfl (lv_at hl 0 rfl) ?_
    refine gt_6_0 C w kw_5_0 dX6_above_6 ?_
    refine lv_bipush (v := 6) hx hb dX6_above_9 (by decide) ?_
    refine pw_ld C w (i := 58) (by decide) pE_58 (vl (x := (6 : Int32)) (by decide)) (k := 6) (by decide) dX6_above_11 ?_
    refine lv_icmp_ge (tgt := 44) hx hb dX6_above_12 (by decide) (fun c1 => ?_) (fun c1 => ?_)
    · replace h := h.1 c1
      refine lv_iload_n hx hb dX6_above_44 rfl (lv_at hl 2 rfl) ?_
      exact ret_i C w h dX6_above_45
    replace h := h.2 c1
    refine lv_iload_n hx hb dX6_above_15 rfl (lv_at hl 2 rfl) ?_
    refine lv_aload_n hx hb dX6_above_16 rfl (lv_at hl 0 rfl) ?_
    refine lv_iload_n hx hb dX6_above_17 rfl (lv_at hl 3 rfl) ?_
    refine lv_aload_n hx hb dX6_above_18 rfl (lv_at hl 0 rfl) ?_
    refine gt_6_0 C w kw_5_0 dX6_above_19 ?_
    refine lv_iconst (v := 5) hx hb dX6_above_22 (by decide) ?_
    refine pw_ld C w (i := 58) (by decide) pE_58 (vl (x := (5 : Int32)) (by decide)) (k := 5) (by decide) dX6_above_23 ?_
    refine end_i w (run_V (As := [.int x3, .int (M 58 5)]) C w hl.1 (c_X6_pullAt l G C.2.2.1 _ _ x3 (M 58 5)  _ h) kw_20_16 kw_1_5 kw_20_13 kw_20_14 kw_20_15 hd_X6_pullAt ⟨by decide, by decide⟩ (w.recv C (i := 57) (by decide) (pE_6) rfl) rfl (Nat.le_of_ble_eq_true rfl) dX6_above_24) (fun r2 M3 H locs h w => ?_)
    refine lv_iload_n hx hb dX6_above_27 rfl (lv_at hl 1 rfl) ?_
    refine lv_icmp_le (tgt := 35) hx hb dX6_above_28 (by decide) (fun c4 => ?_) (fun c4 => ?_)
    · replace h := h.1 c4
      refine lv_iconst (v := 0) hx hb dX6_above_35 (by decide) ?_
      exact t_X6_above_36 C hk4 M3 (0 : Int32) x2 x1 x3  w (lv_sub hl [0, 1, 3] rfl) h
    replace h := h.2 c4
    refine lv_iconst (v := 1) hx hb dX6_above_31 (by decide) ?_
    refine lv_goto (tgt := 36) hx hb dX6_above_32 (by decide) ?_
    exact t_X6_above_36 C hk4 M3 (1 : Int32) x2 x1 x3  w (lv_sub hl [0, 1, 3] rfl) h
set_option maxHeartbeats 4000000 in
set_option maxRecDepth 100000 in
theorem c_X6_above (l : Launch) (G : GG) (hG : Ag G) (sz : Nat) (M : Mem) (x1 : Int32) (post : Int32 → Mem → Prop) (h : q_X6_above M x1 post) : Met l yX6_above (Cond.code yX6_above cX6_above 4 (some .int) :: wsL_law) (rmk 4) (va_Pc [.ref (ga G 57), .int x1] (Pw G sz M)) (va_Qi post (Qw G) (Af G sz)) 0 0 (Af G sz) := by
  refine Met.ofW (cc := cX6_above) (maxL := 4) (ret := (some .int)) (by decide) rfl ?_
  intro p e s m args below meth c s₁ B hml hv
  obtain ⟨rfl, hsz, hE, hP⟩ := hv
  subst hsz
  have C := Cx.of (own := RX6) hG hE rfl hml B
  have w : Wd G s M s.heap [] := ⟨hP, va_S.rf⟩
  have hl := lv_entry [.ref (ga G 57), .int x1] (n := 4) (Nat.le_of_ble_eq_true rfl)
  rw [lg_entry_eq]
  generalize (lg_sl [.ref (ga G 57), .int x1] ++ List.replicate (4 - (lg_sl [.ref (ga G 57), .int x1]).length) Slot.unset).toArray = ls at hl ⊢
  have hl : lv_has ls 4 [(0, .ref (ga G 57)), (1, .int x1)] := hl
  have hx := C.1.1
  have hb := C.1.2.1
  show W p l e (rmk 4) s m _ below meth c s.heap [] 0 0 _ _
  unfold q_X6_above at h
  refine lv_iconst (v := 0) hx hb dX6_above_0 (by decide) ?_
  refine lv_istore_n (lv' := [(2, .int (0 : Int32)), (0, .ref (ga G 57)), (1, .int x1)]) hx hb dX6_above_1 rfl hl (by decide) rfl (fun ls hl => ?_)
  refine lv_iconst (v := 0) hx hb dX6_above_2 (by decide) ?_
  refine lv_istore_n (lv' := [(3, .int (0 : Int32)), (2, .int (0 : Int32)), (0, .ref (ga G 57)), (1, .int x1)]) hx hb dX6_above_3 rfl hl (by decide) rfl (fun ls hl => ?_)
  obtain ⟨n, h⟩ := h
  exact t_X6_above_4 C n M x1 (0 : Int32) (0 : Int32)  w (lv_sub hl [2, 3, 1, 0] rfl) h
def q_X6_renders (M : Mem) (x1 : Int32) (post : Int32 → Mem → Prop) : Prop := q_X6_isIn M x1.toInt64 (0 : Int64) (9999 : Int64) (fun r1 M2 => (r1 = 0 → (post (-1 : Int32) M2)) ∧ (¬ (r1 = 0) → (q_X6_isLine M2  (fun r4 M5 => (r4 = 0 → (post (-3 : Int32) M5)) ∧ (¬ (r4 = 0) → (q_X6_allPieces M5  (fun r7 M8 => q_X6_sumsUp M8 r7 (fun M10 => q_X6_above M10 x1 (fun r11 M12 => post r11 M12)))))))))
set_option maxHeartbeats 4000000 in
set_option maxRecDepth 100000 in
theorem c_X6_renders (l : Launch) (G : GG) (hG : Ag G) (sz : Nat) (M : Mem) (x1 : Int32) (post : Int32 → Mem → Prop) (h : q_X6_renders M x1 post) : Met l yX6_renders (Cond.code yX6_renders cX6_renders 2 (some .int) :: wsL_law) (rmk 5) (va_Pc [.ref (ga G 57), .int x1] (Pw G sz M)) (va_Qi post (Qw G) (Af G sz)) 0 0 (Af G sz) := by
  refine Met.ofW (cc := cX6_renders) (maxL := 2) (ret := (some .int)) (by decide) rfl ?_
  intro p e s m args below meth c s₁ B hml hv
  obtain ⟨rfl, hsz, hE, hP⟩ := hv
  subst hsz
  have C := Cx.of (own := RX6) hG hE rfl hml B
  have w : Wd G s M s.heap [] := ⟨hP, va_S.rf⟩
  have hl := lv_entry [.ref (ga G 57), .int x1] (n := 2) (Nat.le_of_ble_eq_true rfl)
  rw [lg_entry_eq]
  generalize (lg_sl [.ref (ga G 57), .int x1] ++ List.replicate (2 - (lg_sl [.ref (ga G 57), .int x1]).length) Slot.unset).toArray = ls at hl ⊢
  have hl : lv_has ls 2 [(0, .ref (ga G 57)), (1, .int x1)] := hl
  have hx := C.1.1
  have hb := C.1.2.1
  show W p l e (rmk 5) s m _ below meth c s.heap [] 0 0 _ _
  unfold q_X6_renders at h
  refine lv_iload_n hx hb dX6_renders_0 rfl (lv_at hl 1 rfl) ?_
  refine lv_i2l hx hb dX6_renders_1 rfl ?_
  refine lv_lconst (v := 0) hx hb dX6_renders_2 (by decide) ?_
  refine lv_ldc2 hx hb C.1.2.2.2.1 (C.ws kw_19_2) dX6_renders_3 ?_
  refine end_i w (run_S (As := [.long x1.toInt64, .long (0 : Int64), .long (9999 : Int64)]) C w hl.1 (c_X6_isIn l G C.2.2.1 _ _ x1.toInt64 (0 : Int64) (9999 : Int64)  _ h) kw_12_5 kw_1_5 kw_12_3 kw_12_4 hd_X6_isIn ⟨by decide, by decide⟩ rfl (Nat.le_of_ble_eq_true rfl) dX6_renders_6) (fun r1 M2 H locs h w => ?_)
  refine lv_if_ne (tgt := 14) hx hb dX6_renders_9 (by decide) (fun c3 => ?_) (fun c3 => ?_)
  · replace h := h.2 c3
    refine lv_aload_n hx hb dX6_renders_14 rfl (lv_at hl 0 rfl) ?_
    refine end_i w (run_V (As := []) C w hl.1 (c_X6_isLine l G C.2.2.1 _ _   _ h) kw_17_11 kw_1_5 kw_17_8 kw_17_9 kw_17_10 hd_X6_isLine ⟨by decide, by decide⟩ (w.recv C (i := 57) (by decide) (pE_6) rfl) rfl (Nat.le_of_ble_eq_true rfl) dX6_renders_15) (fun r4 M5 H locs h w => ?_)
    refine lv_if_ne (tgt := 24) hx hb dX6_renders_18 (by decide) (fun c6 => ?_) (fun c6 => ?_)
    · replace h := h.2 c6
      refine lv_aload_n hx hb dX6_renders_24 rfl (lv_at hl 0 rfl) ?_
      refine lv_aload_n hx hb dX6_renders_25 rfl (lv_at hl 0 rfl) ?_
      refine end_i w (run_V (As := []) C w hl.1 (c_X6_allPieces l G C.2.2.1 _ _   _ h) kw_17_15 kw_1_5 kw_17_12 kw_17_13 kw_17_14 hd_X6_allPieces ⟨by decide, by decide⟩ (w.recv C (i := 57) (by decide) (pE_6) rfl) rfl (Nat.le_of_ble_eq_true rfl) dX6_renders_26) (fun r7 M8 H locs h w => ?_)
      refine end_v w (run_V (As := [.int r7]) C w hl.1 (c_X6_sumsUp l G C.2.2.1 _ _ r7  _ h) kw_17_19 kw_1_5 kw_17_16 kw_17_17 kw_17_18 hd_X6_sumsUp ⟨by decide, by decide⟩ (w.recv C (i := 57) (by decide) (pE_6) rfl) rfl (Nat.le_of_ble_eq_true rfl) dX6_renders_29) (fun M10 H locs h w => ?_)
      refine lv_aload_n hx hb dX6_renders_32 rfl (lv_at hl 0 rfl) ?_
      refine lv_iload_n hx hb dX6_renders_33 rfl (lv_at hl 1 rfl) ?_
      refine end_i w (run_V (As := [.int x1]) C w hl.1 (c_X6_above l G C.2.2.1 _ _ x1  _ h) kw_31_16 kw_1_5 kw_31_13 kw_31_14 kw_31_15 hd_X6_above ⟨by decide, by decide⟩ (w.recv C (i := 57) (by decide) (pE_6) rfl) rfl (Nat.le_of_ble_eq_true rfl) dX6_renders_34) (fun r11 M12 H locs h w => ?_)
      exact ret_i C w h dX6_renders_37
    replace h := h.1 c6
    refine lv_bipush (v := -3) hx hb dX6_renders_21 (by decide) ?_
    exact ret_i C w h dX6_renders_23
  replace h := h.1 c3
  refine lv_iconst (v := -1) hx hb dX6_renders_12 (by decide) ?_
  exact ret_i C w h dX6_renders_13
def j_X5_winch_107 (post : Int32 → Mem → Prop) (M : Mem) (y0 : Int32) : Prop := post y0 M
def j_X5_winch_88 (k45 : Mem → Int32 → Int32 → Int32 → Prop) (post : Int32 → Mem → Prop) (M : Mem) (x1 : Int32) (x2 : Int32) (x3 : Int32) : Prop := k45 M x1 x2 (x3 + (1 : Int32))
def b_X5_winch_45 (k45 : Mem → Int32 → Int32 → Int32 → Prop) (post : Int32 → Mem → Prop) (M : Mem) (x1 : Int32) (x2 : Int32) (x3 : Int32) : Prop := ((M 4 4) ≤ x3 → ((x2 ≤ (9999 : Int32) → (j_X5_winch_107 post M x2)) ∧ (¬ (x2 ≤ (9999 : Int32)) → (j_X5_winch_107 post M (-4 : Int32))))) ∧ (¬ ((M 4 4) ≤ x3) → (q_X0_pullAt M x3 (fun r3 M4 => (x2 ≤ r3 → (j_X5_winch_88 k45 post M4 x1 x2 x3)) ∧ (¬ (x2 ≤ r3) → (q_X0_pullsAbove M4 r3 (fun r6 M7 => (x1 < r6 → (j_X5_winch_88 k45 post M7 x1 x2 x3)) ∧ (¬ (x1 < r6) → (j_X5_winch_88 k45 post M7 x1 r3 x3))))))))
def lp_X5_winch_45 (post : Int32 → Mem → Prop) : Nat → Mem → Int32 → Int32 → Int32 → Prop
  | 0 => fun _ _ _ _ => False
  | n + 1 => fun M x1 x2 x3 => b_X5_winch_45 (lp_X5_winch_45 post n) post M x1 x2 x3
def q_X5_winch (M : Mem) (x1 : Int32) (post : Int32 → Mem → Prop) : Prop := q_X5_isWithin M x1 (0 : Int32) (mostT 1) (fun r9 M10 => (r9 = 0 → (post (-1 : Int32) M10)) ∧ (¬ (r9 = 0) → (q_X5_layLine M10  (fun r12 M13 => (r12 = 0 → (post (-3 : Int32) M13)) ∧ (¬ (r12 = 0) → (q_X0_pullsAbove M13 (0 : Int32) (fun r15 M16 => (x1 < r15 → (∃ n, lp_X5_winch_45 post n M16 x1 (10000 : Int32) (0 : Int32))) ∧ (¬ (x1 < r15) → (post (0 : Int32) M16)))))))))
set_option maxHeartbeats 4000000 in
set_option maxRecDepth 100000 in
theorem t_X5_winch_107 (C : Cx G p s m args meth c RX5 cX5_winch 5 (some .int)) {post : Int32 → Mem → Prop} (M : Mem) (y0 : Int32) {H : Heap} {locs : List Loc} {ls : Array Slot} (w : Wd G s M H locs) (hl : lv_has ls 5 []) (h : j_X5_winch_107 post M y0) : W p l e (rmk 6) s m args below meth c H locs 0 0 (MQ below (va_Qi post (Qw G) (Af G s.heap.size)) args s 0 0 (Af G s.heap.size)) (F0 m 107 ls [.int y0]) := by
  have hx := C.1.1
  have hb := C.1.2.1
  unfold j_X5_winch_107 at h
  exact ret_i C w h dX5_winch_107
set_option maxHeartbeats 4000000 in
set_option maxRecDepth 100000 in
theorem t_X5_winch_88 (C : Cx G p s m args meth c RX5 cX5_winch 5 (some .int)) {post : Int32 → Mem → Prop} {k45 : Mem → Int32 → Int32 → Int32 → Prop} (hk45 : ∀ (M : Mem) (x1 : Int32) (x2 : Int32) (x3 : Int32) (H : Heap) (locs : List Loc) (ls : Array Slot), Wd G s M H locs → lv_has ls 5 [(0, .ref (ga G 0)), (1, .int x1), (2, .int x2), (3, .int x3)] → k45 M x1 x2 x3 → W p l e (rmk 6) s m args below meth c H locs 0 0 (MQ below (va_Qi post (Qw G) (Af G s.heap.size)) args s 0 0 (Af G s.heap.size)) (F0 m 45 ls [])) (M : Mem) (x1 : Int32) (x2 : Int32) (x3 : Int32) {H : Heap} {locs : List Loc} {ls : Array Slot} (w : Wd G s M H locs) (hl : lv_has ls 5 [(0, .ref (ga G 0)), (1, .int x1), (2, .int x2), (3, .int x3)]) (h : j_X5_winch_88 k45 post M x1 x2 x3) : W p l e (rmk 6) s m args below meth c H locs 0 0 (MQ below (va_Qi post (Qw G) (Af G s.heap.size)) args s 0 0 (Af G s.heap.size)) (F0 m 88 ls []) := by
  have hx := C.1.1
  have hb := C.1.2.1
  unfold j_X5_winch_88 at h
  refine lv_iinc (v := (x3 + (1 : Int32))) (lv' := [(3, .int (x3 + (1 : Int32))), (0, .ref (ga G 0)), (1, .int x1), (2, .int x2)]) hx hb dX5_winch_88 hl (k := 3) rfl rfl (by decide) rfl (fun ls hl => ?_)
  refine lv_goto (tgt := 45) hx hb dX5_winch_91 (by decide) ?_
  exact hk45 M x1 x2 (x3 + (1 : Int32)) _ _ _  w (lv_sub hl [1, 2, 3, 0] rfl) h
set_option maxHeartbeats 4000000 in
set_option maxRecDepth 100000 in
theorem t_X5_winch_45 (C : Cx G p s m args meth c RX5 cX5_winch 5 (some .int)) {post : Int32 → Mem → Prop} : ∀ (n : Nat) (M : Mem) (x1 : Int32) (x2 : Int32) (x3 : Int32) {H : Heap} {locs : List Loc} {ls : Array Slot} (w : Wd G s M H locs) (hl : lv_has ls 5 [(0, .ref (ga G 0)), (1, .int x1), (2, .int x2), (3, .int x3)]) (h : lp_X5_winch_45 post n M x1 x2 x3), W p l e (rmk 6) s m args below meth c H locs 0 0 (MQ below (va_Qi post (Qw G) (Af G s.heap.size)) args s 0 0 (Af G s.heap.size)) (F0 m 45 ls []) := by
  have hx := C.1.1
  have hb := C.1.2.1
  intro n9
  induction n9 with
  | zero => intro M x1 x2 x3 H locs ls w hl h; exact absurd h id
  | succ n9 ih9 =>
    intro M x1 x2 x3 H locs ls w hl h
    have hk45 : ∀ (M : Mem) (x1 : Int32) (x2 : Int32) (x3 : Int32) (H : Heap) (locs : List Loc) (ls : Array Slot), Wd G s M H locs → lv_has ls 5 [(0, .ref (ga G 0)), (1, .int x1), (2, .int x2), (3, .int x3)] → lp_X5_winch_45 post n9 M x1 x2 x3 → W p l e (rmk 6) s m args below meth c H locs 0 0 (MQ below (va_Qi post (Qw G) (Af G s.heap.size)) args s 0 0 (Af G s.heap.size)) (F0 m 45 ls []) := fun M x1 x2 x3 H locs ls w hl h => ih9 M x1 x2 x3 w hl h
    replace h : b_X5_winch_45 (lp_X5_winch_45 post n9) post M x1 x2 x3 := h
    unfold b_X5_winch_45 at h
    refine lv_iload_n hx hb dX5_winch_45 rfl (lv_at hl 3 rfl) ?_
    refine lv_aload_n hx hb dX5_winch_46 rfl (lv_at hl 0 rfl) ?_
    refine gt_5_3 C w kw_1_22 dX5_winch_47 ?_
    refine gn_0_4 C w kn_27 dX5_winch_50 ?_
    refine lv_icmp_ge (tgt := 94) hx hb dX5_winch_53 (by decide) (fun c1 => ?_) (fun c1 => ?_)
    · replace h := h.1 c1
      refine lv_iload_n hx hb dX5_winch_94 rfl (lv_at hl 2 rfl) ?_
      refine lv_sipush (v := 9999) hx hb dX5_winch_95 (by decide) ?_
      refine lv_icmp_le (tgt := 106) hx hb dX5_winch_98 (by decide) (fun c2 => ?_) (fun c2 => ?_)
      · replace h := h.1 c2
        refine lv_iload_n hx hb dX5_winch_106 rfl (lv_at hl 2 rfl) ?_
        exact t_X5_winch_107 C M x2  w (lv_sub hl [] rfl) h
      replace h := h.2 c2
      refine lv_bipush (v := -4) hx hb dX5_winch_101 (by decide) ?_
      refine lv_goto (tgt := 107) hx hb dX5_winch_103 (by decide) ?_
      exact t_X5_winch_107 C M (-4 : Int32)  w (lv_sub hl [] rfl) h
    replace h := h.2 c1
    refine lv_aload_n hx hb dX5_winch_56 rfl (lv_at hl 0 rfl) ?_
    refine gt_5_3 C w kw_1_22 dX5_winch_57 ?_
    refine lv_iload_n hx hb dX5_winch_60 rfl (lv_at hl 3 rfl) ?_
    refine end_i w (run_VN (As := [.int x3]) C w hl.1 (c_X0_pullAt l G C.2.2.1 _ _ x3  _ h) kw_19_20 kw_1_21 kn_63 kw_19_18 kw_19_19 hd_X0_pullAt ⟨by decide, by decide⟩ (w.recv C (i := 4) (by decide) (pE_0) rfl) rfl (Nat.le_of_ble_eq_true rfl) dX5_winch_61) (fun r3 M4 H locs h w => ?_)
    refine lv_istore (lv' := [(4, .int r3), (0, .ref (ga G 0)), (1, .int x1), (2, .int x2), (3, .int x3)]) hx hb dX5_winch_64 hl (by decide) rfl (fun ls hl => ?_)
    refine lv_iload hx hb dX5_winch_66 (lv_at hl 0 rfl) ?_
    refine lv_iload_n hx hb dX5_winch_68 rfl (lv_at hl 3 rfl) ?_
    refine lv_icmp_ge (tgt := 88) hx hb dX5_winch_69 (by decide) (fun c5 => ?_) (fun c5 => ?_)
    · replace h := h.1 c5
      exact t_X5_winch_88 C hk45 M4 x1 x2 x3  w (lv_sub hl [1, 2, 3, 4] rfl) h
    replace h := h.2 c5
    refine lv_aload_n hx hb dX5_winch_72 rfl (lv_at hl 1 rfl) ?_
    refine gt_5_3 C w kw_1_22 dX5_winch_73 ?_
    refine lv_iload hx hb dX5_winch_76 (lv_at hl 0 rfl) ?_
    refine end_i w (run_VN (As := [.int r3]) C w hl.1 (c_X0_pullsAbove l G C.2.2.1 _ _ r3  _ h) kw_31_8 kw_1_21 kn_73 kw_31_6 kw_31_7 hd_X0_pullsAbove ⟨by decide, by decide⟩ (w.recv C (i := 4) (by decide) (pE_0) rfl) rfl (Nat.le_of_ble_eq_true rfl) dX5_winch_78) (fun r6 M7 H locs h w => ?_)
    refine lv_iload_n hx hb dX5_winch_81 rfl (lv_at hl 2 rfl) ?_
    refine lv_icmp_gt (tgt := 88) hx hb dX5_winch_82 (by decide) (fun c8 => ?_) (fun c8 => ?_)
    · replace h := h.1 c8
      exact t_X5_winch_88 C hk45 M7 x1 x2 x3  w (lv_sub hl [1, 2, 3, 4] rfl) h
    replace h := h.2 c8
    refine lv_iload hx hb dX5_winch_85 (lv_at hl 0 rfl) ?_
    refine lv_istore_n (lv' := [(2, .int r3), (4, .int r3), (0, .ref (ga G 0)), (1, .int x1), (3, .int x3)]) hx hb dX5_winch_87 rfl hl (by decide) rfl (fun ls hl => ?_)
    exact t_X5_winch_88 C hk45 M7 x1 r3 x3  w (lv_sub hl [2, 3, 0, 4] rfl) h
set_option maxHeartbeats 4000000 in
set_option maxRecDepth 100000 in
theorem c_X5_winch (l : Launch) (G : GG) (hG : Ag G) (sz : Nat) (M : Mem) (x1 : Int32) (post : Int32 → Mem → Prop) (h : q_X5_winch M x1 post) : Met l yX5_winch (Cond.code yX5_winch cX5_winch 5 (some .int) :: wsL_law) (rmk 6) (va_Pc [.ref (ga G 0), .int x1] (Pw G sz M)) (va_Qi post (Qw G) (Af G sz)) 0 0 (Af G sz) := by
  refine Met.ofW (cc := cX5_winch) (maxL := 5) (ret := (some .int)) (by decide) rfl ?_
  intro p e s m args below meth c s₁ B hml hv
  obtain ⟨rfl, hsz, hE, hP⟩ := hv
  subst hsz
  have C := Cx.of (own := RX5) hG hE rfl hml B
  have w : Wd G s M s.heap [] := ⟨hP, va_S.rf⟩
  have hl := lv_entry [.ref (ga G 0), .int x1] (n := 5) (Nat.le_of_ble_eq_true rfl)
  rw [lg_entry_eq]
  generalize (lg_sl [.ref (ga G 0), .int x1] ++ List.replicate (5 - (lg_sl [.ref (ga G 0), .int x1]).length) Slot.unset).toArray = ls at hl ⊢
  have hl : lv_has ls 5 [(0, .ref (ga G 0)), (1, .int x1)] := hl
  have hx := C.1.1
  have hb := C.1.2.1
  show W p l e (rmk 6) s m _ below meth c s.heap [] 0 0 _ _
  unfold q_X5_winch at h
  refine lv_iload_n hx hb dX5_winch_0 rfl (lv_at hl 1 rfl) ?_
  refine lv_iconst (v := 0) hx hb dX5_winch_1 (by decide) ?_
  refine gs_gM C w kw_24_3 dX5_winch_2 ?_
  refine lv_iconst (v := 1) hx hb dX5_winch_5 (by decide) ?_
  refine ts_gM C w (vl (x := (1 : Int32)) (by decide)) (k := 1) (by decide) dX5_winch_6 ?_
  refine end_i w (run_S (As := [.int x1, .int (0 : Int32), .int (mostT 1)]) C w hl.1 (c_X5_isWithin l G C.2.2.1 _ _ x1 (0 : Int32) (mostT 1)  _ h) kw_6_8 kw_1_2 kw_6_6 kw_6_7 hd_X5_isWithin ⟨by decide, by decide⟩ rfl (Nat.le_of_ble_eq_true rfl) dX5_winch_7) (fun r9 M10 H locs h w => ?_)
  refine lv_if_ne (tgt := 15) hx hb dX5_winch_10 (by decide) (fun c11 => ?_) (fun c11 => ?_)
  · replace h := h.2 c11
    refine lv_aload_n hx hb dX5_winch_15 rfl (lv_at hl 0 rfl) ?_
    refine end_i w (run_V (As := []) C w hl.1 (c_X5_layLine l G C.2.2.1 _ _   _ h) kw_15_21 kw_1_2 kw_15_18 kw_15_19 kw_15_20 hd_X5_layLine ⟨by decide, by decide⟩ (w.recv C (i := 0) (by decide) (pE_5) rfl) rfl (Nat.le_of_ble_eq_true rfl) dX5_winch_16) (fun r12 M13 H locs h w => ?_)
    refine lv_if_ne (tgt := 25) hx hb dX5_winch_19 (by decide) (fun c14 => ?_) (fun c14 => ?_)
    · replace h := h.2 c14
      refine lv_aload_n hx hb dX5_winch_25 rfl (lv_at hl 0 rfl) ?_
      refine gt_5_3 C w kw_1_22 dX5_winch_26 ?_
      refine lv_iconst (v := 0) hx hb dX5_winch_29 (by decide) ?_
      refine end_i w (run_VN (As := [.int (0 : Int32)]) C w hl.1 (c_X0_pullsAbove l G C.2.2.1 _ _ (0 : Int32)  _ h) kw_31_8 kw_1_21 kn_73 kw_31_6 kw_31_7 hd_X0_pullsAbove ⟨by decide, by decide⟩ (w.recv C (i := 4) (by decide) (pE_0) rfl) rfl (Nat.le_of_ble_eq_true rfl) dX5_winch_30) (fun r15 M16 H locs h w => ?_)
      refine lv_iload_n hx hb dX5_winch_33 rfl (lv_at hl 1 rfl) ?_
      refine lv_icmp_gt (tgt := 39) hx hb dX5_winch_34 (by decide) (fun c17 => ?_) (fun c17 => ?_)
      · replace h := h.1 c17
        refine lv_sipush (v := 10000) hx hb dX5_winch_39 (by decide) ?_
        refine lv_istore_n (lv' := [(2, .int (10000 : Int32)), (0, .ref (ga G 0)), (1, .int x1)]) hx hb dX5_winch_42 rfl hl (by decide) rfl (fun ls hl => ?_)
        refine lv_iconst (v := 0) hx hb dX5_winch_43 (by decide) ?_
        refine lv_istore_n (lv' := [(3, .int (0 : Int32)), (2, .int (10000 : Int32)), (0, .ref (ga G 0)), (1, .int x1)]) hx hb dX5_winch_44 rfl hl (by decide) rfl (fun ls hl => ?_)
        obtain ⟨n, h⟩ := h
        exact t_X5_winch_45 C n M16 x1 (10000 : Int32) (0 : Int32)  w (lv_sub hl [2, 3, 1, 0] rfl) h
      replace h := h.2 c17
      refine lv_iconst (v := 0) hx hb dX5_winch_37 (by decide) ?_
      exact ret_i C w h dX5_winch_38
    replace h := h.1 c14
    refine lv_bipush (v := -3) hx hb dX5_winch_22 (by decide) ?_
    exact ret_i C w h dX5_winch_24
  replace h := h.1 c11
  refine lv_iconst (v := -1) hx hb dX5_winch_13 (by decide) ?_
  exact ret_i C w h dX5_winch_14
def b_X6_winch_34 (k34 : Mem → Int32 → Int32 → Prop) (post : Int32 → Mem → Prop) (M : Mem) (x1 : Int32) (x2 : Int32) : Prop := ((9999 : Int32) < x2 → (post (-4 : Int32) M)) ∧ (¬ ((9999 : Int32) < x2) → (q_X6_above M x2 (fun r2 M3 => (x1 < r2 → (k34 M3 x1 (x2 + (1 : Int32)))) ∧ (¬ (x1 < r2) → (post x2 M3)))))
def lp_X6_winch_34 (post : Int32 → Mem → Prop) : Nat → Mem → Int32 → Int32 → Prop
  | 0 => fun _ _ _ => False
  | n + 1 => fun M x1 x2 => b_X6_winch_34 (lp_X6_winch_34 post n) post M x1 x2
def q_X6_winch (M : Mem) (x1 : Int32) (post : Int32 → Mem → Prop) : Prop := q_X6_isIn M x1.toInt64 (0 : Int64) (40 : Int64) (fun r5 M6 => (r5 = 0 → (post (-1 : Int32) M6)) ∧ (¬ (r5 = 0) → (q_X6_isLine M6  (fun r8 M9 => (r8 = 0 → (post (-3 : Int32) M9)) ∧ (¬ (r8 = 0) → (q_X6_allPieces M9  (fun r11 M12 => q_X6_sumsUp M12 r11 (fun M14 => ∃ n, lp_X6_winch_34 post n M14 x1 (0 : Int32)))))))))
set_option maxHeartbeats 4000000 in
set_option maxRecDepth 100000 in
theorem t_X6_winch_34 (C : Cx G p s m args meth c RX6 cX6_winch 3 (some .int)) {post : Int32 → Mem → Prop} : ∀ (n : Nat) (M : Mem) (x1 : Int32) (x2 : Int32) {H : Heap} {locs : List Loc} {ls : Array Slot} (w : Wd G s M H locs) (hl : lv_has ls 3 [(0, .ref (ga G 57)), (1, .int x1), (2, .int x2)]) (h : lp_X6_winch_34 post n M x1 x2), W p l e (rmk 5) s m args below meth c H locs 0 0 (MQ below (va_Qi post (Qw G) (Af G s.heap.size)) args s 0 0 (Af G s.heap.size)) (F0 m 34 ls []) := by
  have hx := C.1.1
  have hb := C.1.2.1
  intro n9
  induction n9 with
  | zero => intro M x1 x2 H locs ls w hl h; exact absurd h id
  | succ n9 ih9 =>
    intro M x1 x2 H locs ls w hl h
    have hk34 : ∀ (M : Mem) (x1 : Int32) (x2 : Int32) (H : Heap) (locs : List Loc) (ls : Array Slot), Wd G s M H locs → lv_has ls 3 [(0, .ref (ga G 57)), (1, .int x1), (2, .int x2)] → lp_X6_winch_34 post n9 M x1 x2 → W p l e (rmk 5) s m args below meth c H locs 0 0 (MQ below (va_Qi post (Qw G) (Af G s.heap.size)) args s 0 0 (Af G s.heap.size)) (F0 m 34 ls []) := fun M x1 x2 H locs ls w hl h => ih9 M x1 x2 w hl h
    replace h : b_X6_winch_34 (lp_X6_winch_34 post n9) post M x1 x2 := h
    unfold b_X6_winch_34 at h
    refine lv_iload_n hx hb dX6_winch_34 rfl (lv_at hl 2 rfl) ?_
    refine lv_sipush (v := 9999) hx hb dX6_winch_35 (by decide) ?_
    refine lv_icmp_gt (tgt := 58) hx hb dX6_winch_38 (by decide) (fun c1 => ?_) (fun c1 => ?_)
    · replace h := h.1 c1
      refine lv_bipush (v := -4) hx hb dX6_winch_58 (by decide) ?_
      exact ret_i C w h dX6_winch_60
    replace h := h.2 c1
    refine lv_aload_n hx hb dX6_winch_41 rfl (lv_at hl 0 rfl) ?_
    refine lv_iload_n hx hb dX6_winch_42 rfl (lv_at hl 2 rfl) ?_
    refine end_i w (run_V (As := [.int x2]) C w hl.1 (c_X6_above l G C.2.2.1 _ _ x2  _ h) kw_31_16 kw_1_5 kw_31_13 kw_31_14 kw_31_15 hd_X6_above ⟨by decide, by decide⟩ (w.recv C (i := 57) (by decide) (pE_6) rfl) rfl (Nat.le_of_ble_eq_true rfl) dX6_winch_43) (fun r2 M3 H locs h w => ?_)
    refine lv_iload_n hx hb dX6_winch_46 rfl (lv_at hl 1 rfl) ?_
    refine lv_icmp_gt (tgt := 52) hx hb dX6_winch_47 (by decide) (fun c4 => ?_) (fun c4 => ?_)
    · replace h := h.1 c4
      refine lv_iinc (v := (x2 + (1 : Int32))) (lv' := [(2, .int (x2 + (1 : Int32))), (0, .ref (ga G 57)), (1, .int x1)]) hx hb dX6_winch_52 hl (k := 2) rfl rfl (by decide) rfl (fun ls hl => ?_)
      refine lv_goto (tgt := 34) hx hb dX6_winch_55 (by decide) ?_
      exact hk34 M3 x1 (x2 + (1 : Int32)) _ _ _  w (lv_sub hl [1, 2, 0] rfl) h
    replace h := h.2 c4
    refine lv_iload_n hx hb dX6_winch_50 rfl (lv_at hl 2 rfl) ?_
    exact ret_i C w h dX6_winch_51
set_option maxHeartbeats 4000000 in
set_option maxRecDepth 100000 in
theorem c_X6_winch (l : Launch) (G : GG) (hG : Ag G) (sz : Nat) (M : Mem) (x1 : Int32) (post : Int32 → Mem → Prop) (h : q_X6_winch M x1 post) : Met l yX6_winch (Cond.code yX6_winch cX6_winch 3 (some .int) :: wsL_law) (rmk 5) (va_Pc [.ref (ga G 57), .int x1] (Pw G sz M)) (va_Qi post (Qw G) (Af G sz)) 0 0 (Af G sz) := by
  refine Met.ofW (cc := cX6_winch) (maxL := 3) (ret := (some .int)) (by decide) rfl ?_
  intro p e s m args below meth c s₁ B hml hv
  obtain ⟨rfl, hsz, hE, hP⟩ := hv
  subst hsz
  have C := Cx.of (own := RX6) hG hE rfl hml B
  have w : Wd G s M s.heap [] := ⟨hP, va_S.rf⟩
  have hl := lv_entry [.ref (ga G 57), .int x1] (n := 3) (Nat.le_of_ble_eq_true rfl)
  rw [lg_entry_eq]
  generalize (lg_sl [.ref (ga G 57), .int x1] ++ List.replicate (3 - (lg_sl [.ref (ga G 57), .int x1]).length) Slot.unset).toArray = ls at hl ⊢
  have hl : lv_has ls 3 [(0, .ref (ga G 57)), (1, .int x1)] := hl
  have hx := C.1.1
  have hb := C.1.2.1
  show W p l e (rmk 5) s m _ below meth c s.heap [] 0 0 _ _
  unfold q_X6_winch at h
  refine lv_iload_n hx hb dX6_winch_0 rfl (lv_at hl 1 rfl) ?_
  refine lv_i2l hx hb dX6_winch_1 rfl ?_
  refine lv_lconst (v := 0) hx hb dX6_winch_2 (by decide) ?_
  refine lv_ldc2 hx hb C.1.2.2.2.1 (C.ws kw_13_15) dX6_winch_3 ?_
  refine end_i w (run_S (As := [.long x1.toInt64, .long (0 : Int64), .long (40 : Int64)]) C w hl.1 (c_X6_isIn l G C.2.2.1 _ _ x1.toInt64 (0 : Int64) (40 : Int64)  _ h) kw_12_5 kw_1_5 kw_12_3 kw_12_4 hd_X6_isIn ⟨by decide, by decide⟩ rfl (Nat.le_of_ble_eq_true rfl) dX6_winch_6) (fun r5 M6 H locs h w => ?_)
  refine lv_if_ne (tgt := 14) hx hb dX6_winch_9 (by decide) (fun c7 => ?_) (fun c7 => ?_)
  · replace h := h.2 c7
    refine lv_aload_n hx hb dX6_winch_14 rfl (lv_at hl 0 rfl) ?_
    refine end_i w (run_V (As := []) C w hl.1 (c_X6_isLine l G C.2.2.1 _ _   _ h) kw_17_11 kw_1_5 kw_17_8 kw_17_9 kw_17_10 hd_X6_isLine ⟨by decide, by decide⟩ (w.recv C (i := 57) (by decide) (pE_6) rfl) rfl (Nat.le_of_ble_eq_true rfl) dX6_winch_15) (fun r8 M9 H locs h w => ?_)
    refine lv_if_ne (tgt := 24) hx hb dX6_winch_18 (by decide) (fun c10 => ?_) (fun c10 => ?_)
    · replace h := h.2 c10
      refine lv_aload_n hx hb dX6_winch_24 rfl (lv_at hl 0 rfl) ?_
      refine lv_aload_n hx hb dX6_winch_25 rfl (lv_at hl 0 rfl) ?_
      refine end_i w (run_V (As := []) C w hl.1 (c_X6_allPieces l G C.2.2.1 _ _   _ h) kw_17_15 kw_1_5 kw_17_12 kw_17_13 kw_17_14 hd_X6_allPieces ⟨by decide, by decide⟩ (w.recv C (i := 57) (by decide) (pE_6) rfl) rfl (Nat.le_of_ble_eq_true rfl) dX6_winch_26) (fun r11 M12 H locs h w => ?_)
      refine end_v w (run_V (As := [.int r11]) C w hl.1 (c_X6_sumsUp l G C.2.2.1 _ _ r11  _ h) kw_17_19 kw_1_5 kw_17_16 kw_17_17 kw_17_18 hd_X6_sumsUp ⟨by decide, by decide⟩ (w.recv C (i := 57) (by decide) (pE_6) rfl) rfl (Nat.le_of_ble_eq_true rfl) dX6_winch_29) (fun M14 H locs h w => ?_)
      refine lv_iconst (v := 0) hx hb dX6_winch_32 (by decide) ?_
      refine lv_istore_n (lv' := [(2, .int (0 : Int32)), (0, .ref (ga G 57)), (1, .int x1)]) hx hb dX6_winch_33 rfl hl (by decide) rfl (fun ls hl => ?_)
      obtain ⟨n, h⟩ := h
      exact t_X6_winch_34 C n M14 x1 (0 : Int32)  w (lv_sub hl [1, 2, 0] rfl) h
    replace h := h.1 c10
    refine lv_bipush (v := -3) hx hb dX6_winch_21 (by decide) ?_
    exact ret_i C w h dX6_winch_23
  replace h := h.1 c7
  refine lv_iconst (v := -1) hx hb dX6_winch_12 (by decide) ?_
  exact ret_i C w h dX6_winch_13
def j_X3_holdsLegs_82 (post : Int32 → Mem → Prop) (M : Mem) : Prop := post (0 : Int32) M
def b_X3_holdsLegs_29 (k29 : Mem → Nat → Int32 → Prop) (post : Int32 → Mem → Prop) (M : Mem) (a0 : Nat) (x1 : Int32) : Prop := ((M a0 3) ≤ x1 → (post (1 : Int32) M)) ∧ (¬ ((M a0 3) ≤ x1) → (vp_in x1 100 ∧ (q_X5_isWithin M (M (8 + a0) x1.toNatClampNeg) (1 : Int32) (99 : Int32) (fun r3 M4 => (r3 = 0 → (j_X3_holdsLegs_82 post M4)) ∧ (¬ (r3 = 0) → (vp_in (x1 + (1 : Int32)) 100 ∧ (q_X4_maySet M4 (0 : Int32) (M4 (8 + a0) (x1 + (1 : Int32)).toNatClampNeg) (fun r7 M8 => (r7 = 0 → (j_X3_holdsLegs_82 post M8)) ∧ (¬ (r7 = 0) → (vp_in (x1 + (2 : Int32)) 100 ∧ (q_X4_maySet M8 (2 : Int32) (M8 (8 + a0) (x1 + (2 : Int32)).toNatClampNeg) (fun r11 M12 => (r11 = 0 → (j_X3_holdsLegs_82 post M12)) ∧ (¬ (r11 = 0) → (k29 M12 a0 (x1 + (3 : Int32))))))))))))))))
def lp_X3_holdsLegs_29 (post : Int32 → Mem → Prop) : Nat → Mem → Nat → Int32 → Prop
  | 0 => fun _ _ _ => False
  | n + 1 => fun M a0 x1 => b_X3_holdsLegs_29 (lp_X3_holdsLegs_29 post n) post M a0 x1
def j_X3_holdsLegs_25 (post : Int32 → Mem → Prop) (M : Mem) : Prop := post (0 : Int32) M
def q_X3_holdsLegs (M : Mem) (a0 : Nat) (post : Int32 → Mem → Prop) : Prop := ((M a0 3) = 0 → (j_X3_holdsLegs_25 post M)) ∧ (¬ ((M a0 3) = 0) → ((((M a0 3) - (M a0 3) / (3 : Int32) * (3 : Int32)) = 0 → (((M a0 3) ≤ (24 : Int32) → (∃ n, lp_X3_holdsLegs_29 post n M a0 (0 : Int32))) ∧ (¬ ((M a0 3) ≤ (24 : Int32)) → (j_X3_holdsLegs_25 post M)))) ∧ (¬ (((M a0 3) - (M a0 3) / (3 : Int32) * (3 : Int32)) = 0) → (j_X3_holdsLegs_25 post M))))
set_option maxHeartbeats 4000000 in
set_option maxRecDepth 100000 in
theorem t_X3_holdsLegs_82 (C : Cx G p s m args meth c RX3 cX3_holdsLegs 2 (some .boolean)) {post : Int32 → Mem → Prop} (M : Mem) {H : Heap} {locs : List Loc} {ls : Array Slot} (w : Wd G s M H locs) (hl : lv_has ls 2 []) (h : j_X3_holdsLegs_82 post M) : W p l e (rmk 3) s m args below meth c H locs 0 0 (MQ below (va_Qi post (Qw G) (Af G s.heap.size)) args s 0 0 (Af G s.heap.size)) (F0 m 82 ls []) := by
  have hx := C.1.1
  have hb := C.1.2.1
  unfold j_X3_holdsLegs_82 at h
  refine lv_iconst (v := 0) hx hb dX3_holdsLegs_82 (by decide) ?_
  exact ret_z C w ⟨Or.inl rfl, h⟩ dX3_holdsLegs_83
set_option maxHeartbeats 4000000 in
set_option maxRecDepth 100000 in
theorem t_X3_holdsLegs_29 (C : Cx G p s m args meth c RX3 cX3_holdsLegs 2 (some .boolean)) {post : Int32 → Mem → Prop} : ∀ (n : Nat) (M : Mem) (a0 : Nat) (x1 : Int32) {H : Heap} {locs : List Loc} {ls : Array Slot} (ha0 : 14 ≤ a0 ∧ a0 < 22) (w : Wd G s M H locs) (hl : lv_has ls 2 [(0, .ref (ga G a0)), (1, .int x1)]) (h : lp_X3_holdsLegs_29 post n M a0 x1), W p l e (rmk 3) s m args below meth c H locs 0 0 (MQ below (va_Qi post (Qw G) (Af G s.heap.size)) args s 0 0 (Af G s.heap.size)) (F0 m 29 ls []) := by
  have hx := C.1.1
  have hb := C.1.2.1
  intro n9
  induction n9 with
  | zero => intro M a0 x1 H locs ls ha0 w hl h; exact absurd h id
  | succ n9 ih9 =>
    intro M a0 x1 H locs ls ha0 w hl h
    have hk29 : ∀ (M : Mem) (a0 : Nat) (x1 : Int32) (H : Heap) (locs : List Loc) (ls : Array Slot), (14 ≤ a0 ∧ a0 < 22) → Wd G s M H locs → lv_has ls 2 [(0, .ref (ga G a0)), (1, .int x1)] → lp_X3_holdsLegs_29 post n9 M a0 x1 → W p l e (rmk 3) s m args below meth c H locs 0 0 (MQ below (va_Qi post (Qw G) (Af G s.heap.size)) args s 0 0 (Af G s.heap.size)) (F0 m 29 ls []) := fun M a0 x1 H locs ls ha0 w hl h => ih9 M a0 x1 ha0 w hl h
    replace h : b_X3_holdsLegs_29 (lp_X3_holdsLegs_29 post n9) post M a0 x1 := h
    unfold b_X3_holdsLegs_29 at h
    refine lv_iload_n hx hb dX3_holdsLegs_29 rfl (lv_at hl 1 rfl) ?_
    refine lv_aload_n hx hb dX3_holdsLegs_30 rfl (lv_at hl 0 rfl) ?_
    refine gt_3_3 C w ha0 kw_4_18 dX3_holdsLegs_31 ?_
    refine lv_icmp_ge (tgt := 90) hx hb dX3_holdsLegs_34 (by decide) (fun c1 => ?_) (fun c1 => ?_)
    · replace h := h.1 c1
      refine lv_iconst (v := 1) hx hb dX3_holdsLegs_90 (by decide) ?_
      exact ret_z C w ⟨Or.inr rfl, h⟩ dX3_holdsLegs_91
    replace h := h.2 c1
    refine lv_aload_n hx hb dX3_holdsLegs_37 rfl (lv_at hl 0 rfl) ?_
    refine gt_3_4 C w ha0 kw_4_19 dX3_holdsLegs_38 ?_
    refine lv_iload_n hx hb dX3_holdsLegs_41 rfl (lv_at hl 1 rfl) ?_
    have hin2 := h.1
    replace h := h.2
    have hz_hin2 := in_lt hin2
    refine pw_ld C w (i := (8 + a0)) (by omega) (pE_el (by omega)) hin2 rfl dX3_holdsLegs_42 ?_
    refine lv_iconst (v := 1) hx hb dX3_holdsLegs_43 (by decide) ?_
    refine lv_bipush (v := 99) hx hb dX3_holdsLegs_44 (by decide) ?_
    refine end_i w (run_SN (As := [.int (M (8 + a0) x1.toNatClampNeg), .int (1 : Int32), .int (99 : Int32)]) C w hl.1 (c_X5_isWithin l G C.2.2.1 _ _ (M (8 + a0) x1.toNatClampNeg) (1 : Int32) (99 : Int32)  _ h) kw_6_8 kw_1_2 kn_75 kw_6_7 hd_X5_isWithin ⟨by decide, by decide⟩ rfl (Nat.le_of_ble_eq_true rfl) dX3_holdsLegs_46) (fun r3 M4 H locs h w => ?_)
    refine lv_if_eq (tgt := 82) hx hb dX3_holdsLegs_49 (by decide) (fun c5 => ?_) (fun c5 => ?_)
    · replace h := h.1 c5
      exact t_X3_holdsLegs_82 C M4   w (lv_sub hl [] rfl) h
    replace h := h.2 c5
    refine lv_iconst (v := 0) hx hb dX3_holdsLegs_52 (by decide) ?_
    refine lv_aload_n hx hb dX3_holdsLegs_53 rfl (lv_at hl 0 rfl) ?_
    refine gt_3_4 C w ha0 kw_4_19 dX3_holdsLegs_54 ?_
    refine lv_iload_n hx hb dX3_holdsLegs_57 rfl (lv_at hl 1 rfl) ?_
    refine lv_iconst (v := 1) hx hb dX3_holdsLegs_58 (by decide) ?_
    refine lv_iadd hx hb dX3_holdsLegs_59 ?_
    have hin6 := h.1
    replace h := h.2
    have hz_hin6 := in_lt hin6
    refine pw_ld C w (i := (8 + a0)) (by omega) (pE_el (by omega)) hin6 rfl dX3_holdsLegs_60 ?_
    refine end_i w (run_SN (As := [.int (0 : Int32), .int (M4 (8 + a0) (x1 + (1 : Int32)).toNatClampNeg)]) C w hl.1 (c_X4_maySet l G C.2.2.1 _ _ (0 : Int32) (M4 (8 + a0) (x1 + (1 : Int32)).toNatClampNeg)  _ h) kw_11_11 kw_1_15 kn_76 kw_11_10 hd_X4_maySet ⟨by decide, by decide⟩ rfl (Nat.le_of_ble_eq_true rfl) dX3_holdsLegs_61) (fun r7 M8 H locs h w => ?_)
    refine lv_if_eq (tgt := 82) hx hb dX3_holdsLegs_64 (by decide) (fun c9 => ?_) (fun c9 => ?_)
    · replace h := h.1 c9
      exact t_X3_holdsLegs_82 C M8   w (lv_sub hl [] rfl) h
    replace h := h.2 c9
    refine lv_iconst (v := 2) hx hb dX3_holdsLegs_67 (by decide) ?_
    refine lv_aload_n hx hb dX3_holdsLegs_68 rfl (lv_at hl 0 rfl) ?_
    refine gt_3_4 C w ha0 kw_4_19 dX3_holdsLegs_69 ?_
    refine lv_iload_n hx hb dX3_holdsLegs_72 rfl (lv_at hl 1 rfl) ?_
    refine lv_iconst (v := 2) hx hb dX3_holdsLegs_73 (by decide) ?_
    refine lv_iadd hx hb dX3_holdsLegs_74 ?_
    have hin10 := h.1
    replace h := h.2
    have hz_hin10 := in_lt hin10
    refine pw_ld C w (i := (8 + a0)) (by omega) (pE_el (by omega)) hin10 rfl dX3_holdsLegs_75 ?_
    refine end_i w (run_SN (As := [.int (2 : Int32), .int (M8 (8 + a0) (x1 + (2 : Int32)).toNatClampNeg)]) C w hl.1 (c_X4_maySet l G C.2.2.1 _ _ (2 : Int32) (M8 (8 + a0) (x1 + (2 : Int32)).toNatClampNeg)  _ h) kw_11_11 kw_1_15 kn_76 kw_11_10 hd_X4_maySet ⟨by decide, by decide⟩ rfl (Nat.le_of_ble_eq_true rfl) dX3_holdsLegs_76) (fun r11 M12 H locs h w => ?_)
    refine lv_if_ne (tgt := 84) hx hb dX3_holdsLegs_79 (by decide) (fun c13 => ?_) (fun c13 => ?_)
    · replace h := h.2 c13
      refine lv_iinc (v := (x1 + (3 : Int32))) (lv' := [(1, .int (x1 + (3 : Int32))), (0, .ref (ga G a0))]) hx hb dX3_holdsLegs_84 hl (k := 1) rfl rfl (by decide) rfl (fun ls hl => ?_)
      refine lv_goto (tgt := 29) hx hb dX3_holdsLegs_87 (by decide) ?_
      exact hk29 M12 a0 (x1 + (3 : Int32)) _ _ _ ha0 w (lv_sub hl [1, 0] rfl) h
    replace h := h.1 c13
    exact t_X3_holdsLegs_82 C M12   w (lv_sub hl [] rfl) h
set_option maxHeartbeats 4000000 in
set_option maxRecDepth 100000 in
theorem t_X3_holdsLegs_25 (C : Cx G p s m args meth c RX3 cX3_holdsLegs 2 (some .boolean)) {post : Int32 → Mem → Prop} (M : Mem) {H : Heap} {locs : List Loc} {ls : Array Slot} (w : Wd G s M H locs) (hl : lv_has ls 2 []) (h : j_X3_holdsLegs_25 post M) : W p l e (rmk 3) s m args below meth c H locs 0 0 (MQ below (va_Qi post (Qw G) (Af G s.heap.size)) args s 0 0 (Af G s.heap.size)) (F0 m 25 ls []) := by
  have hx := C.1.1
  have hb := C.1.2.1
  unfold j_X3_holdsLegs_25 at h
  refine lv_iconst (v := 0) hx hb dX3_holdsLegs_25 (by decide) ?_
  exact ret_z C w ⟨Or.inl rfl, h⟩ dX3_holdsLegs_26
set_option maxHeartbeats 4000000 in
set_option maxRecDepth 100000 in
theorem c_X3_holdsLegs (l : Launch) (G : GG) (hG : Ag G) (sz : Nat) (M : Mem) (a0 : Nat) (ha0 : 14 ≤ a0 ∧ a0 < 22) (post : Int32 → Mem → Prop) (h : q_X3_holdsLegs M a0 post) : Met l yX3_holdsLegs (Cond.code yX3_holdsLegs cX3_holdsLegs 2 (some .boolean) :: wsL_law) (rmk 3) (va_Pc [.ref (ga G a0)] (Pw G sz M)) (va_Qi post (Qw G) (Af G sz)) 0 0 (Af G sz) := by
  refine Met.ofW (cc := cX3_holdsLegs) (maxL := 2) (ret := (some .boolean)) (by decide) rfl ?_
  intro p e s m args below meth c s₁ B hml hv
  obtain ⟨rfl, hsz, hE, hP⟩ := hv
  subst hsz
  have C := Cx.of (own := RX3) hG hE rfl hml B
  have w : Wd G s M s.heap [] := ⟨hP, va_S.rf⟩
  have hl := lv_entry [.ref (ga G a0)] (n := 2) (Nat.le_of_ble_eq_true rfl)
  rw [lg_entry_eq]
  generalize (lg_sl [.ref (ga G a0)] ++ List.replicate (2 - (lg_sl [.ref (ga G a0)]).length) Slot.unset).toArray = ls at hl ⊢
  have hl : lv_has ls 2 [(0, .ref (ga G a0))] := hl
  have hx := C.1.1
  have hb := C.1.2.1
  show W p l e (rmk 3) s m _ below meth c s.heap [] 0 0 _ _
  unfold q_X3_holdsLegs at h
  refine lv_aload_n hx hb dX3_holdsLegs_0 rfl (lv_at hl 0 rfl) ?_
  refine gt_3_3 C w ha0 kw_4_18 dX3_holdsLegs_1 ?_
  refine lv_if_eq (tgt := 25) hx hb dX3_holdsLegs_4 (by decide) (fun c14 => ?_) (fun c14 => ?_)
  · replace h := h.1 c14
    exact t_X3_holdsLegs_25 C M   w (lv_sub hl [] rfl) h
  replace h := h.2 c14
  refine lv_aload_n hx hb dX3_holdsLegs_7 rfl (lv_at hl 0 rfl) ?_
  refine gt_3_3 C w ha0 kw_4_18 dX3_holdsLegs_8 ?_
  refine lv_iconst (v := 3) hx hb dX3_holdsLegs_11 (by decide) ?_
  refine lv_irem hx hb dX3_holdsLegs_12 (by decide) ?_
  refine lv_if_ne (tgt := 25) hx hb dX3_holdsLegs_13 (by decide) (fun c15 => ?_) (fun c15 => ?_)
  · replace h := h.2 c15
    exact t_X3_holdsLegs_25 C M   w (lv_sub hl [] rfl) h
  replace h := h.1 c15
  refine lv_aload_n hx hb dX3_holdsLegs_16 rfl (lv_at hl 0 rfl) ?_
  refine gt_3_3 C w ha0 kw_4_18 dX3_holdsLegs_17 ?_
  refine lv_bipush (v := 24) hx hb dX3_holdsLegs_20 (by decide) ?_
  refine lv_icmp_le (tgt := 27) hx hb dX3_holdsLegs_22 (by decide) (fun c16 => ?_) (fun c16 => ?_)
  · replace h := h.1 c16
    refine lv_iconst (v := 0) hx hb dX3_holdsLegs_27 (by decide) ?_
    refine lv_istore_n (lv' := [(1, .int (0 : Int32)), (0, .ref (ga G a0))]) hx hb dX3_holdsLegs_28 rfl hl (by decide) rfl (fun ls hl => ?_)
    obtain ⟨n, h⟩ := h
    exact t_X3_holdsLegs_29 C n M a0 (0 : Int32) ha0 w (lv_sub hl [1, 0] rfl) h
  replace h := h.2 c16
  exact t_X3_holdsLegs_25 C M   w (lv_sub hl [] rfl) h
def q_X3_legsHeld (M : Mem) (a0 : Nat) (post : Int32 → Mem → Prop) : Prop := post ((M a0 3) / (3 : Int32)) M
set_option maxHeartbeats 4000000 in
set_option maxRecDepth 100000 in
theorem c_X3_legsHeld (l : Launch) (G : GG) (hG : Ag G) (sz : Nat) (M : Mem) (a0 : Nat) (ha0 : 14 ≤ a0 ∧ a0 < 22) (post : Int32 → Mem → Prop) (h : q_X3_legsHeld M a0 post) : Met l yX3_legsHeld (Cond.code yX3_legsHeld cX3_legsHeld 1 (some .int) :: wsL_law) (rmk 1) (va_Pc [.ref (ga G a0)] (Pw G sz M)) (va_Qi post (Qw G) (Af G sz)) 0 0 (Af G sz) := by
  refine Met.ofW (cc := cX3_legsHeld) (maxL := 1) (ret := (some .int)) (by decide) rfl ?_
  intro p e s m args below meth c s₁ B hml hv
  obtain ⟨rfl, hsz, hE, hP⟩ := hv
  subst hsz
  have C := Cx.of (own := RX3) hG hE rfl hml B
  have w : Wd G s M s.heap [] := ⟨hP, va_S.rf⟩
  have hl := lv_entry [.ref (ga G a0)] (n := 1) (Nat.le_of_ble_eq_true rfl)
  rw [lg_entry_eq]
  generalize (lg_sl [.ref (ga G a0)] ++ List.replicate (1 - (lg_sl [.ref (ga G a0)]).length) Slot.unset).toArray = ls at hl ⊢
  have hl : lv_has ls 1 [(0, .ref (ga G a0))] := hl
  have hx := C.1.1
  have hb := C.1.2.1
  show W p l e (rmk 1) s m _ below meth c s.heap [] 0 0 _ _
  unfold q_X3_legsHeld at h
  refine lv_aload_n hx hb dX3_legsHeld_0 rfl (lv_at hl 0 rfl) ?_
  refine gt_3_3 C w ha0 kw_4_18 dX3_legsHeld_1 ?_
  refine lv_iconst (v := 3) hx hb dX3_legsHeld_4 (by decide) ?_
  refine lv_idiv hx hb dX3_legsHeld_5 (by decide) ?_
  exact ret_i C w h dX3_legsHeld_6
def j_X5_greatestOfLegs_57 (k5 : Mem → Nat → Int32 → Int32 → Int32 → Prop) (post : Int32 → Mem → Prop) (M : Mem) (y0 : Int32) (a1 : Nat) (x2 : Int32) (x3 : Int32) (x4 : Int32) : Prop := ∀ M1 : Mem, M1 = (mup M 4 5 y0) → (q_X0_greatestPull M1  (fun r2 M3 => k5 M3 a1 x2 (if x3 < r2 then r2 else x3) (x4 + (1 : Int32))))
def b_X5_greatestOfLegs_5 (k5 : Mem → Nat → Int32 → Int32 → Int32 → Prop) (post : Int32 → Mem → Prop) (M : Mem) (a1 : Nat) (x2 : Int32) (x3 : Int32) (x4 : Int32) : Prop := q_X3_legsHeld M a1 (fun r4 M5 => (r4 ≤ x4 → (post x3 M5)) ∧ (¬ (r4 ≤ x4) → (vp_in (((3 : Int32) * x4) + (1 : Int32)) 100 ∧ (∀ M8 : Mem, M8 = (mup M5 4 3 (M5 (8 + a1) (((3 : Int32) * x4) + (1 : Int32)).toNatClampNeg)) → ((x4 = x2 → (j_X5_greatestOfLegs_57 k5 post M8 (0 : Int32) a1 x2 x3 x4)) ∧ (¬ (x4 = x2) → (vp_in (((3 : Int32) * x4) + (2 : Int32)) 100 ∧ (j_X5_greatestOfLegs_57 k5 post M8 (M8 (8 + a1) (((3 : Int32) * x4) + (2 : Int32)).toNatClampNeg) a1 x2 x3 x4))))))))
def lp_X5_greatestOfLegs_5 (post : Int32 → Mem → Prop) : Nat → Mem → Nat → Int32 → Int32 → Int32 → Prop
  | 0 => fun _ _ _ _ _ => False
  | n + 1 => fun M a1 x2 x3 x4 => b_X5_greatestOfLegs_5 (lp_X5_greatestOfLegs_5 post n) post M a1 x2 x3 x4
def q_X5_greatestOfLegs (M : Mem) (a1 : Nat) (x2 : Int32) (post : Int32 → Mem → Prop) : Prop := ∃ n, lp_X5_greatestOfLegs_5 post n M a1 x2 (0 : Int32) (0 : Int32)
set_option maxHeartbeats 4000000 in
set_option maxRecDepth 100000 in
theorem t_X5_greatestOfLegs_57 (C : Cx G p s m args meth c RX5 cX5_greatestOfLegs 5 (some .int)) {post : Int32 → Mem → Prop} {k5 : Mem → Nat → Int32 → Int32 → Int32 → Prop} (hk5 : ∀ (M : Mem) (a1 : Nat) (x2 : Int32) (x3 : Int32) (x4 : Int32) (H : Heap) (locs : List Loc) (ls : Array Slot), (14 ≤ a1 ∧ a1 < 22) → Wd G s M H locs → lv_has ls 5 [(0, .ref (ga G 0)), (1, .ref (ga G a1)), (2, .int x2), (3, .int x3), (4, .int x4)] → k5 M a1 x2 x3 x4 → W p l e (rmk 5) s m args below meth c H locs 0 0 (MQ below (va_Qi post (Qw G) (Af G s.heap.size)) args s 0 0 (Af G s.heap.size)) (F0 m 5 ls [])) (M : Mem) (y0 : Int32) (a1 : Nat) (x2 : Int32) (x3 : Int32) (x4 : Int32) {H : Heap} {locs : List Loc} {ls : Array Slot} (ha1 : 14 ≤ a1 ∧ a1 < 22) (w : Wd G s M H locs) (hl : lv_has ls 5 [(0, .ref (ga G 0)), (1, .ref (ga G a1)), (2, .int x2), (3, .int x3), (4, .int x4)]) (h : j_X5_greatestOfLegs_57 k5 post M y0 a1 x2 x3 x4) : W p l e (rmk 5) s m args below meth c H locs 0 0 (MQ below (va_Qi post (Qw G) (Af G s.heap.size)) args s 0 0 (Af G s.heap.size)) (F0 m 57 ls [.int y0, .ref (ga G 4)]) := by
  have hx := C.1.1
  have hb := C.1.2.1
  unfold j_X5_greatestOfLegs_57 at h
  refine pn_0_5 C w kn_28 dX5_greatestOfLegs_57 (fun H locs w => ?_)
  obtain ⟨M1, eM1⟩ : ∃ z : Mem, z = (mup M 4 5 y0) := ⟨_, rfl⟩
  replace w : Wd G s M1 H locs := by rw [eM1]; exact w
  replace h := h M1 eM1
  refine lv_iload_n hx hb dX5_greatestOfLegs_60 rfl (lv_at hl 3 rfl) ?_
  refine lv_aload_n hx hb dX5_greatestOfLegs_61 rfl (lv_at hl 0 rfl) ?_
  refine gt_5_3 C w kw_1_22 dX5_greatestOfLegs_62 ?_
  refine end_i w (run_VN (As := []) C w hl.1 (c_X0_greatestPull l G C.2.2.1 _ _   _ h) kw_22_14 kw_1_21 kn_68 kw_22_12 kw_22_13 hd_X0_greatestPull ⟨by decide, by decide⟩ (w.recv C (i := 4) (by decide) (pE_0) rfl) rfl (Nat.le_of_ble_eq_true rfl) dX5_greatestOfLegs_65) (fun r2 M3 H locs h w => ?_)
  refine va_mmax hx hb (C.ml hl) C.1.2.2.2.1 (C.ws kw_26_22) (C.ws kw_16_11) (C.ws kw_16_12) (C.ws kw_16_13) (Nat.le_of_ble_eq_true rfl) (Nat.le_of_ble_eq_true rfl) (Nat.le_refl 0) (Nat.le_refl 0) dX5_greatestOfLegs_68 ?_
  refine lv_istore_n (lv' := [(3, .int (if x3 < r2 then r2 else x3)), (0, .ref (ga G 0)), (1, .ref (ga G a1)), (2, .int x2), (4, .int x4)]) hx hb dX5_greatestOfLegs_71 rfl hl (by decide) rfl (fun ls hl => ?_)
  refine lv_iinc (v := (x4 + (1 : Int32))) (lv' := [(4, .int (x4 + (1 : Int32))), (3, .int (if x3 < r2 then r2 else x3)), (0, .ref (ga G 0)), (1, .ref (ga G a1)), (2, .int x2)]) hx hb dX5_greatestOfLegs_72 hl (k := 4) rfl rfl (by decide) rfl (fun ls hl => ?_)
  refine lv_goto (tgt := 5) hx hb dX5_greatestOfLegs_75 (by decide) ?_
  exact hk5 M3 a1 x2 (if x3 < r2 then r2 else x3) (x4 + (1 : Int32)) _ _ _ ha1 w (lv_sub hl [2, 3, 4, 1, 0] rfl) h
set_option maxHeartbeats 4000000 in
set_option maxRecDepth 100000 in
theorem t_X5_greatestOfLegs_5 (C : Cx G p s m args meth c RX5 cX5_greatestOfLegs 5 (some .int)) {post : Int32 → Mem → Prop} : ∀ (n : Nat) (M : Mem) (a1 : Nat) (x2 : Int32) (x3 : Int32) (x4 : Int32) {H : Heap} {locs : List Loc} {ls : Array Slot} (ha1 : 14 ≤ a1 ∧ a1 < 22) (w : Wd G s M H locs) (hl : lv_has ls 5 [(0, .ref (ga G 0)), (1, .ref (ga G a1)), (2, .int x2), (3, .int x3), (4, .int x4)]) (h : lp_X5_greatestOfLegs_5 post n M a1 x2 x3 x4), W p l e (rmk 5) s m args below meth c H locs 0 0 (MQ below (va_Qi post (Qw G) (Af G s.heap.size)) args s 0 0 (Af G s.heap.size)) (F0 m 5 ls []) := by
  have hx := C.1.1
  have hb := C.1.2.1
  intro n9
  induction n9 with
  | zero => intro M a1 x2 x3 x4 H locs ls ha1 w hl h; exact absurd h id
  | succ n9 ih9 =>
    intro M a1 x2 x3 x4 H locs ls ha1 w hl h
    have hk5 : ∀ (M : Mem) (a1 : Nat) (x2 : Int32) (x3 : Int32) (x4 : Int32) (H : Heap) (locs : List Loc) (ls : Array Slot), (14 ≤ a1 ∧ a1 < 22) → Wd G s M H locs → lv_has ls 5 [(0, .ref (ga G 0)), (1, .ref (ga G a1)), (2, .int x2), (3, .int x3), (4, .int x4)] → lp_X5_greatestOfLegs_5 post n9 M a1 x2 x3 x4 → W p l e (rmk 5) s m args below meth c H locs 0 0 (MQ below (va_Qi post (Qw G) (Af G s.heap.size)) args s 0 0 (Af G s.heap.size)) (F0 m 5 ls []) := fun M a1 x2 x3 x4 H locs ls ha1 w hl h => ih9 M a1 x2 x3 x4 ha1 w hl h
    replace h : b_X5_greatestOfLegs_5 (lp_X5_greatestOfLegs_5 post n9) post M a1 x2 x3 x4 := h
    unfold b_X5_greatestOfLegs_5 at h
    refine lv_iload hx hb dX5_greatestOfLegs_5 (lv_at hl 4 rfl) ?_
    refine lv_aload_n hx hb dX5_greatestOfLegs_7 rfl (lv_at hl 1 rfl) ?_
    refine end_i w (run_VN (As := []) C w hl.1 (c_X3_legsHeld l G C.2.2.1 _ _ a1 ha1 _ h) kw_32_14 kw_2_11 kn_77 kw_32_12 kw_32_13 hd_X3_legsHeld ⟨by decide, by decide⟩ (w.recv C (i := a1) (by omega) (pE_3 ha1) rfl) rfl (Nat.le_of_ble_eq_true rfl) dX5_greatestOfLegs_8) (fun r4 M5 H locs h w => ?_)
    refine lv_icmp_ge (tgt := 78) hx hb dX5_greatestOfLegs_11 (by decide) (fun c6 => ?_) (fun c6 => ?_)
    · replace h := h.1 c6
      refine lv_iload_n hx hb dX5_greatestOfLegs_78 rfl (lv_at hl 3 rfl) ?_
      exact ret_i C w h dX5_greatestOfLegs_79
    replace h := h.2 c6
    refine lv_aload_n hx hb dX5_greatestOfLegs_14 rfl (lv_at hl 0 rfl) ?_
    refine gt_5_3 C w kw_1_22 dX5_greatestOfLegs_15 ?_
    refine lv_aload_n hx hb dX5_greatestOfLegs_18 rfl (lv_at hl 1 rfl) ?_
    refine gn_3_4 C w ha1 kn_34 dX5_greatestOfLegs_19 ?_
    refine lv_iconst (v := 3) hx hb dX5_greatestOfLegs_22 (by decide) ?_
    refine lv_iload hx hb dX5_greatestOfLegs_23 (lv_at hl 4 rfl) ?_
    refine lv_imul hx hb dX5_greatestOfLegs_25 ?_
    refine lv_iconst (v := 1) hx hb dX5_greatestOfLegs_26 (by decide) ?_
    refine lv_iadd hx hb dX5_greatestOfLegs_27 ?_
    have hin7 := h.1
    replace h := h.2
    have hz_hin7 := in_lt hin7
    refine pw_ld C w (i := (8 + a1)) (by omega) (pE_el (by omega)) hin7 rfl dX5_greatestOfLegs_28 ?_
    refine pn_0_3 C w kn_26 dX5_greatestOfLegs_29 (fun H locs w => ?_)
    obtain ⟨M8, eM8⟩ : ∃ z : Mem, z = (mup M5 4 3 (M5 (8 + a1) (((3 : Int32) * x4) + (1 : Int32)).toNatClampNeg)) := ⟨_, rfl⟩
    replace w : Wd G s M8 H locs := by rw [eM8]; exact w
    replace h := h M8 eM8
    refine lv_aload_n hx hb dX5_greatestOfLegs_32 rfl (lv_at hl 0 rfl) ?_
    refine gt_5_3 C w kw_1_22 dX5_greatestOfLegs_33 ?_
    refine lv_iload hx hb dX5_greatestOfLegs_36 (lv_at hl 4 rfl) ?_
    refine lv_iload_n hx hb dX5_greatestOfLegs_38 rfl (lv_at hl 2 rfl) ?_
    refine lv_icmp_ne (tgt := 46) hx hb dX5_greatestOfLegs_39 (by decide) (fun c9 => ?_) (fun c9 => ?_)
    · replace h := h.2 c9
      refine lv_aload_n hx hb dX5_greatestOfLegs_46 rfl (lv_at hl 1 rfl) ?_
      refine gn_3_4 C w ha1 kn_34 dX5_greatestOfLegs_47 ?_
      refine lv_iconst (v := 3) hx hb dX5_greatestOfLegs_50 (by decide) ?_
      refine lv_iload hx hb dX5_greatestOfLegs_51 (lv_at hl 4 rfl) ?_
      refine lv_imul hx hb dX5_greatestOfLegs_53 ?_
      refine lv_iconst (v := 2) hx hb dX5_greatestOfLegs_54 (by decide) ?_
      refine lv_iadd hx hb dX5_greatestOfLegs_55 ?_
      have hin10 := h.1
      replace h := h.2
      have hz_hin10 := in_lt hin10
      refine pw_ld C w (i := (8 + a1)) (by omega) (pE_el (by omega)) hin10 rfl dX5_greatestOfLegs_56 ?_
      exact t_X5_greatestOfLegs_57 C hk5 M8 (M8 (8 + a1) (((3 : Int32) * x4) + (2 : Int32)).toNatClampNeg) a1 x2 x3 x4 ha1 w (lv_sub hl [0, 1, 2, 3, 4] rfl) h
    replace h := h.1 c9
    refine lv_iconst (v := 0) hx hb dX5_greatestOfLegs_42 (by decide) ?_
    refine lv_goto (tgt := 57) hx hb dX5_greatestOfLegs_43 (by decide) ?_
    exact t_X5_greatestOfLegs_57 C hk5 M8 (0 : Int32) a1 x2 x3 x4 ha1 w (lv_sub hl [0, 1, 2, 3, 4] rfl) h
set_option maxHeartbeats 4000000 in
set_option maxRecDepth 100000 in
theorem c_X5_greatestOfLegs (l : Launch) (G : GG) (hG : Ag G) (sz : Nat) (M : Mem) (a1 : Nat) (x2 : Int32) (ha1 : 14 ≤ a1 ∧ a1 < 22) (post : Int32 → Mem → Prop) (h : q_X5_greatestOfLegs M a1 x2 post) : Met l yX5_greatestOfLegs (Cond.code yX5_greatestOfLegs cX5_greatestOfLegs 5 (some .int) :: wsL_law) (rmk 5) (va_Pc [.ref (ga G 0), .ref (ga G a1), .int x2] (Pw G sz M)) (va_Qi post (Qw G) (Af G sz)) 0 0 (Af G sz) := by
  refine Met.ofW (cc := cX5_greatestOfLegs) (maxL := 5) (ret := (some .int)) (by decide) rfl ?_
  intro p e s m args below meth c s₁ B hml hv
  obtain ⟨rfl, hsz, hE, hP⟩ := hv
  subst hsz
  have C := Cx.of (own := RX5) hG hE rfl hml B
  have w : Wd G s M s.heap [] := ⟨hP, va_S.rf⟩
  have hl := lv_entry [.ref (ga G 0), .ref (ga G a1), .int x2] (n := 5) (Nat.le_of_ble_eq_true rfl)
  rw [lg_entry_eq]
  generalize (lg_sl [.ref (ga G 0), .ref (ga G a1), .int x2] ++ List.replicate (5 - (lg_sl [.ref (ga G 0), .ref (ga G a1), .int x2]).length) Slot.unset).toArray = ls at hl ⊢
  have hl : lv_has ls 5 [(0, .ref (ga G 0)), (1, .ref (ga G a1)), (2, .int x2)] := hl
  have hx := C.1.1
  have hb := C.1.2.1
  show W p l e (rmk 5) s m _ below meth c s.heap [] 0 0 _ _
  unfold q_X5_greatestOfLegs at h
  refine lv_iconst (v := 0) hx hb dX5_greatestOfLegs_0 (by decide) ?_
  refine lv_istore_n (lv' := [(3, .int (0 : Int32)), (0, .ref (ga G 0)), (1, .ref (ga G a1)), (2, .int x2)]) hx hb dX5_greatestOfLegs_1 rfl hl (by decide) rfl (fun ls hl => ?_)
  refine lv_iconst (v := 0) hx hb dX5_greatestOfLegs_2 (by decide) ?_
  refine lv_istore (lv' := [(4, .int (0 : Int32)), (3, .int (0 : Int32)), (0, .ref (ga G 0)), (1, .ref (ga G a1)), (2, .int x2)]) hx hb dX5_greatestOfLegs_3 hl (by decide) rfl (fun ls hl => ?_)
  obtain ⟨n, h⟩ := h
  exact t_X5_greatestOfLegs_5 C n M a1 x2 (0 : Int32) (0 : Int32) ha1 w (lv_sub hl [2, 3, 4, 1, 0] rfl) h
def b_X5_hoursOfLegs_4 (k4 : Mem → Nat → Int32 → Int32 → Prop) (post : Int32 → Mem → Prop) (M : Mem) (a0 : Nat) (x1 : Int32) (x2 : Int32) : Prop := q_X3_legsHeld M a0 (fun r1 M2 => (r1 ≤ x2 → (post x1 M2)) ∧ (¬ (r1 ≤ x2) → (vp_in ((3 : Int32) * x2) 100 ∧ (∀ v5 : Int32, v5 = (x1 + (M2 (8 + a0) ((3 : Int32) * x2).toNatClampNeg)) → (k4 M2 a0 v5 (x2 + (1 : Int32)))))))
def lp_X5_hoursOfLegs_4 (post : Int32 → Mem → Prop) : Nat → Mem → Nat → Int32 → Int32 → Prop
  | 0 => fun _ _ _ _ => False
  | n + 1 => fun M a0 x1 x2 => b_X5_hoursOfLegs_4 (lp_X5_hoursOfLegs_4 post n) post M a0 x1 x2
def q_X5_hoursOfLegs (M : Mem) (a0 : Nat) (post : Int32 → Mem → Prop) : Prop := ∃ n, lp_X5_hoursOfLegs_4 post n M a0 (0 : Int32) (0 : Int32)
set_option maxHeartbeats 4000000 in
set_option maxRecDepth 100000 in
theorem t_X5_hoursOfLegs_4 (C : Cx G p s m args meth c RX5 cX5_hoursOfLegs 3 (some .int)) {post : Int32 → Mem → Prop} : ∀ (n : Nat) (M : Mem) (a0 : Nat) (x1 : Int32) (x2 : Int32) {H : Heap} {locs : List Loc} {ls : Array Slot} (ha0 : 14 ≤ a0 ∧ a0 < 22) (w : Wd G s M H locs) (hl : lv_has ls 3 [(0, .ref (ga G a0)), (1, .int x1), (2, .int x2)]) (h : lp_X5_hoursOfLegs_4 post n M a0 x1 x2), W p l e (rmk 2) s m args below meth c H locs 0 0 (MQ below (va_Qi post (Qw G) (Af G s.heap.size)) args s 0 0 (Af G s.heap.size)) (F0 m 4 ls []) := by
  have hx := C.1.1
  have hb := C.1.2.1
  intro n9
  induction n9 with
  | zero => intro M a0 x1 x2 H locs ls ha0 w hl h; exact absurd h id
  | succ n9 ih9 =>
    intro M a0 x1 x2 H locs ls ha0 w hl h
    have hk4 : ∀ (M : Mem) (a0 : Nat) (x1 : Int32) (x2 : Int32) (H : Heap) (locs : List Loc) (ls : Array Slot), (14 ≤ a0 ∧ a0 < 22) → Wd G s M H locs → lv_has ls 3 [(0, .ref (ga G a0)), (1, .int x1), (2, .int x2)] → lp_X5_hoursOfLegs_4 post n9 M a0 x1 x2 → W p l e (rmk 2) s m args below meth c H locs 0 0 (MQ below (va_Qi post (Qw G) (Af G s.heap.size)) args s 0 0 (Af G s.heap.size)) (F0 m 4 ls []) := fun M a0 x1 x2 H locs ls ha0 w hl h => ih9 M a0 x1 x2 ha0 w hl h
    replace h : b_X5_hoursOfLegs_4 (lp_X5_hoursOfLegs_4 post n9) post M a0 x1 x2 := h
    unfold b_X5_hoursOfLegs_4 at h
    refine lv_iload_n hx hb dX5_hoursOfLegs_4 rfl (lv_at hl 2 rfl) ?_
    refine lv_aload_n hx hb dX5_hoursOfLegs_5 rfl (lv_at hl 0 rfl) ?_
    refine end_i w (run_VN (As := []) C w hl.1 (c_X3_legsHeld l G C.2.2.1 _ _ a0 ha0 _ h) kw_32_14 kw_2_11 kn_77 kw_32_12 kw_32_13 hd_X3_legsHeld ⟨by decide, by decide⟩ (w.recv C (i := a0) (by omega) (pE_3 ha0) rfl) rfl (Nat.le_of_ble_eq_true rfl) dX5_hoursOfLegs_6) (fun r1 M2 H locs h w => ?_)
    refine lv_icmp_ge (tgt := 29) hx hb dX5_hoursOfLegs_9 (by decide) (fun c3 => ?_) (fun c3 => ?_)
    · replace h := h.1 c3
      refine lv_iload_n hx hb dX5_hoursOfLegs_29 rfl (lv_at hl 1 rfl) ?_
      exact ret_i C w h dX5_hoursOfLegs_30
    replace h := h.2 c3
    refine lv_iload_n hx hb dX5_hoursOfLegs_12 rfl (lv_at hl 1 rfl) ?_
    refine lv_aload_n hx hb dX5_hoursOfLegs_13 rfl (lv_at hl 0 rfl) ?_
    refine gn_3_4 C w ha0 kn_34 dX5_hoursOfLegs_14 ?_
    refine lv_iconst (v := 3) hx hb dX5_hoursOfLegs_17 (by decide) ?_
    refine lv_iload_n hx hb dX5_hoursOfLegs_18 rfl (lv_at hl 2 rfl) ?_
    refine lv_imul hx hb dX5_hoursOfLegs_19 ?_
    have hin4 := h.1
    replace h := h.2
    have hz_hin4 := in_lt hin4
    refine pw_ld C w (i := (8 + a0)) (by omega) (pE_el (by omega)) hin4 rfl dX5_hoursOfLegs_20 ?_
    refine lv_iadd hx hb dX5_hoursOfLegs_21 ?_
    refine lv_topi (fun v5 ev5 => ?_)
    replace h := h v5 ev5
    refine lv_istore_n (lv' := [(1, .int v5), (0, .ref (ga G a0)), (2, .int x2)]) hx hb dX5_hoursOfLegs_22 rfl hl (by decide) rfl (fun ls hl => ?_)
    refine lv_iinc (v := (x2 + (1 : Int32))) (lv' := [(2, .int (x2 + (1 : Int32))), (1, .int v5), (0, .ref (ga G a0))]) hx hb dX5_hoursOfLegs_23 hl (k := 2) rfl rfl (by decide) rfl (fun ls hl => ?_)
    refine lv_goto (tgt := 4) hx hb dX5_hoursOfLegs_26 (by decide) ?_
    exact hk4 M2 a0 v5 (x2 + (1 : Int32)) _ _ _ ha0 w (lv_sub hl [2, 1, 0] rfl) h
set_option maxHeartbeats 4000000 in
set_option maxRecDepth 100000 in
theorem c_X5_hoursOfLegs (l : Launch) (G : GG) (hG : Ag G) (sz : Nat) (M : Mem) (a0 : Nat) (ha0 : 14 ≤ a0 ∧ a0 < 22) (post : Int32 → Mem → Prop) (h : q_X5_hoursOfLegs M a0 post) : Met l yX5_hoursOfLegs (Cond.code yX5_hoursOfLegs cX5_hoursOfLegs 3 (some .int) :: wsL_law) (rmk 2) (va_Pc [.ref (ga G a0)] (Pw G sz M)) (va_Qi post (Qw G) (Af G sz)) 0 0 (Af G sz) := by
  refine Met.ofW (cc := cX5_hoursOfLegs) (maxL := 3) (ret := (some .int)) (by decide) rfl ?_
  intro p e s m args below meth c s₁ B hml hv
  obtain ⟨rfl, hsz, hE, hP⟩ := hv
  subst hsz
  have C := Cx.of (own := RX5) hG hE rfl hml B
  have w : Wd G s M s.heap [] := ⟨hP, va_S.rf⟩
  have hl := lv_entry [.ref (ga G a0)] (n := 3) (Nat.le_of_ble_eq_true rfl)
  rw [lg_entry_eq]
  generalize (lg_sl [.ref (ga G a0)] ++ List.replicate (3 - (lg_sl [.ref (ga G a0)]).length) Slot.unset).toArray = ls at hl ⊢
  have hl : lv_has ls 3 [(0, .ref (ga G a0))] := hl
  have hx := C.1.1
  have hb := C.1.2.1
  show W p l e (rmk 2) s m _ below meth c s.heap [] 0 0 _ _
  unfold q_X5_hoursOfLegs at h
  refine lv_iconst (v := 0) hx hb dX5_hoursOfLegs_0 (by decide) ?_
  refine lv_istore_n (lv' := [(1, .int (0 : Int32)), (0, .ref (ga G a0))]) hx hb dX5_hoursOfLegs_1 rfl hl (by decide) rfl (fun ls hl => ?_)
  refine lv_iconst (v := 0) hx hb dX5_hoursOfLegs_2 (by decide) ?_
  refine lv_istore_n (lv' := [(2, .int (0 : Int32)), (1, .int (0 : Int32)), (0, .ref (ga G a0))]) hx hb dX5_hoursOfLegs_3 rfl hl (by decide) rfl (fun ls hl => ?_)
  obtain ⟨n, h⟩ := h
  exact t_X5_hoursOfLegs_4 C n M a0 (0 : Int32) (0 : Int32) ha0 w (lv_sub hl [2, 1, 0] rfl) h
end WALK
