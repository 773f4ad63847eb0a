theorem dX5_yaws_0 : decode cX5_yaws 0 = .ok (.iload_n 1, 1) := by decide +kernel
theorem dX5_yaws_1 : decode cX5_yaws 1 = .ok (.iconst 1, 1) := by decide +kernel
theorem dX5_yaws_2 : decode cX5_yaws 2 = .ok (.sipush 400, 3) := by decide +kernel
theorem dX5_yaws_5 : decode cX5_yaws 5 = .ok (.invokestatic 129, 3) := by decide +kernel
theorem dX5_yaws_8 : decode cX5_yaws 8 = .ok (.ifCond .ne 6, 3) := by decide +kernel
theorem dX5_yaws_11 : decode cX5_yaws 11 = .ok (.ldc 168, 2) := by decide +kernel
theorem dX5_yaws_13 : decode cX5_yaws 13 = .ok (.ireturn, 1) := by decide +kernel
theorem dX5_yaws_14 : decode cX5_yaws 14 = .ok (.aload_n 0, 1) := by decide +kernel
theorem dX5_yaws_15 : decode cX5_yaws 15 = .ok (.getfield 10, 3) := by decide +kernel
theorem dX5_yaws_18 : decode cX5_yaws 18 = .ok (.iload_n 1, 1) := by decide +kernel
theorem dX5_yaws_19 : decode cX5_yaws 19 = .ok (.invokevirtual 196, 3) := by decide +kernel
theorem dX5_yaws_22 : decode cX5_yaws 22 = .ok (.pop, 1) := by decide +kernel
theorem dX5_yaws_23 : decode cX5_yaws 23 = .ok (.aload_n 0, 1) := by decide +kernel
theorem dX5_yaws_24 : decode cX5_yaws 24 = .ok (.getfield 10, 3) := by decide +kernel
theorem dX5_yaws_27 : decode cX5_yaws 27 = .ok (.getfield 190, 3) := by decide +kernel
theorem dX5_yaws_30 : decode cX5_yaws 30 = .ok (.ireturn, 1) := by decide +kernel
theorem dX6_within_0 : decode cX6_within 0 = .ok (.iload_n 0, 1) := by decide +kernel
theorem dX6_within_1 : decode cX6_within 1 = .ok (.iload_n 1, 1) := by decide +kernel
theorem dX6_within_2 : decode cX6_within 2 = .ok (.if_icmp .le 7, 3) := by decide +kernel
theorem dX6_within_5 : decode cX6_within 5 = .ok (.iload_n 1, 1) := by decide +kernel
theorem dX6_within_6 : decode cX6_within 6 = .ok (.goto 15, 3) := by decide +kernel
theorem dX6_within_9 : decode cX6_within 9 = .ok (.iload_n 0, 1) := by decide +kernel
theorem dX6_within_10 : decode cX6_within 10 = .ok (.iload_n 1, 1) := by decide +kernel
theorem dX6_within_11 : decode cX6_within 11 = .ok (.ineg, 1) := by decide +kernel
theorem dX6_within_12 : decode cX6_within 12 = .ok (.if_icmp .ge 8, 3) := by decide +kernel
theorem dX6_within_15 : decode cX6_within 15 = .ok (.iload_n 1, 1) := by decide +kernel
theorem dX6_within_16 : decode cX6_within 16 = .ok (.ineg, 1) := by decide +kernel
theorem dX6_within_17 : decode cX6_within 17 = .ok (.goto 4, 3) := by decide +kernel
theorem dX6_within_20 : decode cX6_within 20 = .ok (.iload_n 0, 1) := by decide +kernel
theorem dX6_within_21 : decode cX6_within 21 = .ok (.ireturn, 1) := by decide +kernel
theorem dX6_goesYaw_0 : decode cX6_goesYaw 0 = .ok (.aload_n 0, 1) := by decide +kernel
theorem dX6_goesYaw_1 : decode cX6_goesYaw 1 = .ok (.getfield 9, 3) := by decide +kernel
theorem dX6_goesYaw_4 : decode cX6_goesYaw 4 = .ok (.iconst 3, 1) := by decide +kernel
theorem dX6_goesYaw_5 : decode cX6_goesYaw 5 = .ok (.iaload, 1) := by decide +kernel
theorem dX6_goesYaw_6 : decode cX6_goesYaw 6 = .ok (.istore_n 1, 1) := by decide +kernel
theorem dX6_goesYaw_7 : decode cX6_goesYaw 7 = .ok (.aload_n 0, 1) := by decide +kernel
theorem dX6_goesYaw_8 : decode cX6_goesYaw 8 = .ok (.getfield 9, 3) := by decide +kernel
theorem dX6_goesYaw_11 : decode cX6_goesYaw 11 = .ok (.iconst 4, 1) := by decide +kernel
theorem dX6_goesYaw_12 : decode cX6_goesYaw 12 = .ok (.iaload, 1) := by decide +kernel
theorem dX6_goesYaw_13 : decode cX6_goesYaw 13 = .ok (.istore_n 2, 1) := by decide +kernel
theorem dX6_goesYaw_14 : decode cX6_goesYaw 14 = .ok (.aload_n 0, 1) := by decide +kernel
theorem dX6_goesYaw_15 : decode cX6_goesYaw 15 = .ok (.getfield 9, 3) := by decide +kernel
theorem dX6_goesYaw_18 : decode cX6_goesYaw 18 = .ok (.iconst 4, 1) := by decide +kernel
theorem dX6_goesYaw_19 : decode cX6_goesYaw 19 = .ok (.iload_n 2, 1) := by decide +kernel
theorem dX6_goesYaw_20 : decode cX6_goesYaw 20 = .ok (.iload_n 1, 1) := by decide +kernel
theorem dX6_goesYaw_21 : decode cX6_goesYaw 21 = .ok (.aload_n 0, 1) := by decide +kernel
theorem dX6_goesYaw_22 : decode cX6_goesYaw 22 = .ok (.getfield 9, 3) := by decide +kernel
theorem dX6_goesYaw_25 : decode cX6_goesYaw 25 = .ok (.bipush 7, 2) := by decide +kernel
theorem dX6_goesYaw_27 : decode cX6_goesYaw 27 = .ok (.iaload, 1) := by decide +kernel
theorem dX6_goesYaw_28 : decode cX6_goesYaw 28 = .ok (.aload_n 0, 1) := by decide +kernel
theorem dX6_goesYaw_29 : decode cX6_goesYaw 29 = .ok (.getfield 9, 3) := by decide +kernel
theorem dX6_goesYaw_32 : decode cX6_goesYaw 32 = .ok (.bipush 10, 2) := by decide +kernel
theorem dX6_goesYaw_34 : decode cX6_goesYaw 34 = .ok (.iaload, 1) := by decide +kernel
theorem dX6_goesYaw_35 : decode cX6_goesYaw 35 = .ok (.isub, 1) := by decide +kernel
theorem dX6_goesYaw_36 : decode cX6_goesYaw 36 = .ok (.aload_n 0, 1) := by decide +kernel
theorem dX6_goesYaw_37 : decode cX6_goesYaw 37 = .ok (.getfield 9, 3) := by decide +kernel
theorem dX6_goesYaw_40 : decode cX6_goesYaw 40 = .ok (.bipush 11, 2) := by decide +kernel
theorem dX6_goesYaw_42 : decode cX6_goesYaw 42 = .ok (.iaload, 1) := by decide +kernel
theorem dX6_goesYaw_43 : decode cX6_goesYaw 43 = .ok (.isub, 1) := by decide +kernel
theorem dX6_goesYaw_44 : decode cX6_goesYaw 44 = .ok (.imul, 1) := by decide +kernel
theorem dX6_goesYaw_45 : decode cX6_goesYaw 45 = .ok (.bipush 10, 2) := by decide +kernel
theorem dX6_goesYaw_47 : decode cX6_goesYaw 47 = .ok (.idiv, 1) := by decide +kernel
theorem dX6_goesYaw_48 : decode cX6_goesYaw 48 = .ok (.iadd, 1) := by decide +kernel
theorem dX6_goesYaw_49 : decode cX6_goesYaw 49 = .ok (.iload_n 2, 1) := by decide +kernel
theorem dX6_goesYaw_50 : decode cX6_goesYaw 50 = .ok (.iconst 4, 1) := by decide +kernel
theorem dX6_goesYaw_51 : decode cX6_goesYaw 51 = .ok (.aload_n 0, 1) := by decide +kernel
theorem dX6_goesYaw_52 : decode cX6_goesYaw 52 = .ok (.getfield 9, 3) := by decide +kernel
theorem dX6_goesYaw_55 : decode cX6_goesYaw 55 = .ok (.bipush 11, 2) := by decide +kernel
theorem dX6_goesYaw_57 : decode cX6_goesYaw 57 = .ok (.iaload, 1) := by decide +kernel
theorem dX6_goesYaw_58 : decode cX6_goesYaw 58 = .ok (.iadd, 1) := by decide +kernel
theorem dX6_goesYaw_59 : decode cX6_goesYaw 59 = .ok (.idiv, 1) := by decide +kernel
theorem dX6_goesYaw_60 : decode cX6_goesYaw 60 = .ok (.isub, 1) := by decide +kernel
theorem dX6_goesYaw_61 : decode cX6_goesYaw 61 = .ok (.iload_n 1, 1) := by decide +kernel
theorem dX6_goesYaw_62 : decode cX6_goesYaw 62 = .ok (.aload_n 0, 1) := by decide +kernel
theorem dX6_goesYaw_63 : decode cX6_goesYaw 63 = .ok (.getfield 9, 3) := by decide +kernel
theorem dX6_goesYaw_66 : decode cX6_goesYaw 66 = .ok (.bipush 9, 2) := by decide +kernel
theorem dX6_goesYaw_68 : decode cX6_goesYaw 68 = .ok (.iaload, 1) := by decide +kernel
theorem dX6_goesYaw_69 : decode cX6_goesYaw 69 = .ok (.imul, 1) := by decide +kernel
theorem dX6_goesYaw_70 : decode cX6_goesYaw 70 = .ok (.bipush 20, 2) := by decide +kernel
theorem dX6_goesYaw_72 : decode cX6_goesYaw 72 = .ok (.idiv, 1) := by decide +kernel
theorem dX6_goesYaw_73 : decode cX6_goesYaw 73 = .ok (.isub, 1) := by decide +kernel
theorem dX6_goesYaw_74 : decode cX6_goesYaw 74 = .ok (.sipush 999, 3) := by decide +kernel
theorem dX6_goesYaw_77 : decode cX6_goesYaw 77 = .ok (.invokestatic 223, 3) := by decide +kernel
theorem dX6_goesYaw_80 : decode cX6_goesYaw 80 = .ok (.iastore, 1) := by decide +kernel
theorem dX6_goesYaw_81 : decode cX6_goesYaw 81 = .ok (.aload_n 0, 1) := by decide +kernel
theorem dX6_goesYaw_82 : decode cX6_goesYaw 82 = .ok (.getfield 9, 3) := by decide +kernel
theorem dX6_goesYaw_85 : decode cX6_goesYaw 85 = .ok (.iconst 3, 1) := by decide +kernel
theorem dX6_goesYaw_86 : decode cX6_goesYaw 86 = .ok (.iload_n 1, 1) := by decide +kernel
theorem dX6_goesYaw_87 : decode cX6_goesYaw 87 = .ok (.aload_n 0, 1) := by decide +kernel
theorem dX6_goesYaw_88 : decode cX6_goesYaw 88 = .ok (.getfield 9, 3) := by decide +kernel
theorem dX6_goesYaw_91 : decode cX6_goesYaw 91 = .ok (.iconst 4, 1) := by decide +kernel
theorem dX6_goesYaw_92 : decode cX6_goesYaw 92 = .ok (.iaload, 1) := by decide +kernel
theorem dX6_goesYaw_93 : decode cX6_goesYaw 93 = .ok (.bipush 10, 2) := by decide +kernel
theorem dX6_goesYaw_95 : decode cX6_goesYaw 95 = .ok (.idiv, 1) := by decide +kernel
theorem dX6_goesYaw_96 : decode cX6_goesYaw 96 = .ok (.iadd, 1) := by decide +kernel
theorem dX6_goesYaw_97 : decode cX6_goesYaw 97 = .ok (.sipush 999, 3) := by decide +kernel
theorem dX6_goesYaw_100 : decode cX6_goesYaw 100 = .ok (.invokestatic 223, 3) := by decide +kernel
theorem dX6_goesYaw_103 : decode cX6_goesYaw 103 = .ok (.iastore, 1) := by decide +kernel
theorem dX6_goesYaw_104 : decode cX6_goesYaw 104 = .ok (.return_, 1) := by decide +kernel
theorem dX6_yaws_0 : decode cX6_yaws 0 = .ok (.iload_n 1, 1) := by decide +kernel
theorem dX6_yaws_1 : decode cX6_yaws 1 = .ok (.i2l, 1) := by decide +kernel
theorem dX6_yaws_2 : decode cX6_yaws 2 = .ok (.lconst 1, 1) := by decide +kernel
theorem dX6_yaws_3 : decode cX6_yaws 3 = .ok (.ldc2_w 204, 3) := by decide +kernel
theorem dX6_yaws_6 : decode cX6_yaws 6 = .ok (.invokestatic 47, 3) := by decide +kernel
theorem dX6_yaws_9 : decode cX6_yaws 9 = .ok (.ifCond .ne 6, 3) := by decide +kernel
theorem dX6_yaws_12 : decode cX6_yaws 12 = .ok (.ldc 213, 2) := by decide +kernel
theorem dX6_yaws_14 : decode cX6_yaws 14 = .ok (.ireturn, 1) := by decide +kernel
theorem dX6_yaws_15 : decode cX6_yaws 15 = .ok (.iconst 0, 1) := by decide +kernel
theorem dX6_yaws_16 : decode cX6_yaws 16 = .ok (.istore_n 2, 1) := by decide +kernel
theorem dX6_yaws_17 : decode cX6_yaws 17 = .ok (.iload_n 2, 1) := by decide +kernel
theorem dX6_yaws_18 : decode cX6_yaws 18 = .ok (.iload_n 1, 1) := by decide +kernel
theorem dX6_yaws_19 : decode cX6_yaws 19 = .ok (.if_icmp .ge 13, 3) := by decide +kernel
theorem dX6_yaws_22 : decode cX6_yaws 22 = .ok (.aload_n 0, 1) := by decide +kernel
theorem dX6_yaws_23 : decode cX6_yaws 23 = .ok (.invokevirtual 226, 3) := by decide +kernel
theorem dX6_yaws_26 : decode cX6_yaws 26 = .ok (.iinc 2 1, 3) := by decide +kernel
theorem dX6_yaws_29 : decode cX6_yaws 29 = .ok (.goto (-12), 3) := by decide +kernel
theorem dX6_yaws_32 : decode cX6_yaws 32 = .ok (.aload_n 0, 1) := by decide +kernel
theorem dX6_yaws_33 : decode cX6_yaws 33 = .ok (.getfield 9, 3) := by decide +kernel
theorem dX6_yaws_36 : decode cX6_yaws 36 = .ok (.iconst 3, 1) := by decide +kernel
theorem dX6_yaws_37 : decode cX6_yaws 37 = .ok (.iaload, 1) := by decide +kernel
theorem dX6_yaws_38 : decode cX6_yaws 38 = .ok (.ireturn, 1) := by decide +kernel
theorem dX5_swings_0 : decode cX5_swings 0 = .ok (.iload_n 1, 1) := by decide +kernel
theorem dX5_swings_1 : decode cX5_swings 1 = .ok (.iconst 0, 1) := by decide +kernel
theorem dX5_swings_2 : decode cX5_swings 2 = .ok (.sipush 400, 3) := by decide +kernel
theorem dX5_swings_5 : decode cX5_swings 5 = .ok (.invokestatic 129, 3) := by decide +kernel
theorem dX5_swings_8 : decode cX5_swings 8 = .ok (.ifCond .eq 12, 3) := by decide +kernel
theorem dX5_swings_11 : decode cX5_swings 11 = .ok (.iload_n 2, 1) := by decide +kernel
theorem dX5_swings_12 : decode cX5_swings 12 = .ok (.iconst 0, 1) := by decide +kernel
theorem dX5_swings_13 : decode cX5_swings 13 = .ok (.iconst 1, 1) := by decide +kernel
theorem dX5_swings_14 : decode cX5_swings 14 = .ok (.invokestatic 129, 3) := by decide +kernel
theorem dX5_swings_17 : decode cX5_swings 17 = .ok (.ifCond .ne 6, 3) := by decide +kernel
theorem dX5_swings_20 : decode cX5_swings 20 = .ok (.ldc 168, 2) := by decide +kernel
theorem dX5_swings_22 : decode cX5_swings 22 = .ok (.ireturn, 1) := by decide +kernel
theorem dX5_swings_23 : decode cX5_swings 23 = .ok (.aload_n 0, 1) := by decide +kernel
theorem dX5_swings_24 : decode cX5_swings 24 = .ok (.getfield 19, 3) := by decide +kernel
theorem dX5_swings_27 : decode cX5_swings 27 = .ok (.aload_n 0, 1) := by decide +kernel
theorem dX5_swings_28 : decode cX5_swings 28 = .ok (.getfield 10, 3) := by decide +kernel
theorem dX5_swings_31 : decode cX5_swings 31 = .ok (.invokevirtual 58, 3) := by decide +kernel
theorem dX5_swings_34 : decode cX5_swings 34 = .ok (.aload_n 0, 1) := by decide +kernel
theorem dX5_swings_35 : decode cX5_swings 35 = .ok (.getfield 19, 3) := by decide +kernel
theorem dX5_swings_38 : decode cX5_swings 38 = .ok (.iload_n 1, 1) := by decide +kernel
theorem dX5_swings_39 : decode cX5_swings 39 = .ok (.invokevirtual 196, 3) := by decide +kernel
theorem dX5_swings_42 : decode cX5_swings 42 = .ok (.istore_n 3, 1) := by decide +kernel
theorem dX5_swings_43 : decode cX5_swings 43 = .ok (.iload_n 2, 1) := by decide +kernel
theorem dX5_swings_44 : decode cX5_swings 44 = .ok (.ifCond .ne 13, 3) := by decide +kernel
theorem dX5_swings_47 : decode cX5_swings 47 = .ok (.aload_n 0, 1) := by decide +kernel
theorem dX5_swings_48 : decode cX5_swings 48 = .ok (.getfield 19, 3) := by decide +kernel
theorem dX5_swings_51 : decode cX5_swings 51 = .ok (.getfield 190, 3) := by decide +kernel
theorem dX5_swings_54 : decode cX5_swings 54 = .ok (.goto 4, 3) := by decide +kernel
theorem dX5_swings_57 : decode cX5_swings 57 = .ok (.iload_n 3, 1) := by decide +kernel
theorem dX5_swings_58 : decode cX5_swings 58 = .ok (.ireturn, 1) := by decide +kernel
theorem dX6_swings_0 : decode cX6_swings 0 = .ok (.iload_n 1, 1) := by decide +kernel
theorem dX6_swings_1 : decode cX6_swings 1 = .ok (.i2l, 1) := by decide +kernel
theorem dX6_swings_2 : decode cX6_swings 2 = .ok (.lconst 0, 1) := by decide +kernel
theorem dX6_swings_3 : decode cX6_swings 3 = .ok (.ldc2_w 204, 3) := by decide +kernel
theorem dX6_swings_6 : decode cX6_swings 6 = .ok (.invokestatic 47, 3) := by decide +kernel
theorem dX6_swings_9 : decode cX6_swings 9 = .ok (.ifCond .eq 13, 3) := by decide +kernel
theorem dX6_swings_12 : decode cX6_swings 12 = .ok (.iload_n 2, 1) := by decide +kernel
theorem dX6_swings_13 : decode cX6_swings 13 = .ok (.i2l, 1) := by decide +kernel
theorem dX6_swings_14 : decode cX6_swings 14 = .ok (.lconst 0, 1) := by decide +kernel
theorem dX6_swings_15 : decode cX6_swings 15 = .ok (.lconst 1, 1) := by decide +kernel
theorem dX6_swings_16 : decode cX6_swings 16 = .ok (.invokestatic 47, 3) := by decide +kernel
theorem dX6_swings_19 : decode cX6_swings 19 = .ok (.ifCond .ne 6, 3) := by decide +kernel
theorem dX6_swings_22 : decode cX6_swings 22 = .ok (.ldc 213, 2) := by decide +kernel
theorem dX6_swings_24 : decode cX6_swings 24 = .ok (.ireturn, 1) := by decide +kernel
theorem dX6_swings_25 : decode cX6_swings 25 = .ok (.aload_n 0, 1) := by decide +kernel
theorem dX6_swings_26 : decode cX6_swings 26 = .ok (.getfield 9, 3) := by decide +kernel
theorem dX6_swings_29 : decode cX6_swings 29 = .ok (.aload_n 0, 1) := by decide +kernel
theorem dX6_swings_30 : decode cX6_swings 30 = .ok (.getfield 19, 3) := by decide +kernel
theorem dX6_swings_33 : decode cX6_swings 33 = .ok (.invokestatic 104, 3) := by decide +kernel
theorem dX6_swings_36 : decode cX6_swings 36 = .ok (.iconst 0, 1) := by decide +kernel
theorem dX6_swings_37 : decode cX6_swings 37 = .ok (.istore_n 3, 1) := by decide +kernel
theorem dX6_swings_38 : decode cX6_swings 38 = .ok (.iconst 0, 1) := by decide +kernel
theorem dX6_swings_39 : decode cX6_swings 39 = .ok (.istore 4, 2) := by decide +kernel
theorem dX6_swings_41 : decode cX6_swings 41 = .ok (.iload 4, 2) := by decide +kernel
theorem dX6_swings_43 : decode cX6_swings 43 = .ok (.iload_n 1, 1) := by decide +kernel
theorem dX6_swings_44 : decode cX6_swings 44 = .ok (.if_icmp .ge 40, 3) := by decide +kernel
theorem dX6_swings_47 : decode cX6_swings 47 = .ok (.aload_n 0, 1) := by decide +kernel
theorem dX6_swings_48 : decode cX6_swings 48 = .ok (.invokevirtual 226, 3) := by decide +kernel
theorem dX6_swings_51 : decode cX6_swings 51 = .ok (.aload_n 0, 1) := by decide +kernel
theorem dX6_swings_52 : decode cX6_swings 52 = .ok (.getfield 9, 3) := by decide +kernel
theorem dX6_swings_55 : decode cX6_swings 55 = .ok (.iconst 3, 1) := by decide +kernel
theorem dX6_swings_56 : decode cX6_swings 56 = .ok (.iaload, 1) := by decide +kernel
theorem dX6_swings_57 : decode cX6_swings 57 = .ok (.invokestatic 153, 3) := by decide +kernel
theorem dX6_swings_60 : decode cX6_swings 60 = .ok (.iload_n 3, 1) := by decide +kernel
theorem dX6_swings_61 : decode cX6_swings 61 = .ok (.if_icmp .le 15, 3) := by decide +kernel
theorem dX6_swings_64 : decode cX6_swings 64 = .ok (.aload_n 0, 1) := by decide +kernel
theorem dX6_swings_65 : decode cX6_swings 65 = .ok (.getfield 9, 3) := by decide +kernel
theorem dX6_swings_68 : decode cX6_swings 68 = .ok (.iconst 3, 1) := by decide +kernel
theorem dX6_swings_69 : decode cX6_swings 69 = .ok (.iaload, 1) := by decide +kernel
theorem dX6_swings_70 : decode cX6_swings 70 = .ok (.invokestatic 153, 3) := by decide +kernel
theorem dX6_swings_73 : decode cX6_swings 73 = .ok (.goto 4, 3) := by decide +kernel
theorem dX6_swings_76 : decode cX6_swings 76 = .ok (.iload_n 3, 1) := by decide +kernel
theorem dX6_swings_77 : decode cX6_swings 77 = .ok (.istore_n 3, 1) := by decide +kernel
theorem dX6_swings_78 : decode cX6_swings 78 = .ok (.iinc 4 1, 3) := by decide +kernel
theorem dX6_swings_81 : decode cX6_swings 81 = .ok (.goto (-40), 3) := by decide +kernel
theorem dX6_swings_84 : decode cX6_swings 84 = .ok (.iload_n 2, 1) := by decide +kernel
theorem dX6_swings_85 : decode cX6_swings 85 = .ok (.ifCond .ne 12, 3) := by decide +kernel
theorem dX6_swings_88 : decode cX6_swings 88 = .ok (.aload_n 0, 1) := by decide +kernel
theorem dX6_swings_89 : decode cX6_swings 89 = .ok (.getfield 9, 3) := by decide +kernel
theorem dX6_swings_92 : decode cX6_swings 92 = .ok (.iconst 3, 1) := by decide +kernel
theorem dX6_swings_93 : decode cX6_swings 93 = .ok (.iaload, 1) := by decide +kernel
theorem dX6_swings_94 : decode cX6_swings 94 = .ok (.goto 4, 3) := by decide +kernel
theorem dX6_swings_97 : decode cX6_swings 97 = .ok (.iload_n 3, 1) := by decide +kernel
theorem dX6_swings_98 : decode cX6_swings 98 = .ok (.istore 4, 2) := by decide +kernel
theorem dX6_swings_100 : decode cX6_swings 100 = .ok (.aload_n 0, 1) := by decide +kernel
theorem dX6_swings_101 : decode cX6_swings 101 = .ok (.getfield 19, 3) := by decide +kernel
theorem dX6_swings_104 : decode cX6_swings 104 = .ok (.aload_n 0, 1) := by decide +kernel
theorem dX6_swings_105 : decode cX6_swings 105 = .ok (.getfield 9, 3) := by decide +kernel
theorem dX6_swings_108 : decode cX6_swings 108 = .ok (.invokestatic 104, 3) := by decide +kernel
theorem dX6_swings_111 : decode cX6_swings 111 = .ok (.iload 4, 2) := by decide +kernel
theorem dX6_swings_113 : decode cX6_swings 113 = .ok (.ireturn, 1) := by decide +kernel
theorem dX5_growsWith_0 : decode cX5_growsWith 0 = .ok (.aload_n 0, 1) := by decide +kernel
theorem dX5_growsWith_1 : decode cX5_growsWith 1 = .ok (.getfield 19, 3) := by decide +kernel
theorem dX5_growsWith_4 : decode cX5_growsWith 4 = .ok (.aload_n 0, 1) := by decide +kernel
theorem dX5_growsWith_5 : decode cX5_growsWith 5 = .ok (.getfield 10, 3) := by decide +kernel
theorem dX5_growsWith_8 : decode cX5_growsWith 8 = .ok (.invokevirtual 58, 3) := by decide +kernel
theorem dX5_growsWith_11 : decode cX5_growsWith 11 = .ok (.aload_n 0, 1) := by decide +kernel
theorem dX5_growsWith_12 : decode cX5_growsWith 12 = .ok (.getfield 19, 3) := by decide +kernel
theorem dX5_growsWith_15 : decode cX5_growsWith 15 = .ok (.getfield 106, 3) := by decide +kernel
theorem dX5_growsWith_18 : decode cX5_growsWith 18 = .ok (.bipush 6, 2) := by decide +kernel
theorem dX5_growsWith_20 : decode cX5_growsWith 20 = .ok (.iload_n 1, 1) := by decide +kernel
theorem dX5_growsWith_21 : decode cX5_growsWith 21 = .ok (.iastore, 1) := by decide +kernel
theorem dX5_growsWith_22 : decode cX5_growsWith 22 = .ok (.aload_n 0, 1) := by decide +kernel
theorem dX5_growsWith_23 : decode cX5_growsWith 23 = .ok (.getfield 19, 3) := by decide +kernel
theorem dX5_growsWith_26 : decode cX5_growsWith 26 = .ok (.bipush 100, 2) := by decide +kernel
theorem dX5_growsWith_28 : decode cX5_growsWith 28 = .ok (.invokevirtual 196, 3) := by decide +kernel
theorem dX5_growsWith_31 : decode cX5_growsWith 31 = .ok (.istore_n 2, 1) := by decide +kernel
theorem dX5_growsWith_32 : decode cX5_growsWith 32 = .ok (.aload_n 0, 1) := by decide +kernel
theorem dX5_growsWith_33 : decode cX5_growsWith 33 = .ok (.getfield 19, 3) := by decide +kernel
theorem dX5_growsWith_36 : decode cX5_growsWith 36 = .ok (.bipush 100, 2) := by decide +kernel
theorem dX5_growsWith_38 : decode cX5_growsWith 38 = .ok (.invokevirtual 196, 3) := by decide +kernel
theorem dX5_growsWith_41 : decode cX5_growsWith 41 = .ok (.istore_n 3, 1) := by decide +kernel
theorem dX5_growsWith_42 : decode cX5_growsWith 42 = .ok (.iload_n 3, 1) := by decide +kernel
theorem dX5_growsWith_43 : decode cX5_growsWith 43 = .ok (.iload_n 2, 1) := by decide +kernel
theorem dX5_growsWith_44 : decode cX5_growsWith 44 = .ok (.if_icmp .le 7, 3) := by decide +kernel
theorem dX5_growsWith_47 : decode cX5_growsWith 47 = .ok (.iconst 1, 1) := by decide +kernel
theorem dX5_growsWith_48 : decode cX5_growsWith 48 = .ok (.goto 4, 3) := by decide +kernel
theorem dX5_growsWith_51 : decode cX5_growsWith 51 = .ok (.iconst 0, 1) := by decide +kernel
theorem dX5_growsWith_52 : decode cX5_growsWith 52 = .ok (.ireturn, 1) := by decide +kernel
theorem dX5_grows_0 : decode cX5_grows 0 = .ok (.aload_n 0, 1) := by decide +kernel
theorem dX5_grows_1 : decode cX5_grows 1 = .ok (.aload_n 0, 1) := by decide +kernel
theorem dX5_grows_2 : decode cX5_grows 2 = .ok (.getfield 10, 3) := by decide +kernel
theorem dX5_grows_5 : decode cX5_grows 5 = .ok (.getfield 106, 3) := by decide +kernel
theorem dX5_grows_8 : decode cX5_grows 8 = .ok (.bipush 6, 2) := by decide +kernel
theorem dX5_grows_10 : decode cX5_grows 10 = .ok (.iaload, 1) := by decide +kernel
theorem dX5_grows_11 : decode cX5_grows 11 = .ok (.invokevirtual 199, 3) := by decide +kernel
theorem dX5_grows_14 : decode cX5_grows 14 = .ok (.ifCond .eq 7, 3) := by decide +kernel
theorem dX5_grows_17 : decode cX5_grows 17 = .ok (.iconst 1, 1) := by decide +kernel
theorem dX5_grows_18 : decode cX5_grows 18 = .ok (.goto 4, 3) := by decide +kernel
theorem dX5_grows_21 : decode cX5_grows 21 = .ok (.iconst 0, 1) := by decide +kernel
theorem dX5_grows_22 : decode cX5_grows 22 = .ok (.ireturn, 1) := by decide +kernel
theorem dX6_isGrowing_0 : decode cX6_isGrowing 0 = .ok (.aload_n 0, 1) := by decide +kernel
theorem dX6_isGrowing_1 : decode cX6_isGrowing 1 = .ok (.getfield 9, 3) := by decide +kernel
theorem dX6_isGrowing_4 : decode cX6_isGrowing 4 = .ok (.aload_n 0, 1) := by decide +kernel
theorem dX6_isGrowing_5 : decode cX6_isGrowing 5 = .ok (.getfield 19, 3) := by decide +kernel
theorem dX6_isGrowing_8 : decode cX6_isGrowing 8 = .ok (.invokestatic 104, 3) := by decide +kernel
theorem dX6_isGrowing_11 : decode cX6_isGrowing 11 = .ok (.iconst 0, 1) := by decide +kernel
theorem dX6_isGrowing_12 : decode cX6_isGrowing 12 = .ok (.istore_n 1, 1) := by decide +kernel
theorem dX6_isGrowing_13 : decode cX6_isGrowing 13 = .ok (.iconst 0, 1) := by decide +kernel
theorem dX6_isGrowing_14 : decode cX6_isGrowing 14 = .ok (.istore_n 2, 1) := by decide +kernel
theorem dX6_isGrowing_15 : decode cX6_isGrowing 15 = .ok (.iconst 1, 1) := by decide +kernel
theorem dX6_isGrowing_16 : decode cX6_isGrowing 16 = .ok (.istore_n 3, 1) := by decide +kernel
theorem dX6_isGrowing_17 : decode cX6_isGrowing 17 = .ok (.iload_n 3, 1) := by decide +kernel
theorem dX6_isGrowing_18 : decode cX6_isGrowing 18 = .ok (.sipush 200, 3) := by decide +kernel
theorem dX6_isGrowing_21 : decode cX6_isGrowing 21 = .ok (.if_icmp .gt 59, 3) := by decide +kernel
theorem dX6_isGrowing_24 : decode cX6_isGrowing 24 = .ok (.aload_n 0, 1) := by decide +kernel
theorem dX6_isGrowing_25 : decode cX6_isGrowing 25 = .ok (.invokevirtual 226, 3) := by decide +kernel
theorem dX6_isGrowing_28 : decode cX6_isGrowing 28 = .ok (.aload_n 0, 1) := by decide +kernel
theorem dX6_isGrowing_29 : decode cX6_isGrowing 29 = .ok (.getfield 9, 3) := by decide +kernel
theorem dX6_isGrowing_32 : decode cX6_isGrowing 32 = .ok (.iconst 3, 1) := by decide +kernel
theorem dX6_isGrowing_33 : decode cX6_isGrowing 33 = .ok (.iaload, 1) := by decide +kernel
theorem dX6_isGrowing_34 : decode cX6_isGrowing 34 = .ok (.invokestatic 153, 3) := by decide +kernel
theorem dX6_isGrowing_37 : decode cX6_isGrowing 37 = .ok (.istore 4, 2) := by decide +kernel
theorem dX6_isGrowing_39 : decode cX6_isGrowing 39 = .ok (.iload_n 3, 1) := by decide +kernel
theorem dX6_isGrowing_40 : decode cX6_isGrowing 40 = .ok (.bipush 100, 2) := by decide +kernel
theorem dX6_isGrowing_42 : decode cX6_isGrowing 42 = .ok (.if_icmp .gt 19, 3) := by decide +kernel
theorem dX6_isGrowing_45 : decode cX6_isGrowing 45 = .ok (.iload 4, 2) := by decide +kernel
theorem dX6_isGrowing_47 : decode cX6_isGrowing 47 = .ok (.iload_n 1, 1) := by decide +kernel
theorem dX6_isGrowing_48 : decode cX6_isGrowing 48 = .ok (.if_icmp .le 8, 3) := by decide +kernel
theorem dX6_isGrowing_51 : decode cX6_isGrowing 51 = .ok (.iload 4, 2) := by decide +kernel
theorem dX6_isGrowing_53 : decode cX6_isGrowing 53 = .ok (.goto 4, 3) := by decide +kernel
theorem dX6_isGrowing_56 : decode cX6_isGrowing 56 = .ok (.iload_n 1, 1) := by decide +kernel
theorem dX6_isGrowing_57 : decode cX6_isGrowing 57 = .ok (.istore_n 1, 1) := by decide +kernel
theorem dX6_isGrowing_58 : decode cX6_isGrowing 58 = .ok (.goto 16, 3) := by decide +kernel
theorem dX6_isGrowing_61 : decode cX6_isGrowing 61 = .ok (.iload 4, 2) := by decide +kernel
theorem dX6_isGrowing_63 : decode cX6_isGrowing 63 = .ok (.iload_n 2, 1) := by decide +kernel
theorem dX6_isGrowing_64 : decode cX6_isGrowing 64 = .ok (.if_icmp .le 8, 3) := by decide +kernel
theorem dX6_isGrowing_67 : decode cX6_isGrowing 67 = .ok (.iload 4, 2) := by decide +kernel
theorem dX6_isGrowing_69 : decode cX6_isGrowing 69 = .ok (.goto 4, 3) := by decide +kernel
theorem dX6_isGrowing_72 : decode cX6_isGrowing 72 = .ok (.iload_n 2, 1) := by decide +kernel
theorem dX6_isGrowing_73 : decode cX6_isGrowing 73 = .ok (.istore_n 2, 1) := by decide +kernel
theorem dX6_isGrowing_74 : decode cX6_isGrowing 74 = .ok (.iinc 3 1, 3) := by decide +kernel
theorem dX6_isGrowing_77 : decode cX6_isGrowing 77 = .ok (.goto (-60), 3) := by decide +kernel
theorem dX6_isGrowing_80 : decode cX6_isGrowing 80 = .ok (.aload_n 0, 1) := by decide +kernel
theorem dX6_isGrowing_81 : decode cX6_isGrowing 81 = .ok (.getfield 19, 3) := by decide +kernel
theorem dX6_isGrowing_84 : decode cX6_isGrowing 84 = .ok (.aload_n 0, 1) := by decide +kernel
theorem dX6_isGrowing_85 : decode cX6_isGrowing 85 = .ok (.getfield 9, 3) := by decide +kernel
theorem dX6_isGrowing_88 : decode cX6_isGrowing 88 = .ok (.invokestatic 104, 3) := by decide +kernel
theorem dX6_isGrowing_91 : decode cX6_isGrowing 91 = .ok (.iload_n 2, 1) := by decide +kernel
theorem dX6_isGrowing_92 : decode cX6_isGrowing 92 = .ok (.iload_n 1, 1) := by decide +kernel
theorem dX6_isGrowing_93 : decode cX6_isGrowing 93 = .ok (.if_icmp .le 7, 3) := by decide +kernel
theorem dX6_isGrowing_96 : decode cX6_isGrowing 96 = .ok (.iconst 1, 1) := by decide +kernel
theorem dX6_isGrowing_97 : decode cX6_isGrowing 97 = .ok (.goto 4, 3) := by decide +kernel
theorem dX6_isGrowing_100 : decode cX6_isGrowing 100 = .ok (.iconst 0, 1) := by decide +kernel
theorem dX6_isGrowing_101 : decode cX6_isGrowing 101 = .ok (.ireturn, 1) := by decide +kernel
theorem dX6_grows_0 : decode cX6_grows 0 = .ok (.aload_n 0, 1) := by decide +kernel
theorem dX6_grows_1 : decode cX6_grows 1 = .ok (.invokevirtual 229, 3) := by decide +kernel
theorem dX6_grows_4 : decode cX6_grows 4 = .ok (.ifCond .eq 7, 3) := by decide +kernel
theorem dX6_grows_7 : decode cX6_grows 7 = .ok (.iconst 1, 1) := by decide +kernel
theorem dX6_grows_8 : decode cX6_grows 8 = .ok (.goto 4, 3) := by decide +kernel
theorem dX6_grows_11 : decode cX6_grows 11 = .ok (.iconst 0, 1) := by decide +kernel
theorem dX6_grows_12 : decode cX6_grows 12 = .ok (.ireturn, 1) := by decide +kernel
theorem dX5_held_0 : decode cX5_held 0 = .ok (.iconst 0, 1) := by decide +kernel
theorem dX5_held_1 : decode cX5_held 1 = .ok (.istore_n 1, 1) := by decide +kernel
theorem dX5_held_2 : decode cX5_held 2 = .ok (.iload_n 1, 1) := by decide +kernel
theorem dX5_held_3 : decode cX5_held 3 = .ok (.getstatic 152, 3) := by decide +kernel
theorem dX5_held_6 : decode cX5_held 6 = .ok (.bipush 6, 2) := by decide +kernel
theorem dX5_held_8 : decode cX5_held 8 = .ok (.iaload, 1) := by decide +kernel
theorem dX5_held_9 : decode cX5_held 9 = .ok (.if_icmp .gt 19, 3) := by decide +kernel
theorem dX5_held_12 : decode cX5_held 12 = .ok (.aload_n 0, 1) := by decide +kernel
theorem dX5_held_13 : decode cX5_held 13 = .ok (.iload_n 1, 1) := by decide +kernel
theorem dX5_held_14 : decode cX5_held 14 = .ok (.invokevirtual 199, 3) := by decide +kernel
theorem dX5_held_17 : decode cX5_held 17 = .ok (.ifCond .ne 5, 3) := by decide +kernel
theorem dX5_held_20 : decode cX5_held 20 = .ok (.iload_n 1, 1) := by decide +kernel
theorem dX5_held_21 : decode cX5_held 21 = .ok (.ireturn, 1) := by decide +kernel
theorem dX5_held_22 : decode cX5_held 22 = .ok (.iinc 1 1, 3) := by decide +kernel
theorem dX5_held_25 : decode cX5_held 25 = .ok (.goto (-23), 3) := by decide +kernel
theorem dX5_held_28 : decode cX5_held 28 = .ok (.bipush (-4), 2) := by decide +kernel
theorem dX5_held_30 : decode cX5_held 30 = .ok (.ireturn, 1) := by decide +kernel
theorem dX6_held_0 : decode cX6_held 0 = .ok (.aload_n 0, 1) := by decide +kernel
theorem dX6_held_1 : decode cX6_held 1 = .ok (.getfield 9, 3) := by decide +kernel
theorem dX6_held_4 : decode cX6_held 4 = .ok (.bipush 11, 2) := by decide +kernel
theorem dX6_held_6 : decode cX6_held 6 = .ok (.iaload, 1) := by decide +kernel
theorem dX6_held_7 : decode cX6_held 7 = .ok (.istore_n 1, 1) := by decide +kernel
theorem dX6_held_8 : decode cX6_held 8 = .ok (.bipush (-4), 2) := by decide +kernel
theorem dX6_held_10 : decode cX6_held 10 = .ok (.istore_n 2, 1) := by decide +kernel
theorem dX6_held_11 : decode cX6_held 11 = .ok (.iconst 0, 1) := by decide +kernel
theorem dX6_held_12 : decode cX6_held 12 = .ok (.istore_n 3, 1) := by decide +kernel
theorem dX6_held_13 : decode cX6_held 13 = .ok (.iload_n 3, 1) := by decide +kernel
theorem dX6_held_14 : decode cX6_held 14 = .ok (.bipush 10, 2) := by decide +kernel
theorem dX6_held_16 : decode cX6_held 16 = .ok (.if_icmp .ge 30, 3) := by decide +kernel
theorem dX6_held_19 : decode cX6_held 19 = .ok (.iload_n 2, 1) := by decide +kernel
theorem dX6_held_20 : decode cX6_held 20 = .ok (.ifCond .ge 26, 3) := by decide +kernel
theorem dX6_held_23 : decode cX6_held 23 = .ok (.aload_n 0, 1) := by decide +kernel
theorem dX6_held_24 : decode cX6_held 24 = .ok (.getfield 9, 3) := by decide +kernel
theorem dX6_held_27 : decode cX6_held 27 = .ok (.bipush 11, 2) := by decide +kernel
theorem dX6_held_29 : decode cX6_held 29 = .ok (.iload_n 3, 1) := by decide +kernel
theorem dX6_held_30 : decode cX6_held 30 = .ok (.iastore, 1) := by decide +kernel
theorem dX6_held_31 : decode cX6_held 31 = .ok (.aload_n 0, 1) := by decide +kernel
theorem dX6_held_32 : decode cX6_held 32 = .ok (.invokevirtual 229, 3) := by decide +kernel
theorem dX6_held_35 : decode cX6_held 35 = .ok (.ifCond .ne 5, 3) := by decide +kernel
theorem dX6_held_38 : decode cX6_held 38 = .ok (.iload_n 3, 1) := by decide +kernel
theorem dX6_held_39 : decode cX6_held 39 = .ok (.istore_n 2, 1) := by decide +kernel
theorem dX6_held_40 : decode cX6_held 40 = .ok (.iinc 3 1, 3) := by decide +kernel
theorem dX6_held_43 : decode cX6_held 43 = .ok (.goto (-30), 3) := by decide +kernel
theorem dX6_held_46 : decode cX6_held 46 = .ok (.aload_n 0, 1) := by decide +kernel
theorem dX6_held_47 : decode cX6_held 47 = .ok (.getfield 9, 3) := by decide +kernel
theorem dX6_held_50 : decode cX6_held 50 = .ok (.bipush 11, 2) := by decide +kernel
theorem dX6_held_52 : decode cX6_held 52 = .ok (.iload_n 1, 1) := by decide +kernel
theorem dX6_held_53 : decode cX6_held 53 = .ok (.iastore, 1) := by decide +kernel
theorem dX6_held_54 : decode cX6_held 54 = .ok (.iload_n 2, 1) := by decide +kernel
theorem dX6_held_55 : decode cX6_held 55 = .ok (.ireturn, 1) := by decide +kernel
theorem dX5_whip_0 : decode cX5_whip 0 = .ok (.aload_n 0, 1) := by decide +kernel
theorem dX5_whip_1 : decode cX5_whip 1 = .ok (.getfield 10, 3) := by decide +kernel
theorem dX5_whip_4 : decode cX5_whip 4 = .ok (.iload_n 1, 1) := by decide +kernel
theorem dX5_whip_5 : decode cX5_whip 5 = .ok (.invokevirtual 66, 3) := by decide +kernel
theorem dX5_whip_8 : decode cX5_whip 8 = .ok (.ifCond .ne 5, 3) := by decide +kernel
theorem dX5_whip_11 : decode cX5_whip 11 = .ok (.iconst (-1), 1) := by decide +kernel
theorem dX5_whip_12 : decode cX5_whip 12 = .ok (.ireturn, 1) := by decide +kernel
theorem dX5_whip_13 : decode cX5_whip 13 = .ok (.aload_n 0, 1) := by decide +kernel
theorem dX5_whip_14 : decode cX5_whip 14 = .ok (.getfield 10, 3) := by decide +kernel
theorem dX5_whip_17 : decode cX5_whip 17 = .ok (.getfield 70, 3) := by decide +kernel
theorem dX5_whip_20 : decode cX5_whip 20 = .ok (.iload_n 1, 1) := by decide +kernel
theorem dX5_whip_21 : decode cX5_whip 21 = .ok (.aaload, 1) := by decide +kernel
theorem dX5_whip_22 : decode cX5_whip 22 = .ok (.astore_n 2, 1) := by decide +kernel
theorem dX5_whip_23 : decode cX5_whip 23 = .ok (.aload_n 2, 1) := by decide +kernel
theorem dX5_whip_24 : decode cX5_whip 24 = .ok (.getfield 90, 3) := by decide +kernel
theorem dX5_whip_27 : decode cX5_whip 27 = .ok (.aload_n 2, 1) := by decide +kernel
theorem dX5_whip_28 : decode cX5_whip 28 = .ok (.getfield 87, 3) := by decide +kernel
theorem dX5_whip_31 : decode cX5_whip 31 = .ok (.imul, 1) := by decide +kernel
theorem dX5_whip_32 : decode cX5_whip 32 = .ok (.aload_n 2, 1) := by decide +kernel
theorem dX5_whip_33 : decode cX5_whip 33 = .ok (.getfield 78, 3) := by decide +kernel
theorem dX5_whip_36 : decode cX5_whip 36 = .ok (.imul, 1) := by decide +kernel
theorem dX5_whip_37 : decode cX5_whip 37 = .ok (.sipush 10000, 3) := by decide +kernel
theorem dX5_whip_40 : decode cX5_whip 40 = .ok (.idiv, 1) := by decide +kernel
theorem dX5_whip_41 : decode cX5_whip 41 = .ok (.ireturn, 1) := by decide +kernel
theorem dX6_whip_0 : decode cX6_whip 0 = .ok (.aload_n 0, 1) := by decide +kernel
theorem dX6_whip_1 : decode cX6_whip 1 = .ok (.iload_n 1, 1) := by decide +kernel
theorem dX6_whip_2 : decode cX6_whip 2 = .ok (.invokevirtual 117, 3) := by decide +kernel
theorem dX6_whip_5 : decode cX6_whip 5 = .ok (.ifCond .eq 38, 3) := by decide +kernel
theorem dX6_whip_8 : decode cX6_whip 8 = .ok (.aload_n 0, 1) := by decide +kernel
theorem dX6_whip_9 : decode cX6_whip 9 = .ok (.iload_n 1, 1) := by decide +kernel
theorem dX6_whip_10 : decode cX6_whip 10 = .ok (.invokevirtual 188, 3) := by decide +kernel
theorem dX6_whip_13 : decode cX6_whip 13 = .ok (.aload_n 0, 1) := by decide +kernel
theorem dX6_whip_14 : decode cX6_whip 14 = .ok (.iload_n 1, 1) := by decide +kernel
theorem dX6_whip_15 : decode cX6_whip 15 = .ok (.iconst 0, 1) := by decide +kernel
theorem dX6_whip_16 : decode cX6_whip 16 = .ok (.invokevirtual 111, 3) := by decide +kernel
theorem dX6_whip_19 : decode cX6_whip 19 = .ok (.aload_n 0, 1) := by decide +kernel
theorem dX6_whip_20 : decode cX6_whip 20 = .ok (.iload_n 1, 1) := by decide +kernel
theorem dX6_whip_21 : decode cX6_whip 21 = .ok (.iconst 1, 1) := by decide +kernel
theorem dX6_whip_22 : decode cX6_whip 22 = .ok (.invokevirtual 111, 3) := by decide +kernel
theorem dX6_whip_25 : decode cX6_whip 25 = .ok (.invokestatic 123, 3) := by decide +kernel
theorem dX6_whip_28 : decode cX6_whip 28 = .ok (.imul, 1) := by decide +kernel
theorem dX6_whip_29 : decode cX6_whip 29 = .ok (.aload_n 0, 1) := by decide +kernel
theorem dX6_whip_30 : decode cX6_whip 30 = .ok (.iload_n 1, 1) := by decide +kernel
theorem dX6_whip_31 : decode cX6_whip 31 = .ok (.iconst 2, 1) := by decide +kernel
theorem dX6_whip_32 : decode cX6_whip 32 = .ok (.invokevirtual 111, 3) := by decide +kernel
theorem dX6_whip_35 : decode cX6_whip 35 = .ok (.imul, 1) := by decide +kernel
theorem dX6_whip_36 : decode cX6_whip 36 = .ok (.sipush 10000, 3) := by decide +kernel
theorem dX6_whip_39 : decode cX6_whip 39 = .ok (.idiv, 1) := by decide +kernel
theorem dX6_whip_40 : decode cX6_whip 40 = .ok (.goto 4, 3) := by decide +kernel
theorem dX6_whip_43 : decode cX6_whip 43 = .ok (.iconst (-1), 1) := by decide +kernel
theorem dX6_whip_44 : decode cX6_whip 44 = .ok (.ireturn, 1) := by decide +kernel
theorem dX0_pullsAbove_0 : decode cX0_pullsAbove 0 = .ok (.iconst 0, 1) := by decide +kernel
theorem dX0_pullsAbove_1 : decode cX0_pullsAbove 1 = .ok (.istore_n 2, 1) := by decide +kernel
theorem dX0_pullsAbove_2 : decode cX0_pullsAbove 2 = .ok (.iconst 0, 1) := by decide +kernel
theorem dX0_pullsAbove_3 : decode cX0_pullsAbove 3 = .ok (.istore_n 3, 1) := by decide +kernel
theorem dX0_pullsAbove_4 : decode cX0_pullsAbove 4 = .ok (.iload_n 3, 1) := by decide +kernel
theorem dX0_pullsAbove_5 : decode cX0_pullsAbove 5 = .ok (.aload_n 0, 1) := by decide +kernel
theorem dX0_pullsAbove_6 : decode cX0_pullsAbove 6 = .ok (.getfield 24, 3) := by decide +kernel
theorem dX0_pullsAbove_9 : decode cX0_pullsAbove 9 = .ok (.if_icmp .ge 21, 3) := by decide +kernel
theorem dX0_pullsAbove_12 : decode cX0_pullsAbove 12 = .ok (.aload_n 0, 1) := by decide +kernel
theorem dX0_pullsAbove_13 : decode cX0_pullsAbove 13 = .ok (.iload_n 3, 1) := by decide +kernel
theorem dX0_pullsAbove_14 : decode cX0_pullsAbove 14 = .ok (.invokevirtual 80, 3) := by decide +kernel
theorem dX0_pullsAbove_17 : decode cX0_pullsAbove 17 = .ok (.iload_n 1, 1) := by decide +kernel
theorem dX0_pullsAbove_18 : decode cX0_pullsAbove 18 = .ok (.if_icmp .le 6, 3) := by decide +kernel
theorem dX0_pullsAbove_21 : decode cX0_pullsAbove 21 = .ok (.iinc 2 1, 3) := by decide +kernel
theorem dX0_pullsAbove_24 : decode cX0_pullsAbove 24 = .ok (.iinc 3 1, 3) := by decide +kernel
theorem dX0_pullsAbove_27 : decode cX0_pullsAbove 27 = .ok (.goto (-23), 3) := by decide +kernel
theorem dX0_pullsAbove_30 : decode cX0_pullsAbove 30 = .ok (.iload_n 2, 1) := by decide +kernel
theorem dX0_pullsAbove_31 : decode cX0_pullsAbove 31 = .ok (.ireturn, 1) := by decide +kernel
theorem dX5_renders_0 : decode cX5_renders 0 = .ok (.iload_n 1, 1) := by decide +kernel
theorem dX5_renders_1 : decode cX5_renders 1 = .ok (.iconst 0, 1) := by decide +kernel
theorem dX5_renders_2 : decode cX5_renders 2 = .ok (.sipush 9999, 3) := by decide +kernel
theorem dX5_renders_5 : decode cX5_renders 5 = .ok (.invokestatic 129, 3) := by decide +kernel
theorem dX5_renders_8 : decode cX5_renders 8 = .ok (.ifCond .ne 5, 3) := by decide +kernel
theorem dX5_renders_11 : decode cX5_renders 11 = .ok (.iconst (-1), 1) := by decide +kernel
theorem dX5_renders_12 : decode cX5_renders 12 = .ok (.ireturn, 1) := by decide +kernel
theorem dX5_renders_13 : decode cX5_renders 13 = .ok (.aload_n 0, 1) := by decide +kernel
theorem dX5_renders_14 : decode cX5_renders 14 = .ok (.invokevirtual 110, 3) := by decide +kernel
theorem dX5_renders_17 : decode cX5_renders 17 = .ok (.ifCond .eq 14, 3) := by decide +kernel
theorem dX5_renders_20 : decode cX5_renders 20 = .ok (.aload_n 0, 1) := by decide +kernel
theorem dX5_renders_21 : decode cX5_renders 21 = .ok (.getfield 25, 3) := by decide +kernel
theorem dX5_renders_24 : decode cX5_renders 24 = .ok (.iload_n 1, 1) := by decide +kernel
theorem dX5_renders_25 : decode cX5_renders 25 = .ok (.invokevirtual 202, 3) := by decide +kernel
theorem dX5_renders_28 : decode cX5_renders 28 = .ok (.goto 5, 3) := by decide +kernel
theorem dX5_renders_31 : decode cX5_renders 31 = .ok (.bipush (-3), 2) := by decide +kernel
theorem dX5_renders_33 : decode cX5_renders 33 = .ok (.ireturn, 1) := by decide +kernel
theorem dX6_above_0 : decode cX6_above 0 = .ok (.iconst 0, 1) := by decide +kernel
theorem dX6_above_1 : decode cX6_above 1 = .ok (.istore_n 2, 1) := by decide +kernel
theorem dX6_above_2 : decode cX6_above 2 = .ok (.iconst 0, 1) := by decide +kernel
theorem dX6_above_3 : decode cX6_above 3 = .ok (.istore_n 3, 1) := by decide +kernel
theorem dX6_above_4 : decode cX6_above 4 = .ok (.iload_n 3, 1) := by decide +kernel
theorem dX6_above_5 : decode cX6_above 5 = .ok (.aload_n 0, 1) := by decide +kernel
theorem dX6_above_6 : decode cX6_above 6 = .ok (.getfield 9, 3) := by decide +kernel
theorem dX6_above_9 : decode cX6_above 9 = .ok (.bipush 6, 2) := by decide +kernel
theorem dX6_above_11 : decode cX6_above 11 = .ok (.iaload, 1) := by decide +kernel
theorem dX6_above_12 : decode cX6_above 12 = .ok (.if_icmp .ge 32, 3) := by decide +kernel
theorem dX6_above_15 : decode cX6_above 15 = .ok (.iload_n 2, 1) := by decide +kernel
theorem dX6_above_16 : decode cX6_above 16 = .ok (.aload_n 0, 1) := by decide +kernel
theorem dX6_above_17 : decode cX6_above 17 = .ok (.iload_n 3, 1) := by decide +kernel
theorem dX6_above_18 : decode cX6_above 18 = .ok (.aload_n 0, 1) := by decide +kernel
theorem dX6_above_19 : decode cX6_above 19 = .ok (.getfield 9, 3) := by decide +kernel
theorem dX6_above_22 : decode cX6_above 22 = .ok (.iconst 5, 1) := by decide +kernel
theorem dX6_above_23 : decode cX6_above 23 = .ok (.iaload, 1) := by decide +kernel
theorem dX6_above_24 : decode cX6_above 24 = .ok (.invokevirtual 182, 3) := by decide +kernel
theorem dX6_above_27 : decode cX6_above 27 = .ok (.iload_n 1, 1) := by decide +kernel
theorem dX6_above_28 : decode cX6_above 28 = .ok (.if_icmp .le 7, 3) := by decide +kernel
theorem dX6_above_31 : decode cX6_above 31 = .ok (.iconst 1, 1) := by decide +kernel
theorem dX6_above_32 : decode cX6_above 32 = .ok (.goto 4, 3) := by decide +kernel
theorem dX6_above_35 : decode cX6_above 35 = .ok (.iconst 0, 1) := by decide +kernel
theorem dX6_above_36 : decode cX6_above 36 = .ok (.iadd, 1) := by decide +kernel
theorem dX6_above_37 : decode cX6_above 37 = .ok (.istore_n 2, 1) := by decide +kernel
theorem dX6_above_38 : decode cX6_above 38 = .ok (.iinc 3 1, 3) := by decide +kernel
theorem dX6_above_41 : decode cX6_above 41 = .ok (.goto (-37), 3) := by decide +kernel
theorem dX6_above_44 : decode cX6_above 44 = .ok (.iload_n 2, 1) := by decide +kernel
theorem dX6_above_45 : decode cX6_above 45 = .ok (.ireturn, 1) := by decide +kernel
section WALK
variable {p : Program} {l : Launch} {e : Env} {s : State} {m : MethodId} {args : Array Value} {below : List Frame} {meth : Method} {c : Code} {G : GG}

def q_X5_yaws (M : Mem) (x1 : Int32) (post : Int32 → Mem → Prop) : Prop := q_X5_isWithin M x1 (1 : Int32) (400 : Int32) (fun r1 M2 => (r1 = 0 → (post (-1000000001 : Int32) M2)) ∧ (¬ (r1 = 0) → (q_X4_greatestYaw M2 1 x1 (fun r4 M5 => post (M5 1 3) M5))))
set_option maxHeartbeats 4000000 in
set_option maxRecDepth 100000 in
theorem c_X5_yaws (l : Launch) (G : GG) (hG : Ag G) (sz : Nat) (M : Mem) (x1 : Int32) (post : Int32 → Mem → Prop) (h : q_X5_yaws M x1 post) : Met l yX5_yaws (Cond.code yX5_yaws cX5_yaws 2 (some .int) :: wsL_law) (rmk 4) (va_Pc [.ref (ga G 0), .int x1] (Pw G sz M)) (va_Qi post (Qw G) (Af G sz)) 0 0 (Af G sz) := by
  refine Met.ofW (cc := cX5_yaws) (maxL := 2) (ret := (some .int)) (by decide) rfl ?_
  intro p e s m args below meth c s₁ B hml hv
  obtain ⟨rfl, hsz, hE, hP⟩ := hv
  subst hsz
  have C := Cx.of (own := RX5) hG hE rfl hml B
  have w : Wd G s M s.heap [] := ⟨hP, va_S.rf⟩
  have hl := lv_entry [.ref (ga G 0), .int x1] (n := 2) (Nat.le_of_ble_eq_true rfl)
  rw [lg_entry_eq]
  generalize (lg_sl [.ref (ga G 0), .int x1] ++ List.replicate (2 - (lg_sl [.ref (ga G 0), .int x1]).length) Slot.unset).toArray = ls at hl ⊢
  have hl : lv_has ls 2 [(0, .ref (ga G 0)), (1, .int x1)] := hl
  have hx := C.1.1
  have hb := C.1.2.1
  show W p l e (rmk 4) s m _ below meth c s.heap [] 0 0 _ _
  unfold q_X5_yaws at h
  refine lv_iload_n hx hb dX5_yaws_0 rfl (lv_at hl 1 rfl) ?_
  refine lv_iconst (v := 1) hx hb dX5_yaws_1 (by decide) ?_
  refine lv_sipush (v := 400) hx hb dX5_yaws_2 (by decide) ?_
  refine end_i w (run_S (As := [.int x1, .int (1 : Int32), .int (400 : Int32)]) C w hl.1 (c_X5_isWithin l G C.2.2.1 _ _ x1 (1 : Int32) (400 : Int32)  _ h) kw_6_8 kw_1_2 kw_6_6 kw_6_7 hd_X5_isWithin ⟨by decide, by decide⟩ rfl (Nat.le_of_ble_eq_true rfl) dX5_yaws_5) (fun r1 M2 H locs h w => ?_)
  refine lv_if_ne (tgt := 14) hx hb dX5_yaws_8 (by decide) (fun c3 => ?_) (fun c3 => ?_)
  · replace h := h.2 c3
    refine lv_aload_n hx hb dX5_yaws_14 rfl (lv_at hl 0 rfl) ?_
    refine gt_5_0 C w kw_1_16 dX5_yaws_15 ?_
    refine lv_iload_n hx hb dX5_yaws_18 rfl (lv_at hl 1 rfl) ?_
    refine end_i w (run_VN (As := [.int x1]) C w hl.1 (c_X4_greatestYaw l G C.2.2.1 _ _ 1 x1 ⟨by decide, by decide⟩ _ h) kw_28_16 kw_1_15 kn_71 kw_28_14 kw_28_15 hd_X4_greatestYaw ⟨by decide, by decide⟩ (w.recv C (i := 1) (by decide) (pE_4 ⟨by decide, by decide⟩) rfl) rfl (Nat.le_of_ble_eq_true rfl) dX5_yaws_19) (fun r4 M5 H locs h w => ?_)
    refine lv_pop hx hb dX5_yaws_22 rfl ?_
    refine lv_aload_n hx hb dX5_yaws_23 rfl (lv_at hl 0 rfl) ?_
    refine gt_5_0 C w kw_1_16 dX5_yaws_24 ?_
    refine gn_4_3 C w ⟨by decide, by decide⟩ kn_18 dX5_yaws_27 ?_
    exact ret_i C w h dX5_yaws_30
  replace h := h.1 c3
  refine lv_ldc hx hb C.1.2.2.2.1 (C.ws kw_25_9) dX5_yaws_11 ?_
  exact ret_i C w h dX5_yaws_13
def j_X6_within_21 (post : Int32 → Mem → Prop) (M : Mem) (y0 : Int32) : Prop := post y0 M
def q_X6_within (M : Mem) (x0 : Int32) (x1 : Int32) (post : Int32 → Mem → Prop) : Prop := (x0 ≤ x1 → (((-x1) ≤ x0 → (j_X6_within_21 post M x0)) ∧ (¬ ((-x1) ≤ x0) → (j_X6_within_21 post M (-x1))))) ∧ (¬ (x0 ≤ x1) → (j_X6_within_21 post M x1))
set_option maxHeartbeats 4000000 in
set_option maxRecDepth 100000 in
theorem t_X6_within_21 (C : Cx G p s m args meth c RX6 cX6_within 2 (some .int)) {post : Int32 → Mem → Prop} (M : Mem) (y0 : Int32) {H : Heap} {locs : List Loc} {ls : Array Slot} (w : Wd G s M H locs) (hl : lv_has ls 2 []) (h : j_X6_within_21 post M y0) : W p l e (rmk 1) s m args below meth c H locs 0 0 (MQ below (va_Qi post (Qw G) (Af G s.heap.size)) args s 0 0 (Af G s.heap.size)) (F0 m 21 ls [.int y0]) := by
  have hx := C.1.1
  have hb := C.1.2.1
  unfold j_X6_within_21 at h
  exact ret_i C w h dX6_within_21
set_option maxHeartbeats 4000000 in
set_option maxRecDepth 100000 in
theorem c_X6_within (l : Launch) (G : GG) (hG : Ag G) (sz : Nat) (M : Mem) (x0 : Int32) (x1 : Int32) (post : Int32 → Mem → Prop) (h : q_X6_within M x0 x1 post) : Met l yX6_within (Cond.code yX6_within cX6_within 2 (some .int) :: wsL_law) (rmk 1) (va_Pc [.int x0, .int x1] (Pw G sz M)) (va_Qi post (Qw G) (Af G sz)) 0 0 (Af G sz) := by
  refine Met.ofW (cc := cX6_within) (maxL := 2) (ret := (some .int)) (by decide) rfl ?_
  intro p e s m args below meth c s₁ B hml hv
  obtain ⟨rfl, hsz, hE, hP⟩ := hv
  subst hsz
  have C := Cx.of (own := RX6) hG hE rfl hml B
  have w : Wd G s M s.heap [] := ⟨hP, va_S.rf⟩
  have hl := lv_entry [.int x0, .int x1] (n := 2) (Nat.le_of_ble_eq_true rfl)
  rw [lg_entry_eq]
  generalize (lg_sl [.int x0, .int x1] ++ List.replicate (2 - (lg_sl [.int x0, .int x1]).length) Slot.unset).toArray = ls at hl ⊢
  have hl : lv_has ls 2 [(0, .int x0), (1, .int x1)] := hl
  have hx := C.1.1
  have hb := C.1.2.1
  show W p l e (rmk 1) s m _ below meth c s.heap [] 0 0 _ _
  unfold q_X6_within at h
  refine lv_iload_n hx hb dX6_within_0 rfl (lv_at hl 0 rfl) ?_
  refine lv_iload_n hx hb dX6_within_1 rfl (lv_at hl 1 rfl) ?_
  refine lv_icmp_le (tgt := 9) hx hb dX6_within_2 (by decide) (fun c1 => ?_) (fun c1 => ?_)
  · replace h := h.1 c1
    refine lv_iload_n hx hb dX6_within_9 rfl (lv_at hl 0 rfl) ?_
    refine lv_iload_n hx hb dX6_within_10 rfl (lv_at hl 1 rfl) ?_
    refine lv_ineg hx hb dX6_within_11 ?_
    refine lv_icmp_ge (tgt := 20) hx hb dX6_within_12 (by decide) (fun c2 => ?_) (fun c2 => ?_)
    · replace h := h.1 c2
      refine lv_iload_n hx hb dX6_within_20 rfl (lv_at hl 0 rfl) ?_
      exact t_X6_within_21 C M x0  w (lv_sub hl [] rfl) h
    replace h := h.2 c2
    refine lv_iload_n hx hb dX6_within_15 rfl (lv_at hl 1 rfl) ?_
    refine lv_ineg hx hb dX6_within_16 ?_
    refine lv_goto (tgt := 21) hx hb dX6_within_17 (by decide) ?_
    exact t_X6_within_21 C M (-x1)  w (lv_sub hl [] rfl) h
  replace h := h.2 c1
  refine lv_iload_n hx hb dX6_within_5 rfl (lv_at hl 1 rfl) ?_
  refine lv_goto (tgt := 21) hx hb dX6_within_6 (by decide) ?_
  exact t_X6_within_21 C M x1  w (lv_sub hl [] rfl) h
def q_X6_goesYaw (M : Mem) (post : Mem → Prop) : Prop := ¬ ((4 : Int32) + (M 58 11)) = 0 ∧ (q_X6_within M ((((M 58 4) + (((M 58 3) * (((M 58 7) - (M 58 10)) - (M 58 11))) / (10 : Int32))) - ((M 58 4) / ((4 : Int32) + (M 58 11)))) - (((M 58 3) * (M 58 9)) / (20 : Int32))) (999 : Int32) (fun r1 M2 => ∀ M3 : Mem, M3 = (mup M2 58 4 r1) → (q_X6_within M3 ((M 58 3) + ((M3 58 4) / (10 : Int32))) (999 : Int32) (fun r4 M5 => ∀ M6 : Mem, M6 = (mup M5 58 3 r4) → (post M6)))))
set_option maxHeartbeats 4000000 in
set_option maxRecDepth 100000 in
theorem c_X6_goesYaw (l : Launch) (G : GG) (hG : Ag G) (sz : Nat) (M : Mem) (post : Mem → Prop) (h : q_X6_goesYaw M post) : Met l yX6_goesYaw (Cond.code yX6_goesYaw cX6_goesYaw 3 none :: wsL_law) (rmk 2) (va_Pc [.ref (ga G 57)] (Pw G sz M)) (va_Qv post (Qw G) (Af G sz)) 0 0 (Af G sz) := by
  refine Met.ofW (cc := cX6_goesYaw) (maxL := 3) (ret := none) (by decide) rfl ?_
  intro p e s m args below meth c s₁ B hml hv
  obtain ⟨rfl, hsz, hE, hP⟩ := hv
  subst hsz
  have C := Cx.of (own := RX6) hG hE rfl hml B
  have w : Wd G s M s.heap [] := ⟨hP, va_S.rf⟩
  have hl := lv_entry [.ref (ga G 57)] (n := 3) (Nat.le_of_ble_eq_true rfl)
  rw [lg_entry_eq]
  generalize (lg_sl [.ref (ga G 57)] ++ List.replicate (3 - (lg_sl [.ref (ga G 57)]).length) Slot.unset).toArray = ls at hl ⊢
  have hl : lv_has ls 3 [(0, .ref (ga G 57))] := hl
  have hx := C.1.1
  have hb := C.1.2.1
  show W p l e (rmk 2) s m _ below meth c s.heap [] 0 0 _ _
  unfold q_X6_goesYaw at h
  refine lv_aload_n hx hb dX6_goesYaw_0 rfl (lv_at hl 0 rfl) ?_
  refine gt_6_0 C w kw_5_0 dX6_goesYaw_1 ?_
  refine lv_iconst (v := 3) hx hb dX6_goesYaw_4 (by decide) ?_
  refine pw_ld C w (i := 58) (by decide) pE_58 (vl (x := (3 : Int32)) (by decide)) (k := 3) (by decide) dX6_goesYaw_5 ?_
  refine lv_istore_n (lv' := [(1, .int (M 58 3)), (0, .ref (ga G 57))]) hx hb dX6_goesYaw_6 rfl hl (by decide) rfl (fun ls hl => ?_)
  refine lv_aload_n hx hb dX6_goesYaw_7 rfl (lv_at hl 1 rfl) ?_
  refine gt_6_0 C w kw_5_0 dX6_goesYaw_8 ?_
  refine lv_iconst (v := 4) hx hb dX6_goesYaw_11 (by decide) ?_
  refine pw_ld C w (i := 58) (by decide) pE_58 (vl (x := (4 : Int32)) (by decide)) (k := 4) (by decide) dX6_goesYaw_12 ?_
  refine lv_istore_n (lv' := [(2, .int (M 58 4)), (1, .int (M 58 3)), (0, .ref (ga G 57))]) hx hb dX6_goesYaw_13 rfl hl (by decide) rfl (fun ls hl => ?_)
  refine lv_aload_n hx hb dX6_goesYaw_14 rfl (lv_at hl 2 rfl) ?_
  refine gt_6_0 C w kw_5_0 dX6_goesYaw_15 ?_
  refine lv_iconst (v := 4) hx hb dX6_goesYaw_18 (by decide) ?_
  refine lv_iload_n hx hb dX6_goesYaw_19 rfl (lv_at hl 0 rfl) ?_
  refine lv_iload_n hx hb dX6_goesYaw_20 rfl (lv_at hl 1 rfl) ?_
  refine lv_aload_n hx hb dX6_goesYaw_21 rfl (lv_at hl 2 rfl) ?_
  refine gt_6_0 C w kw_5_0 dX6_goesYaw_22 ?_
  refine lv_bipush (v := 7) hx hb dX6_goesYaw_25 (by decide) ?_
  refine pw_ld C w (i := 58) (by decide) pE_58 (vl (x := (7 : Int32)) (by decide)) (k := 7) (by decide) dX6_goesYaw_27 ?_
  refine lv_aload_n hx hb dX6_goesYaw_28 rfl (lv_at hl 2 rfl) ?_
  refine gt_6_0 C w kw_5_0 dX6_goesYaw_29 ?_
  refine lv_bipush (v := 10) hx hb dX6_goesYaw_32 (by decide) ?_
  refine pw_ld C w (i := 58) (by decide) pE_58 (vl (x := (10 : Int32)) (by decide)) (k := 10) (by decide) dX6_goesYaw_34 ?_
  refine lv_isub hx hb dX6_goesYaw_35 ?_
  refine lv_aload_n hx hb dX6_goesYaw_36 rfl (lv_at hl 2 rfl) ?_
  refine gt_6_0 C w kw_5_0 dX6_goesYaw_37 ?_
  refine lv_bipush (v := 11) hx hb dX6_goesYaw_40 (by decide) ?_
  refine pw_ld C w (i := 58) (by decide) pE_58 (vl (x := (11 : Int32)) (by decide)) (k := 11) (by decide) dX6_goesYaw_42 ?_
  refine lv_isub hx hb dX6_goesYaw_43 ?_
  refine lv_imul hx hb dX6_goesYaw_44 ?_
  refine lv_bipush (v := 10) hx hb dX6_goesYaw_45 (by decide) ?_
  refine lv_idiv hx hb dX6_goesYaw_47 (by decide) ?_
  refine lv_iadd hx hb dX6_goesYaw_48 ?_
  refine lv_iload_n hx hb dX6_goesYaw_49 rfl (lv_at hl 0 rfl) ?_
  refine lv_iconst (v := 4) hx hb dX6_goesYaw_50 (by decide) ?_
  refine lv_aload_n hx hb dX6_goesYaw_51 rfl (lv_at hl 2 rfl) ?_
  refine gt_6_0 C w kw_5_0 dX6_goesYaw_52 ?_
  refine lv_bipush (v := 11) hx hb dX6_goesYaw_55 (by decide) ?_
  refine pw_ld C w (i := 58) (by decide) pE_58 (vl (x := (11 : Int32)) (by decide)) (k := 11) (by decide) dX6_goesYaw_57 ?_
  refine lv_iadd hx hb dX6_goesYaw_58 ?_
  refine lv_idiv hx hb dX6_goesYaw_59 h.1 ?_
  replace h := h.2
  refine lv_isub hx hb dX6_goesYaw_60 ?_
  refine lv_iload_n hx hb dX6_goesYaw_61 rfl (lv_at hl 1 rfl) ?_
  refine lv_aload_n hx hb dX6_goesYaw_62 rfl (lv_at hl 2 rfl) ?_
  refine gt_6_0 C w kw_5_0 dX6_goesYaw_63 ?_
  refine lv_bipush (v := 9) hx hb dX6_goesYaw_66 (by decide) ?_
  refine pw_ld C w (i := 58) (by decide) pE_58 (vl (x := (9 : Int32)) (by decide)) (k := 9) (by decide) dX6_goesYaw_68 ?_
  refine lv_imul hx hb dX6_goesYaw_69 ?_
  refine lv_bipush (v := 20) hx hb dX6_goesYaw_70 (by decide) ?_
  refine lv_idiv hx hb dX6_goesYaw_72 (by decide) ?_
  refine lv_isub hx hb dX6_goesYaw_73 ?_
  refine lv_sipush (v := 999) hx hb dX6_goesYaw_74 (by decide) ?_
  refine end_i w (run_S (As := [.int ((((M 58 4) + (((M 58 3) * (((M 58 7) - (M 58 10)) - (M 58 11))) / (10 : Int32))) - ((M 58 4) / ((4 : Int32) + (M 58 11)))) - (((M 58 3) * (M 58 9)) / (20 : Int32))), .int (999 : Int32)]) C w hl.1 (c_X6_within l G C.2.2.1 _ _ ((((M 58 4) + (((M 58 3) * (((M 58 7) - (M 58 10)) - (M 58 11))) / (10 : Int32))) - ((M 58 4) / ((4 : Int32) + (M 58 11)))) - (((M 58 3) * (M 58 9)) / (20 : Int32))) (999 : Int32)  _ h) kw_29_9 kw_1_5 kw_29_7 kw_29_8 hd_X6_within ⟨by decide, by decide⟩ rfl (Nat.le_of_ble_eq_true rfl) dX6_goesYaw_77) (fun r1 M2 H locs h w => ?_)
  refine pw_st C w (i := 58) (by decide) (fun _ => pE_58) (vl (x := (4 : Int32)) (by decide)) (k := 4) (by decide) dX6_goesYaw_80 (fun H locs w => ?_)
  obtain ⟨M3, eM3⟩ : ∃ z : Mem, z = (mup M2 58 4 r1) := ⟨_, rfl⟩
  replace w : Wd G s M3 H locs := by rw [eM3]; exact w
  replace h := h M3 eM3
  refine lv_aload_n hx hb dX6_goesYaw_81 rfl (lv_at hl 2 rfl) ?_
  refine gt_6_0 C w kw_5_0 dX6_goesYaw_82 ?_
  refine lv_iconst (v := 3) hx hb dX6_goesYaw_85 (by decide) ?_
  refine lv_iload_n hx hb dX6_goesYaw_86 rfl (lv_at hl 1 rfl) ?_
  refine lv_aload_n hx hb dX6_goesYaw_87 rfl (lv_at hl 2 rfl) ?_
  refine gt_6_0 C w kw_5_0 dX6_goesYaw_88 ?_
  refine lv_iconst (v := 4) hx hb dX6_goesYaw_91 (by decide) ?_
  refine pw_ld C w (i := 58) (by decide) pE_58 (vl (x := (4 : Int32)) (by decide)) (k := 4) (by decide) dX6_goesYaw_92 ?_
  refine lv_bipush (v := 10) hx hb dX6_goesYaw_93 (by decide) ?_
  refine lv_idiv hx hb dX6_goesYaw_95 (by decide) ?_
  refine lv_iadd hx hb dX6_goesYaw_96 ?_
  refine lv_sipush (v := 999) hx hb dX6_goesYaw_97 (by decide) ?_
  refine end_i w (run_S (As := [.int ((M 58 3) + ((M3 58 4) / (10 : Int32))), .int (999 : Int32)]) C w hl.1 (c_X6_within l G C.2.2.1 _ _ ((M 58 3) + ((M3 58 4) / (10 : Int32))) (999 : Int32)  _ h) kw_29_9 kw_1_5 kw_29_7 kw_29_8 hd_X6_within ⟨by decide, by decide⟩ rfl (Nat.le_of_ble_eq_true rfl) dX6_goesYaw_100) (fun r4 M5 H locs h w => ?_)
  refine pw_st C w (i := 58) (by decide) (fun _ => pE_58) (vl (x := (3 : Int32)) (by decide)) (k := 3) (by decide) dX6_goesYaw_103 (fun H locs w => ?_)
  obtain ⟨M6, eM6⟩ : ∃ z : Mem, z = (mup M5 58 3 r4) := ⟨_, rfl⟩
  replace w : Wd G s M6 H locs := by rw [eM6]; exact w
  replace h := h M6 eM6
  exact ret_v C w h dX6_goesYaw_104
def b_X6_yaws_17 (k17 : Mem → Int32 → Int32 → Prop) (post : Int32 → Mem → Prop) (M : Mem) (x1 : Int32) (x2 : Int32) : Prop := (x1 ≤ x2 → (post (M 58 3) M)) ∧ (¬ (x1 ≤ x2) → (q_X6_goesYaw M  (fun M3 => k17 M3 x1 (x2 + (1 : Int32)))))
def lp_X6_yaws_17 (post : Int32 → Mem → Prop) : Nat → Mem → Int32 → Int32 → Prop
  | 0 => fun _ _ _ => False
  | n + 1 => fun M x1 x2 => b_X6_yaws_17 (lp_X6_yaws_17 post n) post M x1 x2
def q_X6_yaws (M : Mem) (x1 : Int32) (post : Int32 → Mem → Prop) : Prop := q_X6_isIn M x1.toInt64 (1 : Int64) (400 : Int64) (fun r4 M5 => (r4 = 0 → (post (-1000000001 : Int32) M5)) ∧ (¬ (r4 = 0) → (∃ n, lp_X6_yaws_17 post n M5 x1 (0 : Int32))))
set_option maxHeartbeats 4000000 in
set_option maxRecDepth 100000 in
theorem t_X6_yaws_17 (C : Cx G p s m args meth c RX6 cX6_yaws 3 (some .int)) {post : Int32 → Mem → Prop} : ∀ (n : Nat) (M : Mem) (x1 : Int32) (x2 : Int32) {H : Heap} {locs : List Loc} {ls : Array Slot} (w : Wd G s M H locs) (hl : lv_has ls 3 [(0, .ref (ga G 57)), (1, .int x1), (2, .int x2)]) (h : lp_X6_yaws_17 post n M x1 x2), W p l e (rmk 3) s m args below meth c H locs 0 0 (MQ below (va_Qi post (Qw G) (Af G s.heap.size)) args s 0 0 (Af G s.heap.size)) (F0 m 17 ls []) := by
  have hx := C.1.1
  have hb := C.1.2.1
  intro n9
  induction n9 with
  | zero => intro M x1 x2 H locs ls w hl h; exact absurd h id
  | succ n9 ih9 =>
    intro M x1 x2 H locs ls w hl h
    have hk17 : ∀ (M : Mem) (x1 : Int32) (x2 : Int32) (H : Heap) (locs : List Loc) (ls : Array Slot), Wd G s M H locs → lv_has ls 3 [(0, .ref (ga G 57)), (1, .int x1), (2, .int x2)] → lp_X6_yaws_17 post n9 M x1 x2 → W p l e (rmk 3) s m args below meth c H locs 0 0 (MQ below (va_Qi post (Qw G) (Af G s.heap.size)) args s 0 0 (Af G s.heap.size)) (F0 m 17 ls []) := fun M x1 x2 H locs ls w hl h => ih9 M x1 x2 w hl h
    replace h : b_X6_yaws_17 (lp_X6_yaws_17 post n9) post M x1 x2 := h
    unfold b_X6_yaws_17 at h
    refine lv_iload_n hx hb dX6_yaws_17 rfl (lv_at hl 2 rfl) ?_
    refine lv_iload_n hx hb dX6_yaws_18 rfl (lv_at hl 1 rfl) ?_
    refine lv_icmp_ge (tgt := 32) hx hb dX6_yaws_19 (by decide) (fun c1 => ?_) (fun c1 => ?_)
    · replace h := h.1 c1
      refine lv_aload_n hx hb dX6_yaws_32 rfl (lv_at hl 0 rfl) ?_
      refine gt_6_0 C w kw_5_0 dX6_yaws_33 ?_
      refine lv_iconst (v := 3) hx hb dX6_yaws_36 (by decide) ?_
      refine pw_ld C w (i := 58) (by decide) pE_58 (vl (x := (3 : Int32)) (by decide)) (k := 3) (by decide) dX6_yaws_37 ?_
      exact ret_i C w h dX6_yaws_38
    replace h := h.2 c1
    refine lv_aload_n hx hb dX6_yaws_22 rfl (lv_at hl 0 rfl) ?_
    refine end_v w (run_V (As := []) C w hl.1 (c_X6_goesYaw l G C.2.2.1 _ _   _ h) kw_29_6 kw_1_5 kw_29_3 kw_29_4 kw_29_5 hd_X6_goesYaw ⟨by decide, by decide⟩ (w.recv C (i := 57) (by decide) (pE_6) rfl) rfl (Nat.le_of_ble_eq_true rfl) dX6_yaws_23) (fun M3 H locs h w => ?_)
    refine lv_iinc (v := (x2 + (1 : Int32))) (lv' := [(2, .int (x2 + (1 : Int32))), (0, .ref (ga G 57)), (1, .int x1)]) hx hb dX6_yaws_26 hl (k := 2) rfl rfl (by decide) rfl (fun ls hl => ?_)
    refine lv_goto (tgt := 17) hx hb dX6_yaws_29 (by decide) ?_
    exact hk17 M3 x1 (x2 + (1 : Int32)) _ _ _  w (lv_sub hl [1, 2, 0] rfl) h
set_option maxHeartbeats 4000000 in
set_option maxRecDepth 100000 in
theorem c_X6_yaws (l : Launch) (G : GG) (hG : Ag G) (sz : Nat) (M : Mem) (x1 : Int32) (post : Int32 → Mem → Prop) (h : q_X6_yaws M x1 post) : Met l yX6_yaws (Cond.code yX6_yaws cX6_yaws 3 (some .int) :: wsL_law) (rmk 3) (va_Pc [.ref (ga G 57), .int x1] (Pw G sz M)) (va_Qi post (Qw G) (Af G sz)) 0 0 (Af G sz) := by
  refine Met.ofW (cc := cX6_yaws) (maxL := 3) (ret := (some .int)) (by decide) rfl ?_
  intro p e s m args below meth c s₁ B hml hv
  obtain ⟨rfl, hsz, hE, hP⟩ := hv
  subst hsz
  have C := Cx.of (own := RX6) hG hE rfl hml B
  have w : Wd G s M s.heap [] := ⟨hP, va_S.rf⟩
  have hl := lv_entry [.ref (ga G 57), .int x1] (n := 3) (Nat.le_of_ble_eq_true rfl)
  rw [lg_entry_eq]
  generalize (lg_sl [.ref (ga G 57), .int x1] ++ List.replicate (3 - (lg_sl [.ref (ga G 57), .int x1]).length) Slot.unset).toArray = ls at hl ⊢
  have hl : lv_has ls 3 [(0, .ref (ga G 57)), (1, .int x1)] := hl
  have hx := C.1.1
  have hb := C.1.2.1
  show W p l e (rmk 3) s m _ below meth c s.heap [] 0 0 _ _
  unfold q_X6_yaws at h
  refine lv_iload_n hx hb dX6_yaws_0 rfl (lv_at hl 1 rfl) ?_
  refine lv_i2l hx hb dX6_yaws_1 rfl ?_
  refine lv_lconst (v := 1) hx hb dX6_yaws_2 (by decide) ?_
  refine lv_ldc2 hx hb C.1.2.2.2.1 (C.ws kw_23_17) dX6_yaws_3 ?_
  refine end_i w (run_S (As := [.long x1.toInt64, .long (1 : Int64), .long (400 : Int64)]) C w hl.1 (c_X6_isIn l G C.2.2.1 _ _ x1.toInt64 (1 : Int64) (400 : Int64)  _ h) kw_12_5 kw_1_5 kw_12_3 kw_12_4 hd_X6_isIn ⟨by decide, by decide⟩ rfl (Nat.le_of_ble_eq_true rfl) dX6_yaws_6) (fun r4 M5 H locs h w => ?_)
  refine lv_if_ne (tgt := 15) hx hb dX6_yaws_9 (by decide) (fun c6 => ?_) (fun c6 => ?_)
  · replace h := h.2 c6
    refine lv_iconst (v := 0) hx hb dX6_yaws_15 (by decide) ?_
    refine lv_istore_n (lv' := [(2, .int (0 : Int32)), (0, .ref (ga G 57)), (1, .int x1)]) hx hb dX6_yaws_16 rfl hl (by decide) rfl (fun ls hl => ?_)
    obtain ⟨n, h⟩ := h
    exact t_X6_yaws_17 C n M5 x1 (0 : Int32)  w (lv_sub hl [1, 2, 0] rfl) h
  replace h := h.1 c6
  refine lv_ldc hx hb C.1.2.2.2.1 (C.ws kw_25_15) dX6_yaws_12 ?_
  exact ret_i C w h dX6_yaws_14
def j_X5_swings_58 (post : Int32 → Mem → Prop) (M : Mem) (y0 : Int32) : Prop := post y0 M
def j_X5_swings_20 (post : Int32 → Mem → Prop) (M : Mem) : Prop := post (-1000000001 : Int32) M
def q_X5_swings (M : Mem) (x1 : Int32) (x2 : Int32) (post : Int32 → Mem → Prop) : Prop := q_X5_isWithin M x1 (0 : Int32) (400 : Int32) (fun r1 M2 => (r1 = 0 → (j_X5_swings_20 post M2)) ∧ (¬ (r1 = 0) → (q_X5_isWithin M2 x2 (0 : Int32) (1 : Int32) (fun r4 M5 => (r4 = 0 → (j_X5_swings_20 post M5)) ∧ (¬ (r4 = 0) → (q_X4_become M5 3 1 (fun M8 => q_X4_greatestYaw M8 3 x1 (fun r9 M10 => (x2 = 0 → (j_X5_swings_58 post M10 (M10 3 3))) ∧ (¬ (x2 = 0) → (j_X5_swings_58 post M10 r9))))))))))
set_option maxHeartbeats 4000000 in
set_option maxRecDepth 100000 in
theorem t_X5_swings_58 (C : Cx G p s m args meth c RX5 cX5_swings 4 (some .int)) {post : Int32 → Mem → Prop} (M : Mem) (y0 : Int32) {H : Heap} {locs : List Loc} {ls : Array Slot} (w : Wd G s M H locs) (hl : lv_has ls 4 []) (h : j_X5_swings_58 post M y0) : W p l e (rmk 4) s m args below meth c H locs 0 0 (MQ below (va_Qi post (Qw G) (Af G s.heap.size)) args s 0 0 (Af G s.heap.size)) (F0 m 58 ls [.int y0]) := by
  have hx := C.1.1
  have hb := C.1.2.1
  unfold j_X5_swings_58 at h
  exact ret_i C w h dX5_swings_58
set_option maxHeartbeats 4000000 in
set_option maxRecDepth 100000 in
theorem t_X5_swings_20 (C : Cx G p s m args meth c RX5 cX5_swings 4 (some .int)) {post : Int32 → Mem → Prop} (M : Mem) {H : Heap} {locs : List Loc} {ls : Array Slot} (w : Wd G s M H locs) (hl : lv_has ls 4 []) (h : j_X5_swings_20 post M) : W p l e (rmk 4) s m args below meth c H locs 0 0 (MQ below (va_Qi post (Qw G) (Af G s.heap.size)) args s 0 0 (Af G s.heap.size)) (F0 m 20 ls []) := by
  have hx := C.1.1
  have hb := C.1.2.1
  unfold j_X5_swings_20 at h
  refine lv_ldc hx hb C.1.2.2.2.1 (C.ws kw_25_9) dX5_swings_20 ?_
  exact ret_i C w h dX5_swings_22
set_option maxHeartbeats 4000000 in
set_option maxRecDepth 100000 in
theorem c_X5_swings (l : Launch) (G : GG) (hG : Ag G) (sz : Nat) (M : Mem) (x1 : Int32) (x2 : Int32) (post : Int32 → Mem → Prop) (h : q_X5_swings M x1 x2 post) : Met l yX5_swings (Cond.code yX5_swings cX5_swings 4 (some .int) :: wsL_law) (rmk 4) (va_Pc [.ref (ga G 0), .int x1, .int x2] (Pw G sz M)) (va_Qi post (Qw G) (Af G sz)) 0 0 (Af G sz) := by
  refine Met.ofW (cc := cX5_swings) (maxL := 4) (ret := (some .int)) (by decide) rfl ?_
  intro p e s m args below meth c s₁ B hml hv
  obtain ⟨rfl, hsz, hE, hP⟩ := hv
  subst hsz
  have C := Cx.of (own := RX5) hG hE rfl hml B
  have w : Wd G s M s.heap [] := ⟨hP, va_S.rf⟩
  have hl := lv_entry [.ref (ga G 0), .int x1, .int x2] (n := 4) (Nat.le_of_ble_eq_true rfl)
  rw [lg_entry_eq]
  generalize (lg_sl [.ref (ga G 0), .int x1, .int x2] ++ List.replicate (4 - (lg_sl [.ref (ga G 0), .int x1, .int x2]).length) Slot.unset).toArray = ls at hl ⊢
  have hl : lv_has ls 4 [(0, .ref (ga G 0)), (1, .int x1), (2, .int x2)] := hl
  have hx := C.1.1
  have hb := C.1.2.1
  show W p l e (rmk 4) s m _ below meth c s.heap [] 0 0 _ _
  unfold q_X5_swings at h
  refine lv_iload_n hx hb dX5_swings_0 rfl (lv_at hl 1 rfl) ?_
  refine lv_iconst (v := 0) hx hb dX5_swings_1 (by decide) ?_
  refine lv_sipush (v := 400) hx hb dX5_swings_2 (by decide) ?_
  refine end_i w (run_S (As := [.int x1, .int (0 : Int32), .int (400 : Int32)]) C w hl.1 (c_X5_isWithin l G C.2.2.1 _ _ x1 (0 : Int32) (400 : Int32)  _ h) kw_6_8 kw_1_2 kw_6_6 kw_6_7 hd_X5_isWithin ⟨by decide, by decide⟩ rfl (Nat.le_of_ble_eq_true rfl) dX5_swings_5) (fun r1 M2 H locs h w => ?_)
  refine lv_if_eq (tgt := 20) hx hb dX5_swings_8 (by decide) (fun c3 => ?_) (fun c3 => ?_)
  · replace h := h.1 c3
    exact t_X5_swings_20 C M2   w (lv_sub hl [] rfl) h
  replace h := h.2 c3
  refine lv_iload_n hx hb dX5_swings_11 rfl (lv_at hl 2 rfl) ?_
  refine lv_iconst (v := 0) hx hb dX5_swings_12 (by decide) ?_
  refine lv_iconst (v := 1) hx hb dX5_swings_13 (by decide) ?_
  refine end_i w (run_S (As := [.int x2, .int (0 : Int32), .int (1 : Int32)]) C w hl.1 (c_X5_isWithin l G C.2.2.1 _ _ x2 (0 : Int32) (1 : Int32)  _ h) kw_6_8 kw_1_2 kw_6_6 kw_6_7 hd_X5_isWithin ⟨by decide, by decide⟩ rfl (Nat.le_of_ble_eq_true rfl) dX5_swings_14) (fun r4 M5 H locs h w => ?_)
  refine lv_if_ne (tgt := 23) hx hb dX5_swings_17 (by decide) (fun c6 => ?_) (fun c6 => ?_)
  · replace h := h.2 c6
    refine lv_aload_n hx hb dX5_swings_23 rfl (lv_at hl 0 rfl) ?_
    refine gt_5_2 C w kw_1_18 dX5_swings_24 ?_
    refine lv_aload_n hx hb dX5_swings_27 rfl (lv_at hl 0 rfl) ?_
    refine gt_5_0 C w kw_1_16 dX5_swings_28 ?_
    refine end_v w (run_VN (As := [.ref (ga G 1)]) C w hl.1 (c_X4_become l G C.2.2.1 _ _ 3 1 ⟨by decide, by decide⟩ ⟨by decide, by decide⟩ _ h) kw_6_11 kw_1_15 kn_44 kw_6_9 kw_6_10 hd_X4_become ⟨by decide, by decide⟩ (w.recv C (i := 3) (by decide) (pE_4 ⟨by decide, by decide⟩) rfl) rfl (Nat.le_of_ble_eq_true rfl) dX5_swings_31) (fun M8 H locs h w => ?_)
    refine lv_aload_n hx hb dX5_swings_34 rfl (lv_at hl 0 rfl) ?_
    refine gt_5_2 C w kw_1_18 dX5_swings_35 ?_
    refine lv_iload_n hx hb dX5_swings_38 rfl (lv_at hl 1 rfl) ?_
    refine end_i w (run_VN (As := [.int x1]) C w hl.1 (c_X4_greatestYaw l G C.2.2.1 _ _ 3 x1 ⟨by decide, by decide⟩ _ h) kw_28_16 kw_1_15 kn_71 kw_28_14 kw_28_15 hd_X4_greatestYaw ⟨by decide, by decide⟩ (w.recv C (i := 3) (by decide) (pE_4 ⟨by decide, by decide⟩) rfl) rfl (Nat.le_of_ble_eq_true rfl) dX5_swings_39) (fun r9 M10 H locs h w => ?_)
    refine lv_istore_n (lv' := [(3, .int r9), (0, .ref (ga G 0)), (1, .int x1), (2, .int x2)]) hx hb dX5_swings_42 rfl hl (by decide) rfl (fun ls hl => ?_)
    refine lv_iload_n hx hb dX5_swings_43 rfl (lv_at hl 3 rfl) ?_
    refine lv_if_ne (tgt := 57) hx hb dX5_swings_44 (by decide) (fun c11 => ?_) (fun c11 => ?_)
    · replace h := h.2 c11
      refine lv_iload_n hx hb dX5_swings_57 rfl (lv_at hl 0 rfl) ?_
      exact t_X5_swings_58 C M10 r9  w (lv_sub hl [] rfl) h
    replace h := h.1 c11
    refine lv_aload_n hx hb dX5_swings_47 rfl (lv_at hl 1 rfl) ?_
    refine gt_5_2 C w kw_1_18 dX5_swings_48 ?_
    refine gn_4_3 C w ⟨by decide, by decide⟩ kn_18 dX5_swings_51 ?_
    refine lv_goto (tgt := 58) hx hb dX5_swings_54 (by decide) ?_
    exact t_X5_swings_58 C M10 (M10 3 3)  w (lv_sub hl [] rfl) h
  replace h := h.1 c6
  exact t_X5_swings_20 C M5   w (lv_sub hl [] rfl) h
def j_X6_swings_98 (post : Int32 → Mem → Prop) (M : Mem) (y0 : Int32) : Prop := q_X6_copies M 61 58 (fun M2 => post y0 M2)
def j_X6_swings_77 (k41 : Mem → Int32 → Int32 → Int32 → Int32 → Prop) (post : Int32 → Mem → Prop) (M : Mem) (y0 : Int32) (x1 : Int32) (x2 : Int32) (x4 : Int32) : Prop := k41 M x1 x2 y0 (x4 + (1 : Int32))
def b_X6_swings_41 (k41 : Mem → Int32 → Int32 → Int32 → Int32 → Prop) (post : Int32 → Mem → Prop) (M : Mem) (x1 : Int32) (x2 : Int32) (x3 : Int32) (x4 : Int32) : Prop := (x1 ≤ x4 → ((x2 = 0 → (j_X6_swings_98 post M (M 58 3))) ∧ (¬ (x2 = 0) → (j_X6_swings_98 post M x3)))) ∧ (¬ (x1 ≤ x4) → (q_X6_goesYaw M  (fun M6 => q_X6_amount M6 (M6 58 3) (fun r7 M8 => (r7 ≤ x3 → (j_X6_swings_77 k41 post M8 x3 x1 x2 x4)) ∧ (¬ (r7 ≤ x3) → (q_X6_amount M8 (M8 58 3) (fun r10 M11 => j_X6_swings_77 k41 post M11 r10 x1 x2 x4)))))))
def lp_X6_swings_41 (post : Int32 → Mem → Prop) : Nat → Mem → Int32 → Int32 → Int32 → Int32 → Prop
  | 0 => fun _ _ _ _ _ => False
  | n + 1 => fun M x1 x2 x3 x4 => b_X6_swings_41 (lp_X6_swings_41 post n) post M x1 x2 x3 x4
def j_X6_swings_22 (post : Int32 → Mem → Prop) (M : Mem) : Prop := post (-1000000001 : Int32) M
def q_X6_swings (M : Mem) (x1 : Int32) (x2 : Int32) (post : Int32 → Mem → Prop) : Prop := q_X6_isIn M x1.toInt64 (0 : Int64) (400 : Int64) (fun r12 M13 => (r12 = 0 → (j_X6_swings_22 post M13)) ∧ (¬ (r12 = 0) → (q_X6_isIn M13 x2.toInt64 (0 : Int64) (1 : Int64) (fun r15 M16 => (r15 = 0 → (j_X6_swings_22 post M16)) ∧ (¬ (r15 = 0) → (q_X6_copies M16 58 61 (fun M19 => ∃ n, lp_X6_swings_41 post n M19 x1 x2 (0 : Int32) (0 : Int32))))))))
set_option maxHeartbeats 4000000 in
set_option maxRecDepth 100000 in
theorem t_X6_swings_98 (C : Cx G p s m args meth c RX6 cX6_swings 5 (some .int)) {post : Int32 → Mem → Prop} (M : Mem) (y0 : Int32) {H : Heap} {locs : List Loc} {ls : Array Slot} (w : Wd G s M H locs) (hl : lv_has ls 5 [(0, .ref (ga G 57))]) (h : j_X6_swings_98 post M y0) : W p l e (rmk 3) s m args below meth c H locs 0 0 (MQ below (va_Qi post (Qw G) (Af G s.heap.size)) args s 0 0 (Af G s.heap.size)) (F0 m 98 ls [.int y0]) := by
  have hx := C.1.1
  have hb := C.1.2.1
  unfold j_X6_swings_98 at h
  refine lv_istore (lv' := [(4, .int y0), (0, .ref (ga G 57))]) hx hb dX6_swings_98 hl (by decide) rfl (fun ls hl => ?_)
  refine lv_aload_n hx hb dX6_swings_100 rfl (lv_at hl 1 rfl) ?_
  refine gt_6_3 C w kw_5_3 dX6_swings_101 ?_
  refine lv_aload_n hx hb dX6_swings_104 rfl (lv_at hl 1 rfl) ?_
  refine gt_6_0 C w kw_5_0 dX6_swings_105 ?_
  refine end_v w (run_S (As := [.ref (ga G 61), .ref (ga G 58)]) C w hl.1 (c_X6_copies l G C.2.2.1 _ _ 61 58 ⟨by decide, by decide⟩ ⟨by decide, by decide⟩ _ h) kw_13_8 kw_1_5 kw_13_6 kw_13_7 hd_X6_copies ⟨by decide, by decide⟩ rfl (Nat.le_of_ble_eq_true rfl) dX6_swings_108) (fun M2 H locs h w => ?_)
  refine lv_iload hx hb dX6_swings_111 (lv_at hl 0 rfl) ?_
  exact ret_i C w h dX6_swings_113
set_option maxHeartbeats 4000000 in
set_option maxRecDepth 100000 in
theorem t_X6_swings_77 (C : Cx G p s m args meth c RX6 cX6_swings 5 (some .int)) {post : Int32 → Mem → Prop} {k41 : Mem → Int32 → Int32 → Int32 → Int32 → Prop} (hk41 : ∀ (M : Mem) (x1 : Int32) (x2 : Int32) (x3 : Int32) (x4 : Int32) (H : Heap) (locs : List Loc) (ls : Array Slot), Wd G s M H locs → lv_has ls 5 [(0, .ref (ga G 57)), (1, .int x1), (2, .int x2), (3, .int x3), (4, .int x4)] → k41 M x1 x2 x3 x4 → W p l e (rmk 3) s m args below meth c H locs 0 0 (MQ below (va_Qi post (Qw G) (Af G s.heap.size)) args s 0 0 (Af G s.heap.size)) (F0 m 41 ls [])) (M : Mem) (y0 : Int32) (x1 : Int32) (x2 : Int32) (x4 : Int32) {H : Heap} {locs : List Loc} {ls : Array Slot} (w : Wd G s M H locs) (hl : lv_has ls 5 [(0, .ref (ga G 57)), (1, .int x1), (2, .int x2), (4, .int x4)]) (h : j_X6_swings_77 k41 post M y0 x1 x2 x4) : W p l e (rmk 3) s m args below meth c H locs 0 0 (MQ below (va_Qi post (Qw G) (Af G s.heap.size)) args s 0 0 (Af G s.heap.size)) (F0 m 77 ls [.int y0]) := by
  have hx := C.1.1
  have hb := C.1.2.1
  unfold j_X6_swings_77 at h
  refine lv_istore_n (lv' := [(3, .int y0), (0, .ref (ga G 57)), (1, .int x1), (2, .int x2), (4, .int x4)]) hx hb dX6_swings_77 rfl hl (by decide) rfl (fun ls hl => ?_)
  refine lv_iinc (v := (x4 + (1 : Int32))) (lv' := [(4, .int (x4 + (1 : Int32))), (3, .int y0), (0, .ref (ga G 57)), (1, .int x1), (2, .int x2)]) hx hb dX6_swings_78 hl (k := 4) rfl rfl (by decide) rfl (fun ls hl => ?_)
  refine lv_goto (tgt := 41) hx hb dX6_swings_81 (by decide) ?_
  exact hk41 M x1 x2 y0 (x4 + (1 : Int32)) _ _ _  w (lv_sub hl [2, 3, 4, 1, 0] rfl) h
set_option maxHeartbeats 4000000 in
set_option maxRecDepth 100000 in
theorem t_X6_swings_41 (C : Cx G p s m args meth c RX6 cX6_swings 5 (some .int)) {post : Int32 → Mem → Prop} : ∀ (n : Nat) (M : Mem) (x1 : Int32) (x2 : Int32) (x3 : Int32) (x4 : Int32) {H : Heap} {locs : List Loc} {ls : Array Slot} (w : Wd G s M H locs) (hl : lv_has ls 5 [(0, .ref (ga G 57)), (1, .int x1), (2, .int x2), (3, .int x3), (4, .int x4)]) (h : lp_X6_swings_41 post n M x1 x2 x3 x4), W p l e (rmk 3) s m args below meth c H locs 0 0 (MQ below (va_Qi post (Qw G) (Af G s.heap.size)) args s 0 0 (Af G s.heap.size)) (F0 m 41 ls []) := by
  have hx := C.1.1
  have hb := C.1.2.1
  intro n9
  induction n9 with
  | zero => intro M x1 x2 x3 x4 H locs ls w hl h; exact absurd h id
  | succ n9 ih9 =>
    intro M x1 x2 x3 x4 H locs ls w hl h
    have hk41 : ∀ (M : Mem) (x1 : Int32) (x2 : Int32) (x3 : Int32) (x4 : Int32) (H : Heap) (locs : List Loc) (ls : Array Slot), Wd G s M H locs → lv_has ls 5 [(0, .ref (ga G 57)), (1, .int x1), (2, .int x2), (3, .int x3), (4, .int x4)] → lp_X6_swings_41 post n9 M x1 x2 x3 x4 → W p l e (rmk 3) s m args below meth c H locs 0 0 (MQ below (va_Qi post (Qw G) (Af G s.heap.size)) args s 0 0 (Af G s.heap.size)) (F0 m 41 ls []) := fun M x1 x2 x3 x4 H locs ls w hl h => ih9 M x1 x2 x3 x4 w hl h
    replace h : b_X6_swings_41 (lp_X6_swings_41 post n9) post M x1 x2 x3 x4 := h
    unfold b_X6_swings_41 at h
    refine lv_iload hx hb dX6_swings_41 (lv_at hl 4 rfl) ?_
    refine lv_iload_n hx hb dX6_swings_43 rfl (lv_at hl 1 rfl) ?_
    refine lv_icmp_ge (tgt := 84) hx hb dX6_swings_44 (by decide) (fun c3 => ?_) (fun c3 => ?_)
    · replace h := h.1 c3
      refine lv_iload_n hx hb dX6_swings_84 rfl (lv_at hl 2 rfl) ?_
      refine lv_if_ne (tgt := 97) hx hb dX6_swings_85 (by decide) (fun c4 => ?_) (fun c4 => ?_)
      · replace h := h.2 c4
        refine lv_iload_n hx hb dX6_swings_97 rfl (lv_at hl 3 rfl) ?_
        exact t_X6_swings_98 C M x3  w (lv_sub hl [0] rfl) h
      replace h := h.1 c4
      refine lv_aload_n hx hb dX6_swings_88 rfl (lv_at hl 0 rfl) ?_
      refine gt_6_0 C w kw_5_0 dX6_swings_89 ?_
      refine lv_iconst (v := 3) hx hb dX6_swings_92 (by decide) ?_
      refine pw_ld C w (i := 58) (by decide) pE_58 (vl (x := (3 : Int32)) (by decide)) (k := 3) (by decide) dX6_swings_93 ?_
      refine lv_goto (tgt := 98) hx hb dX6_swings_94 (by decide) ?_
      exact t_X6_swings_98 C M (M 58 3)  w (lv_sub hl [0] rfl) h
    replace h := h.2 c3
    refine lv_aload_n hx hb dX6_swings_47 rfl (lv_at hl 0 rfl) ?_
    refine end_v w (run_V (As := []) C w hl.1 (c_X6_goesYaw l G C.2.2.1 _ _   _ h) kw_29_6 kw_1_5 kw_29_3 kw_29_4 kw_29_5 hd_X6_goesYaw ⟨by decide, by decide⟩ (w.recv C (i := 57) (by decide) (pE_6) rfl) rfl (Nat.le_of_ble_eq_true rfl) dX6_swings_48) (fun M6 H locs h w => ?_)
    refine lv_aload_n hx hb dX6_swings_51 rfl (lv_at hl 0 rfl) ?_
    refine gt_6_0 C w kw_5_0 dX6_swings_52 ?_
    refine lv_iconst (v := 3) hx hb dX6_swings_55 (by decide) ?_
    refine pw_ld C w (i := 58) (by decide) pE_58 (vl (x := (3 : Int32)) (by decide)) (k := 3) (by decide) dX6_swings_56 ?_
    refine end_i w (run_S (As := [.int (M6 58 3)]) C w hl.1 (c_X6_amount l G C.2.2.1 _ _ (M6 58 3)  _ h) kw_19_13 kw_1_5 kw_19_11 kw_19_12 hd_X6_amount ⟨by decide, by decide⟩ rfl (Nat.le_of_ble_eq_true rfl) dX6_swings_57) (fun r7 M8 H locs h w => ?_)
    refine lv_iload_n hx hb dX6_swings_60 rfl (lv_at hl 3 rfl) ?_
    refine lv_icmp_le (tgt := 76) hx hb dX6_swings_61 (by decide) (fun c9 => ?_) (fun c9 => ?_)
    · replace h := h.1 c9
      refine lv_iload_n hx hb dX6_swings_76 rfl (lv_at hl 3 rfl) ?_
      exact t_X6_swings_77 C hk41 M8 x3 x1 x2 x4  w (lv_sub hl [0, 1, 2, 4] rfl) h
    replace h := h.2 c9
    refine lv_aload_n hx hb dX6_swings_64 rfl (lv_at hl 0 rfl) ?_
    refine gt_6_0 C w kw_5_0 dX6_swings_65 ?_
    refine lv_iconst (v := 3) hx hb dX6_swings_68 (by decide) ?_
    refine pw_ld C w (i := 58) (by decide) pE_58 (vl (x := (3 : Int32)) (by decide)) (k := 3) (by decide) dX6_swings_69 ?_
    refine end_i w (run_S (As := [.int (M8 58 3)]) C w hl.1 (c_X6_amount l G C.2.2.1 _ _ (M8 58 3)  _ h) kw_19_13 kw_1_5 kw_19_11 kw_19_12 hd_X6_amount ⟨by decide, by decide⟩ rfl (Nat.le_of_ble_eq_true rfl) dX6_swings_70) (fun r10 M11 H locs h w => ?_)
    refine lv_goto (tgt := 77) hx hb dX6_swings_73 (by decide) ?_
    exact t_X6_swings_77 C hk41 M11 r10 x1 x2 x4  w (lv_sub hl [0, 1, 2, 4] rfl) h
set_option maxHeartbeats 4000000 in
set_option maxRecDepth 100000 in
theorem t_X6_swings_22 (C : Cx G p s m args meth c RX6 cX6_swings 5 (some .int)) {post : Int32 → Mem → Prop} (M : Mem) {H : Heap} {locs : List Loc} {ls : Array Slot} (w : Wd G s M H locs) (hl : lv_has ls 5 []) (h : j_X6_swings_22 post M) : W p l e (rmk 3) s m args below meth c H locs 0 0 (MQ below (va_Qi post (Qw G) (Af G s.heap.size)) args s 0 0 (Af G s.heap.size)) (F0 m 22 ls []) := by
  have hx := C.1.1
  have hb := C.1.2.1
  unfold j_X6_swings_22 at h
  refine lv_ldc hx hb C.1.2.2.2.1 (C.ws kw_25_15) dX6_swings_22 ?_
  exact ret_i C w h dX6_swings_24
set_option maxHeartbeats 4000000 in
set_option maxRecDepth 100000 in
theorem c_X6_swings (l : Launch) (G : GG) (hG : Ag G) (sz : Nat) (M : Mem) (x1 : Int32) (x2 : Int32) (post : Int32 → Mem → Prop) (h : q_X6_swings M x1 x2 post) : Met l yX6_swings (Cond.code yX6_swings cX6_swings 5 (some .int) :: wsL_law) (rmk 3) (va_Pc [.ref (ga G 57), .int x1, .int x2] (Pw G sz M)) (va_Qi post (Qw G) (Af G sz)) 0 0 (Af G sz) := by
  refine Met.ofW (cc := cX6_swings) (maxL := 5) (ret := (some .int)) (by decide) rfl ?_
  intro p e s m args below meth c s₁ B hml hv
  obtain ⟨rfl, hsz, hE, hP⟩ := hv
  subst hsz
  have C := Cx.of (own := RX6) hG hE rfl hml B
  have w : Wd G s M s.heap [] := ⟨hP, va_S.rf⟩
  have hl := lv_entry [.ref (ga G 57), .int x1, .int x2] (n := 5) (Nat.le_of_ble_eq_true rfl)
  rw [lg_entry_eq]
  generalize (lg_sl [.ref (ga G 57), .int x1, .int x2] ++ List.replicate (5 - (lg_sl [.ref (ga G 57), .int x1, .int x2]).length) Slot.unset).toArray = ls at hl ⊢
  have hl : lv_has ls 5 [(0, .ref (ga G 57)), (1, .int x1), (2, .int x2)] := hl
  have hx := C.1.1
  have hb := C.1.2.1
  show W p l e (rmk 3) s m _ below meth c s.heap [] 0 0 _ _
  unfold q_X6_swings at h
  refine lv_iload_n hx hb dX6_swings_0 rfl (lv_at hl 1 rfl) ?_
  refine lv_i2l hx hb dX6_swings_1 rfl ?_
  refine lv_lconst (v := 0) hx hb dX6_swings_2 (by decide) ?_
  refine lv_ldc2 hx hb C.1.2.2.2.1 (C.ws kw_23_17) dX6_swings_3 ?_
  refine end_i w (run_S (As := [.long x1.toInt64, .long (0 : Int64), .long (400 : Int64)]) C w hl.1 (c_X6_isIn l G C.2.2.1 _ _ x1.toInt64 (0 : Int64) (400 : Int64)  _ h) kw_12_5 kw_1_5 kw_12_3 kw_12_4 hd_X6_isIn ⟨by decide, by decide⟩ rfl (Nat.le_of_ble_eq_true rfl) dX6_swings_6) (fun r12 M13 H locs h w => ?_)
  refine lv_if_eq (tgt := 22) hx hb dX6_swings_9 (by decide) (fun c14 => ?_) (fun c14 => ?_)
  · replace h := h.1 c14
    exact t_X6_swings_22 C M13   w (lv_sub hl [] rfl) h
  replace h := h.2 c14
  refine lv_iload_n hx hb dX6_swings_12 rfl (lv_at hl 2 rfl) ?_
  refine lv_i2l hx hb dX6_swings_13 rfl ?_
  refine lv_lconst (v := 0) hx hb dX6_swings_14 (by decide) ?_
  refine lv_lconst (v := 1) hx hb dX6_swings_15 (by decide) ?_
  refine end_i w (run_S (As := [.long x2.toInt64, .long (0 : Int64), .long (1 : Int64)]) C w hl.1 (c_X6_isIn l G C.2.2.1 _ _ x2.toInt64 (0 : Int64) (1 : Int64)  _ h) kw_12_5 kw_1_5 kw_12_3 kw_12_4 hd_X6_isIn ⟨by decide, by decide⟩ rfl (Nat.le_of_ble_eq_true rfl) dX6_swings_16) (fun r15 M16 H locs h w => ?_)
  refine lv_if_ne (tgt := 25) hx hb dX6_swings_19 (by decide) (fun c17 => ?_) (fun c17 => ?_)
  · replace h := h.2 c17
    refine lv_aload_n hx hb dX6_swings_25 rfl (lv_at hl 0 rfl) ?_
    refine gt_6_0 C w kw_5_0 dX6_swings_26 ?_
    refine lv_aload_n hx hb dX6_swings_29 rfl (lv_at hl 0 rfl) ?_
    refine gt_6_3 C w kw_5_3 dX6_swings_30 ?_
    refine end_v w (run_S (As := [.ref (ga G 58), .ref (ga G 61)]) C w hl.1 (c_X6_copies l G C.2.2.1 _ _ 58 61 ⟨by decide, by decide⟩ ⟨by decide, by decide⟩ _ h) kw_13_8 kw_1_5 kw_13_6 kw_13_7 hd_X6_copies ⟨by decide, by decide⟩ rfl (Nat.le_of_ble_eq_true rfl) dX6_swings_33) (fun M19 H locs h w => ?_)
    refine lv_iconst (v := 0) hx hb dX6_swings_36 (by decide) ?_
    refine lv_istore_n (lv' := [(3, .int (0 : Int32)), (0, .ref (ga G 57)), (1, .int x1), (2, .int x2)]) hx hb dX6_swings_37 rfl hl (by decide) rfl (fun ls hl => ?_)
    refine lv_iconst (v := 0) hx hb dX6_swings_38 (by decide) ?_
    refine lv_istore (lv' := [(4, .int (0 : Int32)), (3, .int (0 : Int32)), (0, .ref (ga G 57)), (1, .int x1), (2, .int x2)]) hx hb dX6_swings_39 hl (by decide) rfl (fun ls hl => ?_)
    obtain ⟨n, h⟩ := h
    exact t_X6_swings_41 C n M19 x1 x2 (0 : Int32) (0 : Int32)  w (lv_sub hl [2, 3, 4, 1, 0] rfl) h
  replace h := h.1 c17
  exact t_X6_swings_22 C M16   w (lv_sub hl [] rfl) h
def j_X5_growsWith_52 (post : Int32 → Mem → Prop) (M : Mem) (y0 : Int32) : Prop := (y0 = 0 ∨ y0 = 1) ∧ post y0 M
def q_X5_growsWith (M : Mem) (x1 : Int32) (post : Int32 → Mem → Prop) : Prop := q_X4_become M 3 1 (fun M2 => ∀ M3 : Mem, M3 = (mup M2 13 6 x1) → (q_X4_greatestYaw M3 3 (100 : Int32) (fun r4 M5 => q_X4_greatestYaw M5 3 (100 : Int32) (fun r6 M7 => (r6 ≤ r4 → (j_X5_growsWith_52 post M7 (0 : Int32))) ∧ (¬ (r6 ≤ r4) → (j_X5_growsWith_52 post M7 (1 : Int32)))))))
set_option maxHeartbeats 4000000 in
set_option maxRecDepth 100000 in
theorem t_X5_growsWith_52 (C : Cx G p s m args meth c RX5 cX5_growsWith 4 (some .boolean)) {post : Int32 → Mem → Prop} (M : Mem) (y0 : Int32) {H : Heap} {locs : List Loc} {ls : Array Slot} (w : Wd G s M H locs) (hl : lv_has ls 4 []) (h : j_X5_growsWith_52 post M y0) : W p l e (rmk 4) s m args below meth c H locs 0 0 (MQ below (va_Qi post (Qw G) (Af G s.heap.size)) args s 0 0 (Af G s.heap.size)) (F0 m 52 ls [.int y0]) := by
  have hx := C.1.1
  have hb := C.1.2.1
  unfold j_X5_growsWith_52 at h
  exact ret_z C w h dX5_growsWith_52
set_option maxHeartbeats 4000000 in
set_option maxRecDepth 100000 in
theorem c_X5_growsWith (l : Launch) (G : GG) (hG : Ag G) (sz : Nat) (M : Mem) (x1 : Int32) (post : Int32 → Mem → Prop) (h : q_X5_growsWith M x1 post) : Met l yX5_growsWith (Cond.code yX5_growsWith cX5_growsWith 4 (some .boolean) :: wsL_law) (rmk 4) (va_Pc [.ref (ga G 0), .int x1] (Pw G sz M)) (va_Qi post (Qw G) (Af G sz)) 0 0 (Af G sz) := by
  refine Met.ofW (cc := cX5_growsWith) (maxL := 4) (ret := (some .boolean)) (by decide) rfl ?_
  intro p e s m args below meth c s₁ B hml hv
  obtain ⟨rfl, hsz, hE, hP⟩ := hv
  subst hsz
  have C := Cx.of (own := RX5) hG hE rfl hml B
  have w : Wd G s M s.heap [] := ⟨hP, va_S.rf⟩
  have hl := lv_entry [.ref (ga G 0), .int x1] (n := 4) (Nat.le_of_ble_eq_true rfl)
  rw [lg_entry_eq]
  generalize (lg_sl [.ref (ga G 0), .int x1] ++ List.replicate (4 - (lg_sl [.ref (ga G 0), .int x1]).length) Slot.unset).toArray = ls at hl ⊢
  have hl : lv_has ls 4 [(0, .ref (ga G 0)), (1, .int x1)] := hl
  have hx := C.1.1
  have hb := C.1.2.1
  show W p l e (rmk 4) s m _ below meth c s.heap [] 0 0 _ _
  unfold q_X5_growsWith at h
  refine lv_aload_n hx hb dX5_growsWith_0 rfl (lv_at hl 0 rfl) ?_
  refine gt_5_2 C w kw_1_18 dX5_growsWith_1 ?_
  refine lv_aload_n hx hb dX5_growsWith_4 rfl (lv_at hl 0 rfl) ?_
  refine gt_5_0 C w kw_1_16 dX5_growsWith_5 ?_
  refine end_v w (run_VN (As := [.ref (ga G 1)]) C w hl.1 (c_X4_become l G C.2.2.1 _ _ 3 1 ⟨by decide, by decide⟩ ⟨by decide, by decide⟩ _ h) kw_6_11 kw_1_15 kn_44 kw_6_9 kw_6_10 hd_X4_become ⟨by decide, by decide⟩ (w.recv C (i := 3) (by decide) (pE_4 ⟨by decide, by decide⟩) rfl) rfl (Nat.le_of_ble_eq_true rfl) dX5_growsWith_8) (fun M2 H locs h w => ?_)
  refine lv_aload_n hx hb dX5_growsWith_11 rfl (lv_at hl 0 rfl) ?_
  refine gt_5_2 C w kw_1_18 dX5_growsWith_12 ?_
  refine gn_4_2 C w ⟨by decide, by decide⟩ kn_16 dX5_growsWith_15 ?_
  refine lv_bipush (v := 6) hx hb dX5_growsWith_18 (by decide) ?_
  refine lv_iload_n hx hb dX5_growsWith_20 rfl (lv_at hl 1 rfl) ?_
  refine pw_st C w (i := 13) (by decide) (fun _ => (pE_st ⟨by decide, by decide⟩)) (vl (x := (6 : Int32)) (by decide)) (k := 6) (by decide) dX5_growsWith_21 (fun H locs w => ?_)
  obtain ⟨M3, eM3⟩ : ∃ z : Mem, z = (mup M2 13 6 x1) := ⟨_, rfl⟩
  replace w : Wd G s M3 H locs := by rw [eM3]; exact w
  replace h := h M3 eM3
  refine lv_aload_n hx hb dX5_growsWith_22 rfl (lv_at hl 0 rfl) ?_
  refine gt_5_2 C w kw_1_18 dX5_growsWith_23 ?_
  refine lv_bipush (v := 100) hx hb dX5_growsWith_26 (by decide) ?_
  refine end_i w (run_VN (As := [.int (100 : Int32)]) C w hl.1 (c_X4_greatestYaw l G C.2.2.1 _ _ 3 (100 : Int32) ⟨by decide, by decide⟩ _ h) kw_28_16 kw_1_15 kn_71 kw_28_14 kw_28_15 hd_X4_greatestYaw ⟨by decide, by decide⟩ (w.recv C (i := 3) (by decide) (pE_4 ⟨by decide, by decide⟩) rfl) rfl (Nat.le_of_ble_eq_true rfl) dX5_growsWith_28) (fun r4 M5 H locs h w => ?_)
  refine lv_istore_n (lv' := [(2, .int r4), (0, .ref (ga G 0)), (1, .int x1)]) hx hb dX5_growsWith_31 rfl hl (by decide) rfl (fun ls hl => ?_)
  refine lv_aload_n hx hb dX5_growsWith_32 rfl (lv_at hl 1 rfl) ?_
  refine gt_5_2 C w kw_1_18 dX5_growsWith_33 ?_
  refine lv_bipush (v := 100) hx hb dX5_growsWith_36 (by decide) ?_
  refine end_i w (run_VN (As := [.int (100 : Int32)]) C w hl.1 (c_X4_greatestYaw l G C.2.2.1 _ _ 3 (100 : Int32) ⟨by decide, by decide⟩ _ h) kw_28_16 kw_1_15 kn_71 kw_28_14 kw_28_15 hd_X4_greatestYaw ⟨by decide, by decide⟩ (w.recv C (i := 3) (by decide) (pE_4 ⟨by decide, by decide⟩) rfl) rfl (Nat.le_of_ble_eq_true rfl) dX5_growsWith_38) (fun r6 M7 H locs h w => ?_)
  refine lv_istore_n (lv' := [(3, .int r6), (2, .int r4), (0, .ref (ga G 0)), (1, .int x1)]) hx hb dX5_growsWith_41 rfl hl (by decide) rfl (fun ls hl => ?_)
  refine lv_iload_n hx hb dX5_growsWith_42 rfl (lv_at hl 0 rfl) ?_
  refine lv_iload_n hx hb dX5_growsWith_43 rfl (lv_at hl 1 rfl) ?_
  refine lv_icmp_le (tgt := 51) hx hb dX5_growsWith_44 (by decide) (fun c8 => ?_) (fun c8 => ?_)
  · replace h := h.1 c8
    refine lv_iconst (v := 0) hx hb dX5_growsWith_51 (by decide) ?_
    exact t_X5_growsWith_52 C M7 (0 : Int32)  w (lv_sub hl [] rfl) h
  replace h := h.2 c8
  refine lv_iconst (v := 1) hx hb dX5_growsWith_47 (by decide) ?_
  refine lv_goto (tgt := 52) hx hb dX5_growsWith_48 (by decide) ?_
  exact t_X5_growsWith_52 C M7 (1 : Int32)  w (lv_sub hl [] rfl) h
def j_X5_grows_22 (post : Int32 → Mem → Prop) (M : Mem) (y0 : Int32) : Prop := post y0 M
def q_X5_grows (M : Mem) (post : Int32 → Mem → Prop) : Prop := q_X5_growsWith M (M 11 6) (fun r1 M2 => (r1 = 0 → (j_X5_grows_22 post M2 (0 : Int32))) ∧ (¬ (r1 = 0) → (j_X5_grows_22 post M2 (1 : Int32))))
set_option maxHeartbeats 4000000 in
set_option maxRecDepth 100000 in
theorem t_X5_grows_22 (C : Cx G p s m args meth c RX5 cX5_grows 1 (some .int)) {post : Int32 → Mem → Prop} (M : Mem) (y0 : Int32) {H : Heap} {locs : List Loc} {ls : Array Slot} (w : Wd G s M H locs) (hl : lv_has ls 1 []) (h : j_X5_grows_22 post M y0) : W p l e (rmk 5) s m args below meth c H locs 0 0 (MQ below (va_Qi post (Qw G) (Af G s.heap.size)) args s 0 0 (Af G s.heap.size)) (F0 m 22 ls [.int y0]) := by
  have hx := C.1.1
  have hb := C.1.2.1
  unfold j_X5_grows_22 at h
  exact ret_i C w h dX5_grows_22
set_option maxHeartbeats 4000000 in
set_option maxRecDepth 100000 in
theorem c_X5_grows (l : Launch) (G : GG) (hG : Ag G) (sz : Nat) (M : Mem) (post : Int32 → Mem → Prop) (h : q_X5_grows M post) : Met l yX5_grows (Cond.code yX5_grows cX5_grows 1 (some .int) :: wsL_law) (rmk 5) (va_Pc [.ref (ga G 0)] (Pw G sz M)) (va_Qi post (Qw G) (Af G sz)) 0 0 (Af G sz) := by
  refine Met.ofW (cc := cX5_grows) (maxL := 1) (ret := (some .int)) (by decide) rfl ?_
  intro p e s m args below meth c s₁ B hml hv
  obtain ⟨rfl, hsz, hE, hP⟩ := hv
  subst hsz
  have C := Cx.of (own := RX5) hG hE rfl hml B
  have w : Wd G s M s.heap [] := ⟨hP, va_S.rf⟩
  have hl := lv_entry [.ref (ga G 0)] (n := 1) (Nat.le_of_ble_eq_true rfl)
  rw [lg_entry_eq]
  generalize (lg_sl [.ref (ga G 0)] ++ List.replicate (1 - (lg_sl [.ref (ga G 0)]).length) Slot.unset).toArray = ls at hl ⊢
  have hl : lv_has ls 1 [(0, .ref (ga G 0))] := hl
  have hx := C.1.1
  have hb := C.1.2.1
  show W p l e (rmk 5) s m _ below meth c s.heap [] 0 0 _ _
  unfold q_X5_grows at h
  refine lv_aload_n hx hb dX5_grows_0 rfl (lv_at hl 0 rfl) ?_
  refine lv_aload_n hx hb dX5_grows_1 rfl (lv_at hl 0 rfl) ?_
  refine gt_5_0 C w kw_1_16 dX5_grows_2 ?_
  refine gn_4_2 C w ⟨by decide, by decide⟩ kn_16 dX5_grows_5 ?_
  refine lv_bipush (v := 6) hx hb dX5_grows_8 (by decide) ?_
  refine pw_ld C w (i := 11) (by decide) (pE_st ⟨by decide, by decide⟩) (vl (x := (6 : Int32)) (by decide)) (k := 6) (by decide) dX5_grows_10 ?_
  refine end_i w (run_V (As := [.int (M 11 6)]) C w hl.1 (c_X5_growsWith l G C.2.2.1 _ _ (M 11 6)  _ h) kw_30_1 kw_1_2 kw_29_22 kw_29_23 kw_30_0 hd_X5_growsWith ⟨by decide, by decide⟩ (w.recv C (i := 0) (by decide) (pE_5) rfl) rfl (Nat.le_of_ble_eq_true rfl) dX5_grows_11) (fun r1 M2 H locs h w => ?_)
  refine lv_if_eq (tgt := 21) hx hb dX5_grows_14 (by decide) (fun c3 => ?_) (fun c3 => ?_)
  · replace h := h.1 c3
    refine lv_iconst (v := 0) hx hb dX5_grows_21 (by decide) ?_
    exact t_X5_grows_22 C M2 (0 : Int32)  w (lv_sub hl [] rfl) h
  replace h := h.2 c3
  refine lv_iconst (v := 1) hx hb dX5_grows_17 (by decide) ?_
  refine lv_goto (tgt := 22) hx hb dX5_grows_18 (by decide) ?_
  exact t_X5_grows_22 C M2 (1 : Int32)  w (lv_sub hl [] rfl) h
def j_X6_isGrowing_101 (post : Int32 → Mem → Prop) (M : Mem) (y0 : Int32) : Prop := (y0 = 0 ∨ y0 = 1) ∧ post y0 M
def j_X6_isGrowing_74 (k17 : Mem → Int32 → Int32 → Int32 → Prop) (post : Int32 → Mem → Prop) (M : Mem) (x1 : Int32) (x2 : Int32) (x3 : Int32) : Prop := k17 M x1 x2 (x3 + (1 : Int32))
def j_X6_isGrowing_73 (k17 : Mem → Int32 → Int32 → Int32 → Prop) (post : Int32 → Mem → Prop) (M : Mem) (y0 : Int32) (x1 : Int32) (x3 : Int32) : Prop := j_X6_isGrowing_74 k17 post M x1 y0 x3
def j_X6_isGrowing_57 (k17 : Mem → Int32 → Int32 → Int32 → Prop) (post : Int32 → Mem → Prop) (M : Mem) (y0 : Int32) (x2 : Int32) (x3 : Int32) : Prop := j_X6_isGrowing_74 k17 post M y0 x2 x3
def b_X6_isGrowing_17 (k17 : Mem → Int32 → Int32 → Int32 → Prop) (post : Int32 → Mem → Prop) (M : Mem) (x1 : Int32) (x2 : Int32) (x3 : Int32) : Prop := ((200 : Int32) < x3 → (q_X6_copies M 61 58 (fun M3 => (x2 ≤ x1 → (j_X6_isGrowing_101 post M3 (0 : Int32))) ∧ (¬ (x2 ≤ x1) → (j_X6_isGrowing_101 post M3 (1 : Int32)))))) ∧ (¬ ((200 : Int32) < x3) → (q_X6_goesYaw M  (fun M6 => q_X6_amount M6 (M6 58 3) (fun r7 M8 => ((100 : Int32) < x3 → ((r7 ≤ x2 → (j_X6_isGrowing_73 k17 post M8 x2 x1 x3)) ∧ (¬ (r7 ≤ x2) → (j_X6_isGrowing_73 k17 post M8 r7 x1 x3)))) ∧ (¬ ((100 : Int32) < x3) → ((r7 ≤ x1 → (j_X6_isGrowing_57 k17 post M8 x1 x2 x3)) ∧ (¬ (r7 ≤ x1) → (j_X6_isGrowing_57 k17 post M8 r7 x2 x3))))))))
def lp_X6_isGrowing_17 (post : Int32 → Mem → Prop) : Nat → Mem → Int32 → Int32 → Int32 → Prop
  | 0 => fun _ _ _ _ => False
  | n + 1 => fun M x1 x2 x3 => b_X6_isGrowing_17 (lp_X6_isGrowing_17 post n) post M x1 x2 x3
def q_X6_isGrowing (M : Mem) (post : Int32 → Mem → Prop) : Prop := q_X6_copies M 58 61 (fun M13 => ∃ n, lp_X6_isGrowing_17 post n M13 (0 : Int32) (0 : Int32) (1 : Int32))
set_option maxHeartbeats 4000000 in
set_option maxRecDepth 100000 in
theorem t_X6_isGrowing_101 (C : Cx G p s m args meth c RX6 cX6_isGrowing 5 (some .boolean)) {post : Int32 → Mem → Prop} (M : Mem) (y0 : Int32) {H : Heap} {locs : List Loc} {ls : Array Slot} (w : Wd G s M H locs) (hl : lv_has ls 5 []) (h : j_X6_isGrowing_101 post M y0) : W p l e (rmk 3) s m args below meth c H locs 0 0 (MQ below (va_Qi post (Qw G) (Af G s.heap.size)) args s 0 0 (Af G s.heap.size)) (F0 m 101 ls [.int y0]) := by
  have hx := C.1.1
  have hb := C.1.2.1
  unfold j_X6_isGrowing_101 at h
  exact ret_z C w h dX6_isGrowing_101
set_option maxHeartbeats 4000000 in
set_option maxRecDepth 100000 in
theorem t_X6_isGrowing_74 (C : Cx G p s m args meth c RX6 cX6_isGrowing 5 (some .boolean)) {post : Int32 → Mem → Prop} {k17 : Mem → Int32 → Int32 → Int32 → Prop} (hk17 : ∀ (M : Mem) (x1 : Int32) (x2 : Int32) (x3 : Int32) (H : Heap) (locs : List Loc) (ls : Array Slot), Wd G s M H locs → lv_has ls 5 [(0, .ref (ga G 57)), (1, .int x1), (2, .int x2), (3, .int x3)] → k17 M x1 x2 x3 → W p l e (rmk 3) s m args below meth c H locs 0 0 (MQ below (va_Qi post (Qw G) (Af G s.heap.size)) args s 0 0 (Af G s.heap.size)) (F0 m 17 ls [])) (M : Mem) (x1 : Int32) (x2 : Int32) (x3 : Int32) {H : Heap} {locs : List Loc} {ls : Array Slot} (w : Wd G s M H locs) (hl : lv_has ls 5 [(0, .ref (ga G 57)), (1, .int x1), (2, .int x2), (3, .int x3)]) (h : j_X6_isGrowing_74 k17 post M x1 x2 x3) : W p l e (rmk 3) s m args below meth c H locs 0 0 (MQ below (va_Qi post (Qw G) (Af G s.heap.size)) args s 0 0 (Af G s.heap.size)) (F0 m 74 ls []) := by
  have hx := C.1.1
  have hb := C.1.2.1
  unfold j_X6_isGrowing_74 at h
  refine lv_iinc (v := (x3 + (1 : Int32))) (lv' := [(3, .int (x3 + (1 : Int32))), (0, .ref (ga G 57)), (1, .int x1), (2, .int x2)]) hx hb dX6_isGrowing_74 hl (k := 3) rfl rfl (by decide) rfl (fun ls hl => ?_)
  refine lv_goto (tgt := 17) hx hb dX6_isGrowing_77 (by decide) ?_
  exact hk17 M x1 x2 (x3 + (1 : Int32)) _ _ _  w (lv_sub hl [1, 2, 3, 0] rfl) h
set_option maxHeartbeats 4000000 in
set_option maxRecDepth 100000 in
theorem t_X6_isGrowing_73 (C : Cx G p s m args meth c RX6 cX6_isGrowing 5 (some .boolean)) {post : Int32 → Mem → Prop} {k17 : Mem → Int32 → Int32 → Int32 → Prop} (hk17 : ∀ (M : Mem) (x1 : Int32) (x2 : Int32) (x3 : Int32) (H : Heap) (locs : List Loc) (ls : Array Slot), Wd G s M H locs → lv_has ls 5 [(0, .ref (ga G 57)), (1, .int x1), (2, .int x2), (3, .int x3)] → k17 M x1 x2 x3 → W p l e (rmk 3) s m args below meth c H locs 0 0 (MQ below (va_Qi post (Qw G) (Af G s.heap.size)) args s 0 0 (Af G s.heap.size)) (F0 m 17 ls [])) (M : Mem) (y0 : Int32) (x1 : Int32) (x3 : Int32) {H : Heap} {locs : List Loc} {ls : Array Slot} (w : Wd G s M H locs) (hl : lv_has ls 5 [(0, .ref (ga G 57)), (1, .int x1), (3, .int x3)]) (h : j_X6_isGrowing_73 k17 post M y0 x1 x3) : W p l e (rmk 3) s m args below meth c H locs 0 0 (MQ below (va_Qi post (Qw G) (Af G s.heap.size)) args s 0 0 (Af G s.heap.size)) (F0 m 73 ls [.int y0]) := by
  have hx := C.1.1
  have hb := C.1.2.1
  unfold j_X6_isGrowing_73 at h
  refine lv_istore_n (lv' := [(2, .int y0), (0, .ref (ga G 57)), (1, .int x1), (3, .int x3)]) hx hb dX6_isGrowing_73 rfl hl (by decide) rfl (fun ls hl => ?_)
  exact t_X6_isGrowing_74 C hk17 M x1 y0 x3  w (lv_sub hl [1, 2, 0, 3] rfl) h
set_option maxHeartbeats 4000000 in
set_option maxRecDepth 100000 in
theorem t_X6_isGrowing_57 (C : Cx G p s m args meth c RX6 cX6_isGrowing 5 (some .boolean)) {post : Int32 → Mem → Prop} {k17 : Mem → Int32 → Int32 → Int32 → Prop} (hk17 : ∀ (M : Mem) (x1 : Int32) (x2 : Int32) (x3 : Int32) (H : Heap) (locs : List Loc) (ls : Array Slot), Wd G s M H locs → lv_has ls 5 [(0, .ref (ga G 57)), (1, .int x1), (2, .int x2), (3, .int x3)] → k17 M x1 x2 x3 → W p l e (rmk 3) s m args below meth c H locs 0 0 (MQ below (va_Qi post (Qw G) (Af G s.heap.size)) args s 0 0 (Af G s.heap.size)) (F0 m 17 ls [])) (M : Mem) (y0 : Int32) (x2 : Int32) (x3 : Int32) {H : Heap} {locs : List Loc} {ls : Array Slot} (w : Wd G s M H locs) (hl : lv_has ls 5 [(0, .ref (ga G 57)), (2, .int x2), (3, .int x3)]) (h : j_X6_isGrowing_57 k17 post M y0 x2 x3) : W p l e (rmk 3) s m args below meth c H locs 0 0 (MQ below (va_Qi post (Qw G) (Af G s.heap.size)) args s 0 0 (Af G s.heap.size)) (F0 m 57 ls [.int y0]) := by
  have hx := C.1.1
  have hb := C.1.2.1
  unfold j_X6_isGrowing_57 at h
  refine lv_istore_n (lv' := [(1, .int y0), (0, .ref (ga G 57)), (2, .int x2), (3, .int x3)]) hx hb dX6_isGrowing_57 rfl hl (by decide) rfl (fun ls hl => ?_)
  refine lv_goto (tgt := 74) hx hb dX6_isGrowing_58 (by decide) ?_
  exact t_X6_isGrowing_74 C hk17 M y0 x2 x3  w (lv_sub hl [1, 0, 2, 3] rfl) h
set_option maxHeartbeats 4000000 in
set_option maxRecDepth 100000 in
theorem t_X6_isGrowing_17 (C : Cx G p s m args meth c RX6 cX6_isGrowing 5 (some .boolean)) {post : Int32 → Mem → Prop} : ∀ (n : Nat) (M : Mem) (x1 : Int32) (x2 : Int32) (x3 : Int32) {H : Heap} {locs : List Loc} {ls : Array Slot} (w : Wd G s M H locs) (hl : lv_has ls 5 [(0, .ref (ga G 57)), (1, .int x1), (2, .int x2), (3, .int x3)]) (h : lp_X6_isGrowing_17 post n M x1 x2 x3), W p l e (rmk 3) s m args below meth c H locs 0 0 (MQ below (va_Qi post (Qw G) (Af G s.heap.size)) args s 0 0 (Af G s.heap.size)) (F0 m 17 ls []) := by
  have hx := C.1.1
  have hb := C.1.2.1
  intro n9
  induction n9 with
  | zero => intro M x1 x2 x3 H locs ls w hl h; exact absurd h id
  | succ n9 ih9 =>
    intro M x1 x2 x3 H locs ls w hl h
    have hk17 : ∀ (M : Mem) (x1 : Int32) (x2 : Int32) (x3 : Int32) (H : Heap) (locs : List Loc) (ls : Array Slot), Wd G s M H locs → lv_has ls 5 [(0, .ref (ga G 57)), (1, .int x1), (2, .int x2), (3, .int x3)] → lp_X6_isGrowing_17 post n9 M x1 x2 x3 → W p l e (rmk 3) s m args below meth c H locs 0 0 (MQ below (va_Qi post (Qw G) (Af G s.heap.size)) args s 0 0 (Af G s.heap.size)) (F0 m 17 ls []) := fun M x1 x2 x3 H locs ls w hl h => ih9 M x1 x2 x3 w hl h
    replace h : b_X6_isGrowing_17 (lp_X6_isGrowing_17 post n9) post M x1 x2 x3 := h
    unfold b_X6_isGrowing_17 at h
    refine lv_iload_n hx hb dX6_isGrowing_17 rfl (lv_at hl 3 rfl) ?_
    refine lv_sipush (v := 200) hx hb dX6_isGrowing_18 (by decide) ?_
    refine lv_icmp_gt (tgt := 80) hx hb dX6_isGrowing_21 (by decide) (fun c1 => ?_) (fun c1 => ?_)
    · replace h := h.1 c1
      refine lv_aload_n hx hb dX6_isGrowing_80 rfl (lv_at hl 0 rfl) ?_
      refine gt_6_3 C w kw_5_3 dX6_isGrowing_81 ?_
      refine lv_aload_n hx hb dX6_isGrowing_84 rfl (lv_at hl 0 rfl) ?_
      refine gt_6_0 C w kw_5_0 dX6_isGrowing_85 ?_
      refine end_v w (run_S (As := [.ref (ga G 61), .ref (ga G 58)]) C w hl.1 (c_X6_copies l G C.2.2.1 _ _ 61 58 ⟨by decide, by decide⟩ ⟨by decide, by decide⟩ _ h) kw_13_8 kw_1_5 kw_13_6 kw_13_7 hd_X6_copies ⟨by decide, by decide⟩ rfl (Nat.le_of_ble_eq_true rfl) dX6_isGrowing_88) (fun M3 H locs h w => ?_)
      refine lv_iload_n hx hb dX6_isGrowing_91 rfl (lv_at hl 2 rfl) ?_
      refine lv_iload_n hx hb dX6_isGrowing_92 rfl (lv_at hl 1 rfl) ?_
      refine lv_icmp_le (tgt := 100) hx hb dX6_isGrowing_93 (by decide) (fun c4 => ?_) (fun c4 => ?_)
      · replace h := h.1 c4
        refine lv_iconst (v := 0) hx hb dX6_isGrowing_100 (by decide) ?_
        exact t_X6_isGrowing_101 C M3 (0 : Int32)  w (lv_sub hl [] rfl) h
      replace h := h.2 c4
      refine lv_iconst (v := 1) hx hb dX6_isGrowing_96 (by decide) ?_
      refine lv_goto (tgt := 101) hx hb dX6_isGrowing_97 (by decide) ?_
      exact t_X6_isGrowing_101 C M3 (1 : Int32)  w (lv_sub hl [] rfl) h
    replace h := h.2 c1
    refine lv_aload_n hx hb dX6_isGrowing_24 rfl (lv_at hl 0 rfl) ?_
    refine end_v w (run_V (As := []) C w hl.1 (c_X6_goesYaw l G C.2.2.1 _ _   _ h) kw_29_6 kw_1_5 kw_29_3 kw_29_4 kw_29_5 hd_X6_goesYaw ⟨by decide, by decide⟩ (w.recv C (i := 57) (by decide) (pE_6) rfl) rfl (Nat.le_of_ble_eq_true rfl) dX6_isGrowing_25) (fun M6 H locs h w => ?_)
    refine lv_aload_n hx hb dX6_isGrowing_28 rfl (lv_at hl 0 rfl) ?_
    refine gt_6_0 C w kw_5_0 dX6_isGrowing_29 ?_
    refine lv_iconst (v := 3) hx hb dX6_isGrowing_32 (by decide) ?_
    refine pw_ld C w (i := 58) (by decide) pE_58 (vl (x := (3 : Int32)) (by decide)) (k := 3) (by decide) dX6_isGrowing_33 ?_
    refine end_i w (run_S (As := [.int (M6 58 3)]) C w hl.1 (c_X6_amount l G C.2.2.1 _ _ (M6 58 3)  _ h) kw_19_13 kw_1_5 kw_19_11 kw_19_12 hd_X6_amount ⟨by decide, by decide⟩ rfl (Nat.le_of_ble_eq_true rfl) dX6_isGrowing_34) (fun r7 M8 H locs h w => ?_)
    refine lv_istore (lv' := [(4, .int r7), (0, .ref (ga G 57)), (1, .int x1), (2, .int x2), (3, .int x3)]) hx hb dX6_isGrowing_37 hl (by decide) rfl (fun ls hl => ?_)
    refine lv_iload_n hx hb dX6_isGrowing_39 rfl (lv_at hl 4 rfl) ?_
    refine lv_bipush (v := 100) hx hb dX6_isGrowing_40 (by decide) ?_
    refine lv_icmp_gt (tgt := 61) hx hb dX6_isGrowing_42 (by decide) (fun c9 => ?_) (fun c9 => ?_)
    · replace h := h.1 c9
      refine lv_iload hx hb dX6_isGrowing_61 (lv_at hl 0 rfl) ?_
      refine lv_iload_n hx hb dX6_isGrowing_63 rfl (lv_at hl 3 rfl) ?_
      refine lv_icmp_le (tgt := 72) hx hb dX6_isGrowing_64 (by decide) (fun c10 => ?_) (fun c10 => ?_)
      · replace h := h.1 c10
        refine lv_iload_n hx hb dX6_isGrowing_72 rfl (lv_at hl 3 rfl) ?_
        exact t_X6_isGrowing_73 C hk17 M8 x2 x1 x3  w (lv_sub hl [1, 2, 4] rfl) h
      replace h := h.2 c10
      refine lv_iload hx hb dX6_isGrowing_67 (lv_at hl 0 rfl) ?_
      refine lv_goto (tgt := 73) hx hb dX6_isGrowing_69 (by decide) ?_
      exact t_X6_isGrowing_73 C hk17 M8 r7 x1 x3  w (lv_sub hl [1, 2, 4] rfl) h
    replace h := h.2 c9
    refine lv_iload hx hb dX6_isGrowing_45 (lv_at hl 0 rfl) ?_
    refine lv_iload_n hx hb dX6_isGrowing_47 rfl (lv_at hl 2 rfl) ?_
    refine lv_icmp_le (tgt := 56) hx hb dX6_isGrowing_48 (by decide) (fun c11 => ?_) (fun c11 => ?_)
    · replace h := h.1 c11
      refine lv_iload_n hx hb dX6_isGrowing_56 rfl (lv_at hl 2 rfl) ?_
      exact t_X6_isGrowing_57 C hk17 M8 x1 x2 x3  w (lv_sub hl [1, 3, 4] rfl) h
    replace h := h.2 c11
    refine lv_iload hx hb dX6_isGrowing_51 (lv_at hl 0 rfl) ?_
    refine lv_goto (tgt := 57) hx hb dX6_isGrowing_53 (by decide) ?_
    exact t_X6_isGrowing_57 C hk17 M8 r7 x2 x3  w (lv_sub hl [1, 3, 4] rfl) h
set_option maxHeartbeats 4000000 in
set_option maxRecDepth 100000 in
theorem c_X6_isGrowing (l : Launch) (G : GG) (hG : Ag G) (sz : Nat) (M : Mem) (post : Int32 → Mem → Prop) (h : q_X6_isGrowing M post) : Met l yX6_isGrowing (Cond.code yX6_isGrowing cX6_isGrowing 5 (some .boolean) :: wsL_law) (rmk 3) (va_Pc [.ref (ga G 57)] (Pw G sz M)) (va_Qi post (Qw G) (Af G sz)) 0 0 (Af G sz) := by
  refine Met.ofW (cc := cX6_isGrowing) (maxL := 5) (ret := (some .boolean)) (by decide) rfl ?_
  intro p e s m args below meth c s₁ B hml hv
  obtain ⟨rfl, hsz, hE, hP⟩ := hv
  subst hsz
  have C := Cx.of (own := RX6) hG hE rfl hml B
  have w : Wd G s M s.heap [] := ⟨hP, va_S.rf⟩
  have hl := lv_entry [.ref (ga G 57)] (n := 5) (Nat.le_of_ble_eq_true rfl)
  rw [lg_entry_eq]
  generalize (lg_sl [.ref (ga G 57)] ++ List.replicate (5 - (lg_sl [.ref (ga G 57)]).length) Slot.unset).toArray = ls at hl ⊢
  have hl : lv_has ls 5 [(0, .ref (ga G 57))] := hl
  have hx := C.1.1
  have hb := C.1.2.1
  show W p l e (rmk 3) s m _ below meth c s.heap [] 0 0 _ _
  unfold q_X6_isGrowing at h
  refine lv_aload_n hx hb dX6_isGrowing_0 rfl (lv_at hl 0 rfl) ?_
  refine gt_6_0 C w kw_5_0 dX6_isGrowing_1 ?_
  refine lv_aload_n hx hb dX6_isGrowing_4 rfl (lv_at hl 0 rfl) ?_
  refine gt_6_3 C w kw_5_3 dX6_isGrowing_5 ?_
  refine end_v w (run_S (As := [.ref (ga G 58), .ref (ga G 61)]) C w hl.1 (c_X6_copies l G C.2.2.1 _ _ 58 61 ⟨by decide, by decide⟩ ⟨by decide, by decide⟩ _ h) kw_13_8 kw_1_5 kw_13_6 kw_13_7 hd_X6_copies ⟨by decide, by decide⟩ rfl (Nat.le_of_ble_eq_true rfl) dX6_isGrowing_8) (fun M13 H locs h w => ?_)
  refine lv_iconst (v := 0) hx hb dX6_isGrowing_11 (by decide) ?_
  refine lv_istore_n (lv' := [(1, .int (0 : Int32)), (0, .ref (ga G 57))]) hx hb dX6_isGrowing_12 rfl hl (by decide) rfl (fun ls hl => ?_)
  refine lv_iconst (v := 0) hx hb dX6_isGrowing_13 (by decide) ?_
  refine lv_istore_n (lv' := [(2, .int (0 : Int32)), (1, .int (0 : Int32)), (0, .ref (ga G 57))]) hx hb dX6_isGrowing_14 rfl hl (by decide) rfl (fun ls hl => ?_)
  refine lv_iconst (v := 1) hx hb dX6_isGrowing_15 (by decide) ?_
  refine lv_istore_n (lv' := [(3, .int (1 : Int32)), (2, .int (0 : Int32)), (1, .int (0 : Int32)), (0, .ref (ga G 57))]) hx hb dX6_isGrowing_16 rfl hl (by decide) rfl (fun ls hl => ?_)
  obtain ⟨n, h⟩ := h
  exact t_X6_isGrowing_17 C n M13 (0 : Int32) (0 : Int32) (1 : Int32)  w (lv_sub hl [3, 2, 1, 0] rfl) h
def j_X6_grows_12 (post : Int32 → Mem → Prop) (M : Mem) (y0 : Int32) : Prop := post y0 M
def q_X6_grows (M : Mem) (post : Int32 → Mem → Prop) : Prop := q_X6_isGrowing M  (fun r1 M2 => (r1 = 0 → (j_X6_grows_12 post M2 (0 : Int32))) ∧ (¬ (r1 = 0) → (j_X6_grows_12 post M2 (1 : Int32))))
set_option maxHeartbeats 4000000 in
set_option maxRecDepth 100000 in
theorem t_X6_grows_12 (C : Cx G p s m args meth c RX6 cX6_grows 1 (some .int)) {post : Int32 → Mem → Prop} (M : Mem) (y0 : Int32) {H : Heap} {locs : List Loc} {ls : Array Slot} (w : Wd G s M H locs) (hl : lv_has ls 1 []) (h : j_X6_grows_12 post M y0) : W p l e (rmk 4) s m args below meth c H locs 0 0 (MQ below (va_Qi post (Qw G) (Af G s.heap.size)) args s 0 0 (Af G s.heap.size)) (F0 m 12 ls [.int y0]) := by
  have hx := C.1.1
  have hb := C.1.2.1
  unfold j_X6_grows_12 at h
  exact ret_i C w h dX6_grows_12
set_option maxHeartbeats 4000000 in
set_option maxRecDepth 100000 in
theorem c_X6_grows (l : Launch) (G : GG) (hG : Ag G) (sz : Nat) (M : Mem) (post : Int32 → Mem → Prop) (h : q_X6_grows M post) : Met l yX6_grows (Cond.code yX6_grows cX6_grows 1 (some .int) :: wsL_law) (rmk 4) (va_Pc [.ref (ga G 57)] (Pw G sz M)) (va_Qi post (Qw G) (Af G sz)) 0 0 (Af G sz) := by
  refine Met.ofW (cc := cX6_grows) (maxL := 1) (ret := (some .int)) (by decide) rfl ?_
  intro p e s m args below meth c s₁ B hml hv
  obtain ⟨rfl, hsz, hE, hP⟩ := hv
  subst hsz
  have C := Cx.of (own := RX6) hG hE rfl hml B
  have w : Wd G s M s.heap [] := ⟨hP, va_S.rf⟩
  have hl := lv_entry [.ref (ga G 57)] (n := 1) (Nat.le_of_ble_eq_true rfl)
  rw [lg_entry_eq]
  generalize (lg_sl [.ref (ga G 57)] ++ List.replicate (1 - (lg_sl [.ref (ga G 57)]).length) Slot.unset).toArray = ls at hl ⊢
  have hl : lv_has ls 1 [(0, .ref (ga G 57))] := hl
  have hx := C.1.1
  have hb := C.1.2.1
  show W p l e (rmk 4) s m _ below meth c s.heap [] 0 0 _ _
  unfold q_X6_grows at h
  refine lv_aload_n hx hb dX6_grows_0 rfl (lv_at hl 0 rfl) ?_
  refine end_i w (run_V (As := []) C w hl.1 (c_X6_isGrowing l G C.2.2.1 _ _   _ h) kw_30_9 kw_1_5 kw_30_6 kw_30_7 kw_30_8 hd_X6_isGrowing ⟨by decide, by decide⟩ (w.recv C (i := 57) (by decide) (pE_6) rfl) rfl (Nat.le_of_ble_eq_true rfl) dX6_grows_1) (fun r1 M2 H locs h w => ?_)
  refine lv_if_eq (tgt := 11) hx hb dX6_grows_4 (by decide) (fun c3 => ?_) (fun c3 => ?_)
  · replace h := h.1 c3
    refine lv_iconst (v := 0) hx hb dX6_grows_11 (by decide) ?_
    exact t_X6_grows_12 C M2 (0 : Int32)  w (lv_sub hl [] rfl) h
  replace h := h.2 c3
  refine lv_iconst (v := 1) hx hb dX6_grows_7 (by decide) ?_
  refine lv_goto (tgt := 12) hx hb dX6_grows_8 (by decide) ?_
  exact t_X6_grows_12 C M2 (1 : Int32)  w (lv_sub hl [] rfl) h
def b_X5_held_2 (k2 : Mem → Int32 → Prop) (post : Int32 → Mem → Prop) (M : Mem) (x1 : Int32) : Prop := ((mostT 6) < x1 → (post (-4 : Int32) M)) ∧ (¬ ((mostT 6) < x1) → (q_X5_growsWith M x1 (fun r2 M3 => (r2 = 0 → (post x1 M3)) ∧ (¬ (r2 = 0) → (k2 M3 (x1 + (1 : Int32)))))))
def lp_X5_held_2 (post : Int32 → Mem → Prop) : Nat → Mem → Int32 → Prop
  | 0 => fun _ _ => False
  | n + 1 => fun M x1 => b_X5_held_2 (lp_X5_held_2 post n) post M x1
def q_X5_held (M : Mem) (post : Int32 → Mem → Prop) : Prop := ∃ n, lp_X5_held_2 post n M (0 : Int32)
set_option maxHeartbeats 4000000 in
set_option maxRecDepth 100000 in
theorem t_X5_held_2 (C : Cx G p s m args meth c RX5 cX5_held 2 (some .int)) {post : Int32 → Mem → Prop} : ∀ (n : Nat) (M : Mem) (x1 : Int32) {H : Heap} {locs : List Loc} {ls : Array Slot} (w : Wd G s M H locs) (hl : lv_has ls 2 [(0, .ref (ga G 0)), (1, .int x1)]) (h : lp_X5_held_2 post n M x1), W p l e (rmk 5) s m args below meth c H locs 0 0 (MQ below (va_Qi post (Qw G) (Af G s.heap.size)) args s 0 0 (Af G s.heap.size)) (F0 m 2 ls []) := by
  have hx := C.1.1
  have hb := C.1.2.1
  intro n9
  induction n9 with
  | zero => intro M x1 H locs ls w hl h; exact absurd h id
  | succ n9 ih9 =>
    intro M x1 H locs ls w hl h
    have hk2 : ∀ (M : Mem) (x1 : Int32) (H : Heap) (locs : List Loc) (ls : Array Slot), Wd G s M H locs → lv_has ls 2 [(0, .ref (ga G 0)), (1, .int x1)] → lp_X5_held_2 post n9 M x1 → W p l e (rmk 5) s m args below meth c H locs 0 0 (MQ below (va_Qi post (Qw G) (Af G s.heap.size)) args s 0 0 (Af G s.heap.size)) (F0 m 2 ls []) := fun M x1 H locs ls w hl h => ih9 M x1 w hl h
    replace h : b_X5_held_2 (lp_X5_held_2 post n9) post M x1 := h
    unfold b_X5_held_2 at h
    refine lv_iload_n hx hb dX5_held_2 rfl (lv_at hl 1 rfl) ?_
    refine gs_gM C w kw_24_3 dX5_held_3 ?_
    refine lv_bipush (v := 6) hx hb dX5_held_6 (by decide) ?_
    refine ts_gM C w (vl (x := (6 : Int32)) (by decide)) (k := 6) (by decide) dX5_held_8 ?_
    refine lv_icmp_gt (tgt := 28) hx hb dX5_held_9 (by decide) (fun c1 => ?_) (fun c1 => ?_)
    · replace h := h.1 c1
      refine lv_bipush (v := -4) hx hb dX5_held_28 (by decide) ?_
      exact ret_i C w h dX5_held_30
    replace h := h.2 c1
    refine lv_aload_n hx hb dX5_held_12 rfl (lv_at hl 0 rfl) ?_
    refine lv_iload_n hx hb dX5_held_13 rfl (lv_at hl 1 rfl) ?_
    refine end_i w (run_V (As := [.int x1]) C w hl.1 (c_X5_growsWith l G C.2.2.1 _ _ x1  _ h) kw_30_1 kw_1_2 kw_29_22 kw_29_23 kw_30_0 hd_X5_growsWith ⟨by decide, by decide⟩ (w.recv C (i := 0) (by decide) (pE_5) rfl) rfl (Nat.le_of_ble_eq_true rfl) dX5_held_14) (fun r2 M3 H locs h w => ?_)
    refine lv_if_ne (tgt := 22) hx hb dX5_held_17 (by decide) (fun c4 => ?_) (fun c4 => ?_)
    · replace h := h.2 c4
      refine lv_iinc (v := (x1 + (1 : Int32))) (lv' := [(1, .int (x1 + (1 : Int32))), (0, .ref (ga G 0))]) hx hb dX5_held_22 hl (k := 1) rfl rfl (by decide) rfl (fun ls hl => ?_)
      refine lv_goto (tgt := 2) hx hb dX5_held_25 (by decide) ?_
      exact hk2 M3 (x1 + (1 : Int32)) _ _ _  w (lv_sub hl [1, 0] rfl) h
    replace h := h.1 c4
    refine lv_iload_n hx hb dX5_held_20 rfl (lv_at hl 1 rfl) ?_
    exact ret_i C w h dX5_held_21
set_option maxHeartbeats 4000000 in
set_option maxRecDepth 100000 in
theorem c_X5_held (l : Launch) (G : GG) (hG : Ag G) (sz : Nat) (M : Mem) (post : Int32 → Mem → Prop) (h : q_X5_held M post) : Met l yX5_held (Cond.code yX5_held cX5_held 2 (some .int) :: wsL_law) (rmk 5) (va_Pc [.ref (ga G 0)] (Pw G sz M)) (va_Qi post (Qw G) (Af G sz)) 0 0 (Af G sz) := by
  refine Met.ofW (cc := cX5_held) (maxL := 2) (ret := (some .int)) (by decide) rfl ?_
  intro p e s m args below meth c s₁ B hml hv
  obtain ⟨rfl, hsz, hE, hP⟩ := hv
  subst hsz
  have C := Cx.of (own := RX5) hG hE rfl hml B
  have w : Wd G s M s.heap [] := ⟨hP, va_S.rf⟩
  have hl := lv_entry [.ref (ga G 0)] (n := 2) (Nat.le_of_ble_eq_true rfl)
  rw [lg_entry_eq]
  generalize (lg_sl [.ref (ga G 0)] ++ List.replicate (2 - (lg_sl [.ref (ga G 0)]).length) Slot.unset).toArray = ls at hl ⊢
  have hl : lv_has ls 2 [(0, .ref (ga G 0))] := hl
  have hx := C.1.1
  have hb := C.1.2.1
  show W p l e (rmk 5) s m _ below meth c s.heap [] 0 0 _ _
  unfold q_X5_held at h
  refine lv_iconst (v := 0) hx hb dX5_held_0 (by decide) ?_
  refine lv_istore_n (lv' := [(1, .int (0 : Int32)), (0, .ref (ga G 0))]) hx hb dX5_held_1 rfl hl (by decide) rfl (fun ls hl => ?_)
  obtain ⟨n, h⟩ := h
  exact t_X5_held_2 C n M (0 : Int32)  w (lv_sub hl [1, 0] rfl) h
def j_X6_held_46 (post : Int32 → Mem → Prop) (M : Mem) (x1 : Int32) (x2 : Int32) : Prop := ∀ M1 : Mem, M1 = (mup M 58 11 x1) → (post x2 M1)
def j_X6_held_40 (k13 : Mem → Int32 → Int32 → Int32 → Prop) (post : Int32 → Mem → Prop) (M : Mem) (x1 : Int32) (x2 : Int32) (x3 : Int32) : Prop := k13 M x1 x2 (x3 + (1 : Int32))
def b_X6_held_13 (k13 : Mem → Int32 → Int32 → Int32 → Prop) (post : Int32 → Mem → Prop) (M : Mem) (x1 : Int32) (x2 : Int32) (x3 : Int32) : Prop := ((10 : Int32) ≤ x3 → (j_X6_held_46 post M x1 x2)) ∧ (¬ ((10 : Int32) ≤ x3) → ((0 ≤ x2 → (j_X6_held_46 post M x1 x2)) ∧ (¬ (0 ≤ x2) → (∀ M4 : Mem, M4 = (mup M 58 11 x3) → (q_X6_isGrowing M4  (fun r5 M6 => (r5 = 0 → (j_X6_held_40 k13 post M6 x1 x3 x3)) ∧ (¬ (r5 = 0) → (j_X6_held_40 k13 post M6 x1 x2 x3))))))))
def lp_X6_held_13 (post : Int32 → Mem → Prop) : Nat → Mem → Int32 → Int32 → Int32 → Prop
  | 0 => fun _ _ _ _ => False
  | n + 1 => fun M x1 x2 x3 => b_X6_held_13 (lp_X6_held_13 post n) post M x1 x2 x3
def q_X6_held (M : Mem) (post : Int32 → Mem → Prop) : Prop := ∃ n, lp_X6_held_13 post n M (M 58 11) (-4 : Int32) (0 : Int32)
set_option maxHeartbeats 4000000 in
set_option maxRecDepth 100000 in
theorem t_X6_held_46 (C : Cx G p s m args meth c RX6 cX6_held 4 (some .int)) {post : Int32 → Mem → Prop} (M : Mem) (x1 : Int32) (x2 : Int32) {H : Heap} {locs : List Loc} {ls : Array Slot} (w : Wd G s M H locs) (hl : lv_has ls 4 [(0, .ref (ga G 57)), (1, .int x1), (2, .int x2)]) (h : j_X6_held_46 post M x1 x2) : W p l e (rmk 4) s m args below meth c H locs 0 0 (MQ below (va_Qi post (Qw G) (Af G s.heap.size)) args s 0 0 (Af G s.heap.size)) (F0 m 46 ls []) := by
  have hx := C.1.1
  have hb := C.1.2.1
  unfold j_X6_held_46 at h
  refine lv_aload_n hx hb dX6_held_46 rfl (lv_at hl 0 rfl) ?_
  refine gt_6_0 C w kw_5_0 dX6_held_47 ?_
  refine lv_bipush (v := 11) hx hb dX6_held_50 (by decide) ?_
  refine lv_iload_n hx hb dX6_held_52 rfl (lv_at hl 1 rfl) ?_
  refine pw_st C w (i := 58) (by decide) (fun _ => pE_58) (vl (x := (11 : Int32)) (by decide)) (k := 11) (by decide) dX6_held_53 (fun H locs w => ?_)
  obtain ⟨M1, eM1⟩ : ∃ z : Mem, z = (mup M 58 11 x1) := ⟨_, rfl⟩
  replace w : Wd G s M1 H locs := by rw [eM1]; exact w
  replace h := h M1 eM1
  refine lv_iload_n hx hb dX6_held_54 rfl (lv_at hl 2 rfl) ?_
  exact ret_i C w h dX6_held_55
set_option maxHeartbeats 4000000 in
set_option maxRecDepth 100000 in
theorem t_X6_held_40 (C : Cx G p s m args meth c RX6 cX6_held 4 (some .int)) {post : Int32 → Mem → Prop} {k13 : Mem → Int32 → Int32 → Int32 → Prop} (hk13 : ∀ (M : Mem) (x1 : Int32) (x2 : Int32) (x3 : Int32) (H : Heap) (locs : List Loc) (ls : Array Slot), Wd G s M H locs → lv_has ls 4 [(0, .ref (ga G 57)), (1, .int x1), (2, .int x2), (3, .int x3)] → k13 M x1 x2 x3 → W p l e (rmk 4) s m args below meth c H locs 0 0 (MQ below (va_Qi post (Qw G) (Af G s.heap.size)) args s 0 0 (Af G s.heap.size)) (F0 m 13 ls [])) (M : Mem) (x1 : Int32) (x2 : Int32) (x3 : Int32) {H : Heap} {locs : List Loc} {ls : Array Slot} (w : Wd G s M H locs) (hl : lv_has ls 4 [(0, .ref (ga G 57)), (1, .int x1), (2, .int x2), (3, .int x3)]) (h : j_X6_held_40 k13 post M x1 x2 x3) : W p l e (rmk 4) s m args below meth c H locs 0 0 (MQ below (va_Qi post (Qw G) (Af G s.heap.size)) args s 0 0 (Af G s.heap.size)) (F0 m 40 ls []) := by
  have hx := C.1.1
  have hb := C.1.2.1
  unfold j_X6_held_40 at h
  refine lv_iinc (v := (x3 + (1 : Int32))) (lv' := [(3, .int (x3 + (1 : Int32))), (0, .ref (ga G 57)), (1, .int x1), (2, .int x2)]) hx hb dX6_held_40 hl (k := 3) rfl rfl (by decide) rfl (fun ls hl => ?_)
  refine lv_goto (tgt := 13) hx hb dX6_held_43 (by decide) ?_
  exact hk13 M x1 x2 (x3 + (1 : Int32)) _ _ _  w (lv_sub hl [1, 2, 3, 0] rfl) h
set_option maxHeartbeats 4000000 in
set_option maxRecDepth 100000 in
theorem t_X6_held_13 (C : Cx G p s m args meth c RX6 cX6_held 4 (some .int)) {post : Int32 → Mem → Prop} : ∀ (n : Nat) (M : Mem) (x1 : Int32) (x2 : Int32) (x3 : Int32) {H : Heap} {locs : List Loc} {ls : Array Slot} (w : Wd G s M H locs) (hl : lv_has ls 4 [(0, .ref (ga G 57)), (1, .int x1), (2, .int x2), (3, .int x3)]) (h : lp_X6_held_13 post n M x1 x2 x3), W p l e (rmk 4) s m args below meth c H locs 0 0 (MQ below (va_Qi post (Qw G) (Af G s.heap.size)) args s 0 0 (Af G s.heap.size)) (F0 m 13 ls []) := by
  have hx := C.1.1
  have hb := C.1.2.1
  intro n9
  induction n9 with
  | zero => intro M x1 x2 x3 H locs ls w hl h; exact absurd h id
  | succ n9 ih9 =>
    intro M x1 x2 x3 H locs ls w hl h
    have hk13 : ∀ (M : Mem) (x1 : Int32) (x2 : Int32) (x3 : Int32) (H : Heap) (locs : List Loc) (ls : Array Slot), Wd G s M H locs → lv_has ls 4 [(0, .ref (ga G 57)), (1, .int x1), (2, .int x2), (3, .int x3)] → lp_X6_held_13 post n9 M x1 x2 x3 → W p l e (rmk 4) s m args below meth c H locs 0 0 (MQ below (va_Qi post (Qw G) (Af G s.heap.size)) args s 0 0 (Af G s.heap.size)) (F0 m 13 ls []) := fun M x1 x2 x3 H locs ls w hl h => ih9 M x1 x2 x3 w hl h
    replace h : b_X6_held_13 (lp_X6_held_13 post n9) post M x1 x2 x3 := h
    unfold b_X6_held_13 at h
    refine lv_iload_n hx hb dX6_held_13 rfl (lv_at hl 3 rfl) ?_
    refine lv_bipush (v := 10) hx hb dX6_held_14 (by decide) ?_
    refine lv_icmp_ge (tgt := 46) hx hb dX6_held_16 (by decide) (fun c2 => ?_) (fun c2 => ?_)
    · replace h := h.1 c2
      exact t_X6_held_46 C M x1 x2  w (lv_sub hl [0, 1, 2] rfl) h
    replace h := h.2 c2
    refine lv_iload_n hx hb dX6_held_19 rfl (lv_at hl 2 rfl) ?_
    refine lv_if_ge (tgt := 46) hx hb dX6_held_20 (by decide) (fun c3 => ?_) (fun c3 => ?_)
    · replace h := h.1 c3
      exact t_X6_held_46 C M x1 x2  w (lv_sub hl [0, 1, 2] rfl) h
    replace h := h.2 c3
    refine lv_aload_n hx hb dX6_held_23 rfl (lv_at hl 0 rfl) ?_
    refine gt_6_0 C w kw_5_0 dX6_held_24 ?_
    refine lv_bipush (v := 11) hx hb dX6_held_27 (by decide) ?_
    refine lv_iload_n hx hb dX6_held_29 rfl (lv_at hl 3 rfl) ?_
    refine pw_st C w (i := 58) (by decide) (fun _ => pE_58) (vl (x := (11 : Int32)) (by decide)) (k := 11) (by decide) dX6_held_30 (fun H locs w => ?_)
    obtain ⟨M4, eM4⟩ : ∃ z : Mem, z = (mup M 58 11 x3) := ⟨_, rfl⟩
    replace w : Wd G s M4 H locs := by rw [eM4]; exact w
    replace h := h M4 eM4
    refine lv_aload_n hx hb dX6_held_31 rfl (lv_at hl 0 rfl) ?_
    refine end_i w (run_V (As := []) C w hl.1 (c_X6_isGrowing l G C.2.2.1 _ _   _ h) kw_30_9 kw_1_5 kw_30_6 kw_30_7 kw_30_8 hd_X6_isGrowing ⟨by decide, by decide⟩ (w.recv C (i := 57) (by decide) (pE_6) rfl) rfl (Nat.le_of_ble_eq_true rfl) dX6_held_32) (fun r5 M6 H locs h w => ?_)
    refine lv_if_ne (tgt := 40) hx hb dX6_held_35 (by decide) (fun c7 => ?_) (fun c7 => ?_)
    · replace h := h.2 c7
      exact t_X6_held_40 C hk13 M6 x1 x2 x3  w (lv_sub hl [0, 1, 2, 3] rfl) h
    replace h := h.1 c7
    refine lv_iload_n hx hb dX6_held_38 rfl (lv_at hl 3 rfl) ?_
    refine lv_istore_n (lv' := [(2, .int x3), (0, .ref (ga G 57)), (1, .int x1), (3, .int x3)]) hx hb dX6_held_39 rfl hl (by decide) rfl (fun ls hl => ?_)
    exact t_X6_held_40 C hk13 M6 x1 x3 x3  w (lv_sub hl [1, 2, 0, 3] rfl) h
set_option maxHeartbeats 4000000 in
set_option maxRecDepth 100000 in
theorem c_X6_held (l : Launch) (G : GG) (hG : Ag G) (sz : Nat) (M : Mem) (post : Int32 → Mem → Prop) (h : q_X6_held M post) : Met l yX6_held (Cond.code yX6_held cX6_held 4 (some .int) :: wsL_law) (rmk 4) (va_Pc [.ref (ga G 57)] (Pw G sz M)) (va_Qi post (Qw G) (Af G sz)) 0 0 (Af G sz) := by
  refine Met.ofW (cc := cX6_held) (maxL := 4) (ret := (some .int)) (by decide) rfl ?_
  intro p e s m args below meth c s₁ B hml hv
  obtain ⟨rfl, hsz, hE, hP⟩ := hv
  subst hsz
  have C := Cx.of (own := RX6) hG hE rfl hml B
  have w : Wd G s M s.heap [] := ⟨hP, va_S.rf⟩
  have hl := lv_entry [.ref (ga G 57)] (n := 4) (Nat.le_of_ble_eq_true rfl)
  rw [lg_entry_eq]
  generalize (lg_sl [.ref (ga G 57)] ++ List.replicate (4 - (lg_sl [.ref (ga G 57)]).length) Slot.unset).toArray = ls at hl ⊢
  have hl : lv_has ls 4 [(0, .ref (ga G 57))] := hl
  have hx := C.1.1
  have hb := C.1.2.1
  show W p l e (rmk 4) s m _ below meth c s.heap [] 0 0 _ _
  unfold q_X6_held at h
  refine lv_aload_n hx hb dX6_held_0 rfl (lv_at hl 0 rfl) ?_
  refine gt_6_0 C w kw_5_0 dX6_held_1 ?_
  refine lv_bipush (v := 11) hx hb dX6_held_4 (by decide) ?_
  refine pw_ld C w (i := 58) (by decide) pE_58 (vl (x := (11 : Int32)) (by decide)) (k := 11) (by decide) dX6_held_6 ?_
  refine lv_istore_n (lv' := [(1, .int (M 58 11)), (0, .ref (ga G 57))]) hx hb dX6_held_7 rfl hl (by decide) rfl (fun ls hl => ?_)
  refine lv_bipush (v := -4) hx hb dX6_held_8 (by decide) ?_
  refine lv_istore_n (lv' := [(2, .int (-4 : Int32)), (1, .int (M 58 11)), (0, .ref (ga G 57))]) hx hb dX6_held_10 rfl hl (by decide) rfl (fun ls hl => ?_)
  refine lv_iconst (v := 0) hx hb dX6_held_11 (by decide) ?_
  refine lv_istore_n (lv' := [(3, .int (0 : Int32)), (2, .int (-4 : Int32)), (1, .int (M 58 11)), (0, .ref (ga G 57))]) hx hb dX6_held_12 rfl hl (by decide) rfl (fun ls hl => ?_)
  obtain ⟨n, h⟩ := h
  exact t_X6_held_13 C n M (M 58 11) (-4 : Int32) (0 : Int32)  w (lv_sub hl [3, 2, 1, 0] rfl) h
def q_X5_whip (M : Mem) (x1 : Int32) (post : Int32 → Mem → Prop) : Prop := q_X4_has M 1 x1 (fun r1 M2 => (r1 = 0 → (post (-1 : Int32) M2)) ∧ (¬ (r1 = 0) → (vp_in x1 6 ∧ (post ((((M2 (38 + x1.toNatClampNeg) 7) * (M2 (38 + x1.toNatClampNeg) 6)) * (M2 (38 + x1.toNatClampNeg) 2)) / (10000 : Int32)) M2))))
set_option maxHeartbeats 4000000 in
set_option maxRecDepth 100000 in
theorem c_X5_whip (l : Launch) (G : GG) (hG : Ag G) (sz : Nat) (M : Mem) (x1 : Int32) (post : Int32 → Mem → Prop) (h : q_X5_whip M x1 post) : Met l yX5_whip (Cond.code yX5_whip cX5_whip 3 (some .int) :: wsL_law) (rmk 2) (va_Pc [.ref (ga G 0), .int x1] (Pw G sz M)) (va_Qi post (Qw G) (Af G sz)) 0 0 (Af G sz) := by
  refine Met.ofW (cc := cX5_whip) (maxL := 3) (ret := (some .int)) (by decide) rfl ?_
  intro p e s m args below meth c s₁ B hml hv
  obtain ⟨rfl, hsz, hE, hP⟩ := hv
  subst hsz
  have C := Cx.of (own := RX5) hG hE rfl hml B
  have w : Wd G s M s.heap [] := ⟨hP, va_S.rf⟩
  have hl := lv_entry [.ref (ga G 0), .int x1] (n := 3) (Nat.le_of_ble_eq_true rfl)
  rw [lg_entry_eq]
  generalize (lg_sl [.ref (ga G 0), .int x1] ++ List.replicate (3 - (lg_sl [.ref (ga G 0), .int x1]).length) Slot.unset).toArray = ls at hl ⊢
  have hl : lv_has ls 3 [(0, .ref (ga G 0)), (1, .int x1)] := hl
  have hx := C.1.1
  have hb := C.1.2.1
  show W p l e (rmk 2) s m _ below meth c s.heap [] 0 0 _ _
  unfold q_X5_whip at h
  refine lv_aload_n hx hb dX5_whip_0 rfl (lv_at hl 0 rfl) ?_
  refine gt_5_0 C w kw_1_16 dX5_whip_1 ?_
  refine lv_iload_n hx hb dX5_whip_4 rfl (lv_at hl 1 rfl) ?_
  refine end_i w (run_VN (As := [.int x1]) C w hl.1 (c_X4_has l G C.2.2.1 _ _ 1 x1 ⟨by decide, by decide⟩ _ h) kw_13_22 kw_1_15 kn_53 kw_13_20 kw_13_21 hd_X4_has ⟨by decide, by decide⟩ (w.recv C (i := 1) (by decide) (pE_4 ⟨by decide, by decide⟩) rfl) rfl (Nat.le_of_ble_eq_true rfl) dX5_whip_5) (fun r1 M2 H locs h w => ?_)
  refine lv_if_ne (tgt := 13) hx hb dX5_whip_8 (by decide) (fun c3 => ?_) (fun c3 => ?_)
  · replace h := h.2 c3
    refine lv_aload_n hx hb dX5_whip_13 rfl (lv_at hl 0 rfl) ?_
    refine gt_5_0 C w kw_1_16 dX5_whip_14 ?_
    refine gn_4_0 C w ⟨by decide, by decide⟩ kn_13 dX5_whip_17 ?_
    refine lv_iload_n hx hb dX5_whip_20 rfl (lv_at hl 1 rfl) ?_
    have hin4 := h.1
    replace h := h.2
    have hz_hin4 := in_lt hin4
    refine pw_ldP C w (i := 8) ⟨by decide, by decide⟩ hin4 dX5_whip_21 (j := (38 + x1.toNatClampNeg)) (by omega) ?_
    refine lv_astore_n (lv' := [(2, .ref (ga G (38 + x1.toNatClampNeg))), (0, .ref (ga G 0)), (1, .int x1)]) hx hb dX5_whip_22 rfl hl (by decide) rfl (fun ls hl => ?_)
    refine lv_aload_n hx hb dX5_whip_23 rfl (lv_at hl 0 rfl) ?_
    refine gn_1_7 C w (by omega) kn_10 dX5_whip_24 ?_
    refine lv_aload_n hx hb dX5_whip_27 rfl (lv_at hl 0 rfl) ?_
    refine gn_1_6 C w (by omega) kn_9 dX5_whip_28 ?_
    refine lv_imul hx hb dX5_whip_31 ?_
    refine lv_aload_n hx hb dX5_whip_32 rfl (lv_at hl 0 rfl) ?_
    refine gn_1_2 C w (by omega) kn_3 dX5_whip_33 ?_
    refine lv_imul hx hb dX5_whip_36 ?_
    refine lv_sipush (v := 10000) hx hb dX5_whip_37 (by decide) ?_
    refine lv_idiv hx hb dX5_whip_40 (by decide) ?_
    exact ret_i C w h dX5_whip_41
  replace h := h.1 c3
  refine lv_iconst (v := -1) hx hb dX5_whip_11 (by decide) ?_
  exact ret_i C w h dX5_whip_12
def j_X6_whip_44 (post : Int32 → Mem → Prop) (M : Mem) (y0 : Int32) : Prop := post y0 M
def q_X6_whip (M : Mem) (x1 : Int32) (post : Int32 → Mem → Prop) : Prop := q_X6_isPiece M x1 (fun r1 M2 => (r1 = 0 → (j_X6_whip_44 post M2 (-1 : Int32))) ∧ (¬ (r1 = 0) → (q_X6_strengthOf M2 x1 (fun r4 M5 => q_X6_get M5 x1 (0 : Int32) (fun r6 M7 => q_X6_get M7 x1 (1 : Int32) (fun r8 M9 => q_X6_giveBy M9 r6 r8 (fun r10 M11 => q_X6_get M11 x1 (2 : Int32) (fun r12 M13 => j_X6_whip_44 post M13 (((r4 * r10) * r12) / (10000 : Int32))))))))))
set_option maxHeartbeats 4000000 in
set_option maxRecDepth 100000 in
theorem t_X6_whip_44 (C : Cx G p s m args meth c RX6 cX6_whip 2 (some .int)) {post : Int32 → Mem → Prop} (M : Mem) (y0 : Int32) {H : Heap} {locs : List Loc} {ls : Array Slot} (w : Wd G s M H locs) (hl : lv_has ls 2 []) (h : j_X6_whip_44 post M y0) : W p l e (rmk 3) s m args below meth c H locs 0 0 (MQ below (va_Qi post (Qw G) (Af G s.heap.size)) args s 0 0 (Af G s.heap.size)) (F0 m 44 ls [.int y0]) := by
  have hx := C.1.1
  have hb := C.1.2.1
  unfold j_X6_whip_44 at h
  exact ret_i C w h dX6_whip_44
set_option maxHeartbeats 4000000 in
set_option maxRecDepth 100000 in
theorem c_X6_whip (l : Launch) (G : GG) (hG : Ag G) (sz : Nat) (M : Mem) (x1 : Int32) (post : Int32 → Mem → Prop) (h : q_X6_whip M x1 post) : Met l yX6_whip (Cond.code yX6_whip cX6_whip 2 (some .int) :: wsL_law) (rmk 3) (va_Pc [.ref (ga G 57), .int x1] (Pw G sz M)) (va_Qi post (Qw G) (Af G sz)) 0 0 (Af G sz) := by
  refine Met.ofW (cc := cX6_whip) (maxL := 2) (ret := (some .int)) (by decide) rfl ?_
  intro p e s m args below meth c s₁ B hml hv
  obtain ⟨rfl, hsz, hE, hP⟩ := hv
  subst hsz
  have C := Cx.of (own := RX6) hG hE rfl hml B
  have w : Wd G s M s.heap [] := ⟨hP, va_S.rf⟩
  have hl := lv_entry [.ref (ga G 57), .int x1] (n := 2) (Nat.le_of_ble_eq_true rfl)
  rw [lg_entry_eq]
  generalize (lg_sl [.ref (ga G 57), .int x1] ++ List.replicate (2 - (lg_sl [.ref (ga G 57), .int x1]).length) Slot.unset).toArray = ls at hl ⊢
  have hl : lv_has ls 2 [(0, .ref (ga G 57)), (1, .int x1)] := hl
  have hx := C.1.1
  have hb := C.1.2.1
  show W p l e (rmk 3) s m _ below meth c s.heap [] 0 0 _ _
  unfold q_X6_whip at h
  refine lv_aload_n hx hb dX6_whip_0 rfl (lv_at hl 0 rfl) ?_
  refine lv_iload_n hx hb dX6_whip_1 rfl (lv_at hl 1 rfl) ?_
  refine end_i w (run_V (As := [.int x1]) C w hl.1 (c_X6_isPiece l G C.2.2.1 _ _ x1  _ h) kw_14_6 kw_1_5 kw_14_3 kw_14_4 kw_14_5 hd_X6_isPiece ⟨by decide, by decide⟩ (w.recv C (i := 57) (by decide) (pE_6) rfl) rfl (Nat.le_of_ble_eq_true rfl) dX6_whip_2) (fun r1 M2 H locs h w => ?_)
  refine lv_if_eq (tgt := 43) hx hb dX6_whip_5 (by decide) (fun c3 => ?_) (fun c3 => ?_)
  · replace h := h.1 c3
    refine lv_iconst (v := -1) hx hb dX6_whip_43 (by decide) ?_
    exact t_X6_whip_44 C M2 (-1 : Int32)  w (lv_sub hl [] rfl) h
  replace h := h.2 c3
  refine lv_aload_n hx hb dX6_whip_8 rfl (lv_at hl 0 rfl) ?_
  refine lv_iload_n hx hb dX6_whip_9 rfl (lv_at hl 1 rfl) ?_
  refine end_i w (run_V (As := [.int x1]) C w hl.1 (c_X6_strengthOf l G C.2.2.1 _ _ x1  _ h) kw_22_3 kw_1_5 kw_22_0 kw_22_1 kw_22_2 hd_X6_strengthOf ⟨by decide, by decide⟩ (w.recv C (i := 57) (by decide) (pE_6) rfl) rfl (Nat.le_of_ble_eq_true rfl) dX6_whip_10) (fun r4 M5 H locs h w => ?_)
  refine lv_aload_n hx hb dX6_whip_13 rfl (lv_at hl 0 rfl) ?_
  refine lv_iload_n hx hb dX6_whip_14 rfl (lv_at hl 1 rfl) ?_
  refine lv_iconst (v := 0) hx hb dX6_whip_15 (by decide) ?_
  refine end_i w (run_V (As := [.int x1, .int (0 : Int32)]) C w hl.1 (c_X6_get l G C.2.2.1 _ _ x1 (0 : Int32)  _ h) kw_14_10 kw_1_5 kw_14_7 kw_14_8 kw_14_9 hd_X6_get ⟨by decide, by decide⟩ (w.recv C (i := 57) (by decide) (pE_6) rfl) rfl (Nat.le_of_ble_eq_true rfl) dX6_whip_16) (fun r6 M7 H locs h w => ?_)
  refine lv_aload_n hx hb dX6_whip_19 rfl (lv_at hl 0 rfl) ?_
  refine lv_iload_n hx hb dX6_whip_20 rfl (lv_at hl 1 rfl) ?_
  refine lv_iconst (v := 1) hx hb dX6_whip_21 (by decide) ?_
  refine end_i w (run_V (As := [.int x1, .int (1 : Int32)]) C w hl.1 (c_X6_get l G C.2.2.1 _ _ x1 (1 : Int32)  _ h) kw_14_10 kw_1_5 kw_14_7 kw_14_8 kw_14_9 hd_X6_get ⟨by decide, by decide⟩ (w.recv C (i := 57) (by decide) (pE_6) rfl) rfl (Nat.le_of_ble_eq_true rfl) dX6_whip_22) (fun r8 M9 H locs h w => ?_)
  refine end_i w (run_S (As := [.int r6, .int r8]) C w hl.1 (c_X6_giveBy l G C.2.2.1 _ _ r6 r8  _ h) kw_14_16 kw_1_5 kw_14_14 kw_14_15 hd_X6_giveBy ⟨by decide, by decide⟩ rfl (Nat.le_of_ble_eq_true rfl) dX6_whip_25) (fun r10 M11 H locs h w => ?_)
  refine lv_imul hx hb dX6_whip_28 ?_
  refine lv_aload_n hx hb dX6_whip_29 rfl (lv_at hl 0 rfl) ?_
  refine lv_iload_n hx hb dX6_whip_30 rfl (lv_at hl 1 rfl) ?_
  refine lv_iconst (v := 2) hx hb dX6_whip_31 (by decide) ?_
  refine end_i w (run_V (As := [.int x1, .int (2 : Int32)]) C w hl.1 (c_X6_get l G C.2.2.1 _ _ x1 (2 : Int32)  _ h) kw_14_10 kw_1_5 kw_14_7 kw_14_8 kw_14_9 hd_X6_get ⟨by decide, by decide⟩ (w.recv C (i := 57) (by decide) (pE_6) rfl) rfl (Nat.le_of_ble_eq_true rfl) dX6_whip_32) (fun r12 M13 H locs h w => ?_)
  refine lv_imul hx hb dX6_whip_35 ?_
  refine lv_sipush (v := 10000) hx hb dX6_whip_36 (by decide) ?_
  refine lv_idiv hx hb dX6_whip_39 (by decide) ?_
  refine lv_goto (tgt := 44) hx hb dX6_whip_40 (by decide) ?_
  exact t_X6_whip_44 C M13 (((r4 * r10) * r12) / (10000 : Int32))  w (lv_sub hl [] rfl) h
def j_X0_pullsAbove_24 (k4 : Mem → Int32 → Int32 → Int32 → Prop) (post : Int32 → Mem → Prop) (M : Mem) (x1 : Int32) (x2 : Int32) (x3 : Int32) : Prop := k4 M x1 x2 (x3 + (1 : Int32))
def b_X0_pullsAbove_4 (k4 : Mem → Int32 → Int32 → Int32 → Prop) (post : Int32 → Mem → Prop) (M : Mem) (x1 : Int32) (x2 : Int32) (x3 : Int32) : Prop := ((M 4 4) ≤ x3 → (post x2 M)) ∧ (¬ ((M 4 4) ≤ x3) → (q_X0_pullAt M x3 (fun r2 M3 => (r2 ≤ x1 → (j_X0_pullsAbove_24 k4 post M3 x1 x2 x3)) ∧ (¬ (r2 ≤ x1) → (j_X0_pullsAbove_24 k4 post M3 x1 (x2 + (1 : Int32)) x3)))))
def lp_X0_pullsAbove_4 (post : Int32 → Mem → Prop) : Nat → Mem → Int32 → Int32 → Int32 → Prop
  | 0 => fun _ _ _ _ => False
  | n + 1 => fun M x1 x2 x3 => b_X0_pullsAbove_4 (lp_X0_pullsAbove_4 post n) post M x1 x2 x3
def q_X0_pullsAbove (M : Mem) (x1 : Int32) (post : Int32 → Mem → Prop) : Prop := ∃ n, lp_X0_pullsAbove_4 post n M x1 (0 : Int32) (0 : Int32)
set_option maxHeartbeats 4000000 in
set_option maxRecDepth 100000 in
theorem t_X0_pullsAbove_24 (C : Cx G p s m args meth c RX0 cX0_pullsAbove 4 (some .int)) {post : Int32 → Mem → Prop} {k4 : Mem → Int32 → Int32 → Int32 → Prop} (hk4 : ∀ (M : Mem) (x1 : Int32) (x2 : Int32) (x3 : Int32) (H : Heap) (locs : List Loc) (ls : Array Slot), Wd G s M H locs → lv_has ls 4 [(0, .ref (ga G 4)), (1, .int x1), (2, .int x2), (3, .int x3)] → k4 M x1 x2 x3 → W p l e (rmk 5) s m args below meth c H locs 0 0 (MQ below (va_Qi post (Qw G) (Af G s.heap.size)) args s 0 0 (Af G s.heap.size)) (F0 m 4 ls [])) (M : Mem) (x1 : Int32) (x2 : Int32) (x3 : Int32) {H : Heap} {locs : List Loc} {ls : Array Slot} (w : Wd G s M H locs) (hl : lv_has ls 4 [(0, .ref (ga G 4)), (1, .int x1), (2, .int x2), (3, .int x3)]) (h : j_X0_pullsAbove_24 k4 post M x1 x2 x3) : W p l e (rmk 5) s m args below meth c H locs 0 0 (MQ below (va_Qi post (Qw G) (Af G s.heap.size)) args s 0 0 (Af G s.heap.size)) (F0 m 24 ls []) := by
  have hx := C.1.1
  have hb := C.1.2.1
  unfold j_X0_pullsAbove_24 at h
  refine lv_iinc (v := (x3 + (1 : Int32))) (lv' := [(3, .int (x3 + (1 : Int32))), (0, .ref (ga G 4)), (1, .int x1), (2, .int x2)]) hx hb dX0_pullsAbove_24 hl (k := 3) rfl rfl (by decide) rfl (fun ls hl => ?_)
  refine lv_goto (tgt := 4) hx hb dX0_pullsAbove_27 (by decide) ?_
  exact hk4 M x1 x2 (x3 + (1 : Int32)) _ _ _  w (lv_sub hl [1, 2, 3, 0] rfl) h
set_option maxHeartbeats 4000000 in
set_option maxRecDepth 100000 in
theorem t_X0_pullsAbove_4 (C : Cx G p s m args meth c RX0 cX0_pullsAbove 4 (some .int)) {post : Int32 → Mem → Prop} : ∀ (n : Nat) (M : Mem) (x1 : Int32) (x2 : Int32) (x3 : Int32) {H : Heap} {locs : List Loc} {ls : Array Slot} (w : Wd G s M H locs) (hl : lv_has ls 4 [(0, .ref (ga G 4)), (1, .int x1), (2, .int x2), (3, .int x3)]) (h : lp_X0_pullsAbove_4 post n M x1 x2 x3), W p l e (rmk 5) s m args below meth c H locs 0 0 (MQ below (va_Qi post (Qw G) (Af G s.heap.size)) args s 0 0 (Af G s.heap.size)) (F0 m 4 ls []) := by
  have hx := C.1.1
  have hb := C.1.2.1
  intro n9
  induction n9 with
  | zero => intro M x1 x2 x3 H locs ls w hl h; exact absurd h id
  | succ n9 ih9 =>
    intro M x1 x2 x3 H locs ls w hl h
    have hk4 : ∀ (M : Mem) (x1 : Int32) (x2 : Int32) (x3 : Int32) (H : Heap) (locs : List Loc) (ls : Array Slot), Wd G s M H locs → lv_has ls 4 [(0, .ref (ga G 4)), (1, .int x1), (2, .int x2), (3, .int x3)] → lp_X0_pullsAbove_4 post n9 M x1 x2 x3 → W p l e (rmk 5) s m args below meth c H locs 0 0 (MQ below (va_Qi post (Qw G) (Af G s.heap.size)) args s 0 0 (Af G s.heap.size)) (F0 m 4 ls []) := fun M x1 x2 x3 H locs ls w hl h => ih9 M x1 x2 x3 w hl h
    replace h : b_X0_pullsAbove_4 (lp_X0_pullsAbove_4 post n9) post M x1 x2 x3 := h
    unfold b_X0_pullsAbove_4 at h
    refine lv_iload_n hx hb dX0_pullsAbove_4 rfl (lv_at hl 3 rfl) ?_
    refine lv_aload_n hx hb dX0_pullsAbove_5 rfl (lv_at hl 0 rfl) ?_
    refine gt_0_4 C w kw_4_2 dX0_pullsAbove_6 ?_
    refine lv_icmp_ge (tgt := 30) hx hb dX0_pullsAbove_9 (by decide) (fun c1 => ?_) (fun c1 => ?_)
    · replace h := h.1 c1
      refine lv_iload_n hx hb dX0_pullsAbove_30 rfl (lv_at hl 2 rfl) ?_
      exact ret_i C w h dX0_pullsAbove_31
    replace h := h.2 c1
    refine lv_aload_n hx hb dX0_pullsAbove_12 rfl (lv_at hl 0 rfl) ?_
    refine lv_iload_n hx hb dX0_pullsAbove_13 rfl (lv_at hl 3 rfl) ?_
    refine end_i w (run_V (As := [.int x3]) C w hl.1 (c_X0_pullAt l G C.2.2.1 _ _ x3  _ h) kw_19_20 kw_1_21 kw_22_19 kw_19_18 kw_19_19 hd_X0_pullAt ⟨by decide, by decide⟩ (w.recv C (i := 4) (by decide) (pE_0) rfl) rfl (Nat.le_of_ble_eq_true rfl) dX0_pullsAbove_14) (fun r2 M3 H locs h w => ?_)
    refine lv_iload_n hx hb dX0_pullsAbove_17 rfl (lv_at hl 1 rfl) ?_
    refine lv_icmp_le (tgt := 24) hx hb dX0_pullsAbove_18 (by decide) (fun c4 => ?_) (fun c4 => ?_)
    · replace h := h.1 c4
      exact t_X0_pullsAbove_24 C hk4 M3 x1 x2 x3  w (lv_sub hl [0, 1, 2, 3] rfl) h
    replace h := h.2 c4
    refine lv_iinc (v := (x2 + (1 : Int32))) (lv' := [(2, .int (x2 + (1 : Int32))), (0, .ref (ga G 4)), (1, .int x1), (3, .int x3)]) hx hb dX0_pullsAbove_21 hl (k := 2) rfl rfl (by decide) rfl (fun ls hl => ?_)
    exact t_X0_pullsAbove_24 C hk4 M3 x1 (x2 + (1 : Int32)) x3  w (lv_sub hl [1, 2, 0, 3] rfl) h
set_option maxHeartbeats 4000000 in
set_option maxRecDepth 100000 in
theorem c_X0_pullsAbove (l : Launch) (G : GG) (hG : Ag G) (sz : Nat) (M : Mem) (x1 : Int32) (post : Int32 → Mem → Prop) (h : q_X0_pullsAbove M x1 post) : Met l yX0_pullsAbove (Cond.code yX0_pullsAbove cX0_pullsAbove 4 (some .int) :: wsL_law) (rmk 5) (va_Pc [.ref (ga G 4), .int x1] (Pw G sz M)) (va_Qi post (Qw G) (Af G sz)) 0 0 (Af G sz) := by
  refine Met.ofW (cc := cX0_pullsAbove) (maxL := 4) (ret := (some .int)) (by decide) rfl ?_
  intro p e s m args below meth c s₁ B hml hv
  obtain ⟨rfl, hsz, hE, hP⟩ := hv
  subst hsz
  have C := Cx.of (own := RX0) hG hE rfl hml B
  have w : Wd G s M s.heap [] := ⟨hP, va_S.rf⟩
  have hl := lv_entry [.ref (ga G 4), .int x1] (n := 4) (Nat.le_of_ble_eq_true rfl)
  rw [lg_entry_eq]
  generalize (lg_sl [.ref (ga G 4), .int x1] ++ List.replicate (4 - (lg_sl [.ref (ga G 4), .int x1]).length) Slot.unset).toArray = ls at hl ⊢
  have hl : lv_has ls 4 [(0, .ref (ga G 4)), (1, .int x1)] := hl
  have hx := C.1.1
  have hb := C.1.2.1
  show W p l e (rmk 5) s m _ below meth c s.heap [] 0 0 _ _
  unfold q_X0_pullsAbove at h
  refine lv_iconst (v := 0) hx hb dX0_pullsAbove_0 (by decide) ?_
  refine lv_istore_n (lv' := [(2, .int (0 : Int32)), (0, .ref (ga G 4)), (1, .int x1)]) hx hb dX0_pullsAbove_1 rfl hl (by decide) rfl (fun ls hl => ?_)
  refine lv_iconst (v := 0) hx hb dX0_pullsAbove_2 (by decide) ?_
  refine lv_istore_n (lv' := [(3, .int (0 : Int32)), (2, .int (0 : Int32)), (0, .ref (ga G 4)), (1, .int x1)]) hx hb dX0_pullsAbove_3 rfl hl (by decide) rfl (fun ls hl => ?_)
  obtain ⟨n, h⟩ := h
  exact t_X0_pullsAbove_4 C n M x1 (0 : Int32) (0 : Int32)  w (lv_sub hl [2, 3, 1, 0] rfl) h
def j_X5_renders_33 (post : Int32 → Mem → Prop) (M : Mem) (y0 : Int32) : Prop := post y0 M
def q_X5_renders (M : Mem) (x1 : Int32) (post : Int32 → Mem → Prop) : Prop := q_X5_isWithin M x1 (0 : Int32) (9999 : Int32) (fun r1 M2 => (r1 = 0 → (post (-1 : Int32) M2)) ∧ (¬ (r1 = 0) → (q_X5_layLine M2  (fun r4 M5 => (r4 = 0 → (j_X5_renders_33 post M5 (-3 : Int32))) ∧ (¬ (r4 = 0) → (q_X0_pullsAbove M5 x1 (fun r7 M8 => j_X5_renders_33 post M8 r7)))))))
set_option maxHeartbeats 4000000 in
set_option maxRecDepth 100000 in
theorem t_X5_renders_33 (C : Cx G p s m args meth c RX5 cX5_renders 2 (some .int)) {post : Int32 → Mem → Prop} (M : Mem) (y0 : Int32) {H : Heap} {locs : List Loc} {ls : Array Slot} (w : Wd G s M H locs) (hl : lv_has ls 2 []) (h : j_X5_renders_33 post M y0) : W p l e (rmk 6) s m args below meth c H locs 0 0 (MQ below (va_Qi post (Qw G) (Af G s.heap.size)) args s 0 0 (Af G s.heap.size)) (F0 m 33 ls [.int y0]) := by
  have hx := C.1.1
  have hb := C.1.2.1
  unfold j_X5_renders_33 at h
  exact ret_i C w h dX5_renders_33
set_option maxHeartbeats 4000000 in
set_option maxRecDepth 100000 in
theorem c_X5_renders (l : Launch) (G : GG) (hG : Ag G) (sz : Nat) (M : Mem) (x1 : Int32) (post : Int32 → Mem → Prop) (h : q_X5_renders M x1 post) : Met l yX5_renders (Cond.code yX5_renders cX5_renders 2 (some .int) :: wsL_law) (rmk 6) (va_Pc [.ref (ga G 0), .int x1] (Pw G sz M)) (va_Qi post (Qw G) (Af G sz)) 0 0 (Af G sz) := by
  refine Met.ofW (cc := cX5_renders) (maxL := 2) (ret := (some .int)) (by decide) rfl ?_
  intro p e s m args below meth c s₁ B hml hv
  obtain ⟨rfl, hsz, hE, hP⟩ := hv
  subst hsz
  have C := Cx.of (own := RX5) hG hE rfl hml B
  have w : Wd G s M s.heap [] := ⟨hP, va_S.rf⟩
  have hl := lv_entry [.ref (ga G 0), .int x1] (n := 2) (Nat.le_of_ble_eq_true rfl)
  rw [lg_entry_eq]
  generalize (lg_sl [.ref (ga G 0), .int x1] ++ List.replicate (2 - (lg_sl [.ref (ga G 0), .int x1]).length) Slot.unset).toArray = ls at hl ⊢
  have hl : lv_has ls 2 [(0, .ref (ga G 0)), (1, .int x1)] := hl
  have hx := C.1.1
  have hb := C.1.2.1
  show W p l e (rmk 6) s m _ below meth c s.heap [] 0 0 _ _
  unfold q_X5_renders at h
  refine lv_iload_n hx hb dX5_renders_0 rfl (lv_at hl 1 rfl) ?_
  refine lv_iconst (v := 0) hx hb dX5_renders_1 (by decide) ?_
  refine lv_sipush (v := 9999) hx hb dX5_renders_2 (by decide) ?_
  refine end_i w (run_S (As := [.int x1, .int (0 : Int32), .int (9999 : Int32)]) C w hl.1 (c_X5_isWithin l G C.2.2.1 _ _ x1 (0 : Int32) (9999 : Int32)  _ h) kw_6_8 kw_1_2 kw_6_6 kw_6_7 hd_X5_isWithin ⟨by decide, by decide⟩ rfl (Nat.le_of_ble_eq_true rfl) dX5_renders_5) (fun r1 M2 H locs h w => ?_)
  refine lv_if_ne (tgt := 13) hx hb dX5_renders_8 (by decide) (fun c3 => ?_) (fun c3 => ?_)
  · replace h := h.2 c3
    refine lv_aload_n hx hb dX5_renders_13 rfl (lv_at hl 0 rfl) ?_
    refine end_i w (run_V (As := []) C w hl.1 (c_X5_layLine l G C.2.2.1 _ _   _ h) kw_15_21 kw_1_2 kw_15_18 kw_15_19 kw_15_20 hd_X5_layLine ⟨by decide, by decide⟩ (w.recv C (i := 0) (by decide) (pE_5) rfl) rfl (Nat.le_of_ble_eq_true rfl) dX5_renders_14) (fun r4 M5 H locs h w => ?_)
    refine lv_if_eq (tgt := 31) hx hb dX5_renders_17 (by decide) (fun c6 => ?_) (fun c6 => ?_)
    · replace h := h.1 c6
      refine lv_bipush (v := -3) hx hb dX5_renders_31 (by decide) ?_
      exact t_X5_renders_33 C M5 (-3 : Int32)  w (lv_sub hl [] rfl) h
    replace h := h.2 c6
    refine lv_aload_n hx hb dX5_renders_20 rfl (lv_at hl 0 rfl) ?_
    refine gt_5_3 C w kw_1_22 dX5_renders_21 ?_
    refine lv_iload_n hx hb dX5_renders_24 rfl (lv_at hl 1 rfl) ?_
    refine end_i w (run_VN (As := [.int x1]) C w hl.1 (c_X0_pullsAbove l G C.2.2.1 _ _ x1  _ h) kw_31_8 kw_1_21 kn_73 kw_31_6 kw_31_7 hd_X0_pullsAbove ⟨by decide, by decide⟩ (w.recv C (i := 4) (by decide) (pE_0) rfl) rfl (Nat.le_of_ble_eq_true rfl) dX5_renders_25) (fun r7 M8 H locs h w => ?_)
    refine lv_goto (tgt := 33) hx hb dX5_renders_28 (by decide) ?_
    exact t_X5_renders_33 C M8 r7  w (lv_sub hl [] rfl) h
  replace h := h.1 c3
  refine lv_iconst (v := -1) hx hb dX5_renders_11 (by decide) ?_
  exact ret_i C w h dX5_renders_12
def j_X6_above_36 (k4 : Mem → Int32 → Int32 → Int32 → Prop) (post : Int32 → Mem → Prop) (M : Mem) (y0 : Int32) (y1 : Int32) (x1 : Int32) (x3 : Int32) : Prop := k4 M x1 (y1 + y0) (x3 + (1 : Int32))
def b_X6_above_4 (k4 : Mem → Int32 → Int32 → Int32 → Prop) (post : Int32 → Mem → Prop) (M : Mem) (x1 : Int32) (x2 : Int32) (x3 : Int32) : Prop := ((M 58 6) ≤ x3 → (post x2 M)) ∧ (¬ ((M 58 6) ≤ x3) → (q_X6_pullAt M x3 (M 58 5) (fun r2 M3 => (r2 ≤ x1 → (j_X6_above_36 k4 post M3 (0 : Int32) x2 x1 x3)) ∧ (¬ (r2 ≤ x1) → (j_X6_above_36 k4 post M3 (1 : Int32) x2 x1 x3)))))
def lp_X6_above_4 (post : Int32 → Mem → Prop) : Nat → Mem → Int32 → Int32 → Int32 → Prop
  | 0 => fun _ _ _ _ => False
  | n + 1 => fun M x1 x2 x3 => b_X6_above_4 (lp_X6_above_4 post n) post M x1 x2 x3
def q_X6_above (M : Mem) (x1 : Int32) (post : Int32 → Mem → Prop) : Prop := ∃ n, lp_X6_above_4 post n M x1 (0 : Int32) (0 : Int32)
set_option maxHeartbeats 4000000 in
set_option maxRecDepth 100000 in
theorem t_X6_above_36 (C : Cx G p s m args meth c RX6 cX6_above 4 (some .int)) {post : Int32 → Mem → Prop} {k4 : Mem → Int32 → Int32 → Int32 → Prop} (hk4 : ∀ (M : Mem) (x1 : Int32) (x2 : Int32) (x3 : Int32) (H : Heap) (locs : List Loc) (ls : Array Slot), Wd G s M H locs → lv_has ls 4 [(0, .ref (ga G 57)), (1, .int x1), (2, .int x2), (3, .int x3)] → k4 M x1 x2 x3 → W p l e (rmk 4) s m args below meth c H locs 0 0 (MQ below (va_Qi post (Qw G) (Af G s.heap.size)) args s 0 0 (Af G s.heap.size)) (F0 m 4 ls [])) (M : Mem) (y0 : Int32) (y1 : Int32) (x1 : Int32) (x3 : Int32) {H : Heap} {locs : List Loc} {ls : Array Slot} (w : Wd G s M H locs) (hl : lv_has ls 4 [(0, .ref (ga G 57)), (1, .int x1), (3, .int x3)]) (h : j_X6_above_36 k4 post M y0 y1 x1 x3) : W p l e (rmk 4) s m args below meth c H locs 0 0 (MQ below (va_Qi post (Qw G) (Af G s.heap.size)) args s 0 0 (Af G s.heap.size)) (F0 m 36 ls [.int y0, .int y1]) := by
  have hx := C.1.1
  have hb := C.1.2.1
  unfold j_X6_above_36 at h
  refine lv_iadd hx hb dX6_above_36 ?_
  refine lv_istore_n (lv' := [(2, .int (y1 + y0)), (0, .ref (ga G 57)), (1, .int x1), (3, .int x3)]) hx hb dX6_above_37 rfl hl (by decide) rfl (fun ls hl => ?_)
  refine lv_iinc (v := (x3 + (1 : Int32))) (lv' := [(3, .int (x3 + (1 : Int32))), (2, .int (y1 + y0)), (0, .ref (ga G 57)), (1, .int x1)]) hx hb dX6_above_38 hl (k := 3) rfl rfl (by decide) rfl (fun ls hl => ?_)
  refine lv_goto (tgt := 4) hx hb dX6_above_41 (by decide) ?_
  exact hk4 M x1 (y1 + y0) (x3 + (1 : Int32)) _ _ _  w (lv_sub hl [2, 3, 1, 0] rfl) h
set_option maxHeartbeats 4000000 in
set_option maxRecDepth 100000 in
theorem t_X6_above_4 (C : Cx G p s m args meth c RX6 cX6_above 4 (some .int)) {post : Int32 → Mem → Prop} : ∀ (n : Nat) (M : Mem) (x1 : Int32) (x2 : Int32) (x3 : Int32) {H : Heap} {locs : List Loc} {ls : Array Slot} (w : Wd G s M H locs) (hl : lv_has ls 4 [(0, .ref (ga G 57)), (1, .int x1), (2, .int x2), (3, .int x3)]) (h : lp_X6_above_4 post n M x1 x2 x3), W p l e (rmk 4) s m args below meth c H locs 0 0 (MQ below (va_Qi post (Qw G) (Af G s.heap.size)) args s 0 0 (Af G s.heap.size)) (F0 m 4 ls []) := by
  have hx := C.1.1
  have hb := C.1.2.1
  intro n9
  induction n9 with
  | zero => intro M x1 x2 x3 H locs ls w hl h; exact absurd h id
  | succ n9 ih9 =>
    intro M x1 x2 x3 H locs ls w hl h
    have hk4 : ∀ (M : Mem) (x1 : Int32) (x2 : Int32) (x3 : Int32) (H : Heap) (locs : List Loc) (ls : Array Slot), Wd G s M H locs → lv_has ls 4 [(0, .ref (ga G 57)), (1, .int x1), (2, .int x2), (3, .int x3)] → lp_X6_above_4 post n9 M x1 x2 x3 → W p l e (rmk 4) s m args below meth c H locs 0 0 (MQ below (va_Qi post (Qw G) (Af G s.heap.size)) args s 0 0 (Af G s.heap.size)) (F0 m 4 ls []) := fun M x1 x2 x3 H locs ls w hl h => ih9 M x1 x2 x3 w hl h
    replace h : b_X6_above_4 (lp_X6_above_4 post n9) post M x1 x2 x3 := h
    unfold b_X6_above_4 at h
    refine lv_iload_n hx hb dX6_above_4 rfl (lv_at hl 3 rfl) ?_
    refine lv_aload_n hx hb dX6_above_5 rfl (lv_at hl 0 rfl) ?_
    refine gt_6_0 C w kw_5_0 dX6_above_6 ?_
    refine lv_bipush (v := 6) hx hb dX6_above_9 (by decide) ?_
    refine pw_ld C w (i := 58) (by decide) pE_58 (vl (x := (6 : Int32)) (by decide)) (k := 6) (by decide) dX6_above_11 ?_
    refine lv_icmp_ge (tgt := 44) hx hb dX6_above_12 (by decide) (fun c1 => ?_) (fun c1 => ?_)
    · replace h := h.1 c1
      refine lv_iload_n hx hb dX6_above_44 rfl (lv_at hl 2 rfl) ?_
      exact ret_i C w h dX6_above_45
    replace h := h.2 c1
    refine lv_iload_n hx hb dX6_above_15 rfl (lv_at hl 2 rfl) ?_
    refine lv_aload_n hx hb dX6_above_16 rfl (lv_at hl 0 rfl) ?_
    refine lv_iload_n hx hb dX6_above_17 rfl (lv_at hl 3 rfl) ?_
    refine lv_aload_n hx hb dX6_above_18 rfl (lv_at hl 0 rfl) ?_
    refine gt_6_0 C w kw_5_0 dX6_above_19 ?_
    refine lv_iconst (v := 5) hx hb dX6_above_22 (by decide) ?_
    refine pw_ld C w (i := 58) (by decide) pE_58 (vl (x := (5 : Int32)) (by decide)) (k := 5) (by decide) dX6_above_23 ?_
    refine end_i w (run_V (As := [.int x3, .int (M 58 5)]) C w hl.1 (c_X6_pullAt l G C.2.2.1 _ _ x3 (M 58 5)  _ h) kw_20_16 kw_1_5 kw_20_13 kw_20_14 kw_20_15 hd_X6_pullAt ⟨by decide, by decide⟩ (w.recv C (i := 57) (by decide) (pE_6) rfl) rfl (Nat.le_of_ble_eq_true rfl) dX6_above_24) (fun r2 M3 H locs h w => ?_)
    refine lv_iload_n hx hb dX6_above_27 rfl (lv_at hl 1 rfl) ?_
    refine lv_icmp_le (tgt := 35) hx hb dX6_above_28 (by decide) (fun c4 => ?_) (fun c4 => ?_)
    · replace h := h.1 c4
      refine lv_iconst (v := 0) hx hb dX6_above_35 (by decide) ?_
      exact t_X6_above_36 C hk4 M3 (0 : Int32) x2 x1 x3  w (lv_sub hl [0, 1, 3] rfl) h
    replace h := h.2 c4
    refine lv_iconst (v := 1) hx hb dX6_above_31 (by decide) ?_
    refine lv_goto (tgt := 36) hx hb dX6_above_32 (by decide) ?_
    exact t_X6_above_36 C hk4 M3 (1 : Int32) x2 x1 x3  w (lv_sub hl [0, 1, 3] rfl) h
set_option maxHeartbeats 4000000 in
set_option maxRecDepth 100000 in
theorem c_X6_above (l : Launch) (G : GG) (hG : Ag G) (sz : Nat) (M : Mem) (x1 : Int32) (post : Int32 → Mem → Prop) (h : q_X6_above M x1 post) : Met l yX6_above (Cond.code yX6_above cX6_above 4 (some .int) :: wsL_law) (rmk 4) (va_Pc [.ref (ga G 57), .int x1] (Pw G sz M)) (va_Qi post (Qw G) (Af G sz)) 0 0 (Af G sz) := by
  refine Met.ofW (cc := cX6_above) (maxL := 4) (ret := (some .int)) (by decide) rfl ?_
  intro p e s m args below meth c s₁ B hml hv
  obtain ⟨rfl, hsz, hE, hP⟩ := hv
  subst hsz
  have C := Cx.of (own := RX6) hG hE rfl hml B
  have w : Wd G s M s.heap [] := ⟨hP, va_S.rf⟩
  have hl := lv_entry [.ref (ga G 57), .int x1] (n := 4) (Nat.le_of_ble_eq_true rfl)
  rw [lg_entry_eq]
  generalize (lg_sl [.ref (ga G 57), .int x1] ++ List.replicate (4 - (lg_sl [.ref (ga G 57), .int x1]).length) Slot.unset).toArray = ls at hl ⊢
  have hl : lv_has ls 4 [(0, .ref (ga G 57)), (1, .int x1)] := hl
  have hx := C.1.1
  have hb := C.1.2.1
  show W p l e (rmk 4) s m _ below meth c s.heap [] 0 0 _ _
  unfold q_X6_above at h
  refine lv_iconst (v := 0) hx hb dX6_above_0 (by decide) ?_
  refine lv_istore_n (lv' := [(2, .int (0 : Int32)), (0, .ref (ga G 57)), (1, .int x1)]) hx hb dX6_above_1 rfl hl (by decide) rfl (fun ls hl => ?_)
  refine lv_iconst (v := 0) hx hb dX6_above_2 (by decide) ?_
  refine lv_istore_n (lv' := [(3, .int (0 : Int32)), (2, .int (0 : Int32)), (0, .ref (ga G 57)), (1, .int x1)]) hx hb dX6_above_3 rfl hl (by decide) rfl (fun ls hl => ?_)
  obtain ⟨n, h⟩ := h
  exact t_X6_above_4 C n M x1 (0 : Int32) (0 : Int32)  w (lv_sub hl [2, 3, 1, 0] rfl) h
end WALK
