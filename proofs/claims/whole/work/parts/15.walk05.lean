theorem dX6_pull_0 : decode cX6_pull 0 = .ok (.iload_n 1, 1) := by decide +kernel
theorem dX6_pull_1 : decode cX6_pull 1 = .ok (.i2l, 1) := by decide +kernel
theorem dX6_pull_2 : decode cX6_pull 2 = .ok (.lconst 0, 1) := by decide +kernel
theorem dX6_pull_3 : decode cX6_pull 3 = .ok (.ldc2_w 180, 3) := by decide +kernel
theorem dX6_pull_6 : decode cX6_pull 6 = .ok (.invokestatic 47, 3) := by decide +kernel
theorem dX6_pull_9 : decode cX6_pull 9 = .ok (.ifCond .ne 5, 3) := by decide +kernel
theorem dX6_pull_12 : decode cX6_pull 12 = .ok (.iconst (-1), 1) := by decide +kernel
theorem dX6_pull_13 : decode cX6_pull 13 = .ok (.ireturn, 1) := by decide +kernel
theorem dX6_pull_14 : decode cX6_pull 14 = .ok (.aload_n 0, 1) := by decide +kernel
theorem dX6_pull_15 : decode cX6_pull 15 = .ok (.invokevirtual 170, 3) := by decide +kernel
theorem dX6_pull_18 : decode cX6_pull 18 = .ok (.ifCond .ne 6, 3) := by decide +kernel
theorem dX6_pull_21 : decode cX6_pull 21 = .ok (.bipush (-3), 2) := by decide +kernel
theorem dX6_pull_23 : decode cX6_pull 23 = .ok (.ireturn, 1) := by decide +kernel
theorem dX6_pull_24 : decode cX6_pull 24 = .ok (.aload_n 0, 1) := by decide +kernel
theorem dX6_pull_25 : decode cX6_pull 25 = .ok (.aload_n 0, 1) := by decide +kernel
theorem dX6_pull_26 : decode cX6_pull 26 = .ok (.invokevirtual 173, 3) := by decide +kernel
theorem dX6_pull_29 : decode cX6_pull 29 = .ok (.invokevirtual 176, 3) := by decide +kernel
theorem dX6_pull_32 : decode cX6_pull 32 = .ok (.aload_n 0, 1) := by decide +kernel
theorem dX6_pull_33 : decode cX6_pull 33 = .ok (.iload_n 1, 1) := by decide +kernel
theorem dX6_pull_34 : decode cX6_pull 34 = .ok (.aload_n 0, 1) := by decide +kernel
theorem dX6_pull_35 : decode cX6_pull 35 = .ok (.getfield 9, 3) := by decide +kernel
theorem dX6_pull_38 : decode cX6_pull 38 = .ok (.iconst 5, 1) := by decide +kernel
theorem dX6_pull_39 : decode cX6_pull 39 = .ok (.iaload, 1) := by decide +kernel
theorem dX6_pull_40 : decode cX6_pull 40 = .ok (.invokevirtual 182, 3) := by decide +kernel
theorem dX6_pull_43 : decode cX6_pull 43 = .ok (.ireturn, 1) := by decide +kernel
theorem dX4_firstWeakerThan_0 : decode cX4_firstWeakerThan 0 = .ok (.iconst 0, 1) := by decide +kernel
theorem dX4_firstWeakerThan_1 : decode cX4_firstWeakerThan 1 = .ok (.istore_n 2, 1) := by decide +kernel
theorem dX4_firstWeakerThan_2 : decode cX4_firstWeakerThan 2 = .ok (.iload_n 2, 1) := by decide +kernel
theorem dX4_firstWeakerThan_3 : decode cX4_firstWeakerThan 3 = .ok (.aload_n 0, 1) := by decide +kernel
theorem dX4_firstWeakerThan_4 : decode cX4_firstWeakerThan 4 = .ok (.getfield 17, 3) := by decide +kernel
theorem dX4_firstWeakerThan_7 : decode cX4_firstWeakerThan 7 = .ok (.if_icmp .ge 34, 3) := by decide +kernel
theorem dX4_firstWeakerThan_10 : decode cX4_firstWeakerThan 10 = .ok (.iload_n 1, 1) := by decide +kernel
theorem dX4_firstWeakerThan_11 : decode cX4_firstWeakerThan 11 = .ok (.aload_n 0, 1) := by decide +kernel
theorem dX4_firstWeakerThan_12 : decode cX4_firstWeakerThan 12 = .ok (.getfield 11, 3) := by decide +kernel
theorem dX4_firstWeakerThan_15 : decode cX4_firstWeakerThan 15 = .ok (.iload_n 2, 1) := by decide +kernel
theorem dX4_firstWeakerThan_16 : decode cX4_firstWeakerThan 16 = .ok (.aaload, 1) := by decide +kernel
theorem dX4_firstWeakerThan_17 : decode cX4_firstWeakerThan 17 = .ok (.getfield 95, 3) := by decide +kernel
theorem dX4_firstWeakerThan_20 : decode cX4_firstWeakerThan 20 = .ok (.aload_n 0, 1) := by decide +kernel
theorem dX4_firstWeakerThan_21 : decode cX4_firstWeakerThan 21 = .ok (.getfield 11, 3) := by decide +kernel
theorem dX4_firstWeakerThan_24 : decode cX4_firstWeakerThan 24 = .ok (.iload_n 2, 1) := by decide +kernel
theorem dX4_firstWeakerThan_25 : decode cX4_firstWeakerThan 25 = .ok (.aaload, 1) := by decide +kernel
theorem dX4_firstWeakerThan_26 : decode cX4_firstWeakerThan 26 = .ok (.getfield 98, 3) := by decide +kernel
theorem dX4_firstWeakerThan_29 : decode cX4_firstWeakerThan 29 = .ok (.isub, 1) := by decide +kernel
theorem dX4_firstWeakerThan_30 : decode cX4_firstWeakerThan 30 = .ok (.if_icmp .le 5, 3) := by decide +kernel
theorem dX4_firstWeakerThan_33 : decode cX4_firstWeakerThan 33 = .ok (.iload_n 2, 1) := by decide +kernel
theorem dX4_firstWeakerThan_34 : decode cX4_firstWeakerThan 34 = .ok (.ireturn, 1) := by decide +kernel
theorem dX4_firstWeakerThan_35 : decode cX4_firstWeakerThan 35 = .ok (.iinc 2 1, 3) := by decide +kernel
theorem dX4_firstWeakerThan_38 : decode cX4_firstWeakerThan 38 = .ok (.goto (-36), 3) := by decide +kernel
theorem dX4_firstWeakerThan_41 : decode cX4_firstWeakerThan 41 = .ok (.bipush (-4), 2) := by decide +kernel
theorem dX4_firstWeakerThan_43 : decode cX4_firstWeakerThan 43 = .ok (.ireturn, 1) := by decide +kernel
theorem dX1_bear_0 : decode cX1_bear 0 = .ok (.aload_n 0, 1) := by decide +kernel
theorem dX1_bear_1 : decode cX1_bear 1 = .ok (.sipush 999, 3) := by decide +kernel
theorem dX1_bear_4 : decode cX1_bear 4 = .ok (.aload_n 0, 1) := by decide +kernel
theorem dX1_bear_5 : decode cX1_bear 5 = .ok (.getfield 24, 3) := by decide +kernel
theorem dX1_bear_8 : decode cX1_bear 8 = .ok (.aload_n 0, 1) := by decide +kernel
theorem dX1_bear_9 : decode cX1_bear 9 = .ok (.getfield 36, 3) := by decide +kernel
theorem dX1_bear_12 : decode cX1_bear 12 = .ok (.iadd, 1) := by decide +kernel
theorem dX1_bear_13 : decode cX1_bear 13 = .ok (.invokestatic 56, 3) := by decide +kernel
theorem dX1_bear_16 : decode cX1_bear 16 = .ok (.putfield 24, 3) := by decide +kernel
theorem dX1_bear_19 : decode cX1_bear 19 = .ok (.return_, 1) := by decide +kernel
theorem dX4_hurtPieces_0 : decode cX4_hurtPieces 0 = .ok (.iconst 0, 1) := by decide +kernel
theorem dX4_hurtPieces_1 : decode cX4_hurtPieces 1 = .ok (.istore_n 1, 1) := by decide +kernel
theorem dX4_hurtPieces_2 : decode cX4_hurtPieces 2 = .ok (.iload_n 1, 1) := by decide +kernel
theorem dX4_hurtPieces_3 : decode cX4_hurtPieces 3 = .ok (.aload_n 0, 1) := by decide +kernel
theorem dX4_hurtPieces_4 : decode cX4_hurtPieces 4 = .ok (.getfield 17, 3) := by decide +kernel
theorem dX4_hurtPieces_7 : decode cX4_hurtPieces 7 = .ok (.if_icmp .ge 18, 3) := by decide +kernel
theorem dX4_hurtPieces_10 : decode cX4_hurtPieces 10 = .ok (.aload_n 0, 1) := by decide +kernel
theorem dX4_hurtPieces_11 : decode cX4_hurtPieces 11 = .ok (.getfield 11, 3) := by decide +kernel
theorem dX4_hurtPieces_14 : decode cX4_hurtPieces 14 = .ok (.iload_n 1, 1) := by decide +kernel
theorem dX4_hurtPieces_15 : decode cX4_hurtPieces 15 = .ok (.aaload, 1) := by decide +kernel
theorem dX4_hurtPieces_16 : decode cX4_hurtPieces 16 = .ok (.invokevirtual 101, 3) := by decide +kernel
theorem dX4_hurtPieces_19 : decode cX4_hurtPieces 19 = .ok (.iinc 1 1, 3) := by decide +kernel
theorem dX4_hurtPieces_22 : decode cX4_hurtPieces 22 = .ok (.goto (-20), 3) := by decide +kernel
theorem dX4_hurtPieces_25 : decode cX4_hurtPieces 25 = .ok (.return_, 1) := by decide +kernel
theorem dX4_passTenth_0 : decode cX4_passTenth 0 = .ok (.aload_n 1, 1) := by decide +kernel
theorem dX4_passTenth_1 : decode cX4_passTenth 1 = .ok (.aload_n 0, 1) := by decide +kernel
theorem dX4_passTenth_2 : decode cX4_passTenth 2 = .ok (.getfield 39, 3) := by decide +kernel
theorem dX4_passTenth_5 : decode cX4_passTenth 5 = .ok (.invokevirtual 80, 3) := by decide +kernel
theorem dX4_passTenth_8 : decode cX4_passTenth 8 = .ok (.istore_n 2, 1) := by decide +kernel
theorem dX4_passTenth_9 : decode cX4_passTenth 9 = .ok (.aload_n 1, 1) := by decide +kernel
theorem dX4_passTenth_10 : decode cX4_passTenth 10 = .ok (.iload_n 2, 1) := by decide +kernel
theorem dX4_passTenth_11 : decode cX4_passTenth 11 = .ok (.invokevirtual 86, 3) := by decide +kernel
theorem dX4_passTenth_14 : decode cX4_passTenth 14 = .ok (.istore_n 3, 1) := by decide +kernel
theorem dX4_passTenth_15 : decode cX4_passTenth 15 = .ok (.aload_n 0, 1) := by decide +kernel
theorem dX4_passTenth_16 : decode cX4_passTenth 16 = .ok (.dup, 1) := by decide +kernel
theorem dX4_passTenth_17 : decode cX4_passTenth 17 = .ok (.getfield 39, 3) := by decide +kernel
theorem dX4_passTenth_20 : decode cX4_passTenth 20 = .ok (.iconst 1, 1) := by decide +kernel
theorem dX4_passTenth_21 : decode cX4_passTenth 21 = .ok (.iadd, 1) := by decide +kernel
theorem dX4_passTenth_22 : decode cX4_passTenth 22 = .ok (.putfield 39, 3) := by decide +kernel
theorem dX4_passTenth_25 : decode cX4_passTenth 25 = .ok (.iload_n 2, 1) := by decide +kernel
theorem dX4_passTenth_26 : decode cX4_passTenth 26 = .ok (.ifCond .le 13, 3) := by decide +kernel
theorem dX4_passTenth_29 : decode cX4_passTenth 29 = .ok (.aload_n 0, 1) := by decide +kernel
theorem dX4_passTenth_30 : decode cX4_passTenth 30 = .ok (.dup, 1) := by decide +kernel
theorem dX4_passTenth_31 : decode cX4_passTenth 31 = .ok (.getfield 42, 3) := by decide +kernel
theorem dX4_passTenth_34 : decode cX4_passTenth 34 = .ok (.iconst 1, 1) := by decide +kernel
theorem dX4_passTenth_35 : decode cX4_passTenth 35 = .ok (.iadd, 1) := by decide +kernel
theorem dX4_passTenth_36 : decode cX4_passTenth 36 = .ok (.putfield 42, 3) := by decide +kernel
theorem dX4_passTenth_39 : decode cX4_passTenth 39 = .ok (.aload_n 0, 1) := by decide +kernel
theorem dX4_passTenth_40 : decode cX4_passTenth 40 = .ok (.aload_n 0, 1) := by decide +kernel
theorem dX4_passTenth_41 : decode cX4_passTenth 41 = .ok (.iload_n 3, 1) := by decide +kernel
theorem dX4_passTenth_42 : decode cX4_passTenth 42 = .ok (.invokevirtual 89, 3) := by decide +kernel
theorem dX4_passTenth_45 : decode cX4_passTenth 45 = .ok (.putfield 45, 3) := by decide +kernel
theorem dX4_passTenth_48 : decode cX4_passTenth 48 = .ok (.aload_n 0, 1) := by decide +kernel
theorem dX4_passTenth_49 : decode cX4_passTenth 49 = .ok (.getfield 45, 3) := by decide +kernel
theorem dX4_passTenth_52 : decode cX4_passTenth 52 = .ok (.bipush (-4), 2) := by decide +kernel
theorem dX4_passTenth_54 : decode cX4_passTenth 54 = .ok (.if_icmp .eq 11, 3) := by decide +kernel
theorem dX4_passTenth_57 : decode cX4_passTenth 57 = .ok (.aload_n 0, 1) := by decide +kernel
theorem dX4_passTenth_58 : decode cX4_passTenth 58 = .ok (.iload_n 3, 1) := by decide +kernel
theorem dX4_passTenth_59 : decode cX4_passTenth 59 = .ok (.putfield 48, 3) := by decide +kernel
theorem dX4_passTenth_62 : decode cX4_passTenth 62 = .ok (.goto 11, 3) := by decide +kernel
theorem dX4_passTenth_65 : decode cX4_passTenth 65 = .ok (.iload_n 2, 1) := by decide +kernel
theorem dX4_passTenth_66 : decode cX4_passTenth 66 = .ok (.ifCond .le 7, 3) := by decide +kernel
theorem dX4_passTenth_69 : decode cX4_passTenth 69 = .ok (.aload_n 0, 1) := by decide +kernel
theorem dX4_passTenth_70 : decode cX4_passTenth 70 = .ok (.invokevirtual 92, 3) := by decide +kernel
theorem dX4_passTenth_73 : decode cX4_passTenth 73 = .ok (.iload_n 3, 1) := by decide +kernel
theorem dX4_passTenth_74 : decode cX4_passTenth 74 = .ok (.ireturn, 1) := by decide +kernel
theorem dX5_tenth_0 : decode cX5_tenth 0 = .ok (.aload_n 0, 1) := by decide +kernel
theorem dX5_tenth_1 : decode cX5_tenth 1 = .ok (.invokevirtual 110, 3) := by decide +kernel
theorem dX5_tenth_4 : decode cX5_tenth 4 = .ok (.ifCond .eq 17, 3) := by decide +kernel
theorem dX5_tenth_7 : decode cX5_tenth 7 = .ok (.aload_n 0, 1) := by decide +kernel
theorem dX5_tenth_8 : decode cX5_tenth 8 = .ok (.getfield 10, 3) := by decide +kernel
theorem dX5_tenth_11 : decode cX5_tenth 11 = .ok (.aload_n 0, 1) := by decide +kernel
theorem dX5_tenth_12 : decode cX5_tenth 12 = .ok (.getfield 25, 3) := by decide +kernel
theorem dX5_tenth_15 : decode cX5_tenth 15 = .ok (.invokevirtual 139, 3) := by decide +kernel
theorem dX5_tenth_18 : decode cX5_tenth 18 = .ok (.goto 5, 3) := by decide +kernel
theorem dX5_tenth_21 : decode cX5_tenth 21 = .ok (.bipush (-3), 2) := by decide +kernel
theorem dX5_tenth_23 : decode cX5_tenth 23 = .ok (.ireturn, 1) := by decide +kernel
theorem dX6_puts_0 : decode cX6_puts 0 = .ok (.aload_n 0, 1) := by decide +kernel
theorem dX6_puts_1 : decode cX6_puts 1 = .ok (.getfield 9, 3) := by decide +kernel
theorem dX6_puts_4 : decode cX6_puts 4 = .ok (.bipush 12, 2) := by decide +kernel
theorem dX6_puts_6 : decode cX6_puts 6 = .ok (.bipush 6, 2) := by decide +kernel
theorem dX6_puts_8 : decode cX6_puts 8 = .ok (.iload_n 1, 1) := by decide +kernel
theorem dX6_puts_9 : decode cX6_puts 9 = .ok (.imul, 1) := by decide +kernel
theorem dX6_puts_10 : decode cX6_puts 10 = .ok (.iadd, 1) := by decide +kernel
theorem dX6_puts_11 : decode cX6_puts 11 = .ok (.iload_n 2, 1) := by decide +kernel
theorem dX6_puts_12 : decode cX6_puts 12 = .ok (.iadd, 1) := by decide +kernel
theorem dX6_puts_13 : decode cX6_puts 13 = .ok (.iload_n 3, 1) := by decide +kernel
theorem dX6_puts_14 : decode cX6_puts 14 = .ok (.iastore, 1) := by decide +kernel
theorem dX6_puts_15 : decode cX6_puts 15 = .ok (.return_, 1) := by decide +kernel
theorem dX6_strengthOf_0 : decode cX6_strengthOf 0 = .ok (.aload_n 0, 1) := by decide +kernel
theorem dX6_strengthOf_1 : decode cX6_strengthOf 1 = .ok (.iload_n 1, 1) := by decide +kernel
theorem dX6_strengthOf_2 : decode cX6_strengthOf 2 = .ok (.iconst 0, 1) := by decide +kernel
theorem dX6_strengthOf_3 : decode cX6_strengthOf 3 = .ok (.invokevirtual 111, 3) := by decide +kernel
theorem dX6_strengthOf_6 : decode cX6_strengthOf 6 = .ok (.aload_n 0, 1) := by decide +kernel
theorem dX6_strengthOf_7 : decode cX6_strengthOf 7 = .ok (.iload_n 1, 1) := by decide +kernel
theorem dX6_strengthOf_8 : decode cX6_strengthOf 8 = .ok (.iconst 1, 1) := by decide +kernel
theorem dX6_strengthOf_9 : decode cX6_strengthOf 9 = .ok (.invokevirtual 111, 3) := by decide +kernel
theorem dX6_strengthOf_12 : decode cX6_strengthOf 12 = .ok (.invokestatic 114, 3) := by decide +kernel
theorem dX6_strengthOf_15 : decode cX6_strengthOf 15 = .ok (.ireturn, 1) := by decide +kernel
theorem dX6_goesTenth_0 : decode cX6_goesTenth 0 = .ok (.aload_n 0, 1) := by decide +kernel
theorem dX6_goesTenth_1 : decode cX6_goesTenth 1 = .ok (.aload_n 0, 1) := by decide +kernel
theorem dX6_goesTenth_2 : decode cX6_goesTenth 2 = .ok (.getfield 9, 3) := by decide +kernel
theorem dX6_goesTenth_5 : decode cX6_goesTenth 5 = .ok (.iconst 1, 1) := by decide +kernel
theorem dX6_goesTenth_6 : decode cX6_goesTenth 6 = .ok (.iaload, 1) := by decide +kernel
theorem dX6_goesTenth_7 : decode cX6_goesTenth 7 = .ok (.iload_n 1, 1) := by decide +kernel
theorem dX6_goesTenth_8 : decode cX6_goesTenth 8 = .ok (.invokevirtual 182, 3) := by decide +kernel
theorem dX6_goesTenth_11 : decode cX6_goesTenth 11 = .ok (.istore_n 2, 1) := by decide +kernel
theorem dX6_goesTenth_12 : decode cX6_goesTenth 12 = .ok (.aload_n 0, 1) := by decide +kernel
theorem dX6_goesTenth_13 : decode cX6_goesTenth 13 = .ok (.getfield 162, 3) := by decide +kernel
theorem dX6_goesTenth_16 : decode cX6_goesTenth 16 = .ok (.istore_n 3, 1) := by decide +kernel
theorem dX6_goesTenth_17 : decode cX6_goesTenth 17 = .ok (.aload_n 0, 1) := by decide +kernel
theorem dX6_goesTenth_18 : decode cX6_goesTenth 18 = .ok (.bipush (-4), 2) := by decide +kernel
theorem dX6_goesTenth_20 : decode cX6_goesTenth 20 = .ok (.putfield 185, 3) := by decide +kernel
theorem dX6_goesTenth_23 : decode cX6_goesTenth 23 = .ok (.iconst 0, 1) := by decide +kernel
theorem dX6_goesTenth_24 : decode cX6_goesTenth 24 = .ok (.istore 4, 2) := by decide +kernel
theorem dX6_goesTenth_26 : decode cX6_goesTenth 26 = .ok (.iload 4, 2) := by decide +kernel
theorem dX6_goesTenth_28 : decode cX6_goesTenth 28 = .ok (.aload_n 0, 1) := by decide +kernel
theorem dX6_goesTenth_29 : decode cX6_goesTenth 29 = .ok (.getfield 9, 3) := by decide +kernel
theorem dX6_goesTenth_32 : decode cX6_goesTenth 32 = .ok (.iconst 0, 1) := by decide +kernel
theorem dX6_goesTenth_33 : decode cX6_goesTenth 33 = .ok (.iaload, 1) := by decide +kernel
theorem dX6_goesTenth_34 : decode cX6_goesTenth 34 = .ok (.if_icmp .ge 40, 3) := by decide +kernel
theorem dX6_goesTenth_37 : decode cX6_goesTenth 37 = .ok (.aload_n 0, 1) := by decide +kernel
theorem dX6_goesTenth_38 : decode cX6_goesTenth 38 = .ok (.getfield 185, 3) := by decide +kernel
theorem dX6_goesTenth_41 : decode cX6_goesTenth 41 = .ok (.ifCond .ge 33, 3) := by decide +kernel
theorem dX6_goesTenth_44 : decode cX6_goesTenth 44 = .ok (.iload_n 2, 1) := by decide +kernel
theorem dX6_goesTenth_45 : decode cX6_goesTenth 45 = .ok (.aload_n 0, 1) := by decide +kernel
theorem dX6_goesTenth_46 : decode cX6_goesTenth 46 = .ok (.iload 4, 2) := by decide +kernel
theorem dX6_goesTenth_48 : decode cX6_goesTenth 48 = .ok (.invokevirtual 188, 3) := by decide +kernel
theorem dX6_goesTenth_51 : decode cX6_goesTenth 51 = .ok (.aload_n 0, 1) := by decide +kernel
theorem dX6_goesTenth_52 : decode cX6_goesTenth 52 = .ok (.iload 4, 2) := by decide +kernel
theorem dX6_goesTenth_54 : decode cX6_goesTenth 54 = .ok (.iconst 3, 1) := by decide +kernel
theorem dX6_goesTenth_55 : decode cX6_goesTenth 55 = .ok (.invokevirtual 111, 3) := by decide +kernel
theorem dX6_goesTenth_58 : decode cX6_goesTenth 58 = .ok (.isub, 1) := by decide +kernel
theorem dX6_goesTenth_59 : decode cX6_goesTenth 59 = .ok (.if_icmp .le 9, 3) := by decide +kernel
theorem dX6_goesTenth_62 : decode cX6_goesTenth 62 = .ok (.aload_n 0, 1) := by decide +kernel
theorem dX6_goesTenth_63 : decode cX6_goesTenth 63 = .ok (.iload 4, 2) := by decide +kernel
theorem dX6_goesTenth_65 : decode cX6_goesTenth 65 = .ok (.putfield 185, 3) := by decide +kernel
theorem dX6_goesTenth_68 : decode cX6_goesTenth 68 = .ok (.iinc 4 1, 3) := by decide +kernel
theorem dX6_goesTenth_71 : decode cX6_goesTenth 71 = .ok (.goto (-45), 3) := by decide +kernel
theorem dX6_goesTenth_74 : decode cX6_goesTenth 74 = .ok (.aload_n 0, 1) := by decide +kernel
theorem dX6_goesTenth_75 : decode cX6_goesTenth 75 = .ok (.getfield 185, 3) := by decide +kernel
theorem dX6_goesTenth_78 : decode cX6_goesTenth 78 = .ok (.ifCond .lt 55, 3) := by decide +kernel
theorem dX6_goesTenth_81 : decode cX6_goesTenth 81 = .ok (.aload_n 0, 1) := by decide +kernel
theorem dX6_goesTenth_82 : decode cX6_goesTenth 82 = .ok (.aload_n 0, 1) := by decide +kernel
theorem dX6_goesTenth_83 : decode cX6_goesTenth 83 = .ok (.getfield 185, 3) := by decide +kernel
theorem dX6_goesTenth_86 : decode cX6_goesTenth 86 = .ok (.iconst 4, 1) := by decide +kernel
theorem dX6_goesTenth_87 : decode cX6_goesTenth 87 = .ok (.iconst 1, 1) := by decide +kernel
theorem dX6_goesTenth_88 : decode cX6_goesTenth 88 = .ok (.invokevirtual 191, 3) := by decide +kernel
theorem dX6_goesTenth_91 : decode cX6_goesTenth 91 = .ok (.aload_n 0, 1) := by decide +kernel
theorem dX6_goesTenth_92 : decode cX6_goesTenth 92 = .ok (.aload_n 0, 1) := by decide +kernel
theorem dX6_goesTenth_93 : decode cX6_goesTenth 93 = .ok (.getfield 185, 3) := by decide +kernel
theorem dX6_goesTenth_96 : decode cX6_goesTenth 96 = .ok (.iconst 5, 1) := by decide +kernel
theorem dX6_goesTenth_97 : decode cX6_goesTenth 97 = .ok (.aload_n 0, 1) := by decide +kernel
theorem dX6_goesTenth_98 : decode cX6_goesTenth 98 = .ok (.aload_n 0, 1) := by decide +kernel
theorem dX6_goesTenth_99 : decode cX6_goesTenth 99 = .ok (.getfield 185, 3) := by decide +kernel
theorem dX6_goesTenth_102 : decode cX6_goesTenth 102 = .ok (.iconst 3, 1) := by decide +kernel
theorem dX6_goesTenth_103 : decode cX6_goesTenth 103 = .ok (.invokevirtual 111, 3) := by decide +kernel
theorem dX6_goesTenth_106 : decode cX6_goesTenth 106 = .ok (.ifCond .ne 7, 3) := by decide +kernel
theorem dX6_goesTenth_109 : decode cX6_goesTenth 109 = .ok (.iconst 0, 1) := by decide +kernel
theorem dX6_goesTenth_110 : decode cX6_goesTenth 110 = .ok (.goto 20, 3) := by decide +kernel
theorem dX6_goesTenth_113 : decode cX6_goesTenth 113 = .ok (.iload_n 2, 1) := by decide +kernel
theorem dX6_goesTenth_114 : decode cX6_goesTenth 114 = .ok (.aload_n 0, 1) := by decide +kernel
theorem dX6_goesTenth_115 : decode cX6_goesTenth 115 = .ok (.aload_n 0, 1) := by decide +kernel
theorem dX6_goesTenth_116 : decode cX6_goesTenth 116 = .ok (.getfield 185, 3) := by decide +kernel
theorem dX6_goesTenth_119 : decode cX6_goesTenth 119 = .ok (.invokevirtual 188, 3) := by decide +kernel
theorem dX6_goesTenth_122 : decode cX6_goesTenth 122 = .ok (.if_icmp .le 7, 3) := by decide +kernel
theorem dX6_goesTenth_125 : decode cX6_goesTenth 125 = .ok (.iconst 2, 1) := by decide +kernel
theorem dX6_goesTenth_126 : decode cX6_goesTenth 126 = .ok (.goto 4, 3) := by decide +kernel
theorem dX6_goesTenth_129 : decode cX6_goesTenth 129 = .ok (.iconst 1, 1) := by decide +kernel
theorem dX6_goesTenth_130 : decode cX6_goesTenth 130 = .ok (.invokevirtual 191, 3) := by decide +kernel
theorem dX6_goesTenth_133 : decode cX6_goesTenth 133 = .ok (.iconst 0, 1) := by decide +kernel
theorem dX6_goesTenth_134 : decode cX6_goesTenth 134 = .ok (.istore 4, 2) := by decide +kernel
theorem dX6_goesTenth_136 : decode cX6_goesTenth 136 = .ok (.iload 4, 2) := by decide +kernel
theorem dX6_goesTenth_138 : decode cX6_goesTenth 138 = .ok (.aload_n 0, 1) := by decide +kernel
theorem dX6_goesTenth_139 : decode cX6_goesTenth 139 = .ok (.getfield 9, 3) := by decide +kernel
theorem dX6_goesTenth_142 : decode cX6_goesTenth 142 = .ok (.iconst 0, 1) := by decide +kernel
theorem dX6_goesTenth_143 : decode cX6_goesTenth 143 = .ok (.iaload, 1) := by decide +kernel
theorem dX6_goesTenth_144 : decode cX6_goesTenth 144 = .ok (.if_icmp .ge 70, 3) := by decide +kernel
theorem dX6_goesTenth_147 : decode cX6_goesTenth 147 = .ok (.aload_n 0, 1) := by decide +kernel
theorem dX6_goesTenth_148 : decode cX6_goesTenth 148 = .ok (.getfield 185, 3) := by decide +kernel
theorem dX6_goesTenth_151 : decode cX6_goesTenth 151 = .ok (.ifCond .ge 63, 3) := by decide +kernel
theorem dX6_goesTenth_154 : decode cX6_goesTenth 154 = .ok (.iload_n 3, 1) := by decide +kernel
theorem dX6_goesTenth_155 : decode cX6_goesTenth 155 = .ok (.ifCond .eq 59, 3) := by decide +kernel
theorem dX6_goesTenth_158 : decode cX6_goesTenth 158 = .ok (.aload_n 0, 1) := by decide +kernel
theorem dX6_goesTenth_159 : decode cX6_goesTenth 159 = .ok (.iload 4, 2) := by decide +kernel
theorem dX6_goesTenth_161 : decode cX6_goesTenth 161 = .ok (.iconst 3, 1) := by decide +kernel
theorem dX6_goesTenth_162 : decode cX6_goesTenth 162 = .ok (.invokevirtual 111, 3) := by decide +kernel
theorem dX6_goesTenth_165 : decode cX6_goesTenth 165 = .ok (.aload_n 0, 1) := by decide +kernel
theorem dX6_goesTenth_166 : decode cX6_goesTenth 166 = .ok (.iload 4, 2) := by decide +kernel
theorem dX6_goesTenth_168 : decode cX6_goesTenth 168 = .ok (.iconst 0, 1) := by decide +kernel
theorem dX6_goesTenth_169 : decode cX6_goesTenth 169 = .ok (.invokevirtual 111, 3) := by decide +kernel
theorem dX6_goesTenth_172 : decode cX6_goesTenth 172 = .ok (.aload_n 0, 1) := by decide +kernel
theorem dX6_goesTenth_173 : decode cX6_goesTenth 173 = .ok (.iload 4, 2) := by decide +kernel
theorem dX6_goesTenth_175 : decode cX6_goesTenth 175 = .ok (.iconst 1, 1) := by decide +kernel
theorem dX6_goesTenth_176 : decode cX6_goesTenth 176 = .ok (.invokevirtual 111, 3) := by decide +kernel
theorem dX6_goesTenth_179 : decode cX6_goesTenth 179 = .ok (.invokestatic 126, 3) := by decide +kernel
theorem dX6_goesTenth_182 : decode cX6_goesTenth 182 = .ok (.iadd, 1) := by decide +kernel
theorem dX6_goesTenth_183 : decode cX6_goesTenth 183 = .ok (.istore 5, 2) := by decide +kernel
theorem dX6_goesTenth_185 : decode cX6_goesTenth 185 = .ok (.aload_n 0, 1) := by decide +kernel
theorem dX6_goesTenth_186 : decode cX6_goesTenth 186 = .ok (.iload 4, 2) := by decide +kernel
theorem dX6_goesTenth_188 : decode cX6_goesTenth 188 = .ok (.iconst 3, 1) := by decide +kernel
theorem dX6_goesTenth_189 : decode cX6_goesTenth 189 = .ok (.iload 5, 2) := by decide +kernel
theorem dX6_goesTenth_191 : decode cX6_goesTenth 191 = .ok (.sipush 999, 3) := by decide +kernel
theorem dX6_goesTenth_194 : decode cX6_goesTenth 194 = .ok (.if_icmp .le 9, 3) := by decide +kernel
theorem dX6_goesTenth_197 : decode cX6_goesTenth 197 = .ok (.sipush 999, 3) := by decide +kernel
theorem dX6_goesTenth_200 : decode cX6_goesTenth 200 = .ok (.goto 5, 3) := by decide +kernel
theorem dX6_goesTenth_203 : decode cX6_goesTenth 203 = .ok (.iload 5, 2) := by decide +kernel
theorem dX6_goesTenth_205 : decode cX6_goesTenth 205 = .ok (.invokevirtual 191, 3) := by decide +kernel
theorem dX6_goesTenth_208 : decode cX6_goesTenth 208 = .ok (.iinc 4 1, 3) := by decide +kernel
theorem dX6_goesTenth_211 : decode cX6_goesTenth 211 = .ok (.goto (-75), 3) := by decide +kernel
theorem dX6_goesTenth_214 : decode cX6_goesTenth 214 = .ok (.aload_n 0, 1) := by decide +kernel
theorem dX6_goesTenth_215 : decode cX6_goesTenth 215 = .ok (.getfield 9, 3) := by decide +kernel
theorem dX6_goesTenth_218 : decode cX6_goesTenth 218 = .ok (.iconst 2, 1) := by decide +kernel
theorem dX6_goesTenth_219 : decode cX6_goesTenth 219 = .ok (.dup2, 1) := by decide +kernel
theorem dX6_goesTenth_220 : decode cX6_goesTenth 220 = .ok (.iaload, 1) := by decide +kernel
theorem dX6_goesTenth_221 : decode cX6_goesTenth 221 = .ok (.iload_n 3, 1) := by decide +kernel
theorem dX6_goesTenth_222 : decode cX6_goesTenth 222 = .ok (.ifCond .eq 7, 3) := by decide +kernel
theorem dX6_goesTenth_225 : decode cX6_goesTenth 225 = .ok (.iconst 1, 1) := by decide +kernel
theorem dX6_goesTenth_226 : decode cX6_goesTenth 226 = .ok (.goto 4, 3) := by decide +kernel
theorem dX6_goesTenth_229 : decode cX6_goesTenth 229 = .ok (.iconst 0, 1) := by decide +kernel
theorem dX6_goesTenth_230 : decode cX6_goesTenth 230 = .ok (.iadd, 1) := by decide +kernel
theorem dX6_goesTenth_231 : decode cX6_goesTenth 231 = .ok (.iastore, 1) := by decide +kernel
theorem dX6_goesTenth_232 : decode cX6_goesTenth 232 = .ok (.aload_n 0, 1) := by decide +kernel
theorem dX6_goesTenth_233 : decode cX6_goesTenth 233 = .ok (.getfield 9, 3) := by decide +kernel
theorem dX6_goesTenth_236 : decode cX6_goesTenth 236 = .ok (.iconst 1, 1) := by decide +kernel
theorem dX6_goesTenth_237 : decode cX6_goesTenth 237 = .ok (.dup2, 1) := by decide +kernel
theorem dX6_goesTenth_238 : decode cX6_goesTenth 238 = .ok (.iaload, 1) := by decide +kernel
theorem dX6_goesTenth_239 : decode cX6_goesTenth 239 = .ok (.iconst 1, 1) := by decide +kernel
theorem dX6_goesTenth_240 : decode cX6_goesTenth 240 = .ok (.iadd, 1) := by decide +kernel
theorem dX6_goesTenth_241 : decode cX6_goesTenth 241 = .ok (.iastore, 1) := by decide +kernel
theorem dX6_goesTenth_242 : decode cX6_goesTenth 242 = .ok (.iload_n 2, 1) := by decide +kernel
theorem dX6_goesTenth_243 : decode cX6_goesTenth 243 = .ok (.ireturn, 1) := by decide +kernel
theorem dX6_tenth_0 : decode cX6_tenth 0 = .ok (.aload_n 0, 1) := by decide +kernel
theorem dX6_tenth_1 : decode cX6_tenth 1 = .ok (.invokevirtual 170, 3) := by decide +kernel
theorem dX6_tenth_4 : decode cX6_tenth 4 = .ok (.ifCond .ne 6, 3) := by decide +kernel
theorem dX6_tenth_7 : decode cX6_tenth 7 = .ok (.bipush (-3), 2) := by decide +kernel
theorem dX6_tenth_9 : decode cX6_tenth 9 = .ok (.ireturn, 1) := by decide +kernel
theorem dX6_tenth_10 : decode cX6_tenth 10 = .ok (.aload_n 0, 1) := by decide +kernel
theorem dX6_tenth_11 : decode cX6_tenth 11 = .ok (.aload_n 0, 1) := by decide +kernel
theorem dX6_tenth_12 : decode cX6_tenth 12 = .ok (.invokevirtual 173, 3) := by decide +kernel
theorem dX6_tenth_15 : decode cX6_tenth 15 = .ok (.invokevirtual 176, 3) := by decide +kernel
theorem dX6_tenth_18 : decode cX6_tenth 18 = .ok (.aload_n 0, 1) := by decide +kernel
theorem dX6_tenth_19 : decode cX6_tenth 19 = .ok (.aload_n 0, 1) := by decide +kernel
theorem dX6_tenth_20 : decode cX6_tenth 20 = .ok (.getfield 9, 3) := by decide +kernel
theorem dX6_tenth_23 : decode cX6_tenth 23 = .ok (.iconst 5, 1) := by decide +kernel
theorem dX6_tenth_24 : decode cX6_tenth 24 = .ok (.iaload, 1) := by decide +kernel
theorem dX6_tenth_25 : decode cX6_tenth 25 = .ok (.invokevirtual 195, 3) := by decide +kernel
theorem dX6_tenth_28 : decode cX6_tenth 28 = .ok (.ireturn, 1) := by decide +kernel
theorem dX0_greatestPull_0 : decode cX0_greatestPull 0 = .ok (.iconst 0, 1) := by decide +kernel
theorem dX0_greatestPull_1 : decode cX0_greatestPull 1 = .ok (.istore_n 1, 1) := by decide +kernel
theorem dX0_greatestPull_2 : decode cX0_greatestPull 2 = .ok (.iconst 0, 1) := by decide +kernel
theorem dX0_greatestPull_3 : decode cX0_greatestPull 3 = .ok (.istore_n 2, 1) := by decide +kernel
theorem dX0_greatestPull_4 : decode cX0_greatestPull 4 = .ok (.iload_n 2, 1) := by decide +kernel
theorem dX0_greatestPull_5 : decode cX0_greatestPull 5 = .ok (.aload_n 0, 1) := by decide +kernel
theorem dX0_greatestPull_6 : decode cX0_greatestPull 6 = .ok (.getfield 24, 3) := by decide +kernel
theorem dX0_greatestPull_9 : decode cX0_greatestPull 9 = .ok (.if_icmp .ge 23, 3) := by decide +kernel
theorem dX0_greatestPull_12 : decode cX0_greatestPull 12 = .ok (.iload_n 1, 1) := by decide +kernel
theorem dX0_greatestPull_13 : decode cX0_greatestPull 13 = .ok (.aload_n 0, 1) := by decide +kernel
theorem dX0_greatestPull_14 : decode cX0_greatestPull 14 = .ok (.aload_n 0, 1) := by decide +kernel
theorem dX0_greatestPull_15 : decode cX0_greatestPull 15 = .ok (.iload_n 2, 1) := by decide +kernel
theorem dX0_greatestPull_16 : decode cX0_greatestPull 16 = .ok (.invokevirtual 71, 3) := by decide +kernel
theorem dX0_greatestPull_19 : decode cX0_greatestPull 19 = .ok (.invokevirtual 74, 3) := by decide +kernel
theorem dX0_greatestPull_22 : decode cX0_greatestPull 22 = .ok (.invokestatic 42, 3) := by decide +kernel
theorem dX0_greatestPull_25 : decode cX0_greatestPull 25 = .ok (.istore_n 1, 1) := by decide +kernel
theorem dX0_greatestPull_26 : decode cX0_greatestPull 26 = .ok (.iinc 2 1, 3) := by decide +kernel
theorem dX0_greatestPull_29 : decode cX0_greatestPull 29 = .ok (.goto (-25), 3) := by decide +kernel
theorem dX0_greatestPull_32 : decode cX0_greatestPull 32 = .ok (.iload_n 1, 1) := by decide +kernel
theorem dX0_greatestPull_33 : decode cX0_greatestPull 33 = .ok (.ireturn, 1) := by decide +kernel
theorem dX0_whenGreatest_0 : decode cX0_whenGreatest 0 = .ok (.aload_n 0, 1) := by decide +kernel
theorem dX0_whenGreatest_1 : decode cX0_whenGreatest 1 = .ok (.invokevirtual 77, 3) := by decide +kernel
theorem dX0_whenGreatest_4 : decode cX0_whenGreatest 4 = .ok (.istore_n 1, 1) := by decide +kernel
theorem dX0_whenGreatest_5 : decode cX0_whenGreatest 5 = .ok (.iconst 0, 1) := by decide +kernel
theorem dX0_whenGreatest_6 : decode cX0_whenGreatest 6 = .ok (.istore_n 2, 1) := by decide +kernel
theorem dX0_whenGreatest_7 : decode cX0_whenGreatest 7 = .ok (.iload_n 2, 1) := by decide +kernel
theorem dX0_whenGreatest_8 : decode cX0_whenGreatest 8 = .ok (.aload_n 0, 1) := by decide +kernel
theorem dX0_whenGreatest_9 : decode cX0_whenGreatest 9 = .ok (.getfield 24, 3) := by decide +kernel
theorem dX0_whenGreatest_12 : decode cX0_whenGreatest 12 = .ok (.if_icmp .ge 20, 3) := by decide +kernel
theorem dX0_whenGreatest_15 : decode cX0_whenGreatest 15 = .ok (.aload_n 0, 1) := by decide +kernel
theorem dX0_whenGreatest_16 : decode cX0_whenGreatest 16 = .ok (.iload_n 2, 1) := by decide +kernel
theorem dX0_whenGreatest_17 : decode cX0_whenGreatest 17 = .ok (.invokevirtual 80, 3) := by decide +kernel
theorem dX0_whenGreatest_20 : decode cX0_whenGreatest 20 = .ok (.iload_n 1, 1) := by decide +kernel
theorem dX0_whenGreatest_21 : decode cX0_whenGreatest 21 = .ok (.if_icmp .ne 5, 3) := by decide +kernel
theorem dX0_whenGreatest_24 : decode cX0_whenGreatest 24 = .ok (.iload_n 2, 1) := by decide +kernel
theorem dX0_whenGreatest_25 : decode cX0_whenGreatest 25 = .ok (.ireturn, 1) := by decide +kernel
theorem dX0_whenGreatest_26 : decode cX0_whenGreatest 26 = .ok (.iinc 2 1, 3) := by decide +kernel
theorem dX0_whenGreatest_29 : decode cX0_whenGreatest 29 = .ok (.goto (-22), 3) := by decide +kernel
theorem dX0_whenGreatest_32 : decode cX0_whenGreatest 32 = .ok (.iconst 0, 1) := by decide +kernel
theorem dX0_whenGreatest_33 : decode cX0_whenGreatest 33 = .ok (.ireturn, 1) := by decide +kernel
theorem dX5_greatest_0 : decode cX5_greatest 0 = .ok (.iload_n 1, 1) := by decide +kernel
theorem dX5_greatest_1 : decode cX5_greatest 1 = .ok (.iconst 0, 1) := by decide +kernel
theorem dX5_greatest_2 : decode cX5_greatest 2 = .ok (.iconst 1, 1) := by decide +kernel
theorem dX5_greatest_3 : decode cX5_greatest 3 = .ok (.invokestatic 129, 3) := by decide +kernel
theorem dX5_greatest_6 : decode cX5_greatest 6 = .ok (.ifCond .ne 5, 3) := by decide +kernel
theorem dX5_greatest_9 : decode cX5_greatest 9 = .ok (.iconst (-1), 1) := by decide +kernel
theorem dX5_greatest_10 : decode cX5_greatest 10 = .ok (.ireturn, 1) := by decide +kernel
theorem dX5_greatest_11 : decode cX5_greatest 11 = .ok (.aload_n 0, 1) := by decide +kernel
theorem dX5_greatest_12 : decode cX5_greatest 12 = .ok (.invokevirtual 110, 3) := by decide +kernel
theorem dX5_greatest_15 : decode cX5_greatest 15 = .ok (.ifCond .ne 6, 3) := by decide +kernel
theorem dX5_greatest_18 : decode cX5_greatest 18 = .ok (.bipush (-3), 2) := by decide +kernel
theorem dX5_greatest_20 : decode cX5_greatest 20 = .ok (.ireturn, 1) := by decide +kernel
theorem dX5_greatest_21 : decode cX5_greatest 21 = .ok (.iload_n 1, 1) := by decide +kernel
theorem dX5_greatest_22 : decode cX5_greatest 22 = .ok (.ifCond .ne 13, 3) := by decide +kernel
theorem dX5_greatest_25 : decode cX5_greatest 25 = .ok (.aload_n 0, 1) := by decide +kernel
theorem dX5_greatest_26 : decode cX5_greatest 26 = .ok (.getfield 25, 3) := by decide +kernel
theorem dX5_greatest_29 : decode cX5_greatest 29 = .ok (.invokevirtual 143, 3) := by decide +kernel
theorem dX5_greatest_32 : decode cX5_greatest 32 = .ok (.goto 10, 3) := by decide +kernel
theorem dX5_greatest_35 : decode cX5_greatest 35 = .ok (.aload_n 0, 1) := by decide +kernel
theorem dX5_greatest_36 : decode cX5_greatest 36 = .ok (.getfield 25, 3) := by decide +kernel
theorem dX5_greatest_39 : decode cX5_greatest 39 = .ok (.invokevirtual 146, 3) := by decide +kernel
theorem dX5_greatest_42 : decode cX5_greatest 42 = .ok (.ireturn, 1) := by decide +kernel
theorem dX6_greatestOf_0 : decode cX6_greatestOf 0 = .ok (.iconst (-1), 1) := by decide +kernel
theorem dX6_greatestOf_1 : decode cX6_greatestOf 1 = .ok (.istore_n 1, 1) := by decide +kernel
theorem dX6_greatestOf_2 : decode cX6_greatestOf 2 = .ok (.iconst 0, 1) := by decide +kernel
theorem dX6_greatestOf_3 : decode cX6_greatestOf 3 = .ok (.istore_n 2, 1) := by decide +kernel
theorem dX6_greatestOf_4 : decode cX6_greatestOf 4 = .ok (.iload_n 2, 1) := by decide +kernel
theorem dX6_greatestOf_5 : decode cX6_greatestOf 5 = .ok (.aload_n 0, 1) := by decide +kernel
theorem dX6_greatestOf_6 : decode cX6_greatestOf 6 = .ok (.getfield 9, 3) := by decide +kernel
theorem dX6_greatestOf_9 : decode cX6_greatestOf 9 = .ok (.bipush 6, 2) := by decide +kernel
theorem dX6_greatestOf_11 : decode cX6_greatestOf 11 = .ok (.iaload, 1) := by decide +kernel
theorem dX6_greatestOf_12 : decode cX6_greatestOf 12 = .ok (.if_icmp .ge 36, 3) := by decide +kernel
theorem dX6_greatestOf_15 : decode cX6_greatestOf 15 = .ok (.aload_n 0, 1) := by decide +kernel
theorem dX6_greatestOf_16 : decode cX6_greatestOf 16 = .ok (.iload_n 2, 1) := by decide +kernel
theorem dX6_greatestOf_17 : decode cX6_greatestOf 17 = .ok (.aload_n 0, 1) := by decide +kernel
theorem dX6_greatestOf_18 : decode cX6_greatestOf 18 = .ok (.getfield 9, 3) := by decide +kernel
theorem dX6_greatestOf_21 : decode cX6_greatestOf 21 = .ok (.iconst 5, 1) := by decide +kernel
theorem dX6_greatestOf_22 : decode cX6_greatestOf 22 = .ok (.iaload, 1) := by decide +kernel
theorem dX6_greatestOf_23 : decode cX6_greatestOf 23 = .ok (.invokevirtual 182, 3) := by decide +kernel
theorem dX6_greatestOf_26 : decode cX6_greatestOf 26 = .ok (.istore_n 3, 1) := by decide +kernel
theorem dX6_greatestOf_27 : decode cX6_greatestOf 27 = .ok (.iload_n 3, 1) := by decide +kernel
theorem dX6_greatestOf_28 : decode cX6_greatestOf 28 = .ok (.iload_n 1, 1) := by decide +kernel
theorem dX6_greatestOf_29 : decode cX6_greatestOf 29 = .ok (.if_icmp .gt 6, 3) := by decide +kernel
theorem dX6_greatestOf_32 : decode cX6_greatestOf 32 = .ok (.goto 10, 3) := by decide +kernel
theorem dX6_greatestOf_35 : decode cX6_greatestOf 35 = .ok (.iload_n 3, 1) := by decide +kernel
theorem dX6_greatestOf_36 : decode cX6_greatestOf 36 = .ok (.istore_n 1, 1) := by decide +kernel
theorem dX6_greatestOf_37 : decode cX6_greatestOf 37 = .ok (.aload_n 0, 1) := by decide +kernel
theorem dX6_greatestOf_38 : decode cX6_greatestOf 38 = .ok (.iload_n 2, 1) := by decide +kernel
theorem dX6_greatestOf_39 : decode cX6_greatestOf 39 = .ok (.putfield 198, 3) := by decide +kernel
theorem dX6_greatestOf_42 : decode cX6_greatestOf 42 = .ok (.iinc 2 1, 3) := by decide +kernel
theorem dX6_greatestOf_45 : decode cX6_greatestOf 45 = .ok (.goto (-41), 3) := by decide +kernel
theorem dX6_greatestOf_48 : decode cX6_greatestOf 48 = .ok (.iload_n 1, 1) := by decide +kernel
theorem dX6_greatestOf_49 : decode cX6_greatestOf 49 = .ok (.ireturn, 1) := by decide +kernel
theorem dX6_greatest_0 : decode cX6_greatest 0 = .ok (.iload_n 1, 1) := by decide +kernel
theorem dX6_greatest_1 : decode cX6_greatest 1 = .ok (.i2l, 1) := by decide +kernel
theorem dX6_greatest_2 : decode cX6_greatest 2 = .ok (.lconst 0, 1) := by decide +kernel
theorem dX6_greatest_3 : decode cX6_greatest 3 = .ok (.lconst 1, 1) := by decide +kernel
theorem dX6_greatest_4 : decode cX6_greatest 4 = .ok (.invokestatic 47, 3) := by decide +kernel
theorem dX6_greatest_7 : decode cX6_greatest 7 = .ok (.ifCond .ne 5, 3) := by decide +kernel
theorem dX6_greatest_10 : decode cX6_greatest 10 = .ok (.iconst (-1), 1) := by decide +kernel
theorem dX6_greatest_11 : decode cX6_greatest 11 = .ok (.ireturn, 1) := by decide +kernel
theorem dX6_greatest_12 : decode cX6_greatest 12 = .ok (.aload_n 0, 1) := by decide +kernel
theorem dX6_greatest_13 : decode cX6_greatest 13 = .ok (.invokevirtual 170, 3) := by decide +kernel
theorem dX6_greatest_16 : decode cX6_greatest 16 = .ok (.ifCond .ne 6, 3) := by decide +kernel
theorem dX6_greatest_19 : decode cX6_greatest 19 = .ok (.bipush (-3), 2) := by decide +kernel
theorem dX6_greatest_21 : decode cX6_greatest 21 = .ok (.ireturn, 1) := by decide +kernel
theorem dX6_greatest_22 : decode cX6_greatest 22 = .ok (.aload_n 0, 1) := by decide +kernel
theorem dX6_greatest_23 : decode cX6_greatest 23 = .ok (.aload_n 0, 1) := by decide +kernel
theorem dX6_greatest_24 : decode cX6_greatest 24 = .ok (.invokevirtual 173, 3) := by decide +kernel
theorem dX6_greatest_27 : decode cX6_greatest 27 = .ok (.invokevirtual 176, 3) := by decide +kernel
theorem dX6_greatest_30 : decode cX6_greatest 30 = .ok (.aload_n 0, 1) := by decide +kernel
theorem dX6_greatest_31 : decode cX6_greatest 31 = .ok (.invokevirtual 201, 3) := by decide +kernel
theorem dX6_greatest_34 : decode cX6_greatest 34 = .ok (.istore_n 2, 1) := by decide +kernel
theorem dX6_greatest_35 : decode cX6_greatest 35 = .ok (.iload_n 1, 1) := by decide +kernel
theorem dX6_greatest_36 : decode cX6_greatest 36 = .ok (.ifCond .ne 7, 3) := by decide +kernel
theorem dX6_greatest_39 : decode cX6_greatest 39 = .ok (.iload_n 2, 1) := by decide +kernel
theorem dX6_greatest_40 : decode cX6_greatest 40 = .ok (.goto 7, 3) := by decide +kernel
theorem dX6_greatest_43 : decode cX6_greatest 43 = .ok (.aload_n 0, 1) := by decide +kernel
theorem dX6_greatest_44 : decode cX6_greatest 44 = .ok (.getfield 198, 3) := by decide +kernel
theorem dX6_greatest_47 : decode cX6_greatest 47 = .ok (.ireturn, 1) := by decide +kernel
theorem dX5_partsWithin_0 : decode cX5_partsWithin 0 = .ok (.aload_n 0, 1) := by decide +kernel
theorem dX5_partsWithin_1 : decode cX5_partsWithin 1 = .ok (.getfield 19, 3) := by decide +kernel
theorem dX5_partsWithin_4 : decode cX5_partsWithin 4 = .ok (.aload_n 0, 1) := by decide +kernel
theorem dX5_partsWithin_5 : decode cX5_partsWithin 5 = .ok (.getfield 10, 3) := by decide +kernel
theorem dX5_partsWithin_8 : decode cX5_partsWithin 8 = .ok (.invokevirtual 58, 3) := by decide +kernel
theorem dX5_partsWithin_11 : decode cX5_partsWithin 11 = .ok (.iconst 0, 1) := by decide +kernel
theorem dX5_partsWithin_12 : decode cX5_partsWithin 12 = .ok (.istore_n 2, 1) := by decide +kernel
theorem dX5_partsWithin_13 : decode cX5_partsWithin 13 = .ok (.iload_n 2, 1) := by decide +kernel
theorem dX5_partsWithin_14 : decode cX5_partsWithin 14 = .ok (.iload_n 1, 1) := by decide +kernel
theorem dX5_partsWithin_15 : decode cX5_partsWithin 15 = .ok (.if_icmp .ge 35, 3) := by decide +kernel
theorem dX5_partsWithin_18 : decode cX5_partsWithin 18 = .ok (.aload_n 0, 1) := by decide +kernel
theorem dX5_partsWithin_19 : decode cX5_partsWithin 19 = .ok (.getfield 19, 3) := by decide +kernel
theorem dX5_partsWithin_22 : decode cX5_partsWithin 22 = .ok (.aload_n 0, 1) := by decide +kernel
theorem dX5_partsWithin_23 : decode cX5_partsWithin 23 = .ok (.getfield 25, 3) := by decide +kernel
theorem dX5_partsWithin_26 : decode cX5_partsWithin 26 = .ok (.invokevirtual 139, 3) := by decide +kernel
theorem dX5_partsWithin_29 : decode cX5_partsWithin 29 = .ok (.pop, 1) := by decide +kernel
theorem dX5_partsWithin_30 : decode cX5_partsWithin 30 = .ok (.aload_n 0, 1) := by decide +kernel
theorem dX5_partsWithin_31 : decode cX5_partsWithin 31 = .ok (.getfield 19, 3) := by decide +kernel
theorem dX5_partsWithin_34 : decode cX5_partsWithin 34 = .ok (.getfield 99, 3) := by decide +kernel
theorem dX5_partsWithin_37 : decode cX5_partsWithin 37 = .ok (.bipush (-4), 2) := by decide +kernel
theorem dX5_partsWithin_39 : decode cX5_partsWithin 39 = .ok (.if_icmp .eq 5, 3) := by decide +kernel
theorem dX5_partsWithin_42 : decode cX5_partsWithin 42 = .ok (.iload_n 2, 1) := by decide +kernel
theorem dX5_partsWithin_43 : decode cX5_partsWithin 43 = .ok (.ireturn, 1) := by decide +kernel
theorem dX5_partsWithin_44 : decode cX5_partsWithin 44 = .ok (.iinc 2 1, 3) := by decide +kernel
theorem dX5_partsWithin_47 : decode cX5_partsWithin 47 = .ok (.goto (-34), 3) := by decide +kernel
theorem dX5_partsWithin_50 : decode cX5_partsWithin 50 = .ok (.bipush (-4), 2) := by decide +kernel
theorem dX5_partsWithin_52 : decode cX5_partsWithin 52 = .ok (.ireturn, 1) := by decide +kernel
theorem dX5_holds_0 : decode cX5_holds 0 = .ok (.iload_n 1, 1) := by decide +kernel
theorem dX5_holds_1 : decode cX5_holds 1 = .ok (.iconst 0, 1) := by decide +kernel
theorem dX5_holds_2 : decode cX5_holds 2 = .ok (.sipush 400, 3) := by decide +kernel
theorem dX5_holds_5 : decode cX5_holds 5 = .ok (.invokestatic 129, 3) := by decide +kernel
theorem dX5_holds_8 : decode cX5_holds 8 = .ok (.ifCond .eq 12, 3) := by decide +kernel
theorem dX5_holds_11 : decode cX5_holds 11 = .ok (.iload_n 2, 1) := by decide +kernel
theorem dX5_holds_12 : decode cX5_holds 12 = .ok (.iconst 0, 1) := by decide +kernel
theorem dX5_holds_13 : decode cX5_holds 13 = .ok (.iconst 2, 1) := by decide +kernel
theorem dX5_holds_14 : decode cX5_holds 14 = .ok (.invokestatic 129, 3) := by decide +kernel
theorem dX5_holds_17 : decode cX5_holds 17 = .ok (.ifCond .ne 5, 3) := by decide +kernel
theorem dX5_holds_20 : decode cX5_holds 20 = .ok (.iconst (-1), 1) := by decide +kernel
theorem dX5_holds_21 : decode cX5_holds 21 = .ok (.ireturn, 1) := by decide +kernel
theorem dX5_holds_22 : decode cX5_holds 22 = .ok (.aload_n 0, 1) := by decide +kernel
theorem dX5_holds_23 : decode cX5_holds 23 = .ok (.invokevirtual 110, 3) := by decide +kernel
theorem dX5_holds_26 : decode cX5_holds 26 = .ok (.ifCond .ne 6, 3) := by decide +kernel
theorem dX5_holds_29 : decode cX5_holds 29 = .ok (.bipush (-3), 2) := by decide +kernel
theorem dX5_holds_31 : decode cX5_holds 31 = .ok (.ireturn, 1) := by decide +kernel
theorem dX5_holds_32 : decode cX5_holds 32 = .ok (.aload_n 0, 1) := by decide +kernel
theorem dX5_holds_33 : decode cX5_holds 33 = .ok (.iload_n 1, 1) := by decide +kernel
theorem dX5_holds_34 : decode cX5_holds 34 = .ok (.invokevirtual 149, 3) := by decide +kernel
theorem dX5_holds_37 : decode cX5_holds 37 = .ok (.istore_n 3, 1) := by decide +kernel
theorem dX5_holds_38 : decode cX5_holds 38 = .ok (.iload_n 2, 1) := by decide +kernel
theorem dX5_holds_39 : decode cX5_holds 39 = .ok (.ifCond .ne 15, 3) := by decide +kernel
theorem dX5_holds_42 : decode cX5_holds 42 = .ok (.iload_n 3, 1) := by decide +kernel
theorem dX5_holds_43 : decode cX5_holds 43 = .ok (.bipush (-4), 2) := by decide +kernel
theorem dX5_holds_45 : decode cX5_holds 45 = .ok (.if_icmp .ne 7, 3) := by decide +kernel
theorem dX5_holds_48 : decode cX5_holds 48 = .ok (.iconst 1, 1) := by decide +kernel
theorem dX5_holds_49 : decode cX5_holds 49 = .ok (.goto 4, 3) := by decide +kernel
theorem dX5_holds_52 : decode cX5_holds 52 = .ok (.iconst 0, 1) := by decide +kernel
theorem dX5_holds_53 : decode cX5_holds 53 = .ok (.ireturn, 1) := by decide +kernel
theorem dX5_holds_54 : decode cX5_holds 54 = .ok (.iload_n 2, 1) := by decide +kernel
theorem dX5_holds_55 : decode cX5_holds 55 = .ok (.iconst 1, 1) := by decide +kernel
theorem dX5_holds_56 : decode cX5_holds 56 = .ok (.if_icmp .eq 9, 3) := by decide +kernel
theorem dX5_holds_59 : decode cX5_holds 59 = .ok (.iload_n 3, 1) := by decide +kernel
theorem dX5_holds_60 : decode cX5_holds 60 = .ok (.bipush (-4), 2) := by decide +kernel
theorem dX5_holds_62 : decode cX5_holds 62 = .ok (.if_icmp .ne 7, 3) := by decide +kernel
theorem dX5_holds_65 : decode cX5_holds 65 = .ok (.iload_n 3, 1) := by decide +kernel
theorem dX5_holds_66 : decode cX5_holds 66 = .ok (.goto 10, 3) := by decide +kernel
theorem dX5_holds_69 : decode cX5_holds 69 = .ok (.aload_n 0, 1) := by decide +kernel
theorem dX5_holds_70 : decode cX5_holds 70 = .ok (.getfield 19, 3) := by decide +kernel
theorem dX5_holds_73 : decode cX5_holds 73 = .ok (.getfield 99, 3) := by decide +kernel
theorem dX5_holds_76 : decode cX5_holds 76 = .ok (.ireturn, 1) := by decide +kernel
section WALK
variable {p : Program} {l : Launch} {e : Env} {s : State} {m : MethodId} {args : Array Value} {below : List Frame} {meth : Method} {c : Code} {G : GG}

def q_X6_pull (M : Mem) (x1 : Int32) (post : Int32 → Mem → Prop) : Prop := q_X6_isIn M x1.toInt64 (0 : Int64) (9999 : Int64) (fun r1 M2 => (r1 = 0 → (post (-1 : Int32) M2)) ∧ (¬ (r1 = 0) → (q_X6_isLine M2  (fun r4 M5 => (r4 = 0 → (post (-3 : Int32) M5)) ∧ (¬ (r4 = 0) → (q_X6_allPieces M5  (fun r7 M8 => q_X6_sumsUp M8 r7 (fun M10 => q_X6_pullAt M10 x1 (M10 58 5) (fun r11 M12 => post r11 M12)))))))))
set_option maxHeartbeats 4000000 in
set_option maxRecDepth 100000 in
theorem c_X6_pull (l : Launch) (G : GG) (hG : Ag G) (sz : Nat) (M : Mem) (x1 : Int32) (post : Int32 → Mem → Prop) (h : q_X6_pull M x1 post) : Met l yX6_pull (Cond.code yX6_pull cX6_pull 2 (some .int) :: wsL_law) (rmk 4) (va_Pc [.ref (ga G 57), .int x1] (Pw G sz M)) (va_Qi post (Qw G) (Af G sz)) 0 0 (Af G sz) := by
  refine Met.ofW (cc := cX6_pull) (maxL := 2) (ret := (some .int)) (by decide) rfl ?_
  intro p e s m args below meth c s₁ B hml hv
  obtain ⟨rfl, hsz, hE, hP⟩ := hv
  subst hsz
  have C := Cx.of (own := RX6) hG hE rfl hml B
  have w : Wd G s M s.heap [] := ⟨hP, va_S.rf⟩
  have hl := lv_entry [.ref (ga G 57), .int x1] (n := 2) (Nat.le_of_ble_eq_true rfl)
  rw [lg_entry_eq]
  generalize (lg_sl [.ref (ga G 57), .int x1] ++ List.replicate (2 - (lg_sl [.ref (ga G 57), .int x1]).length) Slot.unset).toArray = ls at hl ⊢
  have hl : lv_has ls 2 [(0, .ref (ga G 57)), (1, .int x1)] := hl
  have hx := C.1.1
  have hb := C.1.2.1
  show W p l e (rmk 4) s m _ below meth c s.heap [] 0 0 _ _
  unfold q_X6_pull at h
  refine lv_iload_n hx hb dX6_pull_0 rfl (lv_at hl 1 rfl) ?_
  refine lv_i2l hx hb dX6_pull_1 rfl ?_
  refine lv_lconst (v := 0) hx hb dX6_pull_2 (by decide) ?_
  refine lv_ldc2 hx hb C.1.2.2.2.1 (C.ws kw_19_2) dX6_pull_3 ?_
  refine end_i w (run_S (As := [.long x1.toInt64, .long (0 : Int64), .long (9999 : Int64)]) C w hl.1 (c_X6_isIn l G C.2.2.1 _ _ x1.toInt64 (0 : Int64) (9999 : Int64)  _ h) kw_12_5 kw_1_5 kw_12_3 kw_12_4 hd_X6_isIn ⟨by decide, by decide⟩ rfl (Nat.le_of_ble_eq_true rfl) dX6_pull_6) (fun r1 M2 H locs h w => ?_)
  refine lv_if_ne (tgt := 14) hx hb dX6_pull_9 (by decide) (fun c3 => ?_) (fun c3 => ?_)
  · replace h := h.2 c3
    refine lv_aload_n hx hb dX6_pull_14 rfl (lv_at hl 0 rfl) ?_
    refine end_i w (run_V (As := []) C w hl.1 (c_X6_isLine l G C.2.2.1 _ _   _ h) kw_17_11 kw_1_5 kw_17_8 kw_17_9 kw_17_10 hd_X6_isLine ⟨by decide, by decide⟩ (w.recv C (i := 57) (by decide) (pE_6) rfl) rfl (Nat.le_of_ble_eq_true rfl) dX6_pull_15) (fun r4 M5 H locs h w => ?_)
    refine lv_if_ne (tgt := 24) hx hb dX6_pull_18 (by decide) (fun c6 => ?_) (fun c6 => ?_)
    · replace h := h.2 c6
      refine lv_aload_n hx hb dX6_pull_24 rfl (lv_at hl 0 rfl) ?_
      refine lv_aload_n hx hb dX6_pull_25 rfl (lv_at hl 0 rfl) ?_
      refine end_i w (run_V (As := []) C w hl.1 (c_X6_allPieces l G C.2.2.1 _ _   _ h) kw_17_15 kw_1_5 kw_17_12 kw_17_13 kw_17_14 hd_X6_allPieces ⟨by decide, by decide⟩ (w.recv C (i := 57) (by decide) (pE_6) rfl) rfl (Nat.le_of_ble_eq_true rfl) dX6_pull_26) (fun r7 M8 H locs h w => ?_)
      refine end_v w (run_V (As := [.int r7]) C w hl.1 (c_X6_sumsUp l G C.2.2.1 _ _ r7  _ h) kw_17_19 kw_1_5 kw_17_16 kw_17_17 kw_17_18 hd_X6_sumsUp ⟨by decide, by decide⟩ (w.recv C (i := 57) (by decide) (pE_6) rfl) rfl (Nat.le_of_ble_eq_true rfl) dX6_pull_29) (fun M10 H locs h w => ?_)
      refine lv_aload_n hx hb dX6_pull_32 rfl (lv_at hl 0 rfl) ?_
      refine lv_iload_n hx hb dX6_pull_33 rfl (lv_at hl 1 rfl) ?_
      refine lv_aload_n hx hb dX6_pull_34 rfl (lv_at hl 0 rfl) ?_
      refine gt_6_0 C w kw_5_0 dX6_pull_35 ?_
      refine lv_iconst (v := 5) hx hb dX6_pull_38 (by decide) ?_
      refine pw_ld C w (i := 58) (by decide) pE_58 (vl (x := (5 : Int32)) (by decide)) (k := 5) (by decide) dX6_pull_39 ?_
      refine end_i w (run_V (As := [.int x1, .int (M10 58 5)]) C w hl.1 (c_X6_pullAt l G C.2.2.1 _ _ x1 (M10 58 5)  _ h) kw_20_16 kw_1_5 kw_20_13 kw_20_14 kw_20_15 hd_X6_pullAt ⟨by decide, by decide⟩ (w.recv C (i := 57) (by decide) (pE_6) rfl) rfl (Nat.le_of_ble_eq_true rfl) dX6_pull_40) (fun r11 M12 H locs h w => ?_)
      exact ret_i C w h dX6_pull_43
    replace h := h.1 c6
    refine lv_bipush (v := -3) hx hb dX6_pull_21 (by decide) ?_
    exact ret_i C w h dX6_pull_23
  replace h := h.1 c3
  refine lv_iconst (v := -1) hx hb dX6_pull_12 (by decide) ?_
  exact ret_i C w h dX6_pull_13
def b_X4_firstWeakerThan_2 (k2 : Mem → Nat → Int32 → Int32 → Prop) (post : Int32 → Mem → Prop) (M : Mem) (a0 : Nat) (x1 : Int32) (x2 : Int32) : Prop := ((M a0 1) ≤ x2 → (post (-4 : Int32) M)) ∧ (¬ ((M a0 1) ≤ x2) → (vp_in x2 6 ∧ ((x1 ≤ ((M (32 + 6 * a0 + x2.toNatClampNeg) 7) - (M (32 + 6 * a0 + x2.toNatClampNeg) 4)) → (k2 M a0 x1 (x2 + (1 : Int32)))) ∧ (¬ (x1 ≤ ((M (32 + 6 * a0 + x2.toNatClampNeg) 7) - (M (32 + 6 * a0 + x2.toNatClampNeg) 4))) → (post x2 M)))))
def lp_X4_firstWeakerThan_2 (post : Int32 → Mem → Prop) : Nat → Mem → Nat → Int32 → Int32 → Prop
  | 0 => fun _ _ _ _ => False
  | n + 1 => fun M a0 x1 x2 => b_X4_firstWeakerThan_2 (lp_X4_firstWeakerThan_2 post n) post M a0 x1 x2
def q_X4_firstWeakerThan (M : Mem) (a0 : Nat) (x1 : Int32) (post : Int32 → Mem → Prop) : Prop := ∃ n, lp_X4_firstWeakerThan_2 post n M a0 x1 (0 : Int32)
set_option maxHeartbeats 4000000 in
set_option maxRecDepth 100000 in
theorem t_X4_firstWeakerThan_2 (C : Cx G p s m args meth c RX4 cX4_firstWeakerThan 3 (some .int)) {post : Int32 → Mem → Prop} : ∀ (n : Nat) (M : Mem) (a0 : Nat) (x1 : Int32) (x2 : Int32) {H : Heap} {locs : List Loc} {ls : Array Slot} (ha0 : 1 ≤ a0 ∧ a0 < 4) (w : Wd G s M H locs) (hl : lv_has ls 3 [(0, .ref (ga G a0)), (1, .int x1), (2, .int x2)]) (h : lp_X4_firstWeakerThan_2 post n M a0 x1 x2), W p l e (rmk 1) s m args below meth c H locs 0 0 (MQ below (va_Qi post (Qw G) (Af G s.heap.size)) args s 0 0 (Af G s.heap.size)) (F0 m 2 ls []) := by
  have hx := C.1.1
  have hb := C.1.2.1
  intro n9
  induction n9 with
  | zero => intro M a0 x1 x2 H locs ls ha0 w hl h; exact absurd h id
  | succ n9 ih9 =>
    intro M a0 x1 x2 H locs ls ha0 w hl h
    have hk2 : ∀ (M : Mem) (a0 : Nat) (x1 : Int32) (x2 : Int32) (H : Heap) (locs : List Loc) (ls : Array Slot), (1 ≤ a0 ∧ a0 < 4) → Wd G s M H locs → lv_has ls 3 [(0, .ref (ga G a0)), (1, .int x1), (2, .int x2)] → lp_X4_firstWeakerThan_2 post n9 M a0 x1 x2 → W p l e (rmk 1) s m args below meth c H locs 0 0 (MQ below (va_Qi post (Qw G) (Af G s.heap.size)) args s 0 0 (Af G s.heap.size)) (F0 m 2 ls []) := fun M a0 x1 x2 H locs ls ha0 w hl h => ih9 M a0 x1 x2 ha0 w hl h
    replace h : b_X4_firstWeakerThan_2 (lp_X4_firstWeakerThan_2 post n9) post M a0 x1 x2 := h
    unfold b_X4_firstWeakerThan_2 at h
    refine lv_iload_n hx hb dX4_firstWeakerThan_2 rfl (lv_at hl 2 rfl) ?_
    refine lv_aload_n hx hb dX4_firstWeakerThan_3 rfl (lv_at hl 0 rfl) ?_
    refine gt_4_1 C w ha0 kw_2_17 dX4_firstWeakerThan_4 ?_
    refine lv_icmp_ge (tgt := 41) hx hb dX4_firstWeakerThan_7 (by decide) (fun c1 => ?_) (fun c1 => ?_)
    · replace h := h.1 c1
      refine lv_bipush (v := -4) hx hb dX4_firstWeakerThan_41 (by decide) ?_
      exact ret_i C w h dX4_firstWeakerThan_43
    replace h := h.2 c1
    refine lv_iload_n hx hb dX4_firstWeakerThan_10 rfl (lv_at hl 1 rfl) ?_
    refine lv_aload_n hx hb dX4_firstWeakerThan_11 rfl (lv_at hl 0 rfl) ?_
    refine gt_4_0 C w ha0 kw_2_16 dX4_firstWeakerThan_12 ?_
    refine lv_iload_n hx hb dX4_firstWeakerThan_15 rfl (lv_at hl 2 rfl) ?_
    have hin2 := h.1
    replace h := h.2
    have hz_hin2 := in_lt hin2
    refine pw_ldP C w (i := (7 + a0)) (by omega) hin2 dX4_firstWeakerThan_16 (j := (32 + 6 * a0 + x2.toNatClampNeg)) (by omega) ?_
    refine gn_1_7 C w (by omega) kn_11 dX4_firstWeakerThan_17 ?_
    refine lv_aload_n hx hb dX4_firstWeakerThan_20 rfl (lv_at hl 0 rfl) ?_
    refine gt_4_0 C w ha0 kw_2_16 dX4_firstWeakerThan_21 ?_
    refine lv_iload_n hx hb dX4_firstWeakerThan_24 rfl (lv_at hl 2 rfl) ?_
    refine pw_ldP C w (i := (7 + a0)) (by omega) hin2 dX4_firstWeakerThan_25 (j := (32 + 6 * a0 + x2.toNatClampNeg)) (by omega) ?_
    refine gn_1_4 C w (by omega) kn_5 dX4_firstWeakerThan_26 ?_
    refine lv_isub hx hb dX4_firstWeakerThan_29 ?_
    refine lv_icmp_le (tgt := 35) hx hb dX4_firstWeakerThan_30 (by decide) (fun c3 => ?_) (fun c3 => ?_)
    · replace h := h.1 c3
      refine lv_iinc (v := (x2 + (1 : Int32))) (lv' := [(2, .int (x2 + (1 : Int32))), (0, .ref (ga G a0)), (1, .int x1)]) hx hb dX4_firstWeakerThan_35 hl (k := 2) rfl rfl (by decide) rfl (fun ls hl => ?_)
      refine lv_goto (tgt := 2) hx hb dX4_firstWeakerThan_38 (by decide) ?_
      exact hk2 M a0 x1 (x2 + (1 : Int32)) _ _ _ ha0 w (lv_sub hl [1, 2, 0] rfl) h
    replace h := h.2 c3
    refine lv_iload_n hx hb dX4_firstWeakerThan_33 rfl (lv_at hl 2 rfl) ?_
    exact ret_i C w h dX4_firstWeakerThan_34
set_option maxHeartbeats 4000000 in
set_option maxRecDepth 100000 in
theorem c_X4_firstWeakerThan (l : Launch) (G : GG) (hG : Ag G) (sz : Nat) (M : Mem) (a0 : Nat) (x1 : Int32) (ha0 : 1 ≤ a0 ∧ a0 < 4) (post : Int32 → Mem → Prop) (h : q_X4_firstWeakerThan M a0 x1 post) : Met l yX4_firstWeakerThan (Cond.code yX4_firstWeakerThan cX4_firstWeakerThan 3 (some .int) :: wsL_law) (rmk 1) (va_Pc [.ref (ga G a0), .int x1] (Pw G sz M)) (va_Qi post (Qw G) (Af G sz)) 0 0 (Af G sz) := by
  refine Met.ofW (cc := cX4_firstWeakerThan) (maxL := 3) (ret := (some .int)) (by decide) rfl ?_
  intro p e s m args below meth c s₁ B hml hv
  obtain ⟨rfl, hsz, hE, hP⟩ := hv
  subst hsz
  have C := Cx.of (own := RX4) hG hE rfl hml B
  have w : Wd G s M s.heap [] := ⟨hP, va_S.rf⟩
  have hl := lv_entry [.ref (ga G a0), .int x1] (n := 3) (Nat.le_of_ble_eq_true rfl)
  rw [lg_entry_eq]
  generalize (lg_sl [.ref (ga G a0), .int x1] ++ List.replicate (3 - (lg_sl [.ref (ga G a0), .int x1]).length) Slot.unset).toArray = ls at hl ⊢
  have hl : lv_has ls 3 [(0, .ref (ga G a0)), (1, .int x1)] := hl
  have hx := C.1.1
  have hb := C.1.2.1
  show W p l e (rmk 1) s m _ below meth c s.heap [] 0 0 _ _
  unfold q_X4_firstWeakerThan at h
  refine lv_iconst (v := 0) hx hb dX4_firstWeakerThan_0 (by decide) ?_
  refine lv_istore_n (lv' := [(2, .int (0 : Int32)), (0, .ref (ga G a0)), (1, .int x1)]) hx hb dX4_firstWeakerThan_1 rfl hl (by decide) rfl (fun ls hl => ?_)
  obtain ⟨n, h⟩ := h
  exact t_X4_firstWeakerThan_2 C n M a0 x1 (0 : Int32) ha0 w (lv_sub hl [1, 2, 0] rfl) h
def q_X1_bear (M : Mem) (a0 : Nat) (post : Mem → Prop) : Prop := ∀ M1 : Mem, M1 = (mup M a0 4 (if ((M a0 4) + (M a0 8)) < (999 : Int32) then ((M a0 4) + (M a0 8)) else (999 : Int32))) → (post M1)
set_option maxHeartbeats 4000000 in
set_option maxRecDepth 100000 in
theorem c_X1_bear (l : Launch) (G : GG) (hG : Ag G) (sz : Nat) (M : Mem) (a0 : Nat) (ha0 : 30 ≤ a0 ∧ a0 < 57) (post : Mem → Prop) (h : q_X1_bear M a0 post) : Met l yX1_bear (Cond.code yX1_bear cX1_bear 1 none :: wsL_law) (rmk 1) (va_Pc [.ref (ga G a0)] (Pw G sz M)) (va_Qv post (Qw G) (Af G sz)) 0 0 (Af G sz) := by
  refine Met.ofW (cc := cX1_bear) (maxL := 1) (ret := none) (by decide) rfl ?_
  intro p e s m args below meth c s₁ B hml hv
  obtain ⟨rfl, hsz, hE, hP⟩ := hv
  subst hsz
  have C := Cx.of (own := RX1) hG hE rfl hml B
  have w : Wd G s M s.heap [] := ⟨hP, va_S.rf⟩
  have hl := lv_entry [.ref (ga G a0)] (n := 1) (Nat.le_of_ble_eq_true rfl)
  rw [lg_entry_eq]
  generalize (lg_sl [.ref (ga G a0)] ++ List.replicate (1 - (lg_sl [.ref (ga G a0)]).length) Slot.unset).toArray = ls at hl ⊢
  have hl : lv_has ls 1 [(0, .ref (ga G a0))] := hl
  have hx := C.1.1
  have hb := C.1.2.1
  show W p l e (rmk 1) s m _ below meth c s.heap [] 0 0 _ _
  unfold q_X1_bear at h
  refine lv_aload_n hx hb dX1_bear_0 rfl (lv_at hl 0 rfl) ?_
  refine lv_sipush (v := 999) hx hb dX1_bear_1 (by decide) ?_
  refine lv_aload_n hx hb dX1_bear_4 rfl (lv_at hl 0 rfl) ?_
  refine gt_1_4 C w ha0 kw_3_14 dX1_bear_5 ?_
  refine lv_aload_n hx hb dX1_bear_8 rfl (lv_at hl 0 rfl) ?_
  refine gt_1_8 C w ha0 kw_3_18 dX1_bear_9 ?_
  refine lv_iadd hx hb dX1_bear_12 ?_
  refine va_mmin hx hb (C.ml hl) C.1.2.2.2.1 (C.ws kw_21_12) (C.ws kw_21_13) (C.ws kw_16_12) (C.ws kw_21_14) (Nat.le_of_ble_eq_true rfl) (Nat.le_of_ble_eq_true rfl) (Nat.le_refl 0) (Nat.le_refl 0) dX1_bear_13 ?_
  refine pt_1_4 C w ha0 kw_3_14 dX1_bear_16 (fun H locs w => ?_)
  obtain ⟨M1, eM1⟩ : ∃ z : Mem, z = (mup M a0 4 (if ((M a0 4) + (M a0 8)) < (999 : Int32) then ((M a0 4) + (M a0 8)) else (999 : Int32))) := ⟨_, rfl⟩
  replace w : Wd G s M1 H locs := by rw [eM1]; exact w
  replace h := h M1 eM1
  exact ret_v C w h dX1_bear_19
def b_X4_hurtPieces_2 (k2 : Mem → Nat → Int32 → Prop) (post : Mem → Prop) (M : Mem) (a0 : Nat) (x1 : Int32) : Prop := ((M a0 1) ≤ x1 → (post M)) ∧ (¬ ((M a0 1) ≤ x1) → (vp_in x1 6 ∧ (q_X1_bear M (32 + 6 * a0 + x1.toNatClampNeg) (fun M4 => k2 M4 a0 (x1 + (1 : Int32))))))
def lp_X4_hurtPieces_2 (post : Mem → Prop) : Nat → Mem → Nat → Int32 → Prop
  | 0 => fun _ _ _ => False
  | n + 1 => fun M a0 x1 => b_X4_hurtPieces_2 (lp_X4_hurtPieces_2 post n) post M a0 x1
def q_X4_hurtPieces (M : Mem) (a0 : Nat) (post : Mem → Prop) : Prop := ∃ n, lp_X4_hurtPieces_2 post n M a0 (0 : Int32)
set_option maxHeartbeats 4000000 in
set_option maxRecDepth 100000 in
theorem t_X4_hurtPieces_2 (C : Cx G p s m args meth c RX4 cX4_hurtPieces 2 none) {post : Mem → Prop} : ∀ (n : Nat) (M : Mem) (a0 : Nat) (x1 : Int32) {H : Heap} {locs : List Loc} {ls : Array Slot} (ha0 : 1 ≤ a0 ∧ a0 < 4) (w : Wd G s M H locs) (hl : lv_has ls 2 [(0, .ref (ga G a0)), (1, .int x1)]) (h : lp_X4_hurtPieces_2 post n M a0 x1), W p l e (rmk 2) s m args below meth c H locs 0 0 (MQ below (va_Qv post (Qw G) (Af G s.heap.size)) args s 0 0 (Af G s.heap.size)) (F0 m 2 ls []) := by
  have hx := C.1.1
  have hb := C.1.2.1
  intro n9
  induction n9 with
  | zero => intro M a0 x1 H locs ls ha0 w hl h; exact absurd h id
  | succ n9 ih9 =>
    intro M a0 x1 H locs ls ha0 w hl h
    have hk2 : ∀ (M : Mem) (a0 : Nat) (x1 : Int32) (H : Heap) (locs : List Loc) (ls : Array Slot), (1 ≤ a0 ∧ a0 < 4) → Wd G s M H locs → lv_has ls 2 [(0, .ref (ga G a0)), (1, .int x1)] → lp_X4_hurtPieces_2 post n9 M a0 x1 → W p l e (rmk 2) s m args below meth c H locs 0 0 (MQ below (va_Qv post (Qw G) (Af G s.heap.size)) args s 0 0 (Af G s.heap.size)) (F0 m 2 ls []) := fun M a0 x1 H locs ls ha0 w hl h => ih9 M a0 x1 ha0 w hl h
    replace h : b_X4_hurtPieces_2 (lp_X4_hurtPieces_2 post n9) post M a0 x1 := h
    unfold b_X4_hurtPieces_2 at h
    refine lv_iload_n hx hb dX4_hurtPieces_2 rfl (lv_at hl 1 rfl) ?_
    refine lv_aload_n hx hb dX4_hurtPieces_3 rfl (lv_at hl 0 rfl) ?_
    refine gt_4_1 C w ha0 kw_2_17 dX4_hurtPieces_4 ?_
    refine lv_icmp_ge (tgt := 25) hx hb dX4_hurtPieces_7 (by decide) (fun c1 => ?_) (fun c1 => ?_)
    · replace h := h.1 c1
      exact ret_v C w h dX4_hurtPieces_25
    replace h := h.2 c1
    refine lv_aload_n hx hb dX4_hurtPieces_10 rfl (lv_at hl 0 rfl) ?_
    refine gt_4_0 C w ha0 kw_2_16 dX4_hurtPieces_11 ?_
    refine lv_iload_n hx hb dX4_hurtPieces_14 rfl (lv_at hl 1 rfl) ?_
    have hin2 := h.1
    replace h := h.2
    have hz_hin2 := in_lt hin2
    refine pw_ldP C w (i := (7 + a0)) (by omega) hin2 dX4_hurtPieces_15 (j := (32 + 6 * a0 + x1.toNatClampNeg)) (by omega) ?_
    refine end_v w (run_VN (As := []) C w hl.1 (c_X1_bear l G C.2.2.1 _ _ (32 + 6 * a0 + x1.toNatClampNeg) (by omega) _ h) kw_21_11 kw_2_1 kn_67 kw_21_9 kw_21_10 hd_X1_bear ⟨by decide, by decide⟩ (w.recv C (i := (32 + 6 * a0 + x1.toNatClampNeg)) (by omega) (pE_1 (by omega)) rfl) rfl (Nat.le_of_ble_eq_true rfl) dX4_hurtPieces_16) (fun M4 H locs h w => ?_)
    refine lv_iinc (v := (x1 + (1 : Int32))) (lv' := [(1, .int (x1 + (1 : Int32))), (0, .ref (ga G a0))]) hx hb dX4_hurtPieces_19 hl (k := 1) rfl rfl (by decide) rfl (fun ls hl => ?_)
    refine lv_goto (tgt := 2) hx hb dX4_hurtPieces_22 (by decide) ?_
    exact hk2 M4 a0 (x1 + (1 : Int32)) _ _ _ ha0 w (lv_sub hl [1, 0] rfl) h
set_option maxHeartbeats 4000000 in
set_option maxRecDepth 100000 in
theorem c_X4_hurtPieces (l : Launch) (G : GG) (hG : Ag G) (sz : Nat) (M : Mem) (a0 : Nat) (ha0 : 1 ≤ a0 ∧ a0 < 4) (post : Mem → Prop) (h : q_X4_hurtPieces M a0 post) : Met l yX4_hurtPieces (Cond.code yX4_hurtPieces cX4_hurtPieces 2 none :: wsL_law) (rmk 2) (va_Pc [.ref (ga G a0)] (Pw G sz M)) (va_Qv post (Qw G) (Af G sz)) 0 0 (Af G sz) := by
  refine Met.ofW (cc := cX4_hurtPieces) (maxL := 2) (ret := none) (by decide) rfl ?_
  intro p e s m args below meth c s₁ B hml hv
  obtain ⟨rfl, hsz, hE, hP⟩ := hv
  subst hsz
  have C := Cx.of (own := RX4) hG hE rfl hml B
  have w : Wd G s M s.heap [] := ⟨hP, va_S.rf⟩
  have hl := lv_entry [.ref (ga G a0)] (n := 2) (Nat.le_of_ble_eq_true rfl)
  rw [lg_entry_eq]
  generalize (lg_sl [.ref (ga G a0)] ++ List.replicate (2 - (lg_sl [.ref (ga G a0)]).length) Slot.unset).toArray = ls at hl ⊢
  have hl : lv_has ls 2 [(0, .ref (ga G a0))] := hl
  have hx := C.1.1
  have hb := C.1.2.1
  show W p l e (rmk 2) s m _ below meth c s.heap [] 0 0 _ _
  unfold q_X4_hurtPieces at h
  refine lv_iconst (v := 0) hx hb dX4_hurtPieces_0 (by decide) ?_
  refine lv_istore_n (lv' := [(1, .int (0 : Int32)), (0, .ref (ga G a0))]) hx hb dX4_hurtPieces_1 rfl hl (by decide) rfl (fun ls hl => ?_)
  obtain ⟨n, h⟩ := h
  exact t_X4_hurtPieces_2 C n M a0 (0 : Int32) ha0 w (lv_sub hl [1, 0] rfl) h
def j_X4_passTenth_73 (post : Int32 → Mem → Prop) (M : Mem) (x3 : Int32) : Prop := post x3 M
def j_X4_passTenth_39 (post : Int32 → Mem → Prop) (M : Mem) (a0 : Nat) (x2 : Int32) (x3 : Int32) : Prop := q_X4_firstWeakerThan M a0 x3 (fun r1 M2 => ∀ M3 : Mem, M3 = (mup M2 a0 7 r1) → (((M3 a0 7) = (-4 : Int32) → ((x2 ≤ 0 → (j_X4_passTenth_73 post M3 x3)) ∧ (¬ (x2 ≤ 0) → (q_X4_hurtPieces M3 a0 (fun M7 => j_X4_passTenth_73 post M7 x3))))) ∧ (¬ ((M3 a0 7) = (-4 : Int32)) → (∀ M8 : Mem, M8 = (mup M3 a0 8 x3) → (j_X4_passTenth_73 post M8 x3)))))
def q_X4_passTenth (M : Mem) (a0 : Nat) (post : Int32 → Mem → Prop) : Prop := q_X0_overAt M (M a0 5) (fun r9 M10 => q_X0_pullOver M10 r9 (fun r11 M12 => ∀ M13 : Mem, M13 = (mup M12 a0 5 ((M12 a0 5) + (1 : Int32))) → ((r9 ≤ 0 → (j_X4_passTenth_39 post M13 a0 r9 r11)) ∧ (¬ (r9 ≤ 0) → (∀ M15 : Mem, M15 = (mup M13 a0 6 ((M13 a0 6) + (1 : Int32))) → (j_X4_passTenth_39 post M15 a0 r9 r11))))))
set_option maxHeartbeats 4000000 in
set_option maxRecDepth 100000 in
theorem t_X4_passTenth_73 (C : Cx G p s m args meth c RX4 cX4_passTenth 4 (some .int)) {post : Int32 → Mem → Prop} (M : Mem) (x3 : Int32) {H : Heap} {locs : List Loc} {ls : Array Slot} (w : Wd G s M H locs) (hl : lv_has ls 4 [(3, .int x3)]) (h : j_X4_passTenth_73 post M x3) : W p l e (rmk 4) s m args below meth c H locs 0 0 (MQ below (va_Qi post (Qw G) (Af G s.heap.size)) args s 0 0 (Af G s.heap.size)) (F0 m 73 ls []) := by
  have hx := C.1.1
  have hb := C.1.2.1
  unfold j_X4_passTenth_73 at h
  refine lv_iload_n hx hb dX4_passTenth_73 rfl (lv_at hl 0 rfl) ?_
  exact ret_i C w h dX4_passTenth_74
set_option maxHeartbeats 4000000 in
set_option maxRecDepth 100000 in
theorem t_X4_passTenth_39 (C : Cx G p s m args meth c RX4 cX4_passTenth 4 (some .int)) {post : Int32 → Mem → Prop} (M : Mem) (a0 : Nat) (x2 : Int32) (x3 : Int32) {H : Heap} {locs : List Loc} {ls : Array Slot} (ha0 : 1 ≤ a0 ∧ a0 < 4) (w : Wd G s M H locs) (hl : lv_has ls 4 [(0, .ref (ga G a0)), (2, .int x2), (3, .int x3)]) (h : j_X4_passTenth_39 post M a0 x2 x3) : W p l e (rmk 4) s m args below meth c H locs 0 0 (MQ below (va_Qi post (Qw G) (Af G s.heap.size)) args s 0 0 (Af G s.heap.size)) (F0 m 39 ls []) := by
  have hx := C.1.1
  have hb := C.1.2.1
  unfold j_X4_passTenth_39 at h
  refine lv_aload_n hx hb dX4_passTenth_39 rfl (lv_at hl 0 rfl) ?_
  refine lv_aload_n hx hb dX4_passTenth_40 rfl (lv_at hl 0 rfl) ?_
  refine lv_iload_n hx hb dX4_passTenth_41 rfl (lv_at hl 2 rfl) ?_
  refine end_i w (run_V (As := [.int x3]) C w hl.1 (c_X4_firstWeakerThan l G C.2.2.1 _ _ a0 x3 ha0 _ h) kw_21_4 kw_1_15 kw_21_1 kw_21_2 kw_21_3 hd_X4_firstWeakerThan ⟨by decide, by decide⟩ (w.recv C (i := a0) (by omega) (pE_4 ha0) rfl) rfl (Nat.le_of_ble_eq_true rfl) dX4_passTenth_42) (fun r1 M2 H locs h w => ?_)
  refine pt_4_7 C w ha0 kw_3_5 dX4_passTenth_45 (fun H locs w => ?_)
  obtain ⟨M3, eM3⟩ : ∃ z : Mem, z = (mup M2 a0 7 r1) := ⟨_, rfl⟩
  replace w : Wd G s M3 H locs := by rw [eM3]; exact w
  replace h := h M3 eM3
  refine lv_aload_n hx hb dX4_passTenth_48 rfl (lv_at hl 0 rfl) ?_
  refine gt_4_7 C w ha0 kw_3_5 dX4_passTenth_49 ?_
  refine lv_bipush (v := -4) hx hb dX4_passTenth_52 (by decide) ?_
  refine lv_icmp_eq (tgt := 65) hx hb dX4_passTenth_54 (by decide) (fun c4 => ?_) (fun c4 => ?_)
  · replace h := h.1 c4
    refine lv_iload_n hx hb dX4_passTenth_65 rfl (lv_at hl 1 rfl) ?_
    refine lv_if_le (tgt := 73) hx hb dX4_passTenth_66 (by decide) (fun c5 => ?_) (fun c5 => ?_)
    · replace h := h.1 c5
      exact t_X4_passTenth_73 C M3 x3  w (lv_sub hl [2] rfl) h
    replace h := h.2 c5
    refine lv_aload_n hx hb dX4_passTenth_69 rfl (lv_at hl 0 rfl) ?_
    refine end_v w (run_V (As := []) C w hl.1 (c_X4_hurtPieces l G C.2.2.1 _ _ a0 ha0 _ h) kw_21_8 kw_1_15 kw_21_5 kw_21_6 kw_21_7 hd_X4_hurtPieces ⟨by decide, by decide⟩ (w.recv C (i := a0) (by omega) (pE_4 ha0) rfl) rfl (Nat.le_of_ble_eq_true rfl) dX4_passTenth_70) (fun M7 H locs h w => ?_)
    exact t_X4_passTenth_73 C M7 x3  w (lv_sub hl [2] rfl) h
  replace h := h.2 c4
  refine lv_aload_n hx hb dX4_passTenth_57 rfl (lv_at hl 0 rfl) ?_
  refine lv_iload_n hx hb dX4_passTenth_58 rfl (lv_at hl 2 rfl) ?_
  refine pt_4_8 C w ha0 kw_3_6 dX4_passTenth_59 (fun H locs w => ?_)
  obtain ⟨M8, eM8⟩ : ∃ z : Mem, z = (mup M3 a0 8 x3) := ⟨_, rfl⟩
  replace w : Wd G s M8 H locs := by rw [eM8]; exact w
  replace h := h M8 eM8
  refine lv_goto (tgt := 73) hx hb dX4_passTenth_62 (by decide) ?_
  exact t_X4_passTenth_73 C M8 x3  w (lv_sub hl [2] rfl) h
set_option maxHeartbeats 4000000 in
set_option maxRecDepth 100000 in
theorem c_X4_passTenth (l : Launch) (G : GG) (hG : Ag G) (sz : Nat) (M : Mem) (a0 : Nat) (ha0 : 1 ≤ a0 ∧ a0 < 4) (post : Int32 → Mem → Prop) (h : q_X4_passTenth M a0 post) : Met l yX4_passTenth (Cond.code yX4_passTenth cX4_passTenth 4 (some .int) :: wsL_law) (rmk 4) (va_Pc [.ref (ga G a0), .ref (ga G 4)] (Pw G sz M)) (va_Qi post (Qw G) (Af G sz)) 0 0 (Af G sz) := by
  refine Met.ofW (cc := cX4_passTenth) (maxL := 4) (ret := (some .int)) (by decide) rfl ?_
  intro p e s m args below meth c s₁ B hml hv
  obtain ⟨rfl, hsz, hE, hP⟩ := hv
  subst hsz
  have C := Cx.of (own := RX4) hG hE rfl hml B
  have w : Wd G s M s.heap [] := ⟨hP, va_S.rf⟩
  have hl := lv_entry [.ref (ga G a0), .ref (ga G 4)] (n := 4) (Nat.le_of_ble_eq_true rfl)
  rw [lg_entry_eq]
  generalize (lg_sl [.ref (ga G a0), .ref (ga G 4)] ++ List.replicate (4 - (lg_sl [.ref (ga G a0), .ref (ga G 4)]).length) Slot.unset).toArray = ls at hl ⊢
  have hl : lv_has ls 4 [(0, .ref (ga G a0)), (1, .ref (ga G 4))] := hl
  have hx := C.1.1
  have hb := C.1.2.1
  show W p l e (rmk 4) s m _ below meth c s.heap [] 0 0 _ _
  unfold q_X4_passTenth at h
  refine lv_aload_n hx hb dX4_passTenth_0 rfl (lv_at hl 1 rfl) ?_
  refine lv_aload_n hx hb dX4_passTenth_1 rfl (lv_at hl 0 rfl) ?_
  refine gt_4_5 C w ha0 kw_3_3 dX4_passTenth_2 ?_
  refine end_i w (run_VN (As := [.int (M a0 5)]) C w hl.1 (c_X0_overAt l G C.2.2.1 _ _ (M a0 5)  _ h) kw_20_0 kw_1_21 kn_65 kw_19_22 kw_19_23 hd_X0_overAt ⟨by decide, by decide⟩ (w.recv C (i := 4) (by decide) (pE_0) rfl) rfl (Nat.le_of_ble_eq_true rfl) dX4_passTenth_5) (fun r9 M10 H locs h w => ?_)
  refine lv_istore_n (lv' := [(2, .int r9), (0, .ref (ga G a0)), (1, .ref (ga G 4))]) hx hb dX4_passTenth_8 rfl hl (by decide) rfl (fun ls hl => ?_)
  refine lv_aload_n hx hb dX4_passTenth_9 rfl (lv_at hl 2 rfl) ?_
  refine lv_iload_n hx hb dX4_passTenth_10 rfl (lv_at hl 0 rfl) ?_
  refine end_i w (run_VN (As := [.int r9]) C w hl.1 (c_X0_pullOver l G C.2.2.1 _ _ r9  _ h) kw_20_6 kw_1_21 kn_66 kw_20_4 kw_20_5 hd_X0_pullOver ⟨by decide, by decide⟩ (w.recv C (i := 4) (by decide) (pE_0) rfl) rfl (Nat.le_of_ble_eq_true rfl) dX4_passTenth_11) (fun r11 M12 H locs h w => ?_)
  refine lv_istore_n (lv' := [(3, .int r11), (2, .int r9), (0, .ref (ga G a0)), (1, .ref (ga G 4))]) hx hb dX4_passTenth_14 rfl hl (by decide) rfl (fun ls hl => ?_)
  refine lv_aload_n hx hb dX4_passTenth_15 rfl (lv_at hl 2 rfl) ?_
  refine lv_dup hx hb dX4_passTenth_16 rfl ?_
  refine gt_4_5 C w ha0 kw_3_3 dX4_passTenth_17 ?_
  refine lv_iconst (v := 1) hx hb dX4_passTenth_20 (by decide) ?_
  refine lv_iadd hx hb dX4_passTenth_21 ?_
  refine pt_4_5 C w ha0 kw_3_3 dX4_passTenth_22 (fun H locs w => ?_)
  obtain ⟨M13, eM13⟩ : ∃ z : Mem, z = (mup M12 a0 5 ((M12 a0 5) + (1 : Int32))) := ⟨_, rfl⟩
  replace w : Wd G s M13 H locs := by rw [eM13]; exact w
  replace h := h M13 eM13
  refine lv_iload_n hx hb dX4_passTenth_25 rfl (lv_at hl 1 rfl) ?_
  refine lv_if_le (tgt := 39) hx hb dX4_passTenth_26 (by decide) (fun c14 => ?_) (fun c14 => ?_)
  · replace h := h.1 c14
    exact t_X4_passTenth_39 C M13 a0 r9 r11 ha0 w (lv_sub hl [2, 1, 0] rfl) h
  replace h := h.2 c14
  refine lv_aload_n hx hb dX4_passTenth_29 rfl (lv_at hl 2 rfl) ?_
  refine lv_dup hx hb dX4_passTenth_30 rfl ?_
  refine gt_4_6 C w ha0 kw_3_4 dX4_passTenth_31 ?_
  refine lv_iconst (v := 1) hx hb dX4_passTenth_34 (by decide) ?_
  refine lv_iadd hx hb dX4_passTenth_35 ?_
  refine pt_4_6 C w ha0 kw_3_4 dX4_passTenth_36 (fun H locs w => ?_)
  obtain ⟨M15, eM15⟩ : ∃ z : Mem, z = (mup M13 a0 6 ((M13 a0 6) + (1 : Int32))) := ⟨_, rfl⟩
  replace w : Wd G s M15 H locs := by rw [eM15]; exact w
  replace h := h M15 eM15
  exact t_X4_passTenth_39 C M15 a0 r9 r11 ha0 w (lv_sub hl [2, 1, 0] rfl) h
def j_X5_tenth_23 (post : Int32 → Mem → Prop) (M : Mem) (y0 : Int32) : Prop := post y0 M
def q_X5_tenth (M : Mem) (post : Int32 → Mem → Prop) : Prop := q_X5_layLine M  (fun r1 M2 => (r1 = 0 → (j_X5_tenth_23 post M2 (-3 : Int32))) ∧ (¬ (r1 = 0) → (q_X4_passTenth M2 1 (fun r4 M5 => j_X5_tenth_23 post M5 r4))))
set_option maxHeartbeats 4000000 in
set_option maxRecDepth 100000 in
theorem t_X5_tenth_23 (C : Cx G p s m args meth c RX5 cX5_tenth 1 (some .int)) {post : Int32 → Mem → Prop} (M : Mem) (y0 : Int32) {H : Heap} {locs : List Loc} {ls : Array Slot} (w : Wd G s M H locs) (hl : lv_has ls 1 []) (h : j_X5_tenth_23 post M y0) : W p l e (rmk 5) s m args below meth c H locs 0 0 (MQ below (va_Qi post (Qw G) (Af G s.heap.size)) args s 0 0 (Af G s.heap.size)) (F0 m 23 ls [.int y0]) := by
  have hx := C.1.1
  have hb := C.1.2.1
  unfold j_X5_tenth_23 at h
  exact ret_i C w h dX5_tenth_23
set_option maxHeartbeats 4000000 in
set_option maxRecDepth 100000 in
theorem c_X5_tenth (l : Launch) (G : GG) (hG : Ag G) (sz : Nat) (M : Mem) (post : Int32 → Mem → Prop) (h : q_X5_tenth M post) : Met l yX5_tenth (Cond.code yX5_tenth cX5_tenth 1 (some .int) :: wsL_law) (rmk 5) (va_Pc [.ref (ga G 0)] (Pw G sz M)) (va_Qi post (Qw G) (Af G sz)) 0 0 (Af G sz) := by
  refine Met.ofW (cc := cX5_tenth) (maxL := 1) (ret := (some .int)) (by decide) rfl ?_
  intro p e s m args below meth c s₁ B hml hv
  obtain ⟨rfl, hsz, hE, hP⟩ := hv
  subst hsz
  have C := Cx.of (own := RX5) hG hE rfl hml B
  have w : Wd G s M s.heap [] := ⟨hP, va_S.rf⟩
  have hl := lv_entry [.ref (ga G 0)] (n := 1) (Nat.le_of_ble_eq_true rfl)
  rw [lg_entry_eq]
  generalize (lg_sl [.ref (ga G 0)] ++ List.replicate (1 - (lg_sl [.ref (ga G 0)]).length) Slot.unset).toArray = ls at hl ⊢
  have hl : lv_has ls 1 [(0, .ref (ga G 0))] := hl
  have hx := C.1.1
  have hb := C.1.2.1
  show W p l e (rmk 5) s m _ below meth c s.heap [] 0 0 _ _
  unfold q_X5_tenth at h
  refine lv_aload_n hx hb dX5_tenth_0 rfl (lv_at hl 0 rfl) ?_
  refine end_i w (run_V (As := []) C w hl.1 (c_X5_layLine l G C.2.2.1 _ _   _ h) kw_15_21 kw_1_2 kw_15_18 kw_15_19 kw_15_20 hd_X5_layLine ⟨by decide, by decide⟩ (w.recv C (i := 0) (by decide) (pE_5) rfl) rfl (Nat.le_of_ble_eq_true rfl) dX5_tenth_1) (fun r1 M2 H locs h w => ?_)
  refine lv_if_eq (tgt := 21) hx hb dX5_tenth_4 (by decide) (fun c3 => ?_) (fun c3 => ?_)
  · replace h := h.1 c3
    refine lv_bipush (v := -3) hx hb dX5_tenth_21 (by decide) ?_
    exact t_X5_tenth_23 C M2 (-3 : Int32)  w (lv_sub hl [] rfl) h
  replace h := h.2 c3
  refine lv_aload_n hx hb dX5_tenth_7 rfl (lv_at hl 0 rfl) ?_
  refine gt_5_0 C w kw_1_16 dX5_tenth_8 ?_
  refine lv_aload_n hx hb dX5_tenth_11 rfl (lv_at hl 0 rfl) ?_
  refine gt_5_3 C w kw_1_22 dX5_tenth_12 ?_
  refine end_i w (run_VN (As := [.ref (ga G 4)]) C w hl.1 (c_X4_passTenth l G C.2.2.1 _ _ 1 ⟨by decide, by decide⟩ _ h) kw_21_0 kw_1_15 kn_64 kw_20_22 kw_20_23 hd_X4_passTenth ⟨by decide, by decide⟩ (w.recv C (i := 1) (by decide) (pE_4 ⟨by decide, by decide⟩) rfl) rfl (Nat.le_of_ble_eq_true rfl) dX5_tenth_15) (fun r4 M5 H locs h w => ?_)
  refine lv_goto (tgt := 23) hx hb dX5_tenth_18 (by decide) ?_
  exact t_X5_tenth_23 C M5 r4  w (lv_sub hl [] rfl) h
def q_X6_puts (M : Mem) (x1 : Int32) (x2 : Int32) (x3 : Int32) (post : Mem → Prop) : Prop := vp_in (((12 : Int32) + ((6 : Int32) * x1)) + x2) 54 ∧ (∀ M2 : Mem, M2 = (mup M 58 (((12 : Int32) + ((6 : Int32) * x1)) + x2).toNatClampNeg x3) → (post M2))
set_option maxHeartbeats 4000000 in
set_option maxRecDepth 100000 in
theorem c_X6_puts (l : Launch) (G : GG) (hG : Ag G) (sz : Nat) (M : Mem) (x1 : Int32) (x2 : Int32) (x3 : Int32) (post : Mem → Prop) (h : q_X6_puts M x1 x2 x3 post) : Met l yX6_puts (Cond.code yX6_puts cX6_puts 4 none :: wsL_law) (rmk 1) (va_Pc [.ref (ga G 57), .int x1, .int x2, .int x3] (Pw G sz M)) (va_Qv post (Qw G) (Af G sz)) 0 0 (Af G sz) := by
  refine Met.ofW (cc := cX6_puts) (maxL := 4) (ret := none) (by decide) rfl ?_
  intro p e s m args below meth c s₁ B hml hv
  obtain ⟨rfl, hsz, hE, hP⟩ := hv
  subst hsz
  have C := Cx.of (own := RX6) hG hE rfl hml B
  have w : Wd G s M s.heap [] := ⟨hP, va_S.rf⟩
  have hl := lv_entry [.ref (ga G 57), .int x1, .int x2, .int x3] (n := 4) (Nat.le_of_ble_eq_true rfl)
  rw [lg_entry_eq]
  generalize (lg_sl [.ref (ga G 57), .int x1, .int x2, .int x3] ++ List.replicate (4 - (lg_sl [.ref (ga G 57), .int x1, .int x2, .int x3]).length) Slot.unset).toArray = ls at hl ⊢
  have hl : lv_has ls 4 [(0, .ref (ga G 57)), (1, .int x1), (2, .int x2), (3, .int x3)] := hl
  have hx := C.1.1
  have hb := C.1.2.1
  show W p l e (rmk 1) s m _ below meth c s.heap [] 0 0 _ _
  unfold q_X6_puts at h
  refine lv_aload_n hx hb dX6_puts_0 rfl (lv_at hl 0 rfl) ?_
  refine gt_6_0 C w kw_5_0 dX6_puts_1 ?_
  refine lv_bipush (v := 12) hx hb dX6_puts_4 (by decide) ?_
  refine lv_bipush (v := 6) hx hb dX6_puts_6 (by decide) ?_
  refine lv_iload_n hx hb dX6_puts_8 rfl (lv_at hl 1 rfl) ?_
  refine lv_imul hx hb dX6_puts_9 ?_
  refine lv_iadd hx hb dX6_puts_10 ?_
  refine lv_iload_n hx hb dX6_puts_11 rfl (lv_at hl 2 rfl) ?_
  refine lv_iadd hx hb dX6_puts_12 ?_
  refine lv_iload_n hx hb dX6_puts_13 rfl (lv_at hl 3 rfl) ?_
  have hin1 := h.1
  replace h := h.2
  have hz_hin1 := in_lt hin1
  refine pw_st C w (i := 58) (by decide) (fun _ => pE_58) hin1 rfl dX6_puts_14 (fun H locs w => ?_)
  obtain ⟨M2, eM2⟩ : ∃ z : Mem, z = (mup M 58 (((12 : Int32) + ((6 : Int32) * x1)) + x2).toNatClampNeg x3) := ⟨_, rfl⟩
  replace w : Wd G s M2 H locs := by rw [eM2]; exact w
  replace h := h M2 eM2
  exact ret_v C w h dX6_puts_15
def q_X6_strengthOf (M : Mem) (x1 : Int32) (post : Int32 → Mem → Prop) : Prop := q_X6_get M x1 (0 : Int32) (fun r1 M2 => q_X6_get M2 x1 (1 : Int32) (fun r3 M4 => q_X6_strengthBy M4 r1 r3 (fun r5 M6 => post r5 M6)))
set_option maxHeartbeats 4000000 in
set_option maxRecDepth 100000 in
theorem c_X6_strengthOf (l : Launch) (G : GG) (hG : Ag G) (sz : Nat) (M : Mem) (x1 : Int32) (post : Int32 → Mem → Prop) (h : q_X6_strengthOf M x1 post) : Met l yX6_strengthOf (Cond.code yX6_strengthOf cX6_strengthOf 2 (some .int) :: wsL_law) (rmk 2) (va_Pc [.ref (ga G 57), .int x1] (Pw G sz M)) (va_Qi post (Qw G) (Af G sz)) 0 0 (Af G sz) := by
  refine Met.ofW (cc := cX6_strengthOf) (maxL := 2) (ret := (some .int)) (by decide) rfl ?_
  intro p e s m args below meth c s₁ B hml hv
  obtain ⟨rfl, hsz, hE, hP⟩ := hv
  subst hsz
  have C := Cx.of (own := RX6) hG hE rfl hml B
  have w : Wd G s M s.heap [] := ⟨hP, va_S.rf⟩
  have hl := lv_entry [.ref (ga G 57), .int x1] (n := 2) (Nat.le_of_ble_eq_true rfl)
  rw [lg_entry_eq]
  generalize (lg_sl [.ref (ga G 57), .int x1] ++ List.replicate (2 - (lg_sl [.ref (ga G 57), .int x1]).length) Slot.unset).toArray = ls at hl ⊢
  have hl : lv_has ls 2 [(0, .ref (ga G 57)), (1, .int x1)] := hl
  have hx := C.1.1
  have hb := C.1.2.1
  show W p l e (rmk 2) s m _ below meth c s.heap [] 0 0 _ _
  unfold q_X6_strengthOf at h
  refine lv_aload_n hx hb dX6_strengthOf_0 rfl (lv_at hl 0 rfl) ?_
  refine lv_iload_n hx hb dX6_strengthOf_1 rfl (lv_at hl 1 rfl) ?_
  refine lv_iconst (v := 0) hx hb dX6_strengthOf_2 (by decide) ?_
  refine end_i w (run_V (As := [.int x1, .int (0 : Int32)]) C w hl.1 (c_X6_get l G C.2.2.1 _ _ x1 (0 : Int32)  _ h) kw_14_10 kw_1_5 kw_14_7 kw_14_8 kw_14_9 hd_X6_get ⟨by decide, by decide⟩ (w.recv C (i := 57) (by decide) (pE_6) rfl) rfl (Nat.le_of_ble_eq_true rfl) dX6_strengthOf_3) (fun r1 M2 H locs h w => ?_)
  refine lv_aload_n hx hb dX6_strengthOf_6 rfl (lv_at hl 0 rfl) ?_
  refine lv_iload_n hx hb dX6_strengthOf_7 rfl (lv_at hl 1 rfl) ?_
  refine lv_iconst (v := 1) hx hb dX6_strengthOf_8 (by decide) ?_
  refine end_i w (run_V (As := [.int x1, .int (1 : Int32)]) C w hl.1 (c_X6_get l G C.2.2.1 _ _ x1 (1 : Int32)  _ h) kw_14_10 kw_1_5 kw_14_7 kw_14_8 kw_14_9 hd_X6_get ⟨by decide, by decide⟩ (w.recv C (i := 57) (by decide) (pE_6) rfl) rfl (Nat.le_of_ble_eq_true rfl) dX6_strengthOf_9) (fun r3 M4 H locs h w => ?_)
  refine end_i w (run_S (As := [.int r1, .int r3]) C w hl.1 (c_X6_strengthBy l G C.2.2.1 _ _ r1 r3  _ h) kw_14_19 kw_1_5 kw_14_17 kw_14_18 hd_X6_strengthBy ⟨by decide, by decide⟩ rfl (Nat.le_of_ble_eq_true rfl) dX6_strengthOf_12) (fun r5 M6 H locs h w => ?_)
  exact ret_i C w h dX6_strengthOf_15
def j_X6_goesTenth_230 (post : Int32 → Mem → Prop) (M : Mem) (y0 : Int32) (y1 : Int32) (y2 : Int32) (x2 : Int32) : Prop := vp_in y2 54 ∧ (∀ M2 : Mem, M2 = (mup M 58 y2.toNatClampNeg (y1 + y0)) → (∀ M3 : Mem, M3 = (mup M2 58 1 ((M2 58 1) + (1 : Int32))) → (post x2 M3)))
def j_X6_goesTenth_214 (post : Int32 → Mem → Prop) (M : Mem) (x2 : Int32) (x3 : Int32) : Prop := (x3 = 0 → (j_X6_goesTenth_230 post M (0 : Int32) (M 58 2) (2 : Int32) x2)) ∧ (¬ (x3 = 0) → (j_X6_goesTenth_230 post M (1 : Int32) (M 58 2) (2 : Int32) x2))
def j_X6_goesTenth_205 (k136 : Mem → Int32 → Int32 → Int32 → Prop) (post : Int32 → Mem → Prop) (M : Mem) (y0 : Int32) (y1 : Int32) (y2 : Int32) (x2 : Int32) (x3 : Int32) (x4 : Int32) : Prop := q_X6_puts M y2 y1 y0 (fun M6 => k136 M6 x2 x3 (x4 + (1 : Int32)))
def b_X6_goesTenth_136 (k136 : Mem → Int32 → Int32 → Int32 → Prop) (post : Int32 → Mem → Prop) (M : Mem) (x2 : Int32) (x3 : Int32) (x4 : Int32) : Prop := ((M 58 0) ≤ x4 → (j_X6_goesTenth_214 post M x2 x3)) ∧ (¬ ((M 58 0) ≤ x4) → ((0 ≤ (M 57 22) → (j_X6_goesTenth_214 post M x2 x3)) ∧ (¬ (0 ≤ (M 57 22)) → ((x3 = 0 → (j_X6_goesTenth_214 post M x2 x3)) ∧ (¬ (x3 = 0) → (q_X6_get M x4 (3 : Int32) (fun r10 M11 => q_X6_get M11 x4 (0 : Int32) (fun r12 M13 => q_X6_get M13 x4 (1 : Int32) (fun r14 M15 => q_X6_wearBy M15 r12 r14 (fun r16 M17 => ((r10 + r16) ≤ (999 : Int32) → (j_X6_goesTenth_205 k136 post M17 (r10 + r16) (3 : Int32) x4 x2 x3 x4)) ∧ (¬ ((r10 + r16) ≤ (999 : Int32)) → (j_X6_goesTenth_205 k136 post M17 (999 : Int32) (3 : Int32) x4 x2 x3 x4))))))))))))
def lp_X6_goesTenth_136 (post : Int32 → Mem → Prop) : Nat → Mem → Int32 → Int32 → Int32 → Prop
  | 0 => fun _ _ _ _ => False
  | n + 1 => fun M x2 x3 x4 => b_X6_goesTenth_136 (lp_X6_goesTenth_136 post n) post M x2 x3 x4
def j_X6_goesTenth_133 (post : Int32 → Mem → Prop) (M : Mem) (x2 : Int32) (x3 : Int32) : Prop := ∃ n, lp_X6_goesTenth_136 post n M x2 x3 (0 : Int32)
def j_X6_goesTenth_130 (post : Int32 → Mem → Prop) (M : Mem) (y0 : Int32) (y1 : Int32) (y2 : Int32) (x2 : Int32) (x3 : Int32) : Prop := q_X6_puts M y2 y1 y0 (fun M20 => j_X6_goesTenth_133 post M20 x2 x3)
def j_X6_goesTenth_74 (post : Int32 → Mem → Prop) (M : Mem) (x2 : Int32) (x3 : Int32) : Prop := ((M 57 22) < 0 → (j_X6_goesTenth_133 post M x2 x3)) ∧ (¬ ((M 57 22) < 0) → (q_X6_puts M (M 57 22) (4 : Int32) (1 : Int32) (fun M23 => q_X6_get M23 (M23 57 22) (3 : Int32) (fun r24 M25 => (r24 = 0 → (j_X6_goesTenth_130 post M25 (0 : Int32) (5 : Int32) (M23 57 22) x2 x3)) ∧ (¬ (r24 = 0) → (q_X6_strengthOf M25 (M25 57 22) (fun r27 M28 => (x2 ≤ r27 → (j_X6_goesTenth_130 post M28 (1 : Int32) (5 : Int32) (M23 57 22) x2 x3)) ∧ (¬ (x2 ≤ r27) → (j_X6_goesTenth_130 post M28 (2 : Int32) (5 : Int32) (M23 57 22) x2 x3)))))))))
def j_X6_goesTenth_68 (k26 : Mem → Int32 → Int32 → Int32 → Prop) (post : Int32 → Mem → Prop) (M : Mem) (x2 : Int32) (x3 : Int32) (x4 : Int32) : Prop := k26 M x2 x3 (x4 + (1 : Int32))
def b_X6_goesTenth_26 (k26 : Mem → Int32 → Int32 → Int32 → Prop) (post : Int32 → Mem → Prop) (M : Mem) (x2 : Int32) (x3 : Int32) (x4 : Int32) : Prop := ((M 58 0) ≤ x4 → (j_X6_goesTenth_74 post M x2 x3)) ∧ (¬ ((M 58 0) ≤ x4) → ((0 ≤ (M 57 22) → (j_X6_goesTenth_74 post M x2 x3)) ∧ (¬ (0 ≤ (M 57 22)) → (q_X6_strengthOf M x4 (fun r32 M33 => q_X6_get M33 x4 (3 : Int32) (fun r34 M35 => (x2 ≤ (r32 - r34) → (j_X6_goesTenth_68 k26 post M35 x2 x3 x4)) ∧ (¬ (x2 ≤ (r32 - r34)) → (∀ M37 : Mem, M37 = (mup M35 57 22 x4) → (j_X6_goesTenth_68 k26 post M37 x2 x3 x4)))))))))
def lp_X6_goesTenth_26 (post : Int32 → Mem → Prop) : Nat → Mem → Int32 → Int32 → Int32 → Prop
  | 0 => fun _ _ _ _ => False
  | n + 1 => fun M x2 x3 x4 => b_X6_goesTenth_26 (lp_X6_goesTenth_26 post n) post M x2 x3 x4
def q_X6_goesTenth (M : Mem) (x1 : Int32) (post : Int32 → Mem → Prop) : Prop := q_X6_pullAt M (M 58 1) x1 (fun r38 M39 => ∀ M40 : Mem, M40 = (mup M39 57 22 (-4 : Int32)) → (∃ n, lp_X6_goesTenth_26 post n M40 r38 (M39 57 21) (0 : Int32)))
set_option maxHeartbeats 4000000 in
set_option maxRecDepth 100000 in
theorem t_X6_goesTenth_230 (C : Cx G p s m args meth c RX6 cX6_goesTenth 6 (some .int)) {post : Int32 → Mem → Prop} (M : Mem) (y0 : Int32) (y1 : Int32) (y2 : Int32) (x2 : Int32) {H : Heap} {locs : List Loc} {ls : Array Slot} (w : Wd G s M H locs) (hl : lv_has ls 6 [(0, .ref (ga G 57)), (2, .int x2)]) (h : j_X6_goesTenth_230 post M y0 y1 y2 x2) : W p l e (rmk 4) s m args below meth c H locs 0 0 (MQ below (va_Qi post (Qw G) (Af G s.heap.size)) args s 0 0 (Af G s.heap.size)) (F0 m 230 ls [.int y0, .int y1, .int y2, .ref (ga G 58)]) := by
  have hx := C.1.1
  have hb := C.1.2.1
  unfold j_X6_goesTenth_230 at h
  refine lv_iadd hx hb dX6_goesTenth_230 ?_
  have hin1 := h.1
  replace h := h.2
  have hz_hin1 := in_lt hin1
  refine pw_st C w (i := 58) (by decide) (fun _ => pE_58) hin1 rfl dX6_goesTenth_231 (fun H locs w => ?_)
  obtain ⟨M2, eM2⟩ : ∃ z : Mem, z = (mup M 58 y2.toNatClampNeg (y1 + y0)) := ⟨_, rfl⟩
  replace w : Wd G s M2 H locs := by rw [eM2]; exact w
  replace h := h M2 eM2
  refine lv_aload_n hx hb dX6_goesTenth_232 rfl (lv_at hl 0 rfl) ?_
  refine gt_6_0 C w kw_5_0 dX6_goesTenth_233 ?_
  refine lv_iconst (v := 1) hx hb dX6_goesTenth_236 (by decide) ?_
  refine lv_dup2_11 hx hb dX6_goesTenth_237 rfl rfl ?_
  refine pw_ld C w (i := 58) (by decide) pE_58 (vl (x := (1 : Int32)) (by decide)) (k := 1) (by decide) dX6_goesTenth_238 ?_
  refine lv_iconst (v := 1) hx hb dX6_goesTenth_239 (by decide) ?_
  refine lv_iadd hx hb dX6_goesTenth_240 ?_
  refine pw_st C w (i := 58) (by decide) (fun _ => pE_58) (vl (x := (1 : Int32)) (by decide)) (k := 1) (by decide) dX6_goesTenth_241 (fun H locs w => ?_)
  obtain ⟨M3, eM3⟩ : ∃ z : Mem, z = (mup M2 58 1 ((M2 58 1) + (1 : Int32))) := ⟨_, rfl⟩
  replace w : Wd G s M3 H locs := by rw [eM3]; exact w
  replace h := h M3 eM3
  refine lv_iload_n hx hb dX6_goesTenth_242 rfl (lv_at hl 1 rfl) ?_
  exact ret_i C w h dX6_goesTenth_243
set_option maxHeartbeats 4000000 in
set_option maxRecDepth 100000 in
theorem t_X6_goesTenth_214 (C : Cx G p s m args meth c RX6 cX6_goesTenth 6 (some .int)) {post : Int32 → Mem → Prop} (M : Mem) (x2 : Int32) (x3 : Int32) {H : Heap} {locs : List Loc} {ls : Array Slot} (w : Wd G s M H locs) (hl : lv_has ls 6 [(0, .ref (ga G 57)), (2, .int x2), (3, .int x3)]) (h : j_X6_goesTenth_214 post M x2 x3) : W p l e (rmk 4) s m args below meth c H locs 0 0 (MQ below (va_Qi post (Qw G) (Af G s.heap.size)) args s 0 0 (Af G s.heap.size)) (F0 m 214 ls []) := by
  have hx := C.1.1
  have hb := C.1.2.1
  unfold j_X6_goesTenth_214 at h
  refine lv_aload_n hx hb dX6_goesTenth_214 rfl (lv_at hl 0 rfl) ?_
  refine gt_6_0 C w kw_5_0 dX6_goesTenth_215 ?_
  refine lv_iconst (v := 2) hx hb dX6_goesTenth_218 (by decide) ?_
  refine lv_dup2_11 hx hb dX6_goesTenth_219 rfl rfl ?_
  refine pw_ld C w (i := 58) (by decide) pE_58 (vl (x := (2 : Int32)) (by decide)) (k := 2) (by decide) dX6_goesTenth_220 ?_
  refine lv_iload_n hx hb dX6_goesTenth_221 rfl (lv_at hl 2 rfl) ?_
  refine lv_if_eq (tgt := 229) hx hb dX6_goesTenth_222 (by decide) (fun c4 => ?_) (fun c4 => ?_)
  · replace h := h.1 c4
    refine lv_iconst (v := 0) hx hb dX6_goesTenth_229 (by decide) ?_
    exact t_X6_goesTenth_230 C M (0 : Int32) (M 58 2) (2 : Int32) x2  w (lv_sub hl [0, 1] rfl) h
  replace h := h.2 c4
  refine lv_iconst (v := 1) hx hb dX6_goesTenth_225 (by decide) ?_
  refine lv_goto (tgt := 230) hx hb dX6_goesTenth_226 (by decide) ?_
  exact t_X6_goesTenth_230 C M (1 : Int32) (M 58 2) (2 : Int32) x2  w (lv_sub hl [0, 1] rfl) h
set_option maxHeartbeats 4000000 in
set_option maxRecDepth 100000 in
theorem t_X6_goesTenth_205 (C : Cx G p s m args meth c RX6 cX6_goesTenth 6 (some .int)) {post : Int32 → Mem → Prop} {k136 : Mem → Int32 → Int32 → Int32 → Prop} (hk136 : ∀ (M : Mem) (x2 : Int32) (x3 : Int32) (x4 : Int32) (H : Heap) (locs : List Loc) (ls : Array Slot), Wd G s M H locs → lv_has ls 6 [(0, .ref (ga G 57)), (2, .int x2), (3, .int x3), (4, .int x4)] → k136 M x2 x3 x4 → W p l e (rmk 4) s m args below meth c H locs 0 0 (MQ below (va_Qi post (Qw G) (Af G s.heap.size)) args s 0 0 (Af G s.heap.size)) (F0 m 136 ls [])) (M : Mem) (y0 : Int32) (y1 : Int32) (y2 : Int32) (x2 : Int32) (x3 : Int32) (x4 : Int32) {H : Heap} {locs : List Loc} {ls : Array Slot} (w : Wd G s M H locs) (hl : lv_has ls 6 [(0, .ref (ga G 57)), (2, .int x2), (3, .int x3), (4, .int x4)]) (h : j_X6_goesTenth_205 k136 post M y0 y1 y2 x2 x3 x4) : W p l e (rmk 4) s m args below meth c H locs 0 0 (MQ below (va_Qi post (Qw G) (Af G s.heap.size)) args s 0 0 (Af G s.heap.size)) (F0 m 205 ls [.int y0, .int y1, .int y2, .ref (ga G 57)]) := by
  have hx := C.1.1
  have hb := C.1.2.1
  unfold j_X6_goesTenth_205 at h
  refine end_v w (run_V (As := [.int y2, .int y1, .int y0]) C w hl.1 (c_X6_puts l G C.2.2.1 _ _ y2 y1 y0  _ h) kw_22_7 kw_1_5 kw_22_4 kw_22_5 kw_22_6 hd_X6_puts ⟨by decide, by decide⟩ (w.recv C (i := 57) (by decide) (pE_6) rfl) rfl (Nat.le_of_ble_eq_true rfl) dX6_goesTenth_205) (fun M6 H locs h w => ?_)
  refine lv_iinc (v := (x4 + (1 : Int32))) (lv' := [(4, .int (x4 + (1 : Int32))), (0, .ref (ga G 57)), (2, .int x2), (3, .int x3)]) hx hb dX6_goesTenth_208 hl (k := 3) rfl rfl (by decide) rfl (fun ls hl => ?_)
  refine lv_goto (tgt := 136) hx hb dX6_goesTenth_211 (by decide) ?_
  exact hk136 M6 x2 x3 (x4 + (1 : Int32)) _ _ _  w (lv_sub hl [1, 2, 3, 0] rfl) h
set_option maxHeartbeats 4000000 in
set_option maxRecDepth 100000 in
theorem t_X6_goesTenth_136 (C : Cx G p s m args meth c RX6 cX6_goesTenth 6 (some .int)) {post : Int32 → Mem → Prop} : ∀ (n : Nat) (M : Mem) (x2 : Int32) (x3 : Int32) (x4 : Int32) {H : Heap} {locs : List Loc} {ls : Array Slot} (w : Wd G s M H locs) (hl : lv_has ls 6 [(0, .ref (ga G 57)), (2, .int x2), (3, .int x3), (4, .int x4)]) (h : lp_X6_goesTenth_136 post n M x2 x3 x4), W p l e (rmk 4) s m args below meth c H locs 0 0 (MQ below (va_Qi post (Qw G) (Af G s.heap.size)) args s 0 0 (Af G s.heap.size)) (F0 m 136 ls []) := by
  have hx := C.1.1
  have hb := C.1.2.1
  intro n9
  induction n9 with
  | zero => intro M x2 x3 x4 H locs ls w hl h; exact absurd h id
  | succ n9 ih9 =>
    intro M x2 x3 x4 H locs ls w hl h
    have hk136 : ∀ (M : Mem) (x2 : Int32) (x3 : Int32) (x4 : Int32) (H : Heap) (locs : List Loc) (ls : Array Slot), Wd G s M H locs → lv_has ls 6 [(0, .ref (ga G 57)), (2, .int x2), (3, .int x3), (4, .int x4)] → lp_X6_goesTenth_136 post n9 M x2 x3 x4 → W p l e (rmk 4) s m args below meth c H locs 0 0 (MQ below (va_Qi post (Qw G) (Af G s.heap.size)) args s 0 0 (Af G s.heap.size)) (F0 m 136 ls []) := fun M x2 x3 x4 H locs ls w hl h => ih9 M x2 x3 x4 w hl h
    replace h : b_X6_goesTenth_136 (lp_X6_goesTenth_136 post n9) post M x2 x3 x4 := h
    unfold b_X6_goesTenth_136 at h
    refine lv_iload hx hb dX6_goesTenth_136 (lv_at hl 3 rfl) ?_
    refine lv_aload_n hx hb dX6_goesTenth_138 rfl (lv_at hl 0 rfl) ?_
    refine gt_6_0 C w kw_5_0 dX6_goesTenth_139 ?_
    refine lv_iconst (v := 0) hx hb dX6_goesTenth_142 (by decide) ?_
    refine pw_ld C w (i := 58) (by decide) pE_58 (vl (x := (0 : Int32)) (by decide)) (k := 0) (by decide) dX6_goesTenth_143 ?_
    refine lv_icmp_ge (tgt := 214) hx hb dX6_goesTenth_144 (by decide) (fun c7 => ?_) (fun c7 => ?_)
    · replace h := h.1 c7
      exact t_X6_goesTenth_214 C M x2 x3  w (lv_sub hl [0, 1, 2] rfl) h
    replace h := h.2 c7
    refine lv_aload_n hx hb dX6_goesTenth_147 rfl (lv_at hl 0 rfl) ?_
    refine gt_6_22 C w kw_21_23 dX6_goesTenth_148 ?_
    refine lv_if_ge (tgt := 214) hx hb dX6_goesTenth_151 (by decide) (fun c8 => ?_) (fun c8 => ?_)
    · replace h := h.1 c8
      exact t_X6_goesTenth_214 C M x2 x3  w (lv_sub hl [0, 1, 2] rfl) h
    replace h := h.2 c8
    refine lv_iload_n hx hb dX6_goesTenth_154 rfl (lv_at hl 2 rfl) ?_
    refine lv_if_eq (tgt := 214) hx hb dX6_goesTenth_155 (by decide) (fun c9 => ?_) (fun c9 => ?_)
    · replace h := h.1 c9
      exact t_X6_goesTenth_214 C M x2 x3  w (lv_sub hl [0, 1, 2] rfl) h
    replace h := h.2 c9
    refine lv_aload_n hx hb dX6_goesTenth_158 rfl (lv_at hl 0 rfl) ?_
    refine lv_iload hx hb dX6_goesTenth_159 (lv_at hl 3 rfl) ?_
    refine lv_iconst (v := 3) hx hb dX6_goesTenth_161 (by decide) ?_
    refine end_i w (run_V (As := [.int x4, .int (3 : Int32)]) C w hl.1 (c_X6_get l G C.2.2.1 _ _ x4 (3 : Int32)  _ h) kw_14_10 kw_1_5 kw_14_7 kw_14_8 kw_14_9 hd_X6_get ⟨by decide, by decide⟩ (w.recv C (i := 57) (by decide) (pE_6) rfl) rfl (Nat.le_of_ble_eq_true rfl) dX6_goesTenth_162) (fun r10 M11 H locs h w => ?_)
    refine lv_aload_n hx hb dX6_goesTenth_165 rfl (lv_at hl 0 rfl) ?_
    refine lv_iload hx hb dX6_goesTenth_166 (lv_at hl 3 rfl) ?_
    refine lv_iconst (v := 0) hx hb dX6_goesTenth_168 (by decide) ?_
    refine end_i w (run_V (As := [.int x4, .int (0 : Int32)]) C w hl.1 (c_X6_get l G C.2.2.1 _ _ x4 (0 : Int32)  _ h) kw_14_10 kw_1_5 kw_14_7 kw_14_8 kw_14_9 hd_X6_get ⟨by decide, by decide⟩ (w.recv C (i := 57) (by decide) (pE_6) rfl) rfl (Nat.le_of_ble_eq_true rfl) dX6_goesTenth_169) (fun r12 M13 H locs h w => ?_)
    refine lv_aload_n hx hb dX6_goesTenth_172 rfl (lv_at hl 0 rfl) ?_
    refine lv_iload hx hb dX6_goesTenth_173 (lv_at hl 3 rfl) ?_
    refine lv_iconst (v := 1) hx hb dX6_goesTenth_175 (by decide) ?_
    refine end_i w (run_V (As := [.int x4, .int (1 : Int32)]) C w hl.1 (c_X6_get l G C.2.2.1 _ _ x4 (1 : Int32)  _ h) kw_14_10 kw_1_5 kw_14_7 kw_14_8 kw_14_9 hd_X6_get ⟨by decide, by decide⟩ (w.recv C (i := 57) (by decide) (pE_6) rfl) rfl (Nat.le_of_ble_eq_true rfl) dX6_goesTenth_176) (fun r14 M15 H locs h w => ?_)
    refine end_i w (run_S (As := [.int r12, .int r14]) C w hl.1 (c_X6_wearBy l G C.2.2.1 _ _ r12 r14  _ h) kw_14_22 kw_1_5 kw_14_20 kw_14_21 hd_X6_wearBy ⟨by decide, by decide⟩ rfl (Nat.le_of_ble_eq_true rfl) dX6_goesTenth_179) (fun r16 M17 H locs h w => ?_)
    refine lv_iadd hx hb dX6_goesTenth_182 ?_
    refine lv_istore (lv' := [(5, .int (r10 + r16)), (0, .ref (ga G 57)), (2, .int x2), (3, .int x3), (4, .int x4)]) hx hb dX6_goesTenth_183 hl (by decide) rfl (fun ls hl => ?_)
    refine lv_aload_n hx hb dX6_goesTenth_185 rfl (lv_at hl 1 rfl) ?_
    refine lv_iload hx hb dX6_goesTenth_186 (lv_at hl 4 rfl) ?_
    refine lv_iconst (v := 3) hx hb dX6_goesTenth_188 (by decide) ?_
    refine lv_iload hx hb dX6_goesTenth_189 (lv_at hl 0 rfl) ?_
    refine lv_sipush (v := 999) hx hb dX6_goesTenth_191 (by decide) ?_
    refine lv_icmp_le (tgt := 203) hx hb dX6_goesTenth_194 (by decide) (fun c18 => ?_) (fun c18 => ?_)
    · replace h := h.1 c18
      refine lv_iload hx hb dX6_goesTenth_203 (lv_at hl 0 rfl) ?_
      exact t_X6_goesTenth_205 C hk136 M17 (r10 + r16) (3 : Int32) x4 x2 x3 x4  w (lv_sub hl [1, 2, 3, 4] rfl) h
    replace h := h.2 c18
    refine lv_sipush (v := 999) hx hb dX6_goesTenth_197 (by decide) ?_
    refine lv_goto (tgt := 205) hx hb dX6_goesTenth_200 (by decide) ?_
    exact t_X6_goesTenth_205 C hk136 M17 (999 : Int32) (3 : Int32) x4 x2 x3 x4  w (lv_sub hl [1, 2, 3, 4] rfl) h
set_option maxHeartbeats 4000000 in
set_option maxRecDepth 100000 in
theorem t_X6_goesTenth_133 (C : Cx G p s m args meth c RX6 cX6_goesTenth 6 (some .int)) {post : Int32 → Mem → Prop} (M : Mem) (x2 : Int32) (x3 : Int32) {H : Heap} {locs : List Loc} {ls : Array Slot} (w : Wd G s M H locs) (hl : lv_has ls 6 [(0, .ref (ga G 57)), (2, .int x2), (3, .int x3)]) (h : j_X6_goesTenth_133 post M x2 x3) : W p l e (rmk 4) s m args below meth c H locs 0 0 (MQ below (va_Qi post (Qw G) (Af G s.heap.size)) args s 0 0 (Af G s.heap.size)) (F0 m 133 ls []) := by
  have hx := C.1.1
  have hb := C.1.2.1
  unfold j_X6_goesTenth_133 at h
  refine lv_iconst (v := 0) hx hb dX6_goesTenth_133 (by decide) ?_
  refine lv_istore (lv' := [(4, .int (0 : Int32)), (0, .ref (ga G 57)), (2, .int x2), (3, .int x3)]) hx hb dX6_goesTenth_134 hl (by decide) rfl (fun ls hl => ?_)
  obtain ⟨n, h⟩ := h
  exact t_X6_goesTenth_136 C n M x2 x3 (0 : Int32)  w (lv_sub hl [1, 2, 3, 0] rfl) h
set_option maxHeartbeats 4000000 in
set_option maxRecDepth 100000 in
theorem t_X6_goesTenth_130 (C : Cx G p s m args meth c RX6 cX6_goesTenth 6 (some .int)) {post : Int32 → Mem → Prop} (M : Mem) (y0 : Int32) (y1 : Int32) (y2 : Int32) (x2 : Int32) (x3 : Int32) {H : Heap} {locs : List Loc} {ls : Array Slot} (w : Wd G s M H locs) (hl : lv_has ls 6 [(0, .ref (ga G 57)), (2, .int x2), (3, .int x3)]) (h : j_X6_goesTenth_130 post M y0 y1 y2 x2 x3) : W p l e (rmk 4) s m args below meth c H locs 0 0 (MQ below (va_Qi post (Qw G) (Af G s.heap.size)) args s 0 0 (Af G s.heap.size)) (F0 m 130 ls [.int y0, .int y1, .int y2, .ref (ga G 57)]) := by
  have hx := C.1.1
  have hb := C.1.2.1
  unfold j_X6_goesTenth_130 at h
  refine end_v w (run_V (As := [.int y2, .int y1, .int y0]) C w hl.1 (c_X6_puts l G C.2.2.1 _ _ y2 y1 y0  _ h) kw_22_7 kw_1_5 kw_22_4 kw_22_5 kw_22_6 hd_X6_puts ⟨by decide, by decide⟩ (w.recv C (i := 57) (by decide) (pE_6) rfl) rfl (Nat.le_of_ble_eq_true rfl) dX6_goesTenth_130) (fun M20 H locs h w => ?_)
  exact t_X6_goesTenth_133 C M20 x2 x3  w (lv_sub hl [0, 1, 2] rfl) h
set_option maxHeartbeats 4000000 in
set_option maxRecDepth 100000 in
theorem t_X6_goesTenth_74 (C : Cx G p s m args meth c RX6 cX6_goesTenth 6 (some .int)) {post : Int32 → Mem → Prop} (M : Mem) (x2 : Int32) (x3 : Int32) {H : Heap} {locs : List Loc} {ls : Array Slot} (w : Wd G s M H locs) (hl : lv_has ls 6 [(0, .ref (ga G 57)), (2, .int x2), (3, .int x3)]) (h : j_X6_goesTenth_74 post M x2 x3) : W p l e (rmk 4) s m args below meth c H locs 0 0 (MQ below (va_Qi post (Qw G) (Af G s.heap.size)) args s 0 0 (Af G s.heap.size)) (F0 m 74 ls []) := by
  have hx := C.1.1
  have hb := C.1.2.1
  unfold j_X6_goesTenth_74 at h
  refine lv_aload_n hx hb dX6_goesTenth_74 rfl (lv_at hl 0 rfl) ?_
  refine gt_6_22 C w kw_21_23 dX6_goesTenth_75 ?_
  refine lv_if_lt (tgt := 133) hx hb dX6_goesTenth_78 (by decide) (fun c21 => ?_) (fun c21 => ?_)
  · replace h := h.1 c21
    exact t_X6_goesTenth_133 C M x2 x3  w (lv_sub hl [0, 1, 2] rfl) h
  replace h := h.2 c21
  refine lv_aload_n hx hb dX6_goesTenth_81 rfl (lv_at hl 0 rfl) ?_
  refine lv_aload_n hx hb dX6_goesTenth_82 rfl (lv_at hl 0 rfl) ?_
  refine gt_6_22 C w kw_21_23 dX6_goesTenth_83 ?_
  refine lv_iconst (v := 4) hx hb dX6_goesTenth_86 (by decide) ?_
  refine lv_iconst (v := 1) hx hb dX6_goesTenth_87 (by decide) ?_
  refine end_v w (run_V (As := [.int (M 57 22), .int (4 : Int32), .int (1 : Int32)]) C w hl.1 (c_X6_puts l G C.2.2.1 _ _ (M 57 22) (4 : Int32) (1 : Int32)  _ h) kw_22_7 kw_1_5 kw_22_4 kw_22_5 kw_22_6 hd_X6_puts ⟨by decide, by decide⟩ (w.recv C (i := 57) (by decide) (pE_6) rfl) rfl (Nat.le_of_ble_eq_true rfl) dX6_goesTenth_88) (fun M23 H locs h w => ?_)
  refine lv_aload_n hx hb dX6_goesTenth_91 rfl (lv_at hl 0 rfl) ?_
  refine lv_aload_n hx hb dX6_goesTenth_92 rfl (lv_at hl 0 rfl) ?_
  refine gt_6_22 C w kw_21_23 dX6_goesTenth_93 ?_
  refine lv_iconst (v := 5) hx hb dX6_goesTenth_96 (by decide) ?_
  refine lv_aload_n hx hb dX6_goesTenth_97 rfl (lv_at hl 0 rfl) ?_
  refine lv_aload_n hx hb dX6_goesTenth_98 rfl (lv_at hl 0 rfl) ?_
  refine gt_6_22 C w kw_21_23 dX6_goesTenth_99 ?_
  refine lv_iconst (v := 3) hx hb dX6_goesTenth_102 (by decide) ?_
  refine end_i w (run_V (As := [.int (M23 57 22), .int (3 : Int32)]) C w hl.1 (c_X6_get l G C.2.2.1 _ _ (M23 57 22) (3 : Int32)  _ h) kw_14_10 kw_1_5 kw_14_7 kw_14_8 kw_14_9 hd_X6_get ⟨by decide, by decide⟩ (w.recv C (i := 57) (by decide) (pE_6) rfl) rfl (Nat.le_of_ble_eq_true rfl) dX6_goesTenth_103) (fun r24 M25 H locs h w => ?_)
  refine lv_if_ne (tgt := 113) hx hb dX6_goesTenth_106 (by decide) (fun c26 => ?_) (fun c26 => ?_)
  · replace h := h.2 c26
    refine lv_iload_n hx hb dX6_goesTenth_113 rfl (lv_at hl 1 rfl) ?_
    refine lv_aload_n hx hb dX6_goesTenth_114 rfl (lv_at hl 0 rfl) ?_
    refine lv_aload_n hx hb dX6_goesTenth_115 rfl (lv_at hl 0 rfl) ?_
    refine gt_6_22 C w kw_21_23 dX6_goesTenth_116 ?_
    refine end_i w (run_V (As := [.int (M25 57 22)]) C w hl.1 (c_X6_strengthOf l G C.2.2.1 _ _ (M25 57 22)  _ h) kw_22_3 kw_1_5 kw_22_0 kw_22_1 kw_22_2 hd_X6_strengthOf ⟨by decide, by decide⟩ (w.recv C (i := 57) (by decide) (pE_6) rfl) rfl (Nat.le_of_ble_eq_true rfl) dX6_goesTenth_119) (fun r27 M28 H locs h w => ?_)
    refine lv_icmp_le (tgt := 129) hx hb dX6_goesTenth_122 (by decide) (fun c29 => ?_) (fun c29 => ?_)
    · replace h := h.1 c29
      refine lv_iconst (v := 1) hx hb dX6_goesTenth_129 (by decide) ?_
      exact t_X6_goesTenth_130 C M28 (1 : Int32) (5 : Int32) (M23 57 22) x2 x3  w (lv_sub hl [0, 1, 2] rfl) h
    replace h := h.2 c29
    refine lv_iconst (v := 2) hx hb dX6_goesTenth_125 (by decide) ?_
    refine lv_goto (tgt := 130) hx hb dX6_goesTenth_126 (by decide) ?_
    exact t_X6_goesTenth_130 C M28 (2 : Int32) (5 : Int32) (M23 57 22) x2 x3  w (lv_sub hl [0, 1, 2] rfl) h
  replace h := h.1 c26
  refine lv_iconst (v := 0) hx hb dX6_goesTenth_109 (by decide) ?_
  refine lv_goto (tgt := 130) hx hb dX6_goesTenth_110 (by decide) ?_
  exact t_X6_goesTenth_130 C M25 (0 : Int32) (5 : Int32) (M23 57 22) x2 x3  w (lv_sub hl [0, 1, 2] rfl) h
set_option maxHeartbeats 4000000 in
set_option maxRecDepth 100000 in
theorem t_X6_goesTenth_68 (C : Cx G p s m args meth c RX6 cX6_goesTenth 6 (some .int)) {post : Int32 → Mem → Prop} {k26 : Mem → Int32 → Int32 → Int32 → Prop} (hk26 : ∀ (M : Mem) (x2 : Int32) (x3 : Int32) (x4 : Int32) (H : Heap) (locs : List Loc) (ls : Array Slot), Wd G s M H locs → lv_has ls 6 [(0, .ref (ga G 57)), (2, .int x2), (3, .int x3), (4, .int x4)] → k26 M x2 x3 x4 → W p l e (rmk 4) s m args below meth c H locs 0 0 (MQ below (va_Qi post (Qw G) (Af G s.heap.size)) args s 0 0 (Af G s.heap.size)) (F0 m 26 ls [])) (M : Mem) (x2 : Int32) (x3 : Int32) (x4 : Int32) {H : Heap} {locs : List Loc} {ls : Array Slot} (w : Wd G s M H locs) (hl : lv_has ls 6 [(0, .ref (ga G 57)), (2, .int x2), (3, .int x3), (4, .int x4)]) (h : j_X6_goesTenth_68 k26 post M x2 x3 x4) : W p l e (rmk 4) s m args below meth c H locs 0 0 (MQ below (va_Qi post (Qw G) (Af G s.heap.size)) args s 0 0 (Af G s.heap.size)) (F0 m 68 ls []) := by
  have hx := C.1.1
  have hb := C.1.2.1
  unfold j_X6_goesTenth_68 at h
  refine lv_iinc (v := (x4 + (1 : Int32))) (lv' := [(4, .int (x4 + (1 : Int32))), (0, .ref (ga G 57)), (2, .int x2), (3, .int x3)]) hx hb dX6_goesTenth_68 hl (k := 3) rfl rfl (by decide) rfl (fun ls hl => ?_)
  refine lv_goto (tgt := 26) hx hb dX6_goesTenth_71 (by decide) ?_
  exact hk26 M x2 x3 (x4 + (1 : Int32)) _ _ _  w (lv_sub hl [1, 2, 3, 0] rfl) h
set_option maxHeartbeats 4000000 in
set_option maxRecDepth 100000 in
theorem t_X6_goesTenth_26 (C : Cx G p s m args meth c RX6 cX6_goesTenth 6 (some .int)) {post : Int32 → Mem → Prop} : ∀ (n : Nat) (M : Mem) (x2 : Int32) (x3 : Int32) (x4 : Int32) {H : Heap} {locs : List Loc} {ls : Array Slot} (w : Wd G s M H locs) (hl : lv_has ls 6 [(0, .ref (ga G 57)), (2, .int x2), (3, .int x3), (4, .int x4)]) (h : lp_X6_goesTenth_26 post n M x2 x3 x4), W p l e (rmk 4) s m args below meth c H locs 0 0 (MQ below (va_Qi post (Qw G) (Af G s.heap.size)) args s 0 0 (Af G s.heap.size)) (F0 m 26 ls []) := by
  have hx := C.1.1
  have hb := C.1.2.1
  intro n9
  induction n9 with
  | zero => intro M x2 x3 x4 H locs ls w hl h; exact absurd h id
  | succ n9 ih9 =>
    intro M x2 x3 x4 H locs ls w hl h
    have hk26 : ∀ (M : Mem) (x2 : Int32) (x3 : Int32) (x4 : Int32) (H : Heap) (locs : List Loc) (ls : Array Slot), Wd G s M H locs → lv_has ls 6 [(0, .ref (ga G 57)), (2, .int x2), (3, .int x3), (4, .int x4)] → lp_X6_goesTenth_26 post n9 M x2 x3 x4 → W p l e (rmk 4) s m args below meth c H locs 0 0 (MQ below (va_Qi post (Qw G) (Af G s.heap.size)) args s 0 0 (Af G s.heap.size)) (F0 m 26 ls []) := fun M x2 x3 x4 H locs ls w hl h => ih9 M x2 x3 x4 w hl h
    replace h : b_X6_goesTenth_26 (lp_X6_goesTenth_26 post n9) post M x2 x3 x4 := h
    unfold b_X6_goesTenth_26 at h
    refine lv_iload hx hb dX6_goesTenth_26 (lv_at hl 3 rfl) ?_
    refine lv_aload_n hx hb dX6_goesTenth_28 rfl (lv_at hl 0 rfl) ?_
    refine gt_6_0 C w kw_5_0 dX6_goesTenth_29 ?_
    refine lv_iconst (v := 0) hx hb dX6_goesTenth_32 (by decide) ?_
    refine pw_ld C w (i := 58) (by decide) pE_58 (vl (x := (0 : Int32)) (by decide)) (k := 0) (by decide) dX6_goesTenth_33 ?_
    refine lv_icmp_ge (tgt := 74) hx hb dX6_goesTenth_34 (by decide) (fun c30 => ?_) (fun c30 => ?_)
    · replace h := h.1 c30
      exact t_X6_goesTenth_74 C M x2 x3  w (lv_sub hl [0, 1, 2] rfl) h
    replace h := h.2 c30
    refine lv_aload_n hx hb dX6_goesTenth_37 rfl (lv_at hl 0 rfl) ?_
    refine gt_6_22 C w kw_21_23 dX6_goesTenth_38 ?_
    refine lv_if_ge (tgt := 74) hx hb dX6_goesTenth_41 (by decide) (fun c31 => ?_) (fun c31 => ?_)
    · replace h := h.1 c31
      exact t_X6_goesTenth_74 C M x2 x3  w (lv_sub hl [0, 1, 2] rfl) h
    replace h := h.2 c31
    refine lv_iload_n hx hb dX6_goesTenth_44 rfl (lv_at hl 1 rfl) ?_
    refine lv_aload_n hx hb dX6_goesTenth_45 rfl (lv_at hl 0 rfl) ?_
    refine lv_iload hx hb dX6_goesTenth_46 (lv_at hl 3 rfl) ?_
    refine end_i w (run_V (As := [.int x4]) C w hl.1 (c_X6_strengthOf l G C.2.2.1 _ _ x4  _ h) kw_22_3 kw_1_5 kw_22_0 kw_22_1 kw_22_2 hd_X6_strengthOf ⟨by decide, by decide⟩ (w.recv C (i := 57) (by decide) (pE_6) rfl) rfl (Nat.le_of_ble_eq_true rfl) dX6_goesTenth_48) (fun r32 M33 H locs h w => ?_)
    refine lv_aload_n hx hb dX6_goesTenth_51 rfl (lv_at hl 0 rfl) ?_
    refine lv_iload hx hb dX6_goesTenth_52 (lv_at hl 3 rfl) ?_
    refine lv_iconst (v := 3) hx hb dX6_goesTenth_54 (by decide) ?_
    refine end_i w (run_V (As := [.int x4, .int (3 : Int32)]) C w hl.1 (c_X6_get l G C.2.2.1 _ _ x4 (3 : Int32)  _ h) kw_14_10 kw_1_5 kw_14_7 kw_14_8 kw_14_9 hd_X6_get ⟨by decide, by decide⟩ (w.recv C (i := 57) (by decide) (pE_6) rfl) rfl (Nat.le_of_ble_eq_true rfl) dX6_goesTenth_55) (fun r34 M35 H locs h w => ?_)
    refine lv_isub hx hb dX6_goesTenth_58 ?_
    refine lv_icmp_le (tgt := 68) hx hb dX6_goesTenth_59 (by decide) (fun c36 => ?_) (fun c36 => ?_)
    · replace h := h.1 c36
      exact t_X6_goesTenth_68 C hk26 M35 x2 x3 x4  w (lv_sub hl [0, 1, 2, 3] rfl) h
    replace h := h.2 c36
    refine lv_aload_n hx hb dX6_goesTenth_62 rfl (lv_at hl 0 rfl) ?_
    refine lv_iload hx hb dX6_goesTenth_63 (lv_at hl 3 rfl) ?_
    refine pt_6_22 C w kw_21_23 dX6_goesTenth_65 (fun H locs w => ?_)
    obtain ⟨M37, eM37⟩ : ∃ z : Mem, z = (mup M35 57 22 x4) := ⟨_, rfl⟩
    replace w : Wd G s M37 H locs := by rw [eM37]; exact w
    replace h := h M37 eM37
    exact t_X6_goesTenth_68 C hk26 M37 x2 x3 x4  w (lv_sub hl [0, 1, 2, 3] rfl) h
set_option maxHeartbeats 4000000 in
set_option maxRecDepth 100000 in
theorem c_X6_goesTenth (l : Launch) (G : GG) (hG : Ag G) (sz : Nat) (M : Mem) (x1 : Int32) (post : Int32 → Mem → Prop) (h : q_X6_goesTenth M x1 post) : Met l yX6_goesTenth (Cond.code yX6_goesTenth cX6_goesTenth 6 (some .int) :: wsL_law) (rmk 4) (va_Pc [.ref (ga G 57), .int x1] (Pw G sz M)) (va_Qi post (Qw G) (Af G sz)) 0 0 (Af G sz) := by
  refine Met.ofW (cc := cX6_goesTenth) (maxL := 6) (ret := (some .int)) (by decide) rfl ?_
  intro p e s m args below meth c s₁ B hml hv
  obtain ⟨rfl, hsz, hE, hP⟩ := hv
  subst hsz
  have C := Cx.of (own := RX6) hG hE rfl hml B
  have w : Wd G s M s.heap [] := ⟨hP, va_S.rf⟩
  have hl := lv_entry [.ref (ga G 57), .int x1] (n := 6) (Nat.le_of_ble_eq_true rfl)
  rw [lg_entry_eq]
  generalize (lg_sl [.ref (ga G 57), .int x1] ++ List.replicate (6 - (lg_sl [.ref (ga G 57), .int x1]).length) Slot.unset).toArray = ls at hl ⊢
  have hl : lv_has ls 6 [(0, .ref (ga G 57)), (1, .int x1)] := hl
  have hx := C.1.1
  have hb := C.1.2.1
  show W p l e (rmk 4) s m _ below meth c s.heap [] 0 0 _ _
  unfold q_X6_goesTenth at h
  refine lv_aload_n hx hb dX6_goesTenth_0 rfl (lv_at hl 0 rfl) ?_
  refine lv_aload_n hx hb dX6_goesTenth_1 rfl (lv_at hl 0 rfl) ?_
  refine gt_6_0 C w kw_5_0 dX6_goesTenth_2 ?_
  refine lv_iconst (v := 1) hx hb dX6_goesTenth_5 (by decide) ?_
  refine pw_ld C w (i := 58) (by decide) pE_58 (vl (x := (1 : Int32)) (by decide)) (k := 1) (by decide) dX6_goesTenth_6 ?_
  refine lv_iload_n hx hb dX6_goesTenth_7 rfl (lv_at hl 1 rfl) ?_
  refine end_i w (run_V (As := [.int (M 58 1), .int x1]) C w hl.1 (c_X6_pullAt l G C.2.2.1 _ _ (M 58 1) x1  _ h) kw_20_16 kw_1_5 kw_20_13 kw_20_14 kw_20_15 hd_X6_pullAt ⟨by decide, by decide⟩ (w.recv C (i := 57) (by decide) (pE_6) rfl) rfl (Nat.le_of_ble_eq_true rfl) dX6_goesTenth_8) (fun r38 M39 H locs h w => ?_)
  refine lv_istore_n (lv' := [(2, .int r38), (0, .ref (ga G 57)), (1, .int x1)]) hx hb dX6_goesTenth_11 rfl hl (by decide) rfl (fun ls hl => ?_)
  refine lv_aload_n hx hb dX6_goesTenth_12 rfl (lv_at hl 1 rfl) ?_
  refine gt_6_21 C w kw_20_17 dX6_goesTenth_13 ?_
  refine lv_istore_n (lv' := [(3, .int (M39 57 21)), (2, .int r38), (0, .ref (ga G 57)), (1, .int x1)]) hx hb dX6_goesTenth_16 rfl hl (by decide) rfl (fun ls hl => ?_)
  refine lv_aload_n hx hb dX6_goesTenth_17 rfl (lv_at hl 2 rfl) ?_
  refine lv_bipush (v := -4) hx hb dX6_goesTenth_18 (by decide) ?_
  refine pt_6_22 C w kw_21_23 dX6_goesTenth_20 (fun H locs w => ?_)
  obtain ⟨M40, eM40⟩ : ∃ z : Mem, z = (mup M39 57 22 (-4 : Int32)) := ⟨_, rfl⟩
  replace w : Wd G s M40 H locs := by rw [eM40]; exact w
  replace h := h M40 eM40
  refine lv_iconst (v := 0) hx hb dX6_goesTenth_23 (by decide) ?_
  refine lv_istore (lv' := [(4, .int (0 : Int32)), (3, .int (M39 57 21)), (2, .int r38), (0, .ref (ga G 57)), (1, .int x1)]) hx hb dX6_goesTenth_24 hl (by decide) rfl (fun ls hl => ?_)
  obtain ⟨n, h⟩ := h
  exact t_X6_goesTenth_26 C n M40 r38 (M39 57 21) (0 : Int32)  w (lv_sub hl [3, 2, 1, 0] rfl) h
def q_X6_tenth (M : Mem) (post : Int32 → Mem → Prop) : Prop := q_X6_isLine M  (fun r1 M2 => (r1 = 0 → (post (-3 : Int32) M2)) ∧ (¬ (r1 = 0) → (q_X6_allPieces M2  (fun r4 M5 => q_X6_sumsUp M5 r4 (fun M7 => q_X6_goesTenth M7 (M7 58 5) (fun r8 M9 => post r8 M9))))))
set_option maxHeartbeats 4000000 in
set_option maxRecDepth 100000 in
theorem c_X6_tenth (l : Launch) (G : GG) (hG : Ag G) (sz : Nat) (M : Mem) (post : Int32 → Mem → Prop) (h : q_X6_tenth M post) : Met l yX6_tenth (Cond.code yX6_tenth cX6_tenth 1 (some .int) :: wsL_law) (rmk 5) (va_Pc [.ref (ga G 57)] (Pw G sz M)) (va_Qi post (Qw G) (Af G sz)) 0 0 (Af G sz) := by
  refine Met.ofW (cc := cX6_tenth) (maxL := 1) (ret := (some .int)) (by decide) rfl ?_
  intro p e s m args below meth c s₁ B hml hv
  obtain ⟨rfl, hsz, hE, hP⟩ := hv
  subst hsz
  have C := Cx.of (own := RX6) hG hE rfl hml B
  have w : Wd G s M s.heap [] := ⟨hP, va_S.rf⟩
  have hl := lv_entry [.ref (ga G 57)] (n := 1) (Nat.le_of_ble_eq_true rfl)
  rw [lg_entry_eq]
  generalize (lg_sl [.ref (ga G 57)] ++ List.replicate (1 - (lg_sl [.ref (ga G 57)]).length) Slot.unset).toArray = ls at hl ⊢
  have hl : lv_has ls 1 [(0, .ref (ga G 57))] := hl
  have hx := C.1.1
  have hb := C.1.2.1
  show W p l e (rmk 5) s m _ below meth c s.heap [] 0 0 _ _
  unfold q_X6_tenth at h
  refine lv_aload_n hx hb dX6_tenth_0 rfl (lv_at hl 0 rfl) ?_
  refine end_i w (run_V (As := []) C w hl.1 (c_X6_isLine l G C.2.2.1 _ _   _ h) kw_17_11 kw_1_5 kw_17_8 kw_17_9 kw_17_10 hd_X6_isLine ⟨by decide, by decide⟩ (w.recv C (i := 57) (by decide) (pE_6) rfl) rfl (Nat.le_of_ble_eq_true rfl) dX6_tenth_1) (fun r1 M2 H locs h w => ?_)
  refine lv_if_ne (tgt := 10) hx hb dX6_tenth_4 (by decide) (fun c3 => ?_) (fun c3 => ?_)
  · replace h := h.2 c3
    refine lv_aload_n hx hb dX6_tenth_10 rfl (lv_at hl 0 rfl) ?_
    refine lv_aload_n hx hb dX6_tenth_11 rfl (lv_at hl 0 rfl) ?_
    refine end_i w (run_V (As := []) C w hl.1 (c_X6_allPieces l G C.2.2.1 _ _   _ h) kw_17_15 kw_1_5 kw_17_12 kw_17_13 kw_17_14 hd_X6_allPieces ⟨by decide, by decide⟩ (w.recv C (i := 57) (by decide) (pE_6) rfl) rfl (Nat.le_of_ble_eq_true rfl) dX6_tenth_12) (fun r4 M5 H locs h w => ?_)
    refine end_v w (run_V (As := [.int r4]) C w hl.1 (c_X6_sumsUp l G C.2.2.1 _ _ r4  _ h) kw_17_19 kw_1_5 kw_17_16 kw_17_17 kw_17_18 hd_X6_sumsUp ⟨by decide, by decide⟩ (w.recv C (i := 57) (by decide) (pE_6) rfl) rfl (Nat.le_of_ble_eq_true rfl) dX6_tenth_15) (fun M7 H locs h w => ?_)
    refine lv_aload_n hx hb dX6_tenth_18 rfl (lv_at hl 0 rfl) ?_
    refine lv_aload_n hx hb dX6_tenth_19 rfl (lv_at hl 0 rfl) ?_
    refine gt_6_0 C w kw_5_0 dX6_tenth_20 ?_
    refine lv_iconst (v := 5) hx hb dX6_tenth_23 (by decide) ?_
    refine pw_ld C w (i := 58) (by decide) pE_58 (vl (x := (5 : Int32)) (by decide)) (k := 5) (by decide) dX6_tenth_24 ?_
    refine end_i w (run_V (As := [.int (M7 58 5)]) C w hl.1 (c_X6_goesTenth l G C.2.2.1 _ _ (M7 58 5)  _ h) kw_21_22 kw_1_5 kw_21_19 kw_21_20 kw_21_21 hd_X6_goesTenth ⟨by decide, by decide⟩ (w.recv C (i := 57) (by decide) (pE_6) rfl) rfl (Nat.le_of_ble_eq_true rfl) dX6_tenth_25) (fun r8 M9 H locs h w => ?_)
    exact ret_i C w h dX6_tenth_28
  replace h := h.1 c3
  refine lv_bipush (v := -3) hx hb dX6_tenth_7 (by decide) ?_
  exact ret_i C w h dX6_tenth_9
def b_X0_greatestPull_4 (k4 : Mem → Int32 → Int32 → Prop) (post : Int32 → Mem → Prop) (M : Mem) (x1 : Int32) (x2 : Int32) : Prop := ((M 4 4) ≤ x2 → (post x1 M)) ∧ (¬ ((M 4 4) ≤ x2) → (q_X0_overAt M x2 (fun r2 M3 => q_X0_pullOver M3 r2 (fun r4 M5 => k4 M5 (if x1 < r4 then r4 else x1) (x2 + (1 : Int32))))))
def lp_X0_greatestPull_4 (post : Int32 → Mem → Prop) : Nat → Mem → Int32 → Int32 → Prop
  | 0 => fun _ _ _ => False
  | n + 1 => fun M x1 x2 => b_X0_greatestPull_4 (lp_X0_greatestPull_4 post n) post M x1 x2
def q_X0_greatestPull (M : Mem) (post : Int32 → Mem → Prop) : Prop := ∃ n, lp_X0_greatestPull_4 post n M (0 : Int32) (0 : Int32)
set_option maxHeartbeats 4000000 in
set_option maxRecDepth 100000 in
theorem t_X0_greatestPull_4 (C : Cx G p s m args meth c RX0 cX0_greatestPull 3 (some .int)) {post : Int32 → Mem → Prop} : ∀ (n : Nat) (M : Mem) (x1 : Int32) (x2 : Int32) {H : Heap} {locs : List Loc} {ls : Array Slot} (w : Wd G s M H locs) (hl : lv_has ls 3 [(0, .ref (ga G 4)), (1, .int x1), (2, .int x2)]) (h : lp_X0_greatestPull_4 post n M x1 x2), W p l e (rmk 4) s m args below meth c H locs 0 0 (MQ below (va_Qi post (Qw G) (Af G s.heap.size)) args s 0 0 (Af G s.heap.size)) (F0 m 4 ls []) := by
  have hx := C.1.1
  have hb := C.1.2.1
  intro n9
  induction n9 with
  | zero => intro M x1 x2 H locs ls w hl h; exact absurd h id
  | succ n9 ih9 =>
    intro M x1 x2 H locs ls w hl h
    have hk4 : ∀ (M : Mem) (x1 : Int32) (x2 : Int32) (H : Heap) (locs : List Loc) (ls : Array Slot), Wd G s M H locs → lv_has ls 3 [(0, .ref (ga G 4)), (1, .int x1), (2, .int x2)] → lp_X0_greatestPull_4 post n9 M x1 x2 → W p l e (rmk 4) s m args below meth c H locs 0 0 (MQ below (va_Qi post (Qw G) (Af G s.heap.size)) args s 0 0 (Af G s.heap.size)) (F0 m 4 ls []) := fun M x1 x2 H locs ls w hl h => ih9 M x1 x2 w hl h
    replace h : b_X0_greatestPull_4 (lp_X0_greatestPull_4 post n9) post M x1 x2 := h
    unfold b_X0_greatestPull_4 at h
    refine lv_iload_n hx hb dX0_greatestPull_4 rfl (lv_at hl 2 rfl) ?_
    refine lv_aload_n hx hb dX0_greatestPull_5 rfl (lv_at hl 0 rfl) ?_
    refine gt_0_4 C w kw_4_2 dX0_greatestPull_6 ?_
    refine lv_icmp_ge (tgt := 32) hx hb dX0_greatestPull_9 (by decide) (fun c1 => ?_) (fun c1 => ?_)
    · replace h := h.1 c1
      refine lv_iload_n hx hb dX0_greatestPull_32 rfl (lv_at hl 1 rfl) ?_
      exact ret_i C w h dX0_greatestPull_33
    replace h := h.2 c1
    refine lv_iload_n hx hb dX0_greatestPull_12 rfl (lv_at hl 1 rfl) ?_
    refine lv_aload_n hx hb dX0_greatestPull_13 rfl (lv_at hl 0 rfl) ?_
    refine lv_aload_n hx hb dX0_greatestPull_14 rfl (lv_at hl 0 rfl) ?_
    refine lv_iload_n hx hb dX0_greatestPull_15 rfl (lv_at hl 2 rfl) ?_
    refine end_i w (run_V (As := [.int x2]) C w hl.1 (c_X0_overAt l G C.2.2.1 _ _ x2  _ h) kw_20_0 kw_1_21 kw_19_21 kw_19_22 kw_19_23 hd_X0_overAt ⟨by decide, by decide⟩ (w.recv C (i := 4) (by decide) (pE_0) rfl) rfl (Nat.le_of_ble_eq_true rfl) dX0_greatestPull_16) (fun r2 M3 H locs h w => ?_)
    refine end_i w (run_V (As := [.int r2]) C w hl.1 (c_X0_pullOver l G C.2.2.1 _ _ r2  _ h) kw_20_6 kw_1_21 kw_20_3 kw_20_4 kw_20_5 hd_X0_pullOver ⟨by decide, by decide⟩ (w.recv C (i := 4) (by decide) (pE_0) rfl) rfl (Nat.le_of_ble_eq_true rfl) dX0_greatestPull_19) (fun r4 M5 H locs h w => ?_)
    refine va_mmax hx hb (C.ml hl) C.1.2.2.2.1 (C.ws kw_16_10) (C.ws kw_16_11) (C.ws kw_16_12) (C.ws kw_16_13) (Nat.le_of_ble_eq_true rfl) (Nat.le_of_ble_eq_true rfl) (Nat.le_refl 0) (Nat.le_refl 0) dX0_greatestPull_22 ?_
    refine lv_istore_n (lv' := [(1, .int (if x1 < r4 then r4 else x1)), (0, .ref (ga G 4)), (2, .int x2)]) hx hb dX0_greatestPull_25 rfl hl (by decide) rfl (fun ls hl => ?_)
    refine lv_iinc (v := (x2 + (1 : Int32))) (lv' := [(2, .int (x2 + (1 : Int32))), (1, .int (if x1 < r4 then r4 else x1)), (0, .ref (ga G 4))]) hx hb dX0_greatestPull_26 hl (k := 2) rfl rfl (by decide) rfl (fun ls hl => ?_)
    refine lv_goto (tgt := 4) hx hb dX0_greatestPull_29 (by decide) ?_
    exact hk4 M5 (if x1 < r4 then r4 else x1) (x2 + (1 : Int32)) _ _ _  w (lv_sub hl [2, 1, 0] rfl) h
set_option maxHeartbeats 4000000 in
set_option maxRecDepth 100000 in
theorem c_X0_greatestPull (l : Launch) (G : GG) (hG : Ag G) (sz : Nat) (M : Mem) (post : Int32 → Mem → Prop) (h : q_X0_greatestPull M post) : Met l yX0_greatestPull (Cond.code yX0_greatestPull cX0_greatestPull 3 (some .int) :: wsL_law) (rmk 4) (va_Pc [.ref (ga G 4)] (Pw G sz M)) (va_Qi post (Qw G) (Af G sz)) 0 0 (Af G sz) := by
  refine Met.ofW (cc := cX0_greatestPull) (maxL := 3) (ret := (some .int)) (by decide) rfl ?_
  intro p e s m args below meth c s₁ B hml hv
  obtain ⟨rfl, hsz, hE, hP⟩ := hv
  subst hsz
  have C := Cx.of (own := RX0) hG hE rfl hml B
  have w : Wd G s M s.heap [] := ⟨hP, va_S.rf⟩
  have hl := lv_entry [.ref (ga G 4)] (n := 3) (Nat.le_of_ble_eq_true rfl)
  rw [lg_entry_eq]
  generalize (lg_sl [.ref (ga G 4)] ++ List.replicate (3 - (lg_sl [.ref (ga G 4)]).length) Slot.unset).toArray = ls at hl ⊢
  have hl : lv_has ls 3 [(0, .ref (ga G 4))] := hl
  have hx := C.1.1
  have hb := C.1.2.1
  show W p l e (rmk 4) s m _ below meth c s.heap [] 0 0 _ _
  unfold q_X0_greatestPull at h
  refine lv_iconst (v := 0) hx hb dX0_greatestPull_0 (by decide) ?_
  refine lv_istore_n (lv' := [(1, .int (0 : Int32)), (0, .ref (ga G 4))]) hx hb dX0_greatestPull_1 rfl hl (by decide) rfl (fun ls hl => ?_)
  refine lv_iconst (v := 0) hx hb dX0_greatestPull_2 (by decide) ?_
  refine lv_istore_n (lv' := [(2, .int (0 : Int32)), (1, .int (0 : Int32)), (0, .ref (ga G 4))]) hx hb dX0_greatestPull_3 rfl hl (by decide) rfl (fun ls hl => ?_)
  obtain ⟨n, h⟩ := h
  exact t_X0_greatestPull_4 C n M (0 : Int32) (0 : Int32)  w (lv_sub hl [2, 1, 0] rfl) h
def b_X0_whenGreatest_7 (k7 : Mem → Int32 → Int32 → Prop) (post : Int32 → Mem → Prop) (M : Mem) (x1 : Int32) (x2 : Int32) : Prop := ((M 4 4) ≤ x2 → (post (0 : Int32) M)) ∧ (¬ ((M 4 4) ≤ x2) → (q_X0_pullAt M x2 (fun r2 M3 => (r2 = x1 → (post x2 M3)) ∧ (¬ (r2 = x1) → (k7 M3 x1 (x2 + (1 : Int32)))))))
def lp_X0_whenGreatest_7 (post : Int32 → Mem → Prop) : Nat → Mem → Int32 → Int32 → Prop
  | 0 => fun _ _ _ => False
  | n + 1 => fun M x1 x2 => b_X0_whenGreatest_7 (lp_X0_whenGreatest_7 post n) post M x1 x2
def q_X0_whenGreatest (M : Mem) (post : Int32 → Mem → Prop) : Prop := q_X0_greatestPull M  (fun r5 M6 => ∃ n, lp_X0_whenGreatest_7 post n M6 r5 (0 : Int32))
set_option maxHeartbeats 4000000 in
set_option maxRecDepth 100000 in
theorem t_X0_whenGreatest_7 (C : Cx G p s m args meth c RX0 cX0_whenGreatest 3 (some .int)) {post : Int32 → Mem → Prop} : ∀ (n : Nat) (M : Mem) (x1 : Int32) (x2 : Int32) {H : Heap} {locs : List Loc} {ls : Array Slot} (w : Wd G s M H locs) (hl : lv_has ls 3 [(0, .ref (ga G 4)), (1, .int x1), (2, .int x2)]) (h : lp_X0_whenGreatest_7 post n M x1 x2), W p l e (rmk 5) s m args below meth c H locs 0 0 (MQ below (va_Qi post (Qw G) (Af G s.heap.size)) args s 0 0 (Af G s.heap.size)) (F0 m 7 ls []) := by
  have hx := C.1.1
  have hb := C.1.2.1
  intro n9
  induction n9 with
  | zero => intro M x1 x2 H locs ls w hl h; exact absurd h id
  | succ n9 ih9 =>
    intro M x1 x2 H locs ls w hl h
    have hk7 : ∀ (M : Mem) (x1 : Int32) (x2 : Int32) (H : Heap) (locs : List Loc) (ls : Array Slot), Wd G s M H locs → lv_has ls 3 [(0, .ref (ga G 4)), (1, .int x1), (2, .int x2)] → lp_X0_whenGreatest_7 post n9 M x1 x2 → W p l e (rmk 5) s m args below meth c H locs 0 0 (MQ below (va_Qi post (Qw G) (Af G s.heap.size)) args s 0 0 (Af G s.heap.size)) (F0 m 7 ls []) := fun M x1 x2 H locs ls w hl h => ih9 M x1 x2 w hl h
    replace h : b_X0_whenGreatest_7 (lp_X0_whenGreatest_7 post n9) post M x1 x2 := h
    unfold b_X0_whenGreatest_7 at h
    refine lv_iload_n hx hb dX0_whenGreatest_7 rfl (lv_at hl 2 rfl) ?_
    refine lv_aload_n hx hb dX0_whenGreatest_8 rfl (lv_at hl 0 rfl) ?_
    refine gt_0_4 C w kw_4_2 dX0_whenGreatest_9 ?_
    refine lv_icmp_ge (tgt := 32) hx hb dX0_whenGreatest_12 (by decide) (fun c1 => ?_) (fun c1 => ?_)
    · replace h := h.1 c1
      refine lv_iconst (v := 0) hx hb dX0_whenGreatest_32 (by decide) ?_
      exact ret_i C w h dX0_whenGreatest_33
    replace h := h.2 c1
    refine lv_aload_n hx hb dX0_whenGreatest_15 rfl (lv_at hl 0 rfl) ?_
    refine lv_iload_n hx hb dX0_whenGreatest_16 rfl (lv_at hl 2 rfl) ?_
    refine end_i w (run_V (As := [.int x2]) C w hl.1 (c_X0_pullAt l G C.2.2.1 _ _ x2  _ h) kw_19_20 kw_1_21 kw_22_19 kw_19_18 kw_19_19 hd_X0_pullAt ⟨by decide, by decide⟩ (w.recv C (i := 4) (by decide) (pE_0) rfl) rfl (Nat.le_of_ble_eq_true rfl) dX0_whenGreatest_17) (fun r2 M3 H locs h w => ?_)
    refine lv_iload_n hx hb dX0_whenGreatest_20 rfl (lv_at hl 1 rfl) ?_
    refine lv_icmp_ne (tgt := 26) hx hb dX0_whenGreatest_21 (by decide) (fun c4 => ?_) (fun c4 => ?_)
    · replace h := h.2 c4
      refine lv_iinc (v := (x2 + (1 : Int32))) (lv' := [(2, .int (x2 + (1 : Int32))), (0, .ref (ga G 4)), (1, .int x1)]) hx hb dX0_whenGreatest_26 hl (k := 2) rfl rfl (by decide) rfl (fun ls hl => ?_)
      refine lv_goto (tgt := 7) hx hb dX0_whenGreatest_29 (by decide) ?_
      exact hk7 M3 x1 (x2 + (1 : Int32)) _ _ _  w (lv_sub hl [1, 2, 0] rfl) h
    replace h := h.1 c4
    refine lv_iload_n hx hb dX0_whenGreatest_24 rfl (lv_at hl 2 rfl) ?_
    exact ret_i C w h dX0_whenGreatest_25
set_option maxHeartbeats 4000000 in
set_option maxRecDepth 100000 in
theorem c_X0_whenGreatest (l : Launch) (G : GG) (hG : Ag G) (sz : Nat) (M : Mem) (post : Int32 → Mem → Prop) (h : q_X0_whenGreatest M post) : Met l yX0_whenGreatest (Cond.code yX0_whenGreatest cX0_whenGreatest 3 (some .int) :: wsL_law) (rmk 5) (va_Pc [.ref (ga G 4)] (Pw G sz M)) (va_Qi post (Qw G) (Af G sz)) 0 0 (Af G sz) := by
  refine Met.ofW (cc := cX0_whenGreatest) (maxL := 3) (ret := (some .int)) (by decide) rfl ?_
  intro p e s m args below meth c s₁ B hml hv
  obtain ⟨rfl, hsz, hE, hP⟩ := hv
  subst hsz
  have C := Cx.of (own := RX0) hG hE rfl hml B
  have w : Wd G s M s.heap [] := ⟨hP, va_S.rf⟩
  have hl := lv_entry [.ref (ga G 4)] (n := 3) (Nat.le_of_ble_eq_true rfl)
  rw [lg_entry_eq]
  generalize (lg_sl [.ref (ga G 4)] ++ List.replicate (3 - (lg_sl [.ref (ga G 4)]).length) Slot.unset).toArray = ls at hl ⊢
  have hl : lv_has ls 3 [(0, .ref (ga G 4))] := hl
  have hx := C.1.1
  have hb := C.1.2.1
  show W p l e (rmk 5) s m _ below meth c s.heap [] 0 0 _ _
  unfold q_X0_whenGreatest at h
  refine lv_aload_n hx hb dX0_whenGreatest_0 rfl (lv_at hl 0 rfl) ?_
  refine end_i w (run_V (As := []) C w hl.1 (c_X0_greatestPull l G C.2.2.1 _ _   _ h) kw_22_14 kw_1_21 kw_22_18 kw_22_12 kw_22_13 hd_X0_greatestPull ⟨by decide, by decide⟩ (w.recv C (i := 4) (by decide) (pE_0) rfl) rfl (Nat.le_of_ble_eq_true rfl) dX0_whenGreatest_1) (fun r5 M6 H locs h w => ?_)
  refine lv_istore_n (lv' := [(1, .int r5), (0, .ref (ga G 4))]) hx hb dX0_whenGreatest_4 rfl hl (by decide) rfl (fun ls hl => ?_)
  refine lv_iconst (v := 0) hx hb dX0_whenGreatest_5 (by decide) ?_
  refine lv_istore_n (lv' := [(2, .int (0 : Int32)), (1, .int r5), (0, .ref (ga G 4))]) hx hb dX0_whenGreatest_6 rfl hl (by decide) rfl (fun ls hl => ?_)
  obtain ⟨n, h⟩ := h
  exact t_X0_whenGreatest_7 C n M6 r5 (0 : Int32)  w (lv_sub hl [2, 1, 0] rfl) h
def j_X5_greatest_42 (post : Int32 → Mem → Prop) (M : Mem) (y0 : Int32) : Prop := post y0 M
def q_X5_greatest (M : Mem) (x1 : Int32) (post : Int32 → Mem → Prop) : Prop := q_X5_isWithin M x1 (0 : Int32) (1 : Int32) (fun r1 M2 => (r1 = 0 → (post (-1 : Int32) M2)) ∧ (¬ (r1 = 0) → (q_X5_layLine M2  (fun r4 M5 => (r4 = 0 → (post (-3 : Int32) M5)) ∧ (¬ (r4 = 0) → ((x1 = 0 → (q_X0_greatestPull M5  (fun r10 M11 => j_X5_greatest_42 post M11 r10))) ∧ (¬ (x1 = 0) → (q_X0_whenGreatest M5  (fun r8 M9 => j_X5_greatest_42 post M9 r8)))))))))
set_option maxHeartbeats 4000000 in
set_option maxRecDepth 100000 in
theorem t_X5_greatest_42 (C : Cx G p s m args meth c RX5 cX5_greatest 2 (some .int)) {post : Int32 → Mem → Prop} (M : Mem) (y0 : Int32) {H : Heap} {locs : List Loc} {ls : Array Slot} (w : Wd G s M H locs) (hl : lv_has ls 2 []) (h : j_X5_greatest_42 post M y0) : W p l e (rmk 6) s m args below meth c H locs 0 0 (MQ below (va_Qi post (Qw G) (Af G s.heap.size)) args s 0 0 (Af G s.heap.size)) (F0 m 42 ls [.int y0]) := by
  have hx := C.1.1
  have hb := C.1.2.1
  unfold j_X5_greatest_42 at h
  exact ret_i C w h dX5_greatest_42
set_option maxHeartbeats 4000000 in
set_option maxRecDepth 100000 in
theorem c_X5_greatest (l : Launch) (G : GG) (hG : Ag G) (sz : Nat) (M : Mem) (x1 : Int32) (post : Int32 → Mem → Prop) (h : q_X5_greatest M x1 post) : Met l yX5_greatest (Cond.code yX5_greatest cX5_greatest 2 (some .int) :: wsL_law) (rmk 6) (va_Pc [.ref (ga G 0), .int x1] (Pw G sz M)) (va_Qi post (Qw G) (Af G sz)) 0 0 (Af G sz) := by
  refine Met.ofW (cc := cX5_greatest) (maxL := 2) (ret := (some .int)) (by decide) rfl ?_
  intro p e s m args below meth c s₁ B hml hv
  obtain ⟨rfl, hsz, hE, hP⟩ := hv
  subst hsz
  have C := Cx.of (own := RX5) hG hE rfl hml B
  have w : Wd G s M s.heap [] := ⟨hP, va_S.rf⟩
  have hl := lv_entry [.ref (ga G 0), .int x1] (n := 2) (Nat.le_of_ble_eq_true rfl)
  rw [lg_entry_eq]
  generalize (lg_sl [.ref (ga G 0), .int x1] ++ List.replicate (2 - (lg_sl [.ref (ga G 0), .int x1]).length) Slot.unset).toArray = ls at hl ⊢
  have hl : lv_has ls 2 [(0, .ref (ga G 0)), (1, .int x1)] := hl
  have hx := C.1.1
  have hb := C.1.2.1
  show W p l e (rmk 6) s m _ below meth c s.heap [] 0 0 _ _
  unfold q_X5_greatest at h
  refine lv_iload_n hx hb dX5_greatest_0 rfl (lv_at hl 1 rfl) ?_
  refine lv_iconst (v := 0) hx hb dX5_greatest_1 (by decide) ?_
  refine lv_iconst (v := 1) hx hb dX5_greatest_2 (by decide) ?_
  refine end_i w (run_S (As := [.int x1, .int (0 : Int32), .int (1 : Int32)]) C w hl.1 (c_X5_isWithin l G C.2.2.1 _ _ x1 (0 : Int32) (1 : Int32)  _ h) kw_6_8 kw_1_2 kw_6_6 kw_6_7 hd_X5_isWithin ⟨by decide, by decide⟩ rfl (Nat.le_of_ble_eq_true rfl) dX5_greatest_3) (fun r1 M2 H locs h w => ?_)
  refine lv_if_ne (tgt := 11) hx hb dX5_greatest_6 (by decide) (fun c3 => ?_) (fun c3 => ?_)
  · replace h := h.2 c3
    refine lv_aload_n hx hb dX5_greatest_11 rfl (lv_at hl 0 rfl) ?_
    refine end_i w (run_V (As := []) C w hl.1 (c_X5_layLine l G C.2.2.1 _ _   _ h) kw_15_21 kw_1_2 kw_15_18 kw_15_19 kw_15_20 hd_X5_layLine ⟨by decide, by decide⟩ (w.recv C (i := 0) (by decide) (pE_5) rfl) rfl (Nat.le_of_ble_eq_true rfl) dX5_greatest_12) (fun r4 M5 H locs h w => ?_)
    refine lv_if_ne (tgt := 21) hx hb dX5_greatest_15 (by decide) (fun c6 => ?_) (fun c6 => ?_)
    · replace h := h.2 c6
      refine lv_iload_n hx hb dX5_greatest_21 rfl (lv_at hl 1 rfl) ?_
      refine lv_if_ne (tgt := 35) hx hb dX5_greatest_22 (by decide) (fun c7 => ?_) (fun c7 => ?_)
      · replace h := h.2 c7
        refine lv_aload_n hx hb dX5_greatest_35 rfl (lv_at hl 0 rfl) ?_
        refine gt_5_3 C w kw_1_22 dX5_greatest_36 ?_
        refine end_i w (run_VN (As := []) C w hl.1 (c_X0_whenGreatest l G C.2.2.1 _ _   _ h) kw_22_17 kw_1_21 kn_69 kw_22_15 kw_22_16 hd_X0_whenGreatest ⟨by decide, by decide⟩ (w.recv C (i := 4) (by decide) (pE_0) rfl) rfl (Nat.le_of_ble_eq_true rfl) dX5_greatest_39) (fun r8 M9 H locs h w => ?_)
        exact t_X5_greatest_42 C M9 r8  w (lv_sub hl [] rfl) h
      replace h := h.1 c7
      refine lv_aload_n hx hb dX5_greatest_25 rfl (lv_at hl 0 rfl) ?_
      refine gt_5_3 C w kw_1_22 dX5_greatest_26 ?_
      refine end_i w (run_VN (As := []) C w hl.1 (c_X0_greatestPull l G C.2.2.1 _ _   _ h) kw_22_14 kw_1_21 kn_68 kw_22_12 kw_22_13 hd_X0_greatestPull ⟨by decide, by decide⟩ (w.recv C (i := 4) (by decide) (pE_0) rfl) rfl (Nat.le_of_ble_eq_true rfl) dX5_greatest_29) (fun r10 M11 H locs h w => ?_)
      refine lv_goto (tgt := 42) hx hb dX5_greatest_32 (by decide) ?_
      exact t_X5_greatest_42 C M11 r10  w (lv_sub hl [] rfl) h
    replace h := h.1 c6
    refine lv_bipush (v := -3) hx hb dX5_greatest_18 (by decide) ?_
    exact ret_i C w h dX5_greatest_20
  replace h := h.1 c3
  refine lv_iconst (v := -1) hx hb dX5_greatest_9 (by decide) ?_
  exact ret_i C w h dX5_greatest_10
def j_X6_greatestOf_42 (k4 : Mem → Int32 → Int32 → Prop) (post : Int32 → Mem → Prop) (M : Mem) (x1 : Int32) (x2 : Int32) : Prop := k4 M x1 (x2 + (1 : Int32))
def b_X6_greatestOf_4 (k4 : Mem → Int32 → Int32 → Prop) (post : Int32 → Mem → Prop) (M : Mem) (x1 : Int32) (x2 : Int32) : Prop := ((M 58 6) ≤ x2 → (post x1 M)) ∧ (¬ ((M 58 6) ≤ x2) → (q_X6_pullAt M x2 (M 58 5) (fun r2 M3 => (x1 < r2 → (∀ M5 : Mem, M5 = (mup M3 57 23 x2) → (j_X6_greatestOf_42 k4 post M5 r2 x2))) ∧ (¬ (x1 < r2) → (j_X6_greatestOf_42 k4 post M3 x1 x2)))))
def lp_X6_greatestOf_4 (post : Int32 → Mem → Prop) : Nat → Mem → Int32 → Int32 → Prop
  | 0 => fun _ _ _ => False
  | n + 1 => fun M x1 x2 => b_X6_greatestOf_4 (lp_X6_greatestOf_4 post n) post M x1 x2
def q_X6_greatestOf (M : Mem) (post : Int32 → Mem → Prop) : Prop := ∃ n, lp_X6_greatestOf_4 post n M (-1 : Int32) (0 : Int32)
set_option maxHeartbeats 4000000 in
set_option maxRecDepth 100000 in
theorem t_X6_greatestOf_42 (C : Cx G p s m args meth c RX6 cX6_greatestOf 4 (some .int)) {post : Int32 → Mem → Prop} {k4 : Mem → Int32 → Int32 → Prop} (hk4 : ∀ (M : Mem) (x1 : Int32) (x2 : Int32) (H : Heap) (locs : List Loc) (ls : Array Slot), Wd G s M H locs → lv_has ls 4 [(0, .ref (ga G 57)), (1, .int x1), (2, .int x2)] → k4 M x1 x2 → W p l e (rmk 4) s m args below meth c H locs 0 0 (MQ below (va_Qi post (Qw G) (Af G s.heap.size)) args s 0 0 (Af G s.heap.size)) (F0 m 4 ls [])) (M : Mem) (x1 : Int32) (x2 : Int32) {H : Heap} {locs : List Loc} {ls : Array Slot} (w : Wd G s M H locs) (hl : lv_has ls 4 [(0, .ref (ga G 57)), (1, .int x1), (2, .int x2)]) (h : j_X6_greatestOf_42 k4 post M x1 x2) : W p l e (rmk 4) s m args below meth c H locs 0 0 (MQ below (va_Qi post (Qw G) (Af G s.heap.size)) args s 0 0 (Af G s.heap.size)) (F0 m 42 ls []) := by
  have hx := C.1.1
  have hb := C.1.2.1
  unfold j_X6_greatestOf_42 at h
  refine lv_iinc (v := (x2 + (1 : Int32))) (lv' := [(2, .int (x2 + (1 : Int32))), (0, .ref (ga G 57)), (1, .int x1)]) hx hb dX6_greatestOf_42 hl (k := 2) rfl rfl (by decide) rfl (fun ls hl => ?_)
  refine lv_goto (tgt := 4) hx hb dX6_greatestOf_45 (by decide) ?_
  exact hk4 M x1 (x2 + (1 : Int32)) _ _ _  w (lv_sub hl [1, 2, 0] rfl) h
set_option maxHeartbeats 4000000 in
set_option maxRecDepth 100000 in
theorem t_X6_greatestOf_4 (C : Cx G p s m args meth c RX6 cX6_greatestOf 4 (some .int)) {post : Int32 → Mem → Prop} : ∀ (n : Nat) (M : Mem) (x1 : Int32) (x2 : Int32) {H : Heap} {locs : List Loc} {ls : Array Slot} (w : Wd G s M H locs) (hl : lv_has ls 4 [(0, .ref (ga G 57)), (1, .int x1), (2, .int x2)]) (h : lp_X6_greatestOf_4 post n M x1 x2), W p l e (rmk 4) s m args below meth c H locs 0 0 (MQ below (va_Qi post (Qw G) (Af G s.heap.size)) args s 0 0 (Af G s.heap.size)) (F0 m 4 ls []) := by
  have hx := C.1.1
  have hb := C.1.2.1
  intro n9
  induction n9 with
  | zero => intro M x1 x2 H locs ls w hl h; exact absurd h id
  | succ n9 ih9 =>
    intro M x1 x2 H locs ls w hl h
    have hk4 : ∀ (M : Mem) (x1 : Int32) (x2 : Int32) (H : Heap) (locs : List Loc) (ls : Array Slot), Wd G s M H locs → lv_has ls 4 [(0, .ref (ga G 57)), (1, .int x1), (2, .int x2)] → lp_X6_greatestOf_4 post n9 M x1 x2 → W p l e (rmk 4) s m args below meth c H locs 0 0 (MQ below (va_Qi post (Qw G) (Af G s.heap.size)) args s 0 0 (Af G s.heap.size)) (F0 m 4 ls []) := fun M x1 x2 H locs ls w hl h => ih9 M x1 x2 w hl h
    replace h : b_X6_greatestOf_4 (lp_X6_greatestOf_4 post n9) post M x1 x2 := h
    unfold b_X6_greatestOf_4 at h
    refine lv_iload_n hx hb dX6_greatestOf_4 rfl (lv_at hl 2 rfl) ?_
    refine lv_aload_n hx hb dX6_greatestOf_5 rfl (lv_at hl 0 rfl) ?_
    refine gt_6_0 C w kw_5_0 dX6_greatestOf_6 ?_
    refine lv_bipush (v := 6) hx hb dX6_greatestOf_9 (by decide) ?_
    refine pw_ld C w (i := 58) (by decide) pE_58 (vl (x := (6 : Int32)) (by decide)) (k := 6) (by decide) dX6_greatestOf_11 ?_
    refine lv_icmp_ge (tgt := 48) hx hb dX6_greatestOf_12 (by decide) (fun c1 => ?_) (fun c1 => ?_)
    · replace h := h.1 c1
      refine lv_iload_n hx hb dX6_greatestOf_48 rfl (lv_at hl 1 rfl) ?_
      exact ret_i C w h dX6_greatestOf_49
    replace h := h.2 c1
    refine lv_aload_n hx hb dX6_greatestOf_15 rfl (lv_at hl 0 rfl) ?_
    refine lv_iload_n hx hb dX6_greatestOf_16 rfl (lv_at hl 2 rfl) ?_
    refine lv_aload_n hx hb dX6_greatestOf_17 rfl (lv_at hl 0 rfl) ?_
    refine gt_6_0 C w kw_5_0 dX6_greatestOf_18 ?_
    refine lv_iconst (v := 5) hx hb dX6_greatestOf_21 (by decide) ?_
    refine pw_ld C w (i := 58) (by decide) pE_58 (vl (x := (5 : Int32)) (by decide)) (k := 5) (by decide) dX6_greatestOf_22 ?_
    refine end_i w (run_V (As := [.int x2, .int (M 58 5)]) C w hl.1 (c_X6_pullAt l G C.2.2.1 _ _ x2 (M 58 5)  _ h) kw_20_16 kw_1_5 kw_20_13 kw_20_14 kw_20_15 hd_X6_pullAt ⟨by decide, by decide⟩ (w.recv C (i := 57) (by decide) (pE_6) rfl) rfl (Nat.le_of_ble_eq_true rfl) dX6_greatestOf_23) (fun r2 M3 H locs h w => ?_)
    refine lv_istore_n (lv' := [(3, .int r2), (0, .ref (ga G 57)), (1, .int x1), (2, .int x2)]) hx hb dX6_greatestOf_26 rfl hl (by decide) rfl (fun ls hl => ?_)
    refine lv_iload_n hx hb dX6_greatestOf_27 rfl (lv_at hl 0 rfl) ?_
    refine lv_iload_n hx hb dX6_greatestOf_28 rfl (lv_at hl 2 rfl) ?_
    refine lv_icmp_gt (tgt := 35) hx hb dX6_greatestOf_29 (by decide) (fun c4 => ?_) (fun c4 => ?_)
    · replace h := h.1 c4
      refine lv_iload_n hx hb dX6_greatestOf_35 rfl (lv_at hl 0 rfl) ?_
      refine lv_istore_n (lv' := [(1, .int r2), (3, .int r2), (0, .ref (ga G 57)), (2, .int x2)]) hx hb dX6_greatestOf_36 rfl hl (by decide) rfl (fun ls hl => ?_)
      refine lv_aload_n hx hb dX6_greatestOf_37 rfl (lv_at hl 2 rfl) ?_
      refine lv_iload_n hx hb dX6_greatestOf_38 rfl (lv_at hl 3 rfl) ?_
      refine pt_6_23 C w kw_23_0 dX6_greatestOf_39 (fun H locs w => ?_)
      obtain ⟨M5, eM5⟩ : ∃ z : Mem, z = (mup M3 57 23 x2) := ⟨_, rfl⟩
      replace w : Wd G s M5 H locs := by rw [eM5]; exact w
      replace h := h M5 eM5
      exact t_X6_greatestOf_42 C hk4 M5 r2 x2  w (lv_sub hl [2, 0, 3] rfl) h
    replace h := h.2 c4
    refine lv_goto (tgt := 42) hx hb dX6_greatestOf_32 (by decide) ?_
    exact t_X6_greatestOf_42 C hk4 M3 x1 x2  w (lv_sub hl [1, 2, 3] rfl) h
set_option maxHeartbeats 4000000 in
set_option maxRecDepth 100000 in
theorem c_X6_greatestOf (l : Launch) (G : GG) (hG : Ag G) (sz : Nat) (M : Mem) (post : Int32 → Mem → Prop) (h : q_X6_greatestOf M post) : Met l yX6_greatestOf (Cond.code yX6_greatestOf cX6_greatestOf 4 (some .int) :: wsL_law) (rmk 4) (va_Pc [.ref (ga G 57)] (Pw G sz M)) (va_Qi post (Qw G) (Af G sz)) 0 0 (Af G sz) := by
  refine Met.ofW (cc := cX6_greatestOf) (maxL := 4) (ret := (some .int)) (by decide) rfl ?_
  intro p e s m args below meth c s₁ B hml hv
  obtain ⟨rfl, hsz, hE, hP⟩ := hv
  subst hsz
  have C := Cx.of (own := RX6) hG hE rfl hml B
  have w : Wd G s M s.heap [] := ⟨hP, va_S.rf⟩
  have hl := lv_entry [.ref (ga G 57)] (n := 4) (Nat.le_of_ble_eq_true rfl)
  rw [lg_entry_eq]
  generalize (lg_sl [.ref (ga G 57)] ++ List.replicate (4 - (lg_sl [.ref (ga G 57)]).length) Slot.unset).toArray = ls at hl ⊢
  have hl : lv_has ls 4 [(0, .ref (ga G 57))] := hl
  have hx := C.1.1
  have hb := C.1.2.1
  show W p l e (rmk 4) s m _ below meth c s.heap [] 0 0 _ _
  unfold q_X6_greatestOf at h
  refine lv_iconst (v := -1) hx hb dX6_greatestOf_0 (by decide) ?_
  refine lv_istore_n (lv' := [(1, .int (-1 : Int32)), (0, .ref (ga G 57))]) hx hb dX6_greatestOf_1 rfl hl (by decide) rfl (fun ls hl => ?_)
  refine lv_iconst (v := 0) hx hb dX6_greatestOf_2 (by decide) ?_
  refine lv_istore_n (lv' := [(2, .int (0 : Int32)), (1, .int (-1 : Int32)), (0, .ref (ga G 57))]) hx hb dX6_greatestOf_3 rfl hl (by decide) rfl (fun ls hl => ?_)
  obtain ⟨n, h⟩ := h
  exact t_X6_greatestOf_4 C n M (-1 : Int32) (0 : Int32)  w (lv_sub hl [2, 1, 0] rfl) h
def j_X6_greatest_47 (post : Int32 → Mem → Prop) (M : Mem) (y0 : Int32) : Prop := post y0 M
def q_X6_greatest (M : Mem) (x1 : Int32) (post : Int32 → Mem → Prop) : Prop := q_X6_isIn M x1.toInt64 (0 : Int64) (1 : Int64) (fun r1 M2 => (r1 = 0 → (post (-1 : Int32) M2)) ∧ (¬ (r1 = 0) → (q_X6_isLine M2  (fun r4 M5 => (r4 = 0 → (post (-3 : Int32) M5)) ∧ (¬ (r4 = 0) → (q_X6_allPieces M5  (fun r7 M8 => q_X6_sumsUp M8 r7 (fun M10 => q_X6_greatestOf M10  (fun r11 M12 => (x1 = 0 → (j_X6_greatest_47 post M12 r11)) ∧ (¬ (x1 = 0) → (j_X6_greatest_47 post M12 (M12 57 23))))))))))))
set_option maxHeartbeats 4000000 in
set_option maxRecDepth 100000 in
theorem t_X6_greatest_47 (C : Cx G p s m args meth c RX6 cX6_greatest 3 (some .int)) {post : Int32 → Mem → Prop} (M : Mem) (y0 : Int32) {H : Heap} {locs : List Loc} {ls : Array Slot} (w : Wd G s M H locs) (hl : lv_has ls 3 []) (h : j_X6_greatest_47 post M y0) : W p l e (rmk 5) s m args below meth c H locs 0 0 (MQ below (va_Qi post (Qw G) (Af G s.heap.size)) args s 0 0 (Af G s.heap.size)) (F0 m 47 ls [.int y0]) := by
  have hx := C.1.1
  have hb := C.1.2.1
  unfold j_X6_greatest_47 at h
  exact ret_i C w h dX6_greatest_47
set_option maxHeartbeats 4000000 in
set_option maxRecDepth 100000 in
theorem c_X6_greatest (l : Launch) (G : GG) (hG : Ag G) (sz : Nat) (M : Mem) (x1 : Int32) (post : Int32 → Mem → Prop) (h : q_X6_greatest M x1 post) : Met l yX6_greatest (Cond.code yX6_greatest cX6_greatest 3 (some .int) :: wsL_law) (rmk 5) (va_Pc [.ref (ga G 57), .int x1] (Pw G sz M)) (va_Qi post (Qw G) (Af G sz)) 0 0 (Af G sz) := by
  refine Met.ofW (cc := cX6_greatest) (maxL := 3) (ret := (some .int)) (by decide) rfl ?_
  intro p e s m args below meth c s₁ B hml hv
  obtain ⟨rfl, hsz, hE, hP⟩ := hv
  subst hsz
  have C := Cx.of (own := RX6) hG hE rfl hml B
  have w : Wd G s M s.heap [] := ⟨hP, va_S.rf⟩
  have hl := lv_entry [.ref (ga G 57), .int x1] (n := 3) (Nat.le_of_ble_eq_true rfl)
  rw [lg_entry_eq]
  generalize (lg_sl [.ref (ga G 57), .int x1] ++ List.replicate (3 - (lg_sl [.ref (ga G 57), .int x1]).length) Slot.unset).toArray = ls at hl ⊢
  have hl : lv_has ls 3 [(0, .ref (ga G 57)), (1, .int x1)] := hl
  have hx := C.1.1
  have hb := C.1.2.1
  show W p l e (rmk 5) s m _ below meth c s.heap [] 0 0 _ _
  unfold q_X6_greatest at h
  refine lv_iload_n hx hb dX6_greatest_0 rfl (lv_at hl 1 rfl) ?_
  refine lv_i2l hx hb dX6_greatest_1 rfl ?_
  refine lv_lconst (v := 0) hx hb dX6_greatest_2 (by decide) ?_
  refine lv_lconst (v := 1) hx hb dX6_greatest_3 (by decide) ?_
  refine end_i w (run_S (As := [.long x1.toInt64, .long (0 : Int64), .long (1 : Int64)]) C w hl.1 (c_X6_isIn l G C.2.2.1 _ _ x1.toInt64 (0 : Int64) (1 : Int64)  _ h) kw_12_5 kw_1_5 kw_12_3 kw_12_4 hd_X6_isIn ⟨by decide, by decide⟩ rfl (Nat.le_of_ble_eq_true rfl) dX6_greatest_4) (fun r1 M2 H locs h w => ?_)
  refine lv_if_ne (tgt := 12) hx hb dX6_greatest_7 (by decide) (fun c3 => ?_) (fun c3 => ?_)
  · replace h := h.2 c3
    refine lv_aload_n hx hb dX6_greatest_12 rfl (lv_at hl 0 rfl) ?_
    refine end_i w (run_V (As := []) C w hl.1 (c_X6_isLine l G C.2.2.1 _ _   _ h) kw_17_11 kw_1_5 kw_17_8 kw_17_9 kw_17_10 hd_X6_isLine ⟨by decide, by decide⟩ (w.recv C (i := 57) (by decide) (pE_6) rfl) rfl (Nat.le_of_ble_eq_true rfl) dX6_greatest_13) (fun r4 M5 H locs h w => ?_)
    refine lv_if_ne (tgt := 22) hx hb dX6_greatest_16 (by decide) (fun c6 => ?_) (fun c6 => ?_)
    · replace h := h.2 c6
      refine lv_aload_n hx hb dX6_greatest_22 rfl (lv_at hl 0 rfl) ?_
      refine lv_aload_n hx hb dX6_greatest_23 rfl (lv_at hl 0 rfl) ?_
      refine end_i w (run_V (As := []) C w hl.1 (c_X6_allPieces l G C.2.2.1 _ _   _ h) kw_17_15 kw_1_5 kw_17_12 kw_17_13 kw_17_14 hd_X6_allPieces ⟨by decide, by decide⟩ (w.recv C (i := 57) (by decide) (pE_6) rfl) rfl (Nat.le_of_ble_eq_true rfl) dX6_greatest_24) (fun r7 M8 H locs h w => ?_)
      refine end_v w (run_V (As := [.int r7]) C w hl.1 (c_X6_sumsUp l G C.2.2.1 _ _ r7  _ h) kw_17_19 kw_1_5 kw_17_16 kw_17_17 kw_17_18 hd_X6_sumsUp ⟨by decide, by decide⟩ (w.recv C (i := 57) (by decide) (pE_6) rfl) rfl (Nat.le_of_ble_eq_true rfl) dX6_greatest_27) (fun M10 H locs h w => ?_)
      refine lv_aload_n hx hb dX6_greatest_30 rfl (lv_at hl 0 rfl) ?_
      refine end_i w (run_V (As := []) C w hl.1 (c_X6_greatestOf l G C.2.2.1 _ _   _ h) kw_23_4 kw_1_5 kw_23_1 kw_23_2 kw_23_3 hd_X6_greatestOf ⟨by decide, by decide⟩ (w.recv C (i := 57) (by decide) (pE_6) rfl) rfl (Nat.le_of_ble_eq_true rfl) dX6_greatest_31) (fun r11 M12 H locs h w => ?_)
      refine lv_istore_n (lv' := [(2, .int r11), (0, .ref (ga G 57)), (1, .int x1)]) hx hb dX6_greatest_34 rfl hl (by decide) rfl (fun ls hl => ?_)
      refine lv_iload_n hx hb dX6_greatest_35 rfl (lv_at hl 2 rfl) ?_
      refine lv_if_ne (tgt := 43) hx hb dX6_greatest_36 (by decide) (fun c13 => ?_) (fun c13 => ?_)
      · replace h := h.2 c13
        refine lv_aload_n hx hb dX6_greatest_43 rfl (lv_at hl 1 rfl) ?_
        refine gt_6_23 C w kw_23_0 dX6_greatest_44 ?_
        exact t_X6_greatest_47 C M12 (M12 57 23)  w (lv_sub hl [] rfl) h
      replace h := h.1 c13
      refine lv_iload_n hx hb dX6_greatest_39 rfl (lv_at hl 0 rfl) ?_
      refine lv_goto (tgt := 47) hx hb dX6_greatest_40 (by decide) ?_
      exact t_X6_greatest_47 C M12 r11  w (lv_sub hl [] rfl) h
    replace h := h.1 c6
    refine lv_bipush (v := -3) hx hb dX6_greatest_19 (by decide) ?_
    exact ret_i C w h dX6_greatest_21
  replace h := h.1 c3
  refine lv_iconst (v := -1) hx hb dX6_greatest_10 (by decide) ?_
  exact ret_i C w h dX6_greatest_11
def b_X5_partsWithin_13 (k13 : Mem → Int32 → Int32 → Prop) (post : Int32 → Mem → Prop) (M : Mem) (x1 : Int32) (x2 : Int32) : Prop := (x1 ≤ x2 → (post (-4 : Int32) M)) ∧ (¬ (x1 ≤ x2) → (q_X4_passTenth M 3 (fun r2 M3 => ((M3 3 7) = (-4 : Int32) → (k13 M3 x1 (x2 + (1 : Int32)))) ∧ (¬ ((M3 3 7) = (-4 : Int32)) → (post x2 M3)))))
def lp_X5_partsWithin_13 (post : Int32 → Mem → Prop) : Nat → Mem → Int32 → Int32 → Prop
  | 0 => fun _ _ _ => False
  | n + 1 => fun M x1 x2 => b_X5_partsWithin_13 (lp_X5_partsWithin_13 post n) post M x1 x2
def q_X5_partsWithin (M : Mem) (x1 : Int32) (post : Int32 → Mem → Prop) : Prop := q_X4_become M 3 1 (fun M6 => ∃ n, lp_X5_partsWithin_13 post n M6 x1 (0 : Int32))
set_option maxHeartbeats 4000000 in
set_option maxRecDepth 100000 in
theorem t_X5_partsWithin_13 (C : Cx G p s m args meth c RX5 cX5_partsWithin 3 (some .int)) {post : Int32 → Mem → Prop} : ∀ (n : Nat) (M : Mem) (x1 : Int32) (x2 : Int32) {H : Heap} {locs : List Loc} {ls : Array Slot} (w : Wd G s M H locs) (hl : lv_has ls 3 [(0, .ref (ga G 0)), (1, .int x1), (2, .int x2)]) (h : lp_X5_partsWithin_13 post n M x1 x2), W p l e (rmk 5) s m args below meth c H locs 0 0 (MQ below (va_Qi post (Qw G) (Af G s.heap.size)) args s 0 0 (Af G s.heap.size)) (F0 m 13 ls []) := by
  have hx := C.1.1
  have hb := C.1.2.1
  intro n9
  induction n9 with
  | zero => intro M x1 x2 H locs ls w hl h; exact absurd h id
  | succ n9 ih9 =>
    intro M x1 x2 H locs ls w hl h
    have hk13 : ∀ (M : Mem) (x1 : Int32) (x2 : Int32) (H : Heap) (locs : List Loc) (ls : Array Slot), Wd G s M H locs → lv_has ls 3 [(0, .ref (ga G 0)), (1, .int x1), (2, .int x2)] → lp_X5_partsWithin_13 post n9 M x1 x2 → W p l e (rmk 5) s m args below meth c H locs 0 0 (MQ below (va_Qi post (Qw G) (Af G s.heap.size)) args s 0 0 (Af G s.heap.size)) (F0 m 13 ls []) := fun M x1 x2 H locs ls w hl h => ih9 M x1 x2 w hl h
    replace h : b_X5_partsWithin_13 (lp_X5_partsWithin_13 post n9) post M x1 x2 := h
    unfold b_X5_partsWithin_13 at h
    refine lv_iload_n hx hb dX5_partsWithin_13 rfl (lv_at hl 2 rfl) ?_
    refine lv_iload_n hx hb dX5_partsWithin_14 rfl (lv_at hl 1 rfl) ?_
    refine lv_icmp_ge (tgt := 50) hx hb dX5_partsWithin_15 (by decide) (fun c1 => ?_) (fun c1 => ?_)
    · replace h := h.1 c1
      refine lv_bipush (v := -4) hx hb dX5_partsWithin_50 (by decide) ?_
      exact ret_i C w h dX5_partsWithin_52
    replace h := h.2 c1
    refine lv_aload_n hx hb dX5_partsWithin_18 rfl (lv_at hl 0 rfl) ?_
    refine gt_5_2 C w kw_1_18 dX5_partsWithin_19 ?_
    refine lv_aload_n hx hb dX5_partsWithin_22 rfl (lv_at hl 0 rfl) ?_
    refine gt_5_3 C w kw_1_22 dX5_partsWithin_23 ?_
    refine end_i w (run_VN (As := [.ref (ga G 4)]) C w hl.1 (c_X4_passTenth l G C.2.2.1 _ _ 3 ⟨by decide, by decide⟩ _ h) kw_21_0 kw_1_15 kn_64 kw_20_22 kw_20_23 hd_X4_passTenth ⟨by decide, by decide⟩ (w.recv C (i := 3) (by decide) (pE_4 ⟨by decide, by decide⟩) rfl) rfl (Nat.le_of_ble_eq_true rfl) dX5_partsWithin_26) (fun r2 M3 H locs h w => ?_)
    refine lv_pop hx hb dX5_partsWithin_29 rfl ?_
    refine lv_aload_n hx hb dX5_partsWithin_30 rfl (lv_at hl 0 rfl) ?_
    refine gt_5_2 C w kw_1_18 dX5_partsWithin_31 ?_
    refine gn_4_7 C w ⟨by decide, by decide⟩ kn_22 dX5_partsWithin_34 ?_
    refine lv_bipush (v := -4) hx hb dX5_partsWithin_37 (by decide) ?_
    refine lv_icmp_eq (tgt := 44) hx hb dX5_partsWithin_39 (by decide) (fun c4 => ?_) (fun c4 => ?_)
    · replace h := h.1 c4
      refine lv_iinc (v := (x2 + (1 : Int32))) (lv' := [(2, .int (x2 + (1 : Int32))), (0, .ref (ga G 0)), (1, .int x1)]) hx hb dX5_partsWithin_44 hl (k := 2) rfl rfl (by decide) rfl (fun ls hl => ?_)
      refine lv_goto (tgt := 13) hx hb dX5_partsWithin_47 (by decide) ?_
      exact hk13 M3 x1 (x2 + (1 : Int32)) _ _ _  w (lv_sub hl [1, 2, 0] rfl) h
    replace h := h.2 c4
    refine lv_iload_n hx hb dX5_partsWithin_42 rfl (lv_at hl 2 rfl) ?_
    exact ret_i C w h dX5_partsWithin_43
set_option maxHeartbeats 4000000 in
set_option maxRecDepth 100000 in
theorem c_X5_partsWithin (l : Launch) (G : GG) (hG : Ag G) (sz : Nat) (M : Mem) (x1 : Int32) (post : Int32 → Mem → Prop) (h : q_X5_partsWithin M x1 post) : Met l yX5_partsWithin (Cond.code yX5_partsWithin cX5_partsWithin 3 (some .int) :: wsL_law) (rmk 5) (va_Pc [.ref (ga G 0), .int x1] (Pw G sz M)) (va_Qi post (Qw G) (Af G sz)) 0 0 (Af G sz) := by
  refine Met.ofW (cc := cX5_partsWithin) (maxL := 3) (ret := (some .int)) (by decide) rfl ?_
  intro p e s m args below meth c s₁ B hml hv
  obtain ⟨rfl, hsz, hE, hP⟩ := hv
  subst hsz
  have C := Cx.of (own := RX5) hG hE rfl hml B
  have w : Wd G s M s.heap [] := ⟨hP, va_S.rf⟩
  have hl := lv_entry [.ref (ga G 0), .int x1] (n := 3) (Nat.le_of_ble_eq_true rfl)
  rw [lg_entry_eq]
  generalize (lg_sl [.ref (ga G 0), .int x1] ++ List.replicate (3 - (lg_sl [.ref (ga G 0), .int x1]).length) Slot.unset).toArray = ls at hl ⊢
  have hl : lv_has ls 3 [(0, .ref (ga G 0)), (1, .int x1)] := hl
  have hx := C.1.1
  have hb := C.1.2.1
  show W p l e (rmk 5) s m _ below meth c s.heap [] 0 0 _ _
  unfold q_X5_partsWithin at h
  refine lv_aload_n hx hb dX5_partsWithin_0 rfl (lv_at hl 0 rfl) ?_
  refine gt_5_2 C w kw_1_18 dX5_partsWithin_1 ?_
  refine lv_aload_n hx hb dX5_partsWithin_4 rfl (lv_at hl 0 rfl) ?_
  refine gt_5_0 C w kw_1_16 dX5_partsWithin_5 ?_
  refine end_v w (run_VN (As := [.ref (ga G 1)]) C w hl.1 (c_X4_become l G C.2.2.1 _ _ 3 1 ⟨by decide, by decide⟩ ⟨by decide, by decide⟩ _ h) kw_6_11 kw_1_15 kn_44 kw_6_9 kw_6_10 hd_X4_become ⟨by decide, by decide⟩ (w.recv C (i := 3) (by decide) (pE_4 ⟨by decide, by decide⟩) rfl) rfl (Nat.le_of_ble_eq_true rfl) dX5_partsWithin_8) (fun M6 H locs h w => ?_)
  refine lv_iconst (v := 0) hx hb dX5_partsWithin_11 (by decide) ?_
  refine lv_istore_n (lv' := [(2, .int (0 : Int32)), (0, .ref (ga G 0)), (1, .int x1)]) hx hb dX5_partsWithin_12 rfl hl (by decide) rfl (fun ls hl => ?_)
  obtain ⟨n, h⟩ := h
  exact t_X5_partsWithin_13 C n M6 x1 (0 : Int32)  w (lv_sub hl [1, 2, 0] rfl) h
def j_X5_holds_76 (post : Int32 → Mem → Prop) (M : Mem) (y0 : Int32) : Prop := post y0 M
def j_X5_holds_65 (post : Int32 → Mem → Prop) (M : Mem) (x3 : Int32) : Prop := j_X5_holds_76 post M x3
def j_X5_holds_53 (post : Int32 → Mem → Prop) (M : Mem) (y0 : Int32) : Prop := post y0 M
def j_X5_holds_20 (post : Int32 → Mem → Prop) (M : Mem) : Prop := post (-1 : Int32) M
def q_X5_holds (M : Mem) (x1 : Int32) (x2 : Int32) (post : Int32 → Mem → Prop) : Prop := q_X5_isWithin M x1 (0 : Int32) (400 : Int32) (fun r1 M2 => (r1 = 0 → (j_X5_holds_20 post M2)) ∧ (¬ (r1 = 0) → (q_X5_isWithin M2 x2 (0 : Int32) (2 : Int32) (fun r4 M5 => (r4 = 0 → (j_X5_holds_20 post M5)) ∧ (¬ (r4 = 0) → (q_X5_layLine M5  (fun r7 M8 => (r7 = 0 → (post (-3 : Int32) M8)) ∧ (¬ (r7 = 0) → (q_X5_partsWithin M8 x1 (fun r10 M11 => (x2 = 0 → ((r10 = (-4 : Int32) → (j_X5_holds_53 post M11 (1 : Int32))) ∧ (¬ (r10 = (-4 : Int32)) → (j_X5_holds_53 post M11 (0 : Int32))))) ∧ (¬ (x2 = 0) → ((x2 = (1 : Int32) → (j_X5_holds_65 post M11 r10)) ∧ (¬ (x2 = (1 : Int32)) → ((r10 = (-4 : Int32) → (j_X5_holds_65 post M11 r10)) ∧ (¬ (r10 = (-4 : Int32)) → (j_X5_holds_76 post M11 (M11 3 7)))))))))))))))))
set_option maxHeartbeats 4000000 in
set_option maxRecDepth 100000 in
theorem t_X5_holds_76 (C : Cx G p s m args meth c RX5 cX5_holds 4 (some .int)) {post : Int32 → Mem → Prop} (M : Mem) (y0 : Int32) {H : Heap} {locs : List Loc} {ls : Array Slot} (w : Wd G s M H locs) (hl : lv_has ls 4 []) (h : j_X5_holds_76 post M y0) : W p l e (rmk 6) s m args below meth c H locs 0 0 (MQ below (va_Qi post (Qw G) (Af G s.heap.size)) args s 0 0 (Af G s.heap.size)) (F0 m 76 ls [.int y0]) := by
  have hx := C.1.1
  have hb := C.1.2.1
  unfold j_X5_holds_76 at h
  exact ret_i C w h dX5_holds_76
set_option maxHeartbeats 4000000 in
set_option maxRecDepth 100000 in
theorem t_X5_holds_65 (C : Cx G p s m args meth c RX5 cX5_holds 4 (some .int)) {post : Int32 → Mem → Prop} (M : Mem) (x3 : Int32) {H : Heap} {locs : List Loc} {ls : Array Slot} (w : Wd G s M H locs) (hl : lv_has ls 4 [(3, .int x3)]) (h : j_X5_holds_65 post M x3) : W p l e (rmk 6) s m args below meth c H locs 0 0 (MQ below (va_Qi post (Qw G) (Af G s.heap.size)) args s 0 0 (Af G s.heap.size)) (F0 m 65 ls []) := by
  have hx := C.1.1
  have hb := C.1.2.1
  unfold j_X5_holds_65 at h
  refine lv_iload_n hx hb dX5_holds_65 rfl (lv_at hl 0 rfl) ?_
  refine lv_goto (tgt := 76) hx hb dX5_holds_66 (by decide) ?_
  exact t_X5_holds_76 C M x3  w (lv_sub hl [] rfl) h
set_option maxHeartbeats 4000000 in
set_option maxRecDepth 100000 in
theorem t_X5_holds_53 (C : Cx G p s m args meth c RX5 cX5_holds 4 (some .int)) {post : Int32 → Mem → Prop} (M : Mem) (y0 : Int32) {H : Heap} {locs : List Loc} {ls : Array Slot} (w : Wd G s M H locs) (hl : lv_has ls 4 []) (h : j_X5_holds_53 post M y0) : W p l e (rmk 6) s m args below meth c H locs 0 0 (MQ below (va_Qi post (Qw G) (Af G s.heap.size)) args s 0 0 (Af G s.heap.size)) (F0 m 53 ls [.int y0]) := by
  have hx := C.1.1
  have hb := C.1.2.1
  unfold j_X5_holds_53 at h
  exact ret_i C w h dX5_holds_53
set_option maxHeartbeats 4000000 in
set_option maxRecDepth 100000 in
theorem t_X5_holds_20 (C : Cx G p s m args meth c RX5 cX5_holds 4 (some .int)) {post : Int32 → Mem → Prop} (M : Mem) {H : Heap} {locs : List Loc} {ls : Array Slot} (w : Wd G s M H locs) (hl : lv_has ls 4 []) (h : j_X5_holds_20 post M) : W p l e (rmk 6) s m args below meth c H locs 0 0 (MQ below (va_Qi post (Qw G) (Af G s.heap.size)) args s 0 0 (Af G s.heap.size)) (F0 m 20 ls []) := by
  have hx := C.1.1
  have hb := C.1.2.1
  unfold j_X5_holds_20 at h
  refine lv_iconst (v := -1) hx hb dX5_holds_20 (by decide) ?_
  exact ret_i C w h dX5_holds_21
set_option maxHeartbeats 4000000 in
set_option maxRecDepth 100000 in
theorem c_X5_holds (l : Launch) (G : GG) (hG : Ag G) (sz : Nat) (M : Mem) (x1 : Int32) (x2 : Int32) (post : Int32 → Mem → Prop) (h : q_X5_holds M x1 x2 post) : Met l yX5_holds (Cond.code yX5_holds cX5_holds 4 (some .int) :: wsL_law) (rmk 6) (va_Pc [.ref (ga G 0), .int x1, .int x2] (Pw G sz M)) (va_Qi post (Qw G) (Af G sz)) 0 0 (Af G sz) := by
  refine Met.ofW (cc := cX5_holds) (maxL := 4) (ret := (some .int)) (by decide) rfl ?_
  intro p e s m args below meth c s₁ B hml hv
  obtain ⟨rfl, hsz, hE, hP⟩ := hv
  subst hsz
  have C := Cx.of (own := RX5) hG hE rfl hml B
  have w : Wd G s M s.heap [] := ⟨hP, va_S.rf⟩
  have hl := lv_entry [.ref (ga G 0), .int x1, .int x2] (n := 4) (Nat.le_of_ble_eq_true rfl)
  rw [lg_entry_eq]
  generalize (lg_sl [.ref (ga G 0), .int x1, .int x2] ++ List.replicate (4 - (lg_sl [.ref (ga G 0), .int x1, .int x2]).length) Slot.unset).toArray = ls at hl ⊢
  have hl : lv_has ls 4 [(0, .ref (ga G 0)), (1, .int x1), (2, .int x2)] := hl
  have hx := C.1.1
  have hb := C.1.2.1
  show W p l e (rmk 6) s m _ below meth c s.heap [] 0 0 _ _
  unfold q_X5_holds at h
  refine lv_iload_n hx hb dX5_holds_0 rfl (lv_at hl 1 rfl) ?_
  refine lv_iconst (v := 0) hx hb dX5_holds_1 (by decide) ?_
  refine lv_sipush (v := 400) hx hb dX5_holds_2 (by decide) ?_
  refine end_i w (run_S (As := [.int x1, .int (0 : Int32), .int (400 : Int32)]) C w hl.1 (c_X5_isWithin l G C.2.2.1 _ _ x1 (0 : Int32) (400 : Int32)  _ h) kw_6_8 kw_1_2 kw_6_6 kw_6_7 hd_X5_isWithin ⟨by decide, by decide⟩ rfl (Nat.le_of_ble_eq_true rfl) dX5_holds_5) (fun r1 M2 H locs h w => ?_)
  refine lv_if_eq (tgt := 20) hx hb dX5_holds_8 (by decide) (fun c3 => ?_) (fun c3 => ?_)
  · replace h := h.1 c3
    exact t_X5_holds_20 C M2   w (lv_sub hl [] rfl) h
  replace h := h.2 c3
  refine lv_iload_n hx hb dX5_holds_11 rfl (lv_at hl 2 rfl) ?_
  refine lv_iconst (v := 0) hx hb dX5_holds_12 (by decide) ?_
  refine lv_iconst (v := 2) hx hb dX5_holds_13 (by decide) ?_
  refine end_i w (run_S (As := [.int x2, .int (0 : Int32), .int (2 : Int32)]) C w hl.1 (c_X5_isWithin l G C.2.2.1 _ _ x2 (0 : Int32) (2 : Int32)  _ h) kw_6_8 kw_1_2 kw_6_6 kw_6_7 hd_X5_isWithin ⟨by decide, by decide⟩ rfl (Nat.le_of_ble_eq_true rfl) dX5_holds_14) (fun r4 M5 H locs h w => ?_)
  refine lv_if_ne (tgt := 22) hx hb dX5_holds_17 (by decide) (fun c6 => ?_) (fun c6 => ?_)
  · replace h := h.2 c6
    refine lv_aload_n hx hb dX5_holds_22 rfl (lv_at hl 0 rfl) ?_
    refine end_i w (run_V (As := []) C w hl.1 (c_X5_layLine l G C.2.2.1 _ _   _ h) kw_15_21 kw_1_2 kw_15_18 kw_15_19 kw_15_20 hd_X5_layLine ⟨by decide, by decide⟩ (w.recv C (i := 0) (by decide) (pE_5) rfl) rfl (Nat.le_of_ble_eq_true rfl) dX5_holds_23) (fun r7 M8 H locs h w => ?_)
    refine lv_if_ne (tgt := 32) hx hb dX5_holds_26 (by decide) (fun c9 => ?_) (fun c9 => ?_)
    · replace h := h.2 c9
      refine lv_aload_n hx hb dX5_holds_32 rfl (lv_at hl 0 rfl) ?_
      refine lv_iload_n hx hb dX5_holds_33 rfl (lv_at hl 1 rfl) ?_
      refine end_i w (run_V (As := [.int x1]) C w hl.1 (c_X5_partsWithin l G C.2.2.1 _ _ x1  _ h) kw_23_12 kw_1_2 kw_23_9 kw_23_10 kw_23_11 hd_X5_partsWithin ⟨by decide, by decide⟩ (w.recv C (i := 0) (by decide) (pE_5) rfl) rfl (Nat.le_of_ble_eq_true rfl) dX5_holds_34) (fun r10 M11 H locs h w => ?_)
      refine lv_istore_n (lv' := [(3, .int r10), (0, .ref (ga G 0)), (1, .int x1), (2, .int x2)]) hx hb dX5_holds_37 rfl hl (by decide) rfl (fun ls hl => ?_)
      refine lv_iload_n hx hb dX5_holds_38 rfl (lv_at hl 3 rfl) ?_
      refine lv_if_ne (tgt := 54) hx hb dX5_holds_39 (by decide) (fun c12 => ?_) (fun c12 => ?_)
      · replace h := h.2 c12
        refine lv_iload_n hx hb dX5_holds_54 rfl (lv_at hl 3 rfl) ?_
        refine lv_iconst (v := 1) hx hb dX5_holds_55 (by decide) ?_
        refine lv_icmp_eq (tgt := 65) hx hb dX5_holds_56 (by decide) (fun c13 => ?_) (fun c13 => ?_)
        · replace h := h.1 c13
          exact t_X5_holds_65 C M11 r10  w (lv_sub hl [0] rfl) h
        replace h := h.2 c13
        refine lv_iload_n hx hb dX5_holds_59 rfl (lv_at hl 0 rfl) ?_
        refine lv_bipush (v := -4) hx hb dX5_holds_60 (by decide) ?_
        refine lv_icmp_ne (tgt := 69) hx hb dX5_holds_62 (by decide) (fun c14 => ?_) (fun c14 => ?_)
        · replace h := h.2 c14
          refine lv_aload_n hx hb dX5_holds_69 rfl (lv_at hl 1 rfl) ?_
          refine gt_5_2 C w kw_1_18 dX5_holds_70 ?_
          refine gn_4_7 C w ⟨by decide, by decide⟩ kn_22 dX5_holds_73 ?_
          exact t_X5_holds_76 C M11 (M11 3 7)  w (lv_sub hl [] rfl) h
        replace h := h.1 c14
        exact t_X5_holds_65 C M11 r10  w (lv_sub hl [0] rfl) h
      replace h := h.1 c12
      refine lv_iload_n hx hb dX5_holds_42 rfl (lv_at hl 0 rfl) ?_
      refine lv_bipush (v := -4) hx hb dX5_holds_43 (by decide) ?_
      refine lv_icmp_ne (tgt := 52) hx hb dX5_holds_45 (by decide) (fun c15 => ?_) (fun c15 => ?_)
      · replace h := h.2 c15
        refine lv_iconst (v := 0) hx hb dX5_holds_52 (by decide) ?_
        exact t_X5_holds_53 C M11 (0 : Int32)  w (lv_sub hl [] rfl) h
      replace h := h.1 c15
      refine lv_iconst (v := 1) hx hb dX5_holds_48 (by decide) ?_
      refine lv_goto (tgt := 53) hx hb dX5_holds_49 (by decide) ?_
      exact t_X5_holds_53 C M11 (1 : Int32)  w (lv_sub hl [] rfl) h
    replace h := h.1 c9
    refine lv_bipush (v := -3) hx hb dX5_holds_29 (by decide) ?_
    exact ret_i C w h dX5_holds_31
  replace h := h.1 c6
  exact t_X5_holds_20 C M5   w (lv_sub hl [] rfl) h
end WALK
