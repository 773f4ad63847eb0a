theorem dX5_legToSlow_0 : decode cX5_legToSlow 0 = .ok (.iconst 0, 1) := by decide +kernel
theorem dX5_legToSlow_1 : decode cX5_legToSlow 1 = .ok (.istore_n 2, 1) := by decide +kernel
theorem dX5_legToSlow_2 : decode cX5_legToSlow 2 = .ok (.aload_n 0, 1) := by decide +kernel
theorem dX5_legToSlow_3 : decode cX5_legToSlow 3 = .ok (.aload_n 1, 1) := by decide +kernel
theorem dX5_legToSlow_4 : decode cX5_legToSlow 4 = .ok (.iconst 0, 1) := by decide +kernel
theorem dX5_legToSlow_5 : decode cX5_legToSlow 5 = .ok (.invokevirtual 211, 3) := by decide +kernel
theorem dX5_legToSlow_8 : decode cX5_legToSlow 8 = .ok (.istore_n 3, 1) := by decide +kernel
theorem dX5_legToSlow_9 : decode cX5_legToSlow 9 = .ok (.iconst 1, 1) := by decide +kernel
theorem dX5_legToSlow_10 : decode cX5_legToSlow 10 = .ok (.istore 4, 2) := by decide +kernel
theorem dX5_legToSlow_12 : decode cX5_legToSlow 12 = .ok (.iload 4, 2) := by decide +kernel
theorem dX5_legToSlow_14 : decode cX5_legToSlow 14 = .ok (.aload_n 1, 1) := by decide +kernel
theorem dX5_legToSlow_15 : decode cX5_legToSlow 15 = .ok (.invokevirtual 329, 3) := by decide +kernel
theorem dX5_legToSlow_18 : decode cX5_legToSlow 18 = .ok (.if_icmp .ge 30, 3) := by decide +kernel
theorem dX5_legToSlow_21 : decode cX5_legToSlow 21 = .ok (.aload_n 0, 1) := by decide +kernel
theorem dX5_legToSlow_22 : decode cX5_legToSlow 22 = .ok (.aload_n 1, 1) := by decide +kernel
theorem dX5_legToSlow_23 : decode cX5_legToSlow 23 = .ok (.iload 4, 2) := by decide +kernel
theorem dX5_legToSlow_25 : decode cX5_legToSlow 25 = .ok (.invokevirtual 211, 3) := by decide +kernel
theorem dX5_legToSlow_28 : decode cX5_legToSlow 28 = .ok (.istore 5, 2) := by decide +kernel
theorem dX5_legToSlow_30 : decode cX5_legToSlow 30 = .ok (.iload 5, 2) := by decide +kernel
theorem dX5_legToSlow_32 : decode cX5_legToSlow 32 = .ok (.iload_n 3, 1) := by decide +kernel
theorem dX5_legToSlow_33 : decode cX5_legToSlow 33 = .ok (.if_icmp .ge 9, 3) := by decide +kernel
theorem dX5_legToSlow_36 : decode cX5_legToSlow 36 = .ok (.iload 4, 2) := by decide +kernel
theorem dX5_legToSlow_38 : decode cX5_legToSlow 38 = .ok (.istore_n 2, 1) := by decide +kernel
theorem dX5_legToSlow_39 : decode cX5_legToSlow 39 = .ok (.iload 5, 2) := by decide +kernel
theorem dX5_legToSlow_41 : decode cX5_legToSlow 41 = .ok (.istore_n 3, 1) := by decide +kernel
theorem dX5_legToSlow_42 : decode cX5_legToSlow 42 = .ok (.iinc 4 1, 3) := by decide +kernel
theorem dX5_legToSlow_45 : decode cX5_legToSlow 45 = .ok (.goto (-33), 3) := by decide +kernel
theorem dX5_legToSlow_48 : decode cX5_legToSlow 48 = .ok (.iload_n 2, 1) := by decide +kernel
theorem dX5_legToSlow_49 : decode cX5_legToSlow 49 = .ok (.ireturn, 1) := by decide +kernel
theorem dX5_legs_0 : decode cX5_legs 0 = .ok (.iload_n 2, 1) := by decide +kernel
theorem dX5_legs_1 : decode cX5_legs 1 = .ok (.iconst 0, 1) := by decide +kernel
theorem dX5_legs_2 : decode cX5_legs 2 = .ok (.iconst 2, 1) := by decide +kernel
theorem dX5_legs_3 : decode cX5_legs 3 = .ok (.invokestatic 129, 3) := by decide +kernel
theorem dX5_legs_6 : decode cX5_legs 6 = .ok (.ifCond .ne 5, 3) := by decide +kernel
theorem dX5_legs_9 : decode cX5_legs 9 = .ok (.iconst (-1), 1) := by decide +kernel
theorem dX5_legs_10 : decode cX5_legs 10 = .ok (.ireturn, 1) := by decide +kernel
theorem dX5_legs_11 : decode cX5_legs 11 = .ok (.aload_n 0, 1) := by decide +kernel
theorem dX5_legs_12 : decode cX5_legs 12 = .ok (.iload_n 1, 1) := by decide +kernel
theorem dX5_legs_13 : decode cX5_legs 13 = .ok (.invokevirtual 54, 3) := by decide +kernel
theorem dX5_legs_16 : decode cX5_legs 16 = .ok (.istore_n 3, 1) := by decide +kernel
theorem dX5_legs_17 : decode cX5_legs 17 = .ok (.iload_n 3, 1) := by decide +kernel
theorem dX5_legs_18 : decode cX5_legs 18 = .ok (.ifCond .ge 5, 3) := by decide +kernel
theorem dX5_legs_21 : decode cX5_legs 21 = .ok (.iload_n 3, 1) := by decide +kernel
theorem dX5_legs_22 : decode cX5_legs 22 = .ok (.ireturn, 1) := by decide +kernel
theorem dX5_legs_23 : decode cX5_legs 23 = .ok (.aload_n 0, 1) := by decide +kernel
theorem dX5_legs_24 : decode cX5_legs 24 = .ok (.getfield 45, 3) := by decide +kernel
theorem dX5_legs_27 : decode cX5_legs 27 = .ok (.iload_n 1, 1) := by decide +kernel
theorem dX5_legs_28 : decode cX5_legs 28 = .ok (.aaload, 1) := by decide +kernel
theorem dX5_legs_29 : decode cX5_legs 29 = .ok (.astore 4, 2) := by decide +kernel
theorem dX5_legs_31 : decode cX5_legs 31 = .ok (.aload 4, 2) := by decide +kernel
theorem dX5_legs_33 : decode cX5_legs 33 = .ok (.invokevirtual 208, 3) := by decide +kernel
theorem dX5_legs_36 : decode cX5_legs 36 = .ok (.ifCond .ne 6, 3) := by decide +kernel
theorem dX5_legs_39 : decode cX5_legs 39 = .ok (.bipush (-13), 2) := by decide +kernel
theorem dX5_legs_41 : decode cX5_legs 41 = .ok (.ireturn, 1) := by decide +kernel
theorem dX5_legs_42 : decode cX5_legs 42 = .ok (.aload_n 0, 1) := by decide +kernel
theorem dX5_legs_43 : decode cX5_legs 43 = .ok (.invokevirtual 110, 3) := by decide +kernel
theorem dX5_legs_46 : decode cX5_legs 46 = .ok (.ifCond .ne 6, 3) := by decide +kernel
theorem dX5_legs_49 : decode cX5_legs 49 = .ok (.bipush (-3), 2) := by decide +kernel
theorem dX5_legs_51 : decode cX5_legs 51 = .ok (.ireturn, 1) := by decide +kernel
theorem dX5_legs_52 : decode cX5_legs 52 = .ok (.iload_n 2, 1) := by decide +kernel
theorem dX5_legs_53 : decode cX5_legs 53 = .ok (.lookupswitch 42 #[(0, 27), (1, 36)], 27) := by decide +kernel
theorem dX5_legs_80 : decode cX5_legs 80 = .ok (.aload_n 0, 1) := by decide +kernel
theorem dX5_legs_81 : decode cX5_legs 81 = .ok (.aload 4, 2) := by decide +kernel
theorem dX5_legs_83 : decode cX5_legs 83 = .ok (.bipush (-4), 2) := by decide +kernel
theorem dX5_legs_85 : decode cX5_legs 85 = .ok (.invokevirtual 211, 3) := by decide +kernel
theorem dX5_legs_88 : decode cX5_legs 88 = .ok (.ireturn, 1) := by decide +kernel
theorem dX5_legs_89 : decode cX5_legs 89 = .ok (.aload 4, 2) := by decide +kernel
theorem dX5_legs_91 : decode cX5_legs 91 = .ok (.invokestatic 215, 3) := by decide +kernel
theorem dX5_legs_94 : decode cX5_legs 94 = .ok (.ireturn, 1) := by decide +kernel
theorem dX5_legs_95 : decode cX5_legs 95 = .ok (.aload_n 0, 1) := by decide +kernel
theorem dX5_legs_96 : decode cX5_legs 96 = .ok (.aload 4, 2) := by decide +kernel
theorem dX5_legs_98 : decode cX5_legs 98 = .ok (.invokevirtual 219, 3) := by decide +kernel
theorem dX5_legs_101 : decode cX5_legs 101 = .ok (.ireturn, 1) := by decide +kernel
theorem dX6_greatestBy_0 : decode cX6_greatestBy 0 = .ok (.aload_n 0, 1) := by decide +kernel
theorem dX6_greatestBy_1 : decode cX6_greatestBy 1 = .ok (.getfield 9, 3) := by decide +kernel
theorem dX6_greatestBy_4 : decode cX6_greatestBy 4 = .ok (.iconst 5, 1) := by decide +kernel
theorem dX6_greatestBy_5 : decode cX6_greatestBy 5 = .ok (.iaload, 1) := by decide +kernel
theorem dX6_greatestBy_6 : decode cX6_greatestBy 6 = .ok (.istore_n 3, 1) := by decide +kernel
theorem dX6_greatestBy_7 : decode cX6_greatestBy 7 = .ok (.aload_n 0, 1) := by decide +kernel
theorem dX6_greatestBy_8 : decode cX6_greatestBy 8 = .ok (.getfield 9, 3) := by decide +kernel
theorem dX6_greatestBy_11 : decode cX6_greatestBy 11 = .ok (.bipush 7, 2) := by decide +kernel
theorem dX6_greatestBy_13 : decode cX6_greatestBy 13 = .ok (.iaload, 1) := by decide +kernel
theorem dX6_greatestBy_14 : decode cX6_greatestBy 14 = .ok (.istore 4, 2) := by decide +kernel
theorem dX6_greatestBy_16 : decode cX6_greatestBy 16 = .ok (.aload_n 0, 1) := by decide +kernel
theorem dX6_greatestBy_17 : decode cX6_greatestBy 17 = .ok (.getfield 9, 3) := by decide +kernel
theorem dX6_greatestBy_20 : decode cX6_greatestBy 20 = .ok (.iconst 5, 1) := by decide +kernel
theorem dX6_greatestBy_21 : decode cX6_greatestBy 21 = .ok (.iload_n 1, 1) := by decide +kernel
theorem dX6_greatestBy_22 : decode cX6_greatestBy 22 = .ok (.iastore, 1) := by decide +kernel
theorem dX6_greatestBy_23 : decode cX6_greatestBy 23 = .ok (.aload_n 0, 1) := by decide +kernel
theorem dX6_greatestBy_24 : decode cX6_greatestBy 24 = .ok (.getfield 9, 3) := by decide +kernel
theorem dX6_greatestBy_27 : decode cX6_greatestBy 27 = .ok (.bipush 7, 2) := by decide +kernel
theorem dX6_greatestBy_29 : decode cX6_greatestBy 29 = .ok (.iload_n 2, 1) := by decide +kernel
theorem dX6_greatestBy_30 : decode cX6_greatestBy 30 = .ok (.iastore, 1) := by decide +kernel
theorem dX6_greatestBy_31 : decode cX6_greatestBy 31 = .ok (.aload_n 0, 1) := by decide +kernel
theorem dX6_greatestBy_32 : decode cX6_greatestBy 32 = .ok (.invokevirtual 201, 3) := by decide +kernel
theorem dX6_greatestBy_35 : decode cX6_greatestBy 35 = .ok (.istore 5, 2) := by decide +kernel
theorem dX6_greatestBy_37 : decode cX6_greatestBy 37 = .ok (.aload_n 0, 1) := by decide +kernel
theorem dX6_greatestBy_38 : decode cX6_greatestBy 38 = .ok (.getfield 9, 3) := by decide +kernel
theorem dX6_greatestBy_41 : decode cX6_greatestBy 41 = .ok (.iconst 5, 1) := by decide +kernel
theorem dX6_greatestBy_42 : decode cX6_greatestBy 42 = .ok (.iload_n 3, 1) := by decide +kernel
theorem dX6_greatestBy_43 : decode cX6_greatestBy 43 = .ok (.iastore, 1) := by decide +kernel
theorem dX6_greatestBy_44 : decode cX6_greatestBy 44 = .ok (.aload_n 0, 1) := by decide +kernel
theorem dX6_greatestBy_45 : decode cX6_greatestBy 45 = .ok (.getfield 9, 3) := by decide +kernel
theorem dX6_greatestBy_48 : decode cX6_greatestBy 48 = .ok (.bipush 7, 2) := by decide +kernel
theorem dX6_greatestBy_50 : decode cX6_greatestBy 50 = .ok (.iload 4, 2) := by decide +kernel
theorem dX6_greatestBy_52 : decode cX6_greatestBy 52 = .ok (.iastore, 1) := by decide +kernel
theorem dX6_greatestBy_53 : decode cX6_greatestBy 53 = .ok (.iload 5, 2) := by decide +kernel
theorem dX6_greatestBy_55 : decode cX6_greatestBy 55 = .ok (.ireturn, 1) := by decide +kernel
theorem dX6_greatestLegs_0 : decode cX6_greatestLegs 0 = .ok (.iconst (-1), 1) := by decide +kernel
theorem dX6_greatestLegs_1 : decode cX6_greatestLegs 1 = .ok (.istore_n 3, 1) := by decide +kernel
theorem dX6_greatestLegs_2 : decode cX6_greatestLegs 2 = .ok (.iconst 0, 1) := by decide +kernel
theorem dX6_greatestLegs_3 : decode cX6_greatestLegs 3 = .ok (.istore 4, 2) := by decide +kernel
theorem dX6_greatestLegs_5 : decode cX6_greatestLegs 5 = .ok (.iload 4, 2) := by decide +kernel
theorem dX6_greatestLegs_7 : decode cX6_greatestLegs 7 = .ok (.aload_n 0, 1) := by decide +kernel
theorem dX6_greatestLegs_8 : decode cX6_greatestLegs 8 = .ok (.getfield 28, 3) := by decide +kernel
theorem dX6_greatestLegs_11 : decode cX6_greatestLegs 11 = .ok (.iload_n 1, 1) := by decide +kernel
theorem dX6_greatestLegs_12 : decode cX6_greatestLegs 12 = .ok (.iaload, 1) := by decide +kernel
theorem dX6_greatestLegs_13 : decode cX6_greatestLegs 13 = .ok (.iconst 3, 1) := by decide +kernel
theorem dX6_greatestLegs_14 : decode cX6_greatestLegs 14 = .ok (.idiv, 1) := by decide +kernel
theorem dX6_greatestLegs_15 : decode cX6_greatestLegs 15 = .ok (.if_icmp .ge 67, 3) := by decide +kernel
theorem dX6_greatestLegs_18 : decode cX6_greatestLegs 18 = .ok (.bipush 100, 2) := by decide +kernel
theorem dX6_greatestLegs_20 : decode cX6_greatestLegs 20 = .ok (.iload_n 1, 1) := by decide +kernel
theorem dX6_greatestLegs_21 : decode cX6_greatestLegs 21 = .ok (.imul, 1) := by decide +kernel
theorem dX6_greatestLegs_22 : decode cX6_greatestLegs 22 = .ok (.iconst 3, 1) := by decide +kernel
theorem dX6_greatestLegs_23 : decode cX6_greatestLegs 23 = .ok (.iload 4, 2) := by decide +kernel
theorem dX6_greatestLegs_25 : decode cX6_greatestLegs 25 = .ok (.imul, 1) := by decide +kernel
theorem dX6_greatestLegs_26 : decode cX6_greatestLegs 26 = .ok (.iadd, 1) := by decide +kernel
theorem dX6_greatestLegs_27 : decode cX6_greatestLegs 27 = .ok (.istore 5, 2) := by decide +kernel
theorem dX6_greatestLegs_29 : decode cX6_greatestLegs 29 = .ok (.aload_n 0, 1) := by decide +kernel
theorem dX6_greatestLegs_30 : decode cX6_greatestLegs 30 = .ok (.aload_n 0, 1) := by decide +kernel
theorem dX6_greatestLegs_31 : decode cX6_greatestLegs 31 = .ok (.getfield 31, 3) := by decide +kernel
theorem dX6_greatestLegs_34 : decode cX6_greatestLegs 34 = .ok (.iload 5, 2) := by decide +kernel
theorem dX6_greatestLegs_36 : decode cX6_greatestLegs 36 = .ok (.iconst 1, 1) := by decide +kernel
theorem dX6_greatestLegs_37 : decode cX6_greatestLegs 37 = .ok (.iadd, 1) := by decide +kernel
theorem dX6_greatestLegs_38 : decode cX6_greatestLegs 38 = .ok (.iaload, 1) := by decide +kernel
theorem dX6_greatestLegs_39 : decode cX6_greatestLegs 39 = .ok (.iload 4, 2) := by decide +kernel
theorem dX6_greatestLegs_41 : decode cX6_greatestLegs 41 = .ok (.iload_n 2, 1) := by decide +kernel
theorem dX6_greatestLegs_42 : decode cX6_greatestLegs 42 = .ok (.if_icmp .ne 7, 3) := by decide +kernel
theorem dX6_greatestLegs_45 : decode cX6_greatestLegs 45 = .ok (.iconst 0, 1) := by decide +kernel
theorem dX6_greatestLegs_46 : decode cX6_greatestLegs 46 = .ok (.goto 12, 3) := by decide +kernel
theorem dX6_greatestLegs_49 : decode cX6_greatestLegs 49 = .ok (.aload_n 0, 1) := by decide +kernel
theorem dX6_greatestLegs_50 : decode cX6_greatestLegs 50 = .ok (.getfield 31, 3) := by decide +kernel
theorem dX6_greatestLegs_53 : decode cX6_greatestLegs 53 = .ok (.iload 5, 2) := by decide +kernel
theorem dX6_greatestLegs_55 : decode cX6_greatestLegs 55 = .ok (.iconst 2, 1) := by decide +kernel
theorem dX6_greatestLegs_56 : decode cX6_greatestLegs 56 = .ok (.iadd, 1) := by decide +kernel
theorem dX6_greatestLegs_57 : decode cX6_greatestLegs 57 = .ok (.iaload, 1) := by decide +kernel
theorem dX6_greatestLegs_58 : decode cX6_greatestLegs 58 = .ok (.invokevirtual 239, 3) := by decide +kernel
theorem dX6_greatestLegs_61 : decode cX6_greatestLegs 61 = .ok (.istore 6, 2) := by decide +kernel
theorem dX6_greatestLegs_63 : decode cX6_greatestLegs 63 = .ok (.iload 6, 2) := by decide +kernel
theorem dX6_greatestLegs_65 : decode cX6_greatestLegs 65 = .ok (.iload_n 3, 1) := by decide +kernel
theorem dX6_greatestLegs_66 : decode cX6_greatestLegs 66 = .ok (.if_icmp .le 8, 3) := by decide +kernel
theorem dX6_greatestLegs_69 : decode cX6_greatestLegs 69 = .ok (.iload 6, 2) := by decide +kernel
theorem dX6_greatestLegs_71 : decode cX6_greatestLegs 71 = .ok (.goto 4, 3) := by decide +kernel
theorem dX6_greatestLegs_74 : decode cX6_greatestLegs 74 = .ok (.iload_n 3, 1) := by decide +kernel
theorem dX6_greatestLegs_75 : decode cX6_greatestLegs 75 = .ok (.istore_n 3, 1) := by decide +kernel
theorem dX6_greatestLegs_76 : decode cX6_greatestLegs 76 = .ok (.iinc 4 1, 3) := by decide +kernel
theorem dX6_greatestLegs_79 : decode cX6_greatestLegs 79 = .ok (.goto (-74), 3) := by decide +kernel
theorem dX6_greatestLegs_82 : decode cX6_greatestLegs 82 = .ok (.iload_n 3, 1) := by decide +kernel
theorem dX6_greatestLegs_83 : decode cX6_greatestLegs 83 = .ok (.ireturn, 1) := by decide +kernel
theorem dX6_wrongLegs_0 : decode cX6_wrongLegs 0 = .ok (.aload_n 0, 1) := by decide +kernel
theorem dX6_wrongLegs_1 : decode cX6_wrongLegs 1 = .ok (.iload_n 1, 1) := by decide +kernel
theorem dX6_wrongLegs_2 : decode cX6_wrongLegs 2 = .ok (.iconst 0, 1) := by decide +kernel
theorem dX6_wrongLegs_3 : decode cX6_wrongLegs 3 = .ok (.invokevirtual 97, 3) := by decide +kernel
theorem dX6_wrongLegs_6 : decode cX6_wrongLegs 6 = .ok (.istore_n 2, 1) := by decide +kernel
theorem dX6_wrongLegs_7 : decode cX6_wrongLegs 7 = .ok (.iload_n 2, 1) := by decide +kernel
theorem dX6_wrongLegs_8 : decode cX6_wrongLegs 8 = .ok (.ifCond .eq 5, 3) := by decide +kernel
theorem dX6_wrongLegs_11 : decode cX6_wrongLegs 11 = .ok (.iload_n 2, 1) := by decide +kernel
theorem dX6_wrongLegs_12 : decode cX6_wrongLegs 12 = .ok (.ireturn, 1) := by decide +kernel
theorem dX6_wrongLegs_13 : decode cX6_wrongLegs 13 = .ok (.aload_n 0, 1) := by decide +kernel
theorem dX6_wrongLegs_14 : decode cX6_wrongLegs 14 = .ok (.getfield 28, 3) := by decide +kernel
theorem dX6_wrongLegs_17 : decode cX6_wrongLegs 17 = .ok (.iload_n 1, 1) := by decide +kernel
theorem dX6_wrongLegs_18 : decode cX6_wrongLegs 18 = .ok (.iaload, 1) := by decide +kernel
theorem dX6_wrongLegs_19 : decode cX6_wrongLegs 19 = .ok (.ifCond .eq 25, 3) := by decide +kernel
theorem dX6_wrongLegs_22 : decode cX6_wrongLegs 22 = .ok (.aload_n 0, 1) := by decide +kernel
theorem dX6_wrongLegs_23 : decode cX6_wrongLegs 23 = .ok (.getfield 28, 3) := by decide +kernel
theorem dX6_wrongLegs_26 : decode cX6_wrongLegs 26 = .ok (.iload_n 1, 1) := by decide +kernel
theorem dX6_wrongLegs_27 : decode cX6_wrongLegs 27 = .ok (.iaload, 1) := by decide +kernel
theorem dX6_wrongLegs_28 : decode cX6_wrongLegs 28 = .ok (.iconst 3, 1) := by decide +kernel
theorem dX6_wrongLegs_29 : decode cX6_wrongLegs 29 = .ok (.irem, 1) := by decide +kernel
theorem dX6_wrongLegs_30 : decode cX6_wrongLegs 30 = .ok (.ifCond .ne 14, 3) := by decide +kernel
theorem dX6_wrongLegs_33 : decode cX6_wrongLegs 33 = .ok (.aload_n 0, 1) := by decide +kernel
theorem dX6_wrongLegs_34 : decode cX6_wrongLegs 34 = .ok (.getfield 28, 3) := by decide +kernel
theorem dX6_wrongLegs_37 : decode cX6_wrongLegs 37 = .ok (.iload_n 1, 1) := by decide +kernel
theorem dX6_wrongLegs_38 : decode cX6_wrongLegs 38 = .ok (.iaload, 1) := by decide +kernel
theorem dX6_wrongLegs_39 : decode cX6_wrongLegs 39 = .ok (.bipush 24, 2) := by decide +kernel
theorem dX6_wrongLegs_41 : decode cX6_wrongLegs 41 = .ok (.if_icmp .le 6, 3) := by decide +kernel
theorem dX6_wrongLegs_44 : decode cX6_wrongLegs 44 = .ok (.bipush (-13), 2) := by decide +kernel
theorem dX6_wrongLegs_46 : decode cX6_wrongLegs 46 = .ok (.ireturn, 1) := by decide +kernel
theorem dX6_wrongLegs_47 : decode cX6_wrongLegs 47 = .ok (.iconst 0, 1) := by decide +kernel
theorem dX6_wrongLegs_48 : decode cX6_wrongLegs 48 = .ok (.istore_n 3, 1) := by decide +kernel
theorem dX6_wrongLegs_49 : decode cX6_wrongLegs 49 = .ok (.iload_n 3, 1) := by decide +kernel
theorem dX6_wrongLegs_50 : decode cX6_wrongLegs 50 = .ok (.aload_n 0, 1) := by decide +kernel
theorem dX6_wrongLegs_51 : decode cX6_wrongLegs 51 = .ok (.getfield 28, 3) := by decide +kernel
theorem dX6_wrongLegs_54 : decode cX6_wrongLegs 54 = .ok (.iload_n 1, 1) := by decide +kernel
theorem dX6_wrongLegs_55 : decode cX6_wrongLegs 55 = .ok (.iaload, 1) := by decide +kernel
theorem dX6_wrongLegs_56 : decode cX6_wrongLegs 56 = .ok (.if_icmp .ge 78, 3) := by decide +kernel
theorem dX6_wrongLegs_59 : decode cX6_wrongLegs 59 = .ok (.bipush 100, 2) := by decide +kernel
theorem dX6_wrongLegs_61 : decode cX6_wrongLegs 61 = .ok (.iload_n 1, 1) := by decide +kernel
theorem dX6_wrongLegs_62 : decode cX6_wrongLegs 62 = .ok (.imul, 1) := by decide +kernel
theorem dX6_wrongLegs_63 : decode cX6_wrongLegs 63 = .ok (.iload_n 3, 1) := by decide +kernel
theorem dX6_wrongLegs_64 : decode cX6_wrongLegs 64 = .ok (.iadd, 1) := by decide +kernel
theorem dX6_wrongLegs_65 : decode cX6_wrongLegs 65 = .ok (.istore 4, 2) := by decide +kernel
theorem dX6_wrongLegs_67 : decode cX6_wrongLegs 67 = .ok (.aload_n 0, 1) := by decide +kernel
theorem dX6_wrongLegs_68 : decode cX6_wrongLegs 68 = .ok (.getfield 31, 3) := by decide +kernel
theorem dX6_wrongLegs_71 : decode cX6_wrongLegs 71 = .ok (.iload 4, 2) := by decide +kernel
theorem dX6_wrongLegs_73 : decode cX6_wrongLegs 73 = .ok (.iaload, 1) := by decide +kernel
theorem dX6_wrongLegs_74 : decode cX6_wrongLegs 74 = .ok (.i2l, 1) := by decide +kernel
theorem dX6_wrongLegs_75 : decode cX6_wrongLegs 75 = .ok (.lconst 1, 1) := by decide +kernel
theorem dX6_wrongLegs_76 : decode cX6_wrongLegs 76 = .ok (.ldc2_w 88, 3) := by decide +kernel
theorem dX6_wrongLegs_79 : decode cX6_wrongLegs 79 = .ok (.invokestatic 47, 3) := by decide +kernel
theorem dX6_wrongLegs_82 : decode cX6_wrongLegs 82 = .ok (.ifCond .eq 43, 3) := by decide +kernel
theorem dX6_wrongLegs_85 : decode cX6_wrongLegs 85 = .ok (.aload_n 0, 1) := by decide +kernel
theorem dX6_wrongLegs_86 : decode cX6_wrongLegs 86 = .ok (.getfield 31, 3) := by decide +kernel
theorem dX6_wrongLegs_89 : decode cX6_wrongLegs 89 = .ok (.iload 4, 2) := by decide +kernel
theorem dX6_wrongLegs_91 : decode cX6_wrongLegs 91 = .ok (.iconst 1, 1) := by decide +kernel
theorem dX6_wrongLegs_92 : decode cX6_wrongLegs 92 = .ok (.iadd, 1) := by decide +kernel
theorem dX6_wrongLegs_93 : decode cX6_wrongLegs 93 = .ok (.iaload, 1) := by decide +kernel
theorem dX6_wrongLegs_94 : decode cX6_wrongLegs 94 = .ok (.i2l, 1) := by decide +kernel
theorem dX6_wrongLegs_95 : decode cX6_wrongLegs 95 = .ok (.lconst 0, 1) := by decide +kernel
theorem dX6_wrongLegs_96 : decode cX6_wrongLegs 96 = .ok (.ldc2_w 235, 3) := by decide +kernel
theorem dX6_wrongLegs_99 : decode cX6_wrongLegs 99 = .ok (.invokestatic 47, 3) := by decide +kernel
theorem dX6_wrongLegs_102 : decode cX6_wrongLegs 102 = .ok (.ifCond .eq 23, 3) := by decide +kernel
theorem dX6_wrongLegs_105 : decode cX6_wrongLegs 105 = .ok (.aload_n 0, 1) := by decide +kernel
theorem dX6_wrongLegs_106 : decode cX6_wrongLegs 106 = .ok (.getfield 31, 3) := by decide +kernel
theorem dX6_wrongLegs_109 : decode cX6_wrongLegs 109 = .ok (.iload 4, 2) := by decide +kernel
theorem dX6_wrongLegs_111 : decode cX6_wrongLegs 111 = .ok (.iconst 2, 1) := by decide +kernel
theorem dX6_wrongLegs_112 : decode cX6_wrongLegs 112 = .ok (.iadd, 1) := by decide +kernel
theorem dX6_wrongLegs_113 : decode cX6_wrongLegs 113 = .ok (.iaload, 1) := by decide +kernel
theorem dX6_wrongLegs_114 : decode cX6_wrongLegs 114 = .ok (.i2l, 1) := by decide +kernel
theorem dX6_wrongLegs_115 : decode cX6_wrongLegs 115 = .ok (.lconst 0, 1) := by decide +kernel
theorem dX6_wrongLegs_116 : decode cX6_wrongLegs 116 = .ok (.ldc2_w 237, 3) := by decide +kernel
theorem dX6_wrongLegs_119 : decode cX6_wrongLegs 119 = .ok (.invokestatic 47, 3) := by decide +kernel
theorem dX6_wrongLegs_122 : decode cX6_wrongLegs 122 = .ok (.ifCond .ne 6, 3) := by decide +kernel
theorem dX6_wrongLegs_125 : decode cX6_wrongLegs 125 = .ok (.bipush (-13), 2) := by decide +kernel
theorem dX6_wrongLegs_127 : decode cX6_wrongLegs 127 = .ok (.ireturn, 1) := by decide +kernel
theorem dX6_wrongLegs_128 : decode cX6_wrongLegs 128 = .ok (.iinc 3 3, 3) := by decide +kernel
theorem dX6_wrongLegs_131 : decode cX6_wrongLegs 131 = .ok (.goto (-82), 3) := by decide +kernel
theorem dX6_wrongLegs_134 : decode cX6_wrongLegs 134 = .ok (.iconst 0, 1) := by decide +kernel
theorem dX6_wrongLegs_135 : decode cX6_wrongLegs 135 = .ok (.ireturn, 1) := by decide +kernel
theorem dX6_legs_0 : decode cX6_legs 0 = .ok (.iload_n 1, 1) := by decide +kernel
theorem dX6_legs_1 : decode cX6_legs 1 = .ok (.invokestatic 94, 3) := by decide +kernel
theorem dX6_legs_4 : decode cX6_legs 4 = .ok (.ifCond .eq 15, 3) := by decide +kernel
theorem dX6_legs_7 : decode cX6_legs 7 = .ok (.iload_n 2, 1) := by decide +kernel
theorem dX6_legs_8 : decode cX6_legs 8 = .ok (.i2l, 1) := by decide +kernel
theorem dX6_legs_9 : decode cX6_legs 9 = .ok (.lconst 0, 1) := by decide +kernel
theorem dX6_legs_10 : decode cX6_legs 10 = .ok (.ldc2_w 206, 3) := by decide +kernel
theorem dX6_legs_13 : decode cX6_legs 13 = .ok (.invokestatic 47, 3) := by decide +kernel
theorem dX6_legs_16 : decode cX6_legs 16 = .ok (.ifCond .ne 5, 3) := by decide +kernel
theorem dX6_legs_19 : decode cX6_legs 19 = .ok (.iconst (-1), 1) := by decide +kernel
theorem dX6_legs_20 : decode cX6_legs 20 = .ok (.ireturn, 1) := by decide +kernel
theorem dX6_legs_21 : decode cX6_legs 21 = .ok (.aload_n 0, 1) := by decide +kernel
theorem dX6_legs_22 : decode cX6_legs 22 = .ok (.iload_n 1, 1) := by decide +kernel
theorem dX6_legs_23 : decode cX6_legs 23 = .ok (.invokevirtual 242, 3) := by decide +kernel
theorem dX6_legs_26 : decode cX6_legs 26 = .ok (.istore_n 3, 1) := by decide +kernel
theorem dX6_legs_27 : decode cX6_legs 27 = .ok (.iload_n 3, 1) := by decide +kernel
theorem dX6_legs_28 : decode cX6_legs 28 = .ok (.ifCond .ne 13, 3) := by decide +kernel
theorem dX6_legs_31 : decode cX6_legs 31 = .ok (.aload_n 0, 1) := by decide +kernel
theorem dX6_legs_32 : decode cX6_legs 32 = .ok (.invokevirtual 170, 3) := by decide +kernel
theorem dX6_legs_35 : decode cX6_legs 35 = .ok (.ifCond .ne 6, 3) := by decide +kernel
theorem dX6_legs_38 : decode cX6_legs 38 = .ok (.bipush (-3), 2) := by decide +kernel
theorem dX6_legs_40 : decode cX6_legs 40 = .ok (.istore_n 3, 1) := by decide +kernel
theorem dX6_legs_41 : decode cX6_legs 41 = .ok (.iload_n 3, 1) := by decide +kernel
theorem dX6_legs_42 : decode cX6_legs 42 = .ok (.ifCond .eq 5, 3) := by decide +kernel
theorem dX6_legs_45 : decode cX6_legs 45 = .ok (.iload_n 3, 1) := by decide +kernel
theorem dX6_legs_46 : decode cX6_legs 46 = .ok (.ireturn, 1) := by decide +kernel
theorem dX6_legs_47 : decode cX6_legs 47 = .ok (.aload_n 0, 1) := by decide +kernel
theorem dX6_legs_48 : decode cX6_legs 48 = .ok (.aload_n 0, 1) := by decide +kernel
theorem dX6_legs_49 : decode cX6_legs 49 = .ok (.invokevirtual 173, 3) := by decide +kernel
theorem dX6_legs_52 : decode cX6_legs 52 = .ok (.invokevirtual 176, 3) := by decide +kernel
theorem dX6_legs_55 : decode cX6_legs 55 = .ok (.iload_n 2, 1) := by decide +kernel
theorem dX6_legs_56 : decode cX6_legs 56 = .ok (.ifCond .ne 11, 3) := by decide +kernel
theorem dX6_legs_59 : decode cX6_legs 59 = .ok (.aload_n 0, 1) := by decide +kernel
theorem dX6_legs_60 : decode cX6_legs 60 = .ok (.iload_n 1, 1) := by decide +kernel
theorem dX6_legs_61 : decode cX6_legs 61 = .ok (.bipush (-4), 2) := by decide +kernel
theorem dX6_legs_63 : decode cX6_legs 63 = .ok (.invokevirtual 245, 3) := by decide +kernel
theorem dX6_legs_66 : decode cX6_legs 66 = .ok (.ireturn, 1) := by decide +kernel
theorem dX6_legs_67 : decode cX6_legs 67 = .ok (.iconst 0, 1) := by decide +kernel
theorem dX6_legs_68 : decode cX6_legs 68 = .ok (.istore 4, 2) := by decide +kernel
theorem dX6_legs_70 : decode cX6_legs 70 = .ok (.iconst 0, 1) := by decide +kernel
theorem dX6_legs_71 : decode cX6_legs 71 = .ok (.istore 5, 2) := by decide +kernel
theorem dX6_legs_73 : decode cX6_legs 73 = .ok (.iconst 0, 1) := by decide +kernel
theorem dX6_legs_74 : decode cX6_legs 74 = .ok (.istore 6, 2) := by decide +kernel
theorem dX6_legs_76 : decode cX6_legs 76 = .ok (.iconst 0, 1) := by decide +kernel
theorem dX6_legs_77 : decode cX6_legs 77 = .ok (.istore 7, 2) := by decide +kernel
theorem dX6_legs_79 : decode cX6_legs 79 = .ok (.iload 7, 2) := by decide +kernel
theorem dX6_legs_81 : decode cX6_legs 81 = .ok (.aload_n 0, 1) := by decide +kernel
theorem dX6_legs_82 : decode cX6_legs 82 = .ok (.getfield 28, 3) := by decide +kernel
theorem dX6_legs_85 : decode cX6_legs 85 = .ok (.iload_n 1, 1) := by decide +kernel
theorem dX6_legs_86 : decode cX6_legs 86 = .ok (.iaload, 1) := by decide +kernel
theorem dX6_legs_87 : decode cX6_legs 87 = .ok (.iconst 3, 1) := by decide +kernel
theorem dX6_legs_88 : decode cX6_legs 88 = .ok (.idiv, 1) := by decide +kernel
theorem dX6_legs_89 : decode cX6_legs 89 = .ok (.if_icmp .ge 60, 3) := by decide +kernel
theorem dX6_legs_92 : decode cX6_legs 92 = .ok (.iload 6, 2) := by decide +kernel
theorem dX6_legs_94 : decode cX6_legs 94 = .ok (.aload_n 0, 1) := by decide +kernel
theorem dX6_legs_95 : decode cX6_legs 95 = .ok (.getfield 31, 3) := by decide +kernel
theorem dX6_legs_98 : decode cX6_legs 98 = .ok (.bipush 100, 2) := by decide +kernel
theorem dX6_legs_100 : decode cX6_legs 100 = .ok (.iload_n 1, 1) := by decide +kernel
theorem dX6_legs_101 : decode cX6_legs 101 = .ok (.imul, 1) := by decide +kernel
theorem dX6_legs_102 : decode cX6_legs 102 = .ok (.iconst 3, 1) := by decide +kernel
theorem dX6_legs_103 : decode cX6_legs 103 = .ok (.iload 7, 2) := by decide +kernel
theorem dX6_legs_105 : decode cX6_legs 105 = .ok (.imul, 1) := by decide +kernel
theorem dX6_legs_106 : decode cX6_legs 106 = .ok (.iadd, 1) := by decide +kernel
theorem dX6_legs_107 : decode cX6_legs 107 = .ok (.iaload, 1) := by decide +kernel
theorem dX6_legs_108 : decode cX6_legs 108 = .ok (.iadd, 1) := by decide +kernel
theorem dX6_legs_109 : decode cX6_legs 109 = .ok (.istore 6, 2) := by decide +kernel
theorem dX6_legs_111 : decode cX6_legs 111 = .ok (.aload_n 0, 1) := by decide +kernel
theorem dX6_legs_112 : decode cX6_legs 112 = .ok (.iload_n 1, 1) := by decide +kernel
theorem dX6_legs_113 : decode cX6_legs 113 = .ok (.iload 7, 2) := by decide +kernel
theorem dX6_legs_115 : decode cX6_legs 115 = .ok (.invokevirtual 245, 3) := by decide +kernel
theorem dX6_legs_118 : decode cX6_legs 118 = .ok (.istore 8, 2) := by decide +kernel
theorem dX6_legs_120 : decode cX6_legs 120 = .ok (.iload 7, 2) := by decide +kernel
theorem dX6_legs_122 : decode cX6_legs 122 = .ok (.ifCond .le 13, 3) := by decide +kernel
theorem dX6_legs_125 : decode cX6_legs 125 = .ok (.iload 8, 2) := by decide +kernel
theorem dX6_legs_127 : decode cX6_legs 127 = .ok (.iload 5, 2) := by decide +kernel
theorem dX6_legs_129 : decode cX6_legs 129 = .ok (.if_icmp .lt 6, 3) := by decide +kernel
theorem dX6_legs_132 : decode cX6_legs 132 = .ok (.goto 11, 3) := by decide +kernel
theorem dX6_legs_135 : decode cX6_legs 135 = .ok (.iload 7, 2) := by decide +kernel
theorem dX6_legs_137 : decode cX6_legs 137 = .ok (.istore 4, 2) := by decide +kernel
theorem dX6_legs_139 : decode cX6_legs 139 = .ok (.iload 8, 2) := by decide +kernel
theorem dX6_legs_141 : decode cX6_legs 141 = .ok (.istore 5, 2) := by decide +kernel
theorem dX6_legs_143 : decode cX6_legs 143 = .ok (.iinc 7 1, 3) := by decide +kernel
theorem dX6_legs_146 : decode cX6_legs 146 = .ok (.goto (-67), 3) := by decide +kernel
theorem dX6_legs_149 : decode cX6_legs 149 = .ok (.iload_n 2, 1) := by decide +kernel
theorem dX6_legs_150 : decode cX6_legs 150 = .ok (.iconst 1, 1) := by decide +kernel
theorem dX6_legs_151 : decode cX6_legs 151 = .ok (.if_icmp .ne 8, 3) := by decide +kernel
theorem dX6_legs_154 : decode cX6_legs 154 = .ok (.iload 6, 2) := by decide +kernel
theorem dX6_legs_156 : decode cX6_legs 156 = .ok (.goto 5, 3) := by decide +kernel
theorem dX6_legs_159 : decode cX6_legs 159 = .ok (.iload 4, 2) := by decide +kernel
theorem dX6_legs_161 : decode cX6_legs 161 = .ok (.ireturn, 1) := by decide +kernel
theorem dX5_why_0 : decode cX5_why 0 = .ok (.aload_n 0, 1) := by decide +kernel
theorem dX5_why_1 : decode cX5_why 1 = .ok (.getfield 10, 3) := by decide +kernel
theorem dX5_why_4 : decode cX5_why 4 = .ok (.iload_n 1, 1) := by decide +kernel
theorem dX5_why_5 : decode cX5_why 5 = .ok (.invokevirtual 66, 3) := by decide +kernel
theorem dX5_why_8 : decode cX5_why 8 = .ok (.ifCond .ne 5, 3) := by decide +kernel
theorem dX5_why_11 : decode cX5_why 11 = .ok (.iconst (-1), 1) := by decide +kernel
theorem dX5_why_12 : decode cX5_why 12 = .ok (.ireturn, 1) := by decide +kernel
theorem dX5_why_13 : decode cX5_why 13 = .ok (.aload_n 0, 1) := by decide +kernel
theorem dX5_why_14 : decode cX5_why 14 = .ok (.getfield 10, 3) := by decide +kernel
theorem dX5_why_17 : decode cX5_why 17 = .ok (.getfield 99, 3) := by decide +kernel
theorem dX5_why_20 : decode cX5_why 20 = .ok (.iload_n 1, 1) := by decide +kernel
theorem dX5_why_21 : decode cX5_why 21 = .ok (.if_icmp .eq 6, 3) := by decide +kernel
theorem dX5_why_24 : decode cX5_why 24 = .ok (.bipush (-4), 2) := by decide +kernel
theorem dX5_why_26 : decode cX5_why 26 = .ok (.ireturn, 1) := by decide +kernel
theorem dX5_why_27 : decode cX5_why 27 = .ok (.aload_n 0, 1) := by decide +kernel
theorem dX5_why_28 : decode cX5_why 28 = .ok (.getfield 10, 3) := by decide +kernel
theorem dX5_why_31 : decode cX5_why 31 = .ok (.getfield 70, 3) := by decide +kernel
theorem dX5_why_34 : decode cX5_why 34 = .ok (.iload_n 1, 1) := by decide +kernel
theorem dX5_why_35 : decode cX5_why 35 = .ok (.aaload, 1) := by decide +kernel
theorem dX5_why_36 : decode cX5_why 36 = .ok (.astore_n 2, 1) := by decide +kernel
theorem dX5_why_37 : decode cX5_why 37 = .ok (.aload_n 2, 1) := by decide +kernel
theorem dX5_why_38 : decode cX5_why 38 = .ok (.getfield 96, 3) := by decide +kernel
theorem dX5_why_41 : decode cX5_why 41 = .ok (.ifCond .ne 5, 3) := by decide +kernel
theorem dX5_why_44 : decode cX5_why 44 = .ok (.iconst 0, 1) := by decide +kernel
theorem dX5_why_45 : decode cX5_why 45 = .ok (.ireturn, 1) := by decide +kernel
theorem dX5_why_46 : decode cX5_why 46 = .ok (.aload_n 0, 1) := by decide +kernel
theorem dX5_why_47 : decode cX5_why 47 = .ok (.getfield 10, 3) := by decide +kernel
theorem dX5_why_50 : decode cX5_why 50 = .ok (.getfield 222, 3) := by decide +kernel
theorem dX5_why_53 : decode cX5_why 53 = .ok (.aload_n 2, 1) := by decide +kernel
theorem dX5_why_54 : decode cX5_why 54 = .ok (.getfield 90, 3) := by decide +kernel
theorem dX5_why_57 : decode cX5_why 57 = .ok (.if_icmp .gt 7, 3) := by decide +kernel
theorem dX5_why_60 : decode cX5_why 60 = .ok (.iconst 1, 1) := by decide +kernel
theorem dX5_why_61 : decode cX5_why 61 = .ok (.goto 4, 3) := by decide +kernel
theorem dX5_why_64 : decode cX5_why 64 = .ok (.iconst 2, 1) := by decide +kernel
theorem dX5_why_65 : decode cX5_why 65 = .ok (.ireturn, 1) := by decide +kernel
theorem dX6_why_0 : decode cX6_why 0 = .ok (.aload_n 0, 1) := by decide +kernel
theorem dX6_why_1 : decode cX6_why 1 = .ok (.iload_n 1, 1) := by decide +kernel
theorem dX6_why_2 : decode cX6_why 2 = .ok (.invokevirtual 117, 3) := by decide +kernel
theorem dX6_why_5 : decode cX6_why 5 = .ok (.ifCond .ne 7, 3) := by decide +kernel
theorem dX6_why_8 : decode cX6_why 8 = .ok (.iconst (-1), 1) := by decide +kernel
theorem dX6_why_9 : decode cX6_why 9 = .ok (.goto 23, 3) := by decide +kernel
theorem dX6_why_12 : decode cX6_why 12 = .ok (.aload_n 0, 1) := by decide +kernel
theorem dX6_why_13 : decode cX6_why 13 = .ok (.iload_n 1, 1) := by decide +kernel
theorem dX6_why_14 : decode cX6_why 14 = .ok (.iconst 4, 1) := by decide +kernel
theorem dX6_why_15 : decode cX6_why 15 = .ok (.invokevirtual 111, 3) := by decide +kernel
theorem dX6_why_18 : decode cX6_why 18 = .ok (.ifCond .ne 8, 3) := by decide +kernel
theorem dX6_why_21 : decode cX6_why 21 = .ok (.bipush (-4), 2) := by decide +kernel
theorem dX6_why_23 : decode cX6_why 23 = .ok (.goto 9, 3) := by decide +kernel
theorem dX6_why_26 : decode cX6_why 26 = .ok (.aload_n 0, 1) := by decide +kernel
theorem dX6_why_27 : decode cX6_why 27 = .ok (.iload_n 1, 1) := by decide +kernel
theorem dX6_why_28 : decode cX6_why 28 = .ok (.iconst 5, 1) := by decide +kernel
theorem dX6_why_29 : decode cX6_why 29 = .ok (.invokevirtual 111, 3) := by decide +kernel
theorem dX6_why_32 : decode cX6_why 32 = .ok (.ireturn, 1) := by decide +kernel
theorem dX5_caravan_0 : decode cX5_caravan 0 = .ok (.iload_n 1, 1) := by decide +kernel
theorem dX5_caravan_1 : decode cX5_caravan 1 = .ok (.iconst 1, 1) := by decide +kernel
theorem dX5_caravan_2 : decode cX5_caravan 2 = .ok (.bipush 9, 2) := by decide +kernel
theorem dX5_caravan_4 : decode cX5_caravan 4 = .ok (.invokestatic 129, 3) := by decide +kernel
theorem dX5_caravan_7 : decode cX5_caravan 7 = .ok (.ifCond .ne 6, 3) := by decide +kernel
theorem dX5_caravan_10 : decode cX5_caravan 10 = .ok (.ldc 168, 2) := by decide +kernel
theorem dX5_caravan_12 : decode cX5_caravan 12 = .ok (.ireturn, 1) := by decide +kernel
theorem dX5_caravan_13 : decode cX5_caravan 13 = .ok (.aload_n 0, 1) := by decide +kernel
theorem dX5_caravan_14 : decode cX5_caravan 14 = .ok (.getfield 10, 3) := by decide +kernel
theorem dX5_caravan_17 : decode cX5_caravan 17 = .ok (.getfield 190, 3) := by decide +kernel
theorem dX5_caravan_20 : decode cX5_caravan 20 = .ok (.istore_n 2, 1) := by decide +kernel
theorem dX5_caravan_21 : decode cX5_caravan 21 = .ok (.iconst 1, 1) := by decide +kernel
theorem dX5_caravan_22 : decode cX5_caravan 22 = .ok (.istore_n 3, 1) := by decide +kernel
theorem dX5_caravan_23 : decode cX5_caravan 23 = .ok (.iload_n 3, 1) := by decide +kernel
theorem dX5_caravan_24 : decode cX5_caravan 24 = .ok (.iload_n 1, 1) := by decide +kernel
theorem dX5_caravan_25 : decode cX5_caravan 25 = .ok (.if_icmp .ge 36, 3) := by decide +kernel
theorem dX5_caravan_28 : decode cX5_caravan 28 = .ok (.iload_n 2, 1) := by decide +kernel
theorem dX5_caravan_29 : decode cX5_caravan 29 = .ok (.aload_n 0, 1) := by decide +kernel
theorem dX5_caravan_30 : decode cX5_caravan 30 = .ok (.getfield 10, 3) := by decide +kernel
theorem dX5_caravan_33 : decode cX5_caravan 33 = .ok (.getfield 106, 3) := by decide +kernel
theorem dX5_caravan_36 : decode cX5_caravan 36 = .ok (.iconst 4, 1) := by decide +kernel
theorem dX5_caravan_37 : decode cX5_caravan 37 = .ok (.iaload, 1) := by decide +kernel
theorem dX5_caravan_38 : decode cX5_caravan 38 = .ok (.bipush 8, 2) := by decide +kernel
theorem dX5_caravan_40 : decode cX5_caravan 40 = .ok (.iadd, 1) := by decide +kernel
theorem dX5_caravan_41 : decode cX5_caravan 41 = .ok (.imul, 1) := by decide +kernel
theorem dX5_caravan_42 : decode cX5_caravan 42 = .ok (.bipush 10, 2) := by decide +kernel
theorem dX5_caravan_44 : decode cX5_caravan 44 = .ok (.idiv, 1) := by decide +kernel
theorem dX5_caravan_45 : decode cX5_caravan 45 = .ok (.sipush (-999), 3) := by decide +kernel
theorem dX5_caravan_48 : decode cX5_caravan 48 = .ok (.sipush 999, 3) := by decide +kernel
theorem dX5_caravan_51 : decode cX5_caravan 51 = .ok (.invokestatic 225, 3) := by decide +kernel
theorem dX5_caravan_54 : decode cX5_caravan 54 = .ok (.istore_n 2, 1) := by decide +kernel
theorem dX5_caravan_55 : decode cX5_caravan 55 = .ok (.iinc 3 1, 3) := by decide +kernel
theorem dX5_caravan_58 : decode cX5_caravan 58 = .ok (.goto (-35), 3) := by decide +kernel
theorem dX5_caravan_61 : decode cX5_caravan 61 = .ok (.iload_n 2, 1) := by decide +kernel
theorem dX5_caravan_62 : decode cX5_caravan 62 = .ok (.ireturn, 1) := by decide +kernel
theorem dX6_caravan_0 : decode cX6_caravan 0 = .ok (.iload_n 1, 1) := by decide +kernel
theorem dX6_caravan_1 : decode cX6_caravan 1 = .ok (.i2l, 1) := by decide +kernel
theorem dX6_caravan_2 : decode cX6_caravan 2 = .ok (.lconst 1, 1) := by decide +kernel
theorem dX6_caravan_3 : decode cX6_caravan 3 = .ok (.ldc2_w 237, 3) := by decide +kernel
theorem dX6_caravan_6 : decode cX6_caravan 6 = .ok (.invokestatic 47, 3) := by decide +kernel
theorem dX6_caravan_9 : decode cX6_caravan 9 = .ok (.ifCond .ne 6, 3) := by decide +kernel
theorem dX6_caravan_12 : decode cX6_caravan 12 = .ok (.ldc 213, 2) := by decide +kernel
theorem dX6_caravan_14 : decode cX6_caravan 14 = .ok (.ireturn, 1) := by decide +kernel
theorem dX6_caravan_15 : decode cX6_caravan 15 = .ok (.aload_n 0, 1) := by decide +kernel
theorem dX6_caravan_16 : decode cX6_caravan 16 = .ok (.getfield 9, 3) := by decide +kernel
theorem dX6_caravan_19 : decode cX6_caravan 19 = .ok (.iconst 3, 1) := by decide +kernel
theorem dX6_caravan_20 : decode cX6_caravan 20 = .ok (.iaload, 1) := by decide +kernel
theorem dX6_caravan_21 : decode cX6_caravan 21 = .ok (.istore_n 2, 1) := by decide +kernel
theorem dX6_caravan_22 : decode cX6_caravan 22 = .ok (.iconst 1, 1) := by decide +kernel
theorem dX6_caravan_23 : decode cX6_caravan 23 = .ok (.istore_n 3, 1) := by decide +kernel
theorem dX6_caravan_24 : decode cX6_caravan 24 = .ok (.iload_n 3, 1) := by decide +kernel
theorem dX6_caravan_25 : decode cX6_caravan 25 = .ok (.iload_n 1, 1) := by decide +kernel
theorem dX6_caravan_26 : decode cX6_caravan 26 = .ok (.if_icmp .ge 31, 3) := by decide +kernel
theorem dX6_caravan_29 : decode cX6_caravan 29 = .ok (.iload_n 2, 1) := by decide +kernel
theorem dX6_caravan_30 : decode cX6_caravan 30 = .ok (.aload_n 0, 1) := by decide +kernel
theorem dX6_caravan_31 : decode cX6_caravan 31 = .ok (.getfield 9, 3) := by decide +kernel
theorem dX6_caravan_34 : decode cX6_caravan 34 = .ok (.bipush 9, 2) := by decide +kernel
theorem dX6_caravan_36 : decode cX6_caravan 36 = .ok (.iaload, 1) := by decide +kernel
theorem dX6_caravan_37 : decode cX6_caravan 37 = .ok (.bipush 8, 2) := by decide +kernel
theorem dX6_caravan_39 : decode cX6_caravan 39 = .ok (.iadd, 1) := by decide +kernel
theorem dX6_caravan_40 : decode cX6_caravan 40 = .ok (.imul, 1) := by decide +kernel
theorem dX6_caravan_41 : decode cX6_caravan 41 = .ok (.bipush 10, 2) := by decide +kernel
theorem dX6_caravan_43 : decode cX6_caravan 43 = .ok (.idiv, 1) := by decide +kernel
theorem dX6_caravan_44 : decode cX6_caravan 44 = .ok (.sipush 999, 3) := by decide +kernel
theorem dX6_caravan_47 : decode cX6_caravan 47 = .ok (.invokestatic 223, 3) := by decide +kernel
theorem dX6_caravan_50 : decode cX6_caravan 50 = .ok (.istore_n 2, 1) := by decide +kernel
theorem dX6_caravan_51 : decode cX6_caravan 51 = .ok (.iinc 3 1, 3) := by decide +kernel
theorem dX6_caravan_54 : decode cX6_caravan 54 = .ok (.goto (-30), 3) := by decide +kernel
theorem dX6_caravan_57 : decode cX6_caravan 57 = .ok (.iload_n 2, 1) := by decide +kernel
theorem dX6_caravan_58 : decode cX6_caravan 58 = .ok (.ireturn, 1) := by decide +kernel
section WALK
variable {p : Program} {l : Launch} {e : Env} {s : State} {m : MethodId} {args : Array Value} {below : List Frame} {meth : Method} {c : Code} {G : GG}

def j_X5_legToSlow_42 (k12 : Mem → Nat → Int32 → Int32 → Int32 → Prop) (post : Int32 → Mem → Prop) (M : Mem) (a1 : Nat) (x2 : Int32) (x3 : Int32) (x4 : Int32) : Prop := k12 M a1 x2 x3 (x4 + (1 : Int32))
def b_X5_legToSlow_12 (k12 : Mem → Nat → Int32 → Int32 → Int32 → Prop) (post : Int32 → Mem → Prop) (M : Mem) (a1 : Nat) (x2 : Int32) (x3 : Int32) (x4 : Int32) : Prop := q_X3_legsHeld M a1 (fun r1 M2 => (r1 ≤ x4 → (post x2 M2)) ∧ (¬ (r1 ≤ x4) → (q_X5_greatestOfLegs M2 a1 x4 (fun r4 M5 => (x3 ≤ r4 → (j_X5_legToSlow_42 k12 post M5 a1 x2 x3 x4)) ∧ (¬ (x3 ≤ r4) → (j_X5_legToSlow_42 k12 post M5 a1 x4 r4 x4))))))
def lp_X5_legToSlow_12 (post : Int32 → Mem → Prop) : Nat → Mem → Nat → Int32 → Int32 → Int32 → Prop
  | 0 => fun _ _ _ _ _ => False
  | n + 1 => fun M a1 x2 x3 x4 => b_X5_legToSlow_12 (lp_X5_legToSlow_12 post n) post M a1 x2 x3 x4
def q_X5_legToSlow (M : Mem) (a1 : Nat) (post : Int32 → Mem → Prop) : Prop := q_X5_greatestOfLegs M a1 (0 : Int32) (fun r7 M8 => ∃ n, lp_X5_legToSlow_12 post n M8 a1 (0 : Int32) r7 (1 : Int32))
set_option maxHeartbeats 4000000 in
set_option maxRecDepth 100000 in
theorem t_X5_legToSlow_42 (C : Cx G p s m args meth c RX5 cX5_legToSlow 6 (some .int)) {post : Int32 → Mem → Prop} {k12 : Mem → Nat → Int32 → Int32 → Int32 → Prop} (hk12 : ∀ (M : Mem) (a1 : Nat) (x2 : Int32) (x3 : Int32) (x4 : Int32) (H : Heap) (locs : List Loc) (ls : Array Slot), (14 ≤ a1 ∧ a1 < 22) → Wd G s M H locs → lv_has ls 6 [(0, .ref (ga G 0)), (1, .ref (ga G a1)), (2, .int x2), (3, .int x3), (4, .int x4)] → k12 M a1 x2 x3 x4 → W p l e (rmk 6) s m args below meth c H locs 0 0 (MQ below (va_Qi post (Qw G) (Af G s.heap.size)) args s 0 0 (Af G s.heap.size)) (F0 m 12 ls [])) (M : Mem) (a1 : Nat) (x2 : Int32) (x3 : Int32) (x4 : Int32) {H : Heap} {locs : List Loc} {ls : Array Slot} (ha1 : 14 ≤ a1 ∧ a1 < 22) (w : Wd G s M H locs) (hl : lv_has ls 6 [(0, .ref (ga G 0)), (1, .ref (ga G a1)), (2, .int x2), (3, .int x3), (4, .int x4)]) (h : j_X5_legToSlow_42 k12 post M a1 x2 x3 x4) : W p l e (rmk 6) s m args below meth c H locs 0 0 (MQ below (va_Qi post (Qw G) (Af G s.heap.size)) args s 0 0 (Af G s.heap.size)) (F0 m 42 ls []) := by
  have hx := C.1.1
  have hb := C.1.2.1
  unfold j_X5_legToSlow_42 at h
  refine lv_iinc (v := (x4 + (1 : Int32))) (lv' := [(4, .int (x4 + (1 : Int32))), (0, .ref (ga G 0)), (1, .ref (ga G a1)), (2, .int x2), (3, .int x3)]) hx hb dX5_legToSlow_42 hl (k := 4) rfl rfl (by decide) rfl (fun ls hl => ?_)
  refine lv_goto (tgt := 12) hx hb dX5_legToSlow_45 (by decide) ?_
  exact hk12 M a1 x2 x3 (x4 + (1 : Int32)) _ _ _ ha1 w (lv_sub hl [1, 2, 3, 4, 0] rfl) h
set_option maxHeartbeats 4000000 in
set_option maxRecDepth 100000 in
theorem t_X5_legToSlow_12 (C : Cx G p s m args meth c RX5 cX5_legToSlow 6 (some .int)) {post : Int32 → Mem → Prop} : ∀ (n : Nat) (M : Mem) (a1 : Nat) (x2 : Int32) (x3 : Int32) (x4 : Int32) {H : Heap} {locs : List Loc} {ls : Array Slot} (ha1 : 14 ≤ a1 ∧ a1 < 22) (w : Wd G s M H locs) (hl : lv_has ls 6 [(0, .ref (ga G 0)), (1, .ref (ga G a1)), (2, .int x2), (3, .int x3), (4, .int x4)]) (h : lp_X5_legToSlow_12 post n M a1 x2 x3 x4), W p l e (rmk 6) s m args below meth c H locs 0 0 (MQ below (va_Qi post (Qw G) (Af G s.heap.size)) args s 0 0 (Af G s.heap.size)) (F0 m 12 ls []) := by
  have hx := C.1.1
  have hb := C.1.2.1
  intro n9
  induction n9 with
  | zero => intro M a1 x2 x3 x4 H locs ls ha1 w hl h; exact absurd h id
  | succ n9 ih9 =>
    intro M a1 x2 x3 x4 H locs ls ha1 w hl h
    have hk12 : ∀ (M : Mem) (a1 : Nat) (x2 : Int32) (x3 : Int32) (x4 : Int32) (H : Heap) (locs : List Loc) (ls : Array Slot), (14 ≤ a1 ∧ a1 < 22) → Wd G s M H locs → lv_has ls 6 [(0, .ref (ga G 0)), (1, .ref (ga G a1)), (2, .int x2), (3, .int x3), (4, .int x4)] → lp_X5_legToSlow_12 post n9 M a1 x2 x3 x4 → W p l e (rmk 6) s m args below meth c H locs 0 0 (MQ below (va_Qi post (Qw G) (Af G s.heap.size)) args s 0 0 (Af G s.heap.size)) (F0 m 12 ls []) := fun M a1 x2 x3 x4 H locs ls ha1 w hl h => ih9 M a1 x2 x3 x4 ha1 w hl h
    replace h : b_X5_legToSlow_12 (lp_X5_legToSlow_12 post n9) post M a1 x2 x3 x4 := h
    unfold b_X5_legToSlow_12 at h
    refine lv_iload hx hb dX5_legToSlow_12 (lv_at hl 4 rfl) ?_
    refine lv_aload_n hx hb dX5_legToSlow_14 rfl (lv_at hl 1 rfl) ?_
    refine end_i w (run_VN (As := []) C w hl.1 (c_X3_legsHeld l G C.2.2.1 _ _ a1 ha1 _ h) kw_32_14 kw_2_11 kn_77 kw_32_12 kw_32_13 hd_X3_legsHeld ⟨by decide, by decide⟩ (w.recv C (i := a1) (by omega) (pE_3 ha1) rfl) rfl (Nat.le_of_ble_eq_true rfl) dX5_legToSlow_15) (fun r1 M2 H locs h w => ?_)
    refine lv_icmp_ge (tgt := 48) hx hb dX5_legToSlow_18 (by decide) (fun c3 => ?_) (fun c3 => ?_)
    · replace h := h.1 c3
      refine lv_iload_n hx hb dX5_legToSlow_48 rfl (lv_at hl 2 rfl) ?_
      exact ret_i C w h dX5_legToSlow_49
    replace h := h.2 c3
    refine lv_aload_n hx hb dX5_legToSlow_21 rfl (lv_at hl 0 rfl) ?_
    refine lv_aload_n hx hb dX5_legToSlow_22 rfl (lv_at hl 1 rfl) ?_
    refine lv_iload hx hb dX5_legToSlow_23 (lv_at hl 4 rfl) ?_
    refine end_i w (run_V (As := [.ref (ga G a1), .int x4]) C w hl.1 (c_X5_greatestOfLegs l G C.2.2.1 _ _ a1 x4 ha1 _ h) kw_32_11 kw_1_2 kw_32_8 kw_32_9 kw_32_10 hd_X5_greatestOfLegs ⟨by decide, by decide⟩ (w.recv C (i := 0) (by decide) (pE_5) rfl) rfl (Nat.le_of_ble_eq_true rfl) dX5_legToSlow_25) (fun r4 M5 H locs h w => ?_)
    refine lv_istore (lv' := [(5, .int r4), (0, .ref (ga G 0)), (1, .ref (ga G a1)), (2, .int x2), (3, .int x3), (4, .int x4)]) hx hb dX5_legToSlow_28 hl (by decide) rfl (fun ls hl => ?_)
    refine lv_iload hx hb dX5_legToSlow_30 (lv_at hl 0 rfl) ?_
    refine lv_iload_n hx hb dX5_legToSlow_32 rfl (lv_at hl 4 rfl) ?_
    refine lv_icmp_ge (tgt := 42) hx hb dX5_legToSlow_33 (by decide) (fun c6 => ?_) (fun c6 => ?_)
    · replace h := h.1 c6
      exact t_X5_legToSlow_42 C hk12 M5 a1 x2 x3 x4 ha1 w (lv_sub hl [1, 2, 3, 4, 5] rfl) h
    replace h := h.2 c6
    refine lv_iload hx hb dX5_legToSlow_36 (lv_at hl 5 rfl) ?_
    refine lv_istore_n (lv' := [(2, .int x4), (5, .int r4), (0, .ref (ga G 0)), (1, .ref (ga G a1)), (3, .int x3), (4, .int x4)]) hx hb dX5_legToSlow_38 rfl hl (by decide) rfl (fun ls hl => ?_)
    refine lv_iload hx hb dX5_legToSlow_39 (lv_at hl 1 rfl) ?_
    refine lv_istore_n (lv' := [(3, .int r4), (2, .int x4), (5, .int r4), (0, .ref (ga G 0)), (1, .ref (ga G a1)), (4, .int x4)]) hx hb dX5_legToSlow_41 rfl hl (by decide) rfl (fun ls hl => ?_)
    exact t_X5_legToSlow_42 C hk12 M5 a1 x4 r4 x4 ha1 w (lv_sub hl [3, 4, 1, 0, 5] rfl) h
set_option maxHeartbeats 4000000 in
set_option maxRecDepth 100000 in
theorem c_X5_legToSlow (l : Launch) (G : GG) (hG : Ag G) (sz : Nat) (M : Mem) (a1 : Nat) (ha1 : 14 ≤ a1 ∧ a1 < 22) (post : Int32 → Mem → Prop) (h : q_X5_legToSlow M a1 post) : Met l yX5_legToSlow (Cond.code yX5_legToSlow cX5_legToSlow 6 (some .int) :: wsL_law) (rmk 6) (va_Pc [.ref (ga G 0), .ref (ga G a1)] (Pw G sz M)) (va_Qi post (Qw G) (Af G sz)) 0 0 (Af G sz) := by
  refine Met.ofW (cc := cX5_legToSlow) (maxL := 6) (ret := (some .int)) (by decide) rfl ?_
  intro p e s m args below meth c s₁ B hml hv
  obtain ⟨rfl, hsz, hE, hP⟩ := hv
  subst hsz
  have C := Cx.of (own := RX5) hG hE rfl hml B
  have w : Wd G s M s.heap [] := ⟨hP, va_S.rf⟩
  have hl := lv_entry [.ref (ga G 0), .ref (ga G a1)] (n := 6) (Nat.le_of_ble_eq_true rfl)
  rw [lg_entry_eq]
  generalize (lg_sl [.ref (ga G 0), .ref (ga G a1)] ++ List.replicate (6 - (lg_sl [.ref (ga G 0), .ref (ga G a1)]).length) Slot.unset).toArray = ls at hl ⊢
  have hl : lv_has ls 6 [(0, .ref (ga G 0)), (1, .ref (ga G a1))] := hl
  have hx := C.1.1
  have hb := C.1.2.1
  show W p l e (rmk 6) s m _ below meth c s.heap [] 0 0 _ _
  unfold q_X5_legToSlow at h
  refine lv_iconst (v := 0) hx hb dX5_legToSlow_0 (by decide) ?_
  refine lv_istore_n (lv' := [(2, .int (0 : Int32)), (0, .ref (ga G 0)), (1, .ref (ga G a1))]) hx hb dX5_legToSlow_1 rfl hl (by decide) rfl (fun ls hl => ?_)
  refine lv_aload_n hx hb dX5_legToSlow_2 rfl (lv_at hl 1 rfl) ?_
  refine lv_aload_n hx hb dX5_legToSlow_3 rfl (lv_at hl 2 rfl) ?_
  refine lv_iconst (v := 0) hx hb dX5_legToSlow_4 (by decide) ?_
  refine end_i w (run_V (As := [.ref (ga G a1), .int (0 : Int32)]) C w hl.1 (c_X5_greatestOfLegs l G C.2.2.1 _ _ a1 (0 : Int32) ha1 _ h) kw_32_11 kw_1_2 kw_32_8 kw_32_9 kw_32_10 hd_X5_greatestOfLegs ⟨by decide, by decide⟩ (w.recv C (i := 0) (by decide) (pE_5) rfl) rfl (Nat.le_of_ble_eq_true rfl) dX5_legToSlow_5) (fun r7 M8 H locs h w => ?_)
  refine lv_istore_n (lv' := [(3, .int r7), (2, .int (0 : Int32)), (0, .ref (ga G 0)), (1, .ref (ga G a1))]) hx hb dX5_legToSlow_8 rfl hl (by decide) rfl (fun ls hl => ?_)
  refine lv_iconst (v := 1) hx hb dX5_legToSlow_9 (by decide) ?_
  refine lv_istore (lv' := [(4, .int (1 : Int32)), (3, .int r7), (2, .int (0 : Int32)), (0, .ref (ga G 0)), (1, .ref (ga G a1))]) hx hb dX5_legToSlow_10 hl (by decide) rfl (fun ls hl => ?_)
  obtain ⟨n, h⟩ := h
  exact t_X5_legToSlow_12 C n M8 a1 (0 : Int32) r7 (1 : Int32) ha1 w (lv_sub hl [3, 4, 2, 1, 0] rfl) h
def q_X5_legs (M : Mem) (x1 : Int32) (x2 : Int32) (post : Int32 → Mem → Prop) : Prop := q_X5_isWithin M x2 (0 : Int32) (2 : Int32) (fun r1 M2 => (r1 = 0 → (post (-1 : Int32) M2)) ∧ (¬ (r1 = 0) → (q_X5_refusalOfBytes M2 x1 (fun r4 M5 => (0 ≤ r4 → (vp_in x1 8 ∧ (q_X3_holdsLegs M5 (14 + x1.toNatClampNeg) (fun r8 M9 => (r8 = 0 → (post (-13 : Int32) M9)) ∧ (¬ (r8 = 0) → (q_X5_layLine M9  (fun r11 M12 => (r11 = 0 → (post (-3 : Int32) M12)) ∧ (¬ (r11 = 0) → ((x2 = (0 : Int32) → (q_X5_greatestOfLegs M12 (14 + x1.toNatClampNeg) (-4 : Int32) (fun r15 M16 => post r15 M16))) ∧ (¬ x2 = (0 : Int32) → ((x2 = (1 : Int32) → (q_X5_hoursOfLegs M12 (14 + x1.toNatClampNeg) (fun r18 M19 => post r18 M19))) ∧ (¬ x2 = (1 : Int32) → (q_X5_legToSlow M12 (14 + x1.toNatClampNeg) (fun r20 M21 => post r20 M21)))))))))))))) ∧ (¬ (0 ≤ r4) → (post r4 M5))))))
set_option maxHeartbeats 4000000 in
set_option maxRecDepth 100000 in
theorem c_X5_legs (l : Launch) (G : GG) (hG : Ag G) (sz : Nat) (M : Mem) (x1 : Int32) (x2 : Int32) (post : Int32 → Mem → Prop) (h : q_X5_legs M x1 x2 post) : Met l yX5_legs (Cond.code yX5_legs cX5_legs 5 (some .int) :: wsL_law) (rmk 7) (va_Pc [.ref (ga G 0), .int x1, .int x2] (Pw G sz M)) (va_Qi post (Qw G) (Af G sz)) 0 0 (Af G sz) := by
  refine Met.ofW (cc := cX5_legs) (maxL := 5) (ret := (some .int)) (by decide) rfl ?_
  intro p e s m args below meth c s₁ B hml hv
  obtain ⟨rfl, hsz, hE, hP⟩ := hv
  subst hsz
  have C := Cx.of (own := RX5) hG hE rfl hml B
  have w : Wd G s M s.heap [] := ⟨hP, va_S.rf⟩
  have hl := lv_entry [.ref (ga G 0), .int x1, .int x2] (n := 5) (Nat.le_of_ble_eq_true rfl)
  rw [lg_entry_eq]
  generalize (lg_sl [.ref (ga G 0), .int x1, .int x2] ++ List.replicate (5 - (lg_sl [.ref (ga G 0), .int x1, .int x2]).length) Slot.unset).toArray = ls at hl ⊢
  have hl : lv_has ls 5 [(0, .ref (ga G 0)), (1, .int x1), (2, .int x2)] := hl
  have hx := C.1.1
  have hb := C.1.2.1
  show W p l e (rmk 7) s m _ below meth c s.heap [] 0 0 _ _
  unfold q_X5_legs at h
  refine lv_iload_n hx hb dX5_legs_0 rfl (lv_at hl 2 rfl) ?_
  refine lv_iconst (v := 0) hx hb dX5_legs_1 (by decide) ?_
  refine lv_iconst (v := 2) hx hb dX5_legs_2 (by decide) ?_
  refine end_i w (run_S (As := [.int x2, .int (0 : Int32), .int (2 : Int32)]) C w hl.1 (c_X5_isWithin l G C.2.2.1 _ _ x2 (0 : Int32) (2 : Int32)  _ h) kw_6_8 kw_1_2 kw_6_6 kw_6_7 hd_X5_isWithin ⟨by decide, by decide⟩ rfl (Nat.le_of_ble_eq_true rfl) dX5_legs_3) (fun r1 M2 H locs h w => ?_)
  refine lv_if_ne (tgt := 11) hx hb dX5_legs_6 (by decide) (fun c3 => ?_) (fun c3 => ?_)
  · replace h := h.2 c3
    refine lv_aload_n hx hb dX5_legs_11 rfl (lv_at hl 0 rfl) ?_
    refine lv_iload_n hx hb dX5_legs_12 rfl (lv_at hl 1 rfl) ?_
    refine end_i w (run_V (As := [.int x1]) C w hl.1 (c_X5_refusalOfBytes l G C.2.2.1 _ _ x1  _ h) kw_5_18 kw_1_2 kw_5_15 kw_5_16 kw_5_17 hd_X5_refusalOfBytes ⟨by decide, by decide⟩ (w.recv C (i := 0) (by decide) (pE_5) rfl) rfl (Nat.le_of_ble_eq_true rfl) dX5_legs_13) (fun r4 M5 H locs h w => ?_)
    refine lv_istore_n (lv' := [(3, .int r4), (0, .ref (ga G 0)), (1, .int x1), (2, .int x2)]) hx hb dX5_legs_16 rfl hl (by decide) rfl (fun ls hl => ?_)
    refine lv_iload_n hx hb dX5_legs_17 rfl (lv_at hl 0 rfl) ?_
    refine lv_if_ge (tgt := 23) hx hb dX5_legs_18 (by decide) (fun c6 => ?_) (fun c6 => ?_)
    · replace h := h.1 c6
      refine lv_aload_n hx hb dX5_legs_23 rfl (lv_at hl 1 rfl) ?_
      refine gt_5_6 C w kw_2_8 dX5_legs_24 ?_
      refine lv_iload_n hx hb dX5_legs_27 rfl (lv_at hl 2 rfl) ?_
      have hin7 := h.1
      replace h := h.2
      have hz_hin7 := in_lt hin7
      refine pw_ldS C w hin7 rfl dX5_legs_28 ?_
      refine lv_astore (lv' := [(4, .ref (ga G (14 + x1.toNatClampNeg))), (3, .int r4), (0, .ref (ga G 0)), (1, .int x1), (2, .int x2)]) hx hb dX5_legs_29 hl (by decide) rfl (fun ls hl => ?_)
      refine lv_aload hx hb dX5_legs_31 (lv_at hl 0 rfl) ?_
      refine end_i w (run_VN (As := []) C w hl.1 (c_X3_holdsLegs l G C.2.2.1 _ _ (14 + x1.toNatClampNeg) (by omega) _ h) kw_32_7 kw_2_11 kn_74 kw_32_5 kw_32_6 hd_X3_holdsLegs ⟨by decide, by decide⟩ (w.recv C (i := (14 + x1.toNatClampNeg)) (by omega) (pE_3 (by omega)) rfl) rfl (Nat.le_of_ble_eq_true rfl) dX5_legs_33) (fun r8 M9 H locs h w => ?_)
      refine lv_if_ne (tgt := 42) hx hb dX5_legs_36 (by decide) (fun c10 => ?_) (fun c10 => ?_)
      · replace h := h.2 c10
        refine lv_aload_n hx hb dX5_legs_42 rfl (lv_at hl 2 rfl) ?_
        refine end_i w (run_V (As := []) C w hl.1 (c_X5_layLine l G C.2.2.1 _ _   _ h) kw_15_21 kw_1_2 kw_15_18 kw_15_19 kw_15_20 hd_X5_layLine ⟨by decide, by decide⟩ (w.recv C (i := 0) (by decide) (pE_5) rfl) rfl (Nat.le_of_ble_eq_true rfl) dX5_legs_43) (fun r11 M12 H locs h w => ?_)
        refine lv_if_ne (tgt := 52) hx hb dX5_legs_46 (by decide) (fun c13 => ?_) (fun c13 => ?_)
        · replace h := h.2 c13
          refine lv_iload_n hx hb dX5_legs_52 rfl (lv_at hl 4 rfl) ?_
          by_cases c14 : x2 = (0 : Int32)
          · replace h := h.1 c14
            refine lv_lookup (off := 27) (tgt := 80) hx hb dX5_legs_53 (by decide) (by rw [c14]; decide) (by decide) ?_
            refine lv_aload_n hx hb dX5_legs_80 rfl (lv_at hl 2 rfl) ?_
            refine lv_aload hx hb dX5_legs_81 (lv_at hl 0 rfl) ?_
            refine lv_bipush (v := -4) hx hb dX5_legs_83 (by decide) ?_
            refine end_i w (run_V (As := [.ref (ga G (14 + x1.toNatClampNeg)), .int (-4 : Int32)]) C w hl.1 (c_X5_greatestOfLegs l G C.2.2.1 _ _ (14 + x1.toNatClampNeg) (-4 : Int32) (by omega) _ h) kw_32_11 kw_1_2 kw_32_8 kw_32_9 kw_32_10 hd_X5_greatestOfLegs ⟨by decide, by decide⟩ (w.recv C (i := 0) (by decide) (pE_5) rfl) rfl (Nat.le_of_ble_eq_true rfl) dX5_legs_85) (fun r15 M16 H locs h w => ?_)
            exact ret_i C w h dX5_legs_88
          replace h := h.2 c14
          by_cases c17 : x2 = (1 : Int32)
          · replace h := h.1 c17
            refine lv_lookup (off := 36) (tgt := 89) hx hb dX5_legs_53 (by decide) (by rw [c17]; decide) (by decide) ?_
            refine lv_aload hx hb dX5_legs_89 (lv_at hl 0 rfl) ?_
            refine end_i w (run_S (As := [.ref (ga G (14 + x1.toNatClampNeg))]) C w hl.1 (c_X5_hoursOfLegs l G C.2.2.1 _ _ (14 + x1.toNatClampNeg) (by omega) _ h) kw_32_17 kw_1_2 kw_32_15 kw_32_16 hd_X5_hoursOfLegs ⟨by decide, by decide⟩ rfl (Nat.le_of_ble_eq_true rfl) dX5_legs_91) (fun r18 M19 H locs h w => ?_)
            exact ret_i C w h dX5_legs_94
          replace h := h.2 c17
          refine lv_lookup (off := 42) (tgt := 95) hx hb dX5_legs_53 (by decide) ((lv_osw c14 (by decide)).trans ((lv_osw c17 (by decide)).trans rfl)) (by decide) ?_
          refine lv_aload_n hx hb dX5_legs_95 rfl (lv_at hl 2 rfl) ?_
          refine lv_aload hx hb dX5_legs_96 (lv_at hl 0 rfl) ?_
          refine end_i w (run_V (As := [.ref (ga G (14 + x1.toNatClampNeg))]) C w hl.1 (c_X5_legToSlow l G C.2.2.1 _ _ (14 + x1.toNatClampNeg) (by omega) _ h) kw_32_21 kw_1_2 kw_32_18 kw_32_19 kw_32_20 hd_X5_legToSlow ⟨by decide, by decide⟩ (w.recv C (i := 0) (by decide) (pE_5) rfl) rfl (Nat.le_of_ble_eq_true rfl) dX5_legs_98) (fun r20 M21 H locs h w => ?_)
          exact ret_i C w h dX5_legs_101
        replace h := h.1 c13
        refine lv_bipush (v := -3) hx hb dX5_legs_49 (by decide) ?_
        exact ret_i C w h dX5_legs_51
      replace h := h.1 c10
      refine lv_bipush (v := -13) hx hb dX5_legs_39 (by decide) ?_
      exact ret_i C w h dX5_legs_41
    replace h := h.2 c6
    refine lv_iload_n hx hb dX5_legs_21 rfl (lv_at hl 0 rfl) ?_
    exact ret_i C w h dX5_legs_22
  replace h := h.1 c3
  refine lv_iconst (v := -1) hx hb dX5_legs_9 (by decide) ?_
  exact ret_i C w h dX5_legs_10
def q_X6_greatestBy (M : Mem) (x1 : Int32) (x2 : Int32) (post : Int32 → Mem → Prop) : Prop := ∀ M1 : Mem, M1 = (mup M 58 5 x1) → (∀ M2 : Mem, M2 = (mup M1 58 7 x2) → (q_X6_greatestOf M2  (fun r3 M4 => ∀ M5 : Mem, M5 = (mup M4 58 5 (M 58 5)) → (∀ M6 : Mem, M6 = (mup M5 58 7 (M 58 7)) → (post r3 M6)))))
set_option maxHeartbeats 4000000 in
set_option maxRecDepth 100000 in
theorem c_X6_greatestBy (l : Launch) (G : GG) (hG : Ag G) (sz : Nat) (M : Mem) (x1 : Int32) (x2 : Int32) (post : Int32 → Mem → Prop) (h : q_X6_greatestBy M x1 x2 post) : Met l yX6_greatestBy (Cond.code yX6_greatestBy cX6_greatestBy 6 (some .int) :: wsL_law) (rmk 5) (va_Pc [.ref (ga G 57), .int x1, .int x2] (Pw G sz M)) (va_Qi post (Qw G) (Af G sz)) 0 0 (Af G sz) := by
  refine Met.ofW (cc := cX6_greatestBy) (maxL := 6) (ret := (some .int)) (by decide) rfl ?_
  intro p e s m args below meth c s₁ B hml hv
  obtain ⟨rfl, hsz, hE, hP⟩ := hv
  subst hsz
  have C := Cx.of (own := RX6) hG hE rfl hml B
  have w : Wd G s M s.heap [] := ⟨hP, va_S.rf⟩
  have hl := lv_entry [.ref (ga G 57), .int x1, .int x2] (n := 6) (Nat.le_of_ble_eq_true rfl)
  rw [lg_entry_eq]
  generalize (lg_sl [.ref (ga G 57), .int x1, .int x2] ++ List.replicate (6 - (lg_sl [.ref (ga G 57), .int x1, .int x2]).length) Slot.unset).toArray = ls at hl ⊢
  have hl : lv_has ls 6 [(0, .ref (ga G 57)), (1, .int x1), (2, .int x2)] := hl
  have hx := C.1.1
  have hb := C.1.2.1
  show W p l e (rmk 5) s m _ below meth c s.heap [] 0 0 _ _
  unfold q_X6_greatestBy at h
  refine lv_aload_n hx hb dX6_greatestBy_0 rfl (lv_at hl 0 rfl) ?_
  refine gt_6_0 C w kw_5_0 dX6_greatestBy_1 ?_
  refine lv_iconst (v := 5) hx hb dX6_greatestBy_4 (by decide) ?_
  refine pw_ld C w (i := 58) (by decide) pE_58 (vl (x := (5 : Int32)) (by decide)) (k := 5) (by decide) dX6_greatestBy_5 ?_
  refine lv_istore_n (lv' := [(3, .int (M 58 5)), (0, .ref (ga G 57)), (1, .int x1), (2, .int x2)]) hx hb dX6_greatestBy_6 rfl hl (by decide) rfl (fun ls hl => ?_)
  refine lv_aload_n hx hb dX6_greatestBy_7 rfl (lv_at hl 1 rfl) ?_
  refine gt_6_0 C w kw_5_0 dX6_greatestBy_8 ?_
  refine lv_bipush (v := 7) hx hb dX6_greatestBy_11 (by decide) ?_
  refine pw_ld C w (i := 58) (by decide) pE_58 (vl (x := (7 : Int32)) (by decide)) (k := 7) (by decide) dX6_greatestBy_13 ?_
  refine lv_istore (lv' := [(4, .int (M 58 7)), (3, .int (M 58 5)), (0, .ref (ga G 57)), (1, .int x1), (2, .int x2)]) hx hb dX6_greatestBy_14 hl (by decide) rfl (fun ls hl => ?_)
  refine lv_aload_n hx hb dX6_greatestBy_16 rfl (lv_at hl 2 rfl) ?_
  refine gt_6_0 C w kw_5_0 dX6_greatestBy_17 ?_
  refine lv_iconst (v := 5) hx hb dX6_greatestBy_20 (by decide) ?_
  refine lv_iload_n hx hb dX6_greatestBy_21 rfl (lv_at hl 3 rfl) ?_
  refine pw_st C w (i := 58) (by decide) (fun _ => pE_58) (vl (x := (5 : Int32)) (by decide)) (k := 5) (by decide) dX6_greatestBy_22 (fun H locs w => ?_)
  obtain ⟨M1, eM1⟩ : ∃ z : Mem, z = (mup M 58 5 x1) := ⟨_, rfl⟩
  replace w : Wd G s M1 H locs := by rw [eM1]; exact w
  replace h := h M1 eM1
  refine lv_aload_n hx hb dX6_greatestBy_23 rfl (lv_at hl 2 rfl) ?_
  refine gt_6_0 C w kw_5_0 dX6_greatestBy_24 ?_
  refine lv_bipush (v := 7) hx hb dX6_greatestBy_27 (by decide) ?_
  refine lv_iload_n hx hb dX6_greatestBy_29 rfl (lv_at hl 4 rfl) ?_
  refine pw_st C w (i := 58) (by decide) (fun _ => pE_58) (vl (x := (7 : Int32)) (by decide)) (k := 7) (by decide) dX6_greatestBy_30 (fun H locs w => ?_)
  obtain ⟨M2, eM2⟩ : ∃ z : Mem, z = (mup M1 58 7 x2) := ⟨_, rfl⟩
  replace w : Wd G s M2 H locs := by rw [eM2]; exact w
  replace h := h M2 eM2
  refine lv_aload_n hx hb dX6_greatestBy_31 rfl (lv_at hl 2 rfl) ?_
  refine end_i w (run_V (As := []) C w hl.1 (c_X6_greatestOf l G C.2.2.1 _ _   _ h) kw_23_4 kw_1_5 kw_23_1 kw_23_2 kw_23_3 hd_X6_greatestOf ⟨by decide, by decide⟩ (w.recv C (i := 57) (by decide) (pE_6) rfl) rfl (Nat.le_of_ble_eq_true rfl) dX6_greatestBy_32) (fun r3 M4 H locs h w => ?_)
  refine lv_istore (lv' := [(5, .int r3), (4, .int (M 58 7)), (3, .int (M 58 5)), (0, .ref (ga G 57)), (1, .int x1), (2, .int x2)]) hx hb dX6_greatestBy_35 hl (by decide) rfl (fun ls hl => ?_)
  refine lv_aload_n hx hb dX6_greatestBy_37 rfl (lv_at hl 3 rfl) ?_
  refine gt_6_0 C w kw_5_0 dX6_greatestBy_38 ?_
  refine lv_iconst (v := 5) hx hb dX6_greatestBy_41 (by decide) ?_
  refine lv_iload_n hx hb dX6_greatestBy_42 rfl (lv_at hl 2 rfl) ?_
  refine pw_st C w (i := 58) (by decide) (fun _ => pE_58) (vl (x := (5 : Int32)) (by decide)) (k := 5) (by decide) dX6_greatestBy_43 (fun H locs w => ?_)
  obtain ⟨M5, eM5⟩ : ∃ z : Mem, z = (mup M4 58 5 (M 58 5)) := ⟨_, rfl⟩
  replace w : Wd G s M5 H locs := by rw [eM5]; exact w
  replace h := h M5 eM5
  refine lv_aload_n hx hb dX6_greatestBy_44 rfl (lv_at hl 3 rfl) ?_
  refine gt_6_0 C w kw_5_0 dX6_greatestBy_45 ?_
  refine lv_bipush (v := 7) hx hb dX6_greatestBy_48 (by decide) ?_
  refine lv_iload hx hb dX6_greatestBy_50 (lv_at hl 1 rfl) ?_
  refine pw_st C w (i := 58) (by decide) (fun _ => pE_58) (vl (x := (7 : Int32)) (by decide)) (k := 7) (by decide) dX6_greatestBy_52 (fun H locs w => ?_)
  obtain ⟨M6, eM6⟩ : ∃ z : Mem, z = (mup M5 58 7 (M 58 7)) := ⟨_, rfl⟩
  replace w : Wd G s M6 H locs := by rw [eM6]; exact w
  replace h := h M6 eM6
  refine lv_iload hx hb dX6_greatestBy_53 (lv_at hl 0 rfl) ?_
  exact ret_i C w h dX6_greatestBy_55
def j_X6_greatestLegs_75 (k5 : Mem → Int32 → Int32 → Int32 → Int32 → Prop) (post : Int32 → Mem → Prop) (M : Mem) (y0 : Int32) (x1 : Int32) (x2 : Int32) (x4 : Int32) : Prop := k5 M x1 x2 y0 (x4 + (1 : Int32))
def j_X6_greatestLegs_58 (k5 : Mem → Int32 → Int32 → Int32 → Int32 → Prop) (post : Int32 → Mem → Prop) (M : Mem) (y0 : Int32) (y1 : Int32) (x1 : Int32) (x2 : Int32) (x3 : Int32) (x4 : Int32) : Prop := q_X6_greatestBy M y1 y0 (fun r1 M2 => (r1 ≤ x3 → (j_X6_greatestLegs_75 k5 post M2 x3 x1 x2 x4)) ∧ (¬ (r1 ≤ x3) → (j_X6_greatestLegs_75 k5 post M2 r1 x1 x2 x4)))
def b_X6_greatestLegs_5 (k5 : Mem → Int32 → Int32 → Int32 → Int32 → Prop) (post : Int32 → Mem → Prop) (M : Mem) (x1 : Int32) (x2 : Int32) (x3 : Int32) (x4 : Int32) : Prop := vp_in x1 8 ∧ ((((M 64 x1.toNatClampNeg) / (3 : Int32)) ≤ x4 → (post x3 M)) ∧ (¬ (((M 64 x1.toNatClampNeg) / (3 : Int32)) ≤ x4) → (∀ v6 : Int32, v6 = (((100 : Int32) * x1) + ((3 : Int32) * x4)) → (vp_in (v6 + (1 : Int32)) 800 ∧ ((x4 = x2 → (j_X6_greatestLegs_58 k5 post M (0 : Int32) (M 65 (v6 + (1 : Int32)).toNatClampNeg) x1 x2 x3 x4)) ∧ (¬ (x4 = x2) → (vp_in (v6 + (2 : Int32)) 800 ∧ (j_X6_greatestLegs_58 k5 post M (M 65 (v6 + (2 : Int32)).toNatClampNeg) (M 65 (v6 + (1 : Int32)).toNatClampNeg) x1 x2 x3 x4))))))))
def lp_X6_greatestLegs_5 (post : Int32 → Mem → Prop) : Nat → Mem → Int32 → Int32 → Int32 → Int32 → Prop
  | 0 => fun _ _ _ _ _ => False
  | n + 1 => fun M x1 x2 x3 x4 => b_X6_greatestLegs_5 (lp_X6_greatestLegs_5 post n) post M x1 x2 x3 x4
def q_X6_greatestLegs (M : Mem) (x1 : Int32) (x2 : Int32) (post : Int32 → Mem → Prop) : Prop := ∃ n, lp_X6_greatestLegs_5 post n M x1 x2 (-1 : Int32) (0 : Int32)
set_option maxHeartbeats 4000000 in
set_option maxRecDepth 100000 in
theorem t_X6_greatestLegs_75 (C : Cx G p s m args meth c RX6 cX6_greatestLegs 7 (some .int)) {post : Int32 → Mem → Prop} {k5 : Mem → Int32 → Int32 → Int32 → Int32 → Prop} (hk5 : ∀ (M : Mem) (x1 : Int32) (x2 : Int32) (x3 : Int32) (x4 : Int32) (H : Heap) (locs : List Loc) (ls : Array Slot), Wd G s M H locs → lv_has ls 7 [(0, .ref (ga G 57)), (1, .int x1), (2, .int x2), (3, .int x3), (4, .int x4)] → k5 M x1 x2 x3 x4 → W p l e (rmk 6) s m args below meth c H locs 0 0 (MQ below (va_Qi post (Qw G) (Af G s.heap.size)) args s 0 0 (Af G s.heap.size)) (F0 m 5 ls [])) (M : Mem) (y0 : Int32) (x1 : Int32) (x2 : Int32) (x4 : Int32) {H : Heap} {locs : List Loc} {ls : Array Slot} (w : Wd G s M H locs) (hl : lv_has ls 7 [(0, .ref (ga G 57)), (1, .int x1), (2, .int x2), (4, .int x4)]) (h : j_X6_greatestLegs_75 k5 post M y0 x1 x2 x4) : W p l e (rmk 6) s m args below meth c H locs 0 0 (MQ below (va_Qi post (Qw G) (Af G s.heap.size)) args s 0 0 (Af G s.heap.size)) (F0 m 75 ls [.int y0]) := by
  have hx := C.1.1
  have hb := C.1.2.1
  unfold j_X6_greatestLegs_75 at h
  refine lv_istore_n (lv' := [(3, .int y0), (0, .ref (ga G 57)), (1, .int x1), (2, .int x2), (4, .int x4)]) hx hb dX6_greatestLegs_75 rfl hl (by decide) rfl (fun ls hl => ?_)
  refine lv_iinc (v := (x4 + (1 : Int32))) (lv' := [(4, .int (x4 + (1 : Int32))), (3, .int y0), (0, .ref (ga G 57)), (1, .int x1), (2, .int x2)]) hx hb dX6_greatestLegs_76 hl (k := 4) rfl rfl (by decide) rfl (fun ls hl => ?_)
  refine lv_goto (tgt := 5) hx hb dX6_greatestLegs_79 (by decide) ?_
  exact hk5 M x1 x2 y0 (x4 + (1 : Int32)) _ _ _  w (lv_sub hl [2, 3, 4, 1, 0] rfl) h
set_option maxHeartbeats 4000000 in
set_option maxRecDepth 100000 in
theorem t_X6_greatestLegs_58 (C : Cx G p s m args meth c RX6 cX6_greatestLegs 7 (some .int)) {post : Int32 → Mem → Prop} {k5 : Mem → Int32 → Int32 → Int32 → Int32 → Prop} (hk5 : ∀ (M : Mem) (x1 : Int32) (x2 : Int32) (x3 : Int32) (x4 : Int32) (H : Heap) (locs : List Loc) (ls : Array Slot), Wd G s M H locs → lv_has ls 7 [(0, .ref (ga G 57)), (1, .int x1), (2, .int x2), (3, .int x3), (4, .int x4)] → k5 M x1 x2 x3 x4 → W p l e (rmk 6) s m args below meth c H locs 0 0 (MQ below (va_Qi post (Qw G) (Af G s.heap.size)) args s 0 0 (Af G s.heap.size)) (F0 m 5 ls [])) (M : Mem) (y0 : Int32) (y1 : Int32) (x1 : Int32) (x2 : Int32) (x3 : Int32) (x4 : Int32) {H : Heap} {locs : List Loc} {ls : Array Slot} (w : Wd G s M H locs) (hl : lv_has ls 7 [(0, .ref (ga G 57)), (1, .int x1), (2, .int x2), (3, .int x3), (4, .int x4)]) (h : j_X6_greatestLegs_58 k5 post M y0 y1 x1 x2 x3 x4) : W p l e (rmk 6) s m args below meth c H locs 0 0 (MQ below (va_Qi post (Qw G) (Af G s.heap.size)) args s 0 0 (Af G s.heap.size)) (F0 m 58 ls [.int y0, .int y1, .ref (ga G 57)]) := by
  have hx := C.1.1
  have hb := C.1.2.1
  unfold j_X6_greatestLegs_58 at h
  refine end_i w (run_V (As := [.int y1, .int y0]) C w hl.1 (c_X6_greatestBy l G C.2.2.1 _ _ y1 y0  _ h) kw_33_15 kw_1_5 kw_33_12 kw_33_13 kw_33_14 hd_X6_greatestBy ⟨by decide, by decide⟩ (w.recv C (i := 57) (by decide) (pE_6) rfl) rfl (Nat.le_of_ble_eq_true rfl) dX6_greatestLegs_58) (fun r1 M2 H locs h w => ?_)
  refine lv_istore (lv' := [(6, .int r1), (0, .ref (ga G 57)), (1, .int x1), (2, .int x2), (3, .int x3), (4, .int x4)]) hx hb dX6_greatestLegs_61 hl (by decide) rfl (fun ls hl => ?_)
  refine lv_iload hx hb dX6_greatestLegs_63 (lv_at hl 0 rfl) ?_
  refine lv_iload_n hx hb dX6_greatestLegs_65 rfl (lv_at hl 4 rfl) ?_
  refine lv_icmp_le (tgt := 74) hx hb dX6_greatestLegs_66 (by decide) (fun c3 => ?_) (fun c3 => ?_)
  · replace h := h.1 c3
    refine lv_iload_n hx hb dX6_greatestLegs_74 rfl (lv_at hl 4 rfl) ?_
    exact t_X6_greatestLegs_75 C hk5 M2 x3 x1 x2 x4  w (lv_sub hl [1, 2, 3, 5] rfl) h
  replace h := h.2 c3
  refine lv_iload hx hb dX6_greatestLegs_69 (lv_at hl 0 rfl) ?_
  refine lv_goto (tgt := 75) hx hb dX6_greatestLegs_71 (by decide) ?_
  exact t_X6_greatestLegs_75 C hk5 M2 r1 x1 x2 x4  w (lv_sub hl [1, 2, 3, 5] rfl) h
set_option maxHeartbeats 4000000 in
set_option maxRecDepth 100000 in
theorem t_X6_greatestLegs_5 (C : Cx G p s m args meth c RX6 cX6_greatestLegs 7 (some .int)) {post : Int32 → Mem → Prop} : ∀ (n : Nat) (M : Mem) (x1 : Int32) (x2 : Int32) (x3 : Int32) (x4 : Int32) {H : Heap} {locs : List Loc} {ls : Array Slot} (w : Wd G s M H locs) (hl : lv_has ls 7 [(0, .ref (ga G 57)), (1, .int x1), (2, .int x2), (3, .int x3), (4, .int x4)]) (h : lp_X6_greatestLegs_5 post n M x1 x2 x3 x4), W p l e (rmk 6) s m args below meth c H locs 0 0 (MQ below (va_Qi post (Qw G) (Af G s.heap.size)) args s 0 0 (Af G s.heap.size)) (F0 m 5 ls []) := by
  have hx := C.1.1
  have hb := C.1.2.1
  intro n9
  induction n9 with
  | zero => intro M x1 x2 x3 x4 H locs ls w hl h; exact absurd h id
  | succ n9 ih9 =>
    intro M x1 x2 x3 x4 H locs ls w hl h
    have hk5 : ∀ (M : Mem) (x1 : Int32) (x2 : Int32) (x3 : Int32) (x4 : Int32) (H : Heap) (locs : List Loc) (ls : Array Slot), Wd G s M H locs → lv_has ls 7 [(0, .ref (ga G 57)), (1, .int x1), (2, .int x2), (3, .int x3), (4, .int x4)] → lp_X6_greatestLegs_5 post n9 M x1 x2 x3 x4 → W p l e (rmk 6) s m args below meth c H locs 0 0 (MQ below (va_Qi post (Qw G) (Af G s.heap.size)) args s 0 0 (Af G s.heap.size)) (F0 m 5 ls []) := fun M x1 x2 x3 x4 H locs ls w hl h => ih9 M x1 x2 x3 x4 w hl h
    replace h : b_X6_greatestLegs_5 (lp_X6_greatestLegs_5 post n9) post M x1 x2 x3 x4 := h
    unfold b_X6_greatestLegs_5 at h
    refine lv_iload hx hb dX6_greatestLegs_5 (lv_at hl 4 rfl) ?_
    refine lv_aload_n hx hb dX6_greatestLegs_7 rfl (lv_at hl 0 rfl) ?_
    refine gt_6_6 C w kw_5_6 dX6_greatestLegs_8 ?_
    refine lv_iload_n hx hb dX6_greatestLegs_11 rfl (lv_at hl 1 rfl) ?_
    have hin4 := h.1
    replace h := h.2
    have hz_hin4 := in_lt hin4
    refine pw_ld C w (i := 64) (by decide) pE_64 hin4 rfl dX6_greatestLegs_12 ?_
    refine lv_iconst (v := 3) hx hb dX6_greatestLegs_13 (by decide) ?_
    refine lv_idiv hx hb dX6_greatestLegs_14 (by decide) ?_
    refine lv_icmp_ge (tgt := 82) hx hb dX6_greatestLegs_15 (by decide) (fun c5 => ?_) (fun c5 => ?_)
    · replace h := h.1 c5
      refine lv_iload_n hx hb dX6_greatestLegs_82 rfl (lv_at hl 3 rfl) ?_
      exact ret_i C w h dX6_greatestLegs_83
    replace h := h.2 c5
    refine lv_bipush (v := 100) hx hb dX6_greatestLegs_18 (by decide) ?_
    refine lv_iload_n hx hb dX6_greatestLegs_20 rfl (lv_at hl 1 rfl) ?_
    refine lv_imul hx hb dX6_greatestLegs_21 ?_
    refine lv_iconst (v := 3) hx hb dX6_greatestLegs_22 (by decide) ?_
    refine lv_iload hx hb dX6_greatestLegs_23 (lv_at hl 4 rfl) ?_
    refine lv_imul hx hb dX6_greatestLegs_25 ?_
    refine lv_iadd hx hb dX6_greatestLegs_26 ?_
    refine lv_topi (fun v6 ev6 => ?_)
    replace h := h v6 ev6
    refine lv_istore (lv' := [(5, .int v6), (0, .ref (ga G 57)), (1, .int x1), (2, .int x2), (3, .int x3), (4, .int x4)]) hx hb dX6_greatestLegs_27 hl (by decide) rfl (fun ls hl => ?_)
    refine lv_aload_n hx hb dX6_greatestLegs_29 rfl (lv_at hl 1 rfl) ?_
    refine lv_aload_n hx hb dX6_greatestLegs_30 rfl (lv_at hl 1 rfl) ?_
    refine gt_6_7 C w kw_5_7 dX6_greatestLegs_31 ?_
    refine lv_iload hx hb dX6_greatestLegs_34 (lv_at hl 0 rfl) ?_
    refine lv_iconst (v := 1) hx hb dX6_greatestLegs_36 (by decide) ?_
    refine lv_iadd hx hb dX6_greatestLegs_37 ?_
    have hin7 := h.1
    replace h := h.2
    have hz_hin7 := in_lt hin7
    refine pw_ld C w (i := 65) (by decide) pE_65 hin7 rfl dX6_greatestLegs_38 ?_
    refine lv_iload hx hb dX6_greatestLegs_39 (lv_at hl 5 rfl) ?_
    refine lv_iload_n hx hb dX6_greatestLegs_41 rfl (lv_at hl 3 rfl) ?_
    refine lv_icmp_ne (tgt := 49) hx hb dX6_greatestLegs_42 (by decide) (fun c8 => ?_) (fun c8 => ?_)
    · replace h := h.2 c8
      refine lv_aload_n hx hb dX6_greatestLegs_49 rfl (lv_at hl 1 rfl) ?_
      refine gt_6_7 C w kw_5_7 dX6_greatestLegs_50 ?_
      refine lv_iload hx hb dX6_greatestLegs_53 (lv_at hl 0 rfl) ?_
      refine lv_iconst (v := 2) hx hb dX6_greatestLegs_55 (by decide) ?_
      refine lv_iadd hx hb dX6_greatestLegs_56 ?_
      have hin9 := h.1
      replace h := h.2
      have hz_hin9 := in_lt hin9
      refine pw_ld C w (i := 65) (by decide) pE_65 hin9 rfl dX6_greatestLegs_57 ?_
      exact t_X6_greatestLegs_58 C hk5 M (M 65 (v6 + (2 : Int32)).toNatClampNeg) (M 65 (v6 + (1 : Int32)).toNatClampNeg) x1 x2 x3 x4  w (lv_sub hl [1, 2, 3, 4, 5] rfl) h
    replace h := h.1 c8
    refine lv_iconst (v := 0) hx hb dX6_greatestLegs_45 (by decide) ?_
    refine lv_goto (tgt := 58) hx hb dX6_greatestLegs_46 (by decide) ?_
    exact t_X6_greatestLegs_58 C hk5 M (0 : Int32) (M 65 (v6 + (1 : Int32)).toNatClampNeg) x1 x2 x3 x4  w (lv_sub hl [1, 2, 3, 4, 5] rfl) h
set_option maxHeartbeats 4000000 in
set_option maxRecDepth 100000 in
theorem c_X6_greatestLegs (l : Launch) (G : GG) (hG : Ag G) (sz : Nat) (M : Mem) (x1 : Int32) (x2 : Int32) (post : Int32 → Mem → Prop) (h : q_X6_greatestLegs M x1 x2 post) : Met l yX6_greatestLegs (Cond.code yX6_greatestLegs cX6_greatestLegs 7 (some .int) :: wsL_law) (rmk 6) (va_Pc [.ref (ga G 57), .int x1, .int x2] (Pw G sz M)) (va_Qi post (Qw G) (Af G sz)) 0 0 (Af G sz) := by
  refine Met.ofW (cc := cX6_greatestLegs) (maxL := 7) (ret := (some .int)) (by decide) rfl ?_
  intro p e s m args below meth c s₁ B hml hv
  obtain ⟨rfl, hsz, hE, hP⟩ := hv
  subst hsz
  have C := Cx.of (own := RX6) hG hE rfl hml B
  have w : Wd G s M s.heap [] := ⟨hP, va_S.rf⟩
  have hl := lv_entry [.ref (ga G 57), .int x1, .int x2] (n := 7) (Nat.le_of_ble_eq_true rfl)
  rw [lg_entry_eq]
  generalize (lg_sl [.ref (ga G 57), .int x1, .int x2] ++ List.replicate (7 - (lg_sl [.ref (ga G 57), .int x1, .int x2]).length) Slot.unset).toArray = ls at hl ⊢
  have hl : lv_has ls 7 [(0, .ref (ga G 57)), (1, .int x1), (2, .int x2)] := hl
  have hx := C.1.1
  have hb := C.1.2.1
  show W p l e (rmk 6) s m _ below meth c s.heap [] 0 0 _ _
  unfold q_X6_greatestLegs at h
  refine lv_iconst (v := -1) hx hb dX6_greatestLegs_0 (by decide) ?_
  refine lv_istore_n (lv' := [(3, .int (-1 : Int32)), (0, .ref (ga G 57)), (1, .int x1), (2, .int x2)]) hx hb dX6_greatestLegs_1 rfl hl (by decide) rfl (fun ls hl => ?_)
  refine lv_iconst (v := 0) hx hb dX6_greatestLegs_2 (by decide) ?_
  refine lv_istore (lv' := [(4, .int (0 : Int32)), (3, .int (-1 : Int32)), (0, .ref (ga G 57)), (1, .int x1), (2, .int x2)]) hx hb dX6_greatestLegs_3 hl (by decide) rfl (fun ls hl => ?_)
  obtain ⟨n, h⟩ := h
  exact t_X6_greatestLegs_5 C n M x1 x2 (-1 : Int32) (0 : Int32)  w (lv_sub hl [2, 3, 4, 1, 0] rfl) h
def j_X6_wrongLegs_125 (post : Int32 → Mem → Prop) (M : Mem) : Prop := post (-13 : Int32) M
def b_X6_wrongLegs_49 (k49 : Mem → Int32 → Int32 → Prop) (post : Int32 → Mem → Prop) (M : Mem) (x1 : Int32) (x3 : Int32) : Prop := vp_in x1 8 ∧ (((M 64 x1.toNatClampNeg) ≤ x3 → (post (0 : Int32) M)) ∧ (¬ ((M 64 x1.toNatClampNeg) ≤ x3) → (vp_in (((100 : Int32) * x1) + x3) 800 ∧ (q_X6_isIn M ((M 65 (((100 : Int32) * x1) + x3).toNatClampNeg).toInt64) (1 : Int64) (99 : Int64) (fun r4 M5 => (r4 = 0 → (j_X6_wrongLegs_125 post M5)) ∧ (¬ (r4 = 0) → (vp_in ((((100 : Int32) * x1) + x3) + (1 : Int32)) 800 ∧ (q_X6_isIn M5 ((M5 65 ((((100 : Int32) * x1) + x3) + (1 : Int32)).toNatClampNeg).toInt64) (0 : Int64) (60 : Int64) (fun r8 M9 => (r8 = 0 → (j_X6_wrongLegs_125 post M9)) ∧ (¬ (r8 = 0) → (vp_in ((((100 : Int32) * x1) + x3) + (2 : Int32)) 800 ∧ (q_X6_isIn M9 ((M9 65 ((((100 : Int32) * x1) + x3) + (2 : Int32)).toNatClampNeg).toInt64) (0 : Int64) (9 : Int64) (fun r12 M13 => (r12 = 0 → (j_X6_wrongLegs_125 post M13)) ∧ (¬ (r12 = 0) → (k49 M13 x1 (x3 + (3 : Int32)))))))))))))))))
def lp_X6_wrongLegs_49 (post : Int32 → Mem → Prop) : Nat → Mem → Int32 → Int32 → Prop
  | 0 => fun _ _ _ => False
  | n + 1 => fun M x1 x3 => b_X6_wrongLegs_49 (lp_X6_wrongLegs_49 post n) post M x1 x3
def j_X6_wrongLegs_44 (post : Int32 → Mem → Prop) (M : Mem) : Prop := post (-13 : Int32) M
def q_X6_wrongLegs (M : Mem) (x1 : Int32) (post : Int32 → Mem → Prop) : Prop := q_X6_wrongRow M x1 (0 : Int32) (fun r15 M16 => (r15 = 0 → (vp_in x1 8 ∧ (((M16 64 x1.toNatClampNeg) = 0 → (j_X6_wrongLegs_44 post M16)) ∧ (¬ ((M16 64 x1.toNatClampNeg) = 0) → ((((M16 64 x1.toNatClampNeg) - (M16 64 x1.toNatClampNeg) / (3 : Int32) * (3 : Int32)) = 0 → (((M16 64 x1.toNatClampNeg) ≤ (24 : Int32) → (∃ n, lp_X6_wrongLegs_49 post n M16 x1 (0 : Int32))) ∧ (¬ ((M16 64 x1.toNatClampNeg) ≤ (24 : Int32)) → (j_X6_wrongLegs_44 post M16)))) ∧ (¬ (((M16 64 x1.toNatClampNeg) - (M16 64 x1.toNatClampNeg) / (3 : Int32) * (3 : Int32)) = 0) → (j_X6_wrongLegs_44 post M16))))))) ∧ (¬ (r15 = 0) → (post r15 M16)))
set_option maxHeartbeats 4000000 in
set_option maxRecDepth 100000 in
theorem t_X6_wrongLegs_125 (C : Cx G p s m args meth c RX6 cX6_wrongLegs 5 (some .int)) {post : Int32 → Mem → Prop} (M : Mem) {H : Heap} {locs : List Loc} {ls : Array Slot} (w : Wd G s M H locs) (hl : lv_has ls 5 []) (h : j_X6_wrongLegs_125 post M) : W p l e (rmk 4) s m args below meth c H locs 0 0 (MQ below (va_Qi post (Qw G) (Af G s.heap.size)) args s 0 0 (Af G s.heap.size)) (F0 m 125 ls []) := by
  have hx := C.1.1
  have hb := C.1.2.1
  unfold j_X6_wrongLegs_125 at h
  refine lv_bipush (v := -13) hx hb dX6_wrongLegs_125 (by decide) ?_
  exact ret_i C w h dX6_wrongLegs_127
set_option maxHeartbeats 4000000 in
set_option maxRecDepth 100000 in
theorem t_X6_wrongLegs_49 (C : Cx G p s m args meth c RX6 cX6_wrongLegs 5 (some .int)) {post : Int32 → Mem → Prop} : ∀ (n : Nat) (M : Mem) (x1 : Int32) (x3 : Int32) {H : Heap} {locs : List Loc} {ls : Array Slot} (w : Wd G s M H locs) (hl : lv_has ls 5 [(0, .ref (ga G 57)), (1, .int x1), (3, .int x3)]) (h : lp_X6_wrongLegs_49 post n M x1 x3), W p l e (rmk 4) s m args below meth c H locs 0 0 (MQ below (va_Qi post (Qw G) (Af G s.heap.size)) args s 0 0 (Af G s.heap.size)) (F0 m 49 ls []) := by
  have hx := C.1.1
  have hb := C.1.2.1
  intro n9
  induction n9 with
  | zero => intro M x1 x3 H locs ls w hl h; exact absurd h id
  | succ n9 ih9 =>
    intro M x1 x3 H locs ls w hl h
    have hk49 : ∀ (M : Mem) (x1 : Int32) (x3 : Int32) (H : Heap) (locs : List Loc) (ls : Array Slot), Wd G s M H locs → lv_has ls 5 [(0, .ref (ga G 57)), (1, .int x1), (3, .int x3)] → lp_X6_wrongLegs_49 post n9 M x1 x3 → W p l e (rmk 4) s m args below meth c H locs 0 0 (MQ below (va_Qi post (Qw G) (Af G s.heap.size)) args s 0 0 (Af G s.heap.size)) (F0 m 49 ls []) := fun M x1 x3 H locs ls w hl h => ih9 M x1 x3 w hl h
    replace h : b_X6_wrongLegs_49 (lp_X6_wrongLegs_49 post n9) post M x1 x3 := h
    unfold b_X6_wrongLegs_49 at h
    refine lv_iload_n hx hb dX6_wrongLegs_49 rfl (lv_at hl 2 rfl) ?_
    refine lv_aload_n hx hb dX6_wrongLegs_50 rfl (lv_at hl 0 rfl) ?_
    refine gt_6_6 C w kw_5_6 dX6_wrongLegs_51 ?_
    refine lv_iload_n hx hb dX6_wrongLegs_54 rfl (lv_at hl 1 rfl) ?_
    have hin1 := h.1
    replace h := h.2
    have hz_hin1 := in_lt hin1
    refine pw_ld C w (i := 64) (by decide) pE_64 hin1 rfl dX6_wrongLegs_55 ?_
    refine lv_icmp_ge (tgt := 134) hx hb dX6_wrongLegs_56 (by decide) (fun c2 => ?_) (fun c2 => ?_)
    · replace h := h.1 c2
      refine lv_iconst (v := 0) hx hb dX6_wrongLegs_134 (by decide) ?_
      exact ret_i C w h dX6_wrongLegs_135
    replace h := h.2 c2
    refine lv_bipush (v := 100) hx hb dX6_wrongLegs_59 (by decide) ?_
    refine lv_iload_n hx hb dX6_wrongLegs_61 rfl (lv_at hl 1 rfl) ?_
    refine lv_imul hx hb dX6_wrongLegs_62 ?_
    refine lv_iload_n hx hb dX6_wrongLegs_63 rfl (lv_at hl 2 rfl) ?_
    refine lv_iadd hx hb dX6_wrongLegs_64 ?_
    refine lv_istore (lv' := [(4, .int (((100 : Int32) * x1) + x3)), (0, .ref (ga G 57)), (1, .int x1), (3, .int x3)]) hx hb dX6_wrongLegs_65 hl (by decide) rfl (fun ls hl => ?_)
    refine lv_aload_n hx hb dX6_wrongLegs_67 rfl (lv_at hl 1 rfl) ?_
    refine gt_6_7 C w kw_5_7 dX6_wrongLegs_68 ?_
    refine lv_iload hx hb dX6_wrongLegs_71 (lv_at hl 0 rfl) ?_
    have hin3 := h.1
    replace h := h.2
    have hz_hin3 := in_lt hin3
    refine pw_ld C w (i := 65) (by decide) pE_65 hin3 rfl dX6_wrongLegs_73 ?_
    refine lv_i2l hx hb dX6_wrongLegs_74 rfl ?_
    refine lv_lconst (v := 1) hx hb dX6_wrongLegs_75 (by decide) ?_
    refine lv_ldc2 hx hb C.1.2.2.2.1 (C.ws kw_13_13) dX6_wrongLegs_76 ?_
    refine end_i w (run_S (As := [.long (M 65 (((100 : Int32) * x1) + x3).toNatClampNeg).toInt64, .long (1 : Int64), .long (99 : Int64)]) C w hl.1 (c_X6_isIn l G C.2.2.1 _ _ ((M 65 (((100 : Int32) * x1) + x3).toNatClampNeg).toInt64) (1 : Int64) (99 : Int64)  _ h) kw_12_5 kw_1_5 kw_12_3 kw_12_4 hd_X6_isIn ⟨by decide, by decide⟩ rfl (Nat.le_of_ble_eq_true rfl) dX6_wrongLegs_79) (fun r4 M5 H locs h w => ?_)
    refine lv_if_eq (tgt := 125) hx hb dX6_wrongLegs_82 (by decide) (fun c6 => ?_) (fun c6 => ?_)
    · replace h := h.1 c6
      exact t_X6_wrongLegs_125 C M5   w (lv_sub hl [] rfl) h
    replace h := h.2 c6
    refine lv_aload_n hx hb dX6_wrongLegs_85 rfl (lv_at hl 1 rfl) ?_
    refine gt_6_7 C w kw_5_7 dX6_wrongLegs_86 ?_
    refine lv_iload hx hb dX6_wrongLegs_89 (lv_at hl 0 rfl) ?_
    refine lv_iconst (v := 1) hx hb dX6_wrongLegs_91 (by decide) ?_
    refine lv_iadd hx hb dX6_wrongLegs_92 ?_
    have hin7 := h.1
    replace h := h.2
    have hz_hin7 := in_lt hin7
    refine pw_ld C w (i := 65) (by decide) pE_65 hin7 rfl dX6_wrongLegs_93 ?_
    refine lv_i2l hx hb dX6_wrongLegs_94 rfl ?_
    refine lv_lconst (v := 0) hx hb dX6_wrongLegs_95 (by decide) ?_
    refine lv_ldc2 hx hb C.1.2.2.2.1 (C.ws kw_33_6) dX6_wrongLegs_96 ?_
    refine end_i w (run_S (As := [.long (M5 65 ((((100 : Int32) * x1) + x3) + (1 : Int32)).toNatClampNeg).toInt64, .long (0 : Int64), .long (60 : Int64)]) C w hl.1 (c_X6_isIn l G C.2.2.1 _ _ ((M5 65 ((((100 : Int32) * x1) + x3) + (1 : Int32)).toNatClampNeg).toInt64) (0 : Int64) (60 : Int64)  _ h) kw_12_5 kw_1_5 kw_12_3 kw_12_4 hd_X6_isIn ⟨by decide, by decide⟩ rfl (Nat.le_of_ble_eq_true rfl) dX6_wrongLegs_99) (fun r8 M9 H locs h w => ?_)
    refine lv_if_eq (tgt := 125) hx hb dX6_wrongLegs_102 (by decide) (fun c10 => ?_) (fun c10 => ?_)
    · replace h := h.1 c10
      exact t_X6_wrongLegs_125 C M9   w (lv_sub hl [] rfl) h
    replace h := h.2 c10
    refine lv_aload_n hx hb dX6_wrongLegs_105 rfl (lv_at hl 1 rfl) ?_
    refine gt_6_7 C w kw_5_7 dX6_wrongLegs_106 ?_
    refine lv_iload hx hb dX6_wrongLegs_109 (lv_at hl 0 rfl) ?_
    refine lv_iconst (v := 2) hx hb dX6_wrongLegs_111 (by decide) ?_
    refine lv_iadd hx hb dX6_wrongLegs_112 ?_
    have hin11 := h.1
    replace h := h.2
    have hz_hin11 := in_lt hin11
    refine pw_ld C w (i := 65) (by decide) pE_65 hin11 rfl dX6_wrongLegs_113 ?_
    refine lv_i2l hx hb dX6_wrongLegs_114 rfl ?_
    refine lv_lconst (v := 0) hx hb dX6_wrongLegs_115 (by decide) ?_
    refine lv_ldc2 hx hb C.1.2.2.2.1 (C.ws kw_33_7) dX6_wrongLegs_116 ?_
    refine end_i w (run_S (As := [.long (M9 65 ((((100 : Int32) * x1) + x3) + (2 : Int32)).toNatClampNeg).toInt64, .long (0 : Int64), .long (9 : Int64)]) C w hl.1 (c_X6_isIn l G C.2.2.1 _ _ ((M9 65 ((((100 : Int32) * x1) + x3) + (2 : Int32)).toNatClampNeg).toInt64) (0 : Int64) (9 : Int64)  _ h) kw_12_5 kw_1_5 kw_12_3 kw_12_4 hd_X6_isIn ⟨by decide, by decide⟩ rfl (Nat.le_of_ble_eq_true rfl) dX6_wrongLegs_119) (fun r12 M13 H locs h w => ?_)
    refine lv_if_ne (tgt := 128) hx hb dX6_wrongLegs_122 (by decide) (fun c14 => ?_) (fun c14 => ?_)
    · replace h := h.2 c14
      refine lv_iinc (v := (x3 + (3 : Int32))) (lv' := [(3, .int (x3 + (3 : Int32))), (4, .int (((100 : Int32) * x1) + x3)), (0, .ref (ga G 57)), (1, .int x1)]) hx hb dX6_wrongLegs_128 hl (k := 3) rfl rfl (by decide) rfl (fun ls hl => ?_)
      refine lv_goto (tgt := 49) hx hb dX6_wrongLegs_131 (by decide) ?_
      exact hk49 M13 x1 (x3 + (3 : Int32)) _ _ _  w (lv_sub hl [2, 3, 0] rfl) h
    replace h := h.1 c14
    exact t_X6_wrongLegs_125 C M13   w (lv_sub hl [] rfl) h
set_option maxHeartbeats 4000000 in
set_option maxRecDepth 100000 in
theorem t_X6_wrongLegs_44 (C : Cx G p s m args meth c RX6 cX6_wrongLegs 5 (some .int)) {post : Int32 → Mem → Prop} (M : Mem) {H : Heap} {locs : List Loc} {ls : Array Slot} (w : Wd G s M H locs) (hl : lv_has ls 5 []) (h : j_X6_wrongLegs_44 post M) : W p l e (rmk 4) s m args below meth c H locs 0 0 (MQ below (va_Qi post (Qw G) (Af G s.heap.size)) args s 0 0 (Af G s.heap.size)) (F0 m 44 ls []) := by
  have hx := C.1.1
  have hb := C.1.2.1
  unfold j_X6_wrongLegs_44 at h
  refine lv_bipush (v := -13) hx hb dX6_wrongLegs_44 (by decide) ?_
  exact ret_i C w h dX6_wrongLegs_46
set_option maxHeartbeats 4000000 in
set_option maxRecDepth 100000 in
theorem c_X6_wrongLegs (l : Launch) (G : GG) (hG : Ag G) (sz : Nat) (M : Mem) (x1 : Int32) (post : Int32 → Mem → Prop) (h : q_X6_wrongLegs M x1 post) : Met l yX6_wrongLegs (Cond.code yX6_wrongLegs cX6_wrongLegs 5 (some .int) :: wsL_law) (rmk 4) (va_Pc [.ref (ga G 57), .int x1] (Pw G sz M)) (va_Qi post (Qw G) (Af G sz)) 0 0 (Af G sz) := by
  refine Met.ofW (cc := cX6_wrongLegs) (maxL := 5) (ret := (some .int)) (by decide) rfl ?_
  intro p e s m args below meth c s₁ B hml hv
  obtain ⟨rfl, hsz, hE, hP⟩ := hv
  subst hsz
  have C := Cx.of (own := RX6) hG hE rfl hml B
  have w : Wd G s M s.heap [] := ⟨hP, va_S.rf⟩
  have hl := lv_entry [.ref (ga G 57), .int x1] (n := 5) (Nat.le_of_ble_eq_true rfl)
  rw [lg_entry_eq]
  generalize (lg_sl [.ref (ga G 57), .int x1] ++ List.replicate (5 - (lg_sl [.ref (ga G 57), .int x1]).length) Slot.unset).toArray = ls at hl ⊢
  have hl : lv_has ls 5 [(0, .ref (ga G 57)), (1, .int x1)] := hl
  have hx := C.1.1
  have hb := C.1.2.1
  show W p l e (rmk 4) s m _ below meth c s.heap [] 0 0 _ _
  unfold q_X6_wrongLegs at h
  refine lv_aload_n hx hb dX6_wrongLegs_0 rfl (lv_at hl 0 rfl) ?_
  refine lv_iload_n hx hb dX6_wrongLegs_1 rfl (lv_at hl 1 rfl) ?_
  refine lv_iconst (v := 0) hx hb dX6_wrongLegs_2 (by decide) ?_
  refine end_i w (run_V (As := [.int x1, .int (0 : Int32)]) C w hl.1 (c_X6_wrongRow l G C.2.2.1 _ _ x1 (0 : Int32)  _ h) kw_11_22 kw_1_5 kw_11_19 kw_11_20 kw_11_21 hd_X6_wrongRow ⟨by decide, by decide⟩ (w.recv C (i := 57) (by decide) (pE_6) rfl) rfl (Nat.le_of_ble_eq_true rfl) dX6_wrongLegs_3) (fun r15 M16 H locs h w => ?_)
  refine lv_istore_n (lv' := [(2, .int r15), (0, .ref (ga G 57)), (1, .int x1)]) hx hb dX6_wrongLegs_6 rfl hl (by decide) rfl (fun ls hl => ?_)
  refine lv_iload_n hx hb dX6_wrongLegs_7 rfl (lv_at hl 0 rfl) ?_
  refine lv_if_eq (tgt := 13) hx hb dX6_wrongLegs_8 (by decide) (fun c17 => ?_) (fun c17 => ?_)
  · replace h := h.1 c17
    refine lv_aload_n hx hb dX6_wrongLegs_13 rfl (lv_at hl 1 rfl) ?_
    refine gt_6_6 C w kw_5_6 dX6_wrongLegs_14 ?_
    refine lv_iload_n hx hb dX6_wrongLegs_17 rfl (lv_at hl 2 rfl) ?_
    have hin18 := h.1
    replace h := h.2
    have hz_hin18 := in_lt hin18
    refine pw_ld C w (i := 64) (by decide) pE_64 hin18 rfl dX6_wrongLegs_18 ?_
    refine lv_if_eq (tgt := 44) hx hb dX6_wrongLegs_19 (by decide) (fun c19 => ?_) (fun c19 => ?_)
    · replace h := h.1 c19
      exact t_X6_wrongLegs_44 C M16   w (lv_sub hl [] rfl) h
    replace h := h.2 c19
    refine lv_aload_n hx hb dX6_wrongLegs_22 rfl (lv_at hl 1 rfl) ?_
    refine gt_6_6 C w kw_5_6 dX6_wrongLegs_23 ?_
    refine lv_iload_n hx hb dX6_wrongLegs_26 rfl (lv_at hl 2 rfl) ?_
    refine pw_ld C w (i := 64) (by decide) pE_64 hin18 rfl dX6_wrongLegs_27 ?_
    refine lv_iconst (v := 3) hx hb dX6_wrongLegs_28 (by decide) ?_
    refine lv_irem hx hb dX6_wrongLegs_29 (by decide) ?_
    refine lv_if_ne (tgt := 44) hx hb dX6_wrongLegs_30 (by decide) (fun c20 => ?_) (fun c20 => ?_)
    · replace h := h.2 c20
      exact t_X6_wrongLegs_44 C M16   w (lv_sub hl [] rfl) h
    replace h := h.1 c20
    refine lv_aload_n hx hb dX6_wrongLegs_33 rfl (lv_at hl 1 rfl) ?_
    refine gt_6_6 C w kw_5_6 dX6_wrongLegs_34 ?_
    refine lv_iload_n hx hb dX6_wrongLegs_37 rfl (lv_at hl 2 rfl) ?_
    refine pw_ld C w (i := 64) (by decide) pE_64 hin18 rfl dX6_wrongLegs_38 ?_
    refine lv_bipush (v := 24) hx hb dX6_wrongLegs_39 (by decide) ?_
    refine lv_icmp_le (tgt := 47) hx hb dX6_wrongLegs_41 (by decide) (fun c21 => ?_) (fun c21 => ?_)
    · replace h := h.1 c21
      refine lv_iconst (v := 0) hx hb dX6_wrongLegs_47 (by decide) ?_
      refine lv_istore_n (lv' := [(3, .int (0 : Int32)), (2, .int r15), (0, .ref (ga G 57)), (1, .int x1)]) hx hb dX6_wrongLegs_48 rfl hl (by decide) rfl (fun ls hl => ?_)
      obtain ⟨n, h⟩ := h
      exact t_X6_wrongLegs_49 C n M16 x1 (0 : Int32)  w (lv_sub hl [2, 3, 0] rfl) h
    replace h := h.2 c21
    exact t_X6_wrongLegs_44 C M16   w (lv_sub hl [] rfl) h
  replace h := h.2 c17
  refine lv_iload_n hx hb dX6_wrongLegs_11 rfl (lv_at hl 0 rfl) ?_
  exact ret_i C w h dX6_wrongLegs_12
def j_X6_legs_161 (post : Int32 → Mem → Prop) (M : Mem) (y0 : Int32) : Prop := post y0 M
def j_X6_legs_143 (k79 : Mem → Int32 → Int32 → Int32 → Int32 → Int32 → Int32 → Prop) (post : Int32 → Mem → Prop) (M : Mem) (x1 : Int32) (x2 : Int32) (x4 : Int32) (x5 : Int32) (x6 : Int32) (x7 : Int32) : Prop := k79 M x1 x2 x4 x5 x6 (x7 + (1 : Int32))
def j_X6_legs_135 (k79 : Mem → Int32 → Int32 → Int32 → Int32 → Int32 → Int32 → Prop) (post : Int32 → Mem → Prop) (M : Mem) (x1 : Int32) (x2 : Int32) (x6 : Int32) (x7 : Int32) (x8 : Int32) : Prop := j_X6_legs_143 k79 post M x1 x2 x7 x8 x6 x7
def b_X6_legs_79 (k79 : Mem → Int32 → Int32 → Int32 → Int32 → Int32 → Int32 → Prop) (post : Int32 → Mem → Prop) (M : Mem) (x1 : Int32) (x2 : Int32) (x4 : Int32) (x5 : Int32) (x6 : Int32) (x7 : Int32) : Prop := vp_in x1 8 ∧ ((((M 64 x1.toNatClampNeg) / (3 : Int32)) ≤ x7 → ((x2 = (1 : Int32) → (j_X6_legs_161 post M x6)) ∧ (¬ (x2 = (1 : Int32)) → (j_X6_legs_161 post M x4)))) ∧ (¬ (((M 64 x1.toNatClampNeg) / (3 : Int32)) ≤ x7) → (vp_in (((100 : Int32) * x1) + ((3 : Int32) * x7)) 800 ∧ (∀ v5 : Int32, v5 = (x6 + (M 65 (((100 : Int32) * x1) + ((3 : Int32) * x7)).toNatClampNeg)) → (q_X6_greatestLegs M x1 x7 (fun r6 M7 => (x7 ≤ 0 → (j_X6_legs_135 k79 post M7 x1 x2 v5 x7 r6)) ∧ (¬ (x7 ≤ 0) → ((r6 < x5 → (j_X6_legs_135 k79 post M7 x1 x2 v5 x7 r6)) ∧ (¬ (r6 < x5) → (j_X6_legs_143 k79 post M7 x1 x2 x4 x5 v5 x7))))))))))
def lp_X6_legs_79 (post : Int32 → Mem → Prop) : Nat → Mem → Int32 → Int32 → Int32 → Int32 → Int32 → Int32 → Prop
  | 0 => fun _ _ _ _ _ _ _ => False
  | n + 1 => fun M x1 x2 x4 x5 x6 x7 => b_X6_legs_79 (lp_X6_legs_79 post n) post M x1 x2 x4 x5 x6 x7
def j_X6_legs_41 (post : Int32 → Mem → Prop) (M : Mem) (x1 : Int32) (x2 : Int32) (x3 : Int32) : Prop := (x3 = 0 → (q_X6_allPieces M  (fun r11 M12 => q_X6_sumsUp M12 r11 (fun M14 => (x2 = 0 → (q_X6_greatestLegs M14 x1 (-4 : Int32) (fun r16 M17 => post r16 M17))) ∧ (¬ (x2 = 0) → (∃ n, lp_X6_legs_79 post n M14 x1 x2 (0 : Int32) (0 : Int32) (0 : Int32) (0 : Int32))))))) ∧ (¬ (x3 = 0) → (post x3 M))
def j_X6_legs_19 (post : Int32 → Mem → Prop) (M : Mem) : Prop := post (-1 : Int32) M
def q_X6_legs (M : Mem) (x1 : Int32) (x2 : Int32) (post : Int32 → Mem → Prop) : Prop := q_X6_isShelf M x1 (fun r18 M19 => (r18 = 0 → (j_X6_legs_19 post M19)) ∧ (¬ (r18 = 0) → (q_X6_isIn M19 x2.toInt64 (0 : Int64) (2 : Int64) (fun r21 M22 => (r21 = 0 → (j_X6_legs_19 post M22)) ∧ (¬ (r21 = 0) → (q_X6_wrongLegs M22 x1 (fun r24 M25 => (r24 = 0 → (q_X6_isLine M25  (fun r27 M28 => (r27 = 0 → (j_X6_legs_41 post M28 x1 x2 (-3 : Int32))) ∧ (¬ (r27 = 0) → (j_X6_legs_41 post M28 x1 x2 r24))))) ∧ (¬ (r24 = 0) → (j_X6_legs_41 post M25 x1 x2 r24)))))))))
set_option maxHeartbeats 4000000 in
set_option maxRecDepth 100000 in
theorem t_X6_legs_161 (C : Cx G p s m args meth c RX6 cX6_legs 9 (some .int)) {post : Int32 → Mem → Prop} (M : Mem) (y0 : Int32) {H : Heap} {locs : List Loc} {ls : Array Slot} (w : Wd G s M H locs) (hl : lv_has ls 9 []) (h : j_X6_legs_161 post M y0) : W p l e (rmk 7) s m args below meth c H locs 0 0 (MQ below (va_Qi post (Qw G) (Af G s.heap.size)) args s 0 0 (Af G s.heap.size)) (F0 m 161 ls [.int y0]) := by
  have hx := C.1.1
  have hb := C.1.2.1
  unfold j_X6_legs_161 at h
  exact ret_i C w h dX6_legs_161
set_option maxHeartbeats 4000000 in
set_option maxRecDepth 100000 in
theorem t_X6_legs_143 (C : Cx G p s m args meth c RX6 cX6_legs 9 (some .int)) {post : Int32 → Mem → Prop} {k79 : Mem → Int32 → Int32 → Int32 → Int32 → Int32 → Int32 → Prop} (hk79 : ∀ (M : Mem) (x1 : Int32) (x2 : Int32) (x4 : Int32) (x5 : Int32) (x6 : Int32) (x7 : Int32) (H : Heap) (locs : List Loc) (ls : Array Slot), Wd G s M H locs → lv_has ls 9 [(0, .ref (ga G 57)), (1, .int x1), (2, .int x2), (4, .int x4), (5, .int x5), (6, .int x6), (7, .int x7)] → k79 M x1 x2 x4 x5 x6 x7 → W p l e (rmk 7) s m args below meth c H locs 0 0 (MQ below (va_Qi post (Qw G) (Af G s.heap.size)) args s 0 0 (Af G s.heap.size)) (F0 m 79 ls [])) (M : Mem) (x1 : Int32) (x2 : Int32) (x4 : Int32) (x5 : Int32) (x6 : Int32) (x7 : Int32) {H : Heap} {locs : List Loc} {ls : Array Slot} (w : Wd G s M H locs) (hl : lv_has ls 9 [(0, .ref (ga G 57)), (1, .int x1), (2, .int x2), (4, .int x4), (5, .int x5), (6, .int x6), (7, .int x7)]) (h : j_X6_legs_143 k79 post M x1 x2 x4 x5 x6 x7) : W p l e (rmk 7) s m args below meth c H locs 0 0 (MQ below (va_Qi post (Qw G) (Af G s.heap.size)) args s 0 0 (Af G s.heap.size)) (F0 m 143 ls []) := by
  have hx := C.1.1
  have hb := C.1.2.1
  unfold j_X6_legs_143 at h
  refine lv_iinc (v := (x7 + (1 : Int32))) (lv' := [(7, .int (x7 + (1 : Int32))), (0, .ref (ga G 57)), (1, .int x1), (2, .int x2), (4, .int x4), (5, .int x5), (6, .int x6)]) hx hb dX6_legs_143 hl (k := 6) rfl rfl (by decide) rfl (fun ls hl => ?_)
  refine lv_goto (tgt := 79) hx hb dX6_legs_146 (by decide) ?_
  exact hk79 M x1 x2 x4 x5 x6 (x7 + (1 : Int32)) _ _ _  w (lv_sub hl [1, 2, 3, 4, 5, 6, 0] rfl) h
set_option maxHeartbeats 4000000 in
set_option maxRecDepth 100000 in
theorem t_X6_legs_135 (C : Cx G p s m args meth c RX6 cX6_legs 9 (some .int)) {post : Int32 → Mem → Prop} {k79 : Mem → Int32 → Int32 → Int32 → Int32 → Int32 → Int32 → Prop} (hk79 : ∀ (M : Mem) (x1 : Int32) (x2 : Int32) (x4 : Int32) (x5 : Int32) (x6 : Int32) (x7 : Int32) (H : Heap) (locs : List Loc) (ls : Array Slot), Wd G s M H locs → lv_has ls 9 [(0, .ref (ga G 57)), (1, .int x1), (2, .int x2), (4, .int x4), (5, .int x5), (6, .int x6), (7, .int x7)] → k79 M x1 x2 x4 x5 x6 x7 → W p l e (rmk 7) s m args below meth c H locs 0 0 (MQ below (va_Qi post (Qw G) (Af G s.heap.size)) args s 0 0 (Af G s.heap.size)) (F0 m 79 ls [])) (M : Mem) (x1 : Int32) (x2 : Int32) (x6 : Int32) (x7 : Int32) (x8 : Int32) {H : Heap} {locs : List Loc} {ls : Array Slot} (w : Wd G s M H locs) (hl : lv_has ls 9 [(0, .ref (ga G 57)), (1, .int x1), (2, .int x2), (6, .int x6), (7, .int x7), (8, .int x8)]) (h : j_X6_legs_135 k79 post M x1 x2 x6 x7 x8) : W p l e (rmk 7) s m args below meth c H locs 0 0 (MQ below (va_Qi post (Qw G) (Af G s.heap.size)) args s 0 0 (Af G s.heap.size)) (F0 m 135 ls []) := by
  have hx := C.1.1
  have hb := C.1.2.1
  unfold j_X6_legs_135 at h
  refine lv_iload hx hb dX6_legs_135 (lv_at hl 4 rfl) ?_
  refine lv_istore (lv' := [(4, .int x7), (0, .ref (ga G 57)), (1, .int x1), (2, .int x2), (6, .int x6), (7, .int x7), (8, .int x8)]) hx hb dX6_legs_137 hl (by decide) rfl (fun ls hl => ?_)
  refine lv_iload hx hb dX6_legs_139 (lv_at hl 6 rfl) ?_
  refine lv_istore (lv' := [(5, .int x8), (4, .int x7), (0, .ref (ga G 57)), (1, .int x1), (2, .int x2), (6, .int x6), (7, .int x7), (8, .int x8)]) hx hb dX6_legs_141 hl (by decide) rfl (fun ls hl => ?_)
  exact t_X6_legs_143 C hk79 M x1 x2 x7 x8 x6 x7  w (lv_sub hl [2, 3, 4, 1, 0, 5, 6] rfl) h
set_option maxHeartbeats 4000000 in
set_option maxRecDepth 100000 in
theorem t_X6_legs_79 (C : Cx G p s m args meth c RX6 cX6_legs 9 (some .int)) {post : Int32 → Mem → Prop} : ∀ (n : Nat) (M : Mem) (x1 : Int32) (x2 : Int32) (x4 : Int32) (x5 : Int32) (x6 : Int32) (x7 : Int32) {H : Heap} {locs : List Loc} {ls : Array Slot} (w : Wd G s M H locs) (hl : lv_has ls 9 [(0, .ref (ga G 57)), (1, .int x1), (2, .int x2), (4, .int x4), (5, .int x5), (6, .int x6), (7, .int x7)]) (h : lp_X6_legs_79 post n M x1 x2 x4 x5 x6 x7), W p l e (rmk 7) s m args below meth c H locs 0 0 (MQ below (va_Qi post (Qw G) (Af G s.heap.size)) args s 0 0 (Af G s.heap.size)) (F0 m 79 ls []) := by
  have hx := C.1.1
  have hb := C.1.2.1
  intro n9
  induction n9 with
  | zero => intro M x1 x2 x4 x5 x6 x7 H locs ls w hl h; exact absurd h id
  | succ n9 ih9 =>
    intro M x1 x2 x4 x5 x6 x7 H locs ls w hl h
    have hk79 : ∀ (M : Mem) (x1 : Int32) (x2 : Int32) (x4 : Int32) (x5 : Int32) (x6 : Int32) (x7 : Int32) (H : Heap) (locs : List Loc) (ls : Array Slot), Wd G s M H locs → lv_has ls 9 [(0, .ref (ga G 57)), (1, .int x1), (2, .int x2), (4, .int x4), (5, .int x5), (6, .int x6), (7, .int x7)] → lp_X6_legs_79 post n9 M x1 x2 x4 x5 x6 x7 → W p l e (rmk 7) s m args below meth c H locs 0 0 (MQ below (va_Qi post (Qw G) (Af G s.heap.size)) args s 0 0 (Af G s.heap.size)) (F0 m 79 ls []) := fun M x1 x2 x4 x5 x6 x7 H locs ls w hl h => ih9 M x1 x2 x4 x5 x6 x7 w hl h
    replace h : b_X6_legs_79 (lp_X6_legs_79 post n9) post M x1 x2 x4 x5 x6 x7 := h
    unfold b_X6_legs_79 at h
    refine lv_iload hx hb dX6_legs_79 (lv_at hl 6 rfl) ?_
    refine lv_aload_n hx hb dX6_legs_81 rfl (lv_at hl 0 rfl) ?_
    refine gt_6_6 C w kw_5_6 dX6_legs_82 ?_
    refine lv_iload_n hx hb dX6_legs_85 rfl (lv_at hl 1 rfl) ?_
    have hin1 := h.1
    replace h := h.2
    have hz_hin1 := in_lt hin1
    refine pw_ld C w (i := 64) (by decide) pE_64 hin1 rfl dX6_legs_86 ?_
    refine lv_iconst (v := 3) hx hb dX6_legs_87 (by decide) ?_
    refine lv_idiv hx hb dX6_legs_88 (by decide) ?_
    refine lv_icmp_ge (tgt := 149) hx hb dX6_legs_89 (by decide) (fun c2 => ?_) (fun c2 => ?_)
    · replace h := h.1 c2
      refine lv_iload_n hx hb dX6_legs_149 rfl (lv_at hl 2 rfl) ?_
      refine lv_iconst (v := 1) hx hb dX6_legs_150 (by decide) ?_
      refine lv_icmp_ne (tgt := 159) hx hb dX6_legs_151 (by decide) (fun c3 => ?_) (fun c3 => ?_)
      · replace h := h.2 c3
        refine lv_iload hx hb dX6_legs_159 (lv_at hl 3 rfl) ?_
        exact t_X6_legs_161 C M x4  w (lv_sub hl [] rfl) h
      replace h := h.1 c3
      refine lv_iload hx hb dX6_legs_154 (lv_at hl 5 rfl) ?_
      refine lv_goto (tgt := 161) hx hb dX6_legs_156 (by decide) ?_
      exact t_X6_legs_161 C M x6  w (lv_sub hl [] rfl) h
    replace h := h.2 c2
    refine lv_iload hx hb dX6_legs_92 (lv_at hl 5 rfl) ?_
    refine lv_aload_n hx hb dX6_legs_94 rfl (lv_at hl 0 rfl) ?_
    refine gt_6_7 C w kw_5_7 dX6_legs_95 ?_
    refine lv_bipush (v := 100) hx hb dX6_legs_98 (by decide) ?_
    refine lv_iload_n hx hb dX6_legs_100 rfl (lv_at hl 1 rfl) ?_
    refine lv_imul hx hb dX6_legs_101 ?_
    refine lv_iconst (v := 3) hx hb dX6_legs_102 (by decide) ?_
    refine lv_iload hx hb dX6_legs_103 (lv_at hl 6 rfl) ?_
    refine lv_imul hx hb dX6_legs_105 ?_
    refine lv_iadd hx hb dX6_legs_106 ?_
    have hin4 := h.1
    replace h := h.2
    have hz_hin4 := in_lt hin4
    refine pw_ld C w (i := 65) (by decide) pE_65 hin4 rfl dX6_legs_107 ?_
    refine lv_iadd hx hb dX6_legs_108 ?_
    refine lv_topi (fun v5 ev5 => ?_)
    replace h := h v5 ev5
    refine lv_istore (lv' := [(6, .int v5), (0, .ref (ga G 57)), (1, .int x1), (2, .int x2), (4, .int x4), (5, .int x5), (7, .int x7)]) hx hb dX6_legs_109 hl (by decide) rfl (fun ls hl => ?_)
    refine lv_aload_n hx hb dX6_legs_111 rfl (lv_at hl 1 rfl) ?_
    refine lv_iload_n hx hb dX6_legs_112 rfl (lv_at hl 2 rfl) ?_
    refine lv_iload hx hb dX6_legs_113 (lv_at hl 6 rfl) ?_
    refine end_i w (run_V (As := [.int x1, .int x7]) C w hl.1 (c_X6_greatestLegs l G C.2.2.1 _ _ x1 x7  _ h) kw_33_11 kw_1_5 kw_33_8 kw_33_9 kw_33_10 hd_X6_greatestLegs ⟨by decide, by decide⟩ (w.recv C (i := 57) (by decide) (pE_6) rfl) rfl (Nat.le_of_ble_eq_true rfl) dX6_legs_115) (fun r6 M7 H locs h w => ?_)
    refine lv_istore (lv' := [(8, .int r6), (6, .int v5), (0, .ref (ga G 57)), (1, .int x1), (2, .int x2), (4, .int x4), (5, .int x5), (7, .int x7)]) hx hb dX6_legs_118 hl (by decide) rfl (fun ls hl => ?_)
    refine lv_iload hx hb dX6_legs_120 (lv_at hl 7 rfl) ?_
    refine lv_if_le (tgt := 135) hx hb dX6_legs_122 (by decide) (fun c8 => ?_) (fun c8 => ?_)
    · replace h := h.1 c8
      exact t_X6_legs_135 C hk79 M7 x1 x2 v5 x7 r6  w (lv_sub hl [2, 3, 4, 1, 7, 0] rfl) h
    replace h := h.2 c8
    refine lv_iload hx hb dX6_legs_125 (lv_at hl 0 rfl) ?_
    refine lv_iload hx hb dX6_legs_127 (lv_at hl 6 rfl) ?_
    refine lv_icmp_lt (tgt := 135) hx hb dX6_legs_129 (by decide) (fun c9 => ?_) (fun c9 => ?_)
    · replace h := h.1 c9
      exact t_X6_legs_135 C hk79 M7 x1 x2 v5 x7 r6  w (lv_sub hl [2, 3, 4, 1, 7, 0] rfl) h
    replace h := h.2 c9
    refine lv_goto (tgt := 143) hx hb dX6_legs_132 (by decide) ?_
    exact t_X6_legs_143 C hk79 M7 x1 x2 x4 x5 v5 x7  w (lv_sub hl [2, 3, 4, 5, 6, 1, 7] rfl) h
set_option maxHeartbeats 4000000 in
set_option maxRecDepth 100000 in
theorem t_X6_legs_41 (C : Cx G p s m args meth c RX6 cX6_legs 9 (some .int)) {post : Int32 → Mem → Prop} (M : Mem) (x1 : Int32) (x2 : Int32) (x3 : Int32) {H : Heap} {locs : List Loc} {ls : Array Slot} (w : Wd G s M H locs) (hl : lv_has ls 9 [(0, .ref (ga G 57)), (1, .int x1), (2, .int x2), (3, .int x3)]) (h : j_X6_legs_41 post M x1 x2 x3) : W p l e (rmk 7) s m args below meth c H locs 0 0 (MQ below (va_Qi post (Qw G) (Af G s.heap.size)) args s 0 0 (Af G s.heap.size)) (F0 m 41 ls []) := by
  have hx := C.1.1
  have hb := C.1.2.1
  unfold j_X6_legs_41 at h
  refine lv_iload_n hx hb dX6_legs_41 rfl (lv_at hl 3 rfl) ?_
  refine lv_if_eq (tgt := 47) hx hb dX6_legs_42 (by decide) (fun c10 => ?_) (fun c10 => ?_)
  · replace h := h.1 c10
    refine lv_aload_n hx hb dX6_legs_47 rfl (lv_at hl 0 rfl) ?_
    refine lv_aload_n hx hb dX6_legs_48 rfl (lv_at hl 0 rfl) ?_
    refine end_i w (run_V (As := []) C w hl.1 (c_X6_allPieces l G C.2.2.1 _ _   _ h) kw_17_15 kw_1_5 kw_17_12 kw_17_13 kw_17_14 hd_X6_allPieces ⟨by decide, by decide⟩ (w.recv C (i := 57) (by decide) (pE_6) rfl) rfl (Nat.le_of_ble_eq_true rfl) dX6_legs_49) (fun r11 M12 H locs h w => ?_)
    refine end_v w (run_V (As := [.int r11]) C w hl.1 (c_X6_sumsUp l G C.2.2.1 _ _ r11  _ h) kw_17_19 kw_1_5 kw_17_16 kw_17_17 kw_17_18 hd_X6_sumsUp ⟨by decide, by decide⟩ (w.recv C (i := 57) (by decide) (pE_6) rfl) rfl (Nat.le_of_ble_eq_true rfl) dX6_legs_52) (fun M14 H locs h w => ?_)
    refine lv_iload_n hx hb dX6_legs_55 rfl (lv_at hl 2 rfl) ?_
    refine lv_if_ne (tgt := 67) hx hb dX6_legs_56 (by decide) (fun c15 => ?_) (fun c15 => ?_)
    · replace h := h.2 c15
      refine lv_iconst (v := 0) hx hb dX6_legs_67 (by decide) ?_
      refine lv_istore (lv' := [(4, .int (0 : Int32)), (0, .ref (ga G 57)), (1, .int x1), (2, .int x2), (3, .int x3)]) hx hb dX6_legs_68 hl (by decide) rfl (fun ls hl => ?_)
      refine lv_iconst (v := 0) hx hb dX6_legs_70 (by decide) ?_
      refine lv_istore (lv' := [(5, .int (0 : Int32)), (4, .int (0 : Int32)), (0, .ref (ga G 57)), (1, .int x1), (2, .int x2), (3, .int x3)]) hx hb dX6_legs_71 hl (by decide) rfl (fun ls hl => ?_)
      refine lv_iconst (v := 0) hx hb dX6_legs_73 (by decide) ?_
      refine lv_istore (lv' := [(6, .int (0 : Int32)), (5, .int (0 : Int32)), (4, .int (0 : Int32)), (0, .ref (ga G 57)), (1, .int x1), (2, .int x2), (3, .int x3)]) hx hb dX6_legs_74 hl (by decide) rfl (fun ls hl => ?_)
      refine lv_iconst (v := 0) hx hb dX6_legs_76 (by decide) ?_
      refine lv_istore (lv' := [(7, .int (0 : Int32)), (6, .int (0 : Int32)), (5, .int (0 : Int32)), (4, .int (0 : Int32)), (0, .ref (ga G 57)), (1, .int x1), (2, .int x2), (3, .int x3)]) hx hb dX6_legs_77 hl (by decide) rfl (fun ls hl => ?_)
      obtain ⟨n, h⟩ := h
      exact t_X6_legs_79 C n M14 x1 x2 (0 : Int32) (0 : Int32) (0 : Int32) (0 : Int32)  w (lv_sub hl [4, 5, 6, 3, 2, 1, 0] rfl) h
    replace h := h.1 c15
    refine lv_aload_n hx hb dX6_legs_59 rfl (lv_at hl 0 rfl) ?_
    refine lv_iload_n hx hb dX6_legs_60 rfl (lv_at hl 1 rfl) ?_
    refine lv_bipush (v := -4) hx hb dX6_legs_61 (by decide) ?_
    refine end_i w (run_V (As := [.int x1, .int (-4 : Int32)]) C w hl.1 (c_X6_greatestLegs l G C.2.2.1 _ _ x1 (-4 : Int32)  _ h) kw_33_11 kw_1_5 kw_33_8 kw_33_9 kw_33_10 hd_X6_greatestLegs ⟨by decide, by decide⟩ (w.recv C (i := 57) (by decide) (pE_6) rfl) rfl (Nat.le_of_ble_eq_true rfl) dX6_legs_63) (fun r16 M17 H locs h w => ?_)
    exact ret_i C w h dX6_legs_66
  replace h := h.2 c10
  refine lv_iload_n hx hb dX6_legs_45 rfl (lv_at hl 3 rfl) ?_
  exact ret_i C w h dX6_legs_46
set_option maxHeartbeats 4000000 in
set_option maxRecDepth 100000 in
theorem t_X6_legs_19 (C : Cx G p s m args meth c RX6 cX6_legs 9 (some .int)) {post : Int32 → Mem → Prop} (M : Mem) {H : Heap} {locs : List Loc} {ls : Array Slot} (w : Wd G s M H locs) (hl : lv_has ls 9 []) (h : j_X6_legs_19 post M) : W p l e (rmk 7) s m args below meth c H locs 0 0 (MQ below (va_Qi post (Qw G) (Af G s.heap.size)) args s 0 0 (Af G s.heap.size)) (F0 m 19 ls []) := by
  have hx := C.1.1
  have hb := C.1.2.1
  unfold j_X6_legs_19 at h
  refine lv_iconst (v := -1) hx hb dX6_legs_19 (by decide) ?_
  exact ret_i C w h dX6_legs_20
set_option maxHeartbeats 4000000 in
set_option maxRecDepth 100000 in
theorem c_X6_legs (l : Launch) (G : GG) (hG : Ag G) (sz : Nat) (M : Mem) (x1 : Int32) (x2 : Int32) (post : Int32 → Mem → Prop) (h : q_X6_legs M x1 x2 post) : Met l yX6_legs (Cond.code yX6_legs cX6_legs 9 (some .int) :: wsL_law) (rmk 7) (va_Pc [.ref (ga G 57), .int x1, .int x2] (Pw G sz M)) (va_Qi post (Qw G) (Af G sz)) 0 0 (Af G sz) := by
  refine Met.ofW (cc := cX6_legs) (maxL := 9) (ret := (some .int)) (by decide) rfl ?_
  intro p e s m args below meth c s₁ B hml hv
  obtain ⟨rfl, hsz, hE, hP⟩ := hv
  subst hsz
  have C := Cx.of (own := RX6) hG hE rfl hml B
  have w : Wd G s M s.heap [] := ⟨hP, va_S.rf⟩
  have hl := lv_entry [.ref (ga G 57), .int x1, .int x2] (n := 9) (Nat.le_of_ble_eq_true rfl)
  rw [lg_entry_eq]
  generalize (lg_sl [.ref (ga G 57), .int x1, .int x2] ++ List.replicate (9 - (lg_sl [.ref (ga G 57), .int x1, .int x2]).length) Slot.unset).toArray = ls at hl ⊢
  have hl : lv_has ls 9 [(0, .ref (ga G 57)), (1, .int x1), (2, .int x2)] := hl
  have hx := C.1.1
  have hb := C.1.2.1
  show W p l e (rmk 7) s m _ below meth c s.heap [] 0 0 _ _
  unfold q_X6_legs at h
  refine lv_iload_n hx hb dX6_legs_0 rfl (lv_at hl 1 rfl) ?_
  refine end_i w (run_S (As := [.int x1]) C w hl.1 (c_X6_isShelf l G C.2.2.1 _ _ x1  _ h) kw_12_1 kw_1_5 kw_11_23 kw_12_0 hd_X6_isShelf ⟨by decide, by decide⟩ rfl (Nat.le_of_ble_eq_true rfl) dX6_legs_1) (fun r18 M19 H locs h w => ?_)
  refine lv_if_eq (tgt := 19) hx hb dX6_legs_4 (by decide) (fun c20 => ?_) (fun c20 => ?_)
  · replace h := h.1 c20
    exact t_X6_legs_19 C M19   w (lv_sub hl [] rfl) h
  replace h := h.2 c20
  refine lv_iload_n hx hb dX6_legs_7 rfl (lv_at hl 2 rfl) ?_
  refine lv_i2l hx hb dX6_legs_8 rfl ?_
  refine lv_lconst (v := 0) hx hb dX6_legs_9 (by decide) ?_
  refine lv_ldc2 hx hb C.1.2.2.2.1 (C.ws kw_23_18) dX6_legs_10 ?_
  refine end_i w (run_S (As := [.long x2.toInt64, .long (0 : Int64), .long (2 : Int64)]) C w hl.1 (c_X6_isIn l G C.2.2.1 _ _ x2.toInt64 (0 : Int64) (2 : Int64)  _ h) kw_12_5 kw_1_5 kw_12_3 kw_12_4 hd_X6_isIn ⟨by decide, by decide⟩ rfl (Nat.le_of_ble_eq_true rfl) dX6_legs_13) (fun r21 M22 H locs h w => ?_)
  refine lv_if_ne (tgt := 21) hx hb dX6_legs_16 (by decide) (fun c23 => ?_) (fun c23 => ?_)
  · replace h := h.2 c23
    refine lv_aload_n hx hb dX6_legs_21 rfl (lv_at hl 0 rfl) ?_
    refine lv_iload_n hx hb dX6_legs_22 rfl (lv_at hl 1 rfl) ?_
    refine end_i w (run_V (As := [.int x1]) C w hl.1 (c_X6_wrongLegs l G C.2.2.1 _ _ x1  _ h) kw_33_5 kw_1_5 kw_33_2 kw_33_3 kw_33_4 hd_X6_wrongLegs ⟨by decide, by decide⟩ (w.recv C (i := 57) (by decide) (pE_6) rfl) rfl (Nat.le_of_ble_eq_true rfl) dX6_legs_23) (fun r24 M25 H locs h w => ?_)
    refine lv_istore_n (lv' := [(3, .int r24), (0, .ref (ga G 57)), (1, .int x1), (2, .int x2)]) hx hb dX6_legs_26 rfl hl (by decide) rfl (fun ls hl => ?_)
    refine lv_iload_n hx hb dX6_legs_27 rfl (lv_at hl 0 rfl) ?_
    refine lv_if_ne (tgt := 41) hx hb dX6_legs_28 (by decide) (fun c26 => ?_) (fun c26 => ?_)
    · replace h := h.2 c26
      exact t_X6_legs_41 C M25 x1 x2 r24  w (lv_sub hl [1, 2, 3, 0] rfl) h
    replace h := h.1 c26
    refine lv_aload_n hx hb dX6_legs_31 rfl (lv_at hl 1 rfl) ?_
    refine end_i w (run_V (As := []) C w hl.1 (c_X6_isLine l G C.2.2.1 _ _   _ h) kw_17_11 kw_1_5 kw_17_8 kw_17_9 kw_17_10 hd_X6_isLine ⟨by decide, by decide⟩ (w.recv C (i := 57) (by decide) (pE_6) rfl) rfl (Nat.le_of_ble_eq_true rfl) dX6_legs_32) (fun r27 M28 H locs h w => ?_)
    refine lv_if_ne (tgt := 41) hx hb dX6_legs_35 (by decide) (fun c29 => ?_) (fun c29 => ?_)
    · replace h := h.2 c29
      exact t_X6_legs_41 C M28 x1 x2 r24  w (lv_sub hl [1, 2, 3, 0] rfl) h
    replace h := h.1 c29
    refine lv_bipush (v := -3) hx hb dX6_legs_38 (by decide) ?_
    refine lv_istore_n (lv' := [(3, .int (-3 : Int32)), (0, .ref (ga G 57)), (1, .int x1), (2, .int x2)]) hx hb dX6_legs_40 rfl hl (by decide) rfl (fun ls hl => ?_)
    exact t_X6_legs_41 C M28 x1 x2 (-3 : Int32)  w (lv_sub hl [1, 2, 3, 0] rfl) h
  replace h := h.1 c23
  exact t_X6_legs_19 C M22   w (lv_sub hl [] rfl) h
def j_X5_why_65 (post : Int32 → Mem → Prop) (M : Mem) (y0 : Int32) : Prop := post y0 M
def q_X5_why (M : Mem) (x1 : Int32) (post : Int32 → Mem → Prop) : Prop := q_X4_has M 1 x1 (fun r1 M2 => (r1 = 0 → (post (-1 : Int32) M2)) ∧ (¬ (r1 = 0) → (((M2 1 7) = x1 → (vp_in x1 6 ∧ (((M2 (38 + x1.toNatClampNeg) 4) = 0 → (post (0 : Int32) M2)) ∧ (¬ ((M2 (38 + x1.toNatClampNeg) 4) = 0) → (((M2 (38 + x1.toNatClampNeg) 7) < (M2 1 8) → (j_X5_why_65 post M2 (2 : Int32))) ∧ (¬ ((M2 (38 + x1.toNatClampNeg) 7) < (M2 1 8)) → (j_X5_why_65 post M2 (1 : Int32)))))))) ∧ (¬ ((M2 1 7) = x1) → (post (-4 : Int32) M2)))))
set_option maxHeartbeats 4000000 in
set_option maxRecDepth 100000 in
theorem t_X5_why_65 (C : Cx G p s m args meth c RX5 cX5_why 3 (some .int)) {post : Int32 → Mem → Prop} (M : Mem) (y0 : Int32) {H : Heap} {locs : List Loc} {ls : Array Slot} (w : Wd G s M H locs) (hl : lv_has ls 3 []) (h : j_X5_why_65 post M y0) : W p l e (rmk 2) s m args below meth c H locs 0 0 (MQ below (va_Qi post (Qw G) (Af G s.heap.size)) args s 0 0 (Af G s.heap.size)) (F0 m 65 ls [.int y0]) := by
  have hx := C.1.1
  have hb := C.1.2.1
  unfold j_X5_why_65 at h
  exact ret_i C w h dX5_why_65
set_option maxHeartbeats 4000000 in
set_option maxRecDepth 100000 in
theorem c_X5_why (l : Launch) (G : GG) (hG : Ag G) (sz : Nat) (M : Mem) (x1 : Int32) (post : Int32 → Mem → Prop) (h : q_X5_why M x1 post) : Met l yX5_why (Cond.code yX5_why cX5_why 3 (some .int) :: wsL_law) (rmk 2) (va_Pc [.ref (ga G 0), .int x1] (Pw G sz M)) (va_Qi post (Qw G) (Af G sz)) 0 0 (Af G sz) := by
  refine Met.ofW (cc := cX5_why) (maxL := 3) (ret := (some .int)) (by decide) rfl ?_
  intro p e s m args below meth c s₁ B hml hv
  obtain ⟨rfl, hsz, hE, hP⟩ := hv
  subst hsz
  have C := Cx.of (own := RX5) hG hE rfl hml B
  have w : Wd G s M s.heap [] := ⟨hP, va_S.rf⟩
  have hl := lv_entry [.ref (ga G 0), .int x1] (n := 3) (Nat.le_of_ble_eq_true rfl)
  rw [lg_entry_eq]
  generalize (lg_sl [.ref (ga G 0), .int x1] ++ List.replicate (3 - (lg_sl [.ref (ga G 0), .int x1]).length) Slot.unset).toArray = ls at hl ⊢
  have hl : lv_has ls 3 [(0, .ref (ga G 0)), (1, .int x1)] := hl
  have hx := C.1.1
  have hb := C.1.2.1
  show W p l e (rmk 2) s m _ below meth c s.heap [] 0 0 _ _
  unfold q_X5_why at h
  refine lv_aload_n hx hb dX5_why_0 rfl (lv_at hl 0 rfl) ?_
  refine gt_5_0 C w kw_1_16 dX5_why_1 ?_
  refine lv_iload_n hx hb dX5_why_4 rfl (lv_at hl 1 rfl) ?_
  refine end_i w (run_VN (As := [.int x1]) C w hl.1 (c_X4_has l G C.2.2.1 _ _ 1 x1 ⟨by decide, by decide⟩ _ h) kw_13_22 kw_1_15 kn_53 kw_13_20 kw_13_21 hd_X4_has ⟨by decide, by decide⟩ (w.recv C (i := 1) (by decide) (pE_4 ⟨by decide, by decide⟩) rfl) rfl (Nat.le_of_ble_eq_true rfl) dX5_why_5) (fun r1 M2 H locs h w => ?_)
  refine lv_if_ne (tgt := 13) hx hb dX5_why_8 (by decide) (fun c3 => ?_) (fun c3 => ?_)
  · replace h := h.2 c3
    refine lv_aload_n hx hb dX5_why_13 rfl (lv_at hl 0 rfl) ?_
    refine gt_5_0 C w kw_1_16 dX5_why_14 ?_
    refine gn_4_7 C w ⟨by decide, by decide⟩ kn_22 dX5_why_17 ?_
    refine lv_iload_n hx hb dX5_why_20 rfl (lv_at hl 1 rfl) ?_
    refine lv_icmp_eq (tgt := 27) hx hb dX5_why_21 (by decide) (fun c4 => ?_) (fun c4 => ?_)
    · replace h := h.1 c4
      refine lv_aload_n hx hb dX5_why_27 rfl (lv_at hl 0 rfl) ?_
      refine gt_5_0 C w kw_1_16 dX5_why_28 ?_
      refine gn_4_0 C w ⟨by decide, by decide⟩ kn_13 dX5_why_31 ?_
      refine lv_iload_n hx hb dX5_why_34 rfl (lv_at hl 1 rfl) ?_
      have hin5 := h.1
      replace h := h.2
      have hz_hin5 := in_lt hin5
      refine pw_ldP C w (i := 8) ⟨by decide, by decide⟩ hin5 dX5_why_35 (j := (38 + x1.toNatClampNeg)) (by omega) ?_
      refine lv_astore_n (lv' := [(2, .ref (ga G (38 + x1.toNatClampNeg))), (0, .ref (ga G 0)), (1, .int x1)]) hx hb dX5_why_36 rfl hl (by decide) rfl (fun ls hl => ?_)
      refine lv_aload_n hx hb dX5_why_37 rfl (lv_at hl 0 rfl) ?_
      refine gn_1_4 C w (by omega) kn_4 dX5_why_38 ?_
      refine lv_if_ne (tgt := 46) hx hb dX5_why_41 (by decide) (fun c6 => ?_) (fun c6 => ?_)
      · replace h := h.2 c6
        refine lv_aload_n hx hb dX5_why_46 rfl (lv_at hl 1 rfl) ?_
        refine gt_5_0 C w kw_1_16 dX5_why_47 ?_
        refine gn_4_8 C w ⟨by decide, by decide⟩ kn_23 dX5_why_50 ?_
        refine lv_aload_n hx hb dX5_why_53 rfl (lv_at hl 0 rfl) ?_
        refine gn_1_7 C w (by omega) kn_10 dX5_why_54 ?_
        refine lv_icmp_gt (tgt := 64) hx hb dX5_why_57 (by decide) (fun c7 => ?_) (fun c7 => ?_)
        · replace h := h.1 c7
          refine lv_iconst (v := 2) hx hb dX5_why_64 (by decide) ?_
          exact t_X5_why_65 C M2 (2 : Int32)  w (lv_sub hl [] rfl) h
        replace h := h.2 c7
        refine lv_iconst (v := 1) hx hb dX5_why_60 (by decide) ?_
        refine lv_goto (tgt := 65) hx hb dX5_why_61 (by decide) ?_
        exact t_X5_why_65 C M2 (1 : Int32)  w (lv_sub hl [] rfl) h
      replace h := h.1 c6
      refine lv_iconst (v := 0) hx hb dX5_why_44 (by decide) ?_
      exact ret_i C w h dX5_why_45
    replace h := h.2 c4
    refine lv_bipush (v := -4) hx hb dX5_why_24 (by decide) ?_
    exact ret_i C w h dX5_why_26
  replace h := h.1 c3
  refine lv_iconst (v := -1) hx hb dX5_why_11 (by decide) ?_
  exact ret_i C w h dX5_why_12
def j_X6_why_32 (post : Int32 → Mem → Prop) (M : Mem) (y0 : Int32) : Prop := post y0 M
def q_X6_why (M : Mem) (x1 : Int32) (post : Int32 → Mem → Prop) : Prop := q_X6_isPiece M x1 (fun r1 M2 => (r1 = 0 → (j_X6_why_32 post M2 (-1 : Int32))) ∧ (¬ (r1 = 0) → (q_X6_get M2 x1 (4 : Int32) (fun r4 M5 => (r4 = 0 → (j_X6_why_32 post M5 (-4 : Int32))) ∧ (¬ (r4 = 0) → (q_X6_get M5 x1 (5 : Int32) (fun r7 M8 => j_X6_why_32 post M8 r7)))))))
set_option maxHeartbeats 4000000 in
set_option maxRecDepth 100000 in
theorem t_X6_why_32 (C : Cx G p s m args meth c RX6 cX6_why 2 (some .int)) {post : Int32 → Mem → Prop} (M : Mem) (y0 : Int32) {H : Heap} {locs : List Loc} {ls : Array Slot} (w : Wd G s M H locs) (hl : lv_has ls 2 []) (h : j_X6_why_32 post M y0) : W p l e (rmk 3) s m args below meth c H locs 0 0 (MQ below (va_Qi post (Qw G) (Af G s.heap.size)) args s 0 0 (Af G s.heap.size)) (F0 m 32 ls [.int y0]) := by
  have hx := C.1.1
  have hb := C.1.2.1
  unfold j_X6_why_32 at h
  exact ret_i C w h dX6_why_32
set_option maxHeartbeats 4000000 in
set_option maxRecDepth 100000 in
theorem c_X6_why (l : Launch) (G : GG) (hG : Ag G) (sz : Nat) (M : Mem) (x1 : Int32) (post : Int32 → Mem → Prop) (h : q_X6_why M x1 post) : Met l yX6_why (Cond.code yX6_why cX6_why 2 (some .int) :: wsL_law) (rmk 3) (va_Pc [.ref (ga G 57), .int x1] (Pw G sz M)) (va_Qi post (Qw G) (Af G sz)) 0 0 (Af G sz) := by
  refine Met.ofW (cc := cX6_why) (maxL := 2) (ret := (some .int)) (by decide) rfl ?_
  intro p e s m args below meth c s₁ B hml hv
  obtain ⟨rfl, hsz, hE, hP⟩ := hv
  subst hsz
  have C := Cx.of (own := RX6) hG hE rfl hml B
  have w : Wd G s M s.heap [] := ⟨hP, va_S.rf⟩
  have hl := lv_entry [.ref (ga G 57), .int x1] (n := 2) (Nat.le_of_ble_eq_true rfl)
  rw [lg_entry_eq]
  generalize (lg_sl [.ref (ga G 57), .int x1] ++ List.replicate (2 - (lg_sl [.ref (ga G 57), .int x1]).length) Slot.unset).toArray = ls at hl ⊢
  have hl : lv_has ls 2 [(0, .ref (ga G 57)), (1, .int x1)] := hl
  have hx := C.1.1
  have hb := C.1.2.1
  show W p l e (rmk 3) s m _ below meth c s.heap [] 0 0 _ _
  unfold q_X6_why at h
  refine lv_aload_n hx hb dX6_why_0 rfl (lv_at hl 0 rfl) ?_
  refine lv_iload_n hx hb dX6_why_1 rfl (lv_at hl 1 rfl) ?_
  refine end_i w (run_V (As := [.int x1]) C w hl.1 (c_X6_isPiece l G C.2.2.1 _ _ x1  _ h) kw_14_6 kw_1_5 kw_14_3 kw_14_4 kw_14_5 hd_X6_isPiece ⟨by decide, by decide⟩ (w.recv C (i := 57) (by decide) (pE_6) rfl) rfl (Nat.le_of_ble_eq_true rfl) dX6_why_2) (fun r1 M2 H locs h w => ?_)
  refine lv_if_ne (tgt := 12) hx hb dX6_why_5 (by decide) (fun c3 => ?_) (fun c3 => ?_)
  · replace h := h.2 c3
    refine lv_aload_n hx hb dX6_why_12 rfl (lv_at hl 0 rfl) ?_
    refine lv_iload_n hx hb dX6_why_13 rfl (lv_at hl 1 rfl) ?_
    refine lv_iconst (v := 4) hx hb dX6_why_14 (by decide) ?_
    refine end_i w (run_V (As := [.int x1, .int (4 : Int32)]) C w hl.1 (c_X6_get l G C.2.2.1 _ _ x1 (4 : Int32)  _ h) kw_14_10 kw_1_5 kw_14_7 kw_14_8 kw_14_9 hd_X6_get ⟨by decide, by decide⟩ (w.recv C (i := 57) (by decide) (pE_6) rfl) rfl (Nat.le_of_ble_eq_true rfl) dX6_why_15) (fun r4 M5 H locs h w => ?_)
    refine lv_if_ne (tgt := 26) hx hb dX6_why_18 (by decide) (fun c6 => ?_) (fun c6 => ?_)
    · replace h := h.2 c6
      refine lv_aload_n hx hb dX6_why_26 rfl (lv_at hl 0 rfl) ?_
      refine lv_iload_n hx hb dX6_why_27 rfl (lv_at hl 1 rfl) ?_
      refine lv_iconst (v := 5) hx hb dX6_why_28 (by decide) ?_
      refine end_i w (run_V (As := [.int x1, .int (5 : Int32)]) C w hl.1 (c_X6_get l G C.2.2.1 _ _ x1 (5 : Int32)  _ h) kw_14_10 kw_1_5 kw_14_7 kw_14_8 kw_14_9 hd_X6_get ⟨by decide, by decide⟩ (w.recv C (i := 57) (by decide) (pE_6) rfl) rfl (Nat.le_of_ble_eq_true rfl) dX6_why_29) (fun r7 M8 H locs h w => ?_)
      exact t_X6_why_32 C M8 r7  w (lv_sub hl [] rfl) h
    replace h := h.1 c6
    refine lv_bipush (v := -4) hx hb dX6_why_21 (by decide) ?_
    refine lv_goto (tgt := 32) hx hb dX6_why_23 (by decide) ?_
    exact t_X6_why_32 C M5 (-4 : Int32)  w (lv_sub hl [] rfl) h
  replace h := h.1 c3
  refine lv_iconst (v := -1) hx hb dX6_why_8 (by decide) ?_
  refine lv_goto (tgt := 32) hx hb dX6_why_9 (by decide) ?_
  exact t_X6_why_32 C M2 (-1 : Int32)  w (lv_sub hl [] rfl) h
def b_X5_caravan_23 (k23 : Mem → Int32 → Int32 → Int32 → Prop) (post : Int32 → Mem → Prop) (M : Mem) (x1 : Int32) (x2 : Int32) (x3 : Int32) : Prop := (x1 ≤ x3 → (post x2 M)) ∧ (¬ (x1 ≤ x3) → (q_X5_heldWithin M ((x2 * ((M 11 4) + (8 : Int32))) / (10 : Int32)) (-999 : Int32) (999 : Int32) (fun r2 M3 => k23 M3 x1 r2 (x3 + (1 : Int32)))))
def lp_X5_caravan_23 (post : Int32 → Mem → Prop) : Nat → Mem → Int32 → Int32 → Int32 → Prop
  | 0 => fun _ _ _ _ => False
  | n + 1 => fun M x1 x2 x3 => b_X5_caravan_23 (lp_X5_caravan_23 post n) post M x1 x2 x3
def q_X5_caravan (M : Mem) (x1 : Int32) (post : Int32 → Mem → Prop) : Prop := q_X5_isWithin M x1 (1 : Int32) (9 : Int32) (fun r4 M5 => (r4 = 0 → (post (-1000000001 : Int32) M5)) ∧ (¬ (r4 = 0) → (∃ n, lp_X5_caravan_23 post n M5 x1 (M5 1 3) (1 : Int32))))
set_option maxHeartbeats 4000000 in
set_option maxRecDepth 100000 in
theorem t_X5_caravan_23 (C : Cx G p s m args meth c RX5 cX5_caravan 4 (some .int)) {post : Int32 → Mem → Prop} : ∀ (n : Nat) (M : Mem) (x1 : Int32) (x2 : Int32) (x3 : Int32) {H : Heap} {locs : List Loc} {ls : Array Slot} (w : Wd G s M H locs) (hl : lv_has ls 4 [(0, .ref (ga G 0)), (1, .int x1), (2, .int x2), (3, .int x3)]) (h : lp_X5_caravan_23 post n M x1 x2 x3), W p l e (rmk 2) s m args below meth c H locs 0 0 (MQ below (va_Qi post (Qw G) (Af G s.heap.size)) args s 0 0 (Af G s.heap.size)) (F0 m 23 ls []) := by
  have hx := C.1.1
  have hb := C.1.2.1
  intro n9
  induction n9 with
  | zero => intro M x1 x2 x3 H locs ls w hl h; exact absurd h id
  | succ n9 ih9 =>
    intro M x1 x2 x3 H locs ls w hl h
    have hk23 : ∀ (M : Mem) (x1 : Int32) (x2 : Int32) (x3 : Int32) (H : Heap) (locs : List Loc) (ls : Array Slot), Wd G s M H locs → lv_has ls 4 [(0, .ref (ga G 0)), (1, .int x1), (2, .int x2), (3, .int x3)] → lp_X5_caravan_23 post n9 M x1 x2 x3 → W p l e (rmk 2) s m args below meth c H locs 0 0 (MQ below (va_Qi post (Qw G) (Af G s.heap.size)) args s 0 0 (Af G s.heap.size)) (F0 m 23 ls []) := fun M x1 x2 x3 H locs ls w hl h => ih9 M x1 x2 x3 w hl h
    replace h : b_X5_caravan_23 (lp_X5_caravan_23 post n9) post M x1 x2 x3 := h
    unfold b_X5_caravan_23 at h
    refine lv_iload_n hx hb dX5_caravan_23 rfl (lv_at hl 3 rfl) ?_
    refine lv_iload_n hx hb dX5_caravan_24 rfl (lv_at hl 1 rfl) ?_
    refine lv_icmp_ge (tgt := 61) hx hb dX5_caravan_25 (by decide) (fun c1 => ?_) (fun c1 => ?_)
    · replace h := h.1 c1
      refine lv_iload_n hx hb dX5_caravan_61 rfl (lv_at hl 2 rfl) ?_
      exact ret_i C w h dX5_caravan_62
    replace h := h.2 c1
    refine lv_iload_n hx hb dX5_caravan_28 rfl (lv_at hl 2 rfl) ?_
    refine lv_aload_n hx hb dX5_caravan_29 rfl (lv_at hl 0 rfl) ?_
    refine gt_5_0 C w kw_1_16 dX5_caravan_30 ?_
    refine gn_4_2 C w ⟨by decide, by decide⟩ kn_16 dX5_caravan_33 ?_
    refine lv_iconst (v := 4) hx hb dX5_caravan_36 (by decide) ?_
    refine pw_ld C w (i := 11) (by decide) (pE_st ⟨by decide, by decide⟩) (vl (x := (4 : Int32)) (by decide)) (k := 4) (by decide) dX5_caravan_37 ?_
    refine lv_bipush (v := 8) hx hb dX5_caravan_38 (by decide) ?_
    refine lv_iadd hx hb dX5_caravan_40 ?_
    refine lv_imul hx hb dX5_caravan_41 ?_
    refine lv_bipush (v := 10) hx hb dX5_caravan_42 (by decide) ?_
    refine lv_idiv hx hb dX5_caravan_44 (by decide) ?_
    refine lv_sipush (v := -999) hx hb dX5_caravan_45 (by decide) ?_
    refine lv_sipush (v := 999) hx hb dX5_caravan_48 (by decide) ?_
    refine end_i w (run_S (As := [.int ((x2 * ((M 11 4) + (8 : Int32))) / (10 : Int32)), .int (-999 : Int32), .int (999 : Int32)]) C w hl.1 (c_X5_heldWithin l G C.2.2.1 _ _ ((x2 * ((M 11 4) + (8 : Int32))) / (10 : Int32)) (-999 : Int32) (999 : Int32)  _ h) kw_27_16 kw_1_2 kw_27_14 kw_27_15 hd_X5_heldWithin ⟨by decide, by decide⟩ rfl (Nat.le_of_ble_eq_true rfl) dX5_caravan_51) (fun r2 M3 H locs h w => ?_)
    refine lv_istore_n (lv' := [(2, .int r2), (0, .ref (ga G 0)), (1, .int x1), (3, .int x3)]) hx hb dX5_caravan_54 rfl hl (by decide) rfl (fun ls hl => ?_)
    refine lv_iinc (v := (x3 + (1 : Int32))) (lv' := [(3, .int (x3 + (1 : Int32))), (2, .int r2), (0, .ref (ga G 0)), (1, .int x1)]) hx hb dX5_caravan_55 hl (k := 3) rfl rfl (by decide) rfl (fun ls hl => ?_)
    refine lv_goto (tgt := 23) hx hb dX5_caravan_58 (by decide) ?_
    exact hk23 M3 x1 r2 (x3 + (1 : Int32)) _ _ _  w (lv_sub hl [2, 3, 1, 0] rfl) h
set_option maxHeartbeats 4000000 in
set_option maxRecDepth 100000 in
theorem c_X5_caravan (l : Launch) (G : GG) (hG : Ag G) (sz : Nat) (M : Mem) (x1 : Int32) (post : Int32 → Mem → Prop) (h : q_X5_caravan M x1 post) : Met l yX5_caravan (Cond.code yX5_caravan cX5_caravan 4 (some .int) :: wsL_law) (rmk 2) (va_Pc [.ref (ga G 0), .int x1] (Pw G sz M)) (va_Qi post (Qw G) (Af G sz)) 0 0 (Af G sz) := by
  refine Met.ofW (cc := cX5_caravan) (maxL := 4) (ret := (some .int)) (by decide) rfl ?_
  intro p e s m args below meth c s₁ B hml hv
  obtain ⟨rfl, hsz, hE, hP⟩ := hv
  subst hsz
  have C := Cx.of (own := RX5) hG hE rfl hml B
  have w : Wd G s M s.heap [] := ⟨hP, va_S.rf⟩
  have hl := lv_entry [.ref (ga G 0), .int x1] (n := 4) (Nat.le_of_ble_eq_true rfl)
  rw [lg_entry_eq]
  generalize (lg_sl [.ref (ga G 0), .int x1] ++ List.replicate (4 - (lg_sl [.ref (ga G 0), .int x1]).length) Slot.unset).toArray = ls at hl ⊢
  have hl : lv_has ls 4 [(0, .ref (ga G 0)), (1, .int x1)] := hl
  have hx := C.1.1
  have hb := C.1.2.1
  show W p l e (rmk 2) s m _ below meth c s.heap [] 0 0 _ _
  unfold q_X5_caravan at h
  refine lv_iload_n hx hb dX5_caravan_0 rfl (lv_at hl 1 rfl) ?_
  refine lv_iconst (v := 1) hx hb dX5_caravan_1 (by decide) ?_
  refine lv_bipush (v := 9) hx hb dX5_caravan_2 (by decide) ?_
  refine end_i w (run_S (As := [.int x1, .int (1 : Int32), .int (9 : Int32)]) C w hl.1 (c_X5_isWithin l G C.2.2.1 _ _ x1 (1 : Int32) (9 : Int32)  _ h) kw_6_8 kw_1_2 kw_6_6 kw_6_7 hd_X5_isWithin ⟨by decide, by decide⟩ rfl (Nat.le_of_ble_eq_true rfl) dX5_caravan_4) (fun r4 M5 H locs h w => ?_)
  refine lv_if_ne (tgt := 13) hx hb dX5_caravan_7 (by decide) (fun c6 => ?_) (fun c6 => ?_)
  · replace h := h.2 c6
    refine lv_aload_n hx hb dX5_caravan_13 rfl (lv_at hl 0 rfl) ?_
    refine gt_5_0 C w kw_1_16 dX5_caravan_14 ?_
    refine gn_4_3 C w ⟨by decide, by decide⟩ kn_18 dX5_caravan_17 ?_
    refine lv_istore_n (lv' := [(2, .int (M5 1 3)), (0, .ref (ga G 0)), (1, .int x1)]) hx hb dX5_caravan_20 rfl hl (by decide) rfl (fun ls hl => ?_)
    refine lv_iconst (v := 1) hx hb dX5_caravan_21 (by decide) ?_
    refine lv_istore_n (lv' := [(3, .int (1 : Int32)), (2, .int (M5 1 3)), (0, .ref (ga G 0)), (1, .int x1)]) hx hb dX5_caravan_22 rfl hl (by decide) rfl (fun ls hl => ?_)
    obtain ⟨n, h⟩ := h
    exact t_X5_caravan_23 C n M5 x1 (M5 1 3) (1 : Int32)  w (lv_sub hl [2, 3, 1, 0] rfl) h
  replace h := h.1 c6
  refine lv_ldc hx hb C.1.2.2.2.1 (C.ws kw_25_9) dX5_caravan_10 ?_
  exact ret_i C w h dX5_caravan_12
def b_X6_caravan_24 (k24 : Mem → Int32 → Int32 → Int32 → Prop) (post : Int32 → Mem → Prop) (M : Mem) (x1 : Int32) (x2 : Int32) (x3 : Int32) : Prop := (x1 ≤ x3 → (post x2 M)) ∧ (¬ (x1 ≤ x3) → (q_X6_within M ((x2 * ((M 58 9) + (8 : Int32))) / (10 : Int32)) (999 : Int32) (fun r2 M3 => k24 M3 x1 r2 (x3 + (1 : Int32)))))
def lp_X6_caravan_24 (post : Int32 → Mem → Prop) : Nat → Mem → Int32 → Int32 → Int32 → Prop
  | 0 => fun _ _ _ _ => False
  | n + 1 => fun M x1 x2 x3 => b_X6_caravan_24 (lp_X6_caravan_24 post n) post M x1 x2 x3
def q_X6_caravan (M : Mem) (x1 : Int32) (post : Int32 → Mem → Prop) : Prop := q_X6_isIn M x1.toInt64 (1 : Int64) (9 : Int64) (fun r4 M5 => (r4 = 0 → (post (-1000000001 : Int32) M5)) ∧ (¬ (r4 = 0) → (∃ n, lp_X6_caravan_24 post n M5 x1 (M5 58 3) (1 : Int32))))
set_option maxHeartbeats 4000000 in
set_option maxRecDepth 100000 in
theorem t_X6_caravan_24 (C : Cx G p s m args meth c RX6 cX6_caravan 4 (some .int)) {post : Int32 → Mem → Prop} : ∀ (n : Nat) (M : Mem) (x1 : Int32) (x2 : Int32) (x3 : Int32) {H : Heap} {locs : List Loc} {ls : Array Slot} (w : Wd G s M H locs) (hl : lv_has ls 4 [(0, .ref (ga G 57)), (1, .int x1), (2, .int x2), (3, .int x3)]) (h : lp_X6_caravan_24 post n M x1 x2 x3), W p l e (rmk 2) s m args below meth c H locs 0 0 (MQ below (va_Qi post (Qw G) (Af G s.heap.size)) args s 0 0 (Af G s.heap.size)) (F0 m 24 ls []) := by
  have hx := C.1.1
  have hb := C.1.2.1
  intro n9
  induction n9 with
  | zero => intro M x1 x2 x3 H locs ls w hl h; exact absurd h id
  | succ n9 ih9 =>
    intro M x1 x2 x3 H locs ls w hl h
    have hk24 : ∀ (M : Mem) (x1 : Int32) (x2 : Int32) (x3 : Int32) (H : Heap) (locs : List Loc) (ls : Array Slot), Wd G s M H locs → lv_has ls 4 [(0, .ref (ga G 57)), (1, .int x1), (2, .int x2), (3, .int x3)] → lp_X6_caravan_24 post n9 M x1 x2 x3 → W p l e (rmk 2) s m args below meth c H locs 0 0 (MQ below (va_Qi post (Qw G) (Af G s.heap.size)) args s 0 0 (Af G s.heap.size)) (F0 m 24 ls []) := fun M x1 x2 x3 H locs ls w hl h => ih9 M x1 x2 x3 w hl h
    replace h : b_X6_caravan_24 (lp_X6_caravan_24 post n9) post M x1 x2 x3 := h
    unfold b_X6_caravan_24 at h
    refine lv_iload_n hx hb dX6_caravan_24 rfl (lv_at hl 3 rfl) ?_
    refine lv_iload_n hx hb dX6_caravan_25 rfl (lv_at hl 1 rfl) ?_
    refine lv_icmp_ge (tgt := 57) hx hb dX6_caravan_26 (by decide) (fun c1 => ?_) (fun c1 => ?_)
    · replace h := h.1 c1
      refine lv_iload_n hx hb dX6_caravan_57 rfl (lv_at hl 2 rfl) ?_
      exact ret_i C w h dX6_caravan_58
    replace h := h.2 c1
    refine lv_iload_n hx hb dX6_caravan_29 rfl (lv_at hl 2 rfl) ?_
    refine lv_aload_n hx hb dX6_caravan_30 rfl (lv_at hl 0 rfl) ?_
    refine gt_6_0 C w kw_5_0 dX6_caravan_31 ?_
    refine lv_bipush (v := 9) hx hb dX6_caravan_34 (by decide) ?_
    refine pw_ld C w (i := 58) (by decide) pE_58 (vl (x := (9 : Int32)) (by decide)) (k := 9) (by decide) dX6_caravan_36 ?_
    refine lv_bipush (v := 8) hx hb dX6_caravan_37 (by decide) ?_
    refine lv_iadd hx hb dX6_caravan_39 ?_
    refine lv_imul hx hb dX6_caravan_40 ?_
    refine lv_bipush (v := 10) hx hb dX6_caravan_41 (by decide) ?_
    refine lv_idiv hx hb dX6_caravan_43 (by decide) ?_
    refine lv_sipush (v := 999) hx hb dX6_caravan_44 (by decide) ?_
    refine end_i w (run_S (As := [.int ((x2 * ((M 58 9) + (8 : Int32))) / (10 : Int32)), .int (999 : Int32)]) C w hl.1 (c_X6_within l G C.2.2.1 _ _ ((x2 * ((M 58 9) + (8 : Int32))) / (10 : Int32)) (999 : Int32)  _ h) kw_29_9 kw_1_5 kw_29_7 kw_29_8 hd_X6_within ⟨by decide, by decide⟩ rfl (Nat.le_of_ble_eq_true rfl) dX6_caravan_47) (fun r2 M3 H locs h w => ?_)
    refine lv_istore_n (lv' := [(2, .int r2), (0, .ref (ga G 57)), (1, .int x1), (3, .int x3)]) hx hb dX6_caravan_50 rfl hl (by decide) rfl (fun ls hl => ?_)
    refine lv_iinc (v := (x3 + (1 : Int32))) (lv' := [(3, .int (x3 + (1 : Int32))), (2, .int r2), (0, .ref (ga G 57)), (1, .int x1)]) hx hb dX6_caravan_51 hl (k := 3) rfl rfl (by decide) rfl (fun ls hl => ?_)
    refine lv_goto (tgt := 24) hx hb dX6_caravan_54 (by decide) ?_
    exact hk24 M3 x1 r2 (x3 + (1 : Int32)) _ _ _  w (lv_sub hl [2, 3, 1, 0] rfl) h
set_option maxHeartbeats 4000000 in
set_option maxRecDepth 100000 in
theorem c_X6_caravan (l : Launch) (G : GG) (hG : Ag G) (sz : Nat) (M : Mem) (x1 : Int32) (post : Int32 → Mem → Prop) (h : q_X6_caravan M x1 post) : Met l yX6_caravan (Cond.code yX6_caravan cX6_caravan 4 (some .int) :: wsL_law) (rmk 2) (va_Pc [.ref (ga G 57), .int x1] (Pw G sz M)) (va_Qi post (Qw G) (Af G sz)) 0 0 (Af G sz) := by
  refine Met.ofW (cc := cX6_caravan) (maxL := 4) (ret := (some .int)) (by decide) rfl ?_
  intro p e s m args below meth c s₁ B hml hv
  obtain ⟨rfl, hsz, hE, hP⟩ := hv
  subst hsz
  have C := Cx.of (own := RX6) hG hE rfl hml B
  have w : Wd G s M s.heap [] := ⟨hP, va_S.rf⟩
  have hl := lv_entry [.ref (ga G 57), .int x1] (n := 4) (Nat.le_of_ble_eq_true rfl)
  rw [lg_entry_eq]
  generalize (lg_sl [.ref (ga G 57), .int x1] ++ List.replicate (4 - (lg_sl [.ref (ga G 57), .int x1]).length) Slot.unset).toArray = ls at hl ⊢
  have hl : lv_has ls 4 [(0, .ref (ga G 57)), (1, .int x1)] := hl
  have hx := C.1.1
  have hb := C.1.2.1
  show W p l e (rmk 2) s m _ below meth c s.heap [] 0 0 _ _
  unfold q_X6_caravan at h
  refine lv_iload_n hx hb dX6_caravan_0 rfl (lv_at hl 1 rfl) ?_
  refine lv_i2l hx hb dX6_caravan_1 rfl ?_
  refine lv_lconst (v := 1) hx hb dX6_caravan_2 (by decide) ?_
  refine lv_ldc2 hx hb C.1.2.2.2.1 (C.ws kw_33_7) dX6_caravan_3 ?_
  refine end_i w (run_S (As := [.long x1.toInt64, .long (1 : Int64), .long (9 : Int64)]) C w hl.1 (c_X6_isIn l G C.2.2.1 _ _ x1.toInt64 (1 : Int64) (9 : Int64)  _ h) kw_12_5 kw_1_5 kw_12_3 kw_12_4 hd_X6_isIn ⟨by decide, by decide⟩ rfl (Nat.le_of_ble_eq_true rfl) dX6_caravan_6) (fun r4 M5 H locs h w => ?_)
  refine lv_if_ne (tgt := 15) hx hb dX6_caravan_9 (by decide) (fun c6 => ?_) (fun c6 => ?_)
  · replace h := h.2 c6
    refine lv_aload_n hx hb dX6_caravan_15 rfl (lv_at hl 0 rfl) ?_
    refine gt_6_0 C w kw_5_0 dX6_caravan_16 ?_
    refine lv_iconst (v := 3) hx hb dX6_caravan_19 (by decide) ?_
    refine pw_ld C w (i := 58) (by decide) pE_58 (vl (x := (3 : Int32)) (by decide)) (k := 3) (by decide) dX6_caravan_20 ?_
    refine lv_istore_n (lv' := [(2, .int (M5 58 3)), (0, .ref (ga G 57)), (1, .int x1)]) hx hb dX6_caravan_21 rfl hl (by decide) rfl (fun ls hl => ?_)
    refine lv_iconst (v := 1) hx hb dX6_caravan_22 (by decide) ?_
    refine lv_istore_n (lv' := [(3, .int (1 : Int32)), (2, .int (M5 58 3)), (0, .ref (ga G 57)), (1, .int x1)]) hx hb dX6_caravan_23 rfl hl (by decide) rfl (fun ls hl => ?_)
    obtain ⟨n, h⟩ := h
    exact t_X6_caravan_24 C n M5 x1 (M5 58 3) (1 : Int32)  w (lv_sub hl [2, 3, 1, 0] rfl) h
  replace h := h.1 c6
  refine lv_ldc hx hb C.1.2.2.2.1 (C.ws kw_25_15) dX6_caravan_12 ?_
  exact ret_i C w h dX6_caravan_14
end WALK
