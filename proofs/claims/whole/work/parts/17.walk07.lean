theorem dX6_takeIn_0 : decode cX6_takeIn 0 = .ok (.aload_n 0, 1) := by decide +kernel
theorem dX6_takeIn_1 : decode cX6_takeIn 1 = .ok (.invokevirtual 170, 3) := by decide +kernel
theorem dX6_takeIn_4 : decode cX6_takeIn 4 = .ok (.ifCond .ne 6, 3) := by decide +kernel
theorem dX6_takeIn_7 : decode cX6_takeIn 7 = .ok (.bipush (-3), 2) := by decide +kernel
theorem dX6_takeIn_9 : decode cX6_takeIn 9 = .ok (.ireturn, 1) := by decide +kernel
theorem dX6_takeIn_10 : decode cX6_takeIn 10 = .ok (.aload_n 0, 1) := by decide +kernel
theorem dX6_takeIn_11 : decode cX6_takeIn 11 = .ok (.invokevirtual 215, 3) := by decide +kernel
theorem dX6_takeIn_14 : decode cX6_takeIn 14 = .ok (.ifCond .ne 5, 3) := by decide +kernel
theorem dX6_takeIn_17 : decode cX6_takeIn 17 = .ok (.iconst 0, 1) := by decide +kernel
theorem dX6_takeIn_18 : decode cX6_takeIn 18 = .ok (.ireturn, 1) := by decide +kernel
theorem dX6_takeIn_19 : decode cX6_takeIn 19 = .ok (.bipush (-4), 2) := by decide +kernel
theorem dX6_takeIn_21 : decode cX6_takeIn 21 = .ok (.istore_n 1, 1) := by decide +kernel
theorem dX6_takeIn_22 : decode cX6_takeIn 22 = .ok (.iconst 0, 1) := by decide +kernel
theorem dX6_takeIn_23 : decode cX6_takeIn 23 = .ok (.istore_n 2, 1) := by decide +kernel
theorem dX6_takeIn_24 : decode cX6_takeIn 24 = .ok (.iconst 0, 1) := by decide +kernel
theorem dX6_takeIn_25 : decode cX6_takeIn 25 = .ok (.istore_n 3, 1) := by decide +kernel
theorem dX6_takeIn_26 : decode cX6_takeIn 26 = .ok (.iload_n 3, 1) := by decide +kernel
theorem dX6_takeIn_27 : decode cX6_takeIn 27 = .ok (.aload_n 0, 1) := by decide +kernel
theorem dX6_takeIn_28 : decode cX6_takeIn 28 = .ok (.getfield 9, 3) := by decide +kernel
theorem dX6_takeIn_31 : decode cX6_takeIn 31 = .ok (.iconst 0, 1) := by decide +kernel
theorem dX6_takeIn_32 : decode cX6_takeIn 32 = .ok (.iaload, 1) := by decide +kernel
theorem dX6_takeIn_33 : decode cX6_takeIn 33 = .ok (.if_icmp .ge 100, 3) := by decide +kernel
theorem dX6_takeIn_36 : decode cX6_takeIn 36 = .ok (.aload_n 0, 1) := by decide +kernel
theorem dX6_takeIn_37 : decode cX6_takeIn 37 = .ok (.iload_n 3, 1) := by decide +kernel
theorem dX6_takeIn_38 : decode cX6_takeIn 38 = .ok (.iconst 2, 1) := by decide +kernel
theorem dX6_takeIn_39 : decode cX6_takeIn 39 = .ok (.invokevirtual 111, 3) := by decide +kernel
theorem dX6_takeIn_42 : decode cX6_takeIn 42 = .ok (.istore 4, 2) := by decide +kernel
theorem dX6_takeIn_44 : decode cX6_takeIn 44 = .ok (.iconst 0, 1) := by decide +kernel
theorem dX6_takeIn_45 : decode cX6_takeIn 45 = .ok (.istore 5, 2) := by decide +kernel
theorem dX6_takeIn_47 : decode cX6_takeIn 47 = .ok (.iconst 1, 1) := by decide +kernel
theorem dX6_takeIn_48 : decode cX6_takeIn 48 = .ok (.istore 6, 2) := by decide +kernel
theorem dX6_takeIn_50 : decode cX6_takeIn 50 = .ok (.iload 6, 2) := by decide +kernel
theorem dX6_takeIn_52 : decode cX6_takeIn 52 = .ok (.iload 4, 2) := by decide +kernel
theorem dX6_takeIn_54 : decode cX6_takeIn 54 = .ok (.if_icmp .gt 36, 3) := by decide +kernel
theorem dX6_takeIn_57 : decode cX6_takeIn 57 = .ok (.iload 5, 2) := by decide +kernel
theorem dX6_takeIn_59 : decode cX6_takeIn 59 = .ok (.ifCond .ne 31, 3) := by decide +kernel
theorem dX6_takeIn_62 : decode cX6_takeIn 62 = .ok (.aload_n 0, 1) := by decide +kernel
theorem dX6_takeIn_63 : decode cX6_takeIn 63 = .ok (.iload_n 3, 1) := by decide +kernel
theorem dX6_takeIn_64 : decode cX6_takeIn 64 = .ok (.iconst 2, 1) := by decide +kernel
theorem dX6_takeIn_65 : decode cX6_takeIn 65 = .ok (.iload 4, 2) := by decide +kernel
theorem dX6_takeIn_67 : decode cX6_takeIn 67 = .ok (.iload 6, 2) := by decide +kernel
theorem dX6_takeIn_69 : decode cX6_takeIn 69 = .ok (.isub, 1) := by decide +kernel
theorem dX6_takeIn_70 : decode cX6_takeIn 70 = .ok (.invokevirtual 191, 3) := by decide +kernel
theorem dX6_takeIn_73 : decode cX6_takeIn 73 = .ok (.aload_n 0, 1) := by decide +kernel
theorem dX6_takeIn_74 : decode cX6_takeIn 74 = .ok (.invokevirtual 215, 3) := by decide +kernel
theorem dX6_takeIn_77 : decode cX6_takeIn 77 = .ok (.ifCond .ne 7, 3) := by decide +kernel
theorem dX6_takeIn_80 : decode cX6_takeIn 80 = .ok (.iload 6, 2) := by decide +kernel
theorem dX6_takeIn_82 : decode cX6_takeIn 82 = .ok (.istore 5, 2) := by decide +kernel
theorem dX6_takeIn_84 : decode cX6_takeIn 84 = .ok (.iinc 6 1, 3) := by decide +kernel
theorem dX6_takeIn_87 : decode cX6_takeIn 87 = .ok (.goto (-37), 3) := by decide +kernel
theorem dX6_takeIn_90 : decode cX6_takeIn 90 = .ok (.aload_n 0, 1) := by decide +kernel
theorem dX6_takeIn_91 : decode cX6_takeIn 91 = .ok (.iload_n 3, 1) := by decide +kernel
theorem dX6_takeIn_92 : decode cX6_takeIn 92 = .ok (.iconst 2, 1) := by decide +kernel
theorem dX6_takeIn_93 : decode cX6_takeIn 93 = .ok (.iload 4, 2) := by decide +kernel
theorem dX6_takeIn_95 : decode cX6_takeIn 95 = .ok (.invokevirtual 191, 3) := by decide +kernel
theorem dX6_takeIn_98 : decode cX6_takeIn 98 = .ok (.iload 5, 2) := by decide +kernel
theorem dX6_takeIn_100 : decode cX6_takeIn 100 = .ok (.ifCond .eq 27, 3) := by decide +kernel
theorem dX6_takeIn_103 : decode cX6_takeIn 103 = .ok (.iload_n 1, 1) := by decide +kernel
theorem dX6_takeIn_104 : decode cX6_takeIn 104 = .ok (.ifCond .lt 12, 3) := by decide +kernel
theorem dX6_takeIn_107 : decode cX6_takeIn 107 = .ok (.iload 5, 2) := by decide +kernel
theorem dX6_takeIn_109 : decode cX6_takeIn 109 = .ok (.iload_n 2, 1) := by decide +kernel
theorem dX6_takeIn_110 : decode cX6_takeIn 110 = .ok (.if_icmp .lt 6, 3) := by decide +kernel
theorem dX6_takeIn_113 : decode cX6_takeIn 113 = .ok (.goto 14, 3) := by decide +kernel
theorem dX6_takeIn_116 : decode cX6_takeIn 116 = .ok (.bipush 100, 2) := by decide +kernel
theorem dX6_takeIn_118 : decode cX6_takeIn 118 = .ok (.iload_n 3, 1) := by decide +kernel
theorem dX6_takeIn_119 : decode cX6_takeIn 119 = .ok (.imul, 1) := by decide +kernel
theorem dX6_takeIn_120 : decode cX6_takeIn 120 = .ok (.iload 5, 2) := by decide +kernel
theorem dX6_takeIn_122 : decode cX6_takeIn 122 = .ok (.iadd, 1) := by decide +kernel
theorem dX6_takeIn_123 : decode cX6_takeIn 123 = .ok (.istore_n 1, 1) := by decide +kernel
theorem dX6_takeIn_124 : decode cX6_takeIn 124 = .ok (.iload 5, 2) := by decide +kernel
theorem dX6_takeIn_126 : decode cX6_takeIn 126 = .ok (.istore_n 2, 1) := by decide +kernel
theorem dX6_takeIn_127 : decode cX6_takeIn 127 = .ok (.iinc 3 1, 3) := by decide +kernel
theorem dX6_takeIn_130 : decode cX6_takeIn 130 = .ok (.goto (-104), 3) := by decide +kernel
theorem dX6_takeIn_133 : decode cX6_takeIn 133 = .ok (.iload_n 1, 1) := by decide +kernel
theorem dX6_takeIn_134 : decode cX6_takeIn 134 = .ok (.ireturn, 1) := by decide +kernel
theorem dX5_shallowest_0 : decode cX5_shallowest 0 = .ok (.aload_n 0, 1) := by decide +kernel
theorem dX5_shallowest_1 : decode cX5_shallowest 1 = .ok (.invokevirtual 110, 3) := by decide +kernel
theorem dX5_shallowest_4 : decode cX5_shallowest 4 = .ok (.ifCond .ne 6, 3) := by decide +kernel
theorem dX5_shallowest_7 : decode cX5_shallowest 7 = .ok (.bipush (-3), 2) := by decide +kernel
theorem dX5_shallowest_9 : decode cX5_shallowest 9 = .ok (.ireturn, 1) := by decide +kernel
theorem dX5_shallowest_10 : decode cX5_shallowest 10 = .ok (.getstatic 178, 3) := by decide +kernel
theorem dX5_shallowest_13 : decode cX5_shallowest 13 = .ok (.iconst 3, 1) := by decide +kernel
theorem dX5_shallowest_14 : decode cX5_shallowest 14 = .ok (.iaload, 1) := by decide +kernel
theorem dX5_shallowest_15 : decode cX5_shallowest 15 = .ok (.istore_n 1, 1) := by decide +kernel
theorem dX5_shallowest_16 : decode cX5_shallowest 16 = .ok (.iconst 0, 1) := by decide +kernel
theorem dX5_shallowest_17 : decode cX5_shallowest 17 = .ok (.istore_n 2, 1) := by decide +kernel
theorem dX5_shallowest_18 : decode cX5_shallowest 18 = .ok (.iload_n 2, 1) := by decide +kernel
theorem dX5_shallowest_19 : decode cX5_shallowest 19 = .ok (.aload_n 0, 1) := by decide +kernel
theorem dX5_shallowest_20 : decode cX5_shallowest 20 = .ok (.getfield 10, 3) := by decide +kernel
theorem dX5_shallowest_23 : decode cX5_shallowest 23 = .ok (.getfield 106, 3) := by decide +kernel
theorem dX5_shallowest_26 : decode cX5_shallowest 26 = .ok (.iconst 2, 1) := by decide +kernel
theorem dX5_shallowest_27 : decode cX5_shallowest 27 = .ok (.iaload, 1) := by decide +kernel
theorem dX5_shallowest_28 : decode cX5_shallowest 28 = .ok (.if_icmp .gt 29, 3) := by decide +kernel
theorem dX5_shallowest_31 : decode cX5_shallowest 31 = .ok (.aload_n 0, 1) := by decide +kernel
theorem dX5_shallowest_32 : decode cX5_shallowest 32 = .ok (.getfield 25, 3) := by decide +kernel
theorem dX5_shallowest_35 : decode cX5_shallowest 35 = .ok (.iload_n 2, 1) := by decide +kernel
theorem dX5_shallowest_36 : decode cX5_shallowest 36 = .ok (.putfield 155, 3) := by decide +kernel
theorem dX5_shallowest_39 : decode cX5_shallowest 39 = .ok (.iload_n 1, 1) := by decide +kernel
theorem dX5_shallowest_40 : decode cX5_shallowest 40 = .ok (.aload_n 0, 1) := by decide +kernel
theorem dX5_shallowest_41 : decode cX5_shallowest 41 = .ok (.getfield 25, 3) := by decide +kernel
theorem dX5_shallowest_44 : decode cX5_shallowest 44 = .ok (.invokevirtual 120, 3) := by decide +kernel
theorem dX5_shallowest_47 : decode cX5_shallowest 47 = .ok (.invokestatic 181, 3) := by decide +kernel
theorem dX5_shallowest_50 : decode cX5_shallowest 50 = .ok (.istore_n 1, 1) := by decide +kernel
theorem dX5_shallowest_51 : decode cX5_shallowest 51 = .ok (.iinc 2 1, 3) := by decide +kernel
theorem dX5_shallowest_54 : decode cX5_shallowest 54 = .ok (.goto (-36), 3) := by decide +kernel
theorem dX5_shallowest_57 : decode cX5_shallowest 57 = .ok (.iload_n 1, 1) := by decide +kernel
theorem dX5_shallowest_58 : decode cX5_shallowest 58 = .ok (.getstatic 152, 3) := by decide +kernel
theorem dX5_shallowest_61 : decode cX5_shallowest 61 = .ok (.iconst 3, 1) := by decide +kernel
theorem dX5_shallowest_62 : decode cX5_shallowest 62 = .ok (.iaload, 1) := by decide +kernel
theorem dX5_shallowest_63 : decode cX5_shallowest 63 = .ok (.if_icmp .le 8, 3) := by decide +kernel
theorem dX5_shallowest_66 : decode cX5_shallowest 66 = .ok (.bipush (-4), 2) := by decide +kernel
theorem dX5_shallowest_68 : decode cX5_shallowest 68 = .ok (.goto 4, 3) := by decide +kernel
theorem dX5_shallowest_71 : decode cX5_shallowest 71 = .ok (.iload_n 1, 1) := by decide +kernel
theorem dX5_shallowest_72 : decode cX5_shallowest 72 = .ok (.ireturn, 1) := by decide +kernel
theorem dX6_shallowest_0 : decode cX6_shallowest 0 = .ok (.aload_n 0, 1) := by decide +kernel
theorem dX6_shallowest_1 : decode cX6_shallowest 1 = .ok (.invokevirtual 170, 3) := by decide +kernel
theorem dX6_shallowest_4 : decode cX6_shallowest 4 = .ok (.ifCond .ne 6, 3) := by decide +kernel
theorem dX6_shallowest_7 : decode cX6_shallowest 7 = .ok (.bipush (-3), 2) := by decide +kernel
theorem dX6_shallowest_9 : decode cX6_shallowest 9 = .ok (.ireturn, 1) := by decide +kernel
theorem dX6_shallowest_10 : decode cX6_shallowest 10 = .ok (.aload_n 0, 1) := by decide +kernel
theorem dX6_shallowest_11 : decode cX6_shallowest 11 = .ok (.aload_n 0, 1) := by decide +kernel
theorem dX6_shallowest_12 : decode cX6_shallowest 12 = .ok (.invokevirtual 173, 3) := by decide +kernel
theorem dX6_shallowest_15 : decode cX6_shallowest 15 = .ok (.invokevirtual 176, 3) := by decide +kernel
theorem dX6_shallowest_18 : decode cX6_shallowest 18 = .ok (.aload_n 0, 1) := by decide +kernel
theorem dX6_shallowest_19 : decode cX6_shallowest 19 = .ok (.getfield 141, 3) := by decide +kernel
theorem dX6_shallowest_22 : decode cX6_shallowest 22 = .ok (.iconst 4, 1) := by decide +kernel
theorem dX6_shallowest_23 : decode cX6_shallowest 23 = .ok (.idiv, 1) := by decide +kernel
theorem dX6_shallowest_24 : decode cX6_shallowest 24 = .ok (.istore_n 1, 1) := by decide +kernel
theorem dX6_shallowest_25 : decode cX6_shallowest 25 = .ok (.iload_n 1, 1) := by decide +kernel
theorem dX6_shallowest_26 : decode cX6_shallowest 26 = .ok (.sipush 999, 3) := by decide +kernel
theorem dX6_shallowest_29 : decode cX6_shallowest 29 = .ok (.if_icmp .le 8, 3) := by decide +kernel
theorem dX6_shallowest_32 : decode cX6_shallowest 32 = .ok (.bipush (-4), 2) := by decide +kernel
theorem dX6_shallowest_34 : decode cX6_shallowest 34 = .ok (.goto 13, 3) := by decide +kernel
theorem dX6_shallowest_37 : decode cX6_shallowest 37 = .ok (.iload_n 1, 1) := by decide +kernel
theorem dX6_shallowest_38 : decode cX6_shallowest 38 = .ok (.iconst 1, 1) := by decide +kernel
theorem dX6_shallowest_39 : decode cX6_shallowest 39 = .ok (.if_icmp .ge 7, 3) := by decide +kernel
theorem dX6_shallowest_42 : decode cX6_shallowest 42 = .ok (.iconst 1, 1) := by decide +kernel
theorem dX6_shallowest_43 : decode cX6_shallowest 43 = .ok (.goto 4, 3) := by decide +kernel
theorem dX6_shallowest_46 : decode cX6_shallowest 46 = .ok (.iload_n 1, 1) := by decide +kernel
theorem dX6_shallowest_47 : decode cX6_shallowest 47 = .ok (.ireturn, 1) := by decide +kernel
theorem dX5_heldWithin_0 : decode cX5_heldWithin 0 = .ok (.iload_n 1, 1) := by decide +kernel
theorem dX5_heldWithin_1 : decode cX5_heldWithin 1 = .ok (.iload_n 2, 1) := by decide +kernel
theorem dX5_heldWithin_2 : decode cX5_heldWithin 2 = .ok (.iload_n 0, 1) := by decide +kernel
theorem dX5_heldWithin_3 : decode cX5_heldWithin 3 = .ok (.invokestatic 312, 3) := by decide +kernel
theorem dX5_heldWithin_6 : decode cX5_heldWithin 6 = .ok (.invokestatic 181, 3) := by decide +kernel
theorem dX5_heldWithin_9 : decode cX5_heldWithin 9 = .ok (.ireturn, 1) := by decide +kernel
theorem dX5_holdsByDraws_0 : decode cX5_holdsByDraws 0 = .ok (.aload_n 0, 1) := by decide +kernel
theorem dX5_holdsByDraws_1 : decode cX5_holdsByDraws 1 = .ok (.getfield 19, 3) := by decide +kernel
theorem dX5_holdsByDraws_4 : decode cX5_holdsByDraws 4 = .ok (.aload_n 0, 1) := by decide +kernel
theorem dX5_holdsByDraws_5 : decode cX5_holdsByDraws 5 = .ok (.getfield 10, 3) := by decide +kernel
theorem dX5_holdsByDraws_8 : decode cX5_holdsByDraws 8 = .ok (.invokevirtual 58, 3) := by decide +kernel
theorem dX5_holdsByDraws_11 : decode cX5_holdsByDraws 11 = .ok (.iload_n 1, 1) := by decide +kernel
theorem dX5_holdsByDraws_12 : decode cX5_holdsByDraws 12 = .ok (.istore_n 2, 1) := by decide +kernel
theorem dX5_holdsByDraws_13 : decode cX5_holdsByDraws 13 = .ok (.iconst 0, 1) := by decide +kernel
theorem dX5_holdsByDraws_14 : decode cX5_holdsByDraws 14 = .ok (.istore_n 3, 1) := by decide +kernel
theorem dX5_holdsByDraws_15 : decode cX5_holdsByDraws 15 = .ok (.iload_n 3, 1) := by decide +kernel
theorem dX5_holdsByDraws_16 : decode cX5_holdsByDraws 16 = .ok (.bipush 100, 2) := by decide +kernel
theorem dX5_holdsByDraws_18 : decode cX5_holdsByDraws 18 = .ok (.if_icmp .ge 94, 3) := by decide +kernel
theorem dX5_holdsByDraws_21 : decode cX5_holdsByDraws 21 = .ok (.iload_n 2, 1) := by decide +kernel
theorem dX5_holdsByDraws_22 : decode cX5_holdsByDraws 22 = .ok (.ldc_w 323, 3) := by decide +kernel
theorem dX5_holdsByDraws_25 : decode cX5_holdsByDraws 25 = .ok (.imul, 1) := by decide +kernel
theorem dX5_holdsByDraws_26 : decode cX5_holdsByDraws 26 = .ok (.sipush 12345, 3) := by decide +kernel
theorem dX5_holdsByDraws_29 : decode cX5_holdsByDraws 29 = .ok (.iadd, 1) := by decide +kernel
theorem dX5_holdsByDraws_30 : decode cX5_holdsByDraws 30 = .ok (.istore_n 2, 1) := by decide +kernel
theorem dX5_holdsByDraws_31 : decode cX5_holdsByDraws 31 = .ok (.iload_n 2, 1) := by decide +kernel
theorem dX5_holdsByDraws_32 : decode cX5_holdsByDraws 32 = .ok (.ldc_w 324, 3) := by decide +kernel
theorem dX5_holdsByDraws_35 : decode cX5_holdsByDraws 35 = .ok (.iand, 1) := by decide +kernel
theorem dX5_holdsByDraws_36 : decode cX5_holdsByDraws 36 = .ok (.ldc_w 325, 3) := by decide +kernel
theorem dX5_holdsByDraws_39 : decode cX5_holdsByDraws 39 = .ok (.idiv, 1) := by decide +kernel
theorem dX5_holdsByDraws_40 : decode cX5_holdsByDraws 40 = .ok (.bipush 21, 2) := by decide +kernel
theorem dX5_holdsByDraws_42 : decode cX5_holdsByDraws 42 = .ok (.irem, 1) := by decide +kernel
theorem dX5_holdsByDraws_43 : decode cX5_holdsByDraws 43 = .ok (.istore 4, 2) := by decide +kernel
theorem dX5_holdsByDraws_45 : decode cX5_holdsByDraws 45 = .ok (.aload_n 0, 1) := by decide +kernel
theorem dX5_holdsByDraws_46 : decode cX5_holdsByDraws 46 = .ok (.getfield 25, 3) := by decide +kernel
theorem dX5_holdsByDraws_49 : decode cX5_holdsByDraws 49 = .ok (.aload_n 0, 1) := by decide +kernel
theorem dX5_holdsByDraws_50 : decode cX5_holdsByDraws 50 = .ok (.getfield 10, 3) := by decide +kernel
theorem dX5_holdsByDraws_53 : decode cX5_holdsByDraws 53 = .ok (.getfield 106, 3) := by decide +kernel
theorem dX5_holdsByDraws_56 : decode cX5_holdsByDraws 56 = .ok (.iconst 0, 1) := by decide +kernel
theorem dX5_holdsByDraws_57 : decode cX5_holdsByDraws 57 = .ok (.iaload, 1) := by decide +kernel
theorem dX5_holdsByDraws_58 : decode cX5_holdsByDraws 58 = .ok (.iload 4, 2) := by decide +kernel
theorem dX5_holdsByDraws_60 : decode cX5_holdsByDraws 60 = .ok (.iadd, 1) := by decide +kernel
theorem dX5_holdsByDraws_61 : decode cX5_holdsByDraws 61 = .ok (.bipush 10, 2) := by decide +kernel
theorem dX5_holdsByDraws_63 : decode cX5_holdsByDraws 63 = .ok (.isub, 1) := by decide +kernel
theorem dX5_holdsByDraws_64 : decode cX5_holdsByDraws 64 = .ok (.getstatic 178, 3) := by decide +kernel
theorem dX5_holdsByDraws_67 : decode cX5_holdsByDraws 67 = .ok (.iconst 0, 1) := by decide +kernel
theorem dX5_holdsByDraws_68 : decode cX5_holdsByDraws 68 = .ok (.iaload, 1) := by decide +kernel
theorem dX5_holdsByDraws_69 : decode cX5_holdsByDraws 69 = .ok (.getstatic 152, 3) := by decide +kernel
theorem dX5_holdsByDraws_72 : decode cX5_holdsByDraws 72 = .ok (.iconst 0, 1) := by decide +kernel
theorem dX5_holdsByDraws_73 : decode cX5_holdsByDraws 73 = .ok (.iaload, 1) := by decide +kernel
theorem dX5_holdsByDraws_74 : decode cX5_holdsByDraws 74 = .ok (.invokestatic 225, 3) := by decide +kernel
theorem dX5_holdsByDraws_77 : decode cX5_holdsByDraws 77 = .ok (.putfield 326, 3) := by decide +kernel
theorem dX5_holdsByDraws_80 : decode cX5_holdsByDraws 80 = .ok (.aload_n 0, 1) := by decide +kernel
theorem dX5_holdsByDraws_81 : decode cX5_holdsByDraws 81 = .ok (.getfield 19, 3) := by decide +kernel
theorem dX5_holdsByDraws_84 : decode cX5_holdsByDraws 84 = .ok (.aload_n 0, 1) := by decide +kernel
theorem dX5_holdsByDraws_85 : decode cX5_holdsByDraws 85 = .ok (.getfield 25, 3) := by decide +kernel
theorem dX5_holdsByDraws_88 : decode cX5_holdsByDraws 88 = .ok (.invokevirtual 139, 3) := by decide +kernel
theorem dX5_holdsByDraws_91 : decode cX5_holdsByDraws 91 = .ok (.pop, 1) := by decide +kernel
theorem dX5_holdsByDraws_92 : decode cX5_holdsByDraws 92 = .ok (.aload_n 0, 1) := by decide +kernel
theorem dX5_holdsByDraws_93 : decode cX5_holdsByDraws 93 = .ok (.getfield 19, 3) := by decide +kernel
theorem dX5_holdsByDraws_96 : decode cX5_holdsByDraws 96 = .ok (.getfield 99, 3) := by decide +kernel
theorem dX5_holdsByDraws_99 : decode cX5_holdsByDraws 99 = .ok (.bipush (-4), 2) := by decide +kernel
theorem dX5_holdsByDraws_101 : decode cX5_holdsByDraws 101 = .ok (.if_icmp .eq 5, 3) := by decide +kernel
theorem dX5_holdsByDraws_104 : decode cX5_holdsByDraws 104 = .ok (.iconst 0, 1) := by decide +kernel
theorem dX5_holdsByDraws_105 : decode cX5_holdsByDraws 105 = .ok (.ireturn, 1) := by decide +kernel
theorem dX5_holdsByDraws_106 : decode cX5_holdsByDraws 106 = .ok (.iinc 3 1, 3) := by decide +kernel
theorem dX5_holdsByDraws_109 : decode cX5_holdsByDraws 109 = .ok (.goto (-94), 3) := by decide +kernel
theorem dX5_holdsByDraws_112 : decode cX5_holdsByDraws 112 = .ok (.iconst 1, 1) := by decide +kernel
theorem dX5_holdsByDraws_113 : decode cX5_holdsByDraws 113 = .ok (.ireturn, 1) := by decide +kernel
theorem dX5_odds_0 : decode cX5_odds 0 = .ok (.iload_n 1, 1) := by decide +kernel
theorem dX5_odds_1 : decode cX5_odds 1 = .ok (.iconst 1, 1) := by decide +kernel
theorem dX5_odds_2 : decode cX5_odds 2 = .ok (.bipush 20, 2) := by decide +kernel
theorem dX5_odds_4 : decode cX5_odds 4 = .ok (.invokestatic 129, 3) := by decide +kernel
theorem dX5_odds_7 : decode cX5_odds 7 = .ok (.ifCond .ne 5, 3) := by decide +kernel
theorem dX5_odds_10 : decode cX5_odds 10 = .ok (.iconst (-1), 1) := by decide +kernel
theorem dX5_odds_11 : decode cX5_odds 11 = .ok (.ireturn, 1) := by decide +kernel
theorem dX5_odds_12 : decode cX5_odds 12 = .ok (.aload_n 0, 1) := by decide +kernel
theorem dX5_odds_13 : decode cX5_odds 13 = .ok (.invokevirtual 110, 3) := by decide +kernel
theorem dX5_odds_16 : decode cX5_odds 16 = .ok (.ifCond .ne 6, 3) := by decide +kernel
theorem dX5_odds_19 : decode cX5_odds 19 = .ok (.bipush (-3), 2) := by decide +kernel
theorem dX5_odds_21 : decode cX5_odds 21 = .ok (.ireturn, 1) := by decide +kernel
theorem dX5_odds_22 : decode cX5_odds 22 = .ok (.iconst 0, 1) := by decide +kernel
theorem dX5_odds_23 : decode cX5_odds 23 = .ok (.istore_n 3, 1) := by decide +kernel
theorem dX5_odds_24 : decode cX5_odds 24 = .ok (.iconst 0, 1) := by decide +kernel
theorem dX5_odds_25 : decode cX5_odds 25 = .ok (.istore 4, 2) := by decide +kernel
theorem dX5_odds_27 : decode cX5_odds 27 = .ok (.iload 4, 2) := by decide +kernel
theorem dX5_odds_29 : decode cX5_odds 29 = .ok (.iload_n 1, 1) := by decide +kernel
theorem dX5_odds_30 : decode cX5_odds 30 = .ok (.if_icmp .ge 23, 3) := by decide +kernel
theorem dX5_odds_33 : decode cX5_odds 33 = .ok (.aload_n 0, 1) := by decide +kernel
theorem dX5_odds_34 : decode cX5_odds 34 = .ok (.iload_n 2, 1) := by decide +kernel
theorem dX5_odds_35 : decode cX5_odds 35 = .ok (.iload 4, 2) := by decide +kernel
theorem dX5_odds_37 : decode cX5_odds 37 = .ok (.iadd, 1) := by decide +kernel
theorem dX5_odds_38 : decode cX5_odds 38 = .ok (.invokevirtual 187, 3) := by decide +kernel
theorem dX5_odds_41 : decode cX5_odds 41 = .ok (.ifCond .eq 6, 3) := by decide +kernel
theorem dX5_odds_44 : decode cX5_odds 44 = .ok (.iinc 3 1, 3) := by decide +kernel
theorem dX5_odds_47 : decode cX5_odds 47 = .ok (.iinc 4 1, 3) := by decide +kernel
theorem dX5_odds_50 : decode cX5_odds 50 = .ok (.goto (-23), 3) := by decide +kernel
theorem dX5_odds_53 : decode cX5_odds 53 = .ok (.iload_n 3, 1) := by decide +kernel
theorem dX5_odds_54 : decode cX5_odds 54 = .ok (.ireturn, 1) := by decide +kernel
theorem dX6_odds_0 : decode cX6_odds 0 = .ok (.iload_n 1, 1) := by decide +kernel
theorem dX6_odds_1 : decode cX6_odds 1 = .ok (.i2l, 1) := by decide +kernel
theorem dX6_odds_2 : decode cX6_odds 2 = .ok (.lconst 1, 1) := by decide +kernel
theorem dX6_odds_3 : decode cX6_odds 3 = .ok (.ldc2_w 218, 3) := by decide +kernel
theorem dX6_odds_6 : decode cX6_odds 6 = .ok (.invokestatic 47, 3) := by decide +kernel
theorem dX6_odds_9 : decode cX6_odds 9 = .ok (.ifCond .ne 5, 3) := by decide +kernel
theorem dX6_odds_12 : decode cX6_odds 12 = .ok (.iconst (-1), 1) := by decide +kernel
theorem dX6_odds_13 : decode cX6_odds 13 = .ok (.ireturn, 1) := by decide +kernel
theorem dX6_odds_14 : decode cX6_odds 14 = .ok (.aload_n 0, 1) := by decide +kernel
theorem dX6_odds_15 : decode cX6_odds 15 = .ok (.invokevirtual 170, 3) := by decide +kernel
theorem dX6_odds_18 : decode cX6_odds 18 = .ok (.ifCond .ne 6, 3) := by decide +kernel
theorem dX6_odds_21 : decode cX6_odds 21 = .ok (.bipush (-3), 2) := by decide +kernel
theorem dX6_odds_23 : decode cX6_odds 23 = .ok (.ireturn, 1) := by decide +kernel
theorem dX6_odds_24 : decode cX6_odds 24 = .ok (.iconst 0, 1) := by decide +kernel
theorem dX6_odds_25 : decode cX6_odds 25 = .ok (.istore_n 3, 1) := by decide +kernel
theorem dX6_odds_26 : decode cX6_odds 26 = .ok (.iconst 0, 1) := by decide +kernel
theorem dX6_odds_27 : decode cX6_odds 27 = .ok (.istore 4, 2) := by decide +kernel
theorem dX6_odds_29 : decode cX6_odds 29 = .ok (.iload 4, 2) := by decide +kernel
theorem dX6_odds_31 : decode cX6_odds 31 = .ok (.iload_n 1, 1) := by decide +kernel
theorem dX6_odds_32 : decode cX6_odds 32 = .ok (.if_icmp .ge 159, 3) := by decide +kernel
theorem dX6_odds_35 : decode cX6_odds 35 = .ok (.aload_n 0, 1) := by decide +kernel
theorem dX6_odds_36 : decode cX6_odds 36 = .ok (.getfield 9, 3) := by decide +kernel
theorem dX6_odds_39 : decode cX6_odds 39 = .ok (.aload_n 0, 1) := by decide +kernel
theorem dX6_odds_40 : decode cX6_odds 40 = .ok (.getfield 19, 3) := by decide +kernel
theorem dX6_odds_43 : decode cX6_odds 43 = .ok (.invokestatic 104, 3) := by decide +kernel
theorem dX6_odds_46 : decode cX6_odds 46 = .ok (.aload_n 0, 1) := by decide +kernel
theorem dX6_odds_47 : decode cX6_odds 47 = .ok (.aload_n 0, 1) := by decide +kernel
theorem dX6_odds_48 : decode cX6_odds 48 = .ok (.invokevirtual 173, 3) := by decide +kernel
theorem dX6_odds_51 : decode cX6_odds 51 = .ok (.invokevirtual 176, 3) := by decide +kernel
theorem dX6_odds_54 : decode cX6_odds 54 = .ok (.iload_n 2, 1) := by decide +kernel
theorem dX6_odds_55 : decode cX6_odds 55 = .ok (.iload 4, 2) := by decide +kernel
theorem dX6_odds_57 : decode cX6_odds 57 = .ok (.iadd, 1) := by decide +kernel
theorem dX6_odds_58 : decode cX6_odds 58 = .ok (.istore 5, 2) := by decide +kernel
theorem dX6_odds_60 : decode cX6_odds 60 = .ok (.iconst 0, 1) := by decide +kernel
theorem dX6_odds_61 : decode cX6_odds 61 = .ok (.istore 6, 2) := by decide +kernel
theorem dX6_odds_63 : decode cX6_odds 63 = .ok (.iconst 0, 1) := by decide +kernel
theorem dX6_odds_64 : decode cX6_odds 64 = .ok (.istore 7, 2) := by decide +kernel
theorem dX6_odds_66 : decode cX6_odds 66 = .ok (.iload 7, 2) := by decide +kernel
theorem dX6_odds_68 : decode cX6_odds 68 = .ok (.bipush 100, 2) := by decide +kernel
theorem dX6_odds_70 : decode cX6_odds 70 = .ok (.if_icmp .ge 91, 3) := by decide +kernel
theorem dX6_odds_73 : decode cX6_odds 73 = .ok (.iload 6, 2) := by decide +kernel
theorem dX6_odds_75 : decode cX6_odds 75 = .ok (.ifCond .ne 86, 3) := by decide +kernel
theorem dX6_odds_78 : decode cX6_odds 78 = .ok (.iload 5, 2) := by decide +kernel
theorem dX6_odds_80 : decode cX6_odds 80 = .ok (.ldc 220, 2) := by decide +kernel
theorem dX6_odds_82 : decode cX6_odds 82 = .ok (.imul, 1) := by decide +kernel
theorem dX6_odds_83 : decode cX6_odds 83 = .ok (.sipush 12345, 3) := by decide +kernel
theorem dX6_odds_86 : decode cX6_odds 86 = .ok (.iadd, 1) := by decide +kernel
theorem dX6_odds_87 : decode cX6_odds 87 = .ok (.istore 5, 2) := by decide +kernel
theorem dX6_odds_89 : decode cX6_odds 89 = .ok (.aload_n 0, 1) := by decide +kernel
theorem dX6_odds_90 : decode cX6_odds 90 = .ok (.getfield 9, 3) := by decide +kernel
theorem dX6_odds_93 : decode cX6_odds 93 = .ok (.iconst 5, 1) := by decide +kernel
theorem dX6_odds_94 : decode cX6_odds 94 = .ok (.iaload, 1) := by decide +kernel
theorem dX6_odds_95 : decode cX6_odds 95 = .ok (.iload 5, 2) := by decide +kernel
theorem dX6_odds_97 : decode cX6_odds 97 = .ok (.ldc 221, 2) := by decide +kernel
theorem dX6_odds_99 : decode cX6_odds 99 = .ok (.iand, 1) := by decide +kernel
theorem dX6_odds_100 : decode cX6_odds 100 = .ok (.ldc 222, 2) := by decide +kernel
theorem dX6_odds_102 : decode cX6_odds 102 = .ok (.idiv, 1) := by decide +kernel
theorem dX6_odds_103 : decode cX6_odds 103 = .ok (.bipush 21, 2) := by decide +kernel
theorem dX6_odds_105 : decode cX6_odds 105 = .ok (.irem, 1) := by decide +kernel
theorem dX6_odds_106 : decode cX6_odds 106 = .ok (.iadd, 1) := by decide +kernel
theorem dX6_odds_107 : decode cX6_odds 107 = .ok (.bipush 10, 2) := by decide +kernel
theorem dX6_odds_109 : decode cX6_odds 109 = .ok (.isub, 1) := by decide +kernel
theorem dX6_odds_110 : decode cX6_odds 110 = .ok (.istore 8, 2) := by decide +kernel
theorem dX6_odds_112 : decode cX6_odds 112 = .ok (.aload_n 0, 1) := by decide +kernel
theorem dX6_odds_113 : decode cX6_odds 113 = .ok (.iload 8, 2) := by decide +kernel
theorem dX6_odds_115 : decode cX6_odds 115 = .ok (.ifCond .ge 7, 3) := by decide +kernel
theorem dX6_odds_118 : decode cX6_odds 118 = .ok (.iconst 0, 1) := by decide +kernel
theorem dX6_odds_119 : decode cX6_odds 119 = .ok (.goto 17, 3) := by decide +kernel
theorem dX6_odds_122 : decode cX6_odds 122 = .ok (.iload 8, 2) := by decide +kernel
theorem dX6_odds_124 : decode cX6_odds 124 = .ok (.bipush 60, 2) := by decide +kernel
theorem dX6_odds_126 : decode cX6_odds 126 = .ok (.if_icmp .le 8, 3) := by decide +kernel
theorem dX6_odds_129 : decode cX6_odds 129 = .ok (.bipush 60, 2) := by decide +kernel
theorem dX6_odds_131 : decode cX6_odds 131 = .ok (.goto 5, 3) := by decide +kernel
theorem dX6_odds_134 : decode cX6_odds 134 = .ok (.iload 8, 2) := by decide +kernel
theorem dX6_odds_136 : decode cX6_odds 136 = .ok (.invokevirtual 195, 3) := by decide +kernel
theorem dX6_odds_139 : decode cX6_odds 139 = .ok (.istore 9, 2) := by decide +kernel
theorem dX6_odds_141 : decode cX6_odds 141 = .ok (.aload_n 0, 1) := by decide +kernel
theorem dX6_odds_142 : decode cX6_odds 142 = .ok (.getfield 185, 3) := by decide +kernel
theorem dX6_odds_145 : decode cX6_odds 145 = .ok (.ifCond .lt 7, 3) := by decide +kernel
theorem dX6_odds_148 : decode cX6_odds 148 = .ok (.iconst 1, 1) := by decide +kernel
theorem dX6_odds_149 : decode cX6_odds 149 = .ok (.goto 4, 3) := by decide +kernel
theorem dX6_odds_152 : decode cX6_odds 152 = .ok (.iconst 0, 1) := by decide +kernel
theorem dX6_odds_153 : decode cX6_odds 153 = .ok (.istore 6, 2) := by decide +kernel
theorem dX6_odds_155 : decode cX6_odds 155 = .ok (.iinc 7 1, 3) := by decide +kernel
theorem dX6_odds_158 : decode cX6_odds 158 = .ok (.goto (-92), 3) := by decide +kernel
theorem dX6_odds_161 : decode cX6_odds 161 = .ok (.aload_n 0, 1) := by decide +kernel
theorem dX6_odds_162 : decode cX6_odds 162 = .ok (.getfield 19, 3) := by decide +kernel
theorem dX6_odds_165 : decode cX6_odds 165 = .ok (.aload_n 0, 1) := by decide +kernel
theorem dX6_odds_166 : decode cX6_odds 166 = .ok (.getfield 9, 3) := by decide +kernel
theorem dX6_odds_169 : decode cX6_odds 169 = .ok (.invokestatic 104, 3) := by decide +kernel
theorem dX6_odds_172 : decode cX6_odds 172 = .ok (.iload_n 3, 1) := by decide +kernel
theorem dX6_odds_173 : decode cX6_odds 173 = .ok (.iload 6, 2) := by decide +kernel
theorem dX6_odds_175 : decode cX6_odds 175 = .ok (.ifCond .eq 7, 3) := by decide +kernel
theorem dX6_odds_178 : decode cX6_odds 178 = .ok (.iconst 0, 1) := by decide +kernel
theorem dX6_odds_179 : decode cX6_odds 179 = .ok (.goto 4, 3) := by decide +kernel
theorem dX6_odds_182 : decode cX6_odds 182 = .ok (.iconst 1, 1) := by decide +kernel
theorem dX6_odds_183 : decode cX6_odds 183 = .ok (.iadd, 1) := by decide +kernel
theorem dX6_odds_184 : decode cX6_odds 184 = .ok (.istore_n 3, 1) := by decide +kernel
theorem dX6_odds_185 : decode cX6_odds 185 = .ok (.iinc 4 1, 3) := by decide +kernel
theorem dX6_odds_188 : decode cX6_odds 188 = .ok (.goto (-159), 3) := by decide +kernel
theorem dX6_odds_191 : decode cX6_odds 191 = .ok (.iload_n 3, 1) := by decide +kernel
theorem dX6_odds_192 : decode cX6_odds 192 = .ok (.ireturn, 1) := by decide +kernel
theorem dX5_yaw_0 : decode cX5_yaw 0 = .ok (.iload_n 1, 1) := by decide +kernel
theorem dX5_yaw_1 : decode cX5_yaw 1 = .ok (.iconst 0, 1) := by decide +kernel
theorem dX5_yaw_2 : decode cX5_yaw 2 = .ok (.iconst 1, 1) := by decide +kernel
theorem dX5_yaw_3 : decode cX5_yaw 3 = .ok (.invokestatic 129, 3) := by decide +kernel
theorem dX5_yaw_6 : decode cX5_yaw 6 = .ok (.ifCond .ne 6, 3) := by decide +kernel
theorem dX5_yaw_9 : decode cX5_yaw 9 = .ok (.ldc 168, 2) := by decide +kernel
theorem dX5_yaw_11 : decode cX5_yaw 11 = .ok (.ireturn, 1) := by decide +kernel
theorem dX5_yaw_12 : decode cX5_yaw 12 = .ok (.iload_n 1, 1) := by decide +kernel
theorem dX5_yaw_13 : decode cX5_yaw 13 = .ok (.ifCond .ne 13, 3) := by decide +kernel
theorem dX5_yaw_16 : decode cX5_yaw 16 = .ok (.aload_n 0, 1) := by decide +kernel
theorem dX5_yaw_17 : decode cX5_yaw 17 = .ok (.getfield 10, 3) := by decide +kernel
theorem dX5_yaw_20 : decode cX5_yaw 20 = .ok (.getfield 190, 3) := by decide +kernel
theorem dX5_yaw_23 : decode cX5_yaw 23 = .ok (.goto 10, 3) := by decide +kernel
theorem dX5_yaw_26 : decode cX5_yaw 26 = .ok (.aload_n 0, 1) := by decide +kernel
theorem dX5_yaw_27 : decode cX5_yaw 27 = .ok (.getfield 10, 3) := by decide +kernel
theorem dX5_yaw_30 : decode cX5_yaw 30 = .ok (.getfield 193, 3) := by decide +kernel
theorem dX5_yaw_33 : decode cX5_yaw 33 = .ok (.ireturn, 1) := by decide +kernel
theorem dX6_yaw_0 : decode cX6_yaw 0 = .ok (.iload_n 1, 1) := by decide +kernel
theorem dX6_yaw_1 : decode cX6_yaw 1 = .ok (.i2l, 1) := by decide +kernel
theorem dX6_yaw_2 : decode cX6_yaw 2 = .ok (.lconst 0, 1) := by decide +kernel
theorem dX6_yaw_3 : decode cX6_yaw 3 = .ok (.lconst 1, 1) := by decide +kernel
theorem dX6_yaw_4 : decode cX6_yaw 4 = .ok (.invokestatic 47, 3) := by decide +kernel
theorem dX6_yaw_7 : decode cX6_yaw 7 = .ok (.ifCond .eq 14, 3) := by decide +kernel
theorem dX6_yaw_10 : decode cX6_yaw 10 = .ok (.aload_n 0, 1) := by decide +kernel
theorem dX6_yaw_11 : decode cX6_yaw 11 = .ok (.getfield 9, 3) := by decide +kernel
theorem dX6_yaw_14 : decode cX6_yaw 14 = .ok (.iconst 3, 1) := by decide +kernel
theorem dX6_yaw_15 : decode cX6_yaw 15 = .ok (.iload_n 1, 1) := by decide +kernel
theorem dX6_yaw_16 : decode cX6_yaw 16 = .ok (.iadd, 1) := by decide +kernel
theorem dX6_yaw_17 : decode cX6_yaw 17 = .ok (.iaload, 1) := by decide +kernel
theorem dX6_yaw_18 : decode cX6_yaw 18 = .ok (.goto 5, 3) := by decide +kernel
theorem dX6_yaw_21 : decode cX6_yaw 21 = .ok (.ldc 213, 2) := by decide +kernel
theorem dX6_yaw_23 : decode cX6_yaw 23 = .ok (.ireturn, 1) := by decide +kernel
theorem dX4_passYaw_0 : decode cX4_passYaw 0 = .ok (.aload_n 0, 1) := by decide +kernel
theorem dX4_passYaw_1 : decode cX4_passYaw 1 = .ok (.getfield 30, 3) := by decide +kernel
theorem dX4_passYaw_4 : decode cX4_passYaw 4 = .ok (.bipush 6, 2) := by decide +kernel
theorem dX4_passYaw_6 : decode cX4_passYaw 6 = .ok (.iaload, 1) := by decide +kernel
theorem dX4_passYaw_7 : decode cX4_passYaw 7 = .ok (.istore_n 1, 1) := by decide +kernel
theorem dX4_passYaw_8 : decode cX4_passYaw 8 = .ok (.aload_n 0, 1) := by decide +kernel
theorem dX4_passYaw_9 : decode cX4_passYaw 9 = .ok (.getfield 33, 3) := by decide +kernel
theorem dX4_passYaw_12 : decode cX4_passYaw 12 = .ok (.aload_n 0, 1) := by decide +kernel
theorem dX4_passYaw_13 : decode cX4_passYaw 13 = .ok (.getfield 30, 3) := by decide +kernel
theorem dX4_passYaw_16 : decode cX4_passYaw 16 = .ok (.iconst 2, 1) := by decide +kernel
theorem dX4_passYaw_17 : decode cX4_passYaw 17 = .ok (.iaload, 1) := by decide +kernel
theorem dX4_passYaw_18 : decode cX4_passYaw 18 = .ok (.aload_n 0, 1) := by decide +kernel
theorem dX4_passYaw_19 : decode cX4_passYaw 19 = .ok (.getfield 30, 3) := by decide +kernel
theorem dX4_passYaw_22 : decode cX4_passYaw 22 = .ok (.iconst 5, 1) := by decide +kernel
theorem dX4_passYaw_23 : decode cX4_passYaw 23 = .ok (.iaload, 1) := by decide +kernel
theorem dX4_passYaw_24 : decode cX4_passYaw 24 = .ok (.isub, 1) := by decide +kernel
theorem dX4_passYaw_25 : decode cX4_passYaw 25 = .ok (.iload_n 1, 1) := by decide +kernel
theorem dX4_passYaw_26 : decode cX4_passYaw 26 = .ok (.isub, 1) := by decide +kernel
theorem dX4_passYaw_27 : decode cX4_passYaw 27 = .ok (.imul, 1) := by decide +kernel
theorem dX4_passYaw_28 : decode cX4_passYaw 28 = .ok (.bipush 10, 2) := by decide +kernel
theorem dX4_passYaw_30 : decode cX4_passYaw 30 = .ok (.idiv, 1) := by decide +kernel
theorem dX4_passYaw_31 : decode cX4_passYaw 31 = .ok (.istore_n 2, 1) := by decide +kernel
theorem dX4_passYaw_32 : decode cX4_passYaw 32 = .ok (.aload_n 0, 1) := by decide +kernel
theorem dX4_passYaw_33 : decode cX4_passYaw 33 = .ok (.getfield 36, 3) := by decide +kernel
theorem dX4_passYaw_36 : decode cX4_passYaw 36 = .ok (.iconst 1, 1) := by decide +kernel
theorem dX4_passYaw_37 : decode cX4_passYaw 37 = .ok (.iconst 4, 1) := by decide +kernel
theorem dX4_passYaw_38 : decode cX4_passYaw 38 = .ok (.iload_n 1, 1) := by decide +kernel
theorem dX4_passYaw_39 : decode cX4_passYaw 39 = .ok (.iadd, 1) := by decide +kernel
theorem dX4_passYaw_40 : decode cX4_passYaw 40 = .ok (.invokestatic 104, 3) := by decide +kernel
theorem dX4_passYaw_43 : decode cX4_passYaw 43 = .ok (.idiv, 1) := by decide +kernel
theorem dX4_passYaw_44 : decode cX4_passYaw 44 = .ok (.istore_n 3, 1) := by decide +kernel
theorem dX4_passYaw_45 : decode cX4_passYaw 45 = .ok (.aload_n 0, 1) := by decide +kernel
theorem dX4_passYaw_46 : decode cX4_passYaw 46 = .ok (.getfield 33, 3) := by decide +kernel
theorem dX4_passYaw_49 : decode cX4_passYaw 49 = .ok (.aload_n 0, 1) := by decide +kernel
theorem dX4_passYaw_50 : decode cX4_passYaw 50 = .ok (.getfield 30, 3) := by decide +kernel
theorem dX4_passYaw_53 : decode cX4_passYaw 53 = .ok (.iconst 4, 1) := by decide +kernel
theorem dX4_passYaw_54 : decode cX4_passYaw 54 = .ok (.iaload, 1) := by decide +kernel
theorem dX4_passYaw_55 : decode cX4_passYaw 55 = .ok (.imul, 1) := by decide +kernel
theorem dX4_passYaw_56 : decode cX4_passYaw 56 = .ok (.bipush 20, 2) := by decide +kernel
theorem dX4_passYaw_58 : decode cX4_passYaw 58 = .ok (.idiv, 1) := by decide +kernel
theorem dX4_passYaw_59 : decode cX4_passYaw 59 = .ok (.istore 4, 2) := by decide +kernel
theorem dX4_passYaw_61 : decode cX4_passYaw 61 = .ok (.aload_n 0, 1) := by decide +kernel
theorem dX4_passYaw_62 : decode cX4_passYaw 62 = .ok (.aload_n 0, 1) := by decide +kernel
theorem dX4_passYaw_63 : decode cX4_passYaw 63 = .ok (.getfield 36, 3) := by decide +kernel
theorem dX4_passYaw_66 : decode cX4_passYaw 66 = .ok (.iload_n 2, 1) := by decide +kernel
theorem dX4_passYaw_67 : decode cX4_passYaw 67 = .ok (.iadd, 1) := by decide +kernel
theorem dX4_passYaw_68 : decode cX4_passYaw 68 = .ok (.iload_n 3, 1) := by decide +kernel
theorem dX4_passYaw_69 : decode cX4_passYaw 69 = .ok (.isub, 1) := by decide +kernel
theorem dX4_passYaw_70 : decode cX4_passYaw 70 = .ok (.iload 4, 2) := by decide +kernel
theorem dX4_passYaw_72 : decode cX4_passYaw 72 = .ok (.isub, 1) := by decide +kernel
theorem dX4_passYaw_73 : decode cX4_passYaw 73 = .ok (.sipush (-999), 3) := by decide +kernel
theorem dX4_passYaw_76 : decode cX4_passYaw 76 = .ok (.sipush 999, 3) := by decide +kernel
theorem dX4_passYaw_79 : decode cX4_passYaw 79 = .ok (.invokestatic 110, 3) := by decide +kernel
theorem dX4_passYaw_82 : decode cX4_passYaw 82 = .ok (.putfield 36, 3) := by decide +kernel
theorem dX4_passYaw_85 : decode cX4_passYaw 85 = .ok (.aload_n 0, 1) := by decide +kernel
theorem dX4_passYaw_86 : decode cX4_passYaw 86 = .ok (.aload_n 0, 1) := by decide +kernel
theorem dX4_passYaw_87 : decode cX4_passYaw 87 = .ok (.getfield 33, 3) := by decide +kernel
theorem dX4_passYaw_90 : decode cX4_passYaw 90 = .ok (.aload_n 0, 1) := by decide +kernel
theorem dX4_passYaw_91 : decode cX4_passYaw 91 = .ok (.getfield 36, 3) := by decide +kernel
theorem dX4_passYaw_94 : decode cX4_passYaw 94 = .ok (.bipush 10, 2) := by decide +kernel
theorem dX4_passYaw_96 : decode cX4_passYaw 96 = .ok (.idiv, 1) := by decide +kernel
theorem dX4_passYaw_97 : decode cX4_passYaw 97 = .ok (.iadd, 1) := by decide +kernel
theorem dX4_passYaw_98 : decode cX4_passYaw 98 = .ok (.sipush (-999), 3) := by decide +kernel
theorem dX4_passYaw_101 : decode cX4_passYaw 101 = .ok (.sipush 999, 3) := by decide +kernel
theorem dX4_passYaw_104 : decode cX4_passYaw 104 = .ok (.invokestatic 110, 3) := by decide +kernel
theorem dX4_passYaw_107 : decode cX4_passYaw 107 = .ok (.putfield 33, 3) := by decide +kernel
theorem dX4_passYaw_110 : decode cX4_passYaw 110 = .ok (.return_, 1) := by decide +kernel
theorem dX4_greatestYaw_0 : decode cX4_greatestYaw 0 = .ok (.iconst 0, 1) := by decide +kernel
theorem dX4_greatestYaw_1 : decode cX4_greatestYaw 1 = .ok (.istore_n 2, 1) := by decide +kernel
theorem dX4_greatestYaw_2 : decode cX4_greatestYaw 2 = .ok (.iconst 0, 1) := by decide +kernel
theorem dX4_greatestYaw_3 : decode cX4_greatestYaw 3 = .ok (.istore_n 3, 1) := by decide +kernel
theorem dX4_greatestYaw_4 : decode cX4_greatestYaw 4 = .ok (.iload_n 3, 1) := by decide +kernel
theorem dX4_greatestYaw_5 : decode cX4_greatestYaw 5 = .ok (.iload_n 1, 1) := by decide +kernel
theorem dX4_greatestYaw_6 : decode cX4_greatestYaw 6 = .ok (.if_icmp .ge 25, 3) := by decide +kernel
theorem dX4_greatestYaw_9 : decode cX4_greatestYaw 9 = .ok (.aload_n 0, 1) := by decide +kernel
theorem dX4_greatestYaw_10 : decode cX4_greatestYaw 10 = .ok (.invokevirtual 114, 3) := by decide +kernel
theorem dX4_greatestYaw_13 : decode cX4_greatestYaw 13 = .ok (.iload_n 2, 1) := by decide +kernel
theorem dX4_greatestYaw_14 : decode cX4_greatestYaw 14 = .ok (.aload_n 0, 1) := by decide +kernel
theorem dX4_greatestYaw_15 : decode cX4_greatestYaw 15 = .ok (.getfield 33, 3) := by decide +kernel
theorem dX4_greatestYaw_18 : decode cX4_greatestYaw 18 = .ok (.invokestatic 117, 3) := by decide +kernel
theorem dX4_greatestYaw_21 : decode cX4_greatestYaw 21 = .ok (.invokestatic 104, 3) := by decide +kernel
theorem dX4_greatestYaw_24 : decode cX4_greatestYaw 24 = .ok (.istore_n 2, 1) := by decide +kernel
theorem dX4_greatestYaw_25 : decode cX4_greatestYaw 25 = .ok (.iinc 3 1, 3) := by decide +kernel
theorem dX4_greatestYaw_28 : decode cX4_greatestYaw 28 = .ok (.goto (-24), 3) := by decide +kernel
theorem dX4_greatestYaw_31 : decode cX4_greatestYaw 31 = .ok (.iload_n 2, 1) := by decide +kernel
theorem dX4_greatestYaw_32 : decode cX4_greatestYaw 32 = .ok (.ireturn, 1) := by decide +kernel
section WALK
variable {p : Program} {l : Launch} {e : Env} {s : State} {m : MethodId} {args : Array Value} {below : List Frame} {meth : Method} {c : Code} {G : GG}

def j_X6_takeIn_127 (k26 : Mem → Int32 → Int32 → Int32 → Prop) (post : Int32 → Mem → Prop) (M : Mem) (x1 : Int32) (x2 : Int32) (x3 : Int32) : Prop := k26 M x1 x2 (x3 + (1 : Int32))
def j_X6_takeIn_116 (k26 : Mem → Int32 → Int32 → Int32 → Prop) (post : Int32 → Mem → Prop) (M : Mem) (x3 : Int32) (x5 : Int32) : Prop := j_X6_takeIn_127 k26 post M (((100 : Int32) * x3) + x5) x5 x3
def j_X6_takeIn_90 (k26 : Mem → Int32 → Int32 → Int32 → Prop) (post : Int32 → Mem → Prop) (M : Mem) (x1 : Int32) (x2 : Int32) (x3 : Int32) (x4 : Int32) (x5 : Int32) : Prop := q_X6_puts M x3 (2 : Int32) x4 (fun M2 => (x5 = 0 → (j_X6_takeIn_127 k26 post M2 x1 x2 x3)) ∧ (¬ (x5 = 0) → ((x1 < 0 → (j_X6_takeIn_116 k26 post M2 x3 x5)) ∧ (¬ (x1 < 0) → ((x5 < x2 → (j_X6_takeIn_116 k26 post M2 x3 x5)) ∧ (¬ (x5 < x2) → (j_X6_takeIn_127 k26 post M2 x1 x2 x3)))))))
def j_X6_takeIn_84 (k26 : Mem → Int32 → Int32 → Int32 → Prop) (k50 : Mem → Int32 → Int32 → Int32 → Int32 → Int32 → Int32 → Prop) (post : Int32 → Mem → Prop) (M : Mem) (x1 : Int32) (x2 : Int32) (x3 : Int32) (x4 : Int32) (x5 : Int32) (x6 : Int32) : Prop := k50 M x1 x2 x3 x4 x5 (x6 + (1 : Int32))
def b_X6_takeIn_50 (k26 : Mem → Int32 → Int32 → Int32 → Prop) (k50 : Mem → Int32 → Int32 → Int32 → Int32 → Int32 → Int32 → Prop) (post : Int32 → Mem → Prop) (M : Mem) (x1 : Int32) (x2 : Int32) (x3 : Int32) (x4 : Int32) (x5 : Int32) (x6 : Int32) : Prop := (x4 < x6 → (j_X6_takeIn_90 k26 post M x1 x2 x3 x4 x5)) ∧ (¬ (x4 < x6) → ((x5 = 0 → (q_X6_puts M x3 (2 : Int32) (x4 - x6) (fun M9 => q_X6_isFoul M9  (fun r10 M11 => (r10 = 0 → (j_X6_takeIn_84 k26 k50 post M11 x1 x2 x3 x4 x6 x6)) ∧ (¬ (r10 = 0) → (j_X6_takeIn_84 k26 k50 post M11 x1 x2 x3 x4 x5 x6)))))) ∧ (¬ (x5 = 0) → (j_X6_takeIn_90 k26 post M x1 x2 x3 x4 x5))))
def lp_X6_takeIn_50 (k26 : Mem → Int32 → Int32 → Int32 → Prop) (post : Int32 → Mem → Prop) : Nat → Mem → Int32 → Int32 → Int32 → Int32 → Int32 → Int32 → Prop
  | 0 => fun _ _ _ _ _ _ _ => False
  | n + 1 => fun M x1 x2 x3 x4 x5 x6 => b_X6_takeIn_50 k26 (lp_X6_takeIn_50 k26 post n) post M x1 x2 x3 x4 x5 x6
def b_X6_takeIn_26 (k26 : Mem → Int32 → Int32 → Int32 → Prop) (post : Int32 → Mem → Prop) (M : Mem) (x1 : Int32) (x2 : Int32) (x3 : Int32) : Prop := ((M 58 0) ≤ x3 → (post x1 M)) ∧ (¬ ((M 58 0) ≤ x3) → (q_X6_get M x3 (2 : Int32) (fun r14 M15 => ∃ n, lp_X6_takeIn_50 k26 post n M15 x1 x2 x3 r14 (0 : Int32) (1 : Int32))))
def lp_X6_takeIn_26 (post : Int32 → Mem → Prop) : Nat → Mem → Int32 → Int32 → Int32 → Prop
  | 0 => fun _ _ _ _ => False
  | n + 1 => fun M x1 x2 x3 => b_X6_takeIn_26 (lp_X6_takeIn_26 post n) post M x1 x2 x3
def q_X6_takeIn (M : Mem) (post : Int32 → Mem → Prop) : Prop := q_X6_isLine M  (fun r16 M17 => (r16 = 0 → (post (-3 : Int32) M17)) ∧ (¬ (r16 = 0) → (q_X6_isFoul M17  (fun r19 M20 => (r19 = 0 → (post (0 : Int32) M20)) ∧ (¬ (r19 = 0) → (∃ n, lp_X6_takeIn_26 post n M20 (-4 : Int32) (0 : Int32) (0 : Int32)))))))
set_option maxHeartbeats 4000000 in
set_option maxRecDepth 100000 in
theorem t_X6_takeIn_127 (C : Cx G p s m args meth c RX6 cX6_takeIn 7 (some .int)) {post : Int32 → Mem → Prop} {k26 : Mem → Int32 → Int32 → Int32 → Prop} (hk26 : ∀ (M : Mem) (x1 : Int32) (x2 : Int32) (x3 : Int32) (H : Heap) (locs : List Loc) (ls : Array Slot), Wd G s M H locs → lv_has ls 7 [(0, .ref (ga G 57)), (1, .int x1), (2, .int x2), (3, .int x3)] → k26 M x1 x2 x3 → W p l e (rmk 4) s m args below meth c H locs 0 0 (MQ below (va_Qi post (Qw G) (Af G s.heap.size)) args s 0 0 (Af G s.heap.size)) (F0 m 26 ls [])) (M : Mem) (x1 : Int32) (x2 : Int32) (x3 : Int32) {H : Heap} {locs : List Loc} {ls : Array Slot} (w : Wd G s M H locs) (hl : lv_has ls 7 [(0, .ref (ga G 57)), (1, .int x1), (2, .int x2), (3, .int x3)]) (h : j_X6_takeIn_127 k26 post M x1 x2 x3) : W p l e (rmk 4) s m args below meth c H locs 0 0 (MQ below (va_Qi post (Qw G) (Af G s.heap.size)) args s 0 0 (Af G s.heap.size)) (F0 m 127 ls []) := by
  have hx := C.1.1
  have hb := C.1.2.1
  unfold j_X6_takeIn_127 at h
  refine lv_iinc (v := (x3 + (1 : Int32))) (lv' := [(3, .int (x3 + (1 : Int32))), (0, .ref (ga G 57)), (1, .int x1), (2, .int x2)]) hx hb dX6_takeIn_127 hl (k := 3) rfl rfl (by decide) rfl (fun ls hl => ?_)
  refine lv_goto (tgt := 26) hx hb dX6_takeIn_130 (by decide) ?_
  exact hk26 M x1 x2 (x3 + (1 : Int32)) _ _ _  w (lv_sub hl [1, 2, 3, 0] rfl) h
set_option maxHeartbeats 4000000 in
set_option maxRecDepth 100000 in
theorem t_X6_takeIn_116 (C : Cx G p s m args meth c RX6 cX6_takeIn 7 (some .int)) {post : Int32 → Mem → Prop} {k26 : Mem → Int32 → Int32 → Int32 → Prop} (hk26 : ∀ (M : Mem) (x1 : Int32) (x2 : Int32) (x3 : Int32) (H : Heap) (locs : List Loc) (ls : Array Slot), Wd G s M H locs → lv_has ls 7 [(0, .ref (ga G 57)), (1, .int x1), (2, .int x2), (3, .int x3)] → k26 M x1 x2 x3 → W p l e (rmk 4) s m args below meth c H locs 0 0 (MQ below (va_Qi post (Qw G) (Af G s.heap.size)) args s 0 0 (Af G s.heap.size)) (F0 m 26 ls [])) (M : Mem) (x3 : Int32) (x5 : Int32) {H : Heap} {locs : List Loc} {ls : Array Slot} (w : Wd G s M H locs) (hl : lv_has ls 7 [(0, .ref (ga G 57)), (3, .int x3), (5, .int x5)]) (h : j_X6_takeIn_116 k26 post M x3 x5) : W p l e (rmk 4) s m args below meth c H locs 0 0 (MQ below (va_Qi post (Qw G) (Af G s.heap.size)) args s 0 0 (Af G s.heap.size)) (F0 m 116 ls []) := by
  have hx := C.1.1
  have hb := C.1.2.1
  unfold j_X6_takeIn_116 at h
  refine lv_bipush (v := 100) hx hb dX6_takeIn_116 (by decide) ?_
  refine lv_iload_n hx hb dX6_takeIn_118 rfl (lv_at hl 1 rfl) ?_
  refine lv_imul hx hb dX6_takeIn_119 ?_
  refine lv_iload hx hb dX6_takeIn_120 (lv_at hl 2 rfl) ?_
  refine lv_iadd hx hb dX6_takeIn_122 ?_
  refine lv_istore_n (lv' := [(1, .int (((100 : Int32) * x3) + x5)), (0, .ref (ga G 57)), (3, .int x3), (5, .int x5)]) hx hb dX6_takeIn_123 rfl hl (by decide) rfl (fun ls hl => ?_)
  refine lv_iload hx hb dX6_takeIn_124 (lv_at hl 3 rfl) ?_
  refine lv_istore_n (lv' := [(2, .int x5), (1, .int (((100 : Int32) * x3) + x5)), (0, .ref (ga G 57)), (3, .int x3), (5, .int x5)]) hx hb dX6_takeIn_126 rfl hl (by decide) rfl (fun ls hl => ?_)
  exact t_X6_takeIn_127 C hk26 M (((100 : Int32) * x3) + x5) x5 x3  w (lv_sub hl [2, 1, 0, 3] rfl) h
set_option maxHeartbeats 4000000 in
set_option maxRecDepth 100000 in
theorem t_X6_takeIn_90 (C : Cx G p s m args meth c RX6 cX6_takeIn 7 (some .int)) {post : Int32 → Mem → Prop} {k26 : Mem → Int32 → Int32 → Int32 → Prop} (hk26 : ∀ (M : Mem) (x1 : Int32) (x2 : Int32) (x3 : Int32) (H : Heap) (locs : List Loc) (ls : Array Slot), Wd G s M H locs → lv_has ls 7 [(0, .ref (ga G 57)), (1, .int x1), (2, .int x2), (3, .int x3)] → k26 M x1 x2 x3 → W p l e (rmk 4) s m args below meth c H locs 0 0 (MQ below (va_Qi post (Qw G) (Af G s.heap.size)) args s 0 0 (Af G s.heap.size)) (F0 m 26 ls [])) (M : Mem) (x1 : Int32) (x2 : Int32) (x3 : Int32) (x4 : Int32) (x5 : Int32) {H : Heap} {locs : List Loc} {ls : Array Slot} (w : Wd G s M H locs) (hl : lv_has ls 7 [(0, .ref (ga G 57)), (1, .int x1), (2, .int x2), (3, .int x3), (4, .int x4), (5, .int x5)]) (h : j_X6_takeIn_90 k26 post M x1 x2 x3 x4 x5) : W p l e (rmk 4) s m args below meth c H locs 0 0 (MQ below (va_Qi post (Qw G) (Af G s.heap.size)) args s 0 0 (Af G s.heap.size)) (F0 m 90 ls []) := by
  have hx := C.1.1
  have hb := C.1.2.1
  unfold j_X6_takeIn_90 at h
  refine lv_aload_n hx hb dX6_takeIn_90 rfl (lv_at hl 0 rfl) ?_
  refine lv_iload_n hx hb dX6_takeIn_91 rfl (lv_at hl 3 rfl) ?_
  refine lv_iconst (v := 2) hx hb dX6_takeIn_92 (by decide) ?_
  refine lv_iload hx hb dX6_takeIn_93 (lv_at hl 4 rfl) ?_
  refine end_v w (run_V (As := [.int x3, .int (2 : Int32), .int x4]) C w hl.1 (c_X6_puts l G C.2.2.1 _ _ x3 (2 : Int32) x4  _ h) kw_22_7 kw_1_5 kw_22_4 kw_22_5 kw_22_6 hd_X6_puts ⟨by decide, by decide⟩ (w.recv C (i := 57) (by decide) (pE_6) rfl) rfl (Nat.le_of_ble_eq_true rfl) dX6_takeIn_95) (fun M2 H locs h w => ?_)
  refine lv_iload hx hb dX6_takeIn_98 (lv_at hl 5 rfl) ?_
  refine lv_if_eq (tgt := 127) hx hb dX6_takeIn_100 (by decide) (fun c3 => ?_) (fun c3 => ?_)
  · replace h := h.1 c3
    exact t_X6_takeIn_127 C hk26 M2 x1 x2 x3  w (lv_sub hl [0, 1, 2, 3] rfl) h
  replace h := h.2 c3
  refine lv_iload_n hx hb dX6_takeIn_103 rfl (lv_at hl 1 rfl) ?_
  refine lv_if_lt (tgt := 116) hx hb dX6_takeIn_104 (by decide) (fun c4 => ?_) (fun c4 => ?_)
  · replace h := h.1 c4
    exact t_X6_takeIn_116 C hk26 M2 x3 x5  w (lv_sub hl [0, 3, 5] rfl) h
  replace h := h.2 c4
  refine lv_iload hx hb dX6_takeIn_107 (lv_at hl 5 rfl) ?_
  refine lv_iload_n hx hb dX6_takeIn_109 rfl (lv_at hl 2 rfl) ?_
  refine lv_icmp_lt (tgt := 116) hx hb dX6_takeIn_110 (by decide) (fun c5 => ?_) (fun c5 => ?_)
  · replace h := h.1 c5
    exact t_X6_takeIn_116 C hk26 M2 x3 x5  w (lv_sub hl [0, 3, 5] rfl) h
  replace h := h.2 c5
  refine lv_goto (tgt := 127) hx hb dX6_takeIn_113 (by decide) ?_
  exact t_X6_takeIn_127 C hk26 M2 x1 x2 x3  w (lv_sub hl [0, 1, 2, 3] rfl) h
set_option maxHeartbeats 4000000 in
set_option maxRecDepth 100000 in
theorem t_X6_takeIn_84 (C : Cx G p s m args meth c RX6 cX6_takeIn 7 (some .int)) {post : Int32 → Mem → Prop} {k26 : Mem → Int32 → Int32 → Int32 → Prop} {k50 : Mem → Int32 → Int32 → Int32 → Int32 → Int32 → Int32 → Prop} (hk26 : ∀ (M : Mem) (x1 : Int32) (x2 : Int32) (x3 : Int32) (H : Heap) (locs : List Loc) (ls : Array Slot), Wd G s M H locs → lv_has ls 7 [(0, .ref (ga G 57)), (1, .int x1), (2, .int x2), (3, .int x3)] → k26 M x1 x2 x3 → W p l e (rmk 4) s m args below meth c H locs 0 0 (MQ below (va_Qi post (Qw G) (Af G s.heap.size)) args s 0 0 (Af G s.heap.size)) (F0 m 26 ls [])) (hk50 : ∀ (M : Mem) (x1 : Int32) (x2 : Int32) (x3 : Int32) (x4 : Int32) (x5 : Int32) (x6 : Int32) (H : Heap) (locs : List Loc) (ls : Array Slot), Wd G s M H locs → lv_has ls 7 [(0, .ref (ga G 57)), (1, .int x1), (2, .int x2), (3, .int x3), (4, .int x4), (5, .int x5), (6, .int x6)] → k50 M x1 x2 x3 x4 x5 x6 → W p l e (rmk 4) s m args below meth c H locs 0 0 (MQ below (va_Qi post (Qw G) (Af G s.heap.size)) args s 0 0 (Af G s.heap.size)) (F0 m 50 ls [])) (M : Mem) (x1 : Int32) (x2 : Int32) (x3 : Int32) (x4 : Int32) (x5 : Int32) (x6 : Int32) {H : Heap} {locs : List Loc} {ls : Array Slot} (w : Wd G s M H locs) (hl : lv_has ls 7 [(0, .ref (ga G 57)), (1, .int x1), (2, .int x2), (3, .int x3), (4, .int x4), (5, .int x5), (6, .int x6)]) (h : j_X6_takeIn_84 k26 k50 post M x1 x2 x3 x4 x5 x6) : W p l e (rmk 4) s m args below meth c H locs 0 0 (MQ below (va_Qi post (Qw G) (Af G s.heap.size)) args s 0 0 (Af G s.heap.size)) (F0 m 84 ls []) := by
  have hx := C.1.1
  have hb := C.1.2.1
  unfold j_X6_takeIn_84 at h
  refine lv_iinc (v := (x6 + (1 : Int32))) (lv' := [(6, .int (x6 + (1 : Int32))), (0, .ref (ga G 57)), (1, .int x1), (2, .int x2), (3, .int x3), (4, .int x4), (5, .int x5)]) hx hb dX6_takeIn_84 hl (k := 6) rfl rfl (by decide) rfl (fun ls hl => ?_)
  refine lv_goto (tgt := 50) hx hb dX6_takeIn_87 (by decide) ?_
  exact hk50 M x1 x2 x3 x4 x5 (x6 + (1 : Int32)) _ _ _  w (lv_sub hl [1, 2, 3, 4, 5, 6, 0] rfl) h
set_option maxHeartbeats 4000000 in
set_option maxRecDepth 100000 in
theorem t_X6_takeIn_50 (C : Cx G p s m args meth c RX6 cX6_takeIn 7 (some .int)) {post : Int32 → Mem → Prop} {k26 : Mem → Int32 → Int32 → Int32 → Prop} (hk26 : ∀ (M : Mem) (x1 : Int32) (x2 : Int32) (x3 : Int32) (H : Heap) (locs : List Loc) (ls : Array Slot), Wd G s M H locs → lv_has ls 7 [(0, .ref (ga G 57)), (1, .int x1), (2, .int x2), (3, .int x3)] → k26 M x1 x2 x3 → W p l e (rmk 4) s m args below meth c H locs 0 0 (MQ below (va_Qi post (Qw G) (Af G s.heap.size)) args s 0 0 (Af G s.heap.size)) (F0 m 26 ls [])) : ∀ (n : Nat) (M : Mem) (x1 : Int32) (x2 : Int32) (x3 : Int32) (x4 : Int32) (x5 : Int32) (x6 : Int32) {H : Heap} {locs : List Loc} {ls : Array Slot} (w : Wd G s M H locs) (hl : lv_has ls 7 [(0, .ref (ga G 57)), (1, .int x1), (2, .int x2), (3, .int x3), (4, .int x4), (5, .int x5), (6, .int x6)]) (h : lp_X6_takeIn_50 k26 post n M x1 x2 x3 x4 x5 x6), W p l e (rmk 4) s m args below meth c H locs 0 0 (MQ below (va_Qi post (Qw G) (Af G s.heap.size)) args s 0 0 (Af G s.heap.size)) (F0 m 50 ls []) := by
  have hx := C.1.1
  have hb := C.1.2.1
  intro n9
  induction n9 with
  | zero => intro M x1 x2 x3 x4 x5 x6 H locs ls w hl h; exact absurd h id
  | succ n9 ih9 =>
    intro M x1 x2 x3 x4 x5 x6 H locs ls w hl h
    have hk50 : ∀ (M : Mem) (x1 : Int32) (x2 : Int32) (x3 : Int32) (x4 : Int32) (x5 : Int32) (x6 : Int32) (H : Heap) (locs : List Loc) (ls : Array Slot), Wd G s M H locs → lv_has ls 7 [(0, .ref (ga G 57)), (1, .int x1), (2, .int x2), (3, .int x3), (4, .int x4), (5, .int x5), (6, .int x6)] → lp_X6_takeIn_50 k26 post n9 M x1 x2 x3 x4 x5 x6 → W p l e (rmk 4) s m args below meth c H locs 0 0 (MQ below (va_Qi post (Qw G) (Af G s.heap.size)) args s 0 0 (Af G s.heap.size)) (F0 m 50 ls []) := fun M x1 x2 x3 x4 x5 x6 H locs ls w hl h => ih9 M x1 x2 x3 x4 x5 x6 w hl h
    replace h : b_X6_takeIn_50 k26 (lp_X6_takeIn_50 k26 post n9) post M x1 x2 x3 x4 x5 x6 := h
    unfold b_X6_takeIn_50 at h
    refine lv_iload hx hb dX6_takeIn_50 (lv_at hl 6 rfl) ?_
    refine lv_iload hx hb dX6_takeIn_52 (lv_at hl 4 rfl) ?_
    refine lv_icmp_gt (tgt := 90) hx hb dX6_takeIn_54 (by decide) (fun c6 => ?_) (fun c6 => ?_)
    · replace h := h.1 c6
      exact t_X6_takeIn_90 C hk26 M x1 x2 x3 x4 x5  w (lv_sub hl [0, 1, 2, 3, 4, 5] rfl) h
    replace h := h.2 c6
    refine lv_iload hx hb dX6_takeIn_57 (lv_at hl 5 rfl) ?_
    refine lv_if_ne (tgt := 90) hx hb dX6_takeIn_59 (by decide) (fun c7 => ?_) (fun c7 => ?_)
    · replace h := h.2 c7
      exact t_X6_takeIn_90 C hk26 M x1 x2 x3 x4 x5  w (lv_sub hl [0, 1, 2, 3, 4, 5] rfl) h
    replace h := h.1 c7
    refine lv_aload_n hx hb dX6_takeIn_62 rfl (lv_at hl 0 rfl) ?_
    refine lv_iload_n hx hb dX6_takeIn_63 rfl (lv_at hl 3 rfl) ?_
    refine lv_iconst (v := 2) hx hb dX6_takeIn_64 (by decide) ?_
    refine lv_iload hx hb dX6_takeIn_65 (lv_at hl 4 rfl) ?_
    refine lv_iload hx hb dX6_takeIn_67 (lv_at hl 6 rfl) ?_
    refine lv_isub hx hb dX6_takeIn_69 ?_
    refine end_v w (run_V (As := [.int x3, .int (2 : Int32), .int (x4 - x6)]) C w hl.1 (c_X6_puts l G C.2.2.1 _ _ x3 (2 : Int32) (x4 - x6)  _ h) kw_22_7 kw_1_5 kw_22_4 kw_22_5 kw_22_6 hd_X6_puts ⟨by decide, by decide⟩ (w.recv C (i := 57) (by decide) (pE_6) rfl) rfl (Nat.le_of_ble_eq_true rfl) dX6_takeIn_70) (fun M9 H locs h w => ?_)
    refine lv_aload_n hx hb dX6_takeIn_73 rfl (lv_at hl 0 rfl) ?_
    refine end_i w (run_V (As := []) C w hl.1 (c_X6_isFoul l G C.2.2.1 _ _   _ h) kw_26_4 kw_1_5 kw_26_1 kw_26_2 kw_26_3 hd_X6_isFoul ⟨by decide, by decide⟩ (w.recv C (i := 57) (by decide) (pE_6) rfl) rfl (Nat.le_of_ble_eq_true rfl) dX6_takeIn_74) (fun r10 M11 H locs h w => ?_)
    refine lv_if_ne (tgt := 84) hx hb dX6_takeIn_77 (by decide) (fun c12 => ?_) (fun c12 => ?_)
    · replace h := h.2 c12
      exact t_X6_takeIn_84 C hk26 hk50 M11 x1 x2 x3 x4 x5 x6  w (lv_sub hl [0, 1, 2, 3, 4, 5, 6] rfl) h
    replace h := h.1 c12
    refine lv_iload hx hb dX6_takeIn_80 (lv_at hl 6 rfl) ?_
    refine lv_istore (lv' := [(5, .int x6), (0, .ref (ga G 57)), (1, .int x1), (2, .int x2), (3, .int x3), (4, .int x4), (6, .int x6)]) hx hb dX6_takeIn_82 hl (by decide) rfl (fun ls hl => ?_)
    exact t_X6_takeIn_84 C hk26 hk50 M11 x1 x2 x3 x4 x6 x6  w (lv_sub hl [1, 2, 3, 4, 5, 0, 6] rfl) h
set_option maxHeartbeats 4000000 in
set_option maxRecDepth 100000 in
theorem t_X6_takeIn_26 (C : Cx G p s m args meth c RX6 cX6_takeIn 7 (some .int)) {post : Int32 → Mem → Prop} : ∀ (n : Nat) (M : Mem) (x1 : Int32) (x2 : Int32) (x3 : Int32) {H : Heap} {locs : List Loc} {ls : Array Slot} (w : Wd G s M H locs) (hl : lv_has ls 7 [(0, .ref (ga G 57)), (1, .int x1), (2, .int x2), (3, .int x3)]) (h : lp_X6_takeIn_26 post n M x1 x2 x3), W p l e (rmk 4) s m args below meth c H locs 0 0 (MQ below (va_Qi post (Qw G) (Af G s.heap.size)) args s 0 0 (Af G s.heap.size)) (F0 m 26 ls []) := by
  have hx := C.1.1
  have hb := C.1.2.1
  intro n9
  induction n9 with
  | zero => intro M x1 x2 x3 H locs ls w hl h; exact absurd h id
  | succ n9 ih9 =>
    intro M x1 x2 x3 H locs ls w hl h
    have hk26 : ∀ (M : Mem) (x1 : Int32) (x2 : Int32) (x3 : Int32) (H : Heap) (locs : List Loc) (ls : Array Slot), Wd G s M H locs → lv_has ls 7 [(0, .ref (ga G 57)), (1, .int x1), (2, .int x2), (3, .int x3)] → lp_X6_takeIn_26 post n9 M x1 x2 x3 → W p l e (rmk 4) s m args below meth c H locs 0 0 (MQ below (va_Qi post (Qw G) (Af G s.heap.size)) args s 0 0 (Af G s.heap.size)) (F0 m 26 ls []) := fun M x1 x2 x3 H locs ls w hl h => ih9 M x1 x2 x3 w hl h
    replace h : b_X6_takeIn_26 (lp_X6_takeIn_26 post n9) post M x1 x2 x3 := h
    unfold b_X6_takeIn_26 at h
    refine lv_iload_n hx hb dX6_takeIn_26 rfl (lv_at hl 3 rfl) ?_
    refine lv_aload_n hx hb dX6_takeIn_27 rfl (lv_at hl 0 rfl) ?_
    refine gt_6_0 C w kw_5_0 dX6_takeIn_28 ?_
    refine lv_iconst (v := 0) hx hb dX6_takeIn_31 (by decide) ?_
    refine pw_ld C w (i := 58) (by decide) pE_58 (vl (x := (0 : Int32)) (by decide)) (k := 0) (by decide) dX6_takeIn_32 ?_
    refine lv_icmp_ge (tgt := 133) hx hb dX6_takeIn_33 (by decide) (fun c13 => ?_) (fun c13 => ?_)
    · replace h := h.1 c13
      refine lv_iload_n hx hb dX6_takeIn_133 rfl (lv_at hl 1 rfl) ?_
      exact ret_i C w h dX6_takeIn_134
    replace h := h.2 c13
    refine lv_aload_n hx hb dX6_takeIn_36 rfl (lv_at hl 0 rfl) ?_
    refine lv_iload_n hx hb dX6_takeIn_37 rfl (lv_at hl 3 rfl) ?_
    refine lv_iconst (v := 2) hx hb dX6_takeIn_38 (by decide) ?_
    refine end_i w (run_V (As := [.int x3, .int (2 : Int32)]) C w hl.1 (c_X6_get l G C.2.2.1 _ _ x3 (2 : Int32)  _ h) kw_14_10 kw_1_5 kw_14_7 kw_14_8 kw_14_9 hd_X6_get ⟨by decide, by decide⟩ (w.recv C (i := 57) (by decide) (pE_6) rfl) rfl (Nat.le_of_ble_eq_true rfl) dX6_takeIn_39) (fun r14 M15 H locs h w => ?_)
    refine lv_istore (lv' := [(4, .int r14), (0, .ref (ga G 57)), (1, .int x1), (2, .int x2), (3, .int x3)]) hx hb dX6_takeIn_42 hl (by decide) rfl (fun ls hl => ?_)
    refine lv_iconst (v := 0) hx hb dX6_takeIn_44 (by decide) ?_
    refine lv_istore (lv' := [(5, .int (0 : Int32)), (4, .int r14), (0, .ref (ga G 57)), (1, .int x1), (2, .int x2), (3, .int x3)]) hx hb dX6_takeIn_45 hl (by decide) rfl (fun ls hl => ?_)
    refine lv_iconst (v := 1) hx hb dX6_takeIn_47 (by decide) ?_
    refine lv_istore (lv' := [(6, .int (1 : Int32)), (5, .int (0 : Int32)), (4, .int r14), (0, .ref (ga G 57)), (1, .int x1), (2, .int x2), (3, .int x3)]) hx hb dX6_takeIn_48 hl (by decide) rfl (fun ls hl => ?_)
    obtain ⟨n, h⟩ := h
    exact t_X6_takeIn_50 C hk26 n M15 x1 x2 x3 r14 (0 : Int32) (1 : Int32)  w (lv_sub hl [3, 4, 5, 6, 2, 1, 0] rfl) h
set_option maxHeartbeats 4000000 in
set_option maxRecDepth 100000 in
theorem c_X6_takeIn (l : Launch) (G : GG) (hG : Ag G) (sz : Nat) (M : Mem) (post : Int32 → Mem → Prop) (h : q_X6_takeIn M post) : Met l yX6_takeIn (Cond.code yX6_takeIn cX6_takeIn 7 (some .int) :: wsL_law) (rmk 4) (va_Pc [.ref (ga G 57)] (Pw G sz M)) (va_Qi post (Qw G) (Af G sz)) 0 0 (Af G sz) := by
  refine Met.ofW (cc := cX6_takeIn) (maxL := 7) (ret := (some .int)) (by decide) rfl ?_
  intro p e s m args below meth c s₁ B hml hv
  obtain ⟨rfl, hsz, hE, hP⟩ := hv
  subst hsz
  have C := Cx.of (own := RX6) hG hE rfl hml B
  have w : Wd G s M s.heap [] := ⟨hP, va_S.rf⟩
  have hl := lv_entry [.ref (ga G 57)] (n := 7) (Nat.le_of_ble_eq_true rfl)
  rw [lg_entry_eq]
  generalize (lg_sl [.ref (ga G 57)] ++ List.replicate (7 - (lg_sl [.ref (ga G 57)]).length) Slot.unset).toArray = ls at hl ⊢
  have hl : lv_has ls 7 [(0, .ref (ga G 57))] := hl
  have hx := C.1.1
  have hb := C.1.2.1
  show W p l e (rmk 4) s m _ below meth c s.heap [] 0 0 _ _
  unfold q_X6_takeIn at h
  refine lv_aload_n hx hb dX6_takeIn_0 rfl (lv_at hl 0 rfl) ?_
  refine end_i w (run_V (As := []) C w hl.1 (c_X6_isLine l G C.2.2.1 _ _   _ h) kw_17_11 kw_1_5 kw_17_8 kw_17_9 kw_17_10 hd_X6_isLine ⟨by decide, by decide⟩ (w.recv C (i := 57) (by decide) (pE_6) rfl) rfl (Nat.le_of_ble_eq_true rfl) dX6_takeIn_1) (fun r16 M17 H locs h w => ?_)
  refine lv_if_ne (tgt := 10) hx hb dX6_takeIn_4 (by decide) (fun c18 => ?_) (fun c18 => ?_)
  · replace h := h.2 c18
    refine lv_aload_n hx hb dX6_takeIn_10 rfl (lv_at hl 0 rfl) ?_
    refine end_i w (run_V (As := []) C w hl.1 (c_X6_isFoul l G C.2.2.1 _ _   _ h) kw_26_4 kw_1_5 kw_26_1 kw_26_2 kw_26_3 hd_X6_isFoul ⟨by decide, by decide⟩ (w.recv C (i := 57) (by decide) (pE_6) rfl) rfl (Nat.le_of_ble_eq_true rfl) dX6_takeIn_11) (fun r19 M20 H locs h w => ?_)
    refine lv_if_ne (tgt := 19) hx hb dX6_takeIn_14 (by decide) (fun c21 => ?_) (fun c21 => ?_)
    · replace h := h.2 c21
      refine lv_bipush (v := -4) hx hb dX6_takeIn_19 (by decide) ?_
      refine lv_istore_n (lv' := [(1, .int (-4 : Int32)), (0, .ref (ga G 57))]) hx hb dX6_takeIn_21 rfl hl (by decide) rfl (fun ls hl => ?_)
      refine lv_iconst (v := 0) hx hb dX6_takeIn_22 (by decide) ?_
      refine lv_istore_n (lv' := [(2, .int (0 : Int32)), (1, .int (-4 : Int32)), (0, .ref (ga G 57))]) hx hb dX6_takeIn_23 rfl hl (by decide) rfl (fun ls hl => ?_)
      refine lv_iconst (v := 0) hx hb dX6_takeIn_24 (by decide) ?_
      refine lv_istore_n (lv' := [(3, .int (0 : Int32)), (2, .int (0 : Int32)), (1, .int (-4 : Int32)), (0, .ref (ga G 57))]) hx hb dX6_takeIn_25 rfl hl (by decide) rfl (fun ls hl => ?_)
      obtain ⟨n, h⟩ := h
      exact t_X6_takeIn_26 C n M20 (-4 : Int32) (0 : Int32) (0 : Int32)  w (lv_sub hl [3, 2, 1, 0] rfl) h
    replace h := h.1 c21
    refine lv_iconst (v := 0) hx hb dX6_takeIn_17 (by decide) ?_
    exact ret_i C w h dX6_takeIn_18
  replace h := h.1 c18
  refine lv_bipush (v := -3) hx hb dX6_takeIn_7 (by decide) ?_
  exact ret_i C w h dX6_takeIn_9
def j_X5_shallowest_72 (post : Int32 → Mem → Prop) (M : Mem) (y0 : Int32) : Prop := post y0 M
def b_X5_shallowest_18 (k18 : Mem → Int32 → Int32 → Prop) (post : Int32 → Mem → Prop) (M : Mem) (x1 : Int32) (x2 : Int32) : Prop := ((M 11 2) < x2 → ((x1 ≤ (mostT 3) → (j_X5_shallowest_72 post M x1)) ∧ (¬ (x1 ≤ (mostT 3)) → (j_X5_shallowest_72 post M (-4 : Int32))))) ∧ (¬ ((M 11 2) < x2) → (∀ M3 : Mem, M3 = (mup M 4 5 x2) → (q_X0_hang M3  (fun r4 M5 => k18 M5 (if x1 < r4 then r4 else x1) (x2 + (1 : Int32))))))
def lp_X5_shallowest_18 (post : Int32 → Mem → Prop) : Nat → Mem → Int32 → Int32 → Prop
  | 0 => fun _ _ _ => False
  | n + 1 => fun M x1 x2 => b_X5_shallowest_18 (lp_X5_shallowest_18 post n) post M x1 x2
def q_X5_shallowest (M : Mem) (post : Int32 → Mem → Prop) : Prop := q_X5_layLine M  (fun r6 M7 => (r6 = 0 → (post (-3 : Int32) M7)) ∧ (¬ (r6 = 0) → (∃ n, lp_X5_shallowest_18 post n M7 (leastT 3) (0 : Int32))))
set_option maxHeartbeats 4000000 in
set_option maxRecDepth 100000 in
theorem t_X5_shallowest_72 (C : Cx G p s m args meth c RX5 cX5_shallowest 3 (some .int)) {post : Int32 → Mem → Prop} (M : Mem) (y0 : Int32) {H : Heap} {locs : List Loc} {ls : Array Slot} (w : Wd G s M H locs) (hl : lv_has ls 3 []) (h : j_X5_shallowest_72 post M y0) : W p l e (rmk 3) s m args below meth c H locs 0 0 (MQ below (va_Qi post (Qw G) (Af G s.heap.size)) args s 0 0 (Af G s.heap.size)) (F0 m 72 ls [.int y0]) := by
  have hx := C.1.1
  have hb := C.1.2.1
  unfold j_X5_shallowest_72 at h
  exact ret_i C w h dX5_shallowest_72
set_option maxHeartbeats 4000000 in
set_option maxRecDepth 100000 in
theorem t_X5_shallowest_18 (C : Cx G p s m args meth c RX5 cX5_shallowest 3 (some .int)) {post : Int32 → Mem → Prop} : ∀ (n : Nat) (M : Mem) (x1 : Int32) (x2 : Int32) {H : Heap} {locs : List Loc} {ls : Array Slot} (w : Wd G s M H locs) (hl : lv_has ls 3 [(0, .ref (ga G 0)), (1, .int x1), (2, .int x2)]) (h : lp_X5_shallowest_18 post n M x1 x2), W p l e (rmk 3) s m args below meth c H locs 0 0 (MQ below (va_Qi post (Qw G) (Af G s.heap.size)) args s 0 0 (Af G s.heap.size)) (F0 m 18 ls []) := by
  have hx := C.1.1
  have hb := C.1.2.1
  intro n9
  induction n9 with
  | zero => intro M x1 x2 H locs ls w hl h; exact absurd h id
  | succ n9 ih9 =>
    intro M x1 x2 H locs ls w hl h
    have hk18 : ∀ (M : Mem) (x1 : Int32) (x2 : Int32) (H : Heap) (locs : List Loc) (ls : Array Slot), Wd G s M H locs → lv_has ls 3 [(0, .ref (ga G 0)), (1, .int x1), (2, .int x2)] → lp_X5_shallowest_18 post n9 M x1 x2 → W p l e (rmk 3) s m args below meth c H locs 0 0 (MQ below (va_Qi post (Qw G) (Af G s.heap.size)) args s 0 0 (Af G s.heap.size)) (F0 m 18 ls []) := fun M x1 x2 H locs ls w hl h => ih9 M x1 x2 w hl h
    replace h : b_X5_shallowest_18 (lp_X5_shallowest_18 post n9) post M x1 x2 := h
    unfold b_X5_shallowest_18 at h
    refine lv_iload_n hx hb dX5_shallowest_18 rfl (lv_at hl 2 rfl) ?_
    refine lv_aload_n hx hb dX5_shallowest_19 rfl (lv_at hl 0 rfl) ?_
    refine gt_5_0 C w kw_1_16 dX5_shallowest_20 ?_
    refine gn_4_2 C w ⟨by decide, by decide⟩ kn_16 dX5_shallowest_23 ?_
    refine lv_iconst (v := 2) hx hb dX5_shallowest_26 (by decide) ?_
    refine pw_ld C w (i := 11) (by decide) (pE_st ⟨by decide, by decide⟩) (vl (x := (2 : Int32)) (by decide)) (k := 2) (by decide) dX5_shallowest_27 ?_
    refine lv_icmp_gt (tgt := 57) hx hb dX5_shallowest_28 (by decide) (fun c1 => ?_) (fun c1 => ?_)
    · replace h := h.1 c1
      refine lv_iload_n hx hb dX5_shallowest_57 rfl (lv_at hl 1 rfl) ?_
      refine gs_gM C w kw_24_3 dX5_shallowest_58 ?_
      refine lv_iconst (v := 3) hx hb dX5_shallowest_61 (by decide) ?_
      refine ts_gM C w (vl (x := (3 : Int32)) (by decide)) (k := 3) (by decide) dX5_shallowest_62 ?_
      refine lv_icmp_le (tgt := 71) hx hb dX5_shallowest_63 (by decide) (fun c2 => ?_) (fun c2 => ?_)
      · replace h := h.1 c2
        refine lv_iload_n hx hb dX5_shallowest_71 rfl (lv_at hl 1 rfl) ?_
        exact t_X5_shallowest_72 C M x1  w (lv_sub hl [] rfl) h
      replace h := h.2 c2
      refine lv_bipush (v := -4) hx hb dX5_shallowest_66 (by decide) ?_
      refine lv_goto (tgt := 72) hx hb dX5_shallowest_68 (by decide) ?_
      exact t_X5_shallowest_72 C M (-4 : Int32)  w (lv_sub hl [] rfl) h
    replace h := h.2 c1
    refine lv_aload_n hx hb dX5_shallowest_31 rfl (lv_at hl 0 rfl) ?_
    refine gt_5_3 C w kw_1_22 dX5_shallowest_32 ?_
    refine lv_iload_n hx hb dX5_shallowest_35 rfl (lv_at hl 2 rfl) ?_
    refine pn_0_5 C w kn_28 dX5_shallowest_36 (fun H locs w => ?_)
    obtain ⟨M3, eM3⟩ : ∃ z : Mem, z = (mup M 4 5 x2) := ⟨_, rfl⟩
    replace w : Wd G s M3 H locs := by rw [eM3]; exact w
    replace h := h M3 eM3
    refine lv_iload_n hx hb dX5_shallowest_39 rfl (lv_at hl 1 rfl) ?_
    refine lv_aload_n hx hb dX5_shallowest_40 rfl (lv_at hl 0 rfl) ?_
    refine gt_5_3 C w kw_1_22 dX5_shallowest_41 ?_
    refine end_i w (run_VN (As := []) C w hl.1 (c_X0_hang l G C.2.2.1 _ _   _ h) kw_16_16 kw_1_21 kn_59 kw_16_14 kw_16_15 hd_X0_hang ⟨by decide, by decide⟩ (w.recv C (i := 4) (by decide) (pE_0) rfl) rfl (Nat.le_of_ble_eq_true rfl) dX5_shallowest_44) (fun r4 M5 H locs h w => ?_)
    refine va_mmax hx hb (C.ml hl) C.1.2.2.2.1 (C.ws kw_26_22) (C.ws kw_16_11) (C.ws kw_16_12) (C.ws kw_16_13) (Nat.le_of_ble_eq_true rfl) (Nat.le_of_ble_eq_true rfl) (Nat.le_refl 0) (Nat.le_refl 0) dX5_shallowest_47 ?_
    refine lv_istore_n (lv' := [(1, .int (if x1 < r4 then r4 else x1)), (0, .ref (ga G 0)), (2, .int x2)]) hx hb dX5_shallowest_50 rfl hl (by decide) rfl (fun ls hl => ?_)
    refine lv_iinc (v := (x2 + (1 : Int32))) (lv' := [(2, .int (x2 + (1 : Int32))), (1, .int (if x1 < r4 then r4 else x1)), (0, .ref (ga G 0))]) hx hb dX5_shallowest_51 hl (k := 2) rfl rfl (by decide) rfl (fun ls hl => ?_)
    refine lv_goto (tgt := 18) hx hb dX5_shallowest_54 (by decide) ?_
    exact hk18 M5 (if x1 < r4 then r4 else x1) (x2 + (1 : Int32)) _ _ _  w (lv_sub hl [2, 1, 0] rfl) h
set_option maxHeartbeats 4000000 in
set_option maxRecDepth 100000 in
theorem c_X5_shallowest (l : Launch) (G : GG) (hG : Ag G) (sz : Nat) (M : Mem) (post : Int32 → Mem → Prop) (h : q_X5_shallowest M post) : Met l yX5_shallowest (Cond.code yX5_shallowest cX5_shallowest 3 (some .int) :: wsL_law) (rmk 3) (va_Pc [.ref (ga G 0)] (Pw G sz M)) (va_Qi post (Qw G) (Af G sz)) 0 0 (Af G sz) := by
  refine Met.ofW (cc := cX5_shallowest) (maxL := 3) (ret := (some .int)) (by decide) rfl ?_
  intro p e s m args below meth c s₁ B hml hv
  obtain ⟨rfl, hsz, hE, hP⟩ := hv
  subst hsz
  have C := Cx.of (own := RX5) hG hE rfl hml B
  have w : Wd G s M s.heap [] := ⟨hP, va_S.rf⟩
  have hl := lv_entry [.ref (ga G 0)] (n := 3) (Nat.le_of_ble_eq_true rfl)
  rw [lg_entry_eq]
  generalize (lg_sl [.ref (ga G 0)] ++ List.replicate (3 - (lg_sl [.ref (ga G 0)]).length) Slot.unset).toArray = ls at hl ⊢
  have hl : lv_has ls 3 [(0, .ref (ga G 0))] := hl
  have hx := C.1.1
  have hb := C.1.2.1
  show W p l e (rmk 3) s m _ below meth c s.heap [] 0 0 _ _
  unfold q_X5_shallowest at h
  refine lv_aload_n hx hb dX5_shallowest_0 rfl (lv_at hl 0 rfl) ?_
  refine end_i w (run_V (As := []) C w hl.1 (c_X5_layLine l G C.2.2.1 _ _   _ h) kw_15_21 kw_1_2 kw_15_18 kw_15_19 kw_15_20 hd_X5_layLine ⟨by decide, by decide⟩ (w.recv C (i := 0) (by decide) (pE_5) rfl) rfl (Nat.le_of_ble_eq_true rfl) dX5_shallowest_1) (fun r6 M7 H locs h w => ?_)
  refine lv_if_ne (tgt := 10) hx hb dX5_shallowest_4 (by decide) (fun c8 => ?_) (fun c8 => ?_)
  · replace h := h.2 c8
    refine gs_gL C w kw_26_21 dX5_shallowest_10 ?_
    refine lv_iconst (v := 3) hx hb dX5_shallowest_13 (by decide) ?_
    refine ts_gL C w (vl (x := (3 : Int32)) (by decide)) (k := 3) (by decide) dX5_shallowest_14 ?_
    refine lv_istore_n (lv' := [(1, .int (leastT 3)), (0, .ref (ga G 0))]) hx hb dX5_shallowest_15 rfl hl (by decide) rfl (fun ls hl => ?_)
    refine lv_iconst (v := 0) hx hb dX5_shallowest_16 (by decide) ?_
    refine lv_istore_n (lv' := [(2, .int (0 : Int32)), (1, .int (leastT 3)), (0, .ref (ga G 0))]) hx hb dX5_shallowest_17 rfl hl (by decide) rfl (fun ls hl => ?_)
    obtain ⟨n, h⟩ := h
    exact t_X5_shallowest_18 C n M7 (leastT 3) (0 : Int32)  w (lv_sub hl [2, 1, 0] rfl) h
  replace h := h.1 c8
  refine lv_bipush (v := -3) hx hb dX5_shallowest_7 (by decide) ?_
  exact ret_i C w h dX5_shallowest_9
def j_X6_shallowest_47 (post : Int32 → Mem → Prop) (M : Mem) (y0 : Int32) : Prop := post y0 M
def q_X6_shallowest (M : Mem) (post : Int32 → Mem → Prop) : Prop := q_X6_isLine M  (fun r1 M2 => (r1 = 0 → (post (-3 : Int32) M2)) ∧ (¬ (r1 = 0) → (q_X6_allPieces M2  (fun r4 M5 => q_X6_sumsUp M5 r4 (fun M7 => (((M7 57 19) / (4 : Int32)) ≤ (999 : Int32) → (((1 : Int32) ≤ ((M7 57 19) / (4 : Int32)) → (j_X6_shallowest_47 post M7 ((M7 57 19) / (4 : Int32)))) ∧ (¬ ((1 : Int32) ≤ ((M7 57 19) / (4 : Int32))) → (j_X6_shallowest_47 post M7 (1 : Int32))))) ∧ (¬ (((M7 57 19) / (4 : Int32)) ≤ (999 : Int32)) → (j_X6_shallowest_47 post M7 (-4 : Int32))))))))
set_option maxHeartbeats 4000000 in
set_option maxRecDepth 100000 in
theorem t_X6_shallowest_47 (C : Cx G p s m args meth c RX6 cX6_shallowest 2 (some .int)) {post : Int32 → Mem → Prop} (M : Mem) (y0 : Int32) {H : Heap} {locs : List Loc} {ls : Array Slot} (w : Wd G s M H locs) (hl : lv_has ls 2 []) (h : j_X6_shallowest_47 post M y0) : W p l e (rmk 3) s m args below meth c H locs 0 0 (MQ below (va_Qi post (Qw G) (Af G s.heap.size)) args s 0 0 (Af G s.heap.size)) (F0 m 47 ls [.int y0]) := by
  have hx := C.1.1
  have hb := C.1.2.1
  unfold j_X6_shallowest_47 at h
  exact ret_i C w h dX6_shallowest_47
set_option maxHeartbeats 4000000 in
set_option maxRecDepth 100000 in
theorem c_X6_shallowest (l : Launch) (G : GG) (hG : Ag G) (sz : Nat) (M : Mem) (post : Int32 → Mem → Prop) (h : q_X6_shallowest M post) : Met l yX6_shallowest (Cond.code yX6_shallowest cX6_shallowest 2 (some .int) :: wsL_law) (rmk 3) (va_Pc [.ref (ga G 57)] (Pw G sz M)) (va_Qi post (Qw G) (Af G sz)) 0 0 (Af G sz) := by
  refine Met.ofW (cc := cX6_shallowest) (maxL := 2) (ret := (some .int)) (by decide) rfl ?_
  intro p e s m args below meth c s₁ B hml hv
  obtain ⟨rfl, hsz, hE, hP⟩ := hv
  subst hsz
  have C := Cx.of (own := RX6) hG hE rfl hml B
  have w : Wd G s M s.heap [] := ⟨hP, va_S.rf⟩
  have hl := lv_entry [.ref (ga G 57)] (n := 2) (Nat.le_of_ble_eq_true rfl)
  rw [lg_entry_eq]
  generalize (lg_sl [.ref (ga G 57)] ++ List.replicate (2 - (lg_sl [.ref (ga G 57)]).length) Slot.unset).toArray = ls at hl ⊢
  have hl : lv_has ls 2 [(0, .ref (ga G 57))] := hl
  have hx := C.1.1
  have hb := C.1.2.1
  show W p l e (rmk 3) s m _ below meth c s.heap [] 0 0 _ _
  unfold q_X6_shallowest at h
  refine lv_aload_n hx hb dX6_shallowest_0 rfl (lv_at hl 0 rfl) ?_
  refine end_i w (run_V (As := []) C w hl.1 (c_X6_isLine l G C.2.2.1 _ _   _ h) kw_17_11 kw_1_5 kw_17_8 kw_17_9 kw_17_10 hd_X6_isLine ⟨by decide, by decide⟩ (w.recv C (i := 57) (by decide) (pE_6) rfl) rfl (Nat.le_of_ble_eq_true rfl) dX6_shallowest_1) (fun r1 M2 H locs h w => ?_)
  refine lv_if_ne (tgt := 10) hx hb dX6_shallowest_4 (by decide) (fun c3 => ?_) (fun c3 => ?_)
  · replace h := h.2 c3
    refine lv_aload_n hx hb dX6_shallowest_10 rfl (lv_at hl 0 rfl) ?_
    refine lv_aload_n hx hb dX6_shallowest_11 rfl (lv_at hl 0 rfl) ?_
    refine end_i w (run_V (As := []) C w hl.1 (c_X6_allPieces l G C.2.2.1 _ _   _ h) kw_17_15 kw_1_5 kw_17_12 kw_17_13 kw_17_14 hd_X6_allPieces ⟨by decide, by decide⟩ (w.recv C (i := 57) (by decide) (pE_6) rfl) rfl (Nat.le_of_ble_eq_true rfl) dX6_shallowest_12) (fun r4 M5 H locs h w => ?_)
    refine end_v w (run_V (As := [.int r4]) C w hl.1 (c_X6_sumsUp l G C.2.2.1 _ _ r4  _ h) kw_17_19 kw_1_5 kw_17_16 kw_17_17 kw_17_18 hd_X6_sumsUp ⟨by decide, by decide⟩ (w.recv C (i := 57) (by decide) (pE_6) rfl) rfl (Nat.le_of_ble_eq_true rfl) dX6_shallowest_15) (fun M7 H locs h w => ?_)
    refine lv_aload_n hx hb dX6_shallowest_18 rfl (lv_at hl 0 rfl) ?_
    refine gt_6_19 C w kw_17_6 dX6_shallowest_19 ?_
    refine lv_iconst (v := 4) hx hb dX6_shallowest_22 (by decide) ?_
    refine lv_idiv hx hb dX6_shallowest_23 (by decide) ?_
    refine lv_istore_n (lv' := [(1, .int ((M7 57 19) / (4 : Int32))), (0, .ref (ga G 57))]) hx hb dX6_shallowest_24 rfl hl (by decide) rfl (fun ls hl => ?_)
    refine lv_iload_n hx hb dX6_shallowest_25 rfl (lv_at hl 0 rfl) ?_
    refine lv_sipush (v := 999) hx hb dX6_shallowest_26 (by decide) ?_
    refine lv_icmp_le (tgt := 37) hx hb dX6_shallowest_29 (by decide) (fun c8 => ?_) (fun c8 => ?_)
    · replace h := h.1 c8
      refine lv_iload_n hx hb dX6_shallowest_37 rfl (lv_at hl 0 rfl) ?_
      refine lv_iconst (v := 1) hx hb dX6_shallowest_38 (by decide) ?_
      refine lv_icmp_ge (tgt := 46) hx hb dX6_shallowest_39 (by decide) (fun c9 => ?_) (fun c9 => ?_)
      · replace h := h.1 c9
        refine lv_iload_n hx hb dX6_shallowest_46 rfl (lv_at hl 0 rfl) ?_
        exact t_X6_shallowest_47 C M7 ((M7 57 19) / (4 : Int32))  w (lv_sub hl [] rfl) h
      replace h := h.2 c9
      refine lv_iconst (v := 1) hx hb dX6_shallowest_42 (by decide) ?_
      refine lv_goto (tgt := 47) hx hb dX6_shallowest_43 (by decide) ?_
      exact t_X6_shallowest_47 C M7 (1 : Int32)  w (lv_sub hl [] rfl) h
    replace h := h.2 c8
    refine lv_bipush (v := -4) hx hb dX6_shallowest_32 (by decide) ?_
    refine lv_goto (tgt := 47) hx hb dX6_shallowest_34 (by decide) ?_
    exact t_X6_shallowest_47 C M7 (-4 : Int32)  w (lv_sub hl [] rfl) h
  replace h := h.1 c3
  refine lv_bipush (v := -3) hx hb dX6_shallowest_7 (by decide) ?_
  exact ret_i C w h dX6_shallowest_9
def q_X5_heldWithin (M : Mem) (x0 : Int32) (x1 : Int32) (x2 : Int32) (post : Int32 → Mem → Prop) : Prop := post (if x1 < (if x0 < x2 then x0 else x2) then (if x0 < x2 then x0 else x2) else x1) M
set_option maxHeartbeats 4000000 in
set_option maxRecDepth 100000 in
theorem c_X5_heldWithin (l : Launch) (G : GG) (hG : Ag G) (sz : Nat) (M : Mem) (x0 : Int32) (x1 : Int32) (x2 : Int32) (post : Int32 → Mem → Prop) (h : q_X5_heldWithin M x0 x1 x2 post) : Met l yX5_heldWithin (Cond.code yX5_heldWithin cX5_heldWithin 3 (some .int) :: wsL_law) (rmk 1) (va_Pc [.int x0, .int x1, .int x2] (Pw G sz M)) (va_Qi post (Qw G) (Af G sz)) 0 0 (Af G sz) := by
  refine Met.ofW (cc := cX5_heldWithin) (maxL := 3) (ret := (some .int)) (by decide) rfl ?_
  intro p e s m args below meth c s₁ B hml hv
  obtain ⟨rfl, hsz, hE, hP⟩ := hv
  subst hsz
  have C := Cx.of (own := RX5) hG hE rfl hml B
  have w : Wd G s M s.heap [] := ⟨hP, va_S.rf⟩
  have hl := lv_entry [.int x0, .int x1, .int x2] (n := 3) (Nat.le_of_ble_eq_true rfl)
  rw [lg_entry_eq]
  generalize (lg_sl [.int x0, .int x1, .int x2] ++ List.replicate (3 - (lg_sl [.int x0, .int x1, .int x2]).length) Slot.unset).toArray = ls at hl ⊢
  have hl : lv_has ls 3 [(0, .int x0), (1, .int x1), (2, .int x2)] := hl
  have hx := C.1.1
  have hb := C.1.2.1
  show W p l e (rmk 1) s m _ below meth c s.heap [] 0 0 _ _
  unfold q_X5_heldWithin at h
  refine lv_iload_n hx hb dX5_heldWithin_0 rfl (lv_at hl 1 rfl) ?_
  refine lv_iload_n hx hb dX5_heldWithin_1 rfl (lv_at hl 2 rfl) ?_
  refine lv_iload_n hx hb dX5_heldWithin_2 rfl (lv_at hl 0 rfl) ?_
  refine va_mmin hx hb (C.ml hl) C.1.2.2.2.1 (C.ws kw_27_17) (C.ws kw_21_13) (C.ws kw_16_12) (C.ws kw_21_14) (Nat.le_of_ble_eq_true rfl) (Nat.le_of_ble_eq_true rfl) (Nat.le_refl 0) (Nat.le_refl 0) dX5_heldWithin_3 ?_
  refine va_mmax hx hb (C.ml hl) C.1.2.2.2.1 (C.ws kw_26_22) (C.ws kw_16_11) (C.ws kw_16_12) (C.ws kw_16_13) (Nat.le_of_ble_eq_true rfl) (Nat.le_of_ble_eq_true rfl) (Nat.le_refl 0) (Nat.le_refl 0) dX5_heldWithin_6 ?_
  exact ret_i C w h dX5_heldWithin_9
def b_X5_holdsByDraws_15 (k15 : Mem → Int32 → Int32 → Prop) (post : Int32 → Mem → Prop) (M : Mem) (x2 : Int32) (x3 : Int32) : Prop := ((100 : Int32) ≤ x3 → (post (1 : Int32) M)) ∧ (¬ ((100 : Int32) ≤ x3) → (∀ v2 : Int32, v2 = ((x2 * (1103515245 : Int32)) + (12345 : Int32)) → (∀ v3 : Int32, v3 = (((v2 &&& (2147483647 : Int32)) / (65536 : Int32)) - ((v2 &&& (2147483647 : Int32)) / (65536 : Int32)) / (21 : Int32) * (21 : Int32)) → (q_X5_heldWithin M (((M 11 0) + v3) - (10 : Int32)) (leastT 0) (mostT 0) (fun r4 M5 => ∀ M6 : Mem, M6 = (mup M5 4 3 r4) → (q_X4_passTenth M6 3 (fun r7 M8 => ((M8 3 7) = (-4 : Int32) → (k15 M8 v2 (x3 + (1 : Int32)))) ∧ (¬ ((M8 3 7) = (-4 : Int32)) → (post (0 : Int32) M8)))))))))
def lp_X5_holdsByDraws_15 (post : Int32 → Mem → Prop) : Nat → Mem → Int32 → Int32 → Prop
  | 0 => fun _ _ _ => False
  | n + 1 => fun M x2 x3 => b_X5_holdsByDraws_15 (lp_X5_holdsByDraws_15 post n) post M x2 x3
def q_X5_holdsByDraws (M : Mem) (x1 : Int32) (post : Int32 → Mem → Prop) : Prop := q_X4_become M 3 1 (fun M11 => ∃ n, lp_X5_holdsByDraws_15 post n M11 x1 (0 : Int32))
set_option maxHeartbeats 4000000 in
set_option maxRecDepth 100000 in
theorem t_X5_holdsByDraws_15 (C : Cx G p s m args meth c RX5 cX5_holdsByDraws 5 (some .boolean)) {post : Int32 → Mem → Prop} : ∀ (n : Nat) (M : Mem) (x2 : Int32) (x3 : Int32) {H : Heap} {locs : List Loc} {ls : Array Slot} (w : Wd G s M H locs) (hl : lv_has ls 5 [(0, .ref (ga G 0)), (2, .int x2), (3, .int x3)]) (h : lp_X5_holdsByDraws_15 post n M x2 x3), W p l e (rmk 5) s m args below meth c H locs 0 0 (MQ below (va_Qi post (Qw G) (Af G s.heap.size)) args s 0 0 (Af G s.heap.size)) (F0 m 15 ls []) := by
  have hx := C.1.1
  have hb := C.1.2.1
  intro n9
  induction n9 with
  | zero => intro M x2 x3 H locs ls w hl h; exact absurd h id
  | succ n9 ih9 =>
    intro M x2 x3 H locs ls w hl h
    have hk15 : ∀ (M : Mem) (x2 : Int32) (x3 : Int32) (H : Heap) (locs : List Loc) (ls : Array Slot), Wd G s M H locs → lv_has ls 5 [(0, .ref (ga G 0)), (2, .int x2), (3, .int x3)] → lp_X5_holdsByDraws_15 post n9 M x2 x3 → W p l e (rmk 5) s m args below meth c H locs 0 0 (MQ below (va_Qi post (Qw G) (Af G s.heap.size)) args s 0 0 (Af G s.heap.size)) (F0 m 15 ls []) := fun M x2 x3 H locs ls w hl h => ih9 M x2 x3 w hl h
    replace h : b_X5_holdsByDraws_15 (lp_X5_holdsByDraws_15 post n9) post M x2 x3 := h
    unfold b_X5_holdsByDraws_15 at h
    refine lv_iload_n hx hb dX5_holdsByDraws_15 rfl (lv_at hl 2 rfl) ?_
    refine lv_bipush (v := 100) hx hb dX5_holdsByDraws_16 (by decide) ?_
    refine lv_icmp_ge (tgt := 112) hx hb dX5_holdsByDraws_18 (by decide) (fun c1 => ?_) (fun c1 => ?_)
    · replace h := h.1 c1
      refine lv_iconst (v := 1) hx hb dX5_holdsByDraws_112 (by decide) ?_
      exact ret_z C w ⟨Or.inr rfl, h⟩ dX5_holdsByDraws_113
    replace h := h.2 c1
    refine lv_iload_n hx hb dX5_holdsByDraws_21 rfl (lv_at hl 1 rfl) ?_
    refine lv_ldcw hx hb C.1.2.2.2.1 (C.ws kw_27_11) dX5_holdsByDraws_22 ?_
    refine lv_imul hx hb dX5_holdsByDraws_25 ?_
    refine lv_sipush (v := 12345) hx hb dX5_holdsByDraws_26 (by decide) ?_
    refine lv_iadd hx hb dX5_holdsByDraws_29 ?_
    refine lv_topi (fun v2 ev2 => ?_)
    replace h := h v2 ev2
    refine lv_istore_n (lv' := [(2, .int v2), (0, .ref (ga G 0)), (3, .int x3)]) hx hb dX5_holdsByDraws_30 rfl hl (by decide) rfl (fun ls hl => ?_)
    refine lv_iload_n hx hb dX5_holdsByDraws_31 rfl (lv_at hl 0 rfl) ?_
    refine lv_ldcw hx hb C.1.2.2.2.1 (C.ws kw_27_12) dX5_holdsByDraws_32 ?_
    refine lv_iand hx hb dX5_holdsByDraws_35 ?_
    refine lv_ldcw hx hb C.1.2.2.2.1 (C.ws kw_27_13) dX5_holdsByDraws_36 ?_
    refine lv_idiv hx hb dX5_holdsByDraws_39 (by decide) ?_
    refine lv_bipush (v := 21) hx hb dX5_holdsByDraws_40 (by decide) ?_
    refine lv_irem hx hb dX5_holdsByDraws_42 (by decide) ?_
    refine lv_topi (fun v3 ev3 => ?_)
    replace h := h v3 ev3
    refine lv_istore (lv' := [(4, .int v3), (2, .int v2), (0, .ref (ga G 0)), (3, .int x3)]) hx hb dX5_holdsByDraws_43 hl (by decide) rfl (fun ls hl => ?_)
    refine lv_aload_n hx hb dX5_holdsByDraws_45 rfl (lv_at hl 2 rfl) ?_
    refine gt_5_3 C w kw_1_22 dX5_holdsByDraws_46 ?_
    refine lv_aload_n hx hb dX5_holdsByDraws_49 rfl (lv_at hl 2 rfl) ?_
    refine gt_5_0 C w kw_1_16 dX5_holdsByDraws_50 ?_
    refine gn_4_2 C w ⟨by decide, by decide⟩ kn_16 dX5_holdsByDraws_53 ?_
    refine lv_iconst (v := 0) hx hb dX5_holdsByDraws_56 (by decide) ?_
    refine pw_ld C w (i := 11) (by decide) (pE_st ⟨by decide, by decide⟩) (vl (x := (0 : Int32)) (by decide)) (k := 0) (by decide) dX5_holdsByDraws_57 ?_
    refine lv_iload hx hb dX5_holdsByDraws_58 (lv_at hl 0 rfl) ?_
    refine lv_iadd hx hb dX5_holdsByDraws_60 ?_
    refine lv_bipush (v := 10) hx hb dX5_holdsByDraws_61 (by decide) ?_
    refine lv_isub hx hb dX5_holdsByDraws_63 ?_
    refine gs_gL C w kw_26_21 dX5_holdsByDraws_64 ?_
    refine lv_iconst (v := 0) hx hb dX5_holdsByDraws_67 (by decide) ?_
    refine ts_gL C w (vl (x := (0 : Int32)) (by decide)) (k := 0) (by decide) dX5_holdsByDraws_68 ?_
    refine gs_gM C w kw_24_3 dX5_holdsByDraws_69 ?_
    refine lv_iconst (v := 0) hx hb dX5_holdsByDraws_72 (by decide) ?_
    refine ts_gM C w (vl (x := (0 : Int32)) (by decide)) (k := 0) (by decide) dX5_holdsByDraws_73 ?_
    refine end_i w (run_S (As := [.int (((M 11 0) + v3) - (10 : Int32)), .int (leastT 0), .int (mostT 0)]) C w hl.1 (c_X5_heldWithin l G C.2.2.1 _ _ (((M 11 0) + v3) - (10 : Int32)) (leastT 0) (mostT 0)  _ h) kw_27_16 kw_1_2 kw_27_14 kw_27_15 hd_X5_heldWithin ⟨by decide, by decide⟩ rfl (Nat.le_of_ble_eq_true rfl) dX5_holdsByDraws_74) (fun r4 M5 H locs h w => ?_)
    refine pn_0_3 C w kn_26 dX5_holdsByDraws_77 (fun H locs w => ?_)
    obtain ⟨M6, eM6⟩ : ∃ z : Mem, z = (mup M5 4 3 r4) := ⟨_, rfl⟩
    replace w : Wd G s M6 H locs := by rw [eM6]; exact w
    replace h := h M6 eM6
    refine lv_aload_n hx hb dX5_holdsByDraws_80 rfl (lv_at hl 2 rfl) ?_
    refine gt_5_2 C w kw_1_18 dX5_holdsByDraws_81 ?_
    refine lv_aload_n hx hb dX5_holdsByDraws_84 rfl (lv_at hl 2 rfl) ?_
    refine gt_5_3 C w kw_1_22 dX5_holdsByDraws_85 ?_
    refine end_i w (run_VN (As := [.ref (ga G 4)]) C w hl.1 (c_X4_passTenth l G C.2.2.1 _ _ 3 ⟨by decide, by decide⟩ _ h) kw_21_0 kw_1_15 kn_64 kw_20_22 kw_20_23 hd_X4_passTenth ⟨by decide, by decide⟩ (w.recv C (i := 3) (by decide) (pE_4 ⟨by decide, by decide⟩) rfl) rfl (Nat.le_of_ble_eq_true rfl) dX5_holdsByDraws_88) (fun r7 M8 H locs h w => ?_)
    refine lv_pop hx hb dX5_holdsByDraws_91 rfl ?_
    refine lv_aload_n hx hb dX5_holdsByDraws_92 rfl (lv_at hl 2 rfl) ?_
    refine gt_5_2 C w kw_1_18 dX5_holdsByDraws_93 ?_
    refine gn_4_7 C w ⟨by decide, by decide⟩ kn_22 dX5_holdsByDraws_96 ?_
    refine lv_bipush (v := -4) hx hb dX5_holdsByDraws_99 (by decide) ?_
    refine lv_icmp_eq (tgt := 106) hx hb dX5_holdsByDraws_101 (by decide) (fun c9 => ?_) (fun c9 => ?_)
    · replace h := h.1 c9
      refine lv_iinc (v := (x3 + (1 : Int32))) (lv' := [(3, .int (x3 + (1 : Int32))), (4, .int v3), (2, .int v2), (0, .ref (ga G 0))]) hx hb dX5_holdsByDraws_106 hl (k := 3) rfl rfl (by decide) rfl (fun ls hl => ?_)
      refine lv_goto (tgt := 15) hx hb dX5_holdsByDraws_109 (by decide) ?_
      exact hk15 M8 v2 (x3 + (1 : Int32)) _ _ _  w (lv_sub hl [3, 2, 0] rfl) h
    replace h := h.2 c9
    refine lv_iconst (v := 0) hx hb dX5_holdsByDraws_104 (by decide) ?_
    exact ret_z C w ⟨Or.inl rfl, h⟩ dX5_holdsByDraws_105
set_option maxHeartbeats 4000000 in
set_option maxRecDepth 100000 in
theorem c_X5_holdsByDraws (l : Launch) (G : GG) (hG : Ag G) (sz : Nat) (M : Mem) (x1 : Int32) (post : Int32 → Mem → Prop) (h : q_X5_holdsByDraws M x1 post) : Met l yX5_holdsByDraws (Cond.code yX5_holdsByDraws cX5_holdsByDraws 5 (some .boolean) :: wsL_law) (rmk 5) (va_Pc [.ref (ga G 0), .int x1] (Pw G sz M)) (va_Qi post (Qw G) (Af G sz)) 0 0 (Af G sz) := by
  refine Met.ofW (cc := cX5_holdsByDraws) (maxL := 5) (ret := (some .boolean)) (by decide) rfl ?_
  intro p e s m args below meth c s₁ B hml hv
  obtain ⟨rfl, hsz, hE, hP⟩ := hv
  subst hsz
  have C := Cx.of (own := RX5) hG hE rfl hml B
  have w : Wd G s M s.heap [] := ⟨hP, va_S.rf⟩
  have hl := lv_entry [.ref (ga G 0), .int x1] (n := 5) (Nat.le_of_ble_eq_true rfl)
  rw [lg_entry_eq]
  generalize (lg_sl [.ref (ga G 0), .int x1] ++ List.replicate (5 - (lg_sl [.ref (ga G 0), .int x1]).length) Slot.unset).toArray = ls at hl ⊢
  have hl : lv_has ls 5 [(0, .ref (ga G 0)), (1, .int x1)] := hl
  have hx := C.1.1
  have hb := C.1.2.1
  show W p l e (rmk 5) s m _ below meth c s.heap [] 0 0 _ _
  unfold q_X5_holdsByDraws at h
  refine lv_aload_n hx hb dX5_holdsByDraws_0 rfl (lv_at hl 0 rfl) ?_
  refine gt_5_2 C w kw_1_18 dX5_holdsByDraws_1 ?_
  refine lv_aload_n hx hb dX5_holdsByDraws_4 rfl (lv_at hl 0 rfl) ?_
  refine gt_5_0 C w kw_1_16 dX5_holdsByDraws_5 ?_
  refine end_v w (run_VN (As := [.ref (ga G 1)]) C w hl.1 (c_X4_become l G C.2.2.1 _ _ 3 1 ⟨by decide, by decide⟩ ⟨by decide, by decide⟩ _ h) kw_6_11 kw_1_15 kn_44 kw_6_9 kw_6_10 hd_X4_become ⟨by decide, by decide⟩ (w.recv C (i := 3) (by decide) (pE_4 ⟨by decide, by decide⟩) rfl) rfl (Nat.le_of_ble_eq_true rfl) dX5_holdsByDraws_8) (fun M11 H locs h w => ?_)
  refine lv_iload_n hx hb dX5_holdsByDraws_11 rfl (lv_at hl 1 rfl) ?_
  refine lv_istore_n (lv' := [(2, .int x1), (0, .ref (ga G 0)), (1, .int x1)]) hx hb dX5_holdsByDraws_12 rfl hl (by decide) rfl (fun ls hl => ?_)
  refine lv_iconst (v := 0) hx hb dX5_holdsByDraws_13 (by decide) ?_
  refine lv_istore_n (lv' := [(3, .int (0 : Int32)), (2, .int x1), (0, .ref (ga G 0)), (1, .int x1)]) hx hb dX5_holdsByDraws_14 rfl hl (by decide) rfl (fun ls hl => ?_)
  obtain ⟨n, h⟩ := h
  exact t_X5_holdsByDraws_15 C n M11 x1 (0 : Int32)  w (lv_sub hl [2, 1, 0] rfl) h
def j_X5_odds_47 (k27 : Mem → Int32 → Int32 → Int32 → Int32 → Prop) (post : Int32 → Mem → Prop) (M : Mem) (x1 : Int32) (x2 : Int32) (x3 : Int32) (x4 : Int32) : Prop := k27 M x1 x2 x3 (x4 + (1 : Int32))
def b_X5_odds_27 (k27 : Mem → Int32 → Int32 → Int32 → Int32 → Prop) (post : Int32 → Mem → Prop) (M : Mem) (x1 : Int32) (x2 : Int32) (x3 : Int32) (x4 : Int32) : Prop := (x1 ≤ x4 → (post x3 M)) ∧ (¬ (x1 ≤ x4) → (q_X5_holdsByDraws M (x2 + x4) (fun r2 M3 => (r2 = 0 → (j_X5_odds_47 k27 post M3 x1 x2 x3 x4)) ∧ (¬ (r2 = 0) → (j_X5_odds_47 k27 post M3 x1 x2 (x3 + (1 : Int32)) x4)))))
def lp_X5_odds_27 (post : Int32 → Mem → Prop) : Nat → Mem → Int32 → Int32 → Int32 → Int32 → Prop
  | 0 => fun _ _ _ _ _ => False
  | n + 1 => fun M x1 x2 x3 x4 => b_X5_odds_27 (lp_X5_odds_27 post n) post M x1 x2 x3 x4
def q_X5_odds (M : Mem) (x1 : Int32) (x2 : Int32) (post : Int32 → Mem → Prop) : Prop := q_X5_isWithin M x1 (1 : Int32) (20 : Int32) (fun r5 M6 => (r5 = 0 → (post (-1 : Int32) M6)) ∧ (¬ (r5 = 0) → (q_X5_layLine M6  (fun r8 M9 => (r8 = 0 → (post (-3 : Int32) M9)) ∧ (¬ (r8 = 0) → (∃ n, lp_X5_odds_27 post n M9 x1 x2 (0 : Int32) (0 : Int32)))))))
set_option maxHeartbeats 4000000 in
set_option maxRecDepth 100000 in
theorem t_X5_odds_47 (C : Cx G p s m args meth c RX5 cX5_odds 5 (some .int)) {post : Int32 → Mem → Prop} {k27 : Mem → Int32 → Int32 → Int32 → Int32 → Prop} (hk27 : ∀ (M : Mem) (x1 : Int32) (x2 : Int32) (x3 : Int32) (x4 : Int32) (H : Heap) (locs : List Loc) (ls : Array Slot), Wd G s M H locs → lv_has ls 5 [(0, .ref (ga G 0)), (1, .int x1), (2, .int x2), (3, .int x3), (4, .int x4)] → k27 M x1 x2 x3 x4 → W p l e (rmk 6) s m args below meth c H locs 0 0 (MQ below (va_Qi post (Qw G) (Af G s.heap.size)) args s 0 0 (Af G s.heap.size)) (F0 m 27 ls [])) (M : Mem) (x1 : Int32) (x2 : Int32) (x3 : Int32) (x4 : Int32) {H : Heap} {locs : List Loc} {ls : Array Slot} (w : Wd G s M H locs) (hl : lv_has ls 5 [(0, .ref (ga G 0)), (1, .int x1), (2, .int x2), (3, .int x3), (4, .int x4)]) (h : j_X5_odds_47 k27 post M x1 x2 x3 x4) : W p l e (rmk 6) s m args below meth c H locs 0 0 (MQ below (va_Qi post (Qw G) (Af G s.heap.size)) args s 0 0 (Af G s.heap.size)) (F0 m 47 ls []) := by
  have hx := C.1.1
  have hb := C.1.2.1
  unfold j_X5_odds_47 at h
  refine lv_iinc (v := (x4 + (1 : Int32))) (lv' := [(4, .int (x4 + (1 : Int32))), (0, .ref (ga G 0)), (1, .int x1), (2, .int x2), (3, .int x3)]) hx hb dX5_odds_47 hl (k := 4) rfl rfl (by decide) rfl (fun ls hl => ?_)
  refine lv_goto (tgt := 27) hx hb dX5_odds_50 (by decide) ?_
  exact hk27 M x1 x2 x3 (x4 + (1 : Int32)) _ _ _  w (lv_sub hl [1, 2, 3, 4, 0] rfl) h
set_option maxHeartbeats 4000000 in
set_option maxRecDepth 100000 in
theorem t_X5_odds_27 (C : Cx G p s m args meth c RX5 cX5_odds 5 (some .int)) {post : Int32 → Mem → Prop} : ∀ (n : Nat) (M : Mem) (x1 : Int32) (x2 : Int32) (x3 : Int32) (x4 : Int32) {H : Heap} {locs : List Loc} {ls : Array Slot} (w : Wd G s M H locs) (hl : lv_has ls 5 [(0, .ref (ga G 0)), (1, .int x1), (2, .int x2), (3, .int x3), (4, .int x4)]) (h : lp_X5_odds_27 post n M x1 x2 x3 x4), W p l e (rmk 6) s m args below meth c H locs 0 0 (MQ below (va_Qi post (Qw G) (Af G s.heap.size)) args s 0 0 (Af G s.heap.size)) (F0 m 27 ls []) := by
  have hx := C.1.1
  have hb := C.1.2.1
  intro n9
  induction n9 with
  | zero => intro M x1 x2 x3 x4 H locs ls w hl h; exact absurd h id
  | succ n9 ih9 =>
    intro M x1 x2 x3 x4 H locs ls w hl h
    have hk27 : ∀ (M : Mem) (x1 : Int32) (x2 : Int32) (x3 : Int32) (x4 : Int32) (H : Heap) (locs : List Loc) (ls : Array Slot), Wd G s M H locs → lv_has ls 5 [(0, .ref (ga G 0)), (1, .int x1), (2, .int x2), (3, .int x3), (4, .int x4)] → lp_X5_odds_27 post n9 M x1 x2 x3 x4 → W p l e (rmk 6) s m args below meth c H locs 0 0 (MQ below (va_Qi post (Qw G) (Af G s.heap.size)) args s 0 0 (Af G s.heap.size)) (F0 m 27 ls []) := fun M x1 x2 x3 x4 H locs ls w hl h => ih9 M x1 x2 x3 x4 w hl h
    replace h : b_X5_odds_27 (lp_X5_odds_27 post n9) post M x1 x2 x3 x4 := h
    unfold b_X5_odds_27 at h
    refine lv_iload hx hb dX5_odds_27 (lv_at hl 4 rfl) ?_
    refine lv_iload_n hx hb dX5_odds_29 rfl (lv_at hl 1 rfl) ?_
    refine lv_icmp_ge (tgt := 53) hx hb dX5_odds_30 (by decide) (fun c1 => ?_) (fun c1 => ?_)
    · replace h := h.1 c1
      refine lv_iload_n hx hb dX5_odds_53 rfl (lv_at hl 3 rfl) ?_
      exact ret_i C w h dX5_odds_54
    replace h := h.2 c1
    refine lv_aload_n hx hb dX5_odds_33 rfl (lv_at hl 0 rfl) ?_
    refine lv_iload_n hx hb dX5_odds_34 rfl (lv_at hl 2 rfl) ?_
    refine lv_iload hx hb dX5_odds_35 (lv_at hl 4 rfl) ?_
    refine lv_iadd hx hb dX5_odds_37 ?_
    refine end_i w (run_V (As := [.int (x2 + x4)]) C w hl.1 (c_X5_holdsByDraws l G C.2.2.1 _ _ (x2 + x4)  _ h) kw_27_10 kw_1_2 kw_27_7 kw_27_8 kw_27_9 hd_X5_holdsByDraws ⟨by decide, by decide⟩ (w.recv C (i := 0) (by decide) (pE_5) rfl) rfl (Nat.le_of_ble_eq_true rfl) dX5_odds_38) (fun r2 M3 H locs h w => ?_)
    refine lv_if_eq (tgt := 47) hx hb dX5_odds_41 (by decide) (fun c4 => ?_) (fun c4 => ?_)
    · replace h := h.1 c4
      exact t_X5_odds_47 C hk27 M3 x1 x2 x3 x4  w (lv_sub hl [0, 1, 2, 3, 4] rfl) h
    replace h := h.2 c4
    refine lv_iinc (v := (x3 + (1 : Int32))) (lv' := [(3, .int (x3 + (1 : Int32))), (0, .ref (ga G 0)), (1, .int x1), (2, .int x2), (4, .int x4)]) hx hb dX5_odds_44 hl (k := 3) rfl rfl (by decide) rfl (fun ls hl => ?_)
    exact t_X5_odds_47 C hk27 M3 x1 x2 (x3 + (1 : Int32)) x4  w (lv_sub hl [1, 2, 3, 0, 4] rfl) h
set_option maxHeartbeats 4000000 in
set_option maxRecDepth 100000 in
theorem c_X5_odds (l : Launch) (G : GG) (hG : Ag G) (sz : Nat) (M : Mem) (x1 : Int32) (x2 : Int32) (post : Int32 → Mem → Prop) (h : q_X5_odds M x1 x2 post) : Met l yX5_odds (Cond.code yX5_odds cX5_odds 5 (some .int) :: wsL_law) (rmk 6) (va_Pc [.ref (ga G 0), .int x1, .int x2] (Pw G sz M)) (va_Qi post (Qw G) (Af G sz)) 0 0 (Af G sz) := by
  refine Met.ofW (cc := cX5_odds) (maxL := 5) (ret := (some .int)) (by decide) rfl ?_
  intro p e s m args below meth c s₁ B hml hv
  obtain ⟨rfl, hsz, hE, hP⟩ := hv
  subst hsz
  have C := Cx.of (own := RX5) hG hE rfl hml B
  have w : Wd G s M s.heap [] := ⟨hP, va_S.rf⟩
  have hl := lv_entry [.ref (ga G 0), .int x1, .int x2] (n := 5) (Nat.le_of_ble_eq_true rfl)
  rw [lg_entry_eq]
  generalize (lg_sl [.ref (ga G 0), .int x1, .int x2] ++ List.replicate (5 - (lg_sl [.ref (ga G 0), .int x1, .int x2]).length) Slot.unset).toArray = ls at hl ⊢
  have hl : lv_has ls 5 [(0, .ref (ga G 0)), (1, .int x1), (2, .int x2)] := hl
  have hx := C.1.1
  have hb := C.1.2.1
  show W p l e (rmk 6) s m _ below meth c s.heap [] 0 0 _ _
  unfold q_X5_odds at h
  refine lv_iload_n hx hb dX5_odds_0 rfl (lv_at hl 1 rfl) ?_
  refine lv_iconst (v := 1) hx hb dX5_odds_1 (by decide) ?_
  refine lv_bipush (v := 20) hx hb dX5_odds_2 (by decide) ?_
  refine end_i w (run_S (As := [.int x1, .int (1 : Int32), .int (20 : Int32)]) C w hl.1 (c_X5_isWithin l G C.2.2.1 _ _ x1 (1 : Int32) (20 : Int32)  _ h) kw_6_8 kw_1_2 kw_6_6 kw_6_7 hd_X5_isWithin ⟨by decide, by decide⟩ rfl (Nat.le_of_ble_eq_true rfl) dX5_odds_4) (fun r5 M6 H locs h w => ?_)
  refine lv_if_ne (tgt := 12) hx hb dX5_odds_7 (by decide) (fun c7 => ?_) (fun c7 => ?_)
  · replace h := h.2 c7
    refine lv_aload_n hx hb dX5_odds_12 rfl (lv_at hl 0 rfl) ?_
    refine end_i w (run_V (As := []) C w hl.1 (c_X5_layLine l G C.2.2.1 _ _   _ h) kw_15_21 kw_1_2 kw_15_18 kw_15_19 kw_15_20 hd_X5_layLine ⟨by decide, by decide⟩ (w.recv C (i := 0) (by decide) (pE_5) rfl) rfl (Nat.le_of_ble_eq_true rfl) dX5_odds_13) (fun r8 M9 H locs h w => ?_)
    refine lv_if_ne (tgt := 22) hx hb dX5_odds_16 (by decide) (fun c10 => ?_) (fun c10 => ?_)
    · replace h := h.2 c10
      refine lv_iconst (v := 0) hx hb dX5_odds_22 (by decide) ?_
      refine lv_istore_n (lv' := [(3, .int (0 : Int32)), (0, .ref (ga G 0)), (1, .int x1), (2, .int x2)]) hx hb dX5_odds_23 rfl hl (by decide) rfl (fun ls hl => ?_)
      refine lv_iconst (v := 0) hx hb dX5_odds_24 (by decide) ?_
      refine lv_istore (lv' := [(4, .int (0 : Int32)), (3, .int (0 : Int32)), (0, .ref (ga G 0)), (1, .int x1), (2, .int x2)]) hx hb dX5_odds_25 hl (by decide) rfl (fun ls hl => ?_)
      obtain ⟨n, h⟩ := h
      exact t_X5_odds_27 C n M9 x1 x2 (0 : Int32) (0 : Int32)  w (lv_sub hl [2, 3, 4, 1, 0] rfl) h
    replace h := h.1 c10
    refine lv_bipush (v := -3) hx hb dX5_odds_19 (by decide) ?_
    exact ret_i C w h dX5_odds_21
  replace h := h.1 c7
  refine lv_iconst (v := -1) hx hb dX5_odds_10 (by decide) ?_
  exact ret_i C w h dX5_odds_11
def j_X6_odds_183 (k29 : Mem → Int32 → Int32 → Int32 → Int32 → Prop) (post : Int32 → Mem → Prop) (M : Mem) (y0 : Int32) (y1 : Int32) (x1 : Int32) (x2 : Int32) (x4 : Int32) : Prop := k29 M x1 x2 (y1 + y0) (x4 + (1 : Int32))
def j_X6_odds_161 (k29 : Mem → Int32 → Int32 → Int32 → Int32 → Prop) (post : Int32 → Mem → Prop) (M : Mem) (x1 : Int32) (x2 : Int32) (x3 : Int32) (x4 : Int32) (x6 : Int32) : Prop := q_X6_copies M 61 58 (fun M2 => (x6 = 0 → (j_X6_odds_183 k29 post M2 (1 : Int32) x3 x1 x2 x4)) ∧ (¬ (x6 = 0) → (j_X6_odds_183 k29 post M2 (0 : Int32) x3 x1 x2 x4)))
def j_X6_odds_153 (k29 : Mem → Int32 → Int32 → Int32 → Int32 → Prop) (k66 : Mem → Int32 → Int32 → Int32 → Int32 → Int32 → Int32 → Int32 → Prop) (post : Int32 → Mem → Prop) (M : Mem) (y0 : Int32) (x1 : Int32) (x2 : Int32) (x3 : Int32) (x4 : Int32) (x5 : Int32) (x7 : Int32) : Prop := k66 M x1 x2 x3 x4 x5 y0 (x7 + (1 : Int32))
def j_X6_odds_136 (k29 : Mem → Int32 → Int32 → Int32 → Int32 → Prop) (k66 : Mem → Int32 → Int32 → Int32 → Int32 → Int32 → Int32 → Int32 → Prop) (post : Int32 → Mem → Prop) (M : Mem) (y0 : Int32) (x1 : Int32) (x2 : Int32) (x3 : Int32) (x4 : Int32) (x5 : Int32) (x7 : Int32) : Prop := q_X6_goesTenth M y0 (fun r4 M5 => ((M5 57 22) < 0 → (j_X6_odds_153 k29 k66 post M5 (0 : Int32) x1 x2 x3 x4 x5 x7)) ∧ (¬ ((M5 57 22) < 0) → (j_X6_odds_153 k29 k66 post M5 (1 : Int32) x1 x2 x3 x4 x5 x7)))
def b_X6_odds_66 (k29 : Mem → Int32 → Int32 → Int32 → Int32 → Prop) (k66 : Mem → Int32 → Int32 → Int32 → Int32 → Int32 → Int32 → Int32 → Prop) (post : Int32 → Mem → Prop) (M : Mem) (x1 : Int32) (x2 : Int32) (x3 : Int32) (x4 : Int32) (x5 : Int32) (x6 : Int32) (x7 : Int32) : Prop := ((100 : Int32) ≤ x7 → (j_X6_odds_161 k29 post M x1 x2 x3 x4 x6)) ∧ (¬ ((100 : Int32) ≤ x7) → ((x6 = 0 → (∀ v9 : Int32, v9 = ((x5 * (1103515245 : Int32)) + (12345 : Int32)) → (∀ v10 : Int32, v10 = (((M 58 5) + (((v9 &&& (2147483647 : Int32)) / (65536 : Int32)) - ((v9 &&& (2147483647 : Int32)) / (65536 : Int32)) / (21 : Int32) * (21 : Int32))) - (10 : Int32)) → ((0 ≤ v10 → ((v10 ≤ (60 : Int32) → (j_X6_odds_136 k29 k66 post M v10 x1 x2 x3 x4 v9 x7)) ∧ (¬ (v10 ≤ (60 : Int32)) → (j_X6_odds_136 k29 k66 post M (60 : Int32) x1 x2 x3 x4 v9 x7)))) ∧ (¬ (0 ≤ v10) → (j_X6_odds_136 k29 k66 post M (0 : Int32) x1 x2 x3 x4 v9 x7)))))) ∧ (¬ (x6 = 0) → (j_X6_odds_161 k29 post M x1 x2 x3 x4 x6))))
def lp_X6_odds_66 (k29 : Mem → Int32 → Int32 → Int32 → Int32 → Prop) (post : Int32 → Mem → Prop) : Nat → Mem → Int32 → Int32 → Int32 → Int32 → Int32 → Int32 → Int32 → Prop
  | 0 => fun _ _ _ _ _ _ _ _ => False
  | n + 1 => fun M x1 x2 x3 x4 x5 x6 x7 => b_X6_odds_66 k29 (lp_X6_odds_66 k29 post n) post M x1 x2 x3 x4 x5 x6 x7
def b_X6_odds_29 (k29 : Mem → Int32 → Int32 → Int32 → Int32 → Prop) (post : Int32 → Mem → Prop) (M : Mem) (x1 : Int32) (x2 : Int32) (x3 : Int32) (x4 : Int32) : Prop := (x1 ≤ x4 → (post x3 M)) ∧ (¬ (x1 ≤ x4) → (q_X6_copies M 58 61 (fun M15 => q_X6_allPieces M15  (fun r16 M17 => q_X6_sumsUp M17 r16 (fun M19 => ∃ n, lp_X6_odds_66 k29 post n M19 x1 x2 x3 x4 (x2 + x4) (0 : Int32) (0 : Int32))))))
def lp_X6_odds_29 (post : Int32 → Mem → Prop) : Nat → Mem → Int32 → Int32 → Int32 → Int32 → Prop
  | 0 => fun _ _ _ _ _ => False
  | n + 1 => fun M x1 x2 x3 x4 => b_X6_odds_29 (lp_X6_odds_29 post n) post M x1 x2 x3 x4
def q_X6_odds (M : Mem) (x1 : Int32) (x2 : Int32) (post : Int32 → Mem → Prop) : Prop := q_X6_isIn M x1.toInt64 (1 : Int64) (20 : Int64) (fun r20 M21 => (r20 = 0 → (post (-1 : Int32) M21)) ∧ (¬ (r20 = 0) → (q_X6_isLine M21  (fun r23 M24 => (r23 = 0 → (post (-3 : Int32) M24)) ∧ (¬ (r23 = 0) → (∃ n, lp_X6_odds_29 post n M24 x1 x2 (0 : Int32) (0 : Int32)))))))
set_option maxHeartbeats 4000000 in
set_option maxRecDepth 100000 in
theorem t_X6_odds_183 (C : Cx G p s m args meth c RX6 cX6_odds 10 (some .int)) {post : Int32 → Mem → Prop} {k29 : Mem → Int32 → Int32 → Int32 → Int32 → Prop} (hk29 : ∀ (M : Mem) (x1 : Int32) (x2 : Int32) (x3 : Int32) (x4 : Int32) (H : Heap) (locs : List Loc) (ls : Array Slot), Wd G s M H locs → lv_has ls 10 [(0, .ref (ga G 57)), (1, .int x1), (2, .int x2), (3, .int x3), (4, .int x4)] → k29 M x1 x2 x3 x4 → W p l e (rmk 5) s m args below meth c H locs 0 0 (MQ below (va_Qi post (Qw G) (Af G s.heap.size)) args s 0 0 (Af G s.heap.size)) (F0 m 29 ls [])) (M : Mem) (y0 : Int32) (y1 : Int32) (x1 : Int32) (x2 : Int32) (x4 : Int32) {H : Heap} {locs : List Loc} {ls : Array Slot} (w : Wd G s M H locs) (hl : lv_has ls 10 [(0, .ref (ga G 57)), (1, .int x1), (2, .int x2), (4, .int x4)]) (h : j_X6_odds_183 k29 post M y0 y1 x1 x2 x4) : W p l e (rmk 5) s m args below meth c H locs 0 0 (MQ below (va_Qi post (Qw G) (Af G s.heap.size)) args s 0 0 (Af G s.heap.size)) (F0 m 183 ls [.int y0, .int y1]) := by
  have hx := C.1.1
  have hb := C.1.2.1
  unfold j_X6_odds_183 at h
  refine lv_iadd hx hb dX6_odds_183 ?_
  refine lv_istore_n (lv' := [(3, .int (y1 + y0)), (0, .ref (ga G 57)), (1, .int x1), (2, .int x2), (4, .int x4)]) hx hb dX6_odds_184 rfl hl (by decide) rfl (fun ls hl => ?_)
  refine lv_iinc (v := (x4 + (1 : Int32))) (lv' := [(4, .int (x4 + (1 : Int32))), (3, .int (y1 + y0)), (0, .ref (ga G 57)), (1, .int x1), (2, .int x2)]) hx hb dX6_odds_185 hl (k := 4) rfl rfl (by decide) rfl (fun ls hl => ?_)
  refine lv_goto (tgt := 29) hx hb dX6_odds_188 (by decide) ?_
  exact hk29 M x1 x2 (y1 + y0) (x4 + (1 : Int32)) _ _ _  w (lv_sub hl [2, 3, 4, 1, 0] rfl) h
set_option maxHeartbeats 4000000 in
set_option maxRecDepth 100000 in
theorem t_X6_odds_161 (C : Cx G p s m args meth c RX6 cX6_odds 10 (some .int)) {post : Int32 → Mem → Prop} {k29 : Mem → Int32 → Int32 → Int32 → Int32 → Prop} (hk29 : ∀ (M : Mem) (x1 : Int32) (x2 : Int32) (x3 : Int32) (x4 : Int32) (H : Heap) (locs : List Loc) (ls : Array Slot), Wd G s M H locs → lv_has ls 10 [(0, .ref (ga G 57)), (1, .int x1), (2, .int x2), (3, .int x3), (4, .int x4)] → k29 M x1 x2 x3 x4 → W p l e (rmk 5) s m args below meth c H locs 0 0 (MQ below (va_Qi post (Qw G) (Af G s.heap.size)) args s 0 0 (Af G s.heap.size)) (F0 m 29 ls [])) (M : Mem) (x1 : Int32) (x2 : Int32) (x3 : Int32) (x4 : Int32) (x6 : Int32) {H : Heap} {locs : List Loc} {ls : Array Slot} (w : Wd G s M H locs) (hl : lv_has ls 10 [(0, .ref (ga G 57)), (1, .int x1), (2, .int x2), (3, .int x3), (4, .int x4), (6, .int x6)]) (h : j_X6_odds_161 k29 post M x1 x2 x3 x4 x6) : W p l e (rmk 5) s m args below meth c H locs 0 0 (MQ below (va_Qi post (Qw G) (Af G s.heap.size)) args s 0 0 (Af G s.heap.size)) (F0 m 161 ls []) := by
  have hx := C.1.1
  have hb := C.1.2.1
  unfold j_X6_odds_161 at h
  refine lv_aload_n hx hb dX6_odds_161 rfl (lv_at hl 0 rfl) ?_
  refine gt_6_3 C w kw_5_3 dX6_odds_162 ?_
  refine lv_aload_n hx hb dX6_odds_165 rfl (lv_at hl 0 rfl) ?_
  refine gt_6_0 C w kw_5_0 dX6_odds_166 ?_
  refine end_v w (run_S (As := [.ref (ga G 61), .ref (ga G 58)]) C w hl.1 (c_X6_copies l G C.2.2.1 _ _ 61 58 ⟨by decide, by decide⟩ ⟨by decide, by decide⟩ _ h) kw_13_8 kw_1_5 kw_13_6 kw_13_7 hd_X6_copies ⟨by decide, by decide⟩ rfl (Nat.le_of_ble_eq_true rfl) dX6_odds_169) (fun M2 H locs h w => ?_)
  refine lv_iload_n hx hb dX6_odds_172 rfl (lv_at hl 3 rfl) ?_
  refine lv_iload hx hb dX6_odds_173 (lv_at hl 5 rfl) ?_
  refine lv_if_eq (tgt := 182) hx hb dX6_odds_175 (by decide) (fun c3 => ?_) (fun c3 => ?_)
  · replace h := h.1 c3
    refine lv_iconst (v := 1) hx hb dX6_odds_182 (by decide) ?_
    exact t_X6_odds_183 C hk29 M2 (1 : Int32) x3 x1 x2 x4  w (lv_sub hl [0, 1, 2, 4] rfl) h
  replace h := h.2 c3
  refine lv_iconst (v := 0) hx hb dX6_odds_178 (by decide) ?_
  refine lv_goto (tgt := 183) hx hb dX6_odds_179 (by decide) ?_
  exact t_X6_odds_183 C hk29 M2 (0 : Int32) x3 x1 x2 x4  w (lv_sub hl [0, 1, 2, 4] rfl) h
set_option maxHeartbeats 4000000 in
set_option maxRecDepth 100000 in
theorem t_X6_odds_153 (C : Cx G p s m args meth c RX6 cX6_odds 10 (some .int)) {post : Int32 → Mem → Prop} {k29 : Mem → Int32 → Int32 → Int32 → Int32 → Prop} {k66 : Mem → Int32 → Int32 → Int32 → Int32 → Int32 → Int32 → Int32 → Prop} (hk29 : ∀ (M : Mem) (x1 : Int32) (x2 : Int32) (x3 : Int32) (x4 : Int32) (H : Heap) (locs : List Loc) (ls : Array Slot), Wd G s M H locs → lv_has ls 10 [(0, .ref (ga G 57)), (1, .int x1), (2, .int x2), (3, .int x3), (4, .int x4)] → k29 M x1 x2 x3 x4 → W p l e (rmk 5) s m args below meth c H locs 0 0 (MQ below (va_Qi post (Qw G) (Af G s.heap.size)) args s 0 0 (Af G s.heap.size)) (F0 m 29 ls [])) (hk66 : ∀ (M : Mem) (x1 : Int32) (x2 : Int32) (x3 : Int32) (x4 : Int32) (x5 : Int32) (x6 : Int32) (x7 : Int32) (H : Heap) (locs : List Loc) (ls : Array Slot), Wd G s M H locs → lv_has ls 10 [(0, .ref (ga G 57)), (1, .int x1), (2, .int x2), (3, .int x3), (4, .int x4), (5, .int x5), (6, .int x6), (7, .int x7)] → k66 M x1 x2 x3 x4 x5 x6 x7 → W p l e (rmk 5) s m args below meth c H locs 0 0 (MQ below (va_Qi post (Qw G) (Af G s.heap.size)) args s 0 0 (Af G s.heap.size)) (F0 m 66 ls [])) (M : Mem) (y0 : Int32) (x1 : Int32) (x2 : Int32) (x3 : Int32) (x4 : Int32) (x5 : Int32) (x7 : Int32) {H : Heap} {locs : List Loc} {ls : Array Slot} (w : Wd G s M H locs) (hl : lv_has ls 10 [(0, .ref (ga G 57)), (1, .int x1), (2, .int x2), (3, .int x3), (4, .int x4), (5, .int x5), (7, .int x7)]) (h : j_X6_odds_153 k29 k66 post M y0 x1 x2 x3 x4 x5 x7) : W p l e (rmk 5) s m args below meth c H locs 0 0 (MQ below (va_Qi post (Qw G) (Af G s.heap.size)) args s 0 0 (Af G s.heap.size)) (F0 m 153 ls [.int y0]) := by
  have hx := C.1.1
  have hb := C.1.2.1
  unfold j_X6_odds_153 at h
  refine lv_istore (lv' := [(6, .int y0), (0, .ref (ga G 57)), (1, .int x1), (2, .int x2), (3, .int x3), (4, .int x4), (5, .int x5), (7, .int x7)]) hx hb dX6_odds_153 hl (by decide) rfl (fun ls hl => ?_)
  refine lv_iinc (v := (x7 + (1 : Int32))) (lv' := [(7, .int (x7 + (1 : Int32))), (6, .int y0), (0, .ref (ga G 57)), (1, .int x1), (2, .int x2), (3, .int x3), (4, .int x4), (5, .int x5)]) hx hb dX6_odds_155 hl (k := 7) rfl rfl (by decide) rfl (fun ls hl => ?_)
  refine lv_goto (tgt := 66) hx hb dX6_odds_158 (by decide) ?_
  exact hk66 M x1 x2 x3 x4 x5 y0 (x7 + (1 : Int32)) _ _ _  w (lv_sub hl [2, 3, 4, 5, 6, 7, 1, 0] rfl) h
set_option maxHeartbeats 4000000 in
set_option maxRecDepth 100000 in
theorem t_X6_odds_136 (C : Cx G p s m args meth c RX6 cX6_odds 10 (some .int)) {post : Int32 → Mem → Prop} {k29 : Mem → Int32 → Int32 → Int32 → Int32 → Prop} {k66 : Mem → Int32 → Int32 → Int32 → Int32 → Int32 → Int32 → Int32 → Prop} (hk29 : ∀ (M : Mem) (x1 : Int32) (x2 : Int32) (x3 : Int32) (x4 : Int32) (H : Heap) (locs : List Loc) (ls : Array Slot), Wd G s M H locs → lv_has ls 10 [(0, .ref (ga G 57)), (1, .int x1), (2, .int x2), (3, .int x3), (4, .int x4)] → k29 M x1 x2 x3 x4 → W p l e (rmk 5) s m args below meth c H locs 0 0 (MQ below (va_Qi post (Qw G) (Af G s.heap.size)) args s 0 0 (Af G s.heap.size)) (F0 m 29 ls [])) (hk66 : ∀ (M : Mem) (x1 : Int32) (x2 : Int32) (x3 : Int32) (x4 : Int32) (x5 : Int32) (x6 : Int32) (x7 : Int32) (H : Heap) (locs : List Loc) (ls : Array Slot), Wd G s M H locs → lv_has ls 10 [(0, .ref (ga G 57)), (1, .int x1), (2, .int x2), (3, .int x3), (4, .int x4), (5, .int x5), (6, .int x6), (7, .int x7)] → k66 M x1 x2 x3 x4 x5 x6 x7 → W p l e (rmk 5) s m args below meth c H locs 0 0 (MQ below (va_Qi post (Qw G) (Af G s.heap.size)) args s 0 0 (Af G s.heap.size)) (F0 m 66 ls [])) (M : Mem) (y0 : Int32) (x1 : Int32) (x2 : Int32) (x3 : Int32) (x4 : Int32) (x5 : Int32) (x7 : Int32) {H : Heap} {locs : List Loc} {ls : Array Slot} (w : Wd G s M H locs) (hl : lv_has ls 10 [(0, .ref (ga G 57)), (1, .int x1), (2, .int x2), (3, .int x3), (4, .int x4), (5, .int x5), (7, .int x7)]) (h : j_X6_odds_136 k29 k66 post M y0 x1 x2 x3 x4 x5 x7) : W p l e (rmk 5) s m args below meth c H locs 0 0 (MQ below (va_Qi post (Qw G) (Af G s.heap.size)) args s 0 0 (Af G s.heap.size)) (F0 m 136 ls [.int y0, .ref (ga G 57)]) := by
  have hx := C.1.1
  have hb := C.1.2.1
  unfold j_X6_odds_136 at h
  refine end_i w (run_V (As := [.int y0]) C w hl.1 (c_X6_goesTenth l G C.2.2.1 _ _ y0  _ h) kw_21_22 kw_1_5 kw_21_19 kw_21_20 kw_21_21 hd_X6_goesTenth ⟨by decide, by decide⟩ (w.recv C (i := 57) (by decide) (pE_6) rfl) rfl (Nat.le_of_ble_eq_true rfl) dX6_odds_136) (fun r4 M5 H locs h w => ?_)
  refine lv_istore (lv' := [(9, .int r4), (0, .ref (ga G 57)), (1, .int x1), (2, .int x2), (3, .int x3), (4, .int x4), (5, .int x5), (7, .int x7)]) hx hb dX6_odds_139 hl (by decide) rfl (fun ls hl => ?_)
  refine lv_aload_n hx hb dX6_odds_141 rfl (lv_at hl 1 rfl) ?_
  refine gt_6_22 C w kw_21_23 dX6_odds_142 ?_
  refine lv_if_lt (tgt := 152) hx hb dX6_odds_145 (by decide) (fun c6 => ?_) (fun c6 => ?_)
  · replace h := h.1 c6
    refine lv_iconst (v := 0) hx hb dX6_odds_152 (by decide) ?_
    exact t_X6_odds_153 C hk29 hk66 M5 (0 : Int32) x1 x2 x3 x4 x5 x7  w (lv_sub hl [1, 2, 3, 4, 5, 6, 7] rfl) h
  replace h := h.2 c6
  refine lv_iconst (v := 1) hx hb dX6_odds_148 (by decide) ?_
  refine lv_goto (tgt := 153) hx hb dX6_odds_149 (by decide) ?_
  exact t_X6_odds_153 C hk29 hk66 M5 (1 : Int32) x1 x2 x3 x4 x5 x7  w (lv_sub hl [1, 2, 3, 4, 5, 6, 7] rfl) h
set_option maxHeartbeats 4000000 in
set_option maxRecDepth 100000 in
theorem t_X6_odds_66 (C : Cx G p s m args meth c RX6 cX6_odds 10 (some .int)) {post : Int32 → Mem → Prop} {k29 : Mem → Int32 → Int32 → Int32 → Int32 → Prop} (hk29 : ∀ (M : Mem) (x1 : Int32) (x2 : Int32) (x3 : Int32) (x4 : Int32) (H : Heap) (locs : List Loc) (ls : Array Slot), Wd G s M H locs → lv_has ls 10 [(0, .ref (ga G 57)), (1, .int x1), (2, .int x2), (3, .int x3), (4, .int x4)] → k29 M x1 x2 x3 x4 → W p l e (rmk 5) s m args below meth c H locs 0 0 (MQ below (va_Qi post (Qw G) (Af G s.heap.size)) args s 0 0 (Af G s.heap.size)) (F0 m 29 ls [])) : ∀ (n : Nat) (M : Mem) (x1 : Int32) (x2 : Int32) (x3 : Int32) (x4 : Int32) (x5 : Int32) (x6 : Int32) (x7 : Int32) {H : Heap} {locs : List Loc} {ls : Array Slot} (w : Wd G s M H locs) (hl : lv_has ls 10 [(0, .ref (ga G 57)), (1, .int x1), (2, .int x2), (3, .int x3), (4, .int x4), (5, .int x5), (6, .int x6), (7, .int x7)]) (h : lp_X6_odds_66 k29 post n M x1 x2 x3 x4 x5 x6 x7), W p l e (rmk 5) s m args below meth c H locs 0 0 (MQ below (va_Qi post (Qw G) (Af G s.heap.size)) args s 0 0 (Af G s.heap.size)) (F0 m 66 ls []) := by
  have hx := C.1.1
  have hb := C.1.2.1
  intro n9
  induction n9 with
  | zero => intro M x1 x2 x3 x4 x5 x6 x7 H locs ls w hl h; exact absurd h id
  | succ n9 ih9 =>
    intro M x1 x2 x3 x4 x5 x6 x7 H locs ls w hl h
    have hk66 : ∀ (M : Mem) (x1 : Int32) (x2 : Int32) (x3 : Int32) (x4 : Int32) (x5 : Int32) (x6 : Int32) (x7 : Int32) (H : Heap) (locs : List Loc) (ls : Array Slot), Wd G s M H locs → lv_has ls 10 [(0, .ref (ga G 57)), (1, .int x1), (2, .int x2), (3, .int x3), (4, .int x4), (5, .int x5), (6, .int x6), (7, .int x7)] → lp_X6_odds_66 k29 post n9 M x1 x2 x3 x4 x5 x6 x7 → W p l e (rmk 5) s m args below meth c H locs 0 0 (MQ below (va_Qi post (Qw G) (Af G s.heap.size)) args s 0 0 (Af G s.heap.size)) (F0 m 66 ls []) := fun M x1 x2 x3 x4 x5 x6 x7 H locs ls w hl h => ih9 M x1 x2 x3 x4 x5 x6 x7 w hl h
    replace h : b_X6_odds_66 k29 (lp_X6_odds_66 k29 post n9) post M x1 x2 x3 x4 x5 x6 x7 := h
    unfold b_X6_odds_66 at h
    refine lv_iload hx hb dX6_odds_66 (lv_at hl 7 rfl) ?_
    refine lv_bipush (v := 100) hx hb dX6_odds_68 (by decide) ?_
    refine lv_icmp_ge (tgt := 161) hx hb dX6_odds_70 (by decide) (fun c7 => ?_) (fun c7 => ?_)
    · replace h := h.1 c7
      exact t_X6_odds_161 C hk29 M x1 x2 x3 x4 x6  w (lv_sub hl [0, 1, 2, 3, 4, 6] rfl) h
    replace h := h.2 c7
    refine lv_iload hx hb dX6_odds_73 (lv_at hl 6 rfl) ?_
    refine lv_if_ne (tgt := 161) hx hb dX6_odds_75 (by decide) (fun c8 => ?_) (fun c8 => ?_)
    · replace h := h.2 c8
      exact t_X6_odds_161 C hk29 M x1 x2 x3 x4 x6  w (lv_sub hl [0, 1, 2, 3, 4, 6] rfl) h
    replace h := h.1 c8
    refine lv_iload hx hb dX6_odds_78 (lv_at hl 5 rfl) ?_
    refine lv_ldc hx hb C.1.2.2.2.1 (C.ws kw_27_23) dX6_odds_80 ?_
    refine lv_imul hx hb dX6_odds_82 ?_
    refine lv_sipush (v := 12345) hx hb dX6_odds_83 (by decide) ?_
    refine lv_iadd hx hb dX6_odds_86 ?_
    refine lv_topi (fun v9 ev9 => ?_)
    replace h := h v9 ev9
    refine lv_istore (lv' := [(5, .int v9), (0, .ref (ga G 57)), (1, .int x1), (2, .int x2), (3, .int x3), (4, .int x4), (6, .int x6), (7, .int x7)]) hx hb dX6_odds_87 hl (by decide) rfl (fun ls hl => ?_)
    refine lv_aload_n hx hb dX6_odds_89 rfl (lv_at hl 1 rfl) ?_
    refine gt_6_0 C w kw_5_0 dX6_odds_90 ?_
    refine lv_iconst (v := 5) hx hb dX6_odds_93 (by decide) ?_
    refine pw_ld C w (i := 58) (by decide) pE_58 (vl (x := (5 : Int32)) (by decide)) (k := 5) (by decide) dX6_odds_94 ?_
    refine lv_iload hx hb dX6_odds_95 (lv_at hl 0 rfl) ?_
    refine lv_ldc hx hb C.1.2.2.2.1 (C.ws kw_28_0) dX6_odds_97 ?_
    refine lv_iand hx hb dX6_odds_99 ?_
    refine lv_ldc hx hb C.1.2.2.2.1 (C.ws kw_28_1) dX6_odds_100 ?_
    refine lv_idiv hx hb dX6_odds_102 (by decide) ?_
    refine lv_bipush (v := 21) hx hb dX6_odds_103 (by decide) ?_
    refine lv_irem hx hb dX6_odds_105 (by decide) ?_
    refine lv_iadd hx hb dX6_odds_106 ?_
    refine lv_bipush (v := 10) hx hb dX6_odds_107 (by decide) ?_
    refine lv_isub hx hb dX6_odds_109 ?_
    refine lv_topi (fun v10 ev10 => ?_)
    replace h := h v10 ev10
    refine lv_istore (lv' := [(8, .int v10), (5, .int v9), (0, .ref (ga G 57)), (1, .int x1), (2, .int x2), (3, .int x3), (4, .int x4), (6, .int x6), (7, .int x7)]) hx hb dX6_odds_110 hl (by decide) rfl (fun ls hl => ?_)
    refine lv_aload_n hx hb dX6_odds_112 rfl (lv_at hl 2 rfl) ?_
    refine lv_iload hx hb dX6_odds_113 (lv_at hl 0 rfl) ?_
    refine lv_if_ge (tgt := 122) hx hb dX6_odds_115 (by decide) (fun c11 => ?_) (fun c11 => ?_)
    · replace h := h.1 c11
      refine lv_iload hx hb dX6_odds_122 (lv_at hl 0 rfl) ?_
      refine lv_bipush (v := 60) hx hb dX6_odds_124 (by decide) ?_
      refine lv_icmp_le (tgt := 134) hx hb dX6_odds_126 (by decide) (fun c12 => ?_) (fun c12 => ?_)
      · replace h := h.1 c12
        refine lv_iload hx hb dX6_odds_134 (lv_at hl 0 rfl) ?_
        exact t_X6_odds_136 C hk29 hk66 M v10 x1 x2 x3 x4 v9 x7  w (lv_sub hl [2, 3, 4, 5, 6, 1, 8] rfl) h
      replace h := h.2 c12
      refine lv_bipush (v := 60) hx hb dX6_odds_129 (by decide) ?_
      refine lv_goto (tgt := 136) hx hb dX6_odds_131 (by decide) ?_
      exact t_X6_odds_136 C hk29 hk66 M (60 : Int32) x1 x2 x3 x4 v9 x7  w (lv_sub hl [2, 3, 4, 5, 6, 1, 8] rfl) h
    replace h := h.2 c11
    refine lv_iconst (v := 0) hx hb dX6_odds_118 (by decide) ?_
    refine lv_goto (tgt := 136) hx hb dX6_odds_119 (by decide) ?_
    exact t_X6_odds_136 C hk29 hk66 M (0 : Int32) x1 x2 x3 x4 v9 x7  w (lv_sub hl [2, 3, 4, 5, 6, 1, 8] rfl) h
set_option maxHeartbeats 4000000 in
set_option maxRecDepth 100000 in
theorem t_X6_odds_29 (C : Cx G p s m args meth c RX6 cX6_odds 10 (some .int)) {post : Int32 → Mem → Prop} : ∀ (n : Nat) (M : Mem) (x1 : Int32) (x2 : Int32) (x3 : Int32) (x4 : Int32) {H : Heap} {locs : List Loc} {ls : Array Slot} (w : Wd G s M H locs) (hl : lv_has ls 10 [(0, .ref (ga G 57)), (1, .int x1), (2, .int x2), (3, .int x3), (4, .int x4)]) (h : lp_X6_odds_29 post n M x1 x2 x3 x4), W p l e (rmk 5) s m args below meth c H locs 0 0 (MQ below (va_Qi post (Qw G) (Af G s.heap.size)) args s 0 0 (Af G s.heap.size)) (F0 m 29 ls []) := by
  have hx := C.1.1
  have hb := C.1.2.1
  intro n9
  induction n9 with
  | zero => intro M x1 x2 x3 x4 H locs ls w hl h; exact absurd h id
  | succ n9 ih9 =>
    intro M x1 x2 x3 x4 H locs ls w hl h
    have hk29 : ∀ (M : Mem) (x1 : Int32) (x2 : Int32) (x3 : Int32) (x4 : Int32) (H : Heap) (locs : List Loc) (ls : Array Slot), Wd G s M H locs → lv_has ls 10 [(0, .ref (ga G 57)), (1, .int x1), (2, .int x2), (3, .int x3), (4, .int x4)] → lp_X6_odds_29 post n9 M x1 x2 x3 x4 → W p l e (rmk 5) s m args below meth c H locs 0 0 (MQ below (va_Qi post (Qw G) (Af G s.heap.size)) args s 0 0 (Af G s.heap.size)) (F0 m 29 ls []) := fun M x1 x2 x3 x4 H locs ls w hl h => ih9 M x1 x2 x3 x4 w hl h
    replace h : b_X6_odds_29 (lp_X6_odds_29 post n9) post M x1 x2 x3 x4 := h
    unfold b_X6_odds_29 at h
    refine lv_iload hx hb dX6_odds_29 (lv_at hl 4 rfl) ?_
    refine lv_iload_n hx hb dX6_odds_31 rfl (lv_at hl 1 rfl) ?_
    refine lv_icmp_ge (tgt := 191) hx hb dX6_odds_32 (by decide) (fun c13 => ?_) (fun c13 => ?_)
    · replace h := h.1 c13
      refine lv_iload_n hx hb dX6_odds_191 rfl (lv_at hl 3 rfl) ?_
      exact ret_i C w h dX6_odds_192
    replace h := h.2 c13
    refine lv_aload_n hx hb dX6_odds_35 rfl (lv_at hl 0 rfl) ?_
    refine gt_6_0 C w kw_5_0 dX6_odds_36 ?_
    refine lv_aload_n hx hb dX6_odds_39 rfl (lv_at hl 0 rfl) ?_
    refine gt_6_3 C w kw_5_3 dX6_odds_40 ?_
    refine end_v w (run_S (As := [.ref (ga G 58), .ref (ga G 61)]) C w hl.1 (c_X6_copies l G C.2.2.1 _ _ 58 61 ⟨by decide, by decide⟩ ⟨by decide, by decide⟩ _ h) kw_13_8 kw_1_5 kw_13_6 kw_13_7 hd_X6_copies ⟨by decide, by decide⟩ rfl (Nat.le_of_ble_eq_true rfl) dX6_odds_43) (fun M15 H locs h w => ?_)
    refine lv_aload_n hx hb dX6_odds_46 rfl (lv_at hl 0 rfl) ?_
    refine lv_aload_n hx hb dX6_odds_47 rfl (lv_at hl 0 rfl) ?_
    refine end_i w (run_V (As := []) C w hl.1 (c_X6_allPieces l G C.2.2.1 _ _   _ h) kw_17_15 kw_1_5 kw_17_12 kw_17_13 kw_17_14 hd_X6_allPieces ⟨by decide, by decide⟩ (w.recv C (i := 57) (by decide) (pE_6) rfl) rfl (Nat.le_of_ble_eq_true rfl) dX6_odds_48) (fun r16 M17 H locs h w => ?_)
    refine end_v w (run_V (As := [.int r16]) C w hl.1 (c_X6_sumsUp l G C.2.2.1 _ _ r16  _ h) kw_17_19 kw_1_5 kw_17_16 kw_17_17 kw_17_18 hd_X6_sumsUp ⟨by decide, by decide⟩ (w.recv C (i := 57) (by decide) (pE_6) rfl) rfl (Nat.le_of_ble_eq_true rfl) dX6_odds_51) (fun M19 H locs h w => ?_)
    refine lv_iload_n hx hb dX6_odds_54 rfl (lv_at hl 2 rfl) ?_
    refine lv_iload hx hb dX6_odds_55 (lv_at hl 4 rfl) ?_
    refine lv_iadd hx hb dX6_odds_57 ?_
    refine lv_istore (lv' := [(5, .int (x2 + x4)), (0, .ref (ga G 57)), (1, .int x1), (2, .int x2), (3, .int x3), (4, .int x4)]) hx hb dX6_odds_58 hl (by decide) rfl (fun ls hl => ?_)
    refine lv_iconst (v := 0) hx hb dX6_odds_60 (by decide) ?_
    refine lv_istore (lv' := [(6, .int (0 : Int32)), (5, .int (x2 + x4)), (0, .ref (ga G 57)), (1, .int x1), (2, .int x2), (3, .int x3), (4, .int x4)]) hx hb dX6_odds_61 hl (by decide) rfl (fun ls hl => ?_)
    refine lv_iconst (v := 0) hx hb dX6_odds_63 (by decide) ?_
    refine lv_istore (lv' := [(7, .int (0 : Int32)), (6, .int (0 : Int32)), (5, .int (x2 + x4)), (0, .ref (ga G 57)), (1, .int x1), (2, .int x2), (3, .int x3), (4, .int x4)]) hx hb dX6_odds_64 hl (by decide) rfl (fun ls hl => ?_)
    obtain ⟨n, h⟩ := h
    exact t_X6_odds_66 C hk29 n M19 x1 x2 x3 x4 (x2 + x4) (0 : Int32) (0 : Int32)  w (lv_sub hl [3, 4, 5, 6, 7, 2, 1, 0] rfl) h
set_option maxHeartbeats 4000000 in
set_option maxRecDepth 100000 in
theorem c_X6_odds (l : Launch) (G : GG) (hG : Ag G) (sz : Nat) (M : Mem) (x1 : Int32) (x2 : Int32) (post : Int32 → Mem → Prop) (h : q_X6_odds M x1 x2 post) : Met l yX6_odds (Cond.code yX6_odds cX6_odds 10 (some .int) :: wsL_law) (rmk 5) (va_Pc [.ref (ga G 57), .int x1, .int x2] (Pw G sz M)) (va_Qi post (Qw G) (Af G sz)) 0 0 (Af G sz) := by
  refine Met.ofW (cc := cX6_odds) (maxL := 10) (ret := (some .int)) (by decide) rfl ?_
  intro p e s m args below meth c s₁ B hml hv
  obtain ⟨rfl, hsz, hE, hP⟩ := hv
  subst hsz
  have C := Cx.of (own := RX6) hG hE rfl hml B
  have w : Wd G s M s.heap [] := ⟨hP, va_S.rf⟩
  have hl := lv_entry [.ref (ga G 57), .int x1, .int x2] (n := 10) (Nat.le_of_ble_eq_true rfl)
  rw [lg_entry_eq]
  generalize (lg_sl [.ref (ga G 57), .int x1, .int x2] ++ List.replicate (10 - (lg_sl [.ref (ga G 57), .int x1, .int x2]).length) Slot.unset).toArray = ls at hl ⊢
  have hl : lv_has ls 10 [(0, .ref (ga G 57)), (1, .int x1), (2, .int x2)] := hl
  have hx := C.1.1
  have hb := C.1.2.1
  show W p l e (rmk 5) s m _ below meth c s.heap [] 0 0 _ _
  unfold q_X6_odds at h
  refine lv_iload_n hx hb dX6_odds_0 rfl (lv_at hl 1 rfl) ?_
  refine lv_i2l hx hb dX6_odds_1 rfl ?_
  refine lv_lconst (v := 1) hx hb dX6_odds_2 (by decide) ?_
  refine lv_ldc2 hx hb C.1.2.2.2.1 (C.ws kw_27_22) dX6_odds_3 ?_
  refine end_i w (run_S (As := [.long x1.toInt64, .long (1 : Int64), .long (20 : Int64)]) C w hl.1 (c_X6_isIn l G C.2.2.1 _ _ x1.toInt64 (1 : Int64) (20 : Int64)  _ h) kw_12_5 kw_1_5 kw_12_3 kw_12_4 hd_X6_isIn ⟨by decide, by decide⟩ rfl (Nat.le_of_ble_eq_true rfl) dX6_odds_6) (fun r20 M21 H locs h w => ?_)
  refine lv_if_ne (tgt := 14) hx hb dX6_odds_9 (by decide) (fun c22 => ?_) (fun c22 => ?_)
  · replace h := h.2 c22
    refine lv_aload_n hx hb dX6_odds_14 rfl (lv_at hl 0 rfl) ?_
    refine end_i w (run_V (As := []) C w hl.1 (c_X6_isLine l G C.2.2.1 _ _   _ h) kw_17_11 kw_1_5 kw_17_8 kw_17_9 kw_17_10 hd_X6_isLine ⟨by decide, by decide⟩ (w.recv C (i := 57) (by decide) (pE_6) rfl) rfl (Nat.le_of_ble_eq_true rfl) dX6_odds_15) (fun r23 M24 H locs h w => ?_)
    refine lv_if_ne (tgt := 24) hx hb dX6_odds_18 (by decide) (fun c25 => ?_) (fun c25 => ?_)
    · replace h := h.2 c25
      refine lv_iconst (v := 0) hx hb dX6_odds_24 (by decide) ?_
      refine lv_istore_n (lv' := [(3, .int (0 : Int32)), (0, .ref (ga G 57)), (1, .int x1), (2, .int x2)]) hx hb dX6_odds_25 rfl hl (by decide) rfl (fun ls hl => ?_)
      refine lv_iconst (v := 0) hx hb dX6_odds_26 (by decide) ?_
      refine lv_istore (lv' := [(4, .int (0 : Int32)), (3, .int (0 : Int32)), (0, .ref (ga G 57)), (1, .int x1), (2, .int x2)]) hx hb dX6_odds_27 hl (by decide) rfl (fun ls hl => ?_)
      obtain ⟨n, h⟩ := h
      exact t_X6_odds_29 C n M24 x1 x2 (0 : Int32) (0 : Int32)  w (lv_sub hl [2, 3, 4, 1, 0] rfl) h
    replace h := h.1 c25
    refine lv_bipush (v := -3) hx hb dX6_odds_21 (by decide) ?_
    exact ret_i C w h dX6_odds_23
  replace h := h.1 c22
  refine lv_iconst (v := -1) hx hb dX6_odds_12 (by decide) ?_
  exact ret_i C w h dX6_odds_13
def j_X5_yaw_33 (post : Int32 → Mem → Prop) (M : Mem) (y0 : Int32) : Prop := post y0 M
def q_X5_yaw (M : Mem) (x1 : Int32) (post : Int32 → Mem → Prop) : Prop := q_X5_isWithin M x1 (0 : Int32) (1 : Int32) (fun r1 M2 => (r1 = 0 → (post (-1000000001 : Int32) M2)) ∧ (¬ (r1 = 0) → ((x1 = 0 → (j_X5_yaw_33 post M2 (M2 1 3))) ∧ (¬ (x1 = 0) → (j_X5_yaw_33 post M2 (M2 1 4))))))
set_option maxHeartbeats 4000000 in
set_option maxRecDepth 100000 in
theorem t_X5_yaw_33 (C : Cx G p s m args meth c RX5 cX5_yaw 2 (some .int)) {post : Int32 → Mem → Prop} (M : Mem) (y0 : Int32) {H : Heap} {locs : List Loc} {ls : Array Slot} (w : Wd G s M H locs) (hl : lv_has ls 2 []) (h : j_X5_yaw_33 post M y0) : W p l e (rmk 2) s m args below meth c H locs 0 0 (MQ below (va_Qi post (Qw G) (Af G s.heap.size)) args s 0 0 (Af G s.heap.size)) (F0 m 33 ls [.int y0]) := by
  have hx := C.1.1
  have hb := C.1.2.1
  unfold j_X5_yaw_33 at h
  exact ret_i C w h dX5_yaw_33
set_option maxHeartbeats 4000000 in
set_option maxRecDepth 100000 in
theorem c_X5_yaw (l : Launch) (G : GG) (hG : Ag G) (sz : Nat) (M : Mem) (x1 : Int32) (post : Int32 → Mem → Prop) (h : q_X5_yaw M x1 post) : Met l yX5_yaw (Cond.code yX5_yaw cX5_yaw 2 (some .int) :: wsL_law) (rmk 2) (va_Pc [.ref (ga G 0), .int x1] (Pw G sz M)) (va_Qi post (Qw G) (Af G sz)) 0 0 (Af G sz) := by
  refine Met.ofW (cc := cX5_yaw) (maxL := 2) (ret := (some .int)) (by decide) rfl ?_
  intro p e s m args below meth c s₁ B hml hv
  obtain ⟨rfl, hsz, hE, hP⟩ := hv
  subst hsz
  have C := Cx.of (own := RX5) hG hE rfl hml B
  have w : Wd G s M s.heap [] := ⟨hP, va_S.rf⟩
  have hl := lv_entry [.ref (ga G 0), .int x1] (n := 2) (Nat.le_of_ble_eq_true rfl)
  rw [lg_entry_eq]
  generalize (lg_sl [.ref (ga G 0), .int x1] ++ List.replicate (2 - (lg_sl [.ref (ga G 0), .int x1]).length) Slot.unset).toArray = ls at hl ⊢
  have hl : lv_has ls 2 [(0, .ref (ga G 0)), (1, .int x1)] := hl
  have hx := C.1.1
  have hb := C.1.2.1
  show W p l e (rmk 2) s m _ below meth c s.heap [] 0 0 _ _
  unfold q_X5_yaw at h
  refine lv_iload_n hx hb dX5_yaw_0 rfl (lv_at hl 1 rfl) ?_
  refine lv_iconst (v := 0) hx hb dX5_yaw_1 (by decide) ?_
  refine lv_iconst (v := 1) hx hb dX5_yaw_2 (by decide) ?_
  refine end_i w (run_S (As := [.int x1, .int (0 : Int32), .int (1 : Int32)]) C w hl.1 (c_X5_isWithin l G C.2.2.1 _ _ x1 (0 : Int32) (1 : Int32)  _ h) kw_6_8 kw_1_2 kw_6_6 kw_6_7 hd_X5_isWithin ⟨by decide, by decide⟩ rfl (Nat.le_of_ble_eq_true rfl) dX5_yaw_3) (fun r1 M2 H locs h w => ?_)
  refine lv_if_ne (tgt := 12) hx hb dX5_yaw_6 (by decide) (fun c3 => ?_) (fun c3 => ?_)
  · replace h := h.2 c3
    refine lv_iload_n hx hb dX5_yaw_12 rfl (lv_at hl 1 rfl) ?_
    refine lv_if_ne (tgt := 26) hx hb dX5_yaw_13 (by decide) (fun c4 => ?_) (fun c4 => ?_)
    · replace h := h.2 c4
      refine lv_aload_n hx hb dX5_yaw_26 rfl (lv_at hl 0 rfl) ?_
      refine gt_5_0 C w kw_1_16 dX5_yaw_27 ?_
      refine gn_4_4 C w ⟨by decide, by decide⟩ kn_19 dX5_yaw_30 ?_
      exact t_X5_yaw_33 C M2 (M2 1 4)  w (lv_sub hl [] rfl) h
    replace h := h.1 c4
    refine lv_aload_n hx hb dX5_yaw_16 rfl (lv_at hl 0 rfl) ?_
    refine gt_5_0 C w kw_1_16 dX5_yaw_17 ?_
    refine gn_4_3 C w ⟨by decide, by decide⟩ kn_18 dX5_yaw_20 ?_
    refine lv_goto (tgt := 33) hx hb dX5_yaw_23 (by decide) ?_
    exact t_X5_yaw_33 C M2 (M2 1 3)  w (lv_sub hl [] rfl) h
  replace h := h.1 c3
  refine lv_ldc hx hb C.1.2.2.2.1 (C.ws kw_25_9) dX5_yaw_9 ?_
  exact ret_i C w h dX5_yaw_11
def j_X6_yaw_23 (post : Int32 → Mem → Prop) (M : Mem) (y0 : Int32) : Prop := post y0 M
def q_X6_yaw (M : Mem) (x1 : Int32) (post : Int32 → Mem → Prop) : Prop := q_X6_isIn M x1.toInt64 (0 : Int64) (1 : Int64) (fun r1 M2 => (r1 = 0 → (j_X6_yaw_23 post M2 (-1000000001 : Int32))) ∧ (¬ (r1 = 0) → (vp_in ((3 : Int32) + x1) 54 ∧ (j_X6_yaw_23 post M2 (M2 58 ((3 : Int32) + x1).toNatClampNeg)))))
set_option maxHeartbeats 4000000 in
set_option maxRecDepth 100000 in
theorem t_X6_yaw_23 (C : Cx G p s m args meth c RX6 cX6_yaw 2 (some .int)) {post : Int32 → Mem → Prop} (M : Mem) (y0 : Int32) {H : Heap} {locs : List Loc} {ls : Array Slot} (w : Wd G s M H locs) (hl : lv_has ls 2 []) (h : j_X6_yaw_23 post M y0) : W p l e (rmk 2) s m args below meth c H locs 0 0 (MQ below (va_Qi post (Qw G) (Af G s.heap.size)) args s 0 0 (Af G s.heap.size)) (F0 m 23 ls [.int y0]) := by
  have hx := C.1.1
  have hb := C.1.2.1
  unfold j_X6_yaw_23 at h
  exact ret_i C w h dX6_yaw_23
set_option maxHeartbeats 4000000 in
set_option maxRecDepth 100000 in
theorem c_X6_yaw (l : Launch) (G : GG) (hG : Ag G) (sz : Nat) (M : Mem) (x1 : Int32) (post : Int32 → Mem → Prop) (h : q_X6_yaw M x1 post) : Met l yX6_yaw (Cond.code yX6_yaw cX6_yaw 2 (some .int) :: wsL_law) (rmk 2) (va_Pc [.ref (ga G 57), .int x1] (Pw G sz M)) (va_Qi post (Qw G) (Af G sz)) 0 0 (Af G sz) := by
  refine Met.ofW (cc := cX6_yaw) (maxL := 2) (ret := (some .int)) (by decide) rfl ?_
  intro p e s m args below meth c s₁ B hml hv
  obtain ⟨rfl, hsz, hE, hP⟩ := hv
  subst hsz
  have C := Cx.of (own := RX6) hG hE rfl hml B
  have w : Wd G s M s.heap [] := ⟨hP, va_S.rf⟩
  have hl := lv_entry [.ref (ga G 57), .int x1] (n := 2) (Nat.le_of_ble_eq_true rfl)
  rw [lg_entry_eq]
  generalize (lg_sl [.ref (ga G 57), .int x1] ++ List.replicate (2 - (lg_sl [.ref (ga G 57), .int x1]).length) Slot.unset).toArray = ls at hl ⊢
  have hl : lv_has ls 2 [(0, .ref (ga G 57)), (1, .int x1)] := hl
  have hx := C.1.1
  have hb := C.1.2.1
  show W p l e (rmk 2) s m _ below meth c s.heap [] 0 0 _ _
  unfold q_X6_yaw at h
  refine lv_iload_n hx hb dX6_yaw_0 rfl (lv_at hl 1 rfl) ?_
  refine lv_i2l hx hb dX6_yaw_1 rfl ?_
  refine lv_lconst (v := 0) hx hb dX6_yaw_2 (by decide) ?_
  refine lv_lconst (v := 1) hx hb dX6_yaw_3 (by decide) ?_
  refine end_i w (run_S (As := [.long x1.toInt64, .long (0 : Int64), .long (1 : Int64)]) C w hl.1 (c_X6_isIn l G C.2.2.1 _ _ x1.toInt64 (0 : Int64) (1 : Int64)  _ h) kw_12_5 kw_1_5 kw_12_3 kw_12_4 hd_X6_isIn ⟨by decide, by decide⟩ rfl (Nat.le_of_ble_eq_true rfl) dX6_yaw_4) (fun r1 M2 H locs h w => ?_)
  refine lv_if_eq (tgt := 21) hx hb dX6_yaw_7 (by decide) (fun c3 => ?_) (fun c3 => ?_)
  · replace h := h.1 c3
    refine lv_ldc hx hb C.1.2.2.2.1 (C.ws kw_25_15) dX6_yaw_21 ?_
    exact t_X6_yaw_23 C M2 (-1000000001 : Int32)  w (lv_sub hl [] rfl) h
  replace h := h.2 c3
  refine lv_aload_n hx hb dX6_yaw_10 rfl (lv_at hl 0 rfl) ?_
  refine gt_6_0 C w kw_5_0 dX6_yaw_11 ?_
  refine lv_iconst (v := 3) hx hb dX6_yaw_14 (by decide) ?_
  refine lv_iload_n hx hb dX6_yaw_15 rfl (lv_at hl 1 rfl) ?_
  refine lv_iadd hx hb dX6_yaw_16 ?_
  have hin4 := h.1
  replace h := h.2
  have hz_hin4 := in_lt hin4
  refine pw_ld C w (i := 58) (by decide) pE_58 hin4 rfl dX6_yaw_17 ?_
  refine lv_goto (tgt := 23) hx hb dX6_yaw_18 (by decide) ?_
  exact t_X6_yaw_23 C M2 (M2 58 ((3 : Int32) + x1).toNatClampNeg)  w (lv_sub hl [] rfl) h
def q_X4_passYaw (M : Mem) (a0 : Nat) (post : Mem → Prop) : Prop := ∀ v1 : Int32, v1 = (((M a0 3) * (((M (10 + a0) 2) - (M (10 + a0) 5)) - (M (10 + a0) 6))) / (10 : Int32)) → (¬ (if (1 : Int32) < ((4 : Int32) + (M (10 + a0) 6)) then ((4 : Int32) + (M (10 + a0) 6)) else (1 : Int32)) = 0 ∧ (∀ v2 : Int32, v2 = ((M a0 4) / (if (1 : Int32) < ((4 : Int32) + (M (10 + a0) 6)) then ((4 : Int32) + (M (10 + a0) 6)) else (1 : Int32))) → (∀ v3 : Int32, v3 = (((M a0 3) * (M (10 + a0) 4)) / (20 : Int32)) → (q_X5_heldWithin M ((((M a0 4) + v1) - v2) - v3) (-999 : Int32) (999 : Int32) (fun r4 M5 => ∀ M6 : Mem, M6 = (mup M5 a0 4 r4) → (q_X5_heldWithin M6 ((M6 a0 3) + ((M6 a0 4) / (10 : Int32))) (-999 : Int32) (999 : Int32) (fun r7 M8 => ∀ M9 : Mem, M9 = (mup M8 a0 3 r7) → (post M9))))))))
set_option maxHeartbeats 4000000 in
set_option maxRecDepth 100000 in
theorem c_X4_passYaw (l : Launch) (G : GG) (hG : Ag G) (sz : Nat) (M : Mem) (a0 : Nat) (ha0 : 1 ≤ a0 ∧ a0 < 4) (post : Mem → Prop) (h : q_X4_passYaw M a0 post) : Met l yX4_passYaw (Cond.code yX4_passYaw cX4_passYaw 5 none :: wsL_law) (rmk 2) (va_Pc [.ref (ga G a0)] (Pw G sz M)) (va_Qv post (Qw G) (Af G sz)) 0 0 (Af G sz) := by
  refine Met.ofW (cc := cX4_passYaw) (maxL := 5) (ret := none) (by decide) rfl ?_
  intro p e s m args below meth c s₁ B hml hv
  obtain ⟨rfl, hsz, hE, hP⟩ := hv
  subst hsz
  have C := Cx.of (own := RX4) hG hE rfl hml B
  have w : Wd G s M s.heap [] := ⟨hP, va_S.rf⟩
  have hl := lv_entry [.ref (ga G a0)] (n := 5) (Nat.le_of_ble_eq_true rfl)
  rw [lg_entry_eq]
  generalize (lg_sl [.ref (ga G a0)] ++ List.replicate (5 - (lg_sl [.ref (ga G a0)]).length) Slot.unset).toArray = ls at hl ⊢
  have hl : lv_has ls 5 [(0, .ref (ga G a0))] := hl
  have hx := C.1.1
  have hb := C.1.2.1
  show W p l e (rmk 2) s m _ below meth c s.heap [] 0 0 _ _
  unfold q_X4_passYaw at h
  refine lv_aload_n hx hb dX4_passYaw_0 rfl (lv_at hl 0 rfl) ?_
  refine gt_4_2 C w ha0 kw_3_0 dX4_passYaw_1 ?_
  refine lv_bipush (v := 6) hx hb dX4_passYaw_4 (by decide) ?_
  refine pw_ld C w (i := (10 + a0)) (by omega) (pE_st (by omega)) (vl (x := (6 : Int32)) (by decide)) (k := 6) (by decide) dX4_passYaw_6 ?_
  refine lv_istore_n (lv' := [(1, .int (M (10 + a0) 6)), (0, .ref (ga G a0))]) hx hb dX4_passYaw_7 rfl hl (by decide) rfl (fun ls hl => ?_)
  refine lv_aload_n hx hb dX4_passYaw_8 rfl (lv_at hl 1 rfl) ?_
  refine gt_4_3 C w ha0 kw_3_1 dX4_passYaw_9 ?_
  refine lv_aload_n hx hb dX4_passYaw_12 rfl (lv_at hl 1 rfl) ?_
  refine gt_4_2 C w ha0 kw_3_0 dX4_passYaw_13 ?_
  refine lv_iconst (v := 2) hx hb dX4_passYaw_16 (by decide) ?_
  refine pw_ld C w (i := (10 + a0)) (by omega) (pE_st (by omega)) (vl (x := (2 : Int32)) (by decide)) (k := 2) (by decide) dX4_passYaw_17 ?_
  refine lv_aload_n hx hb dX4_passYaw_18 rfl (lv_at hl 1 rfl) ?_
  refine gt_4_2 C w ha0 kw_3_0 dX4_passYaw_19 ?_
  refine lv_iconst (v := 5) hx hb dX4_passYaw_22 (by decide) ?_
  refine pw_ld C w (i := (10 + a0)) (by omega) (pE_st (by omega)) (vl (x := (5 : Int32)) (by decide)) (k := 5) (by decide) dX4_passYaw_23 ?_
  refine lv_isub hx hb dX4_passYaw_24 ?_
  refine lv_iload_n hx hb dX4_passYaw_25 rfl (lv_at hl 0 rfl) ?_
  refine lv_isub hx hb dX4_passYaw_26 ?_
  refine lv_imul hx hb dX4_passYaw_27 ?_
  refine lv_bipush (v := 10) hx hb dX4_passYaw_28 (by decide) ?_
  refine lv_idiv hx hb dX4_passYaw_30 (by decide) ?_
  refine lv_topi (fun v1 ev1 => ?_)
  replace h := h v1 ev1
  refine lv_istore_n (lv' := [(2, .int v1), (1, .int (M (10 + a0) 6)), (0, .ref (ga G a0))]) hx hb dX4_passYaw_31 rfl hl (by decide) rfl (fun ls hl => ?_)
  refine lv_aload_n hx hb dX4_passYaw_32 rfl (lv_at hl 2 rfl) ?_
  refine gt_4_4 C w ha0 kw_3_2 dX4_passYaw_33 ?_
  refine lv_iconst (v := 1) hx hb dX4_passYaw_36 (by decide) ?_
  refine lv_iconst (v := 4) hx hb dX4_passYaw_37 (by decide) ?_
  refine lv_iload_n hx hb dX4_passYaw_38 rfl (lv_at hl 1 rfl) ?_
  refine lv_iadd hx hb dX4_passYaw_39 ?_
  refine va_mmax hx hb (C.ml hl) C.1.2.2.2.1 (C.ws kw_28_18) (C.ws kw_16_11) (C.ws kw_16_12) (C.ws kw_16_13) (Nat.le_of_ble_eq_true rfl) (Nat.le_of_ble_eq_true rfl) (Nat.le_refl 0) (Nat.le_refl 0) dX4_passYaw_40 ?_
  refine lv_idiv hx hb dX4_passYaw_43 h.1 ?_
  replace h := h.2
  refine lv_topi (fun v2 ev2 => ?_)
  replace h := h v2 ev2
  refine lv_istore_n (lv' := [(3, .int v2), (2, .int v1), (1, .int (M (10 + a0) 6)), (0, .ref (ga G a0))]) hx hb dX4_passYaw_44 rfl hl (by decide) rfl (fun ls hl => ?_)
  refine lv_aload_n hx hb dX4_passYaw_45 rfl (lv_at hl 3 rfl) ?_
  refine gt_4_3 C w ha0 kw_3_1 dX4_passYaw_46 ?_
  refine lv_aload_n hx hb dX4_passYaw_49 rfl (lv_at hl 3 rfl) ?_
  refine gt_4_2 C w ha0 kw_3_0 dX4_passYaw_50 ?_
  refine lv_iconst (v := 4) hx hb dX4_passYaw_53 (by decide) ?_
  refine pw_ld C w (i := (10 + a0)) (by omega) (pE_st (by omega)) (vl (x := (4 : Int32)) (by decide)) (k := 4) (by decide) dX4_passYaw_54 ?_
  refine lv_imul hx hb dX4_passYaw_55 ?_
  refine lv_bipush (v := 20) hx hb dX4_passYaw_56 (by decide) ?_
  refine lv_idiv hx hb dX4_passYaw_58 (by decide) ?_
  refine lv_topi (fun v3 ev3 => ?_)
  replace h := h v3 ev3
  refine lv_istore (lv' := [(4, .int v3), (3, .int v2), (2, .int v1), (1, .int (M (10 + a0) 6)), (0, .ref (ga G a0))]) hx hb dX4_passYaw_59 hl (by decide) rfl (fun ls hl => ?_)
  refine lv_aload_n hx hb dX4_passYaw_61 rfl (lv_at hl 4 rfl) ?_
  refine lv_aload_n hx hb dX4_passYaw_62 rfl (lv_at hl 4 rfl) ?_
  refine gt_4_4 C w ha0 kw_3_2 dX4_passYaw_63 ?_
  refine lv_iload_n hx hb dX4_passYaw_66 rfl (lv_at hl 2 rfl) ?_
  refine lv_iadd hx hb dX4_passYaw_67 ?_
  refine lv_iload_n hx hb dX4_passYaw_68 rfl (lv_at hl 1 rfl) ?_
  refine lv_isub hx hb dX4_passYaw_69 ?_
  refine lv_iload hx hb dX4_passYaw_70 (lv_at hl 0 rfl) ?_
  refine lv_isub hx hb dX4_passYaw_72 ?_
  refine lv_sipush (v := -999) hx hb dX4_passYaw_73 (by decide) ?_
  refine lv_sipush (v := 999) hx hb dX4_passYaw_76 (by decide) ?_
  refine end_i w (run_SN (As := [.int ((((M a0 4) + v1) - v2) - v3), .int (-999 : Int32), .int (999 : Int32)]) C w hl.1 (c_X5_heldWithin l G C.2.2.1 _ _ ((((M a0 4) + v1) - v2) - v3) (-999 : Int32) (999 : Int32)  _ h) kw_27_16 kw_1_2 kn_72 kw_27_15 hd_X5_heldWithin ⟨by decide, by decide⟩ rfl (Nat.le_of_ble_eq_true rfl) dX4_passYaw_79) (fun r4 M5 H locs h w => ?_)
  refine pt_4_4 C w ha0 kw_3_2 dX4_passYaw_82 (fun H locs w => ?_)
  obtain ⟨M6, eM6⟩ : ∃ z : Mem, z = (mup M5 a0 4 r4) := ⟨_, rfl⟩
  replace w : Wd G s M6 H locs := by rw [eM6]; exact w
  replace h := h M6 eM6
  refine lv_aload_n hx hb dX4_passYaw_85 rfl (lv_at hl 4 rfl) ?_
  refine lv_aload_n hx hb dX4_passYaw_86 rfl (lv_at hl 4 rfl) ?_
  refine gt_4_3 C w ha0 kw_3_1 dX4_passYaw_87 ?_
  refine lv_aload_n hx hb dX4_passYaw_90 rfl (lv_at hl 4 rfl) ?_
  refine gt_4_4 C w ha0 kw_3_2 dX4_passYaw_91 ?_
  refine lv_bipush (v := 10) hx hb dX4_passYaw_94 (by decide) ?_
  refine lv_idiv hx hb dX4_passYaw_96 (by decide) ?_
  refine lv_iadd hx hb dX4_passYaw_97 ?_
  refine lv_sipush (v := -999) hx hb dX4_passYaw_98 (by decide) ?_
  refine lv_sipush (v := 999) hx hb dX4_passYaw_101 (by decide) ?_
  refine end_i w (run_SN (As := [.int ((M6 a0 3) + ((M6 a0 4) / (10 : Int32))), .int (-999 : Int32), .int (999 : Int32)]) C w hl.1 (c_X5_heldWithin l G C.2.2.1 _ _ ((M6 a0 3) + ((M6 a0 4) / (10 : Int32))) (-999 : Int32) (999 : Int32)  _ h) kw_27_16 kw_1_2 kn_72 kw_27_15 hd_X5_heldWithin ⟨by decide, by decide⟩ rfl (Nat.le_of_ble_eq_true rfl) dX4_passYaw_104) (fun r7 M8 H locs h w => ?_)
  refine pt_4_3 C w ha0 kw_3_1 dX4_passYaw_107 (fun H locs w => ?_)
  obtain ⟨M9, eM9⟩ : ∃ z : Mem, z = (mup M8 a0 3 r7) := ⟨_, rfl⟩
  replace w : Wd G s M9 H locs := by rw [eM9]; exact w
  replace h := h M9 eM9
  exact ret_v C w h dX4_passYaw_110
def b_X4_greatestYaw_4 (k4 : Mem → Nat → Int32 → Int32 → Int32 → Prop) (post : Int32 → Mem → Prop) (M : Mem) (a0 : Nat) (x1 : Int32) (x2 : Int32) (x3 : Int32) : Prop := (x1 ≤ x3 → (post x2 M)) ∧ (¬ (x1 ≤ x3) → (q_X4_passYaw M a0 (fun M3 => ∀ v4 : Int32, v4 = (if x2 < (if 0 ≤ (M3 a0 3) then (M3 a0 3) else 0 - (M3 a0 3)) then (if 0 ≤ (M3 a0 3) then (M3 a0 3) else 0 - (M3 a0 3)) else x2) → (k4 M3 a0 x1 v4 (x3 + (1 : Int32))))))
def lp_X4_greatestYaw_4 (post : Int32 → Mem → Prop) : Nat → Mem → Nat → Int32 → Int32 → Int32 → Prop
  | 0 => fun _ _ _ _ _ => False
  | n + 1 => fun M a0 x1 x2 x3 => b_X4_greatestYaw_4 (lp_X4_greatestYaw_4 post n) post M a0 x1 x2 x3
def q_X4_greatestYaw (M : Mem) (a0 : Nat) (x1 : Int32) (post : Int32 → Mem → Prop) : Prop := ∃ n, lp_X4_greatestYaw_4 post n M a0 x1 (0 : Int32) (0 : Int32)
set_option maxHeartbeats 4000000 in
set_option maxRecDepth 100000 in
theorem t_X4_greatestYaw_4 (C : Cx G p s m args meth c RX4 cX4_greatestYaw 4 (some .int)) {post : Int32 → Mem → Prop} : ∀ (n : Nat) (M : Mem) (a0 : Nat) (x1 : Int32) (x2 : Int32) (x3 : Int32) {H : Heap} {locs : List Loc} {ls : Array Slot} (ha0 : 1 ≤ a0 ∧ a0 < 4) (w : Wd G s M H locs) (hl : lv_has ls 4 [(0, .ref (ga G a0)), (1, .int x1), (2, .int x2), (3, .int x3)]) (h : lp_X4_greatestYaw_4 post n M a0 x1 x2 x3), W p l e (rmk 3) s m args below meth c H locs 0 0 (MQ below (va_Qi post (Qw G) (Af G s.heap.size)) args s 0 0 (Af G s.heap.size)) (F0 m 4 ls []) := by
  have hx := C.1.1
  have hb := C.1.2.1
  intro n9
  induction n9 with
  | zero => intro M a0 x1 x2 x3 H locs ls ha0 w hl h; exact absurd h id
  | succ n9 ih9 =>
    intro M a0 x1 x2 x3 H locs ls ha0 w hl h
    have hk4 : ∀ (M : Mem) (a0 : Nat) (x1 : Int32) (x2 : Int32) (x3 : Int32) (H : Heap) (locs : List Loc) (ls : Array Slot), (1 ≤ a0 ∧ a0 < 4) → Wd G s M H locs → lv_has ls 4 [(0, .ref (ga G a0)), (1, .int x1), (2, .int x2), (3, .int x3)] → lp_X4_greatestYaw_4 post n9 M a0 x1 x2 x3 → W p l e (rmk 3) s m args below meth c H locs 0 0 (MQ below (va_Qi post (Qw G) (Af G s.heap.size)) args s 0 0 (Af G s.heap.size)) (F0 m 4 ls []) := fun M a0 x1 x2 x3 H locs ls ha0 w hl h => ih9 M a0 x1 x2 x3 ha0 w hl h
    replace h : b_X4_greatestYaw_4 (lp_X4_greatestYaw_4 post n9) post M a0 x1 x2 x3 := h
    unfold b_X4_greatestYaw_4 at h
    refine lv_iload_n hx hb dX4_greatestYaw_4 rfl (lv_at hl 3 rfl) ?_
    refine lv_iload_n hx hb dX4_greatestYaw_5 rfl (lv_at hl 1 rfl) ?_
    refine lv_icmp_ge (tgt := 31) hx hb dX4_greatestYaw_6 (by decide) (fun c1 => ?_) (fun c1 => ?_)
    · replace h := h.1 c1
      refine lv_iload_n hx hb dX4_greatestYaw_31 rfl (lv_at hl 2 rfl) ?_
      exact ret_i C w h dX4_greatestYaw_32
    replace h := h.2 c1
    refine lv_aload_n hx hb dX4_greatestYaw_9 rfl (lv_at hl 0 rfl) ?_
    refine end_v w (run_V (As := []) C w hl.1 (c_X4_passYaw l G C.2.2.1 _ _ a0 ha0 _ h) kw_28_22 kw_1_15 kw_28_19 kw_28_20 kw_28_21 hd_X4_passYaw ⟨by decide, by decide⟩ (w.recv C (i := a0) (by omega) (pE_4 ha0) rfl) rfl (Nat.le_of_ble_eq_true rfl) dX4_greatestYaw_10) (fun M3 H locs h w => ?_)
    refine lv_iload_n hx hb dX4_greatestYaw_13 rfl (lv_at hl 2 rfl) ?_
    refine lv_aload_n hx hb dX4_greatestYaw_14 rfl (lv_at hl 0 rfl) ?_
    refine gt_4_3 C w ha0 kw_3_1 dX4_greatestYaw_15 ?_
    refine va_mabs hx hb (C.ml hl) C.1.2.2.2.1 (C.ws kw_28_17) (C.ws kw_18_16) (C.ws kw_16_12) (C.ws kw_18_17) (Nat.le_of_ble_eq_true rfl) (Nat.le_of_ble_eq_true rfl) (Nat.le_refl 0) (Nat.le_refl 0) dX4_greatestYaw_18 ?_
    refine va_mmax hx hb (C.ml hl) C.1.2.2.2.1 (C.ws kw_28_18) (C.ws kw_16_11) (C.ws kw_16_12) (C.ws kw_16_13) (Nat.le_of_ble_eq_true rfl) (Nat.le_of_ble_eq_true rfl) (Nat.le_refl 0) (Nat.le_refl 0) dX4_greatestYaw_21 ?_
    refine lv_topi (fun v4 ev4 => ?_)
    replace h := h v4 ev4
    refine lv_istore_n (lv' := [(2, .int v4), (0, .ref (ga G a0)), (1, .int x1), (3, .int x3)]) hx hb dX4_greatestYaw_24 rfl hl (by decide) rfl (fun ls hl => ?_)
    refine lv_iinc (v := (x3 + (1 : Int32))) (lv' := [(3, .int (x3 + (1 : Int32))), (2, .int v4), (0, .ref (ga G a0)), (1, .int x1)]) hx hb dX4_greatestYaw_25 hl (k := 3) rfl rfl (by decide) rfl (fun ls hl => ?_)
    refine lv_goto (tgt := 4) hx hb dX4_greatestYaw_28 (by decide) ?_
    exact hk4 M3 a0 x1 v4 (x3 + (1 : Int32)) _ _ _ ha0 w (lv_sub hl [2, 3, 1, 0] rfl) h
set_option maxHeartbeats 4000000 in
set_option maxRecDepth 100000 in
theorem c_X4_greatestYaw (l : Launch) (G : GG) (hG : Ag G) (sz : Nat) (M : Mem) (a0 : Nat) (x1 : Int32) (ha0 : 1 ≤ a0 ∧ a0 < 4) (post : Int32 → Mem → Prop) (h : q_X4_greatestYaw M a0 x1 post) : Met l yX4_greatestYaw (Cond.code yX4_greatestYaw cX4_greatestYaw 4 (some .int) :: wsL_law) (rmk 3) (va_Pc [.ref (ga G a0), .int x1] (Pw G sz M)) (va_Qi post (Qw G) (Af G sz)) 0 0 (Af G sz) := by
  refine Met.ofW (cc := cX4_greatestYaw) (maxL := 4) (ret := (some .int)) (by decide) rfl ?_
  intro p e s m args below meth c s₁ B hml hv
  obtain ⟨rfl, hsz, hE, hP⟩ := hv
  subst hsz
  have C := Cx.of (own := RX4) hG hE rfl hml B
  have w : Wd G s M s.heap [] := ⟨hP, va_S.rf⟩
  have hl := lv_entry [.ref (ga G a0), .int x1] (n := 4) (Nat.le_of_ble_eq_true rfl)
  rw [lg_entry_eq]
  generalize (lg_sl [.ref (ga G a0), .int x1] ++ List.replicate (4 - (lg_sl [.ref (ga G a0), .int x1]).length) Slot.unset).toArray = ls at hl ⊢
  have hl : lv_has ls 4 [(0, .ref (ga G a0)), (1, .int x1)] := hl
  have hx := C.1.1
  have hb := C.1.2.1
  show W p l e (rmk 3) s m _ below meth c s.heap [] 0 0 _ _
  unfold q_X4_greatestYaw at h
  refine lv_iconst (v := 0) hx hb dX4_greatestYaw_0 (by decide) ?_
  refine lv_istore_n (lv' := [(2, .int (0 : Int32)), (0, .ref (ga G a0)), (1, .int x1)]) hx hb dX4_greatestYaw_1 rfl hl (by decide) rfl (fun ls hl => ?_)
  refine lv_iconst (v := 0) hx hb dX4_greatestYaw_2 (by decide) ?_
  refine lv_istore_n (lv' := [(3, .int (0 : Int32)), (2, .int (0 : Int32)), (0, .ref (ga G a0)), (1, .int x1)]) hx hb dX4_greatestYaw_3 rfl hl (by decide) rfl (fun ls hl => ?_)
  obtain ⟨n, h⟩ := h
  exact t_X4_greatestYaw_4 C n M a0 x1 (0 : Int32) (0 : Int32) ha0 w (lv_sub hl [2, 3, 1, 0] rfl) h
end WALK
