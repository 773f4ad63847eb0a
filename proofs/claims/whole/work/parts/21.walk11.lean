theorem dX3_leastOfSort_0 : decode cX3_leastOfSort 0 = .ok (.aload_n 0, 1) := by decide +kernel
theorem dX3_leastOfSort_1 : decode cX3_leastOfSort 1 = .ok (.getfield 22, 3) := by decide +kernel
theorem dX3_leastOfSort_4 : decode cX3_leastOfSort 4 = .ok (.lookupswitch 35 #[(0, 28), (1, 31)], 28) := by decide +kernel
theorem dX3_leastOfSort_32 : decode cX3_leastOfSort 32 = .ok (.bipush (-128), 2) := by decide +kernel
theorem dX3_leastOfSort_34 : decode cX3_leastOfSort 34 = .ok (.ireturn, 1) := by decide +kernel
theorem dX3_leastOfSort_35 : decode cX3_leastOfSort 35 = .ok (.sipush (-32768), 3) := by decide +kernel
theorem dX3_leastOfSort_38 : decode cX3_leastOfSort 38 = .ok (.ireturn, 1) := by decide +kernel
theorem dX3_leastOfSort_39 : decode cX3_leastOfSort 39 = .ok (.ldc 46, 2) := by decide +kernel
theorem dX3_leastOfSort_41 : decode cX3_leastOfSort 41 = .ok (.ireturn, 1) := by decide +kernel
theorem dX5_judge_0 : decode cX5_judge 0 = .ok (.aload_n 0, 1) := by decide +kernel
theorem dX5_judge_1 : decode cX5_judge 1 = .ok (.iload_n 1, 1) := by decide +kernel
theorem dX5_judge_2 : decode cX5_judge 2 = .ok (.invokevirtual 229, 3) := by decide +kernel
theorem dX5_judge_5 : decode cX5_judge 5 = .ok (.istore_n 2, 1) := by decide +kernel
theorem dX5_judge_6 : decode cX5_judge 6 = .ok (.iload_n 2, 1) := by decide +kernel
theorem dX5_judge_7 : decode cX5_judge 7 = .ok (.ifCond .ge 5, 3) := by decide +kernel
theorem dX5_judge_10 : decode cX5_judge 10 = .ok (.iload_n 2, 1) := by decide +kernel
theorem dX5_judge_11 : decode cX5_judge 11 = .ok (.ireturn, 1) := by decide +kernel
theorem dX5_judge_12 : decode cX5_judge 12 = .ok (.aload_n 0, 1) := by decide +kernel
theorem dX5_judge_13 : decode cX5_judge 13 = .ok (.invokevirtual 110, 3) := by decide +kernel
theorem dX5_judge_16 : decode cX5_judge 16 = .ok (.ifCond .ne 6, 3) := by decide +kernel
theorem dX5_judge_19 : decode cX5_judge 19 = .ok (.bipush (-3), 2) := by decide +kernel
theorem dX5_judge_21 : decode cX5_judge 21 = .ok (.ireturn, 1) := by decide +kernel
theorem dX5_judge_22 : decode cX5_judge 22 = .ok (.aload_n 0, 1) := by decide +kernel
theorem dX5_judge_23 : decode cX5_judge 23 = .ok (.getfield 45, 3) := by decide +kernel
theorem dX5_judge_26 : decode cX5_judge 26 = .ok (.iload_n 1, 1) := by decide +kernel
theorem dX5_judge_27 : decode cX5_judge 27 = .ok (.aaload, 1) := by decide +kernel
theorem dX5_judge_28 : decode cX5_judge 28 = .ok (.astore_n 3, 1) := by decide +kernel
theorem dX5_judge_29 : decode cX5_judge 29 = .ok (.aload_n 3, 1) := by decide +kernel
theorem dX5_judge_30 : decode cX5_judge 30 = .ok (.invokevirtual 232, 3) := by decide +kernel
theorem dX5_judge_33 : decode cX5_judge 33 = .ok (.istore 4, 2) := by decide +kernel
theorem dX5_judge_35 : decode cX5_judge 35 = .ok (.iconst 0, 1) := by decide +kernel
theorem dX5_judge_36 : decode cX5_judge 36 = .ok (.istore 5, 2) := by decide +kernel
theorem dX5_judge_38 : decode cX5_judge 38 = .ok (.iload 5, 2) := by decide +kernel
theorem dX5_judge_40 : decode cX5_judge 40 = .ok (.aload_n 3, 1) := by decide +kernel
theorem dX5_judge_41 : decode cX5_judge 41 = .ok (.getfield 235, 3) := by decide +kernel
theorem dX5_judge_44 : decode cX5_judge 44 = .ok (.if_icmp .ge 42, 3) := by decide +kernel
theorem dX5_judge_47 : decode cX5_judge 47 = .ok (.aload_n 3, 1) := by decide +kernel
theorem dX5_judge_48 : decode cX5_judge 48 = .ok (.getfield 238, 3) := by decide +kernel
theorem dX5_judge_51 : decode cX5_judge 51 = .ok (.iload 5, 2) := by decide +kernel
theorem dX5_judge_53 : decode cX5_judge 53 = .ok (.iaload, 1) := by decide +kernel
theorem dX5_judge_54 : decode cX5_judge 54 = .ok (.istore 6, 2) := by decide +kernel
theorem dX5_judge_56 : decode cX5_judge 56 = .ok (.iload 6, 2) := by decide +kernel
theorem dX5_judge_58 : decode cX5_judge 58 = .ok (.iload 4, 2) := by decide +kernel
theorem dX5_judge_60 : decode cX5_judge 60 = .ok (.if_icmp .eq 20, 3) := by decide +kernel
theorem dX5_judge_63 : decode cX5_judge 63 = .ok (.iload 6, 2) := by decide +kernel
theorem dX5_judge_65 : decode cX5_judge 65 = .ok (.aload_n 0, 1) := by decide +kernel
theorem dX5_judge_66 : decode cX5_judge 66 = .ok (.getfield 25, 3) := by decide +kernel
theorem dX5_judge_69 : decode cX5_judge 69 = .ok (.iload 5, 2) := by decide +kernel
theorem dX5_judge_71 : decode cX5_judge 71 = .ok (.invokevirtual 136, 3) := by decide +kernel
theorem dX5_judge_74 : decode cX5_judge 74 = .ok (.if_icmp .eq 6, 3) := by decide +kernel
theorem dX5_judge_77 : decode cX5_judge 77 = .ok (.iload 5, 2) := by decide +kernel
theorem dX5_judge_79 : decode cX5_judge 79 = .ok (.ireturn, 1) := by decide +kernel
theorem dX5_judge_80 : decode cX5_judge 80 = .ok (.iinc 5 1, 3) := by decide +kernel
theorem dX5_judge_83 : decode cX5_judge 83 = .ok (.goto (-45), 3) := by decide +kernel
theorem dX5_judge_86 : decode cX5_judge 86 = .ok (.bipush (-4), 2) := by decide +kernel
theorem dX5_judge_88 : decode cX5_judge 88 = .ok (.ireturn, 1) := by decide +kernel
theorem dX6_leastNumber_0 : decode cX6_leastNumber 0 = .ok (.aload_n 0, 1) := by decide +kernel
theorem dX6_leastNumber_1 : decode cX6_leastNumber 1 = .ok (.getfield 25, 3) := by decide +kernel
theorem dX6_leastNumber_4 : decode cX6_leastNumber 4 = .ok (.iload_n 1, 1) := by decide +kernel
theorem dX6_leastNumber_5 : decode cX6_leastNumber 5 = .ok (.iaload, 1) := by decide +kernel
theorem dX6_leastNumber_6 : decode cX6_leastNumber 6 = .ok (.ifCond .ne 8, 3) := by decide +kernel
theorem dX6_leastNumber_9 : decode cX6_leastNumber 9 = .ok (.bipush (-128), 2) := by decide +kernel
theorem dX6_leastNumber_11 : decode cX6_leastNumber 11 = .ok (.goto 21, 3) := by decide +kernel
theorem dX6_leastNumber_14 : decode cX6_leastNumber 14 = .ok (.aload_n 0, 1) := by decide +kernel
theorem dX6_leastNumber_15 : decode cX6_leastNumber 15 = .ok (.getfield 25, 3) := by decide +kernel
theorem dX6_leastNumber_18 : decode cX6_leastNumber 18 = .ok (.iload_n 1, 1) := by decide +kernel
theorem dX6_leastNumber_19 : decode cX6_leastNumber 19 = .ok (.iaload, 1) := by decide +kernel
theorem dX6_leastNumber_20 : decode cX6_leastNumber 20 = .ok (.iconst 1, 1) := by decide +kernel
theorem dX6_leastNumber_21 : decode cX6_leastNumber 21 = .ok (.if_icmp .ne 9, 3) := by decide +kernel
theorem dX6_leastNumber_24 : decode cX6_leastNumber 24 = .ok (.sipush (-32768), 3) := by decide +kernel
theorem dX6_leastNumber_27 : decode cX6_leastNumber 27 = .ok (.goto 5, 3) := by decide +kernel
theorem dX6_leastNumber_30 : decode cX6_leastNumber 30 = .ok (.ldc 248, 2) := by decide +kernel
theorem dX6_leastNumber_32 : decode cX6_leastNumber 32 = .ok (.ireturn, 1) := by decide +kernel
theorem dX6_judge_0 : decode cX6_judge 0 = .ok (.aload_n 0, 1) := by decide +kernel
theorem dX6_judge_1 : decode cX6_judge 1 = .ok (.iload_n 1, 1) := by decide +kernel
theorem dX6_judge_2 : decode cX6_judge 2 = .ok (.iconst (-1), 1) := by decide +kernel
theorem dX6_judge_3 : decode cX6_judge 3 = .ok (.invokevirtual 97, 3) := by decide +kernel
theorem dX6_judge_6 : decode cX6_judge 6 = .ok (.istore_n 2, 1) := by decide +kernel
theorem dX6_judge_7 : decode cX6_judge 7 = .ok (.iload_n 2, 1) := by decide +kernel
theorem dX6_judge_8 : decode cX6_judge 8 = .ok (.ifCond .ne 13, 3) := by decide +kernel
theorem dX6_judge_11 : decode cX6_judge 11 = .ok (.aload_n 0, 1) := by decide +kernel
theorem dX6_judge_12 : decode cX6_judge 12 = .ok (.invokevirtual 170, 3) := by decide +kernel
theorem dX6_judge_15 : decode cX6_judge 15 = .ok (.ifCond .ne 6, 3) := by decide +kernel
theorem dX6_judge_18 : decode cX6_judge 18 = .ok (.bipush (-3), 2) := by decide +kernel
theorem dX6_judge_20 : decode cX6_judge 20 = .ok (.istore_n 2, 1) := by decide +kernel
theorem dX6_judge_21 : decode cX6_judge 21 = .ok (.iload_n 2, 1) := by decide +kernel
theorem dX6_judge_22 : decode cX6_judge 22 = .ok (.ifCond .eq 5, 3) := by decide +kernel
theorem dX6_judge_25 : decode cX6_judge 25 = .ok (.iload_n 2, 1) := by decide +kernel
theorem dX6_judge_26 : decode cX6_judge 26 = .ok (.ireturn, 1) := by decide +kernel
theorem dX6_judge_27 : decode cX6_judge 27 = .ok (.aload_n 0, 1) := by decide +kernel
theorem dX6_judge_28 : decode cX6_judge 28 = .ok (.aload_n 0, 1) := by decide +kernel
theorem dX6_judge_29 : decode cX6_judge 29 = .ok (.invokevirtual 173, 3) := by decide +kernel
theorem dX6_judge_32 : decode cX6_judge 32 = .ok (.invokevirtual 176, 3) := by decide +kernel
theorem dX6_judge_35 : decode cX6_judge 35 = .ok (.iconst 0, 1) := by decide +kernel
theorem dX6_judge_36 : decode cX6_judge 36 = .ok (.istore_n 3, 1) := by decide +kernel
theorem dX6_judge_37 : decode cX6_judge 37 = .ok (.iload_n 3, 1) := by decide +kernel
theorem dX6_judge_38 : decode cX6_judge 38 = .ok (.aload_n 0, 1) := by decide +kernel
theorem dX6_judge_39 : decode cX6_judge 39 = .ok (.getfield 28, 3) := by decide +kernel
theorem dX6_judge_42 : decode cX6_judge 42 = .ok (.iload_n 1, 1) := by decide +kernel
theorem dX6_judge_43 : decode cX6_judge 43 = .ok (.iaload, 1) := by decide +kernel
theorem dX6_judge_44 : decode cX6_judge 44 = .ok (.if_icmp .ge 50, 3) := by decide +kernel
theorem dX6_judge_47 : decode cX6_judge 47 = .ok (.aload_n 0, 1) := by decide +kernel
theorem dX6_judge_48 : decode cX6_judge 48 = .ok (.getfield 31, 3) := by decide +kernel
theorem dX6_judge_51 : decode cX6_judge 51 = .ok (.bipush 100, 2) := by decide +kernel
theorem dX6_judge_53 : decode cX6_judge 53 = .ok (.iload_n 1, 1) := by decide +kernel
theorem dX6_judge_54 : decode cX6_judge 54 = .ok (.imul, 1) := by decide +kernel
theorem dX6_judge_55 : decode cX6_judge 55 = .ok (.iload_n 3, 1) := by decide +kernel
theorem dX6_judge_56 : decode cX6_judge 56 = .ok (.iadd, 1) := by decide +kernel
theorem dX6_judge_57 : decode cX6_judge 57 = .ok (.iaload, 1) := by decide +kernel
theorem dX6_judge_58 : decode cX6_judge 58 = .ok (.istore 4, 2) := by decide +kernel
theorem dX6_judge_60 : decode cX6_judge 60 = .ok (.iload 4, 2) := by decide +kernel
theorem dX6_judge_62 : decode cX6_judge 62 = .ok (.aload_n 0, 1) := by decide +kernel
theorem dX6_judge_63 : decode cX6_judge 63 = .ok (.iload_n 1, 1) := by decide +kernel
theorem dX6_judge_64 : decode cX6_judge 64 = .ok (.invokevirtual 249, 3) := by decide +kernel
theorem dX6_judge_67 : decode cX6_judge 67 = .ok (.if_icmp .eq 21, 3) := by decide +kernel
theorem dX6_judge_70 : decode cX6_judge 70 = .ok (.iload 4, 2) := by decide +kernel
theorem dX6_judge_72 : decode cX6_judge 72 = .ok (.aload_n 0, 1) := by decide +kernel
theorem dX6_judge_73 : decode cX6_judge 73 = .ok (.iload_n 3, 1) := by decide +kernel
theorem dX6_judge_74 : decode cX6_judge 74 = .ok (.aload_n 0, 1) := by decide +kernel
theorem dX6_judge_75 : decode cX6_judge 75 = .ok (.getfield 9, 3) := by decide +kernel
theorem dX6_judge_78 : decode cX6_judge 78 = .ok (.iconst 5, 1) := by decide +kernel
theorem dX6_judge_79 : decode cX6_judge 79 = .ok (.iaload, 1) := by decide +kernel
theorem dX6_judge_80 : decode cX6_judge 80 = .ok (.invokevirtual 182, 3) := by decide +kernel
theorem dX6_judge_83 : decode cX6_judge 83 = .ok (.if_icmp .eq 5, 3) := by decide +kernel
theorem dX6_judge_86 : decode cX6_judge 86 = .ok (.iload_n 3, 1) := by decide +kernel
theorem dX6_judge_87 : decode cX6_judge 87 = .ok (.ireturn, 1) := by decide +kernel
theorem dX6_judge_88 : decode cX6_judge 88 = .ok (.iinc 3 1, 3) := by decide +kernel
theorem dX6_judge_91 : decode cX6_judge 91 = .ok (.goto (-54), 3) := by decide +kernel
theorem dX6_judge_94 : decode cX6_judge 94 = .ok (.bipush (-4), 2) := by decide +kernel
theorem dX6_judge_96 : decode cX6_judge 96 = .ok (.ireturn, 1) := by decide +kernel
theorem dX5_image_0 : decode cX5_image 0 = .ok (.aload_n 0, 1) := by decide +kernel
theorem dX5_image_1 : decode cX5_image 1 = .ok (.getfield 16, 3) := by decide +kernel
theorem dX5_image_4 : decode cX5_image 4 = .ok (.aload_n 0, 1) := by decide +kernel
theorem dX5_image_5 : decode cX5_image 5 = .ok (.getfield 10, 3) := by decide +kernel
theorem dX5_image_8 : decode cX5_image 8 = .ok (.invokevirtual 58, 3) := by decide +kernel
theorem dX5_image_11 : decode cX5_image 11 = .ok (.aload_n 0, 1) := by decide +kernel
theorem dX5_image_12 : decode cX5_image 12 = .ok (.iconst 1, 1) := by decide +kernel
theorem dX5_image_13 : decode cX5_image 13 = .ok (.putfield 49, 3) := by decide +kernel
theorem dX5_image_16 : decode cX5_image 16 = .ok (.aload_n 0, 1) := by decide +kernel
theorem dX5_image_17 : decode cX5_image 17 = .ok (.getfield 10, 3) := by decide +kernel
theorem dX5_image_20 : decode cX5_image 20 = .ok (.getfield 241, 3) := by decide +kernel
theorem dX5_image_23 : decode cX5_image 23 = .ok (.ireturn, 1) := by decide +kernel
theorem dX6_image_0 : decode cX6_image 0 = .ok (.aload_n 0, 1) := by decide +kernel
theorem dX6_image_1 : decode cX6_image 1 = .ok (.getfield 9, 3) := by decide +kernel
theorem dX6_image_4 : decode cX6_image 4 = .ok (.aload_n 0, 1) := by decide +kernel
theorem dX6_image_5 : decode cX6_image 5 = .ok (.getfield 13, 3) := by decide +kernel
theorem dX6_image_8 : decode cX6_image 8 = .ok (.invokestatic 104, 3) := by decide +kernel
theorem dX6_image_11 : decode cX6_image 11 = .ok (.aload_n 0, 1) := by decide +kernel
theorem dX6_image_12 : decode cX6_image 12 = .ok (.iconst 1, 1) := by decide +kernel
theorem dX6_image_13 : decode cX6_image 13 = .ok (.putfield 252, 3) := by decide +kernel
theorem dX6_image_16 : decode cX6_image 16 = .ok (.aload_n 0, 1) := by decide +kernel
theorem dX6_image_17 : decode cX6_image 17 = .ok (.getfield 9, 3) := by decide +kernel
theorem dX6_image_20 : decode cX6_image 20 = .ok (.iconst 1, 1) := by decide +kernel
theorem dX6_image_21 : decode cX6_image 21 = .ok (.iaload, 1) := by decide +kernel
theorem dX6_image_22 : decode cX6_image 22 = .ok (.ireturn, 1) := by decide +kernel
theorem dX5_restore_0 : decode cX5_restore 0 = .ok (.aload_n 0, 1) := by decide +kernel
theorem dX5_restore_1 : decode cX5_restore 1 = .ok (.getfield 49, 3) := by decide +kernel
theorem dX5_restore_4 : decode cX5_restore 4 = .ok (.ifCond .ne 6, 3) := by decide +kernel
theorem dX5_restore_7 : decode cX5_restore 7 = .ok (.bipush (-3), 2) := by decide +kernel
theorem dX5_restore_9 : decode cX5_restore 9 = .ok (.ireturn, 1) := by decide +kernel
theorem dX5_restore_10 : decode cX5_restore 10 = .ok (.aload_n 0, 1) := by decide +kernel
theorem dX5_restore_11 : decode cX5_restore 11 = .ok (.getfield 10, 3) := by decide +kernel
theorem dX5_restore_14 : decode cX5_restore 14 = .ok (.aload_n 0, 1) := by decide +kernel
theorem dX5_restore_15 : decode cX5_restore 15 = .ok (.getfield 16, 3) := by decide +kernel
theorem dX5_restore_18 : decode cX5_restore 18 = .ok (.invokevirtual 58, 3) := by decide +kernel
theorem dX5_restore_21 : decode cX5_restore 21 = .ok (.aload_n 0, 1) := by decide +kernel
theorem dX5_restore_22 : decode cX5_restore 22 = .ok (.getfield 10, 3) := by decide +kernel
theorem dX5_restore_25 : decode cX5_restore 25 = .ok (.getfield 241, 3) := by decide +kernel
theorem dX5_restore_28 : decode cX5_restore 28 = .ok (.ireturn, 1) := by decide +kernel
theorem dX6_restore_0 : decode cX6_restore 0 = .ok (.aload_n 0, 1) := by decide +kernel
theorem dX6_restore_1 : decode cX6_restore 1 = .ok (.getfield 252, 3) := by decide +kernel
theorem dX6_restore_4 : decode cX6_restore 4 = .ok (.ifCond .ne 6, 3) := by decide +kernel
theorem dX6_restore_7 : decode cX6_restore 7 = .ok (.bipush (-3), 2) := by decide +kernel
theorem dX6_restore_9 : decode cX6_restore 9 = .ok (.ireturn, 1) := by decide +kernel
theorem dX6_restore_10 : decode cX6_restore 10 = .ok (.aload_n 0, 1) := by decide +kernel
theorem dX6_restore_11 : decode cX6_restore 11 = .ok (.getfield 13, 3) := by decide +kernel
theorem dX6_restore_14 : decode cX6_restore 14 = .ok (.aload_n 0, 1) := by decide +kernel
theorem dX6_restore_15 : decode cX6_restore 15 = .ok (.getfield 9, 3) := by decide +kernel
theorem dX6_restore_18 : decode cX6_restore 18 = .ok (.invokestatic 104, 3) := by decide +kernel
theorem dX6_restore_21 : decode cX6_restore 21 = .ok (.aload_n 0, 1) := by decide +kernel
theorem dX6_restore_22 : decode cX6_restore 22 = .ok (.getfield 9, 3) := by decide +kernel
theorem dX6_restore_25 : decode cX6_restore 25 = .ok (.iconst 1, 1) := by decide +kernel
theorem dX6_restore_26 : decode cX6_restore 26 = .ok (.iaload, 1) := by decide +kernel
theorem dX6_restore_27 : decode cX6_restore 27 = .ok (.ireturn, 1) := by decide +kernel
theorem dX4_hurtOfAll_0 : decode cX4_hurtOfAll 0 = .ok (.iconst 0, 1) := by decide +kernel
theorem dX4_hurtOfAll_1 : decode cX4_hurtOfAll 1 = .ok (.istore_n 1, 1) := by decide +kernel
theorem dX4_hurtOfAll_2 : decode cX4_hurtOfAll 2 = .ok (.iconst 0, 1) := by decide +kernel
theorem dX4_hurtOfAll_3 : decode cX4_hurtOfAll 3 = .ok (.istore_n 2, 1) := by decide +kernel
theorem dX4_hurtOfAll_4 : decode cX4_hurtOfAll 4 = .ok (.iload_n 2, 1) := by decide +kernel
theorem dX4_hurtOfAll_5 : decode cX4_hurtOfAll 5 = .ok (.aload_n 0, 1) := by decide +kernel
theorem dX4_hurtOfAll_6 : decode cX4_hurtOfAll 6 = .ok (.getfield 17, 3) := by decide +kernel
theorem dX4_hurtOfAll_9 : decode cX4_hurtOfAll 9 = .ok (.if_icmp .ge 21, 3) := by decide +kernel
theorem dX4_hurtOfAll_12 : decode cX4_hurtOfAll 12 = .ok (.iload_n 1, 1) := by decide +kernel
theorem dX4_hurtOfAll_13 : decode cX4_hurtOfAll 13 = .ok (.aload_n 0, 1) := by decide +kernel
theorem dX4_hurtOfAll_14 : decode cX4_hurtOfAll 14 = .ok (.getfield 11, 3) := by decide +kernel
theorem dX4_hurtOfAll_17 : decode cX4_hurtOfAll 17 = .ok (.iload_n 2, 1) := by decide +kernel
theorem dX4_hurtOfAll_18 : decode cX4_hurtOfAll 18 = .ok (.aaload, 1) := by decide +kernel
theorem dX4_hurtOfAll_19 : decode cX4_hurtOfAll 19 = .ok (.getfield 98, 3) := by decide +kernel
theorem dX4_hurtOfAll_22 : decode cX4_hurtOfAll 22 = .ok (.iadd, 1) := by decide +kernel
theorem dX4_hurtOfAll_23 : decode cX4_hurtOfAll 23 = .ok (.istore_n 1, 1) := by decide +kernel
theorem dX4_hurtOfAll_24 : decode cX4_hurtOfAll 24 = .ok (.iinc 2 1, 3) := by decide +kernel
theorem dX4_hurtOfAll_27 : decode cX4_hurtOfAll 27 = .ok (.goto (-23), 3) := by decide +kernel
theorem dX4_hurtOfAll_30 : decode cX4_hurtOfAll 30 = .ok (.iload_n 1, 1) := by decide +kernel
theorem dX4_hurtOfAll_31 : decode cX4_hurtOfAll 31 = .ok (.ireturn, 1) := by decide +kernel
theorem dX5_count_0 : decode cX5_count 0 = .ok (.iload_n 1, 1) := by decide +kernel
theorem dX5_count_1 : decode cX5_count 1 = .ok (.tableswitch 85 0 4 #[35, 43, 61, 69, 77], 35) := by decide +kernel
theorem dX5_count_36 : decode cX5_count 36 = .ok (.aload_n 0, 1) := by decide +kernel
theorem dX5_count_37 : decode cX5_count 37 = .ok (.getfield 10, 3) := by decide +kernel
theorem dX5_count_40 : decode cX5_count 40 = .ok (.getfield 162, 3) := by decide +kernel
theorem dX5_count_43 : decode cX5_count 43 = .ok (.ireturn, 1) := by decide +kernel
theorem dX5_count_44 : decode cX5_count 44 = .ok (.aload_n 0, 1) := by decide +kernel
theorem dX5_count_45 : decode cX5_count 45 = .ok (.getfield 10, 3) := by decide +kernel
theorem dX5_count_48 : decode cX5_count 48 = .ok (.getfield 99, 3) := by decide +kernel
theorem dX5_count_51 : decode cX5_count 51 = .ok (.bipush (-4), 2) := by decide +kernel
theorem dX5_count_53 : decode cX5_count 53 = .ok (.if_icmp .ne 7, 3) := by decide +kernel
theorem dX5_count_56 : decode cX5_count 56 = .ok (.iconst 0, 1) := by decide +kernel
theorem dX5_count_57 : decode cX5_count 57 = .ok (.goto 4, 3) := by decide +kernel
theorem dX5_count_60 : decode cX5_count 60 = .ok (.iconst 1, 1) := by decide +kernel
theorem dX5_count_61 : decode cX5_count 61 = .ok (.ireturn, 1) := by decide +kernel
theorem dX5_count_62 : decode cX5_count 62 = .ok (.aload_n 0, 1) := by decide +kernel
theorem dX5_count_63 : decode cX5_count 63 = .ok (.getfield 10, 3) := by decide +kernel
theorem dX5_count_66 : decode cX5_count 66 = .ok (.getfield 241, 3) := by decide +kernel
theorem dX5_count_69 : decode cX5_count 69 = .ok (.ireturn, 1) := by decide +kernel
theorem dX5_count_70 : decode cX5_count 70 = .ok (.aload_n 0, 1) := by decide +kernel
theorem dX5_count_71 : decode cX5_count 71 = .ok (.getfield 10, 3) := by decide +kernel
theorem dX5_count_74 : decode cX5_count 74 = .ok (.getfield 244, 3) := by decide +kernel
theorem dX5_count_77 : decode cX5_count 77 = .ok (.ireturn, 1) := by decide +kernel
theorem dX5_count_78 : decode cX5_count 78 = .ok (.aload_n 0, 1) := by decide +kernel
theorem dX5_count_79 : decode cX5_count 79 = .ok (.getfield 10, 3) := by decide +kernel
theorem dX5_count_82 : decode cX5_count 82 = .ok (.invokevirtual 247, 3) := by decide +kernel
theorem dX5_count_85 : decode cX5_count 85 = .ok (.ireturn, 1) := by decide +kernel
theorem dX5_count_86 : decode cX5_count 86 = .ok (.iconst (-1), 1) := by decide +kernel
theorem dX5_count_87 : decode cX5_count 87 = .ok (.ireturn, 1) := by decide +kernel
theorem dX6_count_0 : decode cX6_count 0 = .ok (.iconst 0, 1) := by decide +kernel
theorem dX6_count_1 : decode cX6_count 1 = .ok (.istore_n 2, 1) := by decide +kernel
theorem dX6_count_2 : decode cX6_count 2 = .ok (.iload_n 1, 1) := by decide +kernel
theorem dX6_count_3 : decode cX6_count 3 = .ok (.tableswitch 92 0 4 #[33, 40, 78, 85, 40], 33) := by decide +kernel
theorem dX6_count_36 : decode cX6_count 36 = .ok (.aload_n 0, 1) := by decide +kernel
theorem dX6_count_37 : decode cX6_count 37 = .ok (.getfield 9, 3) := by decide +kernel
theorem dX6_count_40 : decode cX6_count 40 = .ok (.iconst 0, 1) := by decide +kernel
theorem dX6_count_41 : decode cX6_count 41 = .ok (.iaload, 1) := by decide +kernel
theorem dX6_count_42 : decode cX6_count 42 = .ok (.ireturn, 1) := by decide +kernel
theorem dX6_count_43 : decode cX6_count 43 = .ok (.iconst 0, 1) := by decide +kernel
theorem dX6_count_44 : decode cX6_count 44 = .ok (.istore_n 3, 1) := by decide +kernel
theorem dX6_count_45 : decode cX6_count 45 = .ok (.iload_n 3, 1) := by decide +kernel
theorem dX6_count_46 : decode cX6_count 46 = .ok (.aload_n 0, 1) := by decide +kernel
theorem dX6_count_47 : decode cX6_count 47 = .ok (.getfield 9, 3) := by decide +kernel
theorem dX6_count_50 : decode cX6_count 50 = .ok (.iconst 0, 1) := by decide +kernel
theorem dX6_count_51 : decode cX6_count 51 = .ok (.iaload, 1) := by decide +kernel
theorem dX6_count_52 : decode cX6_count 52 = .ok (.if_icmp .ge 27, 3) := by decide +kernel
theorem dX6_count_55 : decode cX6_count 55 = .ok (.iload_n 2, 1) := by decide +kernel
theorem dX6_count_56 : decode cX6_count 56 = .ok (.aload_n 0, 1) := by decide +kernel
theorem dX6_count_57 : decode cX6_count 57 = .ok (.iload_n 3, 1) := by decide +kernel
theorem dX6_count_58 : decode cX6_count 58 = .ok (.iload_n 1, 1) := by decide +kernel
theorem dX6_count_59 : decode cX6_count 59 = .ok (.iconst 1, 1) := by decide +kernel
theorem dX6_count_60 : decode cX6_count 60 = .ok (.if_icmp .ne 7, 3) := by decide +kernel
theorem dX6_count_63 : decode cX6_count 63 = .ok (.iconst 4, 1) := by decide +kernel
theorem dX6_count_64 : decode cX6_count 64 = .ok (.goto 4, 3) := by decide +kernel
theorem dX6_count_67 : decode cX6_count 67 = .ok (.iconst 3, 1) := by decide +kernel
theorem dX6_count_68 : decode cX6_count 68 = .ok (.invokevirtual 111, 3) := by decide +kernel
theorem dX6_count_71 : decode cX6_count 71 = .ok (.iadd, 1) := by decide +kernel
theorem dX6_count_72 : decode cX6_count 72 = .ok (.istore_n 2, 1) := by decide +kernel
theorem dX6_count_73 : decode cX6_count 73 = .ok (.iinc 3 1, 3) := by decide +kernel
theorem dX6_count_76 : decode cX6_count 76 = .ok (.goto (-31), 3) := by decide +kernel
theorem dX6_count_79 : decode cX6_count 79 = .ok (.iload_n 2, 1) := by decide +kernel
theorem dX6_count_80 : decode cX6_count 80 = .ok (.ireturn, 1) := by decide +kernel
theorem dX6_count_81 : decode cX6_count 81 = .ok (.aload_n 0, 1) := by decide +kernel
theorem dX6_count_82 : decode cX6_count 82 = .ok (.getfield 9, 3) := by decide +kernel
theorem dX6_count_85 : decode cX6_count 85 = .ok (.iconst 1, 1) := by decide +kernel
theorem dX6_count_86 : decode cX6_count 86 = .ok (.iaload, 1) := by decide +kernel
theorem dX6_count_87 : decode cX6_count 87 = .ok (.ireturn, 1) := by decide +kernel
theorem dX6_count_88 : decode cX6_count 88 = .ok (.aload_n 0, 1) := by decide +kernel
theorem dX6_count_89 : decode cX6_count 89 = .ok (.getfield 9, 3) := by decide +kernel
theorem dX6_count_92 : decode cX6_count 92 = .ok (.iconst 2, 1) := by decide +kernel
theorem dX6_count_93 : decode cX6_count 93 = .ok (.iaload, 1) := by decide +kernel
theorem dX6_count_94 : decode cX6_count 94 = .ok (.ireturn, 1) := by decide +kernel
theorem dX6_count_95 : decode cX6_count 95 = .ok (.iconst (-1), 1) := by decide +kernel
theorem dX6_count_96 : decode cX6_count 96 = .ok (.ireturn, 1) := by decide +kernel
theorem dX3_empty_0 : decode cX3_empty 0 = .ok (.aload_n 0, 1) := by decide +kernel
theorem dX3_empty_1 : decode cX3_empty 1 = .ok (.iconst 0, 1) := by decide +kernel
theorem dX3_empty_2 : decode cX3_empty 2 = .ok (.putfield 11, 3) := by decide +kernel
theorem dX3_empty_5 : decode cX3_empty 5 = .ok (.return_, 1) := by decide +kernel
theorem dX3_keepPiece_0 : decode cX3_keepPiece 0 = .ok (.aload_n 0, 1) := by decide +kernel
theorem dX3_keepPiece_1 : decode cX3_keepPiece 1 = .ok (.iconst 1, 1) := by decide +kernel
theorem dX3_keepPiece_2 : decode cX3_keepPiece 2 = .ok (.putfield 11, 3) := by decide +kernel
theorem dX3_keepPiece_5 : decode cX3_keepPiece 5 = .ok (.aload_n 0, 1) := by decide +kernel
theorem dX3_keepPiece_6 : decode cX3_keepPiece 6 = .ok (.getfield 18, 3) := by decide +kernel
theorem dX3_keepPiece_9 : decode cX3_keepPiece 9 = .ok (.aload_n 1, 1) := by decide +kernel
theorem dX3_keepPiece_10 : decode cX3_keepPiece 10 = .ok (.invokevirtual 32, 3) := by decide +kernel
theorem dX3_keepPiece_13 : decode cX3_keepPiece 13 = .ok (.return_, 1) := by decide +kernel
theorem dX5_keep_0 : decode cX5_keep 0 = .ok (.iload_n 1, 1) := by decide +kernel
theorem dX5_keep_1 : decode cX5_keep 1 = .ok (.invokestatic 250, 3) := by decide +kernel
theorem dX5_keep_4 : decode cX5_keep 4 = .ok (.ifCond .eq 12, 3) := by decide +kernel
theorem dX5_keep_7 : decode cX5_keep 7 = .ok (.iload_n 2, 1) := by decide +kernel
theorem dX5_keep_8 : decode cX5_keep 8 = .ok (.iconst 0, 1) := by decide +kernel
theorem dX5_keep_9 : decode cX5_keep 9 = .ok (.iconst 1, 1) := by decide +kernel
theorem dX5_keep_10 : decode cX5_keep 10 = .ok (.invokestatic 129, 3) := by decide +kernel
theorem dX5_keep_13 : decode cX5_keep 13 = .ok (.ifCond .ne 5, 3) := by decide +kernel
theorem dX5_keep_16 : decode cX5_keep 16 = .ok (.iconst (-1), 1) := by decide +kernel
theorem dX5_keep_17 : decode cX5_keep 17 = .ok (.ireturn, 1) := by decide +kernel
theorem dX5_keep_18 : decode cX5_keep 18 = .ok (.iload_n 2, 1) := by decide +kernel
theorem dX5_keep_19 : decode cX5_keep 19 = .ok (.ifCond .ne 14, 3) := by decide +kernel
theorem dX5_keep_22 : decode cX5_keep 22 = .ok (.aload_n 0, 1) := by decide +kernel
theorem dX5_keep_23 : decode cX5_keep 23 = .ok (.getfield 45, 3) := by decide +kernel
theorem dX5_keep_26 : decode cX5_keep 26 = .ok (.iload_n 1, 1) := by decide +kernel
theorem dX5_keep_27 : decode cX5_keep 27 = .ok (.aaload, 1) := by decide +kernel
theorem dX5_keep_28 : decode cX5_keep 28 = .ok (.invokevirtual 253, 3) := by decide +kernel
theorem dX5_keep_31 : decode cX5_keep 31 = .ok (.iconst 0, 1) := by decide +kernel
theorem dX5_keep_32 : decode cX5_keep 32 = .ok (.ireturn, 1) := by decide +kernel
theorem dX5_keep_33 : decode cX5_keep 33 = .ok (.aload_n 0, 1) := by decide +kernel
theorem dX5_keep_34 : decode cX5_keep 34 = .ok (.getfield 10, 3) := by decide +kernel
theorem dX5_keep_37 : decode cX5_keep 37 = .ok (.iload_n 3, 1) := by decide +kernel
theorem dX5_keep_38 : decode cX5_keep 38 = .ok (.invokevirtual 66, 3) := by decide +kernel
theorem dX5_keep_41 : decode cX5_keep 41 = .ok (.ifCond .ne 5, 3) := by decide +kernel
theorem dX5_keep_44 : decode cX5_keep 44 = .ok (.iconst (-1), 1) := by decide +kernel
theorem dX5_keep_45 : decode cX5_keep 45 = .ok (.ireturn, 1) := by decide +kernel
theorem dX5_keep_46 : decode cX5_keep 46 = .ok (.aload_n 0, 1) := by decide +kernel
theorem dX5_keep_47 : decode cX5_keep 47 = .ok (.getfield 45, 3) := by decide +kernel
theorem dX5_keep_50 : decode cX5_keep 50 = .ok (.iload_n 1, 1) := by decide +kernel
theorem dX5_keep_51 : decode cX5_keep 51 = .ok (.aaload, 1) := by decide +kernel
theorem dX5_keep_52 : decode cX5_keep 52 = .ok (.aload_n 0, 1) := by decide +kernel
theorem dX5_keep_53 : decode cX5_keep 53 = .ok (.getfield 10, 3) := by decide +kernel
theorem dX5_keep_56 : decode cX5_keep 56 = .ok (.getfield 70, 3) := by decide +kernel
theorem dX5_keep_59 : decode cX5_keep 59 = .ok (.iload_n 3, 1) := by decide +kernel
theorem dX5_keep_60 : decode cX5_keep 60 = .ok (.aaload, 1) := by decide +kernel
theorem dX5_keep_61 : decode cX5_keep 61 = .ok (.invokevirtual 256, 3) := by decide +kernel
theorem dX5_keep_64 : decode cX5_keep 64 = .ok (.iconst 0, 1) := by decide +kernel
theorem dX5_keep_65 : decode cX5_keep 65 = .ok (.ireturn, 1) := by decide +kernel
theorem dX6_priceOf_0 : decode cX6_priceOf 0 = .ok (.aload_n 0, 1) := by decide +kernel
theorem dX6_priceOf_1 : decode cX6_priceOf 1 = .ok (.iload_n 1, 1) := by decide +kernel
theorem dX6_priceOf_2 : decode cX6_priceOf 2 = .ok (.iconst 2, 1) := by decide +kernel
theorem dX6_priceOf_3 : decode cX6_priceOf 3 = .ok (.invokevirtual 111, 3) := by decide +kernel
theorem dX6_priceOf_6 : decode cX6_priceOf 6 = .ok (.istore_n 2, 1) := by decide +kernel
theorem dX6_priceOf_7 : decode cX6_priceOf 7 = .ok (.aload_n 0, 1) := by decide +kernel
theorem dX6_priceOf_8 : decode cX6_priceOf 8 = .ok (.iload_n 1, 1) := by decide +kernel
theorem dX6_priceOf_9 : decode cX6_priceOf 9 = .ok (.iconst 1, 1) := by decide +kernel
theorem dX6_priceOf_10 : decode cX6_priceOf 10 = .ok (.invokevirtual 111, 3) := by decide +kernel
theorem dX6_priceOf_13 : decode cX6_priceOf 13 = .ok (.istore_n 3, 1) := by decide +kernel
theorem dX6_priceOf_14 : decode cX6_priceOf 14 = .ok (.aload_n 0, 1) := by decide +kernel
theorem dX6_priceOf_15 : decode cX6_priceOf 15 = .ok (.iload_n 1, 1) := by decide +kernel
theorem dX6_priceOf_16 : decode cX6_priceOf 16 = .ok (.iconst 0, 1) := by decide +kernel
theorem dX6_priceOf_17 : decode cX6_priceOf 17 = .ok (.invokevirtual 111, 3) := by decide +kernel
theorem dX6_priceOf_20 : decode cX6_priceOf 20 = .ok (.tableswitch 88 1 7 #[44, 48, 53, 59, 63, 70, 78], 44) := by decide +kernel
theorem dX6_priceOf_64 : decode cX6_priceOf 64 = .ok (.iconst 3, 1) := by decide +kernel
theorem dX6_priceOf_65 : decode cX6_priceOf 65 = .ok (.iload_n 2, 1) := by decide +kernel
theorem dX6_priceOf_66 : decode cX6_priceOf 66 = .ok (.imul, 1) := by decide +kernel
theorem dX6_priceOf_67 : decode cX6_priceOf 67 = .ok (.ireturn, 1) := by decide +kernel
theorem dX6_priceOf_68 : decode cX6_priceOf 68 = .ok (.iload_n 2, 1) := by decide +kernel
theorem dX6_priceOf_69 : decode cX6_priceOf 69 = .ok (.bipush 50, 2) := by decide +kernel
theorem dX6_priceOf_71 : decode cX6_priceOf 71 = .ok (.iadd, 1) := by decide +kernel
theorem dX6_priceOf_72 : decode cX6_priceOf 72 = .ok (.ireturn, 1) := by decide +kernel
theorem dX6_priceOf_73 : decode cX6_priceOf 73 = .ok (.iconst 2, 1) := by decide +kernel
theorem dX6_priceOf_74 : decode cX6_priceOf 74 = .ok (.iload_n 2, 1) := by decide +kernel
theorem dX6_priceOf_75 : decode cX6_priceOf 75 = .ok (.imul, 1) := by decide +kernel
theorem dX6_priceOf_76 : decode cX6_priceOf 76 = .ok (.iload_n 3, 1) := by decide +kernel
theorem dX6_priceOf_77 : decode cX6_priceOf 77 = .ok (.iadd, 1) := by decide +kernel
theorem dX6_priceOf_78 : decode cX6_priceOf 78 = .ok (.ireturn, 1) := by decide +kernel
theorem dX6_priceOf_79 : decode cX6_priceOf 79 = .ok (.iconst 2, 1) := by decide +kernel
theorem dX6_priceOf_80 : decode cX6_priceOf 80 = .ok (.iload_n 2, 1) := by decide +kernel
theorem dX6_priceOf_81 : decode cX6_priceOf 81 = .ok (.imul, 1) := by decide +kernel
theorem dX6_priceOf_82 : decode cX6_priceOf 82 = .ok (.ireturn, 1) := by decide +kernel
theorem dX6_priceOf_83 : decode cX6_priceOf 83 = .ok (.iload_n 2, 1) := by decide +kernel
theorem dX6_priceOf_84 : decode cX6_priceOf 84 = .ok (.bipush 50, 2) := by decide +kernel
theorem dX6_priceOf_86 : decode cX6_priceOf 86 = .ok (.iadd, 1) := by decide +kernel
theorem dX6_priceOf_87 : decode cX6_priceOf 87 = .ok (.iconst 2, 1) := by decide +kernel
theorem dX6_priceOf_88 : decode cX6_priceOf 88 = .ok (.idiv, 1) := by decide +kernel
theorem dX6_priceOf_89 : decode cX6_priceOf 89 = .ok (.ireturn, 1) := by decide +kernel
theorem dX6_priceOf_90 : decode cX6_priceOf 90 = .ok (.iconst 2, 1) := by decide +kernel
theorem dX6_priceOf_91 : decode cX6_priceOf 91 = .ok (.iload_n 2, 1) := by decide +kernel
theorem dX6_priceOf_92 : decode cX6_priceOf 92 = .ok (.imul, 1) := by decide +kernel
theorem dX6_priceOf_93 : decode cX6_priceOf 93 = .ok (.iload_n 3, 1) := by decide +kernel
theorem dX6_priceOf_94 : decode cX6_priceOf 94 = .ok (.iadd, 1) := by decide +kernel
theorem dX6_priceOf_95 : decode cX6_priceOf 95 = .ok (.iconst 3, 1) := by decide +kernel
theorem dX6_priceOf_96 : decode cX6_priceOf 96 = .ok (.idiv, 1) := by decide +kernel
theorem dX6_priceOf_97 : decode cX6_priceOf 97 = .ok (.ireturn, 1) := by decide +kernel
theorem dX6_priceOf_98 : decode cX6_priceOf 98 = .ok (.iconst 2, 1) := by decide +kernel
theorem dX6_priceOf_99 : decode cX6_priceOf 99 = .ok (.iload_n 2, 1) := by decide +kernel
theorem dX6_priceOf_100 : decode cX6_priceOf 100 = .ok (.imul, 1) := by decide +kernel
theorem dX6_priceOf_101 : decode cX6_priceOf 101 = .ok (.iload_n 3, 1) := by decide +kernel
theorem dX6_priceOf_102 : decode cX6_priceOf 102 = .ok (.iadd, 1) := by decide +kernel
theorem dX6_priceOf_103 : decode cX6_priceOf 103 = .ok (.iconst 3, 1) := by decide +kernel
theorem dX6_priceOf_104 : decode cX6_priceOf 104 = .ok (.idiv, 1) := by decide +kernel
theorem dX6_priceOf_105 : decode cX6_priceOf 105 = .ok (.iconst 1, 1) := by decide +kernel
theorem dX6_priceOf_106 : decode cX6_priceOf 106 = .ok (.isub, 1) := by decide +kernel
theorem dX6_priceOf_107 : decode cX6_priceOf 107 = .ok (.ireturn, 1) := by decide +kernel
theorem dX6_priceOf_108 : decode cX6_priceOf 108 = .ok (.iload_n 2, 1) := by decide +kernel
theorem dX6_priceOf_109 : decode cX6_priceOf 109 = .ok (.ireturn, 1) := by decide +kernel
theorem dX6_keep_0 : decode cX6_keep 0 = .ok (.iload_n 1, 1) := by decide +kernel
theorem dX6_keep_1 : decode cX6_keep 1 = .ok (.invokestatic 94, 3) := by decide +kernel
theorem dX6_keep_4 : decode cX6_keep 4 = .ok (.ifCond .eq 26, 3) := by decide +kernel
theorem dX6_keep_7 : decode cX6_keep 7 = .ok (.iload_n 2, 1) := by decide +kernel
theorem dX6_keep_8 : decode cX6_keep 8 = .ok (.i2l, 1) := by decide +kernel
theorem dX6_keep_9 : decode cX6_keep 9 = .ok (.lconst 0, 1) := by decide +kernel
theorem dX6_keep_10 : decode cX6_keep 10 = .ok (.lconst 1, 1) := by decide +kernel
theorem dX6_keep_11 : decode cX6_keep 11 = .ok (.invokestatic 47, 3) := by decide +kernel
theorem dX6_keep_14 : decode cX6_keep 14 = .ok (.ifCond .eq 16, 3) := by decide +kernel
theorem dX6_keep_17 : decode cX6_keep 17 = .ok (.iload_n 2, 1) := by decide +kernel
theorem dX6_keep_18 : decode cX6_keep 18 = .ok (.iconst 1, 1) := by decide +kernel
theorem dX6_keep_19 : decode cX6_keep 19 = .ok (.if_icmp .ne 13, 3) := by decide +kernel
theorem dX6_keep_22 : decode cX6_keep 22 = .ok (.aload_n 0, 1) := by decide +kernel
theorem dX6_keep_23 : decode cX6_keep 23 = .ok (.iload_n 3, 1) := by decide +kernel
theorem dX6_keep_24 : decode cX6_keep 24 = .ok (.invokevirtual 117, 3) := by decide +kernel
theorem dX6_keep_27 : decode cX6_keep 27 = .ok (.ifCond .ne 5, 3) := by decide +kernel
theorem dX6_keep_30 : decode cX6_keep 30 = .ok (.iconst (-1), 1) := by decide +kernel
theorem dX6_keep_31 : decode cX6_keep 31 = .ok (.ireturn, 1) := by decide +kernel
theorem dX6_keep_32 : decode cX6_keep 32 = .ok (.aload_n 0, 1) := by decide +kernel
theorem dX6_keep_33 : decode cX6_keep 33 = .ok (.getfield 22, 3) := by decide +kernel
theorem dX6_keep_36 : decode cX6_keep 36 = .ok (.iload_n 1, 1) := by decide +kernel
theorem dX6_keep_37 : decode cX6_keep 37 = .ok (.iload_n 2, 1) := by decide +kernel
theorem dX6_keep_38 : decode cX6_keep 38 = .ok (.iastore, 1) := by decide +kernel
theorem dX6_keep_39 : decode cX6_keep 39 = .ok (.iload_n 2, 1) := by decide +kernel
theorem dX6_keep_40 : decode cX6_keep 40 = .ok (.ifCond .ne 5, 3) := by decide +kernel
theorem dX6_keep_43 : decode cX6_keep 43 = .ok (.iconst 0, 1) := by decide +kernel
theorem dX6_keep_44 : decode cX6_keep 44 = .ok (.ireturn, 1) := by decide +kernel
theorem dX6_keep_45 : decode cX6_keep 45 = .ok (.aload_n 0, 1) := by decide +kernel
theorem dX6_keep_46 : decode cX6_keep 46 = .ok (.iload_n 3, 1) := by decide +kernel
theorem dX6_keep_47 : decode cX6_keep 47 = .ok (.iconst 0, 1) := by decide +kernel
theorem dX6_keep_48 : decode cX6_keep 48 = .ok (.invokevirtual 111, 3) := by decide +kernel
theorem dX6_keep_51 : decode cX6_keep 51 = .ok (.istore 4, 2) := by decide +kernel
theorem dX6_keep_53 : decode cX6_keep 53 = .ok (.aload_n 0, 1) := by decide +kernel
theorem dX6_keep_54 : decode cX6_keep 54 = .ok (.getfield 34, 3) := by decide +kernel
theorem dX6_keep_57 : decode cX6_keep 57 = .ok (.iload_n 1, 1) := by decide +kernel
theorem dX6_keep_58 : decode cX6_keep 58 = .ok (.aload_n 0, 1) := by decide +kernel
theorem dX6_keep_59 : decode cX6_keep 59 = .ok (.iload_n 3, 1) := by decide +kernel
theorem dX6_keep_60 : decode cX6_keep 60 = .ok (.invokevirtual 255, 3) := by decide +kernel
theorem dX6_keep_63 : decode cX6_keep 63 = .ok (.iastore, 1) := by decide +kernel
theorem dX6_keep_64 : decode cX6_keep 64 = .ok (.aload_n 0, 1) := by decide +kernel
theorem dX6_keep_65 : decode cX6_keep 65 = .ok (.getfield 37, 3) := by decide +kernel
theorem dX6_keep_68 : decode cX6_keep 68 = .ok (.iload_n 1, 1) := by decide +kernel
theorem dX6_keep_69 : decode cX6_keep 69 = .ok (.iload 4, 2) := by decide +kernel
theorem dX6_keep_71 : decode cX6_keep 71 = .ok (.iconst 5, 1) := by decide +kernel
theorem dX6_keep_72 : decode cX6_keep 72 = .ok (.if_icmp .eq 12, 3) := by decide +kernel
theorem dX6_keep_75 : decode cX6_keep 75 = .ok (.aload_n 0, 1) := by decide +kernel
theorem dX6_keep_76 : decode cX6_keep 76 = .ok (.iload_n 3, 1) := by decide +kernel
theorem dX6_keep_77 : decode cX6_keep 77 = .ok (.iconst 1, 1) := by decide +kernel
theorem dX6_keep_78 : decode cX6_keep 78 = .ok (.invokevirtual 111, 3) := by decide +kernel
theorem dX6_keep_81 : decode cX6_keep 81 = .ok (.ifCond .ne 8, 3) := by decide +kernel
theorem dX6_keep_84 : decode cX6_keep 84 = .ok (.bipush (-15), 2) := by decide +kernel
theorem dX6_keep_86 : decode cX6_keep 86 = .ok (.goto 42, 3) := by decide +kernel
theorem dX6_keep_89 : decode cX6_keep 89 = .ok (.iload 4, 2) := by decide +kernel
theorem dX6_keep_91 : decode cX6_keep 91 = .ok (.iconst 4, 1) := by decide +kernel
theorem dX6_keep_92 : decode cX6_keep 92 = .ok (.if_icmp .ne 10, 3) := by decide +kernel
theorem dX6_keep_95 : decode cX6_keep 95 = .ok (.bipush 100, 2) := by decide +kernel
theorem dX6_keep_97 : decode cX6_keep 97 = .ok (.iload_n 3, 1) := by decide +kernel
theorem dX6_keep_98 : decode cX6_keep 98 = .ok (.iadd, 1) := by decide +kernel
theorem dX6_keep_99 : decode cX6_keep 99 = .ok (.goto 29, 3) := by decide +kernel
theorem dX6_keep_102 : decode cX6_keep 102 = .ok (.iload 4, 2) := by decide +kernel
theorem dX6_keep_104 : decode cX6_keep 104 = .ok (.bipush 7, 2) := by decide +kernel
theorem dX6_keep_106 : decode cX6_keep 106 = .ok (.if_icmp .ne 21, 3) := by decide +kernel
theorem dX6_keep_109 : decode cX6_keep 109 = .ok (.sipush 200, 3) := by decide +kernel
theorem dX6_keep_112 : decode cX6_keep 112 = .ok (.iload 4, 2) := by decide +kernel
theorem dX6_keep_114 : decode cX6_keep 114 = .ok (.aload_n 0, 1) := by decide +kernel
theorem dX6_keep_115 : decode cX6_keep 115 = .ok (.iload_n 3, 1) := by decide +kernel
theorem dX6_keep_116 : decode cX6_keep 116 = .ok (.iconst 1, 1) := by decide +kernel
theorem dX6_keep_117 : decode cX6_keep 117 = .ok (.invokevirtual 111, 3) := by decide +kernel
theorem dX6_keep_120 : decode cX6_keep 120 = .ok (.invokestatic 126, 3) := by decide +kernel
theorem dX6_keep_123 : decode cX6_keep 123 = .ok (.iadd, 1) := by decide +kernel
theorem dX6_keep_124 : decode cX6_keep 124 = .ok (.goto 4, 3) := by decide +kernel
theorem dX6_keep_127 : decode cX6_keep 127 = .ok (.iload_n 3, 1) := by decide +kernel
theorem dX6_keep_128 : decode cX6_keep 128 = .ok (.iastore, 1) := by decide +kernel
theorem dX6_keep_129 : decode cX6_keep 129 = .ok (.iconst 0, 1) := by decide +kernel
theorem dX6_keep_130 : decode cX6_keep 130 = .ok (.ireturn, 1) := by decide +kernel
section WALK
variable {p : Program} {l : Launch} {e : Env} {s : State} {m : MethodId} {args : Array Value} {below : List Frame} {meth : Method} {c : Code} {G : GG}

def q_X3_leastOfSort (M : Mem) (a0 : Nat) (post : Int32 → Mem → Prop) : Prop := ((M a0 2) = (0 : Int32) → (post (-128 : Int32) M)) ∧ (¬ (M a0 2) = (0 : Int32) → (((M a0 2) = (1 : Int32) → (post (-32768 : Int32) M)) ∧ (¬ (M a0 2) = (1 : Int32) → (post (-2147483648 : Int32) M))))
set_option maxHeartbeats 4000000 in
set_option maxRecDepth 100000 in
theorem c_X3_leastOfSort (l : Launch) (G : GG) (hG : Ag G) (sz : Nat) (M : Mem) (a0 : Nat) (ha0 : 14 ≤ a0 ∧ a0 < 22) (post : Int32 → Mem → Prop) (h : q_X3_leastOfSort M a0 post) : Met l yX3_leastOfSort (Cond.code yX3_leastOfSort cX3_leastOfSort 1 (some .int) :: wsL_law) (rmk 1) (va_Pc [.ref (ga G a0)] (Pw G sz M)) (va_Qi post (Qw G) (Af G sz)) 0 0 (Af G sz) := by
  refine Met.ofW (cc := cX3_leastOfSort) (maxL := 1) (ret := (some .int)) (by decide) rfl ?_
  intro p e s m args below meth c s₁ B hml hv
  obtain ⟨rfl, hsz, hE, hP⟩ := hv
  subst hsz
  have C := Cx.of (own := RX3) hG hE rfl hml B
  have w : Wd G s M s.heap [] := ⟨hP, va_S.rf⟩
  have hl := lv_entry [.ref (ga G a0)] (n := 1) (Nat.le_of_ble_eq_true rfl)
  rw [lg_entry_eq]
  generalize (lg_sl [.ref (ga G a0)] ++ List.replicate (1 - (lg_sl [.ref (ga G a0)]).length) Slot.unset).toArray = ls at hl ⊢
  have hl : lv_has ls 1 [(0, .ref (ga G a0))] := hl
  have hx := C.1.1
  have hb := C.1.2.1
  show W p l e (rmk 1) s m _ below meth c s.heap [] 0 0 _ _
  unfold q_X3_leastOfSort at h
  refine lv_aload_n hx hb dX3_leastOfSort_0 rfl (lv_at hl 0 rfl) ?_
  refine gt_3_2 C w ha0 kw_4_17 dX3_leastOfSort_1 ?_
  by_cases c1 : (M a0 2) = (0 : Int32)
  · replace h := h.1 c1
    refine lv_lookup (off := 28) (tgt := 32) hx hb dX3_leastOfSort_4 (by decide) (by rw [c1]; decide) (by decide) ?_
    refine lv_bipush (v := -128) hx hb dX3_leastOfSort_32 (by decide) ?_
    exact ret_i C w h dX3_leastOfSort_34
  replace h := h.2 c1
  by_cases c2 : (M a0 2) = (1 : Int32)
  · replace h := h.1 c2
    refine lv_lookup (off := 31) (tgt := 35) hx hb dX3_leastOfSort_4 (by decide) (by rw [c2]; decide) (by decide) ?_
    refine lv_sipush (v := -32768) hx hb dX3_leastOfSort_35 (by decide) ?_
    exact ret_i C w h dX3_leastOfSort_38
  replace h := h.2 c2
  refine lv_lookup (off := 35) (tgt := 39) hx hb dX3_leastOfSort_4 (by decide) ((lv_osw c1 (by decide)).trans ((lv_osw c2 (by decide)).trans rfl)) (by decide) ?_
  refine lv_ldc hx hb C.1.2.2.2.1 (C.ws kw_34_15) dX3_leastOfSort_39 ?_
  exact ret_i C w h dX3_leastOfSort_41
def j_X5_judge_80 (k38 : Mem → Nat → Int32 → Int32 → Prop) (post : Int32 → Mem → Prop) (M : Mem) (a3 : Nat) (x4 : Int32) (x5 : Int32) : Prop := k38 M a3 x4 (x5 + (1 : Int32))
def b_X5_judge_38 (k38 : Mem → Nat → Int32 → Int32 → Prop) (post : Int32 → Mem → Prop) (M : Mem) (a3 : Nat) (x4 : Int32) (x5 : Int32) : Prop := ((M a3 3) ≤ x5 → (post (-4 : Int32) M)) ∧ (¬ ((M a3 3) ≤ x5) → (vp_in x5 100 ∧ (((M (8 + a3) x5.toNatClampNeg) = x4 → (j_X5_judge_80 k38 post M a3 x4 x5)) ∧ (¬ ((M (8 + a3) x5.toNatClampNeg) = x4) → (q_X0_pullAt M x5 (fun r4 M5 => ((M (8 + a3) x5.toNatClampNeg) = r4 → (j_X5_judge_80 k38 post M5 a3 x4 x5)) ∧ (¬ ((M (8 + a3) x5.toNatClampNeg) = r4) → (post x5 M5))))))))
def lp_X5_judge_38 (post : Int32 → Mem → Prop) : Nat → Mem → Nat → Int32 → Int32 → Prop
  | 0 => fun _ _ _ _ => False
  | n + 1 => fun M a3 x4 x5 => b_X5_judge_38 (lp_X5_judge_38 post n) post M a3 x4 x5
def q_X5_judge (M : Mem) (x1 : Int32) (post : Int32 → Mem → Prop) : Prop := q_X5_refusalOfRow M x1 (fun r7 M8 => (0 ≤ r7 → (q_X5_layLine M8  (fun r10 M11 => (r10 = 0 → (post (-3 : Int32) M11)) ∧ (¬ (r10 = 0) → (vp_in x1 8 ∧ (q_X3_leastOfSort M11 (14 + x1.toNatClampNeg) (fun r14 M15 => ∃ n, lp_X5_judge_38 post n M15 (14 + x1.toNatClampNeg) r14 (0 : Int32)))))))) ∧ (¬ (0 ≤ r7) → (post r7 M8)))
set_option maxHeartbeats 4000000 in
set_option maxRecDepth 100000 in
theorem t_X5_judge_80 (C : Cx G p s m args meth c RX5 cX5_judge 7 (some .int)) {post : Int32 → Mem → Prop} {k38 : Mem → Nat → Int32 → Int32 → Prop} (hk38 : ∀ (M : Mem) (a3 : Nat) (x4 : Int32) (x5 : Int32) (H : Heap) (locs : List Loc) (ls : Array Slot), (14 ≤ a3 ∧ a3 < 22) → Wd G s M H locs → lv_has ls 7 [(0, .ref (ga G 0)), (3, .ref (ga G a3)), (4, .int x4), (5, .int x5)] → k38 M a3 x4 x5 → W p l e (rmk 5) s m args below meth c H locs 0 0 (MQ below (va_Qi post (Qw G) (Af G s.heap.size)) args s 0 0 (Af G s.heap.size)) (F0 m 38 ls [])) (M : Mem) (a3 : Nat) (x4 : Int32) (x5 : Int32) {H : Heap} {locs : List Loc} {ls : Array Slot} (ha3 : 14 ≤ a3 ∧ a3 < 22) (w : Wd G s M H locs) (hl : lv_has ls 7 [(0, .ref (ga G 0)), (3, .ref (ga G a3)), (4, .int x4), (5, .int x5)]) (h : j_X5_judge_80 k38 post M a3 x4 x5) : W p l e (rmk 5) s m args below meth c H locs 0 0 (MQ below (va_Qi post (Qw G) (Af G s.heap.size)) args s 0 0 (Af G s.heap.size)) (F0 m 80 ls []) := by
  have hx := C.1.1
  have hb := C.1.2.1
  unfold j_X5_judge_80 at h
  refine lv_iinc (v := (x5 + (1 : Int32))) (lv' := [(5, .int (x5 + (1 : Int32))), (0, .ref (ga G 0)), (3, .ref (ga G a3)), (4, .int x4)]) hx hb dX5_judge_80 hl (k := 3) rfl rfl (by decide) rfl (fun ls hl => ?_)
  refine lv_goto (tgt := 38) hx hb dX5_judge_83 (by decide) ?_
  exact hk38 M a3 x4 (x5 + (1 : Int32)) _ _ _ ha3 w (lv_sub hl [1, 2, 3, 0] rfl) h
set_option maxHeartbeats 4000000 in
set_option maxRecDepth 100000 in
theorem t_X5_judge_38 (C : Cx G p s m args meth c RX5 cX5_judge 7 (some .int)) {post : Int32 → Mem → Prop} : ∀ (n : Nat) (M : Mem) (a3 : Nat) (x4 : Int32) (x5 : Int32) {H : Heap} {locs : List Loc} {ls : Array Slot} (ha3 : 14 ≤ a3 ∧ a3 < 22) (w : Wd G s M H locs) (hl : lv_has ls 7 [(0, .ref (ga G 0)), (3, .ref (ga G a3)), (4, .int x4), (5, .int x5)]) (h : lp_X5_judge_38 post n M a3 x4 x5), W p l e (rmk 5) s m args below meth c H locs 0 0 (MQ below (va_Qi post (Qw G) (Af G s.heap.size)) args s 0 0 (Af G s.heap.size)) (F0 m 38 ls []) := by
  have hx := C.1.1
  have hb := C.1.2.1
  intro n9
  induction n9 with
  | zero => intro M a3 x4 x5 H locs ls ha3 w hl h; exact absurd h id
  | succ n9 ih9 =>
    intro M a3 x4 x5 H locs ls ha3 w hl h
    have hk38 : ∀ (M : Mem) (a3 : Nat) (x4 : Int32) (x5 : Int32) (H : Heap) (locs : List Loc) (ls : Array Slot), (14 ≤ a3 ∧ a3 < 22) → Wd G s M H locs → lv_has ls 7 [(0, .ref (ga G 0)), (3, .ref (ga G a3)), (4, .int x4), (5, .int x5)] → lp_X5_judge_38 post n9 M a3 x4 x5 → W p l e (rmk 5) s m args below meth c H locs 0 0 (MQ below (va_Qi post (Qw G) (Af G s.heap.size)) args s 0 0 (Af G s.heap.size)) (F0 m 38 ls []) := fun M a3 x4 x5 H locs ls ha3 w hl h => ih9 M a3 x4 x5 ha3 w hl h
    replace h : b_X5_judge_38 (lp_X5_judge_38 post n9) post M a3 x4 x5 := h
    unfold b_X5_judge_38 at h
    refine lv_iload hx hb dX5_judge_38 (lv_at hl 3 rfl) ?_
    refine lv_aload_n hx hb dX5_judge_40 rfl (lv_at hl 1 rfl) ?_
    refine gn_3_3 C w ha3 kn_33 dX5_judge_41 ?_
    refine lv_icmp_ge (tgt := 86) hx hb dX5_judge_44 (by decide) (fun c1 => ?_) (fun c1 => ?_)
    · replace h := h.1 c1
      refine lv_bipush (v := -4) hx hb dX5_judge_86 (by decide) ?_
      exact ret_i C w h dX5_judge_88
    replace h := h.2 c1
    refine lv_aload_n hx hb dX5_judge_47 rfl (lv_at hl 1 rfl) ?_
    refine gn_3_4 C w ha3 kn_34 dX5_judge_48 ?_
    refine lv_iload hx hb dX5_judge_51 (lv_at hl 3 rfl) ?_
    have hin2 := h.1
    replace h := h.2
    have hz_hin2 := in_lt hin2
    refine pw_ld C w (i := (8 + a3)) (by omega) (pE_el (by omega)) hin2 rfl dX5_judge_53 ?_
    refine lv_istore (lv' := [(6, .int (M (8 + a3) x5.toNatClampNeg)), (0, .ref (ga G 0)), (3, .ref (ga G a3)), (4, .int x4), (5, .int x5)]) hx hb dX5_judge_54 hl (by decide) rfl (fun ls hl => ?_)
    refine lv_iload hx hb dX5_judge_56 (lv_at hl 0 rfl) ?_
    refine lv_iload hx hb dX5_judge_58 (lv_at hl 3 rfl) ?_
    refine lv_icmp_eq (tgt := 80) hx hb dX5_judge_60 (by decide) (fun c3 => ?_) (fun c3 => ?_)
    · replace h := h.1 c3
      exact t_X5_judge_80 C hk38 M a3 x4 x5 ha3 w (lv_sub hl [1, 2, 3, 4] rfl) h
    replace h := h.2 c3
    refine lv_iload hx hb dX5_judge_63 (lv_at hl 0 rfl) ?_
    refine lv_aload_n hx hb dX5_judge_65 rfl (lv_at hl 1 rfl) ?_
    refine gt_5_3 C w kw_1_22 dX5_judge_66 ?_
    refine lv_iload hx hb dX5_judge_69 (lv_at hl 4 rfl) ?_
    refine end_i w (run_VN (As := [.int x5]) C w hl.1 (c_X0_pullAt l G C.2.2.1 _ _ x5  _ h) kw_19_20 kw_1_21 kn_63 kw_19_18 kw_19_19 hd_X0_pullAt ⟨by decide, by decide⟩ (w.recv C (i := 4) (by decide) (pE_0) rfl) rfl (Nat.le_of_ble_eq_true rfl) dX5_judge_71) (fun r4 M5 H locs h w => ?_)
    refine lv_icmp_eq (tgt := 80) hx hb dX5_judge_74 (by decide) (fun c6 => ?_) (fun c6 => ?_)
    · replace h := h.1 c6
      exact t_X5_judge_80 C hk38 M5 a3 x4 x5 ha3 w (lv_sub hl [1, 2, 3, 4] rfl) h
    replace h := h.2 c6
    refine lv_iload hx hb dX5_judge_77 (lv_at hl 4 rfl) ?_
    exact ret_i C w h dX5_judge_79
set_option maxHeartbeats 4000000 in
set_option maxRecDepth 100000 in
theorem c_X5_judge (l : Launch) (G : GG) (hG : Ag G) (sz : Nat) (M : Mem) (x1 : Int32) (post : Int32 → Mem → Prop) (h : q_X5_judge M x1 post) : Met l yX5_judge (Cond.code yX5_judge cX5_judge 7 (some .int) :: wsL_law) (rmk 5) (va_Pc [.ref (ga G 0), .int x1] (Pw G sz M)) (va_Qi post (Qw G) (Af G sz)) 0 0 (Af G sz) := by
  refine Met.ofW (cc := cX5_judge) (maxL := 7) (ret := (some .int)) (by decide) rfl ?_
  intro p e s m args below meth c s₁ B hml hv
  obtain ⟨rfl, hsz, hE, hP⟩ := hv
  subst hsz
  have C := Cx.of (own := RX5) hG hE rfl hml B
  have w : Wd G s M s.heap [] := ⟨hP, va_S.rf⟩
  have hl := lv_entry [.ref (ga G 0), .int x1] (n := 7) (Nat.le_of_ble_eq_true rfl)
  rw [lg_entry_eq]
  generalize (lg_sl [.ref (ga G 0), .int x1] ++ List.replicate (7 - (lg_sl [.ref (ga G 0), .int x1]).length) Slot.unset).toArray = ls at hl ⊢
  have hl : lv_has ls 7 [(0, .ref (ga G 0)), (1, .int x1)] := hl
  have hx := C.1.1
  have hb := C.1.2.1
  show W p l e (rmk 5) s m _ below meth c s.heap [] 0 0 _ _
  unfold q_X5_judge at h
  refine lv_aload_n hx hb dX5_judge_0 rfl (lv_at hl 0 rfl) ?_
  refine lv_iload_n hx hb dX5_judge_1 rfl (lv_at hl 1 rfl) ?_
  refine end_i w (run_V (As := [.int x1]) C w hl.1 (c_X5_refusalOfRow l G C.2.2.1 _ _ x1  _ h) kw_5_22 kw_1_2 kw_5_19 kw_5_20 kw_5_21 hd_X5_refusalOfRow ⟨by decide, by decide⟩ (w.recv C (i := 0) (by decide) (pE_5) rfl) rfl (Nat.le_of_ble_eq_true rfl) dX5_judge_2) (fun r7 M8 H locs h w => ?_)
  refine lv_istore_n (lv' := [(2, .int r7), (0, .ref (ga G 0)), (1, .int x1)]) hx hb dX5_judge_5 rfl hl (by decide) rfl (fun ls hl => ?_)
  refine lv_iload_n hx hb dX5_judge_6 rfl (lv_at hl 0 rfl) ?_
  refine lv_if_ge (tgt := 12) hx hb dX5_judge_7 (by decide) (fun c9 => ?_) (fun c9 => ?_)
  · replace h := h.1 c9
    refine lv_aload_n hx hb dX5_judge_12 rfl (lv_at hl 1 rfl) ?_
    refine end_i w (run_V (As := []) C w hl.1 (c_X5_layLine l G C.2.2.1 _ _   _ h) kw_15_21 kw_1_2 kw_15_18 kw_15_19 kw_15_20 hd_X5_layLine ⟨by decide, by decide⟩ (w.recv C (i := 0) (by decide) (pE_5) rfl) rfl (Nat.le_of_ble_eq_true rfl) dX5_judge_13) (fun r10 M11 H locs h w => ?_)
    refine lv_if_ne (tgt := 22) hx hb dX5_judge_16 (by decide) (fun c12 => ?_) (fun c12 => ?_)
    · replace h := h.2 c12
      refine lv_aload_n hx hb dX5_judge_22 rfl (lv_at hl 1 rfl) ?_
      refine gt_5_6 C w kw_2_8 dX5_judge_23 ?_
      refine lv_iload_n hx hb dX5_judge_26 rfl (lv_at hl 2 rfl) ?_
      have hin13 := h.1
      replace h := h.2
      have hz_hin13 := in_lt hin13
      refine pw_ldS C w hin13 rfl dX5_judge_27 ?_
      refine lv_astore_n (lv' := [(3, .ref (ga G (14 + x1.toNatClampNeg))), (2, .int r7), (0, .ref (ga G 0)), (1, .int x1)]) hx hb dX5_judge_28 rfl hl (by decide) rfl (fun ls hl => ?_)
      refine lv_aload_n hx hb dX5_judge_29 rfl (lv_at hl 0 rfl) ?_
      refine end_i w (run_VN (As := []) C w hl.1 (c_X3_leastOfSort l G C.2.2.1 _ _ (14 + x1.toNatClampNeg) (by omega) _ h) kw_34_14 kw_2_11 kn_78 kw_34_12 kw_34_13 hd_X3_leastOfSort ⟨by decide, by decide⟩ (w.recv C (i := (14 + x1.toNatClampNeg)) (by omega) (pE_3 (by omega)) rfl) rfl (Nat.le_of_ble_eq_true rfl) dX5_judge_30) (fun r14 M15 H locs h w => ?_)
      refine lv_istore (lv' := [(4, .int r14), (3, .ref (ga G (14 + x1.toNatClampNeg))), (2, .int r7), (0, .ref (ga G 0)), (1, .int x1)]) hx hb dX5_judge_33 hl (by decide) rfl (fun ls hl => ?_)
      refine lv_iconst (v := 0) hx hb dX5_judge_35 (by decide) ?_
      refine lv_istore (lv' := [(5, .int (0 : Int32)), (4, .int r14), (3, .ref (ga G (14 + x1.toNatClampNeg))), (2, .int r7), (0, .ref (ga G 0)), (1, .int x1)]) hx hb dX5_judge_36 hl (by decide) rfl (fun ls hl => ?_)
      obtain ⟨n, h⟩ := h
      exact t_X5_judge_38 C n M15 (14 + x1.toNatClampNeg) r14 (0 : Int32) (by omega) w (lv_sub hl [4, 2, 1, 0] rfl) h
    replace h := h.1 c12
    refine lv_bipush (v := -3) hx hb dX5_judge_19 (by decide) ?_
    exact ret_i C w h dX5_judge_21
  replace h := h.2 c9
  refine lv_iload_n hx hb dX5_judge_10 rfl (lv_at hl 0 rfl) ?_
  exact ret_i C w h dX5_judge_11
def j_X6_leastNumber_32 (post : Int32 → Mem → Prop) (M : Mem) (y0 : Int32) : Prop := post y0 M
def q_X6_leastNumber (M : Mem) (x1 : Int32) (post : Int32 → Mem → Prop) : Prop := vp_in x1 8 ∧ (((M 63 x1.toNatClampNeg) = 0 → (j_X6_leastNumber_32 post M (-128 : Int32))) ∧ (¬ ((M 63 x1.toNatClampNeg) = 0) → (((M 63 x1.toNatClampNeg) = (1 : Int32) → (j_X6_leastNumber_32 post M (-32768 : Int32))) ∧ (¬ ((M 63 x1.toNatClampNeg) = (1 : Int32)) → (j_X6_leastNumber_32 post M (-2147483648 : Int32))))))
set_option maxHeartbeats 4000000 in
set_option maxRecDepth 100000 in
theorem t_X6_leastNumber_32 (C : Cx G p s m args meth c RX6 cX6_leastNumber 2 (some .int)) {post : Int32 → Mem → Prop} (M : Mem) (y0 : Int32) {H : Heap} {locs : List Loc} {ls : Array Slot} (w : Wd G s M H locs) (hl : lv_has ls 2 []) (h : j_X6_leastNumber_32 post M y0) : W p l e (rmk 1) s m args below meth c H locs 0 0 (MQ below (va_Qi post (Qw G) (Af G s.heap.size)) args s 0 0 (Af G s.heap.size)) (F0 m 32 ls [.int y0]) := by
  have hx := C.1.1
  have hb := C.1.2.1
  unfold j_X6_leastNumber_32 at h
  exact ret_i C w h dX6_leastNumber_32
set_option maxHeartbeats 4000000 in
set_option maxRecDepth 100000 in
theorem c_X6_leastNumber (l : Launch) (G : GG) (hG : Ag G) (sz : Nat) (M : Mem) (x1 : Int32) (post : Int32 → Mem → Prop) (h : q_X6_leastNumber M x1 post) : Met l yX6_leastNumber (Cond.code yX6_leastNumber cX6_leastNumber 2 (some .int) :: wsL_law) (rmk 1) (va_Pc [.ref (ga G 57), .int x1] (Pw G sz M)) (va_Qi post (Qw G) (Af G sz)) 0 0 (Af G sz) := by
  refine Met.ofW (cc := cX6_leastNumber) (maxL := 2) (ret := (some .int)) (by decide) rfl ?_
  intro p e s m args below meth c s₁ B hml hv
  obtain ⟨rfl, hsz, hE, hP⟩ := hv
  subst hsz
  have C := Cx.of (own := RX6) hG hE rfl hml B
  have w : Wd G s M s.heap [] := ⟨hP, va_S.rf⟩
  have hl := lv_entry [.ref (ga G 57), .int x1] (n := 2) (Nat.le_of_ble_eq_true rfl)
  rw [lg_entry_eq]
  generalize (lg_sl [.ref (ga G 57), .int x1] ++ List.replicate (2 - (lg_sl [.ref (ga G 57), .int x1]).length) Slot.unset).toArray = ls at hl ⊢
  have hl : lv_has ls 2 [(0, .ref (ga G 57)), (1, .int x1)] := hl
  have hx := C.1.1
  have hb := C.1.2.1
  show W p l e (rmk 1) s m _ below meth c s.heap [] 0 0 _ _
  unfold q_X6_leastNumber at h
  refine lv_aload_n hx hb dX6_leastNumber_0 rfl (lv_at hl 0 rfl) ?_
  refine gt_6_5 C w kw_5_5 dX6_leastNumber_1 ?_
  refine lv_iload_n hx hb dX6_leastNumber_4 rfl (lv_at hl 1 rfl) ?_
  have hin1 := h.1
  replace h := h.2
  have hz_hin1 := in_lt hin1
  refine pw_ld C w (i := 63) (by decide) pE_63 hin1 rfl dX6_leastNumber_5 ?_
  refine lv_if_ne (tgt := 14) hx hb dX6_leastNumber_6 (by decide) (fun c2 => ?_) (fun c2 => ?_)
  · replace h := h.2 c2
    refine lv_aload_n hx hb dX6_leastNumber_14 rfl (lv_at hl 0 rfl) ?_
    refine gt_6_5 C w kw_5_5 dX6_leastNumber_15 ?_
    refine lv_iload_n hx hb dX6_leastNumber_18 rfl (lv_at hl 1 rfl) ?_
    refine pw_ld C w (i := 63) (by decide) pE_63 hin1 rfl dX6_leastNumber_19 ?_
    refine lv_iconst (v := 1) hx hb dX6_leastNumber_20 (by decide) ?_
    refine lv_icmp_ne (tgt := 30) hx hb dX6_leastNumber_21 (by decide) (fun c3 => ?_) (fun c3 => ?_)
    · replace h := h.2 c3
      refine lv_ldc hx hb C.1.2.2.2.1 (C.ws kw_35_0) dX6_leastNumber_30 ?_
      exact t_X6_leastNumber_32 C M (-2147483648 : Int32)  w (lv_sub hl [] rfl) h
    replace h := h.1 c3
    refine lv_sipush (v := -32768) hx hb dX6_leastNumber_24 (by decide) ?_
    refine lv_goto (tgt := 32) hx hb dX6_leastNumber_27 (by decide) ?_
    exact t_X6_leastNumber_32 C M (-32768 : Int32)  w (lv_sub hl [] rfl) h
  replace h := h.1 c2
  refine lv_bipush (v := -128) hx hb dX6_leastNumber_9 (by decide) ?_
  refine lv_goto (tgt := 32) hx hb dX6_leastNumber_11 (by decide) ?_
  exact t_X6_leastNumber_32 C M (-128 : Int32)  w (lv_sub hl [] rfl) h
def j_X6_judge_88 (k37 : Mem → Int32 → Int32 → Prop) (post : Int32 → Mem → Prop) (M : Mem) (x1 : Int32) (x3 : Int32) : Prop := k37 M x1 (x3 + (1 : Int32))
def b_X6_judge_37 (k37 : Mem → Int32 → Int32 → Prop) (post : Int32 → Mem → Prop) (M : Mem) (x1 : Int32) (x3 : Int32) : Prop := vp_in x1 8 ∧ (((M 64 x1.toNatClampNeg) ≤ x3 → (post (-4 : Int32) M)) ∧ (¬ ((M 64 x1.toNatClampNeg) ≤ x3) → (vp_in (((100 : Int32) * x1) + x3) 800 ∧ (∀ v4 : Int32, v4 = (M 65 (((100 : Int32) * x1) + x3).toNatClampNeg) → (q_X6_leastNumber M x1 (fun r5 M6 => (v4 = r5 → (j_X6_judge_88 k37 post M6 x1 x3)) ∧ (¬ (v4 = r5) → (q_X6_pullAt M6 x3 (M6 58 5) (fun r8 M9 => (v4 = r8 → (j_X6_judge_88 k37 post M9 x1 x3)) ∧ (¬ (v4 = r8) → (post x3 M9)))))))))))
def lp_X6_judge_37 (post : Int32 → Mem → Prop) : Nat → Mem → Int32 → Int32 → Prop
  | 0 => fun _ _ _ => False
  | n + 1 => fun M x1 x3 => b_X6_judge_37 (lp_X6_judge_37 post n) post M x1 x3
def j_X6_judge_21 (post : Int32 → Mem → Prop) (M : Mem) (x1 : Int32) (x2 : Int32) : Prop := (x2 = 0 → (q_X6_allPieces M  (fun r12 M13 => q_X6_sumsUp M13 r12 (fun M15 => ∃ n, lp_X6_judge_37 post n M15 x1 (0 : Int32))))) ∧ (¬ (x2 = 0) → (post x2 M))
def q_X6_judge (M : Mem) (x1 : Int32) (post : Int32 → Mem → Prop) : Prop := q_X6_wrongRow M x1 (-1 : Int32) (fun r16 M17 => (r16 = 0 → (q_X6_isLine M17  (fun r19 M20 => (r19 = 0 → (j_X6_judge_21 post M20 x1 (-3 : Int32))) ∧ (¬ (r19 = 0) → (j_X6_judge_21 post M20 x1 r16))))) ∧ (¬ (r16 = 0) → (j_X6_judge_21 post M17 x1 r16)))
set_option maxHeartbeats 4000000 in
set_option maxRecDepth 100000 in
theorem t_X6_judge_88 (C : Cx G p s m args meth c RX6 cX6_judge 5 (some .int)) {post : Int32 → Mem → Prop} {k37 : Mem → Int32 → Int32 → Prop} (hk37 : ∀ (M : Mem) (x1 : Int32) (x3 : Int32) (H : Heap) (locs : List Loc) (ls : Array Slot), Wd G s M H locs → lv_has ls 5 [(0, .ref (ga G 57)), (1, .int x1), (3, .int x3)] → k37 M x1 x3 → W p l e (rmk 4) s m args below meth c H locs 0 0 (MQ below (va_Qi post (Qw G) (Af G s.heap.size)) args s 0 0 (Af G s.heap.size)) (F0 m 37 ls [])) (M : Mem) (x1 : Int32) (x3 : Int32) {H : Heap} {locs : List Loc} {ls : Array Slot} (w : Wd G s M H locs) (hl : lv_has ls 5 [(0, .ref (ga G 57)), (1, .int x1), (3, .int x3)]) (h : j_X6_judge_88 k37 post M x1 x3) : W p l e (rmk 4) s m args below meth c H locs 0 0 (MQ below (va_Qi post (Qw G) (Af G s.heap.size)) args s 0 0 (Af G s.heap.size)) (F0 m 88 ls []) := by
  have hx := C.1.1
  have hb := C.1.2.1
  unfold j_X6_judge_88 at h
  refine lv_iinc (v := (x3 + (1 : Int32))) (lv' := [(3, .int (x3 + (1 : Int32))), (0, .ref (ga G 57)), (1, .int x1)]) hx hb dX6_judge_88 hl (k := 2) rfl rfl (by decide) rfl (fun ls hl => ?_)
  refine lv_goto (tgt := 37) hx hb dX6_judge_91 (by decide) ?_
  exact hk37 M x1 (x3 + (1 : Int32)) _ _ _  w (lv_sub hl [1, 2, 0] rfl) h
set_option maxHeartbeats 4000000 in
set_option maxRecDepth 100000 in
theorem t_X6_judge_37 (C : Cx G p s m args meth c RX6 cX6_judge 5 (some .int)) {post : Int32 → Mem → Prop} : ∀ (n : Nat) (M : Mem) (x1 : Int32) (x3 : Int32) {H : Heap} {locs : List Loc} {ls : Array Slot} (w : Wd G s M H locs) (hl : lv_has ls 5 [(0, .ref (ga G 57)), (1, .int x1), (3, .int x3)]) (h : lp_X6_judge_37 post n M x1 x3), W p l e (rmk 4) s m args below meth c H locs 0 0 (MQ below (va_Qi post (Qw G) (Af G s.heap.size)) args s 0 0 (Af G s.heap.size)) (F0 m 37 ls []) := by
  have hx := C.1.1
  have hb := C.1.2.1
  intro n9
  induction n9 with
  | zero => intro M x1 x3 H locs ls w hl h; exact absurd h id
  | succ n9 ih9 =>
    intro M x1 x3 H locs ls w hl h
    have hk37 : ∀ (M : Mem) (x1 : Int32) (x3 : Int32) (H : Heap) (locs : List Loc) (ls : Array Slot), Wd G s M H locs → lv_has ls 5 [(0, .ref (ga G 57)), (1, .int x1), (3, .int x3)] → lp_X6_judge_37 post n9 M x1 x3 → W p l e (rmk 4) s m args below meth c H locs 0 0 (MQ below (va_Qi post (Qw G) (Af G s.heap.size)) args s 0 0 (Af G s.heap.size)) (F0 m 37 ls []) := fun M x1 x3 H locs ls w hl h => ih9 M x1 x3 w hl h
    replace h : b_X6_judge_37 (lp_X6_judge_37 post n9) post M x1 x3 := h
    unfold b_X6_judge_37 at h
    refine lv_iload_n hx hb dX6_judge_37 rfl (lv_at hl 2 rfl) ?_
    refine lv_aload_n hx hb dX6_judge_38 rfl (lv_at hl 0 rfl) ?_
    refine gt_6_6 C w kw_5_6 dX6_judge_39 ?_
    refine lv_iload_n hx hb dX6_judge_42 rfl (lv_at hl 1 rfl) ?_
    have hin1 := h.1
    replace h := h.2
    have hz_hin1 := in_lt hin1
    refine pw_ld C w (i := 64) (by decide) pE_64 hin1 rfl dX6_judge_43 ?_
    refine lv_icmp_ge (tgt := 94) hx hb dX6_judge_44 (by decide) (fun c2 => ?_) (fun c2 => ?_)
    · replace h := h.1 c2
      refine lv_bipush (v := -4) hx hb dX6_judge_94 (by decide) ?_
      exact ret_i C w h dX6_judge_96
    replace h := h.2 c2
    refine lv_aload_n hx hb dX6_judge_47 rfl (lv_at hl 0 rfl) ?_
    refine gt_6_7 C w kw_5_7 dX6_judge_48 ?_
    refine lv_bipush (v := 100) hx hb dX6_judge_51 (by decide) ?_
    refine lv_iload_n hx hb dX6_judge_53 rfl (lv_at hl 1 rfl) ?_
    refine lv_imul hx hb dX6_judge_54 ?_
    refine lv_iload_n hx hb dX6_judge_55 rfl (lv_at hl 2 rfl) ?_
    refine lv_iadd hx hb dX6_judge_56 ?_
    have hin3 := h.1
    replace h := h.2
    have hz_hin3 := in_lt hin3
    refine pw_ld C w (i := 65) (by decide) pE_65 hin3 rfl dX6_judge_57 ?_
    refine lv_topi (fun v4 ev4 => ?_)
    replace h := h v4 ev4
    refine lv_istore (lv' := [(4, .int v4), (0, .ref (ga G 57)), (1, .int x1), (3, .int x3)]) hx hb dX6_judge_58 hl (by decide) rfl (fun ls hl => ?_)
    refine lv_iload hx hb dX6_judge_60 (lv_at hl 0 rfl) ?_
    refine lv_aload_n hx hb dX6_judge_62 rfl (lv_at hl 1 rfl) ?_
    refine lv_iload_n hx hb dX6_judge_63 rfl (lv_at hl 2 rfl) ?_
    refine end_i w (run_V (As := [.int x1]) C w hl.1 (c_X6_leastNumber l G C.2.2.1 _ _ x1  _ h) kw_34_23 kw_1_5 kw_34_20 kw_34_21 kw_34_22 hd_X6_leastNumber ⟨by decide, by decide⟩ (w.recv C (i := 57) (by decide) (pE_6) rfl) rfl (Nat.le_of_ble_eq_true rfl) dX6_judge_64) (fun r5 M6 H locs h w => ?_)
    refine lv_icmp_eq (tgt := 88) hx hb dX6_judge_67 (by decide) (fun c7 => ?_) (fun c7 => ?_)
    · replace h := h.1 c7
      exact t_X6_judge_88 C hk37 M6 x1 x3  w (lv_sub hl [1, 2, 3] rfl) h
    replace h := h.2 c7
    refine lv_iload hx hb dX6_judge_70 (lv_at hl 0 rfl) ?_
    refine lv_aload_n hx hb dX6_judge_72 rfl (lv_at hl 1 rfl) ?_
    refine lv_iload_n hx hb dX6_judge_73 rfl (lv_at hl 3 rfl) ?_
    refine lv_aload_n hx hb dX6_judge_74 rfl (lv_at hl 1 rfl) ?_
    refine gt_6_0 C w kw_5_0 dX6_judge_75 ?_
    refine lv_iconst (v := 5) hx hb dX6_judge_78 (by decide) ?_
    refine pw_ld C w (i := 58) (by decide) pE_58 (vl (x := (5 : Int32)) (by decide)) (k := 5) (by decide) dX6_judge_79 ?_
    refine end_i w (run_V (As := [.int x3, .int (M6 58 5)]) C w hl.1 (c_X6_pullAt l G C.2.2.1 _ _ x3 (M6 58 5)  _ h) kw_20_16 kw_1_5 kw_20_13 kw_20_14 kw_20_15 hd_X6_pullAt ⟨by decide, by decide⟩ (w.recv C (i := 57) (by decide) (pE_6) rfl) rfl (Nat.le_of_ble_eq_true rfl) dX6_judge_80) (fun r8 M9 H locs h w => ?_)
    refine lv_icmp_eq (tgt := 88) hx hb dX6_judge_83 (by decide) (fun c10 => ?_) (fun c10 => ?_)
    · replace h := h.1 c10
      exact t_X6_judge_88 C hk37 M9 x1 x3  w (lv_sub hl [1, 2, 3] rfl) h
    replace h := h.2 c10
    refine lv_iload_n hx hb dX6_judge_86 rfl (lv_at hl 3 rfl) ?_
    exact ret_i C w h dX6_judge_87
set_option maxHeartbeats 4000000 in
set_option maxRecDepth 100000 in
theorem t_X6_judge_21 (C : Cx G p s m args meth c RX6 cX6_judge 5 (some .int)) {post : Int32 → Mem → Prop} (M : Mem) (x1 : Int32) (x2 : Int32) {H : Heap} {locs : List Loc} {ls : Array Slot} (w : Wd G s M H locs) (hl : lv_has ls 5 [(0, .ref (ga G 57)), (1, .int x1), (2, .int x2)]) (h : j_X6_judge_21 post M x1 x2) : W p l e (rmk 4) s m args below meth c H locs 0 0 (MQ below (va_Qi post (Qw G) (Af G s.heap.size)) args s 0 0 (Af G s.heap.size)) (F0 m 21 ls []) := by
  have hx := C.1.1
  have hb := C.1.2.1
  unfold j_X6_judge_21 at h
  refine lv_iload_n hx hb dX6_judge_21 rfl (lv_at hl 2 rfl) ?_
  refine lv_if_eq (tgt := 27) hx hb dX6_judge_22 (by decide) (fun c11 => ?_) (fun c11 => ?_)
  · replace h := h.1 c11
    refine lv_aload_n hx hb dX6_judge_27 rfl (lv_at hl 0 rfl) ?_
    refine lv_aload_n hx hb dX6_judge_28 rfl (lv_at hl 0 rfl) ?_
    refine end_i w (run_V (As := []) C w hl.1 (c_X6_allPieces l G C.2.2.1 _ _   _ h) kw_17_15 kw_1_5 kw_17_12 kw_17_13 kw_17_14 hd_X6_allPieces ⟨by decide, by decide⟩ (w.recv C (i := 57) (by decide) (pE_6) rfl) rfl (Nat.le_of_ble_eq_true rfl) dX6_judge_29) (fun r12 M13 H locs h w => ?_)
    refine end_v w (run_V (As := [.int r12]) C w hl.1 (c_X6_sumsUp l G C.2.2.1 _ _ r12  _ h) kw_17_19 kw_1_5 kw_17_16 kw_17_17 kw_17_18 hd_X6_sumsUp ⟨by decide, by decide⟩ (w.recv C (i := 57) (by decide) (pE_6) rfl) rfl (Nat.le_of_ble_eq_true rfl) dX6_judge_32) (fun M15 H locs h w => ?_)
    refine lv_iconst (v := 0) hx hb dX6_judge_35 (by decide) ?_
    refine lv_istore_n (lv' := [(3, .int (0 : Int32)), (0, .ref (ga G 57)), (1, .int x1), (2, .int x2)]) hx hb dX6_judge_36 rfl hl (by decide) rfl (fun ls hl => ?_)
    obtain ⟨n, h⟩ := h
    exact t_X6_judge_37 C n M15 x1 (0 : Int32)  w (lv_sub hl [1, 2, 0] rfl) h
  replace h := h.2 c11
  refine lv_iload_n hx hb dX6_judge_25 rfl (lv_at hl 2 rfl) ?_
  exact ret_i C w h dX6_judge_26
set_option maxHeartbeats 4000000 in
set_option maxRecDepth 100000 in
theorem c_X6_judge (l : Launch) (G : GG) (hG : Ag G) (sz : Nat) (M : Mem) (x1 : Int32) (post : Int32 → Mem → Prop) (h : q_X6_judge M x1 post) : Met l yX6_judge (Cond.code yX6_judge cX6_judge 5 (some .int) :: wsL_law) (rmk 4) (va_Pc [.ref (ga G 57), .int x1] (Pw G sz M)) (va_Qi post (Qw G) (Af G sz)) 0 0 (Af G sz) := by
  refine Met.ofW (cc := cX6_judge) (maxL := 5) (ret := (some .int)) (by decide) rfl ?_
  intro p e s m args below meth c s₁ B hml hv
  obtain ⟨rfl, hsz, hE, hP⟩ := hv
  subst hsz
  have C := Cx.of (own := RX6) hG hE rfl hml B
  have w : Wd G s M s.heap [] := ⟨hP, va_S.rf⟩
  have hl := lv_entry [.ref (ga G 57), .int x1] (n := 5) (Nat.le_of_ble_eq_true rfl)
  rw [lg_entry_eq]
  generalize (lg_sl [.ref (ga G 57), .int x1] ++ List.replicate (5 - (lg_sl [.ref (ga G 57), .int x1]).length) Slot.unset).toArray = ls at hl ⊢
  have hl : lv_has ls 5 [(0, .ref (ga G 57)), (1, .int x1)] := hl
  have hx := C.1.1
  have hb := C.1.2.1
  show W p l e (rmk 4) s m _ below meth c s.heap [] 0 0 _ _
  unfold q_X6_judge at h
  refine lv_aload_n hx hb dX6_judge_0 rfl (lv_at hl 0 rfl) ?_
  refine lv_iload_n hx hb dX6_judge_1 rfl (lv_at hl 1 rfl) ?_
  refine lv_iconst (v := -1) hx hb dX6_judge_2 (by decide) ?_
  refine end_i w (run_V (As := [.int x1, .int (-1 : Int32)]) C w hl.1 (c_X6_wrongRow l G C.2.2.1 _ _ x1 (-1 : Int32)  _ h) kw_11_22 kw_1_5 kw_11_19 kw_11_20 kw_11_21 hd_X6_wrongRow ⟨by decide, by decide⟩ (w.recv C (i := 57) (by decide) (pE_6) rfl) rfl (Nat.le_of_ble_eq_true rfl) dX6_judge_3) (fun r16 M17 H locs h w => ?_)
  refine lv_istore_n (lv' := [(2, .int r16), (0, .ref (ga G 57)), (1, .int x1)]) hx hb dX6_judge_6 rfl hl (by decide) rfl (fun ls hl => ?_)
  refine lv_iload_n hx hb dX6_judge_7 rfl (lv_at hl 0 rfl) ?_
  refine lv_if_ne (tgt := 21) hx hb dX6_judge_8 (by decide) (fun c18 => ?_) (fun c18 => ?_)
  · replace h := h.2 c18
    exact t_X6_judge_21 C M17 x1 r16  w (lv_sub hl [1, 2, 0] rfl) h
  replace h := h.1 c18
  refine lv_aload_n hx hb dX6_judge_11 rfl (lv_at hl 1 rfl) ?_
  refine end_i w (run_V (As := []) C w hl.1 (c_X6_isLine l G C.2.2.1 _ _   _ h) kw_17_11 kw_1_5 kw_17_8 kw_17_9 kw_17_10 hd_X6_isLine ⟨by decide, by decide⟩ (w.recv C (i := 57) (by decide) (pE_6) rfl) rfl (Nat.le_of_ble_eq_true rfl) dX6_judge_12) (fun r19 M20 H locs h w => ?_)
  refine lv_if_ne (tgt := 21) hx hb dX6_judge_15 (by decide) (fun c21 => ?_) (fun c21 => ?_)
  · replace h := h.2 c21
    exact t_X6_judge_21 C M20 x1 r16  w (lv_sub hl [1, 2, 0] rfl) h
  replace h := h.1 c21
  refine lv_bipush (v := -3) hx hb dX6_judge_18 (by decide) ?_
  refine lv_istore_n (lv' := [(2, .int (-3 : Int32)), (0, .ref (ga G 57)), (1, .int x1)]) hx hb dX6_judge_20 rfl hl (by decide) rfl (fun ls hl => ?_)
  exact t_X6_judge_21 C M20 x1 (-3 : Int32)  w (lv_sub hl [1, 2, 0] rfl) h
def q_X5_image (M : Mem) (post : Int32 → Mem → Prop) : Prop := q_X4_become M 2 1 (fun M2 => ∀ M3 : Mem, M3 = (mup M2 0 7 (1 : Int32)) → (post (M3 1 5) M3))
set_option maxHeartbeats 4000000 in
set_option maxRecDepth 100000 in
theorem c_X5_image (l : Launch) (G : GG) (hG : Ag G) (sz : Nat) (M : Mem) (post : Int32 → Mem → Prop) (h : q_X5_image M post) : Met l yX5_image (Cond.code yX5_image cX5_image 1 (some .int) :: wsL_law) (rmk 3) (va_Pc [.ref (ga G 0)] (Pw G sz M)) (va_Qi post (Qw G) (Af G sz)) 0 0 (Af G sz) := by
  refine Met.ofW (cc := cX5_image) (maxL := 1) (ret := (some .int)) (by decide) rfl ?_
  intro p e s m args below meth c s₁ B hml hv
  obtain ⟨rfl, hsz, hE, hP⟩ := hv
  subst hsz
  have C := Cx.of (own := RX5) hG hE rfl hml B
  have w : Wd G s M s.heap [] := ⟨hP, va_S.rf⟩
  have hl := lv_entry [.ref (ga G 0)] (n := 1) (Nat.le_of_ble_eq_true rfl)
  rw [lg_entry_eq]
  generalize (lg_sl [.ref (ga G 0)] ++ List.replicate (1 - (lg_sl [.ref (ga G 0)]).length) Slot.unset).toArray = ls at hl ⊢
  have hl : lv_has ls 1 [(0, .ref (ga G 0))] := hl
  have hx := C.1.1
  have hb := C.1.2.1
  show W p l e (rmk 3) s m _ below meth c s.heap [] 0 0 _ _
  unfold q_X5_image at h
  refine lv_aload_n hx hb dX5_image_0 rfl (lv_at hl 0 rfl) ?_
  refine gt_5_1 C w kw_1_17 dX5_image_1 ?_
  refine lv_aload_n hx hb dX5_image_4 rfl (lv_at hl 0 rfl) ?_
  refine gt_5_0 C w kw_1_16 dX5_image_5 ?_
  refine end_v w (run_VN (As := [.ref (ga G 1)]) C w hl.1 (c_X4_become l G C.2.2.1 _ _ 2 1 ⟨by decide, by decide⟩ ⟨by decide, by decide⟩ _ h) kw_6_11 kw_1_15 kn_44 kw_6_9 kw_6_10 hd_X4_become ⟨by decide, by decide⟩ (w.recv C (i := 2) (by decide) (pE_4 ⟨by decide, by decide⟩) rfl) rfl (Nat.le_of_ble_eq_true rfl) dX5_image_8) (fun M2 H locs h w => ?_)
  refine lv_aload_n hx hb dX5_image_11 rfl (lv_at hl 0 rfl) ?_
  refine lv_iconst (v := 1) hx hb dX5_image_12 (by decide) ?_
  refine pt_5_7 C w (Or.inr rfl) kw_2_9 dX5_image_13 (fun H locs w => ?_)
  obtain ⟨M3, eM3⟩ : ∃ z : Mem, z = (mup M2 0 7 (1 : Int32)) := ⟨_, rfl⟩
  replace w : Wd G s M3 H locs := by rw [eM3]; exact w
  replace h := h M3 eM3
  refine lv_aload_n hx hb dX5_image_16 rfl (lv_at hl 0 rfl) ?_
  refine gt_5_0 C w kw_1_16 dX5_image_17 ?_
  refine gn_4_5 C w ⟨by decide, by decide⟩ kn_20 dX5_image_20 ?_
  exact ret_i C w h dX5_image_23
def q_X6_image (M : Mem) (post : Int32 → Mem → Prop) : Prop := q_X6_copies M 58 59 (fun M2 => ∀ M3 : Mem, M3 = (mup M2 57 10 (1 : Int32)) → (post (M3 58 1) M3))
set_option maxHeartbeats 4000000 in
set_option maxRecDepth 100000 in
theorem c_X6_image (l : Launch) (G : GG) (hG : Ag G) (sz : Nat) (M : Mem) (post : Int32 → Mem → Prop) (h : q_X6_image M post) : Met l yX6_image (Cond.code yX6_image cX6_image 1 (some .int) :: wsL_law) (rmk 2) (va_Pc [.ref (ga G 57)] (Pw G sz M)) (va_Qi post (Qw G) (Af G sz)) 0 0 (Af G sz) := by
  refine Met.ofW (cc := cX6_image) (maxL := 1) (ret := (some .int)) (by decide) rfl ?_
  intro p e s m args below meth c s₁ B hml hv
  obtain ⟨rfl, hsz, hE, hP⟩ := hv
  subst hsz
  have C := Cx.of (own := RX6) hG hE rfl hml B
  have w : Wd G s M s.heap [] := ⟨hP, va_S.rf⟩
  have hl := lv_entry [.ref (ga G 57)] (n := 1) (Nat.le_of_ble_eq_true rfl)
  rw [lg_entry_eq]
  generalize (lg_sl [.ref (ga G 57)] ++ List.replicate (1 - (lg_sl [.ref (ga G 57)]).length) Slot.unset).toArray = ls at hl ⊢
  have hl : lv_has ls 1 [(0, .ref (ga G 57))] := hl
  have hx := C.1.1
  have hb := C.1.2.1
  show W p l e (rmk 2) s m _ below meth c s.heap [] 0 0 _ _
  unfold q_X6_image at h
  refine lv_aload_n hx hb dX6_image_0 rfl (lv_at hl 0 rfl) ?_
  refine gt_6_0 C w kw_5_0 dX6_image_1 ?_
  refine lv_aload_n hx hb dX6_image_4 rfl (lv_at hl 0 rfl) ?_
  refine gt_6_1 C w kw_5_1 dX6_image_5 ?_
  refine end_v w (run_S (As := [.ref (ga G 58), .ref (ga G 59)]) C w hl.1 (c_X6_copies l G C.2.2.1 _ _ 58 59 ⟨by decide, by decide⟩ ⟨by decide, by decide⟩ _ h) kw_13_8 kw_1_5 kw_13_6 kw_13_7 hd_X6_copies ⟨by decide, by decide⟩ rfl (Nat.le_of_ble_eq_true rfl) dX6_image_8) (fun M2 H locs h w => ?_)
  refine lv_aload_n hx hb dX6_image_11 rfl (lv_at hl 0 rfl) ?_
  refine lv_iconst (v := 1) hx hb dX6_image_12 (by decide) ?_
  refine pt_6_10 C w (Or.inr rfl) kw_35_9 dX6_image_13 (fun H locs w => ?_)
  obtain ⟨M3, eM3⟩ : ∃ z : Mem, z = (mup M2 57 10 (1 : Int32)) := ⟨_, rfl⟩
  replace w : Wd G s M3 H locs := by rw [eM3]; exact w
  replace h := h M3 eM3
  refine lv_aload_n hx hb dX6_image_16 rfl (lv_at hl 0 rfl) ?_
  refine gt_6_0 C w kw_5_0 dX6_image_17 ?_
  refine lv_iconst (v := 1) hx hb dX6_image_20 (by decide) ?_
  refine pw_ld C w (i := 58) (by decide) pE_58 (vl (x := (1 : Int32)) (by decide)) (k := 1) (by decide) dX6_image_21 ?_
  exact ret_i C w h dX6_image_22
def q_X5_restore (M : Mem) (post : Int32 → Mem → Prop) : Prop := ((M 0 7) = 0 → (post (-3 : Int32) M)) ∧ (¬ ((M 0 7) = 0) → (q_X4_become M 1 2 (fun M3 => post (M3 1 5) M3)))
set_option maxHeartbeats 4000000 in
set_option maxRecDepth 100000 in
theorem c_X5_restore (l : Launch) (G : GG) (hG : Ag G) (sz : Nat) (M : Mem) (post : Int32 → Mem → Prop) (h : q_X5_restore M post) : Met l yX5_restore (Cond.code yX5_restore cX5_restore 1 (some .int) :: wsL_law) (rmk 3) (va_Pc [.ref (ga G 0)] (Pw G sz M)) (va_Qi post (Qw G) (Af G sz)) 0 0 (Af G sz) := by
  refine Met.ofW (cc := cX5_restore) (maxL := 1) (ret := (some .int)) (by decide) rfl ?_
  intro p e s m args below meth c s₁ B hml hv
  obtain ⟨rfl, hsz, hE, hP⟩ := hv
  subst hsz
  have C := Cx.of (own := RX5) hG hE rfl hml B
  have w : Wd G s M s.heap [] := ⟨hP, va_S.rf⟩
  have hl := lv_entry [.ref (ga G 0)] (n := 1) (Nat.le_of_ble_eq_true rfl)
  rw [lg_entry_eq]
  generalize (lg_sl [.ref (ga G 0)] ++ List.replicate (1 - (lg_sl [.ref (ga G 0)]).length) Slot.unset).toArray = ls at hl ⊢
  have hl : lv_has ls 1 [(0, .ref (ga G 0))] := hl
  have hx := C.1.1
  have hb := C.1.2.1
  show W p l e (rmk 3) s m _ below meth c s.heap [] 0 0 _ _
  unfold q_X5_restore at h
  refine lv_aload_n hx hb dX5_restore_0 rfl (lv_at hl 0 rfl) ?_
  refine gt_5_7 C w kw_2_9 dX5_restore_1 ?_
  refine lv_if_ne (tgt := 10) hx hb dX5_restore_4 (by decide) (fun c1 => ?_) (fun c1 => ?_)
  · replace h := h.2 c1
    refine lv_aload_n hx hb dX5_restore_10 rfl (lv_at hl 0 rfl) ?_
    refine gt_5_0 C w kw_1_16 dX5_restore_11 ?_
    refine lv_aload_n hx hb dX5_restore_14 rfl (lv_at hl 0 rfl) ?_
    refine gt_5_1 C w kw_1_17 dX5_restore_15 ?_
    refine end_v w (run_VN (As := [.ref (ga G 2)]) C w hl.1 (c_X4_become l G C.2.2.1 _ _ 1 2 ⟨by decide, by decide⟩ ⟨by decide, by decide⟩ _ h) kw_6_11 kw_1_15 kn_44 kw_6_9 kw_6_10 hd_X4_become ⟨by decide, by decide⟩ (w.recv C (i := 1) (by decide) (pE_4 ⟨by decide, by decide⟩) rfl) rfl (Nat.le_of_ble_eq_true rfl) dX5_restore_18) (fun M3 H locs h w => ?_)
    refine lv_aload_n hx hb dX5_restore_21 rfl (lv_at hl 0 rfl) ?_
    refine gt_5_0 C w kw_1_16 dX5_restore_22 ?_
    refine gn_4_5 C w ⟨by decide, by decide⟩ kn_20 dX5_restore_25 ?_
    exact ret_i C w h dX5_restore_28
  replace h := h.1 c1
  refine lv_bipush (v := -3) hx hb dX5_restore_7 (by decide) ?_
  exact ret_i C w h dX5_restore_9
def q_X6_restore (M : Mem) (post : Int32 → Mem → Prop) : Prop := ((M 57 10) = 0 → (post (-3 : Int32) M)) ∧ (¬ ((M 57 10) = 0) → (q_X6_copies M 59 58 (fun M3 => post (M3 58 1) M3)))
set_option maxHeartbeats 4000000 in
set_option maxRecDepth 100000 in
theorem c_X6_restore (l : Launch) (G : GG) (hG : Ag G) (sz : Nat) (M : Mem) (post : Int32 → Mem → Prop) (h : q_X6_restore M post) : Met l yX6_restore (Cond.code yX6_restore cX6_restore 1 (some .int) :: wsL_law) (rmk 2) (va_Pc [.ref (ga G 57)] (Pw G sz M)) (va_Qi post (Qw G) (Af G sz)) 0 0 (Af G sz) := by
  refine Met.ofW (cc := cX6_restore) (maxL := 1) (ret := (some .int)) (by decide) rfl ?_
  intro p e s m args below meth c s₁ B hml hv
  obtain ⟨rfl, hsz, hE, hP⟩ := hv
  subst hsz
  have C := Cx.of (own := RX6) hG hE rfl hml B
  have w : Wd G s M s.heap [] := ⟨hP, va_S.rf⟩
  have hl := lv_entry [.ref (ga G 57)] (n := 1) (Nat.le_of_ble_eq_true rfl)
  rw [lg_entry_eq]
  generalize (lg_sl [.ref (ga G 57)] ++ List.replicate (1 - (lg_sl [.ref (ga G 57)]).length) Slot.unset).toArray = ls at hl ⊢
  have hl : lv_has ls 1 [(0, .ref (ga G 57))] := hl
  have hx := C.1.1
  have hb := C.1.2.1
  show W p l e (rmk 2) s m _ below meth c s.heap [] 0 0 _ _
  unfold q_X6_restore at h
  refine lv_aload_n hx hb dX6_restore_0 rfl (lv_at hl 0 rfl) ?_
  refine gt_6_10 C w kw_35_9 dX6_restore_1 ?_
  refine lv_if_ne (tgt := 10) hx hb dX6_restore_4 (by decide) (fun c1 => ?_) (fun c1 => ?_)
  · replace h := h.2 c1
    refine lv_aload_n hx hb dX6_restore_10 rfl (lv_at hl 0 rfl) ?_
    refine gt_6_1 C w kw_5_1 dX6_restore_11 ?_
    refine lv_aload_n hx hb dX6_restore_14 rfl (lv_at hl 0 rfl) ?_
    refine gt_6_0 C w kw_5_0 dX6_restore_15 ?_
    refine end_v w (run_S (As := [.ref (ga G 59), .ref (ga G 58)]) C w hl.1 (c_X6_copies l G C.2.2.1 _ _ 59 58 ⟨by decide, by decide⟩ ⟨by decide, by decide⟩ _ h) kw_13_8 kw_1_5 kw_13_6 kw_13_7 hd_X6_copies ⟨by decide, by decide⟩ rfl (Nat.le_of_ble_eq_true rfl) dX6_restore_18) (fun M3 H locs h w => ?_)
    refine lv_aload_n hx hb dX6_restore_21 rfl (lv_at hl 0 rfl) ?_
    refine gt_6_0 C w kw_5_0 dX6_restore_22 ?_
    refine lv_iconst (v := 1) hx hb dX6_restore_25 (by decide) ?_
    refine pw_ld C w (i := 58) (by decide) pE_58 (vl (x := (1 : Int32)) (by decide)) (k := 1) (by decide) dX6_restore_26 ?_
    exact ret_i C w h dX6_restore_27
  replace h := h.1 c1
  refine lv_bipush (v := -3) hx hb dX6_restore_7 (by decide) ?_
  exact ret_i C w h dX6_restore_9
def b_X4_hurtOfAll_4 (k4 : Mem → Nat → Int32 → Int32 → Prop) (post : Int32 → Mem → Prop) (M : Mem) (a0 : Nat) (x1 : Int32) (x2 : Int32) : Prop := ((M a0 1) ≤ x2 → (post x1 M)) ∧ (¬ ((M a0 1) ≤ x2) → (vp_in x2 6 ∧ (∀ v3 : Int32, v3 = (x1 + (M (32 + 6 * a0 + x2.toNatClampNeg) 4)) → (k4 M a0 v3 (x2 + (1 : Int32))))))
def lp_X4_hurtOfAll_4 (post : Int32 → Mem → Prop) : Nat → Mem → Nat → Int32 → Int32 → Prop
  | 0 => fun _ _ _ _ => False
  | n + 1 => fun M a0 x1 x2 => b_X4_hurtOfAll_4 (lp_X4_hurtOfAll_4 post n) post M a0 x1 x2
def q_X4_hurtOfAll (M : Mem) (a0 : Nat) (post : Int32 → Mem → Prop) : Prop := ∃ n, lp_X4_hurtOfAll_4 post n M a0 (0 : Int32) (0 : Int32)
set_option maxHeartbeats 4000000 in
set_option maxRecDepth 100000 in
theorem t_X4_hurtOfAll_4 (C : Cx G p s m args meth c RX4 cX4_hurtOfAll 3 (some .int)) {post : Int32 → Mem → Prop} : ∀ (n : Nat) (M : Mem) (a0 : Nat) (x1 : Int32) (x2 : Int32) {H : Heap} {locs : List Loc} {ls : Array Slot} (ha0 : 1 ≤ a0 ∧ a0 < 4) (w : Wd G s M H locs) (hl : lv_has ls 3 [(0, .ref (ga G a0)), (1, .int x1), (2, .int x2)]) (h : lp_X4_hurtOfAll_4 post n M a0 x1 x2), W p l e (rmk 1) s m args below meth c H locs 0 0 (MQ below (va_Qi post (Qw G) (Af G s.heap.size)) args s 0 0 (Af G s.heap.size)) (F0 m 4 ls []) := by
  have hx := C.1.1
  have hb := C.1.2.1
  intro n9
  induction n9 with
  | zero => intro M a0 x1 x2 H locs ls ha0 w hl h; exact absurd h id
  | succ n9 ih9 =>
    intro M a0 x1 x2 H locs ls ha0 w hl h
    have hk4 : ∀ (M : Mem) (a0 : Nat) (x1 : Int32) (x2 : Int32) (H : Heap) (locs : List Loc) (ls : Array Slot), (1 ≤ a0 ∧ a0 < 4) → Wd G s M H locs → lv_has ls 3 [(0, .ref (ga G a0)), (1, .int x1), (2, .int x2)] → lp_X4_hurtOfAll_4 post n9 M a0 x1 x2 → W p l e (rmk 1) s m args below meth c H locs 0 0 (MQ below (va_Qi post (Qw G) (Af G s.heap.size)) args s 0 0 (Af G s.heap.size)) (F0 m 4 ls []) := fun M a0 x1 x2 H locs ls ha0 w hl h => ih9 M a0 x1 x2 ha0 w hl h
    replace h : b_X4_hurtOfAll_4 (lp_X4_hurtOfAll_4 post n9) post M a0 x1 x2 := h
    unfold b_X4_hurtOfAll_4 at h
    refine lv_iload_n hx hb dX4_hurtOfAll_4 rfl (lv_at hl 2 rfl) ?_
    refine lv_aload_n hx hb dX4_hurtOfAll_5 rfl (lv_at hl 0 rfl) ?_
    refine gt_4_1 C w ha0 kw_2_17 dX4_hurtOfAll_6 ?_
    refine lv_icmp_ge (tgt := 30) hx hb dX4_hurtOfAll_9 (by decide) (fun c1 => ?_) (fun c1 => ?_)
    · replace h := h.1 c1
      refine lv_iload_n hx hb dX4_hurtOfAll_30 rfl (lv_at hl 1 rfl) ?_
      exact ret_i C w h dX4_hurtOfAll_31
    replace h := h.2 c1
    refine lv_iload_n hx hb dX4_hurtOfAll_12 rfl (lv_at hl 1 rfl) ?_
    refine lv_aload_n hx hb dX4_hurtOfAll_13 rfl (lv_at hl 0 rfl) ?_
    refine gt_4_0 C w ha0 kw_2_16 dX4_hurtOfAll_14 ?_
    refine lv_iload_n hx hb dX4_hurtOfAll_17 rfl (lv_at hl 2 rfl) ?_
    have hin2 := h.1
    replace h := h.2
    have hz_hin2 := in_lt hin2
    refine pw_ldP C w (i := (7 + a0)) (by omega) hin2 dX4_hurtOfAll_18 (j := (32 + 6 * a0 + x2.toNatClampNeg)) (by omega) ?_
    refine gn_1_4 C w (by omega) kn_5 dX4_hurtOfAll_19 ?_
    refine lv_iadd hx hb dX4_hurtOfAll_22 ?_
    refine lv_topi (fun v3 ev3 => ?_)
    replace h := h v3 ev3
    refine lv_istore_n (lv' := [(1, .int v3), (0, .ref (ga G a0)), (2, .int x2)]) hx hb dX4_hurtOfAll_23 rfl hl (by decide) rfl (fun ls hl => ?_)
    refine lv_iinc (v := (x2 + (1 : Int32))) (lv' := [(2, .int (x2 + (1 : Int32))), (1, .int v3), (0, .ref (ga G a0))]) hx hb dX4_hurtOfAll_24 hl (k := 2) rfl rfl (by decide) rfl (fun ls hl => ?_)
    refine lv_goto (tgt := 4) hx hb dX4_hurtOfAll_27 (by decide) ?_
    exact hk4 M a0 v3 (x2 + (1 : Int32)) _ _ _ ha0 w (lv_sub hl [2, 1, 0] rfl) h
set_option maxHeartbeats 4000000 in
set_option maxRecDepth 100000 in
theorem c_X4_hurtOfAll (l : Launch) (G : GG) (hG : Ag G) (sz : Nat) (M : Mem) (a0 : Nat) (ha0 : 1 ≤ a0 ∧ a0 < 4) (post : Int32 → Mem → Prop) (h : q_X4_hurtOfAll M a0 post) : Met l yX4_hurtOfAll (Cond.code yX4_hurtOfAll cX4_hurtOfAll 3 (some .int) :: wsL_law) (rmk 1) (va_Pc [.ref (ga G a0)] (Pw G sz M)) (va_Qi post (Qw G) (Af G sz)) 0 0 (Af G sz) := by
  refine Met.ofW (cc := cX4_hurtOfAll) (maxL := 3) (ret := (some .int)) (by decide) rfl ?_
  intro p e s m args below meth c s₁ B hml hv
  obtain ⟨rfl, hsz, hE, hP⟩ := hv
  subst hsz
  have C := Cx.of (own := RX4) hG hE rfl hml B
  have w : Wd G s M s.heap [] := ⟨hP, va_S.rf⟩
  have hl := lv_entry [.ref (ga G a0)] (n := 3) (Nat.le_of_ble_eq_true rfl)
  rw [lg_entry_eq]
  generalize (lg_sl [.ref (ga G a0)] ++ List.replicate (3 - (lg_sl [.ref (ga G a0)]).length) Slot.unset).toArray = ls at hl ⊢
  have hl : lv_has ls 3 [(0, .ref (ga G a0))] := hl
  have hx := C.1.1
  have hb := C.1.2.1
  show W p l e (rmk 1) s m _ below meth c s.heap [] 0 0 _ _
  unfold q_X4_hurtOfAll at h
  refine lv_iconst (v := 0) hx hb dX4_hurtOfAll_0 (by decide) ?_
  refine lv_istore_n (lv' := [(1, .int (0 : Int32)), (0, .ref (ga G a0))]) hx hb dX4_hurtOfAll_1 rfl hl (by decide) rfl (fun ls hl => ?_)
  refine lv_iconst (v := 0) hx hb dX4_hurtOfAll_2 (by decide) ?_
  refine lv_istore_n (lv' := [(2, .int (0 : Int32)), (1, .int (0 : Int32)), (0, .ref (ga G a0))]) hx hb dX4_hurtOfAll_3 rfl hl (by decide) rfl (fun ls hl => ?_)
  obtain ⟨n, h⟩ := h
  exact t_X4_hurtOfAll_4 C n M a0 (0 : Int32) (0 : Int32) ha0 w (lv_sub hl [2, 1, 0] rfl) h
def j_X5_count_61 (post : Int32 → Mem → Prop) (M : Mem) (y0 : Int32) : Prop := post y0 M
def q_X5_count (M : Mem) (x1 : Int32) (post : Int32 → Mem → Prop) : Prop := (x1 = (0 : Int32) → (post (M 1 1) M)) ∧ (¬ x1 = (0 : Int32) → ((x1 = (1 : Int32) → (((M 1 7) = (-4 : Int32) → (j_X5_count_61 post M (0 : Int32))) ∧ (¬ ((M 1 7) = (-4 : Int32)) → (j_X5_count_61 post M (1 : Int32))))) ∧ (¬ x1 = (1 : Int32) → ((x1 = (2 : Int32) → (post (M 1 5) M)) ∧ (¬ x1 = (2 : Int32) → ((x1 = (3 : Int32) → (post (M 1 6) M)) ∧ (¬ x1 = (3 : Int32) → ((x1 = (4 : Int32) → (q_X4_hurtOfAll M 1 (fun r7 M8 => post r7 M8))) ∧ (¬ x1 = (4 : Int32) → (post (-1 : Int32) M))))))))))
set_option maxHeartbeats 4000000 in
set_option maxRecDepth 100000 in
theorem t_X5_count_61 (C : Cx G p s m args meth c RX5 cX5_count 2 (some .int)) {post : Int32 → Mem → Prop} (M : Mem) (y0 : Int32) {H : Heap} {locs : List Loc} {ls : Array Slot} (w : Wd G s M H locs) (hl : lv_has ls 2 []) (h : j_X5_count_61 post M y0) : W p l e (rmk 2) s m args below meth c H locs 0 0 (MQ below (va_Qi post (Qw G) (Af G s.heap.size)) args s 0 0 (Af G s.heap.size)) (F0 m 61 ls [.int y0]) := by
  have hx := C.1.1
  have hb := C.1.2.1
  unfold j_X5_count_61 at h
  exact ret_i C w h dX5_count_61
set_option maxHeartbeats 4000000 in
set_option maxRecDepth 100000 in
theorem c_X5_count (l : Launch) (G : GG) (hG : Ag G) (sz : Nat) (M : Mem) (x1 : Int32) (post : Int32 → Mem → Prop) (h : q_X5_count M x1 post) : Met l yX5_count (Cond.code yX5_count cX5_count 2 (some .int) :: wsL_law) (rmk 2) (va_Pc [.ref (ga G 0), .int x1] (Pw G sz M)) (va_Qi post (Qw G) (Af G sz)) 0 0 (Af G sz) := by
  refine Met.ofW (cc := cX5_count) (maxL := 2) (ret := (some .int)) (by decide) rfl ?_
  intro p e s m args below meth c s₁ B hml hv
  obtain ⟨rfl, hsz, hE, hP⟩ := hv
  subst hsz
  have C := Cx.of (own := RX5) hG hE rfl hml B
  have w : Wd G s M s.heap [] := ⟨hP, va_S.rf⟩
  have hl := lv_entry [.ref (ga G 0), .int x1] (n := 2) (Nat.le_of_ble_eq_true rfl)
  rw [lg_entry_eq]
  generalize (lg_sl [.ref (ga G 0), .int x1] ++ List.replicate (2 - (lg_sl [.ref (ga G 0), .int x1]).length) Slot.unset).toArray = ls at hl ⊢
  have hl : lv_has ls 2 [(0, .ref (ga G 0)), (1, .int x1)] := hl
  have hx := C.1.1
  have hb := C.1.2.1
  show W p l e (rmk 2) s m _ below meth c s.heap [] 0 0 _ _
  unfold q_X5_count at h
  refine lv_iload_n hx hb dX5_count_0 rfl (lv_at hl 1 rfl) ?_
  by_cases c1 : x1 = (0 : Int32)
  · replace h := h.1 c1
    refine lv_tableIn (off := 35) (tgt := 36) hx hb dX5_count_1 (by rw [c1]; decide) (by rw [c1]; decide) (by rw [c1]; decide) (by decide) ?_
    refine lv_aload_n hx hb dX5_count_36 rfl (lv_at hl 0 rfl) ?_
    refine gt_5_0 C w kw_1_16 dX5_count_37 ?_
    refine gn_4_1 C w ⟨by decide, by decide⟩ kn_14 dX5_count_40 ?_
    exact ret_i C w h dX5_count_43
  replace h := h.2 c1
  by_cases c2 : x1 = (1 : Int32)
  · replace h := h.1 c2
    refine lv_tableIn (off := 43) (tgt := 44) hx hb dX5_count_1 (by rw [c2]; decide) (by rw [c2]; decide) (by rw [c2]; decide) (by decide) ?_
    refine lv_aload_n hx hb dX5_count_44 rfl (lv_at hl 0 rfl) ?_
    refine gt_5_0 C w kw_1_16 dX5_count_45 ?_
    refine gn_4_7 C w ⟨by decide, by decide⟩ kn_22 dX5_count_48 ?_
    refine lv_bipush (v := -4) hx hb dX5_count_51 (by decide) ?_
    refine lv_icmp_ne (tgt := 60) hx hb dX5_count_53 (by decide) (fun c3 => ?_) (fun c3 => ?_)
    · replace h := h.2 c3
      refine lv_iconst (v := 1) hx hb dX5_count_60 (by decide) ?_
      exact t_X5_count_61 C M (1 : Int32)  w (lv_sub hl [] rfl) h
    replace h := h.1 c3
    refine lv_iconst (v := 0) hx hb dX5_count_56 (by decide) ?_
    refine lv_goto (tgt := 61) hx hb dX5_count_57 (by decide) ?_
    exact t_X5_count_61 C M (0 : Int32)  w (lv_sub hl [] rfl) h
  replace h := h.2 c2
  by_cases c4 : x1 = (2 : Int32)
  · replace h := h.1 c4
    refine lv_tableIn (off := 61) (tgt := 62) hx hb dX5_count_1 (by rw [c4]; decide) (by rw [c4]; decide) (by rw [c4]; decide) (by decide) ?_
    refine lv_aload_n hx hb dX5_count_62 rfl (lv_at hl 0 rfl) ?_
    refine gt_5_0 C w kw_1_16 dX5_count_63 ?_
    refine gn_4_5 C w ⟨by decide, by decide⟩ kn_20 dX5_count_66 ?_
    exact ret_i C w h dX5_count_69
  replace h := h.2 c4
  by_cases c5 : x1 = (3 : Int32)
  · replace h := h.1 c5
    refine lv_tableIn (off := 69) (tgt := 70) hx hb dX5_count_1 (by rw [c5]; decide) (by rw [c5]; decide) (by rw [c5]; decide) (by decide) ?_
    refine lv_aload_n hx hb dX5_count_70 rfl (lv_at hl 0 rfl) ?_
    refine gt_5_0 C w kw_1_16 dX5_count_71 ?_
    refine gn_4_6 C w ⟨by decide, by decide⟩ kn_21 dX5_count_74 ?_
    exact ret_i C w h dX5_count_77
  replace h := h.2 c5
  by_cases c6 : x1 = (4 : Int32)
  · replace h := h.1 c6
    refine lv_tableIn (off := 77) (tgt := 78) hx hb dX5_count_1 (by rw [c6]; decide) (by rw [c6]; decide) (by rw [c6]; decide) (by decide) ?_
    refine lv_aload_n hx hb dX5_count_78 rfl (lv_at hl 0 rfl) ?_
    refine gt_5_0 C w kw_1_16 dX5_count_79 ?_
    refine end_i w (run_VN (As := []) C w hl.1 (c_X4_hurtOfAll l G C.2.2.1 _ _ 1 ⟨by decide, by decide⟩ _ h) kw_36_0 kw_1_15 kn_79 kw_35_22 kw_35_23 hd_X4_hurtOfAll ⟨by decide, by decide⟩ (w.recv C (i := 1) (by decide) (pE_4 ⟨by decide, by decide⟩) rfl) rfl (Nat.le_of_ble_eq_true rfl) dX5_count_82) (fun r7 M8 H locs h w => ?_)
    exact ret_i C w h dX5_count_85
  replace h := h.2 c6
  have nc1 := lv_neT c1 (a := 0) (by decide)
  have nc2 := lv_neT c2 (a := 1) (by decide)
  have nc4 := lv_neT c4 (a := 2) (by decide)
  have nc5 := lv_neT c5 (a := 3) (by decide)
  have nc6 := lv_neT c6 (a := 4) (by decide)
  refine lv_tableOut (tgt := 86) hx hb dX5_count_1 (by omega) (by decide) ?_
  refine lv_iconst (v := -1) hx hb dX5_count_86 (by decide) ?_
  exact ret_i C w h dX5_count_87
def j_X6_count_68 (k45 : Mem → Int32 → Int32 → Int32 → Prop) (post : Int32 → Mem → Prop) (M : Mem) (y0 : Int32) (y1 : Int32) (y3 : Int32) (x1 : Int32) (x3 : Int32) : Prop := q_X6_get M y1 y0 (fun r1 M2 => k45 M2 x1 (y3 + r1) (x3 + (1 : Int32)))
def b_X6_count_45 (k45 : Mem → Int32 → Int32 → Int32 → Prop) (post : Int32 → Mem → Prop) (M : Mem) (x1 : Int32) (x2 : Int32) (x3 : Int32) : Prop := ((M 58 0) ≤ x3 → (post x2 M)) ∧ (¬ ((M 58 0) ≤ x3) → ((x1 = (1 : Int32) → (j_X6_count_68 k45 post M (4 : Int32) x3 x2 x1 x3)) ∧ (¬ (x1 = (1 : Int32)) → (j_X6_count_68 k45 post M (3 : Int32) x3 x2 x1 x3))))
def lp_X6_count_45 (post : Int32 → Mem → Prop) : Nat → Mem → Int32 → Int32 → Int32 → Prop
  | 0 => fun _ _ _ _ => False
  | n + 1 => fun M x1 x2 x3 => b_X6_count_45 (lp_X6_count_45 post n) post M x1 x2 x3
def j_X6_count_43 (post : Int32 → Mem → Prop) (M : Mem) (x1 : Int32) (x2 : Int32) : Prop := ∃ n, lp_X6_count_45 post n M x1 x2 (0 : Int32)
def q_X6_count (M : Mem) (x1 : Int32) (post : Int32 → Mem → Prop) : Prop := (x1 = (0 : Int32) → (post (M 58 0) M)) ∧ (¬ x1 = (0 : Int32) → ((x1 = (1 : Int32) → (j_X6_count_43 post M x1 (0 : Int32))) ∧ (¬ x1 = (1 : Int32) → ((x1 = (2 : Int32) → (post (M 58 1) M)) ∧ (¬ x1 = (2 : Int32) → ((x1 = (3 : Int32) → (post (M 58 2) M)) ∧ (¬ x1 = (3 : Int32) → ((x1 = (4 : Int32) → (j_X6_count_43 post M x1 (0 : Int32))) ∧ (¬ x1 = (4 : Int32) → (post (-1 : Int32) M))))))))))
set_option maxHeartbeats 4000000 in
set_option maxRecDepth 100000 in
theorem t_X6_count_68 (C : Cx G p s m args meth c RX6 cX6_count 4 (some .int)) {post : Int32 → Mem → Prop} {k45 : Mem → Int32 → Int32 → Int32 → Prop} (hk45 : ∀ (M : Mem) (x1 : Int32) (x2 : Int32) (x3 : Int32) (H : Heap) (locs : List Loc) (ls : Array Slot), Wd G s M H locs → lv_has ls 4 [(0, .ref (ga G 57)), (1, .int x1), (2, .int x2), (3, .int x3)] → k45 M x1 x2 x3 → W p l e (rmk 2) s m args below meth c H locs 0 0 (MQ below (va_Qi post (Qw G) (Af G s.heap.size)) args s 0 0 (Af G s.heap.size)) (F0 m 45 ls [])) (M : Mem) (y0 : Int32) (y1 : Int32) (y3 : Int32) (x1 : Int32) (x3 : Int32) {H : Heap} {locs : List Loc} {ls : Array Slot} (w : Wd G s M H locs) (hl : lv_has ls 4 [(0, .ref (ga G 57)), (1, .int x1), (3, .int x3)]) (h : j_X6_count_68 k45 post M y0 y1 y3 x1 x3) : W p l e (rmk 2) s m args below meth c H locs 0 0 (MQ below (va_Qi post (Qw G) (Af G s.heap.size)) args s 0 0 (Af G s.heap.size)) (F0 m 68 ls [.int y0, .int y1, .ref (ga G 57), .int y3]) := by
  have hx := C.1.1
  have hb := C.1.2.1
  unfold j_X6_count_68 at h
  refine end_i w (run_V (As := [.int y1, .int y0]) C w hl.1 (c_X6_get l G C.2.2.1 _ _ y1 y0  _ h) kw_14_10 kw_1_5 kw_14_7 kw_14_8 kw_14_9 hd_X6_get ⟨by decide, by decide⟩ (w.recv C (i := 57) (by decide) (pE_6) rfl) rfl (Nat.le_of_ble_eq_true rfl) dX6_count_68) (fun r1 M2 H locs h w => ?_)
  refine lv_iadd hx hb dX6_count_71 ?_
  refine lv_istore_n (lv' := [(2, .int (y3 + r1)), (0, .ref (ga G 57)), (1, .int x1), (3, .int x3)]) hx hb dX6_count_72 rfl hl (by decide) rfl (fun ls hl => ?_)
  refine lv_iinc (v := (x3 + (1 : Int32))) (lv' := [(3, .int (x3 + (1 : Int32))), (2, .int (y3 + r1)), (0, .ref (ga G 57)), (1, .int x1)]) hx hb dX6_count_73 hl (k := 3) rfl rfl (by decide) rfl (fun ls hl => ?_)
  refine lv_goto (tgt := 45) hx hb dX6_count_76 (by decide) ?_
  exact hk45 M2 x1 (y3 + r1) (x3 + (1 : Int32)) _ _ _  w (lv_sub hl [2, 3, 1, 0] rfl) h
set_option maxHeartbeats 4000000 in
set_option maxRecDepth 100000 in
theorem t_X6_count_45 (C : Cx G p s m args meth c RX6 cX6_count 4 (some .int)) {post : Int32 → Mem → Prop} : ∀ (n : Nat) (M : Mem) (x1 : Int32) (x2 : Int32) (x3 : Int32) {H : Heap} {locs : List Loc} {ls : Array Slot} (w : Wd G s M H locs) (hl : lv_has ls 4 [(0, .ref (ga G 57)), (1, .int x1), (2, .int x2), (3, .int x3)]) (h : lp_X6_count_45 post n M x1 x2 x3), W p l e (rmk 2) s m args below meth c H locs 0 0 (MQ below (va_Qi post (Qw G) (Af G s.heap.size)) args s 0 0 (Af G s.heap.size)) (F0 m 45 ls []) := by
  have hx := C.1.1
  have hb := C.1.2.1
  intro n9
  induction n9 with
  | zero => intro M x1 x2 x3 H locs ls w hl h; exact absurd h id
  | succ n9 ih9 =>
    intro M x1 x2 x3 H locs ls w hl h
    have hk45 : ∀ (M : Mem) (x1 : Int32) (x2 : Int32) (x3 : Int32) (H : Heap) (locs : List Loc) (ls : Array Slot), Wd G s M H locs → lv_has ls 4 [(0, .ref (ga G 57)), (1, .int x1), (2, .int x2), (3, .int x3)] → lp_X6_count_45 post n9 M x1 x2 x3 → W p l e (rmk 2) s m args below meth c H locs 0 0 (MQ below (va_Qi post (Qw G) (Af G s.heap.size)) args s 0 0 (Af G s.heap.size)) (F0 m 45 ls []) := fun M x1 x2 x3 H locs ls w hl h => ih9 M x1 x2 x3 w hl h
    replace h : b_X6_count_45 (lp_X6_count_45 post n9) post M x1 x2 x3 := h
    unfold b_X6_count_45 at h
    refine lv_iload_n hx hb dX6_count_45 rfl (lv_at hl 3 rfl) ?_
    refine lv_aload_n hx hb dX6_count_46 rfl (lv_at hl 0 rfl) ?_
    refine gt_6_0 C w kw_5_0 dX6_count_47 ?_
    refine lv_iconst (v := 0) hx hb dX6_count_50 (by decide) ?_
    refine pw_ld C w (i := 58) (by decide) pE_58 (vl (x := (0 : Int32)) (by decide)) (k := 0) (by decide) dX6_count_51 ?_
    refine lv_icmp_ge (tgt := 79) hx hb dX6_count_52 (by decide) (fun c3 => ?_) (fun c3 => ?_)
    · replace h := h.1 c3
      refine lv_iload_n hx hb dX6_count_79 rfl (lv_at hl 2 rfl) ?_
      exact ret_i C w h dX6_count_80
    replace h := h.2 c3
    refine lv_iload_n hx hb dX6_count_55 rfl (lv_at hl 2 rfl) ?_
    refine lv_aload_n hx hb dX6_count_56 rfl (lv_at hl 0 rfl) ?_
    refine lv_iload_n hx hb dX6_count_57 rfl (lv_at hl 3 rfl) ?_
    refine lv_iload_n hx hb dX6_count_58 rfl (lv_at hl 1 rfl) ?_
    refine lv_iconst (v := 1) hx hb dX6_count_59 (by decide) ?_
    refine lv_icmp_ne (tgt := 67) hx hb dX6_count_60 (by decide) (fun c4 => ?_) (fun c4 => ?_)
    · replace h := h.2 c4
      refine lv_iconst (v := 3) hx hb dX6_count_67 (by decide) ?_
      exact t_X6_count_68 C hk45 M (3 : Int32) x3 x2 x1 x3  w (lv_sub hl [0, 1, 3] rfl) h
    replace h := h.1 c4
    refine lv_iconst (v := 4) hx hb dX6_count_63 (by decide) ?_
    refine lv_goto (tgt := 68) hx hb dX6_count_64 (by decide) ?_
    exact t_X6_count_68 C hk45 M (4 : Int32) x3 x2 x1 x3  w (lv_sub hl [0, 1, 3] rfl) h
set_option maxHeartbeats 4000000 in
set_option maxRecDepth 100000 in
theorem t_X6_count_43 (C : Cx G p s m args meth c RX6 cX6_count 4 (some .int)) {post : Int32 → Mem → Prop} (M : Mem) (x1 : Int32) (x2 : Int32) {H : Heap} {locs : List Loc} {ls : Array Slot} (w : Wd G s M H locs) (hl : lv_has ls 4 [(0, .ref (ga G 57)), (1, .int x1), (2, .int x2)]) (h : j_X6_count_43 post M x1 x2) : W p l e (rmk 2) s m args below meth c H locs 0 0 (MQ below (va_Qi post (Qw G) (Af G s.heap.size)) args s 0 0 (Af G s.heap.size)) (F0 m 43 ls []) := by
  have hx := C.1.1
  have hb := C.1.2.1
  unfold j_X6_count_43 at h
  refine lv_iconst (v := 0) hx hb dX6_count_43 (by decide) ?_
  refine lv_istore_n (lv' := [(3, .int (0 : Int32)), (0, .ref (ga G 57)), (1, .int x1), (2, .int x2)]) hx hb dX6_count_44 rfl hl (by decide) rfl (fun ls hl => ?_)
  obtain ⟨n, h⟩ := h
  exact t_X6_count_45 C n M x1 x2 (0 : Int32)  w (lv_sub hl [1, 2, 3, 0] rfl) h
set_option maxHeartbeats 4000000 in
set_option maxRecDepth 100000 in
theorem c_X6_count (l : Launch) (G : GG) (hG : Ag G) (sz : Nat) (M : Mem) (x1 : Int32) (post : Int32 → Mem → Prop) (h : q_X6_count M x1 post) : Met l yX6_count (Cond.code yX6_count cX6_count 4 (some .int) :: wsL_law) (rmk 2) (va_Pc [.ref (ga G 57), .int x1] (Pw G sz M)) (va_Qi post (Qw G) (Af G sz)) 0 0 (Af G sz) := by
  refine Met.ofW (cc := cX6_count) (maxL := 4) (ret := (some .int)) (by decide) rfl ?_
  intro p e s m args below meth c s₁ B hml hv
  obtain ⟨rfl, hsz, hE, hP⟩ := hv
  subst hsz
  have C := Cx.of (own := RX6) hG hE rfl hml B
  have w : Wd G s M s.heap [] := ⟨hP, va_S.rf⟩
  have hl := lv_entry [.ref (ga G 57), .int x1] (n := 4) (Nat.le_of_ble_eq_true rfl)
  rw [lg_entry_eq]
  generalize (lg_sl [.ref (ga G 57), .int x1] ++ List.replicate (4 - (lg_sl [.ref (ga G 57), .int x1]).length) Slot.unset).toArray = ls at hl ⊢
  have hl : lv_has ls 4 [(0, .ref (ga G 57)), (1, .int x1)] := hl
  have hx := C.1.1
  have hb := C.1.2.1
  show W p l e (rmk 2) s m _ below meth c s.heap [] 0 0 _ _
  unfold q_X6_count at h
  refine lv_iconst (v := 0) hx hb dX6_count_0 (by decide) ?_
  refine lv_istore_n (lv' := [(2, .int (0 : Int32)), (0, .ref (ga G 57)), (1, .int x1)]) hx hb dX6_count_1 rfl hl (by decide) rfl (fun ls hl => ?_)
  refine lv_iload_n hx hb dX6_count_2 rfl (lv_at hl 2 rfl) ?_
  by_cases c5 : x1 = (0 : Int32)
  · replace h := h.1 c5
    refine lv_tableIn (off := 33) (tgt := 36) hx hb dX6_count_3 (by rw [c5]; decide) (by rw [c5]; decide) (by rw [c5]; decide) (by decide) ?_
    refine lv_aload_n hx hb dX6_count_36 rfl (lv_at hl 1 rfl) ?_
    refine gt_6_0 C w kw_5_0 dX6_count_37 ?_
    refine lv_iconst (v := 0) hx hb dX6_count_40 (by decide) ?_
    refine pw_ld C w (i := 58) (by decide) pE_58 (vl (x := (0 : Int32)) (by decide)) (k := 0) (by decide) dX6_count_41 ?_
    exact ret_i C w h dX6_count_42
  replace h := h.2 c5
  by_cases c6 : x1 = (1 : Int32)
  · replace h := h.1 c6
    refine lv_tableIn (off := 40) (tgt := 43) hx hb dX6_count_3 (by rw [c6]; decide) (by rw [c6]; decide) (by rw [c6]; decide) (by decide) ?_
    exact t_X6_count_43 C M x1 (0 : Int32)  w (lv_sub hl [1, 2, 0] rfl) h
  replace h := h.2 c6
  by_cases c7 : x1 = (2 : Int32)
  · replace h := h.1 c7
    refine lv_tableIn (off := 78) (tgt := 81) hx hb dX6_count_3 (by rw [c7]; decide) (by rw [c7]; decide) (by rw [c7]; decide) (by decide) ?_
    refine lv_aload_n hx hb dX6_count_81 rfl (lv_at hl 1 rfl) ?_
    refine gt_6_0 C w kw_5_0 dX6_count_82 ?_
    refine lv_iconst (v := 1) hx hb dX6_count_85 (by decide) ?_
    refine pw_ld C w (i := 58) (by decide) pE_58 (vl (x := (1 : Int32)) (by decide)) (k := 1) (by decide) dX6_count_86 ?_
    exact ret_i C w h dX6_count_87
  replace h := h.2 c7
  by_cases c8 : x1 = (3 : Int32)
  · replace h := h.1 c8
    refine lv_tableIn (off := 85) (tgt := 88) hx hb dX6_count_3 (by rw [c8]; decide) (by rw [c8]; decide) (by rw [c8]; decide) (by decide) ?_
    refine lv_aload_n hx hb dX6_count_88 rfl (lv_at hl 1 rfl) ?_
    refine gt_6_0 C w kw_5_0 dX6_count_89 ?_
    refine lv_iconst (v := 2) hx hb dX6_count_92 (by decide) ?_
    refine pw_ld C w (i := 58) (by decide) pE_58 (vl (x := (2 : Int32)) (by decide)) (k := 2) (by decide) dX6_count_93 ?_
    exact ret_i C w h dX6_count_94
  replace h := h.2 c8
  by_cases c9 : x1 = (4 : Int32)
  · replace h := h.1 c9
    refine lv_tableIn (off := 40) (tgt := 43) hx hb dX6_count_3 (by rw [c9]; decide) (by rw [c9]; decide) (by rw [c9]; decide) (by decide) ?_
    exact t_X6_count_43 C M x1 (0 : Int32)  w (lv_sub hl [1, 2, 0] rfl) h
  replace h := h.2 c9
  have nc5 := lv_neT c5 (a := 0) (by decide)
  have nc6 := lv_neT c6 (a := 1) (by decide)
  have nc7 := lv_neT c7 (a := 2) (by decide)
  have nc8 := lv_neT c8 (a := 3) (by decide)
  have nc9 := lv_neT c9 (a := 4) (by decide)
  refine lv_tableOut (tgt := 95) hx hb dX6_count_3 (by omega) (by decide) ?_
  refine lv_iconst (v := -1) hx hb dX6_count_95 (by decide) ?_
  exact ret_i C w h dX6_count_96
def q_X3_empty (M : Mem) (a0 : Nat) (post : Mem → Prop) : Prop := ∀ M1 : Mem, M1 = (mup M a0 0 (0 : Int32)) → (post M1)
set_option maxHeartbeats 4000000 in
set_option maxRecDepth 100000 in
theorem c_X3_empty (l : Launch) (G : GG) (hG : Ag G) (sz : Nat) (M : Mem) (a0 : Nat) (ha0 : 14 ≤ a0 ∧ a0 < 22) (post : Mem → Prop) (h : q_X3_empty M a0 post) : Met l yX3_empty (Cond.code yX3_empty cX3_empty 1 none :: wsL_law) (rmk 1) (va_Pc [.ref (ga G a0)] (Pw G sz M)) (va_Qv post (Qw G) (Af G sz)) 0 0 (Af G sz) := by
  refine Met.ofW (cc := cX3_empty) (maxL := 1) (ret := none) (by decide) rfl ?_
  intro p e s m args below meth c s₁ B hml hv
  obtain ⟨rfl, hsz, hE, hP⟩ := hv
  subst hsz
  have C := Cx.of (own := RX3) hG hE rfl hml B
  have w : Wd G s M s.heap [] := ⟨hP, va_S.rf⟩
  have hl := lv_entry [.ref (ga G a0)] (n := 1) (Nat.le_of_ble_eq_true rfl)
  rw [lg_entry_eq]
  generalize (lg_sl [.ref (ga G a0)] ++ List.replicate (1 - (lg_sl [.ref (ga G a0)]).length) Slot.unset).toArray = ls at hl ⊢
  have hl : lv_has ls 1 [(0, .ref (ga G a0))] := hl
  have hx := C.1.1
  have hb := C.1.2.1
  show W p l e (rmk 1) s m _ below meth c s.heap [] 0 0 _ _
  unfold q_X3_empty at h
  refine lv_aload_n hx hb dX3_empty_0 rfl (lv_at hl 0 rfl) ?_
  refine lv_iconst (v := 0) hx hb dX3_empty_1 (by decide) ?_
  refine pt_3_0 C w ha0 kw_4_14 dX3_empty_2 (fun H locs w => ?_)
  obtain ⟨M1, eM1⟩ : ∃ z : Mem, z = (mup M a0 0 (0 : Int32)) := ⟨_, rfl⟩
  replace w : Wd G s M1 H locs := by rw [eM1]; exact w
  replace h := h M1 eM1
  exact ret_v C w h dX3_empty_5
def q_X3_keepPiece (M : Mem) (a0 : Nat) (a1 : Nat) (post : Mem → Prop) : Prop := ∀ M1 : Mem, M1 = (mup M a0 0 (1 : Int32)) → (q_X1_become M1 (16 + a0) a1 (fun M3 => post M3))
set_option maxHeartbeats 4000000 in
set_option maxRecDepth 100000 in
theorem c_X3_keepPiece (l : Launch) (G : GG) (hG : Ag G) (sz : Nat) (M : Mem) (a0 : Nat) (a1 : Nat) (ha0 : 14 ≤ a0 ∧ a0 < 22) (ha1 : 30 ≤ a1 ∧ a1 < 57) (post : Mem → Prop) (h : q_X3_keepPiece M a0 a1 post) : Met l yX3_keepPiece (Cond.code yX3_keepPiece cX3_keepPiece 2 none :: wsL_law) (rmk 2) (va_Pc [.ref (ga G a0), .ref (ga G a1)] (Pw G sz M)) (va_Qv post (Qw G) (Af G sz)) 0 0 (Af G sz) := by
  refine Met.ofW (cc := cX3_keepPiece) (maxL := 2) (ret := none) (by decide) rfl ?_
  intro p e s m args below meth c s₁ B hml hv
  obtain ⟨rfl, hsz, hE, hP⟩ := hv
  subst hsz
  have C := Cx.of (own := RX3) hG hE rfl hml B
  have w : Wd G s M s.heap [] := ⟨hP, va_S.rf⟩
  have hl := lv_entry [.ref (ga G a0), .ref (ga G a1)] (n := 2) (Nat.le_of_ble_eq_true rfl)
  rw [lg_entry_eq]
  generalize (lg_sl [.ref (ga G a0), .ref (ga G a1)] ++ List.replicate (2 - (lg_sl [.ref (ga G a0), .ref (ga G a1)]).length) Slot.unset).toArray = ls at hl ⊢
  have hl : lv_has ls 2 [(0, .ref (ga G a0)), (1, .ref (ga G a1))] := hl
  have hx := C.1.1
  have hb := C.1.2.1
  show W p l e (rmk 2) s m _ below meth c s.heap [] 0 0 _ _
  unfold q_X3_keepPiece at h
  refine lv_aload_n hx hb dX3_keepPiece_0 rfl (lv_at hl 0 rfl) ?_
  refine lv_iconst (v := 1) hx hb dX3_keepPiece_1 (by decide) ?_
  refine pt_3_0 C w ha0 kw_4_14 dX3_keepPiece_2 (fun H locs w => ?_)
  obtain ⟨M1, eM1⟩ : ∃ z : Mem, z = (mup M a0 0 (1 : Int32)) := ⟨_, rfl⟩
  replace w : Wd G s M1 H locs := by rw [eM1]; exact w
  replace h := h M1 eM1
  refine lv_aload_n hx hb dX3_keepPiece_5 rfl (lv_at hl 0 rfl) ?_
  refine gt_3_1 C w ha0 kw_4_16 dX3_keepPiece_6 ?_
  refine lv_aload_n hx hb dX3_keepPiece_9 rfl (lv_at hl 1 rfl) ?_
  refine end_v w (run_VN (As := [.ref (ga G a1)]) C w hl.1 (c_X1_become l G C.2.2.1 _ _ (16 + a0) a1 (by omega) ha1 _ h) kw_6_18 kw_2_1 kn_82 kw_6_16 kw_6_17 hd_X1_become ⟨by decide, by decide⟩ (w.recv C (i := (16 + a0)) (by omega) (pE_1 (by omega)) rfl) rfl (Nat.le_of_ble_eq_true rfl) dX3_keepPiece_10) (fun M3 H locs h w => ?_)
  exact ret_v C w h dX3_keepPiece_13
def j_X5_keep_16 (post : Int32 → Mem → Prop) (M : Mem) : Prop := post (-1 : Int32) M
def q_X5_keep (M : Mem) (x1 : Int32) (x2 : Int32) (x3 : Int32) (post : Int32 → Mem → Prop) : Prop := q_X5_isShelf M x1 (fun r1 M2 => (r1 = 0 → (j_X5_keep_16 post M2)) ∧ (¬ (r1 = 0) → (q_X5_isWithin M2 x2 (0 : Int32) (1 : Int32) (fun r4 M5 => (r4 = 0 → (j_X5_keep_16 post M5)) ∧ (¬ (r4 = 0) → ((x2 = 0 → (vp_in x1 8 ∧ (q_X3_empty M5 (14 + x1.toNatClampNeg) (fun M17 => post (0 : Int32) M17)))) ∧ (¬ (x2 = 0) → (q_X4_has M5 1 x3 (fun r8 M9 => (r8 = 0 → (post (-1 : Int32) M9)) ∧ (¬ (r8 = 0) → (vp_in x1 8 ∧ (vp_in x3 6 ∧ (q_X3_keepPiece M9 (14 + x1.toNatClampNeg) (38 + x3.toNatClampNeg) (fun M14 => post (0 : Int32) M14))))))))))))))
set_option maxHeartbeats 4000000 in
set_option maxRecDepth 100000 in
theorem t_X5_keep_16 (C : Cx G p s m args meth c RX5 cX5_keep 4 (some .int)) {post : Int32 → Mem → Prop} (M : Mem) {H : Heap} {locs : List Loc} {ls : Array Slot} (w : Wd G s M H locs) (hl : lv_has ls 4 []) (h : j_X5_keep_16 post M) : W p l e (rmk 3) s m args below meth c H locs 0 0 (MQ below (va_Qi post (Qw G) (Af G s.heap.size)) args s 0 0 (Af G s.heap.size)) (F0 m 16 ls []) := by
  have hx := C.1.1
  have hb := C.1.2.1
  unfold j_X5_keep_16 at h
  refine lv_iconst (v := -1) hx hb dX5_keep_16 (by decide) ?_
  exact ret_i C w h dX5_keep_17
set_option maxHeartbeats 4000000 in
set_option maxRecDepth 100000 in
theorem c_X5_keep (l : Launch) (G : GG) (hG : Ag G) (sz : Nat) (M : Mem) (x1 : Int32) (x2 : Int32) (x3 : Int32) (post : Int32 → Mem → Prop) (h : q_X5_keep M x1 x2 x3 post) : Met l yX5_keep (Cond.code yX5_keep cX5_keep 4 (some .int) :: wsL_law) (rmk 3) (va_Pc [.ref (ga G 0), .int x1, .int x2, .int x3] (Pw G sz M)) (va_Qi post (Qw G) (Af G sz)) 0 0 (Af G sz) := by
  refine Met.ofW (cc := cX5_keep) (maxL := 4) (ret := (some .int)) (by decide) rfl ?_
  intro p e s m args below meth c s₁ B hml hv
  obtain ⟨rfl, hsz, hE, hP⟩ := hv
  subst hsz
  have C := Cx.of (own := RX5) hG hE rfl hml B
  have w : Wd G s M s.heap [] := ⟨hP, va_S.rf⟩
  have hl := lv_entry [.ref (ga G 0), .int x1, .int x2, .int x3] (n := 4) (Nat.le_of_ble_eq_true rfl)
  rw [lg_entry_eq]
  generalize (lg_sl [.ref (ga G 0), .int x1, .int x2, .int x3] ++ List.replicate (4 - (lg_sl [.ref (ga G 0), .int x1, .int x2, .int x3]).length) Slot.unset).toArray = ls at hl ⊢
  have hl : lv_has ls 4 [(0, .ref (ga G 0)), (1, .int x1), (2, .int x2), (3, .int x3)] := hl
  have hx := C.1.1
  have hb := C.1.2.1
  show W p l e (rmk 3) s m _ below meth c s.heap [] 0 0 _ _
  unfold q_X5_keep at h
  refine lv_iload_n hx hb dX5_keep_0 rfl (lv_at hl 1 rfl) ?_
  refine end_i w (run_S (As := [.int x1]) C w hl.1 (c_X5_isShelf l G C.2.2.1 _ _ x1  _ h) kw_6_5 kw_1_2 kw_6_3 kw_6_4 hd_X5_isShelf ⟨by decide, by decide⟩ rfl (Nat.le_of_ble_eq_true rfl) dX5_keep_1) (fun r1 M2 H locs h w => ?_)
  refine lv_if_eq (tgt := 16) hx hb dX5_keep_4 (by decide) (fun c3 => ?_) (fun c3 => ?_)
  · replace h := h.1 c3
    exact t_X5_keep_16 C M2   w (lv_sub hl [] rfl) h
  replace h := h.2 c3
  refine lv_iload_n hx hb dX5_keep_7 rfl (lv_at hl 2 rfl) ?_
  refine lv_iconst (v := 0) hx hb dX5_keep_8 (by decide) ?_
  refine lv_iconst (v := 1) hx hb dX5_keep_9 (by decide) ?_
  refine end_i w (run_S (As := [.int x2, .int (0 : Int32), .int (1 : Int32)]) C w hl.1 (c_X5_isWithin l G C.2.2.1 _ _ x2 (0 : Int32) (1 : Int32)  _ h) kw_6_8 kw_1_2 kw_6_6 kw_6_7 hd_X5_isWithin ⟨by decide, by decide⟩ rfl (Nat.le_of_ble_eq_true rfl) dX5_keep_10) (fun r4 M5 H locs h w => ?_)
  refine lv_if_ne (tgt := 18) hx hb dX5_keep_13 (by decide) (fun c6 => ?_) (fun c6 => ?_)
  · replace h := h.2 c6
    refine lv_iload_n hx hb dX5_keep_18 rfl (lv_at hl 2 rfl) ?_
    refine lv_if_ne (tgt := 33) hx hb dX5_keep_19 (by decide) (fun c7 => ?_) (fun c7 => ?_)
    · replace h := h.2 c7
      refine lv_aload_n hx hb dX5_keep_33 rfl (lv_at hl 0 rfl) ?_
      refine gt_5_0 C w kw_1_16 dX5_keep_34 ?_
      refine lv_iload_n hx hb dX5_keep_37 rfl (lv_at hl 3 rfl) ?_
      refine end_i w (run_VN (As := [.int x3]) C w hl.1 (c_X4_has l G C.2.2.1 _ _ 1 x3 ⟨by decide, by decide⟩ _ h) kw_13_22 kw_1_15 kn_53 kw_13_20 kw_13_21 hd_X4_has ⟨by decide, by decide⟩ (w.recv C (i := 1) (by decide) (pE_4 ⟨by decide, by decide⟩) rfl) rfl (Nat.le_of_ble_eq_true rfl) dX5_keep_38) (fun r8 M9 H locs h w => ?_)
      refine lv_if_ne (tgt := 46) hx hb dX5_keep_41 (by decide) (fun c10 => ?_) (fun c10 => ?_)
      · replace h := h.2 c10
        refine lv_aload_n hx hb dX5_keep_46 rfl (lv_at hl 0 rfl) ?_
        refine gt_5_6 C w kw_2_8 dX5_keep_47 ?_
        refine lv_iload_n hx hb dX5_keep_50 rfl (lv_at hl 1 rfl) ?_
        have hin11 := h.1
        replace h := h.2
        have hz_hin11 := in_lt hin11
        refine pw_ldS C w hin11 rfl dX5_keep_51 ?_
        refine lv_aload_n hx hb dX5_keep_52 rfl (lv_at hl 0 rfl) ?_
        refine gt_5_0 C w kw_1_16 dX5_keep_53 ?_
        refine gn_4_0 C w ⟨by decide, by decide⟩ kn_13 dX5_keep_56 ?_
        refine lv_iload_n hx hb dX5_keep_59 rfl (lv_at hl 3 rfl) ?_
        have hin12 := h.1
        replace h := h.2
        have hz_hin12 := in_lt hin12
        refine pw_ldP C w (i := 8) ⟨by decide, by decide⟩ hin12 dX5_keep_60 (j := (38 + x3.toNatClampNeg)) (by omega) ?_
        refine end_v w (run_VN (As := [.ref (ga G (38 + x3.toNatClampNeg))]) C w hl.1 (c_X3_keepPiece l G C.2.2.1 _ _ (14 + x1.toNatClampNeg) (38 + x3.toNatClampNeg) (by omega) (by omega) _ h) kw_36_14 kw_2_11 kn_81 kw_36_12 kw_36_13 hd_X3_keepPiece ⟨by decide, by decide⟩ (w.recv C (i := (14 + x1.toNatClampNeg)) (by omega) (pE_3 (by omega)) rfl) rfl (Nat.le_of_ble_eq_true rfl) dX5_keep_61) (fun M14 H locs h w => ?_)
        refine lv_iconst (v := 0) hx hb dX5_keep_64 (by decide) ?_
        exact ret_i C w h dX5_keep_65
      replace h := h.1 c10
      refine lv_iconst (v := -1) hx hb dX5_keep_44 (by decide) ?_
      exact ret_i C w h dX5_keep_45
    replace h := h.1 c7
    refine lv_aload_n hx hb dX5_keep_22 rfl (lv_at hl 0 rfl) ?_
    refine gt_5_6 C w kw_2_8 dX5_keep_23 ?_
    refine lv_iload_n hx hb dX5_keep_26 rfl (lv_at hl 1 rfl) ?_
    have hin15 := h.1
    replace h := h.2
    have hz_hin15 := in_lt hin15
    refine pw_ldS C w hin15 rfl dX5_keep_27 ?_
    refine end_v w (run_VN (As := []) C w hl.1 (c_X3_empty l G C.2.2.1 _ _ (14 + x1.toNatClampNeg) (by omega) _ h) kw_36_11 kw_2_11 kn_80 kw_36_9 kw_36_10 hd_X3_empty ⟨by decide, by decide⟩ (w.recv C (i := (14 + x1.toNatClampNeg)) (by omega) (pE_3 (by omega)) rfl) rfl (Nat.le_of_ble_eq_true rfl) dX5_keep_28) (fun M17 H locs h w => ?_)
    refine lv_iconst (v := 0) hx hb dX5_keep_31 (by decide) ?_
    exact ret_i C w h dX5_keep_32
  replace h := h.1 c6
  exact t_X5_keep_16 C M5   w (lv_sub hl [] rfl) h
def q_X6_priceOf (M : Mem) (x1 : Int32) (post : Int32 → Mem → Prop) : Prop := q_X6_get M x1 (2 : Int32) (fun r1 M2 => q_X6_get M2 x1 (1 : Int32) (fun r3 M4 => q_X6_get M4 x1 (0 : Int32) (fun r5 M6 => (r5 = (1 : Int32) → (post ((3 : Int32) * r1) M6)) ∧ (¬ r5 = (1 : Int32) → ((r5 = (2 : Int32) → (post (r1 + (50 : Int32)) M6)) ∧ (¬ r5 = (2 : Int32) → ((r5 = (3 : Int32) → (post (((2 : Int32) * r1) + r3) M6)) ∧ (¬ r5 = (3 : Int32) → ((r5 = (4 : Int32) → (post ((2 : Int32) * r1) M6)) ∧ (¬ r5 = (4 : Int32) → ((r5 = (5 : Int32) → (post ((r1 + (50 : Int32)) / (2 : Int32)) M6)) ∧ (¬ r5 = (5 : Int32) → ((r5 = (6 : Int32) → (post ((((2 : Int32) * r1) + r3) / (3 : Int32)) M6)) ∧ (¬ r5 = (6 : Int32) → ((r5 = (7 : Int32) → (post (((((2 : Int32) * r1) + r3) / (3 : Int32)) - (1 : Int32)) M6)) ∧ (¬ r5 = (7 : Int32) → (post r1 M6)))))))))))))))))
set_option maxHeartbeats 4000000 in
set_option maxRecDepth 100000 in
theorem c_X6_priceOf (l : Launch) (G : GG) (hG : Ag G) (sz : Nat) (M : Mem) (x1 : Int32) (post : Int32 → Mem → Prop) (h : q_X6_priceOf M x1 post) : Met l yX6_priceOf (Cond.code yX6_priceOf cX6_priceOf 4 (some .int) :: wsL_law) (rmk 2) (va_Pc [.ref (ga G 57), .int x1] (Pw G sz M)) (va_Qi post (Qw G) (Af G sz)) 0 0 (Af G sz) := by
  refine Met.ofW (cc := cX6_priceOf) (maxL := 4) (ret := (some .int)) (by decide) rfl ?_
  intro p e s m args below meth c s₁ B hml hv
  obtain ⟨rfl, hsz, hE, hP⟩ := hv
  subst hsz
  have C := Cx.of (own := RX6) hG hE rfl hml B
  have w : Wd G s M s.heap [] := ⟨hP, va_S.rf⟩
  have hl := lv_entry [.ref (ga G 57), .int x1] (n := 4) (Nat.le_of_ble_eq_true rfl)
  rw [lg_entry_eq]
  generalize (lg_sl [.ref (ga G 57), .int x1] ++ List.replicate (4 - (lg_sl [.ref (ga G 57), .int x1]).length) Slot.unset).toArray = ls at hl ⊢
  have hl : lv_has ls 4 [(0, .ref (ga G 57)), (1, .int x1)] := hl
  have hx := C.1.1
  have hb := C.1.2.1
  show W p l e (rmk 2) s m _ below meth c s.heap [] 0 0 _ _
  unfold q_X6_priceOf at h
  refine lv_aload_n hx hb dX6_priceOf_0 rfl (lv_at hl 0 rfl) ?_
  refine lv_iload_n hx hb dX6_priceOf_1 rfl (lv_at hl 1 rfl) ?_
  refine lv_iconst (v := 2) hx hb dX6_priceOf_2 (by decide) ?_
  refine end_i w (run_V (As := [.int x1, .int (2 : Int32)]) C w hl.1 (c_X6_get l G C.2.2.1 _ _ x1 (2 : Int32)  _ h) kw_14_10 kw_1_5 kw_14_7 kw_14_8 kw_14_9 hd_X6_get ⟨by decide, by decide⟩ (w.recv C (i := 57) (by decide) (pE_6) rfl) rfl (Nat.le_of_ble_eq_true rfl) dX6_priceOf_3) (fun r1 M2 H locs h w => ?_)
  refine lv_istore_n (lv' := [(2, .int r1), (0, .ref (ga G 57)), (1, .int x1)]) hx hb dX6_priceOf_6 rfl hl (by decide) rfl (fun ls hl => ?_)
  refine lv_aload_n hx hb dX6_priceOf_7 rfl (lv_at hl 1 rfl) ?_
  refine lv_iload_n hx hb dX6_priceOf_8 rfl (lv_at hl 2 rfl) ?_
  refine lv_iconst (v := 1) hx hb dX6_priceOf_9 (by decide) ?_
  refine end_i w (run_V (As := [.int x1, .int (1 : Int32)]) C w hl.1 (c_X6_get l G C.2.2.1 _ _ x1 (1 : Int32)  _ h) kw_14_10 kw_1_5 kw_14_7 kw_14_8 kw_14_9 hd_X6_get ⟨by decide, by decide⟩ (w.recv C (i := 57) (by decide) (pE_6) rfl) rfl (Nat.le_of_ble_eq_true rfl) dX6_priceOf_10) (fun r3 M4 H locs h w => ?_)
  refine lv_istore_n (lv' := [(3, .int r3), (2, .int r1), (0, .ref (ga G 57)), (1, .int x1)]) hx hb dX6_priceOf_13 rfl hl (by decide) rfl (fun ls hl => ?_)
  refine lv_aload_n hx hb dX6_priceOf_14 rfl (lv_at hl 2 rfl) ?_
  refine lv_iload_n hx hb dX6_priceOf_15 rfl (lv_at hl 3 rfl) ?_
  refine lv_iconst (v := 0) hx hb dX6_priceOf_16 (by decide) ?_
  refine end_i w (run_V (As := [.int x1, .int (0 : Int32)]) C w hl.1 (c_X6_get l G C.2.2.1 _ _ x1 (0 : Int32)  _ h) kw_14_10 kw_1_5 kw_14_7 kw_14_8 kw_14_9 hd_X6_get ⟨by decide, by decide⟩ (w.recv C (i := 57) (by decide) (pE_6) rfl) rfl (Nat.le_of_ble_eq_true rfl) dX6_priceOf_17) (fun r5 M6 H locs h w => ?_)
  by_cases c7 : r5 = (1 : Int32)
  · replace h := h.1 c7
    refine lv_tableIn (off := 44) (tgt := 64) hx hb dX6_priceOf_20 (by rw [c7]; decide) (by rw [c7]; decide) (by rw [c7]; decide) (by decide) ?_
    refine lv_iconst (v := 3) hx hb dX6_priceOf_64 (by decide) ?_
    refine lv_iload_n hx hb dX6_priceOf_65 rfl (lv_at hl 1 rfl) ?_
    refine lv_imul hx hb dX6_priceOf_66 ?_
    exact ret_i C w h dX6_priceOf_67
  replace h := h.2 c7
  by_cases c8 : r5 = (2 : Int32)
  · replace h := h.1 c8
    refine lv_tableIn (off := 48) (tgt := 68) hx hb dX6_priceOf_20 (by rw [c8]; decide) (by rw [c8]; decide) (by rw [c8]; decide) (by decide) ?_
    refine lv_iload_n hx hb dX6_priceOf_68 rfl (lv_at hl 1 rfl) ?_
    refine lv_bipush (v := 50) hx hb dX6_priceOf_69 (by decide) ?_
    refine lv_iadd hx hb dX6_priceOf_71 ?_
    exact ret_i C w h dX6_priceOf_72
  replace h := h.2 c8
  by_cases c9 : r5 = (3 : Int32)
  · replace h := h.1 c9
    refine lv_tableIn (off := 53) (tgt := 73) hx hb dX6_priceOf_20 (by rw [c9]; decide) (by rw [c9]; decide) (by rw [c9]; decide) (by decide) ?_
    refine lv_iconst (v := 2) hx hb dX6_priceOf_73 (by decide) ?_
    refine lv_iload_n hx hb dX6_priceOf_74 rfl (lv_at hl 1 rfl) ?_
    refine lv_imul hx hb dX6_priceOf_75 ?_
    refine lv_iload_n hx hb dX6_priceOf_76 rfl (lv_at hl 0 rfl) ?_
    refine lv_iadd hx hb dX6_priceOf_77 ?_
    exact ret_i C w h dX6_priceOf_78
  replace h := h.2 c9
  by_cases c10 : r5 = (4 : Int32)
  · replace h := h.1 c10
    refine lv_tableIn (off := 59) (tgt := 79) hx hb dX6_priceOf_20 (by rw [c10]; decide) (by rw [c10]; decide) (by rw [c10]; decide) (by decide) ?_
    refine lv_iconst (v := 2) hx hb dX6_priceOf_79 (by decide) ?_
    refine lv_iload_n hx hb dX6_priceOf_80 rfl (lv_at hl 1 rfl) ?_
    refine lv_imul hx hb dX6_priceOf_81 ?_
    exact ret_i C w h dX6_priceOf_82
  replace h := h.2 c10
  by_cases c11 : r5 = (5 : Int32)
  · replace h := h.1 c11
    refine lv_tableIn (off := 63) (tgt := 83) hx hb dX6_priceOf_20 (by rw [c11]; decide) (by rw [c11]; decide) (by rw [c11]; decide) (by decide) ?_
    refine lv_iload_n hx hb dX6_priceOf_83 rfl (lv_at hl 1 rfl) ?_
    refine lv_bipush (v := 50) hx hb dX6_priceOf_84 (by decide) ?_
    refine lv_iadd hx hb dX6_priceOf_86 ?_
    refine lv_iconst (v := 2) hx hb dX6_priceOf_87 (by decide) ?_
    refine lv_idiv hx hb dX6_priceOf_88 (by decide) ?_
    exact ret_i C w h dX6_priceOf_89
  replace h := h.2 c11
  by_cases c12 : r5 = (6 : Int32)
  · replace h := h.1 c12
    refine lv_tableIn (off := 70) (tgt := 90) hx hb dX6_priceOf_20 (by rw [c12]; decide) (by rw [c12]; decide) (by rw [c12]; decide) (by decide) ?_
    refine lv_iconst (v := 2) hx hb dX6_priceOf_90 (by decide) ?_
    refine lv_iload_n hx hb dX6_priceOf_91 rfl (lv_at hl 1 rfl) ?_
    refine lv_imul hx hb dX6_priceOf_92 ?_
    refine lv_iload_n hx hb dX6_priceOf_93 rfl (lv_at hl 0 rfl) ?_
    refine lv_iadd hx hb dX6_priceOf_94 ?_
    refine lv_iconst (v := 3) hx hb dX6_priceOf_95 (by decide) ?_
    refine lv_idiv hx hb dX6_priceOf_96 (by decide) ?_
    exact ret_i C w h dX6_priceOf_97
  replace h := h.2 c12
  by_cases c13 : r5 = (7 : Int32)
  · replace h := h.1 c13
    refine lv_tableIn (off := 78) (tgt := 98) hx hb dX6_priceOf_20 (by rw [c13]; decide) (by rw [c13]; decide) (by rw [c13]; decide) (by decide) ?_
    refine lv_iconst (v := 2) hx hb dX6_priceOf_98 (by decide) ?_
    refine lv_iload_n hx hb dX6_priceOf_99 rfl (lv_at hl 1 rfl) ?_
    refine lv_imul hx hb dX6_priceOf_100 ?_
    refine lv_iload_n hx hb dX6_priceOf_101 rfl (lv_at hl 0 rfl) ?_
    refine lv_iadd hx hb dX6_priceOf_102 ?_
    refine lv_iconst (v := 3) hx hb dX6_priceOf_103 (by decide) ?_
    refine lv_idiv hx hb dX6_priceOf_104 (by decide) ?_
    refine lv_iconst (v := 1) hx hb dX6_priceOf_105 (by decide) ?_
    refine lv_isub hx hb dX6_priceOf_106 ?_
    exact ret_i C w h dX6_priceOf_107
  replace h := h.2 c13
  have nc7 := lv_neT c7 (a := 1) (by decide)
  have nc8 := lv_neT c8 (a := 2) (by decide)
  have nc9 := lv_neT c9 (a := 3) (by decide)
  have nc10 := lv_neT c10 (a := 4) (by decide)
  have nc11 := lv_neT c11 (a := 5) (by decide)
  have nc12 := lv_neT c12 (a := 6) (by decide)
  have nc13 := lv_neT c13 (a := 7) (by decide)
  refine lv_tableOut (tgt := 108) hx hb dX6_priceOf_20 (by omega) (by decide) ?_
  refine lv_iload_n hx hb dX6_priceOf_108 rfl (lv_at hl 1 rfl) ?_
  exact ret_i C w h dX6_priceOf_109
def j_X6_keep_128 (post : Int32 → Mem → Prop) (M : Mem) (y0 : Int32) (y1 : Int32) : Prop := vp_in y1 8 ∧ (∀ M2 : Mem, M2 = (mup M 67 y1.toNatClampNeg y0) → (post (0 : Int32) M2))
def j_X6_keep_84 (post : Int32 → Mem → Prop) (M : Mem) (y0 : Int32) : Prop := j_X6_keep_128 post M (-15 : Int32) y0
def j_X6_keep_32 (post : Int32 → Mem → Prop) (M : Mem) (x1 : Int32) (x2 : Int32) (x3 : Int32) : Prop := vp_in x1 8 ∧ (∀ M4 : Mem, M4 = (mup M 62 x1.toNatClampNeg x2) → ((x2 = 0 → (post (0 : Int32) M4)) ∧ (¬ (x2 = 0) → (q_X6_get M4 x3 (0 : Int32) (fun r6 M7 => q_X6_priceOf M7 x3 (fun r8 M9 => ∀ M10 : Mem, M10 = (mup M9 66 x1.toNatClampNeg r8) → ((r6 = (5 : Int32) → (j_X6_keep_84 post M10 x1)) ∧ (¬ (r6 = (5 : Int32)) → (q_X6_get M10 x3 (1 : Int32) (fun r12 M13 => (r12 = 0 → (j_X6_keep_84 post M13 x1)) ∧ (¬ (r12 = 0) → ((r6 = (4 : Int32) → (j_X6_keep_128 post M13 ((100 : Int32) + x3) x1)) ∧ (¬ (r6 = (4 : Int32)) → ((r6 = (7 : Int32) → (q_X6_get M13 x3 (1 : Int32) (fun r17 M18 => q_X6_wearBy M18 r6 r17 (fun r19 M20 => j_X6_keep_128 post M20 ((200 : Int32) + r19) x1)))) ∧ (¬ (r6 = (7 : Int32)) → (j_X6_keep_128 post M13 x3 x1))))))))))))))))
def j_X6_keep_30 (post : Int32 → Mem → Prop) (M : Mem) : Prop := post (-1 : Int32) M
def q_X6_keep (M : Mem) (x1 : Int32) (x2 : Int32) (x3 : Int32) (post : Int32 → Mem → Prop) : Prop := q_X6_isShelf M x1 (fun r21 M22 => (r21 = 0 → (j_X6_keep_30 post M22)) ∧ (¬ (r21 = 0) → (q_X6_isIn M22 x2.toInt64 (0 : Int64) (1 : Int64) (fun r24 M25 => (r24 = 0 → (j_X6_keep_30 post M25)) ∧ (¬ (r24 = 0) → ((x2 = (1 : Int32) → (q_X6_isPiece M25 x3 (fun r28 M29 => (r28 = 0 → (j_X6_keep_30 post M29)) ∧ (¬ (r28 = 0) → (j_X6_keep_32 post M29 x1 x2 x3))))) ∧ (¬ (x2 = (1 : Int32)) → (j_X6_keep_32 post M25 x1 x2 x3))))))))
set_option maxHeartbeats 4000000 in
set_option maxRecDepth 100000 in
theorem t_X6_keep_128 (C : Cx G p s m args meth c RX6 cX6_keep 5 (some .int)) {post : Int32 → Mem → Prop} (M : Mem) (y0 : Int32) (y1 : Int32) {H : Heap} {locs : List Loc} {ls : Array Slot} (w : Wd G s M H locs) (hl : lv_has ls 5 []) (h : j_X6_keep_128 post M y0 y1) : W p l e (rmk 3) s m args below meth c H locs 0 0 (MQ below (va_Qi post (Qw G) (Af G s.heap.size)) args s 0 0 (Af G s.heap.size)) (F0 m 128 ls [.int y0, .int y1, .ref (ga G 67)]) := by
  have hx := C.1.1
  have hb := C.1.2.1
  unfold j_X6_keep_128 at h
  have hin1 := h.1
  replace h := h.2
  have hz_hin1 := in_lt hin1
  refine pw_st C w (i := 67) (by decide) (fun _ => pE_67) hin1 rfl dX6_keep_128 (fun H locs w => ?_)
  obtain ⟨M2, eM2⟩ : ∃ z : Mem, z = (mup M 67 y1.toNatClampNeg y0) := ⟨_, rfl⟩
  replace w : Wd G s M2 H locs := by rw [eM2]; exact w
  replace h := h M2 eM2
  refine lv_iconst (v := 0) hx hb dX6_keep_129 (by decide) ?_
  exact ret_i C w h dX6_keep_130
set_option maxHeartbeats 4000000 in
set_option maxRecDepth 100000 in
theorem t_X6_keep_84 (C : Cx G p s m args meth c RX6 cX6_keep 5 (some .int)) {post : Int32 → Mem → Prop} (M : Mem) (y0 : Int32) {H : Heap} {locs : List Loc} {ls : Array Slot} (w : Wd G s M H locs) (hl : lv_has ls 5 []) (h : j_X6_keep_84 post M y0) : W p l e (rmk 3) s m args below meth c H locs 0 0 (MQ below (va_Qi post (Qw G) (Af G s.heap.size)) args s 0 0 (Af G s.heap.size)) (F0 m 84 ls [.int y0, .ref (ga G 67)]) := by
  have hx := C.1.1
  have hb := C.1.2.1
  unfold j_X6_keep_84 at h
  refine lv_bipush (v := -15) hx hb dX6_keep_84 (by decide) ?_
  refine lv_goto (tgt := 128) hx hb dX6_keep_86 (by decide) ?_
  exact t_X6_keep_128 C M (-15 : Int32) y0  w (lv_sub hl [] rfl) h
set_option maxHeartbeats 4000000 in
set_option maxRecDepth 100000 in
theorem t_X6_keep_32 (C : Cx G p s m args meth c RX6 cX6_keep 5 (some .int)) {post : Int32 → Mem → Prop} (M : Mem) (x1 : Int32) (x2 : Int32) (x3 : Int32) {H : Heap} {locs : List Loc} {ls : Array Slot} (w : Wd G s M H locs) (hl : lv_has ls 5 [(0, .ref (ga G 57)), (1, .int x1), (2, .int x2), (3, .int x3)]) (h : j_X6_keep_32 post M x1 x2 x3) : W p l e (rmk 3) s m args below meth c H locs 0 0 (MQ below (va_Qi post (Qw G) (Af G s.heap.size)) args s 0 0 (Af G s.heap.size)) (F0 m 32 ls []) := by
  have hx := C.1.1
  have hb := C.1.2.1
  unfold j_X6_keep_32 at h
  refine lv_aload_n hx hb dX6_keep_32 rfl (lv_at hl 0 rfl) ?_
  refine gt_6_4 C w kw_5_4 dX6_keep_33 ?_
  refine lv_iload_n hx hb dX6_keep_36 rfl (lv_at hl 1 rfl) ?_
  refine lv_iload_n hx hb dX6_keep_37 rfl (lv_at hl 2 rfl) ?_
  have hin3 := h.1
  replace h := h.2
  have hz_hin3 := in_lt hin3
  refine pw_st C w (i := 62) (by decide) (fun _ => pE_62) hin3 rfl dX6_keep_38 (fun H locs w => ?_)
  obtain ⟨M4, eM4⟩ : ∃ z : Mem, z = (mup M 62 x1.toNatClampNeg x2) := ⟨_, rfl⟩
  replace w : Wd G s M4 H locs := by rw [eM4]; exact w
  replace h := h M4 eM4
  refine lv_iload_n hx hb dX6_keep_39 rfl (lv_at hl 2 rfl) ?_
  refine lv_if_ne (tgt := 45) hx hb dX6_keep_40 (by decide) (fun c5 => ?_) (fun c5 => ?_)
  · replace h := h.2 c5
    refine lv_aload_n hx hb dX6_keep_45 rfl (lv_at hl 0 rfl) ?_
    refine lv_iload_n hx hb dX6_keep_46 rfl (lv_at hl 3 rfl) ?_
    refine lv_iconst (v := 0) hx hb dX6_keep_47 (by decide) ?_
    refine end_i w (run_V (As := [.int x3, .int (0 : Int32)]) C w hl.1 (c_X6_get l G C.2.2.1 _ _ x3 (0 : Int32)  _ h) kw_14_10 kw_1_5 kw_14_7 kw_14_8 kw_14_9 hd_X6_get ⟨by decide, by decide⟩ (w.recv C (i := 57) (by decide) (pE_6) rfl) rfl (Nat.le_of_ble_eq_true rfl) dX6_keep_48) (fun r6 M7 H locs h w => ?_)
    refine lv_istore (lv' := [(4, .int r6), (0, .ref (ga G 57)), (1, .int x1), (2, .int x2), (3, .int x3)]) hx hb dX6_keep_51 hl (by decide) rfl (fun ls hl => ?_)
    refine lv_aload_n hx hb dX6_keep_53 rfl (lv_at hl 1 rfl) ?_
    refine gt_6_8 C w kw_5_8 dX6_keep_54 ?_
    refine lv_iload_n hx hb dX6_keep_57 rfl (lv_at hl 2 rfl) ?_
    refine lv_aload_n hx hb dX6_keep_58 rfl (lv_at hl 1 rfl) ?_
    refine lv_iload_n hx hb dX6_keep_59 rfl (lv_at hl 4 rfl) ?_
    refine end_i w (run_V (As := [.int x3]) C w hl.1 (c_X6_priceOf l G C.2.2.1 _ _ x3  _ h) kw_36_22 kw_1_5 kw_36_19 kw_36_20 kw_36_21 hd_X6_priceOf ⟨by decide, by decide⟩ (w.recv C (i := 57) (by decide) (pE_6) rfl) rfl (Nat.le_of_ble_eq_true rfl) dX6_keep_60) (fun r8 M9 H locs h w => ?_)
    refine pw_st C w (i := 66) (by decide) (fun _ => pE_66) hin3 rfl dX6_keep_63 (fun H locs w => ?_)
    obtain ⟨M10, eM10⟩ : ∃ z : Mem, z = (mup M9 66 x1.toNatClampNeg r8) := ⟨_, rfl⟩
    replace w : Wd G s M10 H locs := by rw [eM10]; exact w
    replace h := h M10 eM10
    refine lv_aload_n hx hb dX6_keep_64 rfl (lv_at hl 1 rfl) ?_
    refine gt_6_9 C w kw_5_9 dX6_keep_65 ?_
    refine lv_iload_n hx hb dX6_keep_68 rfl (lv_at hl 2 rfl) ?_
    refine lv_iload hx hb dX6_keep_69 (lv_at hl 0 rfl) ?_
    refine lv_iconst (v := 5) hx hb dX6_keep_71 (by decide) ?_
    refine lv_icmp_eq (tgt := 84) hx hb dX6_keep_72 (by decide) (fun c11 => ?_) (fun c11 => ?_)
    · replace h := h.1 c11
      exact t_X6_keep_84 C M10 x1  w (lv_sub hl [] rfl) h
    replace h := h.2 c11
    refine lv_aload_n hx hb dX6_keep_75 rfl (lv_at hl 1 rfl) ?_
    refine lv_iload_n hx hb dX6_keep_76 rfl (lv_at hl 4 rfl) ?_
    refine lv_iconst (v := 1) hx hb dX6_keep_77 (by decide) ?_
    refine end_i w (run_V (As := [.int x3, .int (1 : Int32)]) C w hl.1 (c_X6_get l G C.2.2.1 _ _ x3 (1 : Int32)  _ h) kw_14_10 kw_1_5 kw_14_7 kw_14_8 kw_14_9 hd_X6_get ⟨by decide, by decide⟩ (w.recv C (i := 57) (by decide) (pE_6) rfl) rfl (Nat.le_of_ble_eq_true rfl) dX6_keep_78) (fun r12 M13 H locs h w => ?_)
    refine lv_if_ne (tgt := 89) hx hb dX6_keep_81 (by decide) (fun c14 => ?_) (fun c14 => ?_)
    · replace h := h.2 c14
      refine lv_iload hx hb dX6_keep_89 (lv_at hl 0 rfl) ?_
      refine lv_iconst (v := 4) hx hb dX6_keep_91 (by decide) ?_
      refine lv_icmp_ne (tgt := 102) hx hb dX6_keep_92 (by decide) (fun c15 => ?_) (fun c15 => ?_)
      · replace h := h.2 c15
        refine lv_iload hx hb dX6_keep_102 (lv_at hl 0 rfl) ?_
        refine lv_bipush (v := 7) hx hb dX6_keep_104 (by decide) ?_
        refine lv_icmp_ne (tgt := 127) hx hb dX6_keep_106 (by decide) (fun c16 => ?_) (fun c16 => ?_)
        · replace h := h.2 c16
          refine lv_iload_n hx hb dX6_keep_127 rfl (lv_at hl 4 rfl) ?_
          exact t_X6_keep_128 C M13 x3 x1  w (lv_sub hl [] rfl) h
        replace h := h.1 c16
        refine lv_sipush (v := 200) hx hb dX6_keep_109 (by decide) ?_
        refine lv_iload hx hb dX6_keep_112 (lv_at hl 0 rfl) ?_
        refine lv_aload_n hx hb dX6_keep_114 rfl (lv_at hl 1 rfl) ?_
        refine lv_iload_n hx hb dX6_keep_115 rfl (lv_at hl 4 rfl) ?_
        refine lv_iconst (v := 1) hx hb dX6_keep_116 (by decide) ?_
        refine end_i w (run_V (As := [.int x3, .int (1 : Int32)]) C w hl.1 (c_X6_get l G C.2.2.1 _ _ x3 (1 : Int32)  _ h) kw_14_10 kw_1_5 kw_14_7 kw_14_8 kw_14_9 hd_X6_get ⟨by decide, by decide⟩ (w.recv C (i := 57) (by decide) (pE_6) rfl) rfl (Nat.le_of_ble_eq_true rfl) dX6_keep_117) (fun r17 M18 H locs h w => ?_)
        refine end_i w (run_S (As := [.int r6, .int r17]) C w hl.1 (c_X6_wearBy l G C.2.2.1 _ _ r6 r17  _ h) kw_14_22 kw_1_5 kw_14_20 kw_14_21 hd_X6_wearBy ⟨by decide, by decide⟩ rfl (Nat.le_of_ble_eq_true rfl) dX6_keep_120) (fun r19 M20 H locs h w => ?_)
        refine lv_iadd hx hb dX6_keep_123 ?_
        refine lv_goto (tgt := 128) hx hb dX6_keep_124 (by decide) ?_
        exact t_X6_keep_128 C M20 ((200 : Int32) + r19) x1  w (lv_sub hl [] rfl) h
      replace h := h.1 c15
      refine lv_bipush (v := 100) hx hb dX6_keep_95 (by decide) ?_
      refine lv_iload_n hx hb dX6_keep_97 rfl (lv_at hl 4 rfl) ?_
      refine lv_iadd hx hb dX6_keep_98 ?_
      refine lv_goto (tgt := 128) hx hb dX6_keep_99 (by decide) ?_
      exact t_X6_keep_128 C M13 ((100 : Int32) + x3) x1  w (lv_sub hl [] rfl) h
    replace h := h.1 c14
    exact t_X6_keep_84 C M13 x1  w (lv_sub hl [] rfl) h
  replace h := h.1 c5
  refine lv_iconst (v := 0) hx hb dX6_keep_43 (by decide) ?_
  exact ret_i C w h dX6_keep_44
set_option maxHeartbeats 4000000 in
set_option maxRecDepth 100000 in
theorem t_X6_keep_30 (C : Cx G p s m args meth c RX6 cX6_keep 5 (some .int)) {post : Int32 → Mem → Prop} (M : Mem) {H : Heap} {locs : List Loc} {ls : Array Slot} (w : Wd G s M H locs) (hl : lv_has ls 5 []) (h : j_X6_keep_30 post M) : W p l e (rmk 3) s m args below meth c H locs 0 0 (MQ below (va_Qi post (Qw G) (Af G s.heap.size)) args s 0 0 (Af G s.heap.size)) (F0 m 30 ls []) := by
  have hx := C.1.1
  have hb := C.1.2.1
  unfold j_X6_keep_30 at h
  refine lv_iconst (v := -1) hx hb dX6_keep_30 (by decide) ?_
  exact ret_i C w h dX6_keep_31
set_option maxHeartbeats 4000000 in
set_option maxRecDepth 100000 in
theorem c_X6_keep (l : Launch) (G : GG) (hG : Ag G) (sz : Nat) (M : Mem) (x1 : Int32) (x2 : Int32) (x3 : Int32) (post : Int32 → Mem → Prop) (h : q_X6_keep M x1 x2 x3 post) : Met l yX6_keep (Cond.code yX6_keep cX6_keep 5 (some .int) :: wsL_law) (rmk 3) (va_Pc [.ref (ga G 57), .int x1, .int x2, .int x3] (Pw G sz M)) (va_Qi post (Qw G) (Af G sz)) 0 0 (Af G sz) := by
  refine Met.ofW (cc := cX6_keep) (maxL := 5) (ret := (some .int)) (by decide) rfl ?_
  intro p e s m args below meth c s₁ B hml hv
  obtain ⟨rfl, hsz, hE, hP⟩ := hv
  subst hsz
  have C := Cx.of (own := RX6) hG hE rfl hml B
  have w : Wd G s M s.heap [] := ⟨hP, va_S.rf⟩
  have hl := lv_entry [.ref (ga G 57), .int x1, .int x2, .int x3] (n := 5) (Nat.le_of_ble_eq_true rfl)
  rw [lg_entry_eq]
  generalize (lg_sl [.ref (ga G 57), .int x1, .int x2, .int x3] ++ List.replicate (5 - (lg_sl [.ref (ga G 57), .int x1, .int x2, .int x3]).length) Slot.unset).toArray = ls at hl ⊢
  have hl : lv_has ls 5 [(0, .ref (ga G 57)), (1, .int x1), (2, .int x2), (3, .int x3)] := hl
  have hx := C.1.1
  have hb := C.1.2.1
  show W p l e (rmk 3) s m _ below meth c s.heap [] 0 0 _ _
  unfold q_X6_keep at h
  refine lv_iload_n hx hb dX6_keep_0 rfl (lv_at hl 1 rfl) ?_
  refine end_i w (run_S (As := [.int x1]) C w hl.1 (c_X6_isShelf l G C.2.2.1 _ _ x1  _ h) kw_12_1 kw_1_5 kw_11_23 kw_12_0 hd_X6_isShelf ⟨by decide, by decide⟩ rfl (Nat.le_of_ble_eq_true rfl) dX6_keep_1) (fun r21 M22 H locs h w => ?_)
  refine lv_if_eq (tgt := 30) hx hb dX6_keep_4 (by decide) (fun c23 => ?_) (fun c23 => ?_)
  · replace h := h.1 c23
    exact t_X6_keep_30 C M22   w (lv_sub hl [] rfl) h
  replace h := h.2 c23
  refine lv_iload_n hx hb dX6_keep_7 rfl (lv_at hl 2 rfl) ?_
  refine lv_i2l hx hb dX6_keep_8 rfl ?_
  refine lv_lconst (v := 0) hx hb dX6_keep_9 (by decide) ?_
  refine lv_lconst (v := 1) hx hb dX6_keep_10 (by decide) ?_
  refine end_i w (run_S (As := [.long x2.toInt64, .long (0 : Int64), .long (1 : Int64)]) C w hl.1 (c_X6_isIn l G C.2.2.1 _ _ x2.toInt64 (0 : Int64) (1 : Int64)  _ h) kw_12_5 kw_1_5 kw_12_3 kw_12_4 hd_X6_isIn ⟨by decide, by decide⟩ rfl (Nat.le_of_ble_eq_true rfl) dX6_keep_11) (fun r24 M25 H locs h w => ?_)
  refine lv_if_eq (tgt := 30) hx hb dX6_keep_14 (by decide) (fun c26 => ?_) (fun c26 => ?_)
  · replace h := h.1 c26
    exact t_X6_keep_30 C M25   w (lv_sub hl [] rfl) h
  replace h := h.2 c26
  refine lv_iload_n hx hb dX6_keep_17 rfl (lv_at hl 2 rfl) ?_
  refine lv_iconst (v := 1) hx hb dX6_keep_18 (by decide) ?_
  refine lv_icmp_ne (tgt := 32) hx hb dX6_keep_19 (by decide) (fun c27 => ?_) (fun c27 => ?_)
  · replace h := h.2 c27
    exact t_X6_keep_32 C M25 x1 x2 x3  w (lv_sub hl [0, 1, 2, 3] rfl) h
  replace h := h.1 c27
  refine lv_aload_n hx hb dX6_keep_22 rfl (lv_at hl 0 rfl) ?_
  refine lv_iload_n hx hb dX6_keep_23 rfl (lv_at hl 3 rfl) ?_
  refine end_i w (run_V (As := [.int x3]) C w hl.1 (c_X6_isPiece l G C.2.2.1 _ _ x3  _ h) kw_14_6 kw_1_5 kw_14_3 kw_14_4 kw_14_5 hd_X6_isPiece ⟨by decide, by decide⟩ (w.recv C (i := 57) (by decide) (pE_6) rfl) rfl (Nat.le_of_ble_eq_true rfl) dX6_keep_24) (fun r28 M29 H locs h w => ?_)
  refine lv_if_ne (tgt := 32) hx hb dX6_keep_27 (by decide) (fun c30 => ?_) (fun c30 => ?_)
  · replace h := h.2 c30
    exact t_X6_keep_32 C M29 x1 x2 x3  w (lv_sub hl [0, 1, 2, 3] rfl) h
  replace h := h.1 c30
  exact t_X6_keep_30 C M29   w (lv_sub hl [] rfl) h
end WALK
