theorem dX6_tenth_0 : decode cX6_tenth 0 = .ok (.aload_n 0, 1) := by decide +kernel
theorem dX6_tenth_1 : decode cX6_tenth 1 = .ok (.invokevirtual 170, 3) := by decide +kernel
theorem dX6_tenth_4 : decode cX6_tenth 4 = .ok (.ifCond .ne 6, 3) := by decide +kernel
theorem dX6_tenth_7 : decode cX6_tenth 7 = .ok (.bipush (-3), 2) := by decide +kernel
theorem dX6_tenth_9 : decode cX6_tenth 9 = .ok (.ireturn, 1) := by decide +kernel
theorem dX6_tenth_10 : decode cX6_tenth 10 = .ok (.aload_n 0, 1) := by decide +kernel
theorem dX6_tenth_11 : decode cX6_tenth 11 = .ok (.aload_n 0, 1) := by decide +kernel
theorem dX6_tenth_12 : decode cX6_tenth 12 = .ok (.invokevirtual 173, 3) := by decide +kernel
theorem dX6_tenth_15 : decode cX6_tenth 15 = .ok (.invokevirtual 176, 3) := by decide +kernel
theorem dX6_tenth_18 : decode cX6_tenth 18 = .ok (.aload_n 0, 1) := by decide +kernel
theorem dX6_tenth_19 : decode cX6_tenth 19 = .ok (.aload_n 0, 1) := by decide +kernel
theorem dX6_tenth_20 : decode cX6_tenth 20 = .ok (.getfield 9, 3) := by decide +kernel
theorem dX6_tenth_23 : decode cX6_tenth 23 = .ok (.iconst 5, 1) := by decide +kernel
theorem dX6_tenth_24 : decode cX6_tenth 24 = .ok (.iaload, 1) := by decide +kernel
theorem dX6_tenth_25 : decode cX6_tenth 25 = .ok (.invokevirtual 195, 3) := by decide +kernel
theorem dX6_tenth_28 : decode cX6_tenth 28 = .ok (.ireturn, 1) := by decide +kernel
theorem dX0_greatestPull_0 : decode cX0_greatestPull 0 = .ok (.iconst 0, 1) := by decide +kernel
theorem dX0_greatestPull_1 : decode cX0_greatestPull 1 = .ok (.istore_n 1, 1) := by decide +kernel
theorem dX0_greatestPull_2 : decode cX0_greatestPull 2 = .ok (.iconst 0, 1) := by decide +kernel
theorem dX0_greatestPull_3 : decode cX0_greatestPull 3 = .ok (.istore_n 2, 1) := by decide +kernel
theorem dX0_greatestPull_4 : decode cX0_greatestPull 4 = .ok (.iload_n 2, 1) := by decide +kernel
theorem dX0_greatestPull_5 : decode cX0_greatestPull 5 = .ok (.aload_n 0, 1) := by decide +kernel
theorem dX0_greatestPull_6 : decode cX0_greatestPull 6 = .ok (.getfield 24, 3) := by decide +kernel
theorem dX0_greatestPull_9 : decode cX0_greatestPull 9 = .ok (.if_icmp .ge 23, 3) := by decide +kernel
theorem dX0_greatestPull_12 : decode cX0_greatestPull 12 = .ok (.iload_n 1, 1) := by decide +kernel
theorem dX0_greatestPull_13 : decode cX0_greatestPull 13 = .ok (.aload_n 0, 1) := by decide +kernel
theorem dX0_greatestPull_14 : decode cX0_greatestPull 14 = .ok (.aload_n 0, 1) := by decide +kernel
theorem dX0_greatestPull_15 : decode cX0_greatestPull 15 = .ok (.iload_n 2, 1) := by decide +kernel
theorem dX0_greatestPull_16 : decode cX0_greatestPull 16 = .ok (.invokevirtual 71, 3) := by decide +kernel
theorem dX0_greatestPull_19 : decode cX0_greatestPull 19 = .ok (.invokevirtual 74, 3) := by decide +kernel
theorem dX0_greatestPull_22 : decode cX0_greatestPull 22 = .ok (.invokestatic 42, 3) := by decide +kernel
theorem dX0_greatestPull_25 : decode cX0_greatestPull 25 = .ok (.istore_n 1, 1) := by decide +kernel
theorem dX0_greatestPull_26 : decode cX0_greatestPull 26 = .ok (.iinc 2 1, 3) := by decide +kernel
theorem dX0_greatestPull_29 : decode cX0_greatestPull 29 = .ok (.goto (-25), 3) := by decide +kernel
theorem dX0_greatestPull_32 : decode cX0_greatestPull 32 = .ok (.iload_n 1, 1) := by decide +kernel
theorem dX0_greatestPull_33 : decode cX0_greatestPull 33 = .ok (.ireturn, 1) := by decide +kernel
theorem dX0_whenGreatest_0 : decode cX0_whenGreatest 0 = .ok (.aload_n 0, 1) := by decide +kernel
theorem dX0_whenGreatest_1 : decode cX0_whenGreatest 1 = .ok (.invokevirtual 77, 3) := by decide +kernel
theorem dX0_whenGreatest_4 : decode cX0_whenGreatest 4 = .ok (.istore_n 1, 1) := by decide +kernel
theorem dX0_whenGreatest_5 : decode cX0_whenGreatest 5 = .ok (.iconst 0, 1) := by decide +kernel
theorem dX0_whenGreatest_6 : decode cX0_whenGreatest 6 = .ok (.istore_n 2, 1) := by decide +kernel
theorem dX0_whenGreatest_7 : decode cX0_whenGreatest 7 = .ok (.iload_n 2, 1) := by decide +kernel
theorem dX0_whenGreatest_8 : decode cX0_whenGreatest 8 = .ok (.aload_n 0, 1) := by decide +kernel
theorem dX0_whenGreatest_9 : decode cX0_whenGreatest 9 = .ok (.getfield 24, 3) := by decide +kernel
theorem dX0_whenGreatest_12 : decode cX0_whenGreatest 12 = .ok (.if_icmp .ge 20, 3) := by decide +kernel
theorem dX0_whenGreatest_15 : decode cX0_whenGreatest 15 = .ok (.aload_n 0, 1) := by decide +kernel
theorem dX0_whenGreatest_16 : decode cX0_whenGreatest 16 = .ok (.iload_n 2, 1) := by decide +kernel
theorem dX0_whenGreatest_17 : decode cX0_whenGreatest 17 = .ok (.invokevirtual 80, 3) := by decide +kernel
theorem dX0_whenGreatest_20 : decode cX0_whenGreatest 20 = .ok (.iload_n 1, 1) := by decide +kernel
theorem dX0_whenGreatest_21 : decode cX0_whenGreatest 21 = .ok (.if_icmp .ne 5, 3) := by decide +kernel
theorem dX0_whenGreatest_24 : decode cX0_whenGreatest 24 = .ok (.iload_n 2, 1) := by decide +kernel
theorem dX0_whenGreatest_25 : decode cX0_whenGreatest 25 = .ok (.ireturn, 1) := by decide +kernel
theorem dX0_whenGreatest_26 : decode cX0_whenGreatest 26 = .ok (.iinc 2 1, 3) := by decide +kernel
theorem dX0_whenGreatest_29 : decode cX0_whenGreatest 29 = .ok (.goto (-22), 3) := by decide +kernel
theorem dX0_whenGreatest_32 : decode cX0_whenGreatest 32 = .ok (.iconst 0, 1) := by decide +kernel
theorem dX0_whenGreatest_33 : decode cX0_whenGreatest 33 = .ok (.ireturn, 1) := by decide +kernel
theorem dX5_greatest_0 : decode cX5_greatest 0 = .ok (.iload_n 1, 1) := by decide +kernel
theorem dX5_greatest_1 : decode cX5_greatest 1 = .ok (.iconst 0, 1) := by decide +kernel
theorem dX5_greatest_2 : decode cX5_greatest 2 = .ok (.iconst 1, 1) := by decide +kernel
theorem dX5_greatest_3 : decode cX5_greatest 3 = .ok (.invokestatic 129, 3) := by decide +kernel
theorem dX5_greatest_6 : decode cX5_greatest 6 = .ok (.ifCond .ne 5, 3) := by decide +kernel
theorem dX5_greatest_9 : decode cX5_greatest 9 = .ok (.iconst (-1), 1) := by decide +kernel
theorem dX5_greatest_10 : decode cX5_greatest 10 = .ok (.ireturn, 1) := by decide +kernel
theorem dX5_greatest_11 : decode cX5_greatest 11 = .ok (.aload_n 0, 1) := by decide +kernel
theorem dX5_greatest_12 : decode cX5_greatest 12 = .ok (.invokevirtual 110, 3) := by decide +kernel
theorem dX5_greatest_15 : decode cX5_greatest 15 = .ok (.ifCond .ne 6, 3) := by decide +kernel
theorem dX5_greatest_18 : decode cX5_greatest 18 = .ok (.bipush (-3), 2) := by decide +kernel
theorem dX5_greatest_20 : decode cX5_greatest 20 = .ok (.ireturn, 1) := by decide +kernel
theorem dX5_greatest_21 : decode cX5_greatest 21 = .ok (.iload_n 1, 1) := by decide +kernel
theorem dX5_greatest_22 : decode cX5_greatest 22 = .ok (.ifCond .ne 13, 3) := by decide +kernel
theorem dX5_greatest_25 : decode cX5_greatest 25 = .ok (.aload_n 0, 1) := by decide +kernel
theorem dX5_greatest_26 : decode cX5_greatest 26 = .ok (.getfield 25, 3) := by decide +kernel
theorem dX5_greatest_29 : decode cX5_greatest 29 = .ok (.invokevirtual 143, 3) := by decide +kernel
theorem dX5_greatest_32 : decode cX5_greatest 32 = .ok (.goto 10, 3) := by decide +kernel
theorem dX5_greatest_35 : decode cX5_greatest 35 = .ok (.aload_n 0, 1) := by decide +kernel
theorem dX5_greatest_36 : decode cX5_greatest 36 = .ok (.getfield 25, 3) := by decide +kernel
theorem dX5_greatest_39 : decode cX5_greatest 39 = .ok (.invokevirtual 146, 3) := by decide +kernel
theorem dX5_greatest_42 : decode cX5_greatest 42 = .ok (.ireturn, 1) := by decide +kernel
theorem dX6_greatestOf_0 : decode cX6_greatestOf 0 = .ok (.iconst (-1), 1) := by decide +kernel
theorem dX6_greatestOf_1 : decode cX6_greatestOf 1 = .ok (.istore_n 1, 1) := by decide +kernel
theorem dX6_greatestOf_2 : decode cX6_greatestOf 2 = .ok (.iconst 0, 1) := by decide +kernel
theorem dX6_greatestOf_3 : decode cX6_greatestOf 3 = .ok (.istore_n 2, 1) := by decide +kernel
theorem dX6_greatestOf_4 : decode cX6_greatestOf 4 = .ok (.iload_n 2, 1) := by decide +kernel
theorem dX6_greatestOf_5 : decode cX6_greatestOf 5 = .ok (.aload_n 0, 1) := by decide +kernel
theorem dX6_greatestOf_6 : decode cX6_greatestOf 6 = .ok (.getfield 9, 3) := by decide +kernel
theorem dX6_greatestOf_9 : decode cX6_greatestOf 9 = .ok (.bipush 6, 2) := by decide +kernel
theorem dX6_greatestOf_11 : decode cX6_greatestOf 11 = .ok (.iaload, 1) := by decide +kernel
theorem dX6_greatestOf_12 : decode cX6_greatestOf 12 = .ok (.if_icmp .ge 36, 3) := by decide +kernel
theorem dX6_greatestOf_15 : decode cX6_greatestOf 15 = .ok (.aload_n 0, 1) := by decide +kernel
theorem dX6_greatestOf_16 : decode cX6_greatestOf 16 = .ok (.iload_n 2, 1) := by decide +kernel
theorem dX6_greatestOf_17 : decode cX6_greatestOf 17 = .ok (.aload_n 0, 1) := by decide +kernel
theorem dX6_greatestOf_18 : decode cX6_greatestOf 18 = .ok (.getfield 9, 3) := by decide +kernel
theorem dX6_greatestOf_21 : decode cX6_greatestOf 21 = .ok (.iconst 5, 1) := by decide +kernel
theorem dX6_greatestOf_22 : decode cX6_greatestOf 22 = .ok (.iaload, 1) := by decide +kernel
theorem dX6_greatestOf_23 : decode cX6_greatestOf 23 = .ok (.invokevirtual 182, 3) := by decide +kernel
theorem dX6_greatestOf_26 : decode cX6_greatestOf 26 = .ok (.istore_n 3, 1) := by decide +kernel
theorem dX6_greatestOf_27 : decode cX6_greatestOf 27 = .ok (.iload_n 3, 1) := by decide +kernel
theorem dX6_greatestOf_28 : decode cX6_greatestOf 28 = .ok (.iload_n 1, 1) := by decide +kernel
theorem dX6_greatestOf_29 : decode cX6_greatestOf 29 = .ok (.if_icmp .gt 6, 3) := by decide +kernel
theorem dX6_greatestOf_32 : decode cX6_greatestOf 32 = .ok (.goto 10, 3) := by decide +kernel
theorem dX6_greatestOf_35 : decode cX6_greatestOf 35 = .ok (.iload_n 3, 1) := by decide +kernel
theorem dX6_greatestOf_36 : decode cX6_greatestOf 36 = .ok (.istore_n 1, 1) := by decide +kernel
theorem dX6_greatestOf_37 : decode cX6_greatestOf 37 = .ok (.aload_n 0, 1) := by decide +kernel
theorem dX6_greatestOf_38 : decode cX6_greatestOf 38 = .ok (.iload_n 2, 1) := by decide +kernel
theorem dX6_greatestOf_39 : decode cX6_greatestOf 39 = .ok (.putfield 198, 3) := by decide +kernel
theorem dX6_greatestOf_42 : decode cX6_greatestOf 42 = .ok (.iinc 2 1, 3) := by decide +kernel
theorem dX6_greatestOf_45 : decode cX6_greatestOf 45 = .ok (.goto (-41), 3) := by decide +kernel
theorem dX6_greatestOf_48 : decode cX6_greatestOf 48 = .ok (.iload_n 1, 1) := by decide +kernel
theorem dX6_greatestOf_49 : decode cX6_greatestOf 49 = .ok (.ireturn, 1) := by decide +kernel
theorem dX6_greatest_0 : decode cX6_greatest 0 = .ok (.iload_n 1, 1) := by decide +kernel
theorem dX6_greatest_1 : decode cX6_greatest 1 = .ok (.i2l, 1) := by decide +kernel
theorem dX6_greatest_2 : decode cX6_greatest 2 = .ok (.lconst 0, 1) := by decide +kernel
theorem dX6_greatest_3 : decode cX6_greatest 3 = .ok (.lconst 1, 1) := by decide +kernel
theorem dX6_greatest_4 : decode cX6_greatest 4 = .ok (.invokestatic 47, 3) := by decide +kernel
theorem dX6_greatest_7 : decode cX6_greatest 7 = .ok (.ifCond .ne 5, 3) := by decide +kernel
theorem dX6_greatest_10 : decode cX6_greatest 10 = .ok (.iconst (-1), 1) := by decide +kernel
theorem dX6_greatest_11 : decode cX6_greatest 11 = .ok (.ireturn, 1) := by decide +kernel
theorem dX6_greatest_12 : decode cX6_greatest 12 = .ok (.aload_n 0, 1) := by decide +kernel
theorem dX6_greatest_13 : decode cX6_greatest 13 = .ok (.invokevirtual 170, 3) := by decide +kernel
theorem dX6_greatest_16 : decode cX6_greatest 16 = .ok (.ifCond .ne 6, 3) := by decide +kernel
theorem dX6_greatest_19 : decode cX6_greatest 19 = .ok (.bipush (-3), 2) := by decide +kernel
theorem dX6_greatest_21 : decode cX6_greatest 21 = .ok (.ireturn, 1) := by decide +kernel
theorem dX6_greatest_22 : decode cX6_greatest 22 = .ok (.aload_n 0, 1) := by decide +kernel
theorem dX6_greatest_23 : decode cX6_greatest 23 = .ok (.aload_n 0, 1) := by decide +kernel
theorem dX6_greatest_24 : decode cX6_greatest 24 = .ok (.invokevirtual 173, 3) := by decide +kernel
theorem dX6_greatest_27 : decode cX6_greatest 27 = .ok (.invokevirtual 176, 3) := by decide +kernel
theorem dX6_greatest_30 : decode cX6_greatest 30 = .ok (.aload_n 0, 1) := by decide +kernel
theorem dX6_greatest_31 : decode cX6_greatest 31 = .ok (.invokevirtual 201, 3) := by decide +kernel
theorem dX6_greatest_34 : decode cX6_greatest 34 = .ok (.istore_n 2, 1) := by decide +kernel
theorem dX6_greatest_35 : decode cX6_greatest 35 = .ok (.iload_n 1, 1) := by decide +kernel
theorem dX6_greatest_36 : decode cX6_greatest 36 = .ok (.ifCond .ne 7, 3) := by decide +kernel
theorem dX6_greatest_39 : decode cX6_greatest 39 = .ok (.iload_n 2, 1) := by decide +kernel
theorem dX6_greatest_40 : decode cX6_greatest 40 = .ok (.goto 7, 3) := by decide +kernel
theorem dX6_greatest_43 : decode cX6_greatest 43 = .ok (.aload_n 0, 1) := by decide +kernel
theorem dX6_greatest_44 : decode cX6_greatest 44 = .ok (.getfield 198, 3) := by decide +kernel
theorem dX6_greatest_47 : decode cX6_greatest 47 = .ok (.ireturn, 1) := by decide +kernel
theorem dX5_partsWithin_0 : decode cX5_partsWithin 0 = .ok (.aload_n 0, 1) := by decide +kernel
theorem dX5_partsWithin_1 : decode cX5_partsWithin 1 = .ok (.getfield 19, 3) := by decide +kernel
theorem dX5_partsWithin_4 : decode cX5_partsWithin 4 = .ok (.aload_n 0, 1) := by decide +kernel
theorem dX5_partsWithin_5 : decode cX5_partsWithin 5 = .ok (.getfield 10, 3) := by decide +kernel
theorem dX5_partsWithin_8 : decode cX5_partsWithin 8 = .ok (.invokevirtual 58, 3) := by decide +kernel
theorem dX5_partsWithin_11 : decode cX5_partsWithin 11 = .ok (.iconst 0, 1) := by decide +kernel
theorem dX5_partsWithin_12 : decode cX5_partsWithin 12 = .ok (.istore_n 2, 1) := by decide +kernel
theorem dX5_partsWithin_13 : decode cX5_partsWithin 13 = .ok (.iload_n 2, 1) := by decide +kernel
theorem dX5_partsWithin_14 : decode cX5_partsWithin 14 = .ok (.iload_n 1, 1) := by decide +kernel
theorem dX5_partsWithin_15 : decode cX5_partsWithin 15 = .ok (.if_icmp .ge 35, 3) := by decide +kernel
theorem dX5_partsWithin_18 : decode cX5_partsWithin 18 = .ok (.aload_n 0, 1) := by decide +kernel
theorem dX5_partsWithin_19 : decode cX5_partsWithin 19 = .ok (.getfield 19, 3) := by decide +kernel
theorem dX5_partsWithin_22 : decode cX5_partsWithin 22 = .ok (.aload_n 0, 1) := by decide +kernel
theorem dX5_partsWithin_23 : decode cX5_partsWithin 23 = .ok (.getfield 25, 3) := by decide +kernel
theorem dX5_partsWithin_26 : decode cX5_partsWithin 26 = .ok (.invokevirtual 139, 3) := by decide +kernel
theorem dX5_partsWithin_29 : decode cX5_partsWithin 29 = .ok (.pop, 1) := by decide +kernel
theorem dX5_partsWithin_30 : decode cX5_partsWithin 30 = .ok (.aload_n 0, 1) := by decide +kernel
theorem dX5_partsWithin_31 : decode cX5_partsWithin 31 = .ok (.getfield 19, 3) := by decide +kernel
theorem dX5_partsWithin_34 : decode cX5_partsWithin 34 = .ok (.getfield 99, 3) := by decide +kernel
theorem dX5_partsWithin_37 : decode cX5_partsWithin 37 = .ok (.bipush (-4), 2) := by decide +kernel
theorem dX5_partsWithin_39 : decode cX5_partsWithin 39 = .ok (.if_icmp .eq 5, 3) := by decide +kernel
theorem dX5_partsWithin_42 : decode cX5_partsWithin 42 = .ok (.iload_n 2, 1) := by decide +kernel
theorem dX5_partsWithin_43 : decode cX5_partsWithin 43 = .ok (.ireturn, 1) := by decide +kernel
theorem dX5_partsWithin_44 : decode cX5_partsWithin 44 = .ok (.iinc 2 1, 3) := by decide +kernel
theorem dX5_partsWithin_47 : decode cX5_partsWithin 47 = .ok (.goto (-34), 3) := by decide +kernel
theorem dX5_partsWithin_50 : decode cX5_partsWithin 50 = .ok (.bipush (-4), 2) := by decide +kernel
theorem dX5_partsWithin_52 : decode cX5_partsWithin 52 = .ok (.ireturn, 1) := by decide +kernel
theorem dX5_holds_0 : decode cX5_holds 0 = .ok (.iload_n 1, 1) := by decide +kernel
theorem dX5_holds_1 : decode cX5_holds 1 = .ok (.iconst 0, 1) := by decide +kernel
theorem dX5_holds_2 : decode cX5_holds 2 = .ok (.sipush 400, 3) := by decide +kernel
theorem dX5_holds_5 : decode cX5_holds 5 = .ok (.invokestatic 129, 3) := by decide +kernel
theorem dX5_holds_8 : decode cX5_holds 8 = .ok (.ifCond .eq 12, 3) := by decide +kernel
theorem dX5_holds_11 : decode cX5_holds 11 = .ok (.iload_n 2, 1) := by decide +kernel
theorem dX5_holds_12 : decode cX5_holds 12 = .ok (.iconst 0, 1) := by decide +kernel
theorem dX5_holds_13 : decode cX5_holds 13 = .ok (.iconst 2, 1) := by decide +kernel
theorem dX5_holds_14 : decode cX5_holds 14 = .ok (.invokestatic 129, 3) := by decide +kernel
theorem dX5_holds_17 : decode cX5_holds 17 = .ok (.ifCond .ne 5, 3) := by decide +kernel
theorem dX5_holds_20 : decode cX5_holds 20 = .ok (.iconst (-1), 1) := by decide +kernel
theorem dX5_holds_21 : decode cX5_holds 21 = .ok (.ireturn, 1) := by decide +kernel
theorem dX5_holds_22 : decode cX5_holds 22 = .ok (.aload_n 0, 1) := by decide +kernel
theorem dX5_holds_23 : decode cX5_holds 23 = .ok (.invokevirtual 110, 3) := by decide +kernel
theorem dX5_holds_26 : decode cX5_holds 26 = .ok (.ifCond .ne 6, 3) := by decide +kernel
theorem dX5_holds_29 : decode cX5_holds 29 = .ok (.bipush (-3), 2) := by decide +kernel
theorem dX5_holds_31 : decode cX5_holds 31 = .ok (.ireturn, 1) := by decide +kernel
theorem dX5_holds_32 : decode cX5_holds 32 = .ok (.aload_n 0, 1) := by decide +kernel
theorem dX5_holds_33 : decode cX5_holds 33 = .ok (.iload_n 1, 1) := by decide +kernel
theorem dX5_holds_34 : decode cX5_holds 34 = .ok (.invokevirtual 149, 3) := by decide +kernel
theorem dX5_holds_37 : decode cX5_holds 37 = .ok (.istore_n 3, 1) := by decide +kernel
theorem dX5_holds_38 : decode cX5_holds 38 = .ok (.iload_n 2, 1) := by decide +kernel
theorem dX5_holds_39 : decode cX5_holds 39 = .ok (.ifCond .ne 15, 3) := by decide +kernel
theorem dX5_holds_42 : decode cX5_holds 42 = .ok (.iload_n 3, 1) := by decide +kernel
theorem dX5_holds_43 : decode cX5_holds 43 = .ok (.bipush (-4), 2) := by decide +kernel
theorem dX5_holds_45 : decode cX5_holds 45 = .ok (.if_icmp .ne 7, 3) := by decide +kernel
theorem dX5_holds_48 : decode cX5_holds 48 = .ok (.iconst 1, 1) := by decide +kernel
theorem dX5_holds_49 : decode cX5_holds 49 = .ok (.goto 4, 3) := by decide +kernel
theorem dX5_holds_52 : decode cX5_holds 52 = .ok (.iconst 0, 1) := by decide +kernel
theorem dX5_holds_53 : decode cX5_holds 53 = .ok (.ireturn, 1) := by decide +kernel
theorem dX5_holds_54 : decode cX5_holds 54 = .ok (.iload_n 2, 1) := by decide +kernel
theorem dX5_holds_55 : decode cX5_holds 55 = .ok (.iconst 1, 1) := by decide +kernel
theorem dX5_holds_56 : decode cX5_holds 56 = .ok (.if_icmp .eq 9, 3) := by decide +kernel
theorem dX5_holds_59 : decode cX5_holds 59 = .ok (.iload_n 3, 1) := by decide +kernel
theorem dX5_holds_60 : decode cX5_holds 60 = .ok (.bipush (-4), 2) := by decide +kernel
theorem dX5_holds_62 : decode cX5_holds 62 = .ok (.if_icmp .ne 7, 3) := by decide +kernel
theorem dX5_holds_65 : decode cX5_holds 65 = .ok (.iload_n 3, 1) := by decide +kernel
theorem dX5_holds_66 : decode cX5_holds 66 = .ok (.goto 10, 3) := by decide +kernel
theorem dX5_holds_69 : decode cX5_holds 69 = .ok (.aload_n 0, 1) := by decide +kernel
theorem dX5_holds_70 : decode cX5_holds 70 = .ok (.getfield 19, 3) := by decide +kernel
theorem dX5_holds_73 : decode cX5_holds 73 = .ok (.getfield 99, 3) := by decide +kernel
theorem dX5_holds_76 : decode cX5_holds 76 = .ok (.ireturn, 1) := by decide +kernel
theorem dX6_partsIn_0 : decode cX6_partsIn 0 = .ok (.aload_n 0, 1) := by decide +kernel
theorem dX6_partsIn_1 : decode cX6_partsIn 1 = .ok (.getfield 9, 3) := by decide +kernel
theorem dX6_partsIn_4 : decode cX6_partsIn 4 = .ok (.aload_n 0, 1) := by decide +kernel
theorem dX6_partsIn_5 : decode cX6_partsIn 5 = .ok (.getfield 19, 3) := by decide +kernel
theorem dX6_partsIn_8 : decode cX6_partsIn 8 = .ok (.invokestatic 104, 3) := by decide +kernel
theorem dX6_partsIn_11 : decode cX6_partsIn 11 = .ok (.aload_n 0, 1) := by decide +kernel
theorem dX6_partsIn_12 : decode cX6_partsIn 12 = .ok (.aload_n 0, 1) := by decide +kernel
theorem dX6_partsIn_13 : decode cX6_partsIn 13 = .ok (.invokevirtual 173, 3) := by decide +kernel
theorem dX6_partsIn_16 : decode cX6_partsIn 16 = .ok (.invokevirtual 176, 3) := by decide +kernel
theorem dX6_partsIn_19 : decode cX6_partsIn 19 = .ok (.bipush (-4), 2) := by decide +kernel
theorem dX6_partsIn_21 : decode cX6_partsIn 21 = .ok (.istore_n 2, 1) := by decide +kernel
theorem dX6_partsIn_22 : decode cX6_partsIn 22 = .ok (.iconst 0, 1) := by decide +kernel
theorem dX6_partsIn_23 : decode cX6_partsIn 23 = .ok (.istore_n 3, 1) := by decide +kernel
theorem dX6_partsIn_24 : decode cX6_partsIn 24 = .ok (.iload_n 3, 1) := by decide +kernel
theorem dX6_partsIn_25 : decode cX6_partsIn 25 = .ok (.iload_n 1, 1) := by decide +kernel
theorem dX6_partsIn_26 : decode cX6_partsIn 26 = .ok (.if_icmp .ge 34, 3) := by decide +kernel
theorem dX6_partsIn_29 : decode cX6_partsIn 29 = .ok (.iload_n 2, 1) := by decide +kernel
theorem dX6_partsIn_30 : decode cX6_partsIn 30 = .ok (.ifCond .ge 30, 3) := by decide +kernel
theorem dX6_partsIn_33 : decode cX6_partsIn 33 = .ok (.aload_n 0, 1) := by decide +kernel
theorem dX6_partsIn_34 : decode cX6_partsIn 34 = .ok (.aload_n 0, 1) := by decide +kernel
theorem dX6_partsIn_35 : decode cX6_partsIn 35 = .ok (.getfield 9, 3) := by decide +kernel
theorem dX6_partsIn_38 : decode cX6_partsIn 38 = .ok (.iconst 5, 1) := by decide +kernel
theorem dX6_partsIn_39 : decode cX6_partsIn 39 = .ok (.iaload, 1) := by decide +kernel
theorem dX6_partsIn_40 : decode cX6_partsIn 40 = .ok (.invokevirtual 195, 3) := by decide +kernel
theorem dX6_partsIn_43 : decode cX6_partsIn 43 = .ok (.istore 4, 2) := by decide +kernel
theorem dX6_partsIn_45 : decode cX6_partsIn 45 = .ok (.aload_n 0, 1) := by decide +kernel
theorem dX6_partsIn_46 : decode cX6_partsIn 46 = .ok (.getfield 185, 3) := by decide +kernel
theorem dX6_partsIn_49 : decode cX6_partsIn 49 = .ok (.ifCond .lt 5, 3) := by decide +kernel
theorem dX6_partsIn_52 : decode cX6_partsIn 52 = .ok (.iload_n 3, 1) := by decide +kernel
theorem dX6_partsIn_53 : decode cX6_partsIn 53 = .ok (.istore_n 2, 1) := by decide +kernel
theorem dX6_partsIn_54 : decode cX6_partsIn 54 = .ok (.iinc 3 1, 3) := by decide +kernel
theorem dX6_partsIn_57 : decode cX6_partsIn 57 = .ok (.goto (-33), 3) := by decide +kernel
theorem dX6_partsIn_60 : decode cX6_partsIn 60 = .ok (.aload_n 0, 1) := by decide +kernel
theorem dX6_partsIn_61 : decode cX6_partsIn 61 = .ok (.getfield 19, 3) := by decide +kernel
theorem dX6_partsIn_64 : decode cX6_partsIn 64 = .ok (.aload_n 0, 1) := by decide +kernel
theorem dX6_partsIn_65 : decode cX6_partsIn 65 = .ok (.getfield 9, 3) := by decide +kernel
theorem dX6_partsIn_68 : decode cX6_partsIn 68 = .ok (.invokestatic 104, 3) := by decide +kernel
theorem dX6_partsIn_71 : decode cX6_partsIn 71 = .ok (.iload_n 2, 1) := by decide +kernel
theorem dX6_partsIn_72 : decode cX6_partsIn 72 = .ok (.ireturn, 1) := by decide +kernel
theorem dX6_holds_0 : decode cX6_holds 0 = .ok (.iload_n 1, 1) := by decide +kernel
theorem dX6_holds_1 : decode cX6_holds 1 = .ok (.i2l, 1) := by decide +kernel
theorem dX6_holds_2 : decode cX6_holds 2 = .ok (.lconst 0, 1) := by decide +kernel
theorem dX6_holds_3 : decode cX6_holds 3 = .ok (.ldc2_w 204, 3) := by decide +kernel
theorem dX6_holds_6 : decode cX6_holds 6 = .ok (.invokestatic 47, 3) := by decide +kernel
theorem dX6_holds_9 : decode cX6_holds 9 = .ok (.ifCond .eq 15, 3) := by decide +kernel
theorem dX6_holds_12 : decode cX6_holds 12 = .ok (.iload_n 2, 1) := by decide +kernel
theorem dX6_holds_13 : decode cX6_holds 13 = .ok (.i2l, 1) := by decide +kernel
theorem dX6_holds_14 : decode cX6_holds 14 = .ok (.lconst 0, 1) := by decide +kernel
theorem dX6_holds_15 : decode cX6_holds 15 = .ok (.ldc2_w 206, 3) := by decide +kernel
theorem dX6_holds_18 : decode cX6_holds 18 = .ok (.invokestatic 47, 3) := by decide +kernel
theorem dX6_holds_21 : decode cX6_holds 21 = .ok (.ifCond .ne 5, 3) := by decide +kernel
theorem dX6_holds_24 : decode cX6_holds 24 = .ok (.iconst (-1), 1) := by decide +kernel
theorem dX6_holds_25 : decode cX6_holds 25 = .ok (.ireturn, 1) := by decide +kernel
theorem dX6_holds_26 : decode cX6_holds 26 = .ok (.aload_n 0, 1) := by decide +kernel
theorem dX6_holds_27 : decode cX6_holds 27 = .ok (.invokevirtual 170, 3) := by decide +kernel
theorem dX6_holds_30 : decode cX6_holds 30 = .ok (.ifCond .ne 6, 3) := by decide +kernel
theorem dX6_holds_33 : decode cX6_holds 33 = .ok (.bipush (-3), 2) := by decide +kernel
theorem dX6_holds_35 : decode cX6_holds 35 = .ok (.ireturn, 1) := by decide +kernel
theorem dX6_holds_36 : decode cX6_holds 36 = .ok (.aload_n 0, 1) := by decide +kernel
theorem dX6_holds_37 : decode cX6_holds 37 = .ok (.iload_n 1, 1) := by decide +kernel
theorem dX6_holds_38 : decode cX6_holds 38 = .ok (.invokevirtual 208, 3) := by decide +kernel
theorem dX6_holds_41 : decode cX6_holds 41 = .ok (.istore_n 3, 1) := by decide +kernel
theorem dX6_holds_42 : decode cX6_holds 42 = .ok (.iload_n 2, 1) := by decide +kernel
theorem dX6_holds_43 : decode cX6_holds 43 = .ok (.ifCond .ne 15, 3) := by decide +kernel
theorem dX6_holds_46 : decode cX6_holds 46 = .ok (.iload_n 3, 1) := by decide +kernel
theorem dX6_holds_47 : decode cX6_holds 47 = .ok (.ifCond .ge 7, 3) := by decide +kernel
theorem dX6_holds_50 : decode cX6_holds 50 = .ok (.iconst 1, 1) := by decide +kernel
theorem dX6_holds_51 : decode cX6_holds 51 = .ok (.goto 24, 3) := by decide +kernel
theorem dX6_holds_54 : decode cX6_holds 54 = .ok (.iconst 0, 1) := by decide +kernel
theorem dX6_holds_55 : decode cX6_holds 55 = .ok (.goto 20, 3) := by decide +kernel
theorem dX6_holds_58 : decode cX6_holds 58 = .ok (.iload_n 3, 1) := by decide +kernel
theorem dX6_holds_59 : decode cX6_holds 59 = .ok (.ifCond .lt 8, 3) := by decide +kernel
theorem dX6_holds_62 : decode cX6_holds 62 = .ok (.iload_n 2, 1) := by decide +kernel
theorem dX6_holds_63 : decode cX6_holds 63 = .ok (.iconst 1, 1) := by decide +kernel
theorem dX6_holds_64 : decode cX6_holds 64 = .ok (.if_icmp .ne 7, 3) := by decide +kernel
theorem dX6_holds_67 : decode cX6_holds 67 = .ok (.iload_n 3, 1) := by decide +kernel
theorem dX6_holds_68 : decode cX6_holds 68 = .ok (.goto 7, 3) := by decide +kernel
theorem dX6_holds_71 : decode cX6_holds 71 = .ok (.aload_n 0, 1) := by decide +kernel
theorem dX6_holds_72 : decode cX6_holds 72 = .ok (.getfield 185, 3) := by decide +kernel
theorem dX6_holds_75 : decode cX6_holds 75 = .ok (.ireturn, 1) := by decide +kernel
theorem dX5_fastest_0 : decode cX5_fastest 0 = .ok (.iload_n 1, 1) := by decide +kernel
theorem dX5_fastest_1 : decode cX5_fastest 1 = .ok (.iconst 0, 1) := by decide +kernel
theorem dX5_fastest_2 : decode cX5_fastest 2 = .ok (.sipush 400, 3) := by decide +kernel
theorem dX5_fastest_5 : decode cX5_fastest 5 = .ok (.invokestatic 129, 3) := by decide +kernel
theorem dX5_fastest_8 : decode cX5_fastest 8 = .ok (.ifCond .ne 5, 3) := by decide +kernel
theorem dX5_fastest_11 : decode cX5_fastest 11 = .ok (.iconst (-1), 1) := by decide +kernel
theorem dX5_fastest_12 : decode cX5_fastest 12 = .ok (.ireturn, 1) := by decide +kernel
theorem dX5_fastest_13 : decode cX5_fastest 13 = .ok (.aload_n 0, 1) := by decide +kernel
theorem dX5_fastest_14 : decode cX5_fastest 14 = .ok (.invokevirtual 110, 3) := by decide +kernel
theorem dX5_fastest_17 : decode cX5_fastest 17 = .ok (.ifCond .ne 6, 3) := by decide +kernel
theorem dX5_fastest_20 : decode cX5_fastest 20 = .ok (.bipush (-3), 2) := by decide +kernel
theorem dX5_fastest_22 : decode cX5_fastest 22 = .ok (.ireturn, 1) := by decide +kernel
theorem dX5_fastest_23 : decode cX5_fastest 23 = .ok (.getstatic 152, 3) := by decide +kernel
theorem dX5_fastest_26 : decode cX5_fastest 26 = .ok (.iconst 2, 1) := by decide +kernel
theorem dX5_fastest_27 : decode cX5_fastest 27 = .ok (.iaload, 1) := by decide +kernel
theorem dX5_fastest_28 : decode cX5_fastest 28 = .ok (.istore_n 2, 1) := by decide +kernel
theorem dX5_fastest_29 : decode cX5_fastest 29 = .ok (.iload_n 2, 1) := by decide +kernel
theorem dX5_fastest_30 : decode cX5_fastest 30 = .ok (.ifCond .lt 29, 3) := by decide +kernel
theorem dX5_fastest_33 : decode cX5_fastest 33 = .ok (.aload_n 0, 1) := by decide +kernel
theorem dX5_fastest_34 : decode cX5_fastest 34 = .ok (.getfield 25, 3) := by decide +kernel
theorem dX5_fastest_37 : decode cX5_fastest 37 = .ok (.iload_n 2, 1) := by decide +kernel
theorem dX5_fastest_38 : decode cX5_fastest 38 = .ok (.putfield 155, 3) := by decide +kernel
theorem dX5_fastest_41 : decode cX5_fastest 41 = .ok (.aload_n 0, 1) := by decide +kernel
theorem dX5_fastest_42 : decode cX5_fastest 42 = .ok (.iload_n 1, 1) := by decide +kernel
theorem dX5_fastest_43 : decode cX5_fastest 43 = .ok (.invokevirtual 149, 3) := by decide +kernel
theorem dX5_fastest_46 : decode cX5_fastest 46 = .ok (.bipush (-4), 2) := by decide +kernel
theorem dX5_fastest_48 : decode cX5_fastest 48 = .ok (.if_icmp .ne 5, 3) := by decide +kernel
theorem dX5_fastest_51 : decode cX5_fastest 51 = .ok (.iload_n 2, 1) := by decide +kernel
theorem dX5_fastest_52 : decode cX5_fastest 52 = .ok (.ireturn, 1) := by decide +kernel
theorem dX5_fastest_53 : decode cX5_fastest 53 = .ok (.iinc 2 (-1), 3) := by decide +kernel
theorem dX5_fastest_56 : decode cX5_fastest 56 = .ok (.goto (-27), 3) := by decide +kernel
theorem dX5_fastest_59 : decode cX5_fastest 59 = .ok (.bipush (-4), 2) := by decide +kernel
theorem dX5_fastest_61 : decode cX5_fastest 61 = .ok (.ireturn, 1) := by decide +kernel
theorem dX6_fastest_0 : decode cX6_fastest 0 = .ok (.iload_n 1, 1) := by decide +kernel
theorem dX6_fastest_1 : decode cX6_fastest 1 = .ok (.i2l, 1) := by decide +kernel
theorem dX6_fastest_2 : decode cX6_fastest 2 = .ok (.lconst 0, 1) := by decide +kernel
theorem dX6_fastest_3 : decode cX6_fastest 3 = .ok (.ldc2_w 204, 3) := by decide +kernel
theorem dX6_fastest_6 : decode cX6_fastest 6 = .ok (.invokestatic 47, 3) := by decide +kernel
theorem dX6_fastest_9 : decode cX6_fastest 9 = .ok (.ifCond .ne 5, 3) := by decide +kernel
theorem dX6_fastest_12 : decode cX6_fastest 12 = .ok (.iconst (-1), 1) := by decide +kernel
theorem dX6_fastest_13 : decode cX6_fastest 13 = .ok (.ireturn, 1) := by decide +kernel
theorem dX6_fastest_14 : decode cX6_fastest 14 = .ok (.aload_n 0, 1) := by decide +kernel
theorem dX6_fastest_15 : decode cX6_fastest 15 = .ok (.invokevirtual 170, 3) := by decide +kernel
theorem dX6_fastest_18 : decode cX6_fastest 18 = .ok (.ifCond .ne 6, 3) := by decide +kernel
theorem dX6_fastest_21 : decode cX6_fastest 21 = .ok (.bipush (-3), 2) := by decide +kernel
theorem dX6_fastest_23 : decode cX6_fastest 23 = .ok (.ireturn, 1) := by decide +kernel
theorem dX6_fastest_24 : decode cX6_fastest 24 = .ok (.aload_n 0, 1) := by decide +kernel
theorem dX6_fastest_25 : decode cX6_fastest 25 = .ok (.getfield 9, 3) := by decide +kernel
theorem dX6_fastest_28 : decode cX6_fastest 28 = .ok (.bipush 7, 2) := by decide +kernel
theorem dX6_fastest_30 : decode cX6_fastest 30 = .ok (.iaload, 1) := by decide +kernel
theorem dX6_fastest_31 : decode cX6_fastest 31 = .ok (.istore_n 2, 1) := by decide +kernel
theorem dX6_fastest_32 : decode cX6_fastest 32 = .ok (.bipush (-4), 2) := by decide +kernel
theorem dX6_fastest_34 : decode cX6_fastest 34 = .ok (.istore_n 3, 1) := by decide +kernel
theorem dX6_fastest_35 : decode cX6_fastest 35 = .ok (.iconst 0, 1) := by decide +kernel
theorem dX6_fastest_36 : decode cX6_fastest 36 = .ok (.istore 4, 2) := by decide +kernel
theorem dX6_fastest_38 : decode cX6_fastest 38 = .ok (.iload 4, 2) := by decide +kernel
theorem dX6_fastest_40 : decode cX6_fastest 40 = .ok (.bipush 10, 2) := by decide +kernel
theorem dX6_fastest_42 : decode cX6_fastest 42 = .ok (.if_icmp .ge 29, 3) := by decide +kernel
theorem dX6_fastest_45 : decode cX6_fastest 45 = .ok (.aload_n 0, 1) := by decide +kernel
theorem dX6_fastest_46 : decode cX6_fastest 46 = .ok (.getfield 9, 3) := by decide +kernel
theorem dX6_fastest_49 : decode cX6_fastest 49 = .ok (.bipush 7, 2) := by decide +kernel
theorem dX6_fastest_51 : decode cX6_fastest 51 = .ok (.iload 4, 2) := by decide +kernel
theorem dX6_fastest_53 : decode cX6_fastest 53 = .ok (.iastore, 1) := by decide +kernel
theorem dX6_fastest_54 : decode cX6_fastest 54 = .ok (.aload_n 0, 1) := by decide +kernel
theorem dX6_fastest_55 : decode cX6_fastest 55 = .ok (.iload_n 1, 1) := by decide +kernel
theorem dX6_fastest_56 : decode cX6_fastest 56 = .ok (.invokevirtual 208, 3) := by decide +kernel
theorem dX6_fastest_59 : decode cX6_fastest 59 = .ok (.ifCond .ge 6, 3) := by decide +kernel
theorem dX6_fastest_62 : decode cX6_fastest 62 = .ok (.iload 4, 2) := by decide +kernel
theorem dX6_fastest_64 : decode cX6_fastest 64 = .ok (.istore_n 3, 1) := by decide +kernel
theorem dX6_fastest_65 : decode cX6_fastest 65 = .ok (.iinc 4 1, 3) := by decide +kernel
theorem dX6_fastest_68 : decode cX6_fastest 68 = .ok (.goto (-30), 3) := by decide +kernel
theorem dX6_fastest_71 : decode cX6_fastest 71 = .ok (.aload_n 0, 1) := by decide +kernel
theorem dX6_fastest_72 : decode cX6_fastest 72 = .ok (.getfield 9, 3) := by decide +kernel
theorem dX6_fastest_75 : decode cX6_fastest 75 = .ok (.bipush 7, 2) := by decide +kernel
theorem dX6_fastest_77 : decode cX6_fastest 77 = .ok (.iload_n 2, 1) := by decide +kernel
theorem dX6_fastest_78 : decode cX6_fastest 78 = .ok (.iastore, 1) := by decide +kernel
theorem dX6_fastest_79 : decode cX6_fastest 79 = .ok (.iload_n 3, 1) := by decide +kernel
theorem dX6_fastest_80 : decode cX6_fastest 80 = .ok (.ireturn, 1) := by decide +kernel
theorem dX5_longer_0 : decode cX5_longer 0 = .ok (.aload_n 0, 1) := by decide +kernel
theorem dX5_longer_1 : decode cX5_longer 1 = .ok (.getfield 10, 3) := by decide +kernel
theorem dX5_longer_4 : decode cX5_longer 4 = .ok (.iload_n 1, 1) := by decide +kernel
theorem dX5_longer_5 : decode cX5_longer 5 = .ok (.invokevirtual 66, 3) := by decide +kernel
theorem dX5_longer_8 : decode cX5_longer 8 = .ok (.ifCond .eq 14, 3) := by decide +kernel
theorem dX5_longer_11 : decode cX5_longer 11 = .ok (.iload_n 2, 1) := by decide +kernel
theorem dX5_longer_12 : decode cX5_longer 12 = .ok (.iconst 0, 1) := by decide +kernel
theorem dX5_longer_13 : decode cX5_longer 13 = .ok (.sipush 9999, 3) := by decide +kernel
theorem dX5_longer_16 : decode cX5_longer 16 = .ok (.invokestatic 129, 3) := by decide +kernel
theorem dX5_longer_19 : decode cX5_longer 19 = .ok (.ifCond .ne 5, 3) := by decide +kernel
theorem dX5_longer_22 : decode cX5_longer 22 = .ok (.iconst (-1), 1) := by decide +kernel
theorem dX5_longer_23 : decode cX5_longer 23 = .ok (.ireturn, 1) := by decide +kernel
theorem dX5_longer_24 : decode cX5_longer 24 = .ok (.aload_n 0, 1) := by decide +kernel
theorem dX5_longer_25 : decode cX5_longer 25 = .ok (.invokevirtual 110, 3) := by decide +kernel
theorem dX5_longer_28 : decode cX5_longer 28 = .ok (.ifCond .ne 6, 3) := by decide +kernel
theorem dX5_longer_31 : decode cX5_longer 31 = .ok (.bipush (-3), 2) := by decide +kernel
theorem dX5_longer_33 : decode cX5_longer 33 = .ok (.ireturn, 1) := by decide +kernel
theorem dX5_longer_34 : decode cX5_longer 34 = .ok (.iconst 0, 1) := by decide +kernel
theorem dX5_longer_35 : decode cX5_longer 35 = .ok (.istore_n 3, 1) := by decide +kernel
theorem dX5_longer_36 : decode cX5_longer 36 = .ok (.iload_n 3, 1) := by decide +kernel
theorem dX5_longer_37 : decode cX5_longer 37 = .ok (.bipush 99, 2) := by decide +kernel
theorem dX5_longer_39 : decode cX5_longer 39 = .ok (.if_icmp .gt 39, 3) := by decide +kernel
theorem dX5_longer_42 : decode cX5_longer 42 = .ok (.aload_n 0, 1) := by decide +kernel
theorem dX5_longer_43 : decode cX5_longer 43 = .ok (.getfield 25, 3) := by decide +kernel
theorem dX5_longer_46 : decode cX5_longer 46 = .ok (.invokevirtual 143, 3) := by decide +kernel
theorem dX5_longer_49 : decode cX5_longer 49 = .ok (.iload_n 2, 1) := by decide +kernel
theorem dX5_longer_50 : decode cX5_longer 50 = .ok (.if_icmp .gt 5, 3) := by decide +kernel
theorem dX5_longer_53 : decode cX5_longer 53 = .ok (.iload_n 3, 1) := by decide +kernel
theorem dX5_longer_54 : decode cX5_longer 54 = .ok (.ireturn, 1) := by decide +kernel
theorem dX5_longer_55 : decode cX5_longer 55 = .ok (.aload_n 0, 1) := by decide +kernel
theorem dX5_longer_56 : decode cX5_longer 56 = .ok (.getfield 25, 3) := by decide +kernel
theorem dX5_longer_59 : decode cX5_longer 59 = .ok (.aload_n 0, 1) := by decide +kernel
theorem dX5_longer_60 : decode cX5_longer 60 = .ok (.getfield 10, 3) := by decide +kernel
theorem dX5_longer_63 : decode cX5_longer 63 = .ok (.getfield 70, 3) := by decide +kernel
theorem dX5_longer_66 : decode cX5_longer 66 = .ok (.iload_n 1, 1) := by decide +kernel
theorem dX5_longer_67 : decode cX5_longer 67 = .ok (.aaload, 1) := by decide +kernel
theorem dX5_longer_68 : decode cX5_longer 68 = .ok (.iconst 1, 1) := by decide +kernel
theorem dX5_longer_69 : decode cX5_longer 69 = .ok (.invokevirtual 158, 3) := by decide +kernel
theorem dX5_longer_72 : decode cX5_longer 72 = .ok (.iinc 3 1, 3) := by decide +kernel
theorem dX5_longer_75 : decode cX5_longer 75 = .ok (.goto (-39), 3) := by decide +kernel
theorem dX5_longer_78 : decode cX5_longer 78 = .ok (.bipush (-4), 2) := by decide +kernel
theorem dX5_longer_80 : decode cX5_longer 80 = .ok (.ireturn, 1) := by decide +kernel
theorem dX6_longer_0 : decode cX6_longer 0 = .ok (.aload_n 0, 1) := by decide +kernel
theorem dX6_longer_1 : decode cX6_longer 1 = .ok (.iload_n 1, 1) := by decide +kernel
theorem dX6_longer_2 : decode cX6_longer 2 = .ok (.invokevirtual 117, 3) := by decide +kernel
theorem dX6_longer_5 : decode cX6_longer 5 = .ok (.ifCond .eq 15, 3) := by decide +kernel
theorem dX6_longer_8 : decode cX6_longer 8 = .ok (.iload_n 2, 1) := by decide +kernel
theorem dX6_longer_9 : decode cX6_longer 9 = .ok (.i2l, 1) := by decide +kernel
theorem dX6_longer_10 : decode cX6_longer 10 = .ok (.lconst 0, 1) := by decide +kernel
theorem dX6_longer_11 : decode cX6_longer 11 = .ok (.ldc2_w 180, 3) := by decide +kernel
theorem dX6_longer_14 : decode cX6_longer 14 = .ok (.invokestatic 47, 3) := by decide +kernel
theorem dX6_longer_17 : decode cX6_longer 17 = .ok (.ifCond .ne 5, 3) := by decide +kernel
theorem dX6_longer_20 : decode cX6_longer 20 = .ok (.iconst (-1), 1) := by decide +kernel
theorem dX6_longer_21 : decode cX6_longer 21 = .ok (.ireturn, 1) := by decide +kernel
theorem dX6_longer_22 : decode cX6_longer 22 = .ok (.aload_n 0, 1) := by decide +kernel
theorem dX6_longer_23 : decode cX6_longer 23 = .ok (.invokevirtual 170, 3) := by decide +kernel
theorem dX6_longer_26 : decode cX6_longer 26 = .ok (.ifCond .ne 6, 3) := by decide +kernel
theorem dX6_longer_29 : decode cX6_longer 29 = .ok (.bipush (-3), 2) := by decide +kernel
theorem dX6_longer_31 : decode cX6_longer 31 = .ok (.ireturn, 1) := by decide +kernel
theorem dX6_longer_32 : decode cX6_longer 32 = .ok (.aload_n 0, 1) := by decide +kernel
theorem dX6_longer_33 : decode cX6_longer 33 = .ok (.iload_n 1, 1) := by decide +kernel
theorem dX6_longer_34 : decode cX6_longer 34 = .ok (.iconst 2, 1) := by decide +kernel
theorem dX6_longer_35 : decode cX6_longer 35 = .ok (.invokevirtual 111, 3) := by decide +kernel
theorem dX6_longer_38 : decode cX6_longer 38 = .ok (.istore_n 3, 1) := by decide +kernel
theorem dX6_longer_39 : decode cX6_longer 39 = .ok (.bipush (-4), 2) := by decide +kernel
theorem dX6_longer_41 : decode cX6_longer 41 = .ok (.istore 4, 2) := by decide +kernel
theorem dX6_longer_43 : decode cX6_longer 43 = .ok (.iconst 0, 1) := by decide +kernel
theorem dX6_longer_44 : decode cX6_longer 44 = .ok (.istore 5, 2) := by decide +kernel
theorem dX6_longer_46 : decode cX6_longer 46 = .ok (.iload 5, 2) := by decide +kernel
theorem dX6_longer_48 : decode cX6_longer 48 = .ok (.bipush 100, 2) := by decide +kernel
theorem dX6_longer_50 : decode cX6_longer 50 = .ok (.if_icmp .ge 44, 3) := by decide +kernel
theorem dX6_longer_53 : decode cX6_longer 53 = .ok (.iload 4, 2) := by decide +kernel
theorem dX6_longer_55 : decode cX6_longer 55 = .ok (.ifCond .ge 39, 3) := by decide +kernel
theorem dX6_longer_58 : decode cX6_longer 58 = .ok (.aload_n 0, 1) := by decide +kernel
theorem dX6_longer_59 : decode cX6_longer 59 = .ok (.iload_n 1, 1) := by decide +kernel
theorem dX6_longer_60 : decode cX6_longer 60 = .ok (.iconst 2, 1) := by decide +kernel
theorem dX6_longer_61 : decode cX6_longer 61 = .ok (.iload_n 3, 1) := by decide +kernel
theorem dX6_longer_62 : decode cX6_longer 62 = .ok (.iload 5, 2) := by decide +kernel
theorem dX6_longer_64 : decode cX6_longer 64 = .ok (.iadd, 1) := by decide +kernel
theorem dX6_longer_65 : decode cX6_longer 65 = .ok (.invokevirtual 191, 3) := by decide +kernel
theorem dX6_longer_68 : decode cX6_longer 68 = .ok (.aload_n 0, 1) := by decide +kernel
theorem dX6_longer_69 : decode cX6_longer 69 = .ok (.aload_n 0, 1) := by decide +kernel
theorem dX6_longer_70 : decode cX6_longer 70 = .ok (.invokevirtual 173, 3) := by decide +kernel
theorem dX6_longer_73 : decode cX6_longer 73 = .ok (.invokevirtual 176, 3) := by decide +kernel
theorem dX6_longer_76 : decode cX6_longer 76 = .ok (.aload_n 0, 1) := by decide +kernel
theorem dX6_longer_77 : decode cX6_longer 77 = .ok (.invokevirtual 201, 3) := by decide +kernel
theorem dX6_longer_80 : decode cX6_longer 80 = .ok (.iload_n 2, 1) := by decide +kernel
theorem dX6_longer_81 : decode cX6_longer 81 = .ok (.if_icmp .gt 7, 3) := by decide +kernel
theorem dX6_longer_84 : decode cX6_longer 84 = .ok (.iload 5, 2) := by decide +kernel
theorem dX6_longer_86 : decode cX6_longer 86 = .ok (.istore 4, 2) := by decide +kernel
theorem dX6_longer_88 : decode cX6_longer 88 = .ok (.iinc 5 1, 3) := by decide +kernel
theorem dX6_longer_91 : decode cX6_longer 91 = .ok (.goto (-45), 3) := by decide +kernel
theorem dX6_longer_94 : decode cX6_longer 94 = .ok (.aload_n 0, 1) := by decide +kernel
theorem dX6_longer_95 : decode cX6_longer 95 = .ok (.iload_n 1, 1) := by decide +kernel
theorem dX6_longer_96 : decode cX6_longer 96 = .ok (.iconst 2, 1) := by decide +kernel
theorem dX6_longer_97 : decode cX6_longer 97 = .ok (.iload_n 3, 1) := by decide +kernel
theorem dX6_longer_98 : decode cX6_longer 98 = .ok (.invokevirtual 191, 3) := by decide +kernel
theorem dX6_longer_101 : decode cX6_longer 101 = .ok (.iload 4, 2) := by decide +kernel
theorem dX6_longer_103 : decode cX6_longer 103 = .ok (.ireturn, 1) := by decide +kernel
section WALK
variable {p : Program} {l : Launch} {e : Env} {s : State} {m : MethodId} {args : Array Value} {below : List Frame} {meth : Method} {c : Code} {G : GG}

def q_X6_tenth (M : Mem) (post : Int32 → Mem → Prop) : Prop := q_X6_isLine M  (fun r1 M2 => (r1 = 0 → (post (-3 : Int32) M2)) ∧ (¬ (r1 = 0) → (q_X6_allPieces M2  (fun r4 M5 => q_X6_sumsUp M5 r4 (fun M7 => q_X6_goesTenth M7 (M7 58 5) (fun r8 M9 => post r8 M9))))))
set_option maxHeartbeats 4000000 in
set_option maxRecDepth 100000 in
theorem c_X6_tenth (l : Launch) (G : GG) (hG : Ag G) (sz : Nat) (M : Mem) (post : Int32 → Mem → Prop) (h : q_X6_tenth M post) : Met l yX6_tenth (Cond.code yX6_tenth cX6_tenth 1 (some .int) :: wsL_law) (rmk 5) (va_Pc [.ref (ga G 57)] (Pw G sz M)) (va_Qi post (Qw G) (Af G sz)) 0 0 (Af G sz) := by
  refine Met.ofW (cc := cX6_tenth) (maxL := 1) (ret := (some .int)) (by decide) rfl ?_
  intro p e s m args below meth c s₁ B hml hv
  obtain ⟨rfl, hsz, hE, hP⟩ := hv
  subst hsz
  have C := Cx.of (own := RX6) hG hE rfl hml B
  have w : Wd G s M s.heap [] := ⟨hP, va_S.rf⟩
  have hl := lv_entry [.ref (ga G 57)] (n := 1) (Nat.le_of_ble_eq_true rfl)
  rw [lg_entry_eq]
  generalize (lg_sl [.ref (ga G 57)] ++ List.replicate (1 - (lg_sl [.ref (ga G 57)]).length) Slot.unset).toArray = ls at hl ⊢
  have hl : lv_has ls 1 [(0, .ref (ga G 57))] := hl
  have hx := C.1.1
  have hb := C.1.2.1
  show W p l e (rmk 5) s m _ below meth c s.heap [] 0 0 _ _
  unfold q_X6_tenth at h
  refine lv_aload_n hx hb dX6_tenth_0 rfl (lv_at hl 0 rfl) ?_
  refine end_i w (run_V (As := []) C w hl.1 (c_X6_isLine l G C.2.2.1 _ _   _ h) kw_17_11 kw_1_5 kw_17_8 kw_17_9 kw_17_10 hd_X6_isLine ⟨by decide, by decide⟩ (w.recv C (i := 57) (by decide) (pE_6) rfl) rfl (Nat.le_of_ble_eq_true rfl) dX6_tenth_1) (fun r1 M2 H locs h w => ?_)
  refine lv_if_ne (tgt := 10) hx hb dX6_tenth_4 (by decide) (fun c3 => ?_) (fun c3 => ?_)
  · replace h := h.2 c3
    refine lv_aload_n hx hb dX6_tenth_10 rfl (lv_at hl 0 rfl) ?_
    refine lv_aload_n hx hb dX6_tenth_11 rfl (lv_at hl 0 rfl) ?_
    refine end_i w (run_V (As := []) C w hl.1 (c_X6_allPieces l G C.2.2.1 _ _   _ h) kw_17_15 kw_1_5 kw_17_12 kw_17_13 kw_17_14 hd_X6_allPieces ⟨by decide, by decide⟩ (w.recv C (i := 57) (by decide) (pE_6) rfl) rfl (Nat.le_of_ble_eq_true rfl) dX6_tenth_12) (fun r4 M5 H locs h w => ?_)
    refine end_v w (run_V (As := [.int r4]) C w hl.1 (c_X6_sumsUp l G C.2.2.1 _ _ r4  _ h) kw_17_19 kw_1_5 kw_17_16 kw_17_17 kw_17_18 hd_X6_sumsUp ⟨by decide, by decide⟩ (w.recv C (i := 57) (by decide) (pE_6) rfl) rfl (Nat.le_of_ble_eq_true rfl) dX6_tenth_15) (fun M7 H locs h w => ?_)
    refine lv_aload_n hx hb dX6_tenth_18 rfl (lv_at hl 0 rfl) ?_
    refine lv_aload_n hx hb dX6_tenth_19 rfl (lv_at hl 0 rfl) ?_
    refine gt_6_0 C w kw_5_0 dX6_tenth_20 ?_
    refine lv_iconst (v := 5) hx hb dX6_tenth_23 (by decide) ?_
    refine pw_ld C w (i := 58) (by decide) pE_58 (vl (x := (5 : Int32)) (by decide)) (k := 5) (by decide) dX6_tenth_24 ?_
    refine end_i w (run_V (As := [.int (M7 58 5)]) C w hl.1 (c_X6_goesTenth l G C.2.2.1 _ _ (M7 58 5)  _ h) kw_21_22 kw_1_5 kw_21_19 kw_21_20 kw_21_21 hd_X6_goesTenth ⟨by decide, by decide⟩ (w.recv C (i := 57) (by decide) (pE_6) rfl) rfl (Nat.le_of_ble_eq_true rfl) dX6_tenth_25) (fun r8 M9 H locs h w => ?_)
    exact ret_i C w h dX6_tenth_28
  replace h := h.1 c3
  refine lv_bipush (v := -3) hx hb dX6_tenth_7 (by decide) ?_
  exact ret_i C w h dX6_tenth_9
def b_X0_greatestPull_4 (k4 : Mem → Int32 → Int32 → Prop) (post : Int32 → Mem → Prop) (M : Mem) (x1 : Int32) (x2 : Int32) : Prop := ((M 4 4) ≤ x2 → (post x1 M)) ∧ (¬ ((M 4 4) ≤ x2) → (q_X0_overAt M x2 (fun r2 M3 => q_X0_pullOver M3 r2 (fun r4 M5 => k4 M5 (if x1 < r4 then r4 else x1) (x2 + (1 : Int32))))))
def lp_X0_greatestPull_4 (post : Int32 → Mem → Prop) : Nat → Mem → Int32 → Int32 → Prop
  | 0 => fun _ _ _ => False
  | n + 1 => fun M x1 x2 => b_X0_greatestPull_4 (lp_X0_greatestPull_4 post n) post M x1 x2
def q_X0_greatestPull (M : Mem) (post : Int32 → Mem → Prop) : Prop := ∃ n, lp_X0_greatestPull_4 post n M (0 : Int32) (0 : Int32)
set_option maxHeartbeats 4000000 in
set_option maxRecDepth 100000 in
theorem t_X0_greatestPull_4 (C : Cx G p s m args meth c RX0 cX0_greatestPull 3 (some .int)) {post : Int32 → Mem → Prop} : ∀ (n : Nat) (M : Mem) (x1 : Int32) (x2 : Int32) {H : Heap} {locs : List Loc} {ls : Array Slot} (w : Wd G s M H locs) (hl : lv_has ls 3 [(0, .ref (ga G 4)), (1, .int x1), (2, .int x2)]) (h : lp_X0_greatestPull_4 post n M x1 x2), W p l e (rmk 4) s m args below meth c H locs 0 0 (MQ below (va_Qi post (Qw G) (Af G s.heap.size)) args s 0 0 (Af G s.heap.size)) (F0 m 4 ls []) := by
  have hx := C.1.1
  have hb := C.1.2.1
  intro n9
  induction n9 with
  | zero => intro M x1 x2 H locs ls w hl h; exact absurd h id
  | succ n9 ih9 =>
    intro M x1 x2 H locs ls w hl h
    have hk4 : ∀ (M : Mem) (x1 : Int32) (x2 : Int32) (H : Heap) (locs : List Loc) (ls : Array Slot), Wd G s M H locs → lv_has ls 3 [(0, .ref (ga G 4)), (1, .int x1), (2, .int x2)] → lp_X0_greatestPull_4 post n9 M x1 x2 → W p l e (rmk 4) s m args below meth c H locs 0 0 (MQ below (va_Qi post (Qw G) (Af G s.heap.size)) args s 0 0 (Af G s.heap.size)) (F0 m 4 ls []) := fun M x1 x2 H locs ls w hl h => ih9 M x1 x2 w hl h
    replace h : b_X0_greatestPull_4 (lp_X0_greatestPull_4 post n9) post M x1 x2 := h
    unfold b_X0_greatestPull_4 at h
    refine lv_iload_n hx hb dX0_greatestPull_4 rfl (lv_at hl 2 rfl) ?_
    refine lv_aload_n hx hb dX0_greatestPull_5 rfl (lv_at hl 0 rfl) ?_
    refine gt_0_4 C w kw_4_2 dX0_greatestPull_6 ?_
    refine lv_icmp_ge (tgt := 32) hx hb dX0_greatestPull_9 (by decide) (fun c1 => ?_) (fun c1 => ?_)
    · replace h := h.1 c1
      refine lv_iload_n hx hb dX0_greatestPull_32 rfl (lv_at hl 1 rfl) ?_
      exact ret_i C w h dX0_greatestPull_33
    replace h := h.2 c1
    refine lv_iload_n hx hb dX0_greatestPull_12 rfl (lv_at hl 1 rfl) ?_
    refine lv_aload_n hx hb dX0_greatestPull_13 rfl (lv_at hl 0 rfl) ?_
    refine lv_aload_n hx hb dX0_greatestPull_14 rfl (lv_at hl 0 rfl) ?_
    refine lv_iload_n hx hb dX0_greatestPull_15 rfl (lv_at hl 2 rfl) ?_
    refine end_i w (run_V (As := [.int x2]) C w hl.1 (c_X0_overAt l G C.2.2.1 _ _ x2  _ h) kw_20_0 kw_1_21 kw_19_21 kw_19_22 kw_19_23 hd_X0_overAt ⟨by decide, by decide⟩ (w.recv C (i := 4) (by decide) (pE_0) rfl) rfl (Nat.le_of_ble_eq_true rfl) dX0_greatestPull_16) (fun r2 M3 H locs h w => ?_)
    refine end_i w (run_V (As := [.int r2]) C w hl.1 (c_X0_pullOver l G C.2.2.1 _ _ r2  _ h) kw_20_6 kw_1_21 kw_20_3 kw_20_4 kw_20_5 hd_X0_pullOver ⟨by decide, by decide⟩ (w.recv C (i := 4) (by decide) (pE_0) rfl) rfl (Nat.le_of_ble_eq_true rfl) dX0_greatestPull_19) (fun r4 M5 H locs h w => ?_)
    refine va_mmax hx hb (C.ml hl) C.1.2.2.2.1 (C.ws kw_16_10) (C.ws kw_16_11) (C.ws kw_16_12) (C.ws kw_16_13) (Nat.le_of_ble_eq_true rfl) (Nat.le_of_ble_eq_true rfl) (Nat.le_refl 0) (Nat.le_refl 0) dX0_greatestPull_22 ?_
    refine lv_istore_n (lv' := [(1, .int (if x1 < r4 then r4 else x1)), (0, .ref (ga G 4)), (2, .int x2)]) hx hb dX0_greatestPull_25 rfl hl (by decide) rfl (fun ls hl => ?_)
    refine lv_iinc (v := (x2 + (1 : Int32))) (lv' := [(2, .int (x2 + (1 : Int32))), (1, .int (if x1 < r4 then r4 else x1)), (0, .ref (ga G 4))]) hx hb dX0_greatestPull_26 hl (k := 2) rfl rfl (by decide) rfl (fun ls hl => ?_)
    refine lv_goto (tgt := 4) hx hb dX0_greatestPull_29 (by decide) ?_
    exact hk4 M5 (if x1 < r4 then r4 else x1) (x2 + (1 : Int32)) _ _ _  w (lv_sub hl [2, 1, 0] rfl) h
set_option maxHeartbeats 4000000 in
set_option maxRecDepth 100000 in
theorem c_X0_greatestPull (l : Launch) (G : GG) (hG : Ag G) (sz : Nat) (M : Mem) (post : Int32 → Mem → Prop) (h : q_X0_greatestPull M post) : Met l yX0_greatestPull (Cond.code yX0_greatestPull cX0_greatestPull 3 (some .int) :: wsL_law) (rmk 4) (va_Pc [.ref (ga G 4)] (Pw G sz M)) (va_Qi post (Qw G) (Af G sz)) 0 0 (Af G sz) := by
  refine Met.ofW (cc := cX0_greatestPull) (maxL := 3) (ret := (some .int)) (by decide) rfl ?_
  intro p e s m args below meth c s₁ B hml hv
  obtain ⟨rfl, hsz, hE, hP⟩ := hv
  subst hsz
  have C := Cx.of (own := RX0) hG hE rfl hml B
  have w : Wd G s M s.heap [] := ⟨hP, va_S.rf⟩
  have hl := lv_entry [.ref (ga G 4)] (n := 3) (Nat.le_of_ble_eq_true rfl)
  rw [lg_entry_eq]
  generalize (lg_sl [.ref (ga G 4)] ++ List.replicate (3 - (lg_sl [.ref (ga G 4)]).length) Slot.unset).toArray = ls at hl ⊢
  have hl : lv_has ls 3 [(0, .ref (ga G 4))] := hl
  have hx := C.1.1
  have hb := C.1.2.1
  show W p l e (rmk 4) s m _ below meth c s.heap [] 0 0 _ _
  unfold q_X0_greatestPull at h
  refine lv_iconst (v := 0) hx hb dX0_greatestPull_0 (by decide) ?_
  refine lv_istore_n (lv' := [(1, .int (0 : Int32)), (0, .ref (ga G 4))]) hx hb dX0_greatestPull_1 rfl hl (by decide) rfl (fun ls hl => ?_)
  refine lv_iconst (v := 0) hx hb dX0_greatestPull_2 (by decide) ?_
  refine lv_istore_n (lv' := [(2, .int (0 : Int32)), (1, .int (0 : Int32)), (0, .ref (ga G 4))]) hx hb dX0_greatestPull_3 rfl hl (by decide) rfl (fun ls hl => ?_)
  obtain ⟨n, h⟩ := h
  exact t_X0_greatestPull_4 C n M (0 : Int32) (0 : Int32)  w (lv_sub hl [2, 1, 0] rfl) h
def b_X0_whenGreatest_7 (k7 : Mem → Int32 → Int32 → Prop) (post : Int32 → Mem → Prop) (M : Mem) (x1 : Int32) (x2 : Int32) : Prop := ((M 4 4) ≤ x2 → (post (0 : Int32) M)) ∧ (¬ ((M 4 4) ≤ x2) → (q_X0_pullAt M x2 (fun r2 M3 => (r2 = x1 → (post x2 M3)) ∧ (¬ (r2 = x1) → (k7 M3 x1 (x2 + (1 : Int32)))))))
def lp_X0_whenGreatest_7 (post : Int32 → Mem → Prop) : Nat → Mem → Int32 → Int32 → Prop
  | 0 => fun _ _ _ => False
  | n + 1 => fun M x1 x2 => b_X0_whenGreatest_7 (lp_X0_whenGreatest_7 post n) post M x1 x2
def q_X0_whenGreatest (M : Mem) (post : Int32 → Mem → Prop) : Prop := q_X0_greatestPull M  (fun r5 M6 => ∃ n, lp_X0_whenGreatest_7 post n M6 r5 (0 : Int32))
set_option maxHeartbeats 4000000 in
set_option maxRecDepth 100000 in
theorem t_X0_whenGreatest_7 (C : Cx G p s m args meth c RX0 cX0_whenGreatest 3 (some .int)) {post : Int32 → Mem → Prop} : ∀ (n : Nat) (M : Mem) (x1 : Int32) (x2 : Int32) {H : Heap} {locs : List Loc} {ls : Array Slot} (w : Wd G s M H locs) (hl : lv_has ls 3 [(0, .ref (ga G 4)), (1, .int x1), (2, .int x2)]) (h : lp_X0_whenGreatest_7 post n M x1 x2), W p l e (rmk 5) s m args below meth c H locs 0 0 (MQ below (va_Qi post (Qw G) (Af G s.heap.size)) args s 0 0 (Af G s.heap.size)) (F0 m 7 ls []) := by
  have hx := C.1.1
  have hb := C.1.2.1
  intro n9
  induction n9 with
  | zero => intro M x1 x2 H locs ls w hl h; exact absurd h id
  | succ n9 ih9 =>
    intro M x1 x2 H locs ls w hl h
    have hk7 : ∀ (M : Mem) (x1 : Int32) (x2 : Int32) (H : Heap) (locs : List Loc) (ls : Array Slot), Wd G s M H locs → lv_has ls 3 [(0, .ref (ga G 4)), (1, .int x1), (2, .int x2)] → lp_X0_whenGreatest_7 post n9 M x1 x2 → W p l e (rmk 5) s m args below meth c H locs 0 0 (MQ below (va_Qi post (Qw G) (Af G s.heap.size)) args s 0 0 (Af G s.heap.size)) (F0 m 7 ls []) := fun M x1 x2 H locs ls w hl h => ih9 M x1 x2 w hl h
    replace h : b_X0_whenGreatest_7 (lp_X0_whenGreatest_7 post n9) post M x1 x2 := h
    unfold b_X0_whenGreatest_7 at h
    refine lv_iload_n hx hb dX0_whenGreatest_7 rfl (lv_at hl 2 rfl) ?_
    refine lv_aload_n hx hb dX0_whenGreatest_8 rfl (lv_at hl 0 rfl) ?_
    refine gt_0_4 C w kw_4_2 dX0_whenGreatest_9 ?_
    refine lv_icmp_ge (tgt := 32) hx hb dX0_whenGreatest_12 (by decide) (fun c1 => ?_) (fun c1 => ?_)
    · replace h := h.1 c1
      refine lv_iconst (v := 0) hx hb dX0_whenGreatest_32 (by decide) ?_
      exact ret_i C w h dX0_whenGreatest_33
    replace h := h.2 c1
    refine lv_aload_n hx hb dX0_whenGreatest_15 rfl (lv_at hl 0 rfl) ?_
    refine lv_iload_n hx hb dX0_whenGreatest_16 rfl (lv_at hl 2 rfl) ?_
    refine end_i w (run_V (As := [.int x2]) C w hl.1 (c_X0_pullAt l G C.2.2.1 _ _ x2  _ h) kw_19_20 kw_1_21 kw_22_19 kw_19_18 kw_19_19 hd_X0_pullAt ⟨by decide, by decide⟩ (w.recv C (i := 4) (by decide) (pE_0) rfl) rfl (Nat.le_of_ble_eq_true rfl) dX0_whenGreatest_17) (fun r2 M3 H locs h w => ?_)
    refine lv_iload_n hx hb dX0_whenGreatest_20 rfl (lv_at hl 1 rfl) ?_
    refine lv_icmp_ne (tgt := 26) hx hb dX0_whenGreatest_21 (by decide) (fun c4 => ?_) (fun c4 => ?_)
    · replace h := h.2 c4
      refine lv_iinc (v := (x2 + (1 : Int32))) (lv' := [(2, .int (x2 + (1 : Int32))), (0, .ref (ga G 4)), (1, .int x1)]) hx hb dX0_whenGreatest_26 hl (k := 2) rfl rfl (by decide) rfl (fun ls hl => ?_)
      refine lv_goto (tgt := 7) hx hb dX0_whenGreatest_29 (by decide) ?_
      exact hk7 M3 x1 (x2 + (1 : Int32)) _ _ _  w (lv_sub hl [1, 2, 0] rfl) h
    replace h := h.1 c4
    refine lv_iload_n hx hb dX0_whenGreatest_24 rfl (lv_at hl 2 rfl) ?_
    exact ret_i C w h dX0_whenGreatest_25
set_option maxHeartbeats 4000000 in
set_option maxRecDepth 100000 in
theorem c_X0_whenGreatest (l : Launch) (G : GG) (hG : Ag G) (sz : Nat) (M : Mem) (post : Int32 → Mem → Prop) (h : q_X0_whenGreatest M post) : Met l yX0_whenGreatest (Cond.code yX0_whenGreatest cX0_whenGreatest 3 (some .int) :: wsL_law) (rmk 5) (va_Pc [.ref (ga G 4)] (Pw G sz M)) (va_Qi post (Qw G) (Af G sz)) 0 0 (Af G sz) := by
  refine Met.ofW (cc := cX0_whenGreatest) (maxL := 3) (ret := (some .int)) (by decide) rfl ?_
  intro p e s m args below meth c s₁ B hml hv
  obtain ⟨rfl, hsz, hE, hP⟩ := hv
  subst hsz
  have C := Cx.of (own := RX0) hG hE rfl hml B
  have w : Wd G s M s.heap [] := ⟨hP, va_S.rf⟩
  have hl := lv_entry [.ref (ga G 4)] (n := 3) (Nat.le_of_ble_eq_true rfl)
  rw [lg_entry_eq]
  generalize (lg_sl [.ref (ga G 4)] ++ List.replicate (3 - (lg_sl [.ref (ga G 4)]).length) Slot.unset).toArray = ls at hl ⊢
  have hl : lv_has ls 3 [(0, .ref (ga G 4))] := hl
  have hx := C.1.1
  have hb := C.1.2.1
  show W p l e (rmk 5) s m _ below meth c s.heap [] 0 0 _ _
  unfold q_X0_whenGreatest at h
  refine lv_aload_n hx hb dX0_whenGreatest_0 rfl (lv_at hl 0 rfl) ?_
  refine end_i w (run_V (As := []) C w hl.1 (c_X0_greatestPull l G C.2.2.1 _ _   _ h) kw_22_14 kw_1_21 kw_22_18 kw_22_12 kw_22_13 hd_X0_greatestPull ⟨by decide, by decide⟩ (w.recv C (i := 4) (by decide) (pE_0) rfl) rfl (Nat.le_of_ble_eq_true rfl) dX0_whenGreatest_1) (fun r5 M6 H locs h w => ?_)
  refine lv_istore_n (lv' := [(1, .int r5), (0, .ref (ga G 4))]) hx hb dX0_whenGreatest_4 rfl hl (by decide) rfl (fun ls hl => ?_)
  refine lv_iconst (v := 0) hx hb dX0_whenGreatest_5 (by decide) ?_
  refine lv_istore_n (lv' := [(2, .int (0 : Int32)), (1, .int r5), (0, .ref (ga G 4))]) hx hb dX0_whenGreatest_6 rfl hl (by decide) rfl (fun ls hl => ?_)
  obtain ⟨n, h⟩ := h
  exact t_X0_whenGreatest_7 C n M6 r5 (0 : Int32)  w (lv_sub hl [2, 1, 0] rfl) h
def j_X5_greatest_42 (post : Int32 → Mem → Prop) (M : Mem) (y0 : Int32) : Prop := post y0 M
def q_X5_greatest (M : Mem) (x1 : Int32) (post : Int32 → Mem → Prop) : Prop := q_X5_isWithin M x1 (0 : Int32) (1 : Int32) (fun r1 M2 => (r1 = 0 → (post (-1 : Int32) M2)) ∧ (¬ (r1 = 0) → (q_X5_layLine M2  (fun r4 M5 => (r4 = 0 → (post (-3 : Int32) M5)) ∧ (¬ (r4 = 0) → ((x1 = 0 → (q_X0_greatestPull M5  (fun r10 M11 => j_X5_greatest_42 post M11 r10))) ∧ (¬ (x1 = 0) → (q_X0_whenGreatest M5  (fun r8 M9 => j_X5_greatest_42 post M9 r8)))))))))
set_option maxHeartbeats 4000000 in
set_option maxRecDepth 100000 in
theorem t_X5_greatest_42 (C : Cx G p s m args meth c RX5 cX5_greatest 2 (some .int)) {post : Int32 → Mem → Prop} (M : Mem) (y0 : Int32) {H : Heap} {locs : List Loc} {ls : Array Slot} (w : Wd G s M H locs) (hl : lv_has ls 2 []) (h : j_X5_greatest_42 post M y0) : W p l e (rmk 6) s m args below meth c H locs 0 0 (MQ below (va_Qi post (Qw G) (Af G s.heap.size)) args s 0 0 (Af G s.heap.size)) (F0 m 42 ls [.int y0]) := by
  have hx := C.1.1
  have hb := C.1.2.1
  unfold j_X5_greatest_42 at h
  exact ret_i C w h dX5_greatest_42
set_option maxHeartbeats 4000000 in
set_option maxRecDepth 100000 in
theorem c_X5_greatest (l : Launch) (G : GG) (hG : Ag G) (sz : Nat) (M : Mem) (x1 : Int32) (post : Int32 → Mem → Prop) (h : q_X5_greatest M x1 post) : Met l yX5_greatest (Cond.code yX5_greatest cX5_greatest 2 (some .int) :: wsL_law) (rmk 6) (va_Pc [.ref (ga G 0), .int x1] (Pw G sz M)) (va_Qi post (Qw G) (Af G sz)) 0 0 (Af G sz) := by
  refine Met.ofW (cc := cX5_greatest) (maxL := 2) (ret := (some .int)) (by decide) rfl ?_
  intro p e s m args below meth c s₁ B hml hv
  obtain ⟨rfl, hsz, hE, hP⟩ := hv
  subst hsz
  have C := Cx.of (own := RX5) hG hE rfl hml B
  have w : Wd G s M s.heap [] := ⟨hP, va_S.rf⟩
  have hl := lv_entry [.ref (ga G 0), .int x1] (n := 2) (Nat.le_of_ble_eq_true rfl)
  rw [lg_entry_eq]
  generalize (lg_sl [.ref (ga G 0), .int x1] ++ List.replicate (2 - (lg_sl [.ref (ga G 0), .int x1]).length) Slot.unset).toArray = ls at hl ⊢
  have hl : lv_has ls 2 [(0, .ref (ga G 0)), (1, .int x1)] := hl
  have hx := C.1.1
  have hb := C.1.2.1
  show W p l e (rmk 6) s m _ below meth c s.heap [] 0 0 _ _
  unfold q_X5_greatest at h
  refine lv_iload_n hx hb dX5_greatest_0 rfl (lv_at hl 1 rfl) ?_
  refine lv_iconst (v := 0) hx hb dX5_greatest_1 (by decide) ?_
  refine lv_iconst (v := 1) hx hb dX5_greatest_2 (by decide) ?_
  refine end_i w (run_S (As := [.int x1, .int (0 : Int32), .int (1 : Int32)]) C w hl.1 (c_X5_isWithin l G C.2.2.1 _ _ x1 (0 : Int32) (1 : Int32)  _ h) kw_6_8 kw_1_2 kw_6_6 kw_6_7 hd_X5_isWithin ⟨by decide, by decide⟩ rfl (Nat.le_of_ble_eq_true rfl) dX5_greatest_3) (fun r1 M2 H locs h w => ?_)
  refine lv_if_ne (tgt := 11) hx hb dX5_greatest_6 (by decide) (fun c3 => ?_) (fun c3 => ?_)
  · replace h := h.2 c3
    refine lv_aload_n hx hb dX5_greatest_11 rfl (lv_at hl 0 rfl) ?_
    refine end_i w (run_V (As := []) C w hl.1 (c_X5_layLine l G C.2.2.1 _ _   _ h) kw_15_21 kw_1_2 kw_15_18 kw_15_19 kw_15_20 hd_X5_layLine ⟨by decide, by decide⟩ (w.recv C (i := 0) (by decide) (pE_5) rfl) rfl (Nat.le_of_ble_eq_true rfl) dX5_greatest_12) (fun r4 M5 H locs h w => ?_)
    refine lv_if_ne (tgt := 21) hx hb dX5_greatest_15 (by decide) (fun c6 => ?_) (fun c6 => ?_)
    · replace h := h.2 c6
      refine lv_iload_n hx hb dX5_greatest_21 rfl (lv_at hl 1 rfl) ?_
      refine lv_if_ne (tgt := 35) hx hb dX5_greatest_22 (by decide) (fun c7 => ?_) (fun c7 => ?_)
      · replace h := h.2 c7
        refine lv_aload_n hx hb dX5_greatest_35 rfl (lv_at hl 0 rfl) ?_
        refine gt_5_3 C w kw_1_22 dX5_greatest_36 ?_
        refine end_i w (run_VN (As := []) C w hl.1 (c_X0_whenGreatest l G C.2.2.1 _ _   _ h) kw_22_17 kw_1_21 kn_69 kw_22_15 kw_22_16 hd_X0_whenGreatest ⟨by decide, by decide⟩ (w.recv C (i := 4) (by decide) (pE_0) rfl) rfl (Nat.le_of_ble_eq_true rfl) dX5_greatest_39) (fun r8 M9 H locs h w => ?_)
        exact t_X5_greatest_42 C M9 r8  w (lv_sub hl [] rfl) h
      replace h := h.1 c7
      refine lv_aload_n hx hb dX5_greatest_25 rfl (lv_at hl 0 rfl) ?_
      refine gt_5_3 C w kw_1_22 dX5_greatest_26 ?_
      refine end_i w (run_VN (As := []) C w hl.1 (c_X0_greatestPull l G C.2.2.1 _ _   _ h) kw_22_14 kw_1_21 kn_68 kw_22_12 kw_22_13 hd_X0_greatestPull ⟨by decide, by decide⟩ (w.recv C (i := 4) (by decide) (pE_0) rfl) rfl (Nat.le_of_ble_eq_true rfl) dX5_greatest_29) (fun r10 M11 H locs h w => ?_)
      refine lv_goto (tgt := 42) hx hb dX5_greatest_32 (by decide) ?_
      exact t_X5_greatest_42 C M11 r10  w (lv_sub hl [] rfl) h
    replace h := h.1 c6
    refine lv_bipush (v := -3) hx hb dX5_greatest_18 (by decide) ?_
    exact ret_i C w h dX5_greatest_20
  replace h := h.1 c3
  refine lv_iconst (v := -1) hx hb dX5_greatest_9 (by decide) ?_
  exact ret_i C w h dX5_greatest_10
def j_X6_greatestOf_42 (k4 : Mem → Int32 → Int32 → Prop) (post : Int32 → Mem → Prop) (M : Mem) (x1 : Int32) (x2 : Int32) : Prop := k4 M x1 (x2 + (1 : Int32))
def b_X6_greatestOf_4 (k4 : Mem → Int32 → Int32 → Prop) (post : Int32 → Mem → Prop) (M : Mem) (x1 : Int32) (x2 : Int32) : Prop := ((M 58 6) ≤ x2 → (post x1 M)) ∧ (¬ ((M 58 6) ≤ x2) → (q_X6_pullAt M x2 (M 58 5) (fun r2 M3 => (x1 < r2 → (∀ M5 : Mem, M5 = (mup M3 57 23 x2) → (j_X6_greatestOf_42 k4 post M5 r2 x2))) ∧ (¬ (x1 < r2) → (j_X6_greatestOf_42 k4 post M3 x1 x2)))))
def lp_X6_greatestOf_4 (post : Int32 → Mem → Prop) : Nat → Mem → Int32 → Int32 → Prop
  | 0 => fun _ _ _ => False
  | n + 1 => fun M x1 x2 => b_X6_greatestOf_4 (lp_X6_greatestOf_4 post n) post M x1 x2
def q_X6_greatestOf (M : Mem) (post : Int32 → Mem → Prop) : Prop := ∃ n, lp_X6_greatestOf_4 post n M (-1 : Int32) (0 : Int32)
set_option maxHeartbeats 4000000 in
set_option maxRecDepth 100000 in
theorem t_X6_greatestOf_42 (C : Cx G p s m args meth c RX6 cX6_greatestOf 4 (some .int)) {post : Int32 → Mem → Prop} {k4 : Mem → Int32 → Int32 → Prop} (hk4 : ∀ (M : Mem) (x1 : Int32) (x2 : Int32) (H : Heap) (locs : List Loc) (ls : Array Slot), Wd G s M H locs → lv_has ls 4 [(0, .ref (ga G 57)), (1, .int x1), (2, .int x2)] → k4 M x1 x2 → W p l e (rmk 4) s m args below meth c H locs 0 0 (MQ below (va_Qi post (Qw G) (Af G s.heap.size)) args s 0 0 (Af G s.heap.size)) (F0 m 4 ls [])) (M : Mem) (x1 : Int32) (x2 : Int32) {H : Heap} {locs : List Loc} {ls : Array Slot} (w : Wd G s M H locs) (hl : lv_has ls 4 [(0, .ref (ga G 57)), (1, .int x1), (2, .int x2)]) (h : j_X6_greatestOf_42 k4 post M x1 x2) : W p l e (rmk 4) s m args below meth c H locs 0 0 (MQ below (va_Qi post (Qw G) (Af G s.heap.size)) args s 0 0 (Af G s.heap.size)) (F0 m 42 ls []) := by
  have hx := C.1.1
  have hb := C.1.2.1
  unfold j_X6_greatestOf_42 at h
  refine lv_iinc (v := (x2 + (1 : Int32))) (lv' := [(2, .int (x2 + (1 : Int32))), (0, .ref (ga G 57)), (1, .int x1)]) hx hb dX6_greatestOf_42 hl (k := 2) rfl rfl (by decide) rfl (fun ls hl => ?_)
  refine lv_goto (tgt := 4) hx hb dX6_greatestOf_45 (by decide) ?_
  exact hk4 M x1 (x2 + (1 : Int32)) _ _ _  w (lv_sub hl [1, 2, 0] rfl) h
set_option maxHeartbeats 4000000 in
set_option maxRecDepth 100000 in
theorem t_X6_greatestOf_4 (C : Cx G p s m args meth c RX6 cX6_greatestOf 4 (some .int)) {post : Int32 → Mem → Prop} : ∀ (n : Nat) (M : Mem) (x1 : Int32) (x2 : Int32) {H : Heap} {locs : List Loc} {ls : Array Slot} (w : Wd G s M H locs) (hl : lv_has ls 4 [(0, .ref (ga G 57)), (1, .int x1), (2, .int x2)]) (h : lp_X6_greatestOf_4 post n M x1 x2), W p l e (rmk 4) s m args below meth c H locs 0 0 (MQ below (va_Qi post (Qw G) (Af G s.heap.size)) args s 0 0 (Af G s.heap.size)) (F0 m 4 ls []) := by
  have hx := C.1.1
  have hb := C.1.2.1
  intro n9
  induction n9 with
  | zero => intro M x1 x2 H locs ls w hl h; exact absurd h id
  | succ n9 ih9 =>
    intro M x1 x2 H locs ls w hl h
    have hk4 : ∀ (M : Mem) (x1 : Int32) (x2 : Int32) (H : Heap) (locs : List Loc) (ls : Array Slot), Wd G s M H locs → lv_has ls 4 [(0, .ref (ga G 57)), (1, .int x1), (2, .int x2)] → lp_X6_greatestOf_4 post n9 M x1 x2 → W p l e (rmk 4) s m args below meth c H locs 0 0 (MQ below (va_Qi post (Qw G) (Af G s.heap.size)) args s 0 0 (Af G s.heap.size)) (F0 m 4 ls []) := fun M x1 x2 H locs ls w hl h => ih9 M x1 x2 w hl h
    replace h : b_X6_greatestOf_4 (lp_X6_greatestOf_4 post n9) post M x1 x2 := h
    unfold b_X6_greatestOf_4 at h
    refine lv_iload_n hx hb dX6_greatestOf_4 rfl (lv_at hl 2 rfl) ?_
    refine lv_aload_n hx hb dX6_greatestOf_5 rfl (lv_at hl 0 rfl) ?_
    refine gt_6_0 C w kw_5_0 dX6_greatestOf_6 ?_
    refine lv_bipush (v := 6) hx hb dX6_greatestOf_9 (by decide) ?_
    refine pw_ld C w (i := 58) (by decide) pE_58 (vl (x := (6 : Int32)) (by decide)) (k := 6) (by decide) dX6_greatestOf_11 ?_
    refine lv_icmp_ge (tgt := 48) hx hb dX6_greatestOf_12 (by decide) (fun c1 => ?_) (fun c1 => ?_)
    · replace h := h.1 c1
      refine lv_iload_n hx hb dX6_greatestOf_48 rfl (lv_at hl 1 rfl) ?_
      exact ret_i C w h dX6_greatestOf_49
    replace h := h.2 c1
    refine lv_aload_n hx hb dX6_greatestOf_15 rfl (lv_at hl 0 rfl) ?_
    refine lv_iload_n hx hb dX6_greatestOf_16 rfl (lv_at hl 2 rfl) ?_
    refine lv_aload_n hx hb dX6_greatestOf_17 rfl (lv_at hl 0 rfl) ?_
    refine gt_6_0 C w kw_5_0 dX6_greatestOf_18 ?_
    refine lv_iconst (v := 5) hx hb dX6_greatestOf_21 (by decide) ?_
    refine pw_ld C w (i := 58) (by decide) pE_58 (vl (x := (5 : Int32)) (by decide)) (k := 5) (by decide) dX6_greatestOf_22 ?_
    refine end_i w (run_V (As := [.int x2, .int (M 58 5)]) C w hl.1 (c_X6_pullAt l G C.2.2.1 _ _ x2 (M 58 5)  _ h) kw_20_16 kw_1_5 kw_20_13 kw_20_14 kw_20_15 hd_X6_pullAt ⟨by decide, by decide⟩ (w.recv C (i := 57) (by decide) (pE_6) rfl) rfl (Nat.le_of_ble_eq_true rfl) dX6_greatestOf_23) (fun r2 M3 H locs h w => ?_)
    refine lv_istore_n (lv' := [(3, .int r2), (0, .ref (ga G 57)), (1, .int x1), (2, .int x2)]) hx hb dX6_greatestOf_26 rfl hl (by decide) rfl (fun ls hl => ?_)
    refine lv_iload_n hx hb dX6_greatestOf_27 rfl (lv_at hl 0 rfl) ?_
    refine lv_iload_n hx hb dX6_greatestOf_28 rfl (lv_at hl 2 rfl) ?_
    refine lv_icmp_gt (tgt := 35) hx hb dX6_greatestOf_29 (by decide) (fun c4 => ?_) (fun c4 => ?_)
    · replace h := h.1 c4
      refine lv_iload_n hx hb dX6_greatestOf_35 rfl (lv_at hl 0 rfl) ?_
      refine lv_istore_n (lv' := [(1, .int r2), (3, .int r2), (0, .ref (ga G 57)), (2, .int x2)]) hx hb dX6_greatestOf_36 rfl hl (by decide) rfl (fun ls hl => ?_)
      refine lv_aload_n hx hb dX6_greatestOf_37 rfl (lv_at hl 2 rfl) ?_
      refine lv_iload_n hx hb dX6_greatestOf_38 rfl (lv_at hl 3 rfl) ?_
      refine pt_6_23 C w kw_23_0 dX6_greatestOf_39 (fun H locs w => ?_)
      obtain ⟨M5, eM5⟩ : ∃ z : Mem, z = (mup M3 57 23 x2) := ⟨_, rfl⟩
      replace w : Wd G s M5 H locs := by rw [eM5]; exact w
      replace h := h M5 eM5
      exact t_X6_greatestOf_42 C hk4 M5 r2 x2  w (lv_sub hl [2, 0, 3] rfl) h
    replace h := h.2 c4
    refine lv_goto (tgt := 42) hx hb dX6_greatestOf_32 (by decide) ?_
    exact t_X6_greatestOf_42 C hk4 M3 x1 x2  w (lv_sub hl [1, 2, 3] rfl) h
set_option maxHeartbeats 4000000 in
set_option maxRecDepth 100000 in
theorem c_X6_greatestOf (l : Launch) (G : GG) (hG : Ag G) (sz : Nat) (M : Mem) (post : Int32 → Mem → Prop) (h : q_X6_greatestOf M post) : Met l yX6_greatestOf (Cond.code yX6_greatestOf cX6_greatestOf 4 (some .int) :: wsL_law) (rmk 4) (va_Pc [.ref (ga G 57)] (Pw G sz M)) (va_Qi post (Qw G) (Af G sz)) 0 0 (Af G sz) := by
  refine Met.ofW (cc := cX6_greatestOf) (maxL := 4) (ret := (some .int)) (by decide) rfl ?_
  intro p e s m args below meth c s₁ B hml hv
  obtain ⟨rfl, hsz, hE, hP⟩ := hv
  subst hsz
  have C := Cx.of (own := RX6) hG hE rfl hml B
  have w : Wd G s M s.heap [] := ⟨hP, va_S.rf⟩
  have hl := lv_entry [.ref (ga G 57)] (n := 4) (Nat.le_of_ble_eq_true rfl)
  rw [lg_entry_eq]
  generalize (lg_sl [.ref (ga G 57)] ++ List.replicate (4 - (lg_sl [.ref (ga G 57)]).length) Slot.unset).toArray = ls at hl ⊢
  have hl : lv_has ls 4 [(0, .ref (ga G 57))] := hl
  have hx := C.1.1
  have hb := C.1.2.1
  show W p l e (rmk 4) s m _ below meth c s.heap [] 0 0 _ _
  unfold q_X6_greatestOf at h
  refine lv_iconst (v := -1) hx hb dX6_greatestOf_0 (by decide) ?_
  refine lv_istore_n (lv' := [(1, .int (-1 : Int32)), (0, .ref (ga G 57))]) hx hb dX6_greatestOf_1 rfl hl (by decide) rfl (fun ls hl => ?_)
  refine lv_iconst (v := 0) hx hb dX6_greatestOf_2 (by decide) ?_
  refine lv_istore_n (lv' := [(2, .int (0 : Int32)), (1, .int (-1 : Int32)), (0, .ref (ga G 57))]) hx hb dX6_greatestOf_3 rfl hl (by decide) rfl (fun ls hl => ?_)
  obtain ⟨n, h⟩ := h
  exact t_X6_greatestOf_4 C n M (-1 : Int32) (0 : Int32)  w (lv_sub hl [2, 1, 0] rfl) h
def j_X6_greatest_47 (post : Int32 → Mem → Prop) (M : Mem) (y0 : Int32) : Prop := post y0 M
def q_X6_greatest (M : Mem) (x1 : Int32) (post : Int32 → Mem → Prop) : Prop := q_X6_isIn M x1.toInt64 (0 : Int64) (1 : Int64) (fun r1 M2 => (r1 = 0 → (post (-1 : Int32) M2)) ∧ (¬ (r1 = 0) → (q_X6_isLine M2  (fun r4 M5 => (r4 = 0 → (post (-3 : Int32) M5)) ∧ (¬ (r4 = 0) → (q_X6_allPieces M5  (fun r7 M8 => q_X6_sumsUp M8 r7 (fun M10 => q_X6_greatestOf M10  (fun r11 M12 => (x1 = 0 → (j_X6_greatest_47 post M12 r11)) ∧ (¬ (x1 = 0) → (j_X6_greatest_47 post M12 (M12 57 23))))))))))))
set_option maxHeartbeats 4000000 in
set_option maxRecDepth 100000 in
theorem t_X6_greatest_47 (C : Cx G p s m args meth c RX6 cX6_greatest 3 (some .int)) {post : Int32 → Mem → Prop} (M : Mem) (y0 : Int32) {H : Heap} {locs : List Loc} {ls : Array Slot} (w : Wd G s M H locs) (hl : lv_has ls 3 []) (h : j_X6_greatest_47 post M y0) : W p l e (rmk 5) s m args below meth c H locs 0 0 (MQ below (va_Qi post (Qw G) (Af G s.heap.size)) args s 0 0 (Af G s.heap.size)) (F0 m 47 ls [.int y0]) := by
  have hx := C.1.1
  have hb := C.1.2.1
  unfold j_X6_greatest_47 at h
  exact ret_i C w h dX6_greatest_47
set_option maxHeartbeats 4000000 in
set_option maxRecDepth 100000 in
theorem c_X6_greatest (l : Launch) (G : GG) (hG : Ag G) (sz : Nat) (M : Mem) (x1 : Int32) (post : Int32 → Mem → Prop) (h : q_X6_greatest M x1 post) : Met l yX6_greatest (Cond.code yX6_greatest cX6_greatest 3 (some .int) :: wsL_law) (rmk 5) (va_Pc [.ref (ga G 57), .int x1] (Pw G sz M)) (va_Qi post (Qw G) (Af G sz)) 0 0 (Af G sz) := by
  refine Met.ofW (cc := cX6_greatest) (maxL := 3) (ret := (some .int)) (by decide) rfl ?_
  intro p e s m args below meth c s₁ B hml hv
  obtain ⟨rfl, hsz, hE, hP⟩ := hv
  subst hsz
  have C := Cx.of (own := RX6) hG hE rfl hml B
  have w : Wd G s M s.heap [] := ⟨hP, va_S.rf⟩
  have hl := lv_entry [.ref (ga G 57), .int x1] (n := 3) (Nat.le_of_ble_eq_true rfl)
  rw [lg_entry_eq]
  generalize (lg_sl [.ref (ga G 57), .int x1] ++ List.replicate (3 - (lg_sl [.ref (ga G 57), .int x1]).length) Slot.unset).toArray = ls at hl ⊢
  have hl : lv_has ls 3 [(0, .ref (ga G 57)), (1, .int x1)] := hl
  have hx := C.1.1
  have hb := C.1.2.1
  show W p l e (rmk 5) s m _ below meth c s.heap [] 0 0 _ _
  unfold q_X6_greatest at h
  refine lv_iload_n hx hb dX6_greatest_0 rfl (lv_at hl 1 rfl) ?_
  refine lv_i2l hx hb dX6_greatest_1 rfl ?_
  refine lv_lconst (v := 0) hx hb dX6_greatest_2 (by decide) ?_
  refine lv_lconst (v := 1) hx hb dX6_greatest_3 (by decide) ?_
  refine end_i w (run_S (As := [.long x1.toInt64, .long (0 : Int64), .long (1 : Int64)]) C w hl.1 (c_X6_isIn l G C.2.2.1 _ _ x1.toInt64 (0 : Int64) (1 : Int64)  _ h) kw_12_5 kw_1_5 kw_12_3 kw_12_4 hd_X6_isIn ⟨by decide, by decide⟩ rfl (Nat.le_of_ble_eq_true rfl) dX6_greatest_4) (fun r1 M2 H locs h w => ?_)
  refine lv_if_ne (tgt := 12) hx hb dX6_greatest_7 (by decide) (fun c3 => ?_) (fun c3 => ?_)
  · replace h := h.2 c3
    refine lv_aload_n hx hb dX6_greatest_12 rfl (lv_at hl 0 rfl) ?_
    refine end_i w (run_V (As := []) C w hl.1 (c_X6_isLine l G C.2.2.1 _ _   _ h) kw_17_11 kw_1_5 kw_17_8 kw_17_9 kw_17_10 hd_X6_isLine ⟨by decide, by decide⟩ (w.recv C (i := 57) (by decide) (pE_6) rfl) rfl (Nat.le_of_ble_eq_true rfl) dX6_greatest_13) (fun r4 M5 H locs h w => ?_)
    refine lv_if_ne (tgt := 22) hx hb dX6_greatest_16 (by decide) (fun c6 => ?_) (fun c6 => ?_)
    · replace h := h.2 c6
      refine lv_aload_n hx hb dX6_greatest_22 rfl (lv_at hl 0 rfl) ?_
      refine lv_aload_n hx hb dX6_greatest_23 rfl (lv_at hl 0 rfl) ?_
      refine end_i w (run_V (As := []) C w hl.1 (c_X6_allPieces l G C.2.2.1 _ _   _ h) kw_17_15 kw_1_5 kw_17_12 kw_17_13 kw_17_14 hd_X6_allPieces ⟨by decide, by decide⟩ (w.recv C (i := 57) (by decide) (pE_6) rfl) rfl (Nat.le_of_ble_eq_true rfl) dX6_greatest_24) (fun r7 M8 H locs h w => ?_)
      refine end_v w (run_V (As := [.int r7]) C w hl.1 (c_X6_sumsUp l G C.2.2.1 _ _ r7  _ h) kw_17_19 kw_1_5 kw_17_16 kw_17_17 kw_17_18 hd_X6_sumsUp ⟨by decide, by decide⟩ (w.recv C (i := 57) (by decide) (pE_6) rfl) rfl (Nat.le_of_ble_eq_true rfl) dX6_greatest_27) (fun M10 H locs h w => ?_)
      refine lv_aload_n hx hb dX6_greatest_30 rfl (lv_at hl 0 rfl) ?_
      refine end_i w (run_V (As := []) C w hl.1 (c_X6_greatestOf l G C.2.2.1 _ _   _ h) kw_23_4 kw_1_5 kw_23_1 kw_23_2 kw_23_3 hd_X6_greatestOf ⟨by decide, by decide⟩ (w.recv C (i := 57) (by decide) (pE_6) rfl) rfl (Nat.le_of_ble_eq_true rfl) dX6_greatest_31) (fun r11 M12 H locs h w => ?_)
      refine lv_istore_n (lv' := [(2, .int r11), (0, .ref (ga G 57)), (1, .int x1)]) hx hb dX6_greatest_34 rfl hl (by decide) rfl (fun ls hl => ?_)
      refine lv_iload_n hx hb dX6_greatest_35 rfl (lv_at hl 2 rfl) ?_
      refine lv_if_ne (tgt := 43) hx hb dX6_greatest_36 (by decide) (fun c13 => ?_) (fun c13 => ?_)
      · replace h := h.2 c13
        refine lv_aload_n hx hb dX6_greatest_43 rfl (lv_at hl 1 rfl) ?_
        refine gt_6_23 C w kw_23_0 dX6_greatest_44 ?_
        exact t_X6_greatest_47 C M12 (M12 57 23)  w (lv_sub hl [] rfl) h
      replace h := h.1 c13
      refine lv_iload_n hx hb dX6_greatest_39 rfl (lv_at hl 0 rfl) ?_
      refine lv_goto (tgt := 47) hx hb dX6_greatest_40 (by decide) ?_
      exact t_X6_greatest_47 C M12 r11  w (lv_sub hl [] rfl) h
    replace h := h.1 c6
    refine lv_bipush (v := -3) hx hb dX6_greatest_19 (by decide) ?_
    exact ret_i C w h dX6_greatest_21
  replace h := h.1 c3
  refine lv_iconst (v := -1) hx hb dX6_greatest_10 (by decide) ?_
  exact ret_i C w h dX6_greatest_11
def b_X5_partsWithin_13 (k13 : Mem → Int32 → Int32 → Prop) (post : Int32 → Mem → Prop) (M : Mem) (x1 : Int32) (x2 : Int32) : Prop := (x1 ≤ x2 → (post (-4 : Int32) M)) ∧ (¬ (x1 ≤ x2) → (q_X4_passTenth M 3 (fun r2 M3 => ((M3 3 7) = (-4 : Int32) → (k13 M3 x1 (x2 + (1 : Int32)))) ∧ (¬ ((M3 3 7) = (-4 : Int32)) → (post x2 M3)))))
def lp_X5_partsWithin_13 (post : Int32 → Mem → Prop) : Nat → Mem → Int32 → Int32 → Prop
  | 0 => fun _ _ _ => False
  | n + 1 => fun M x1 x2 => b_X5_partsWithin_13 (lp_X5_partsWithin_13 post n) post M x1 x2
def q_X5_partsWithin (M : Mem) (x1 : Int32) (post : Int32 → Mem → Prop) : Prop := q_X4_become M 3 1 (fun M6 => ∃ n, lp_X5_partsWithin_13 post n M6 x1 (0 : Int32))
set_option maxHeartbeats 4000000 in
set_option maxRecDepth 100000 in
theorem t_X5_partsWithin_13 (C : Cx G p s m args meth c RX5 cX5_partsWithin 3 (some .int)) {post : Int32 → Mem → Prop} : ∀ (n : Nat) (M : Mem) (x1 : Int32) (x2 : Int32) {H : Heap} {locs : List Loc} {ls : Array Slot} (w : Wd G s M H locs) (hl : lv_has ls 3 [(0, .ref (ga G 0)), (1, .int x1), (2, .int x2)]) (h : lp_X5_partsWithin_13 post n M x1 x2), W p l e (rmk 5) s m args below meth c H locs 0 0 (MQ below (va_Qi post (Qw G) (Af G s.heap.size)) args s 0 0 (Af G s.heap.size)) (F0 m 13 ls []) := by
  have hx := C.1.1
  have hb := C.1.2.1
  intro n9
  induction n9 with
  | zero => intro M x1 x2 H locs ls w hl h; exact absurd h id
  | succ n9 ih9 =>
    intro M x1 x2 H locs ls w hl h
    have hk13 : ∀ (M : Mem) (x1 : Int32) (x2 : Int32) (H : Heap) (locs : List Loc) (ls : Array Slot), Wd G s M H locs → lv_has ls 3 [(0, .ref (ga G 0)), (1, .int x1), (2, .int x2)] → lp_X5_partsWithin_13 post n9 M x1 x2 → W p l e (rmk 5) s m args below meth c H locs 0 0 (MQ below (va_Qi post (Qw G) (Af G s.heap.size)) args s 0 0 (Af G s.heap.size)) (F0 m 13 ls []) := fun M x1 x2 H locs ls w hl h => ih9 M x1 x2 w hl h
    replace h : b_X5_partsWithin_13 (lp_X5_partsWithin_13 post n9) post M x1 x2 := h
    unfold b_X5_partsWithin_13 at h
    refine lv_iload_n hx hb dX5_partsWithin_13 rfl (lv_at hl 2 rfl) ?_
    refine lv_iload_n hx hb dX5_partsWithin_14 rfl (lv_at hl 1 rfl) ?_
    refine lv_icmp_ge (tgt := 50) hx hb dX5_partsWithin_15 (by decide) (fun c1 => ?_) (fun c1 => ?_)
    · replace h := h.1 c1
      refine lv_bipush (v := -4) hx hb dX5_partsWithin_50 (by decide) ?_
      exact ret_i C w h dX5_partsWithin_52
    replace h := h.2 c1
    refine lv_aload_n hx hb dX5_partsWithin_18 rfl (lv_at hl 0 rfl) ?_
    refine gt_5_2 C w kw_1_18 dX5_partsWithin_19 ?_
    refine lv_aload_n hx hb dX5_partsWithin_22 rfl (lv_at hl 0 rfl) ?_
    refine gt_5_3 C w kw_1_22 dX5_partsWithin_23 ?_
    refine end_i w (run_VN (As := [.ref (ga G 4)]) C w hl.1 (c_X4_passTenth l G C.2.2.1 _ _ 3 ⟨by decide, by decide⟩ _ h) kw_21_0 kw_1_15 kn_64 kw_20_22 kw_20_23 hd_X4_passTenth ⟨by decide, by decide⟩ (w.recv C (i := 3) (by decide) (pE_4 ⟨by decide, by decide⟩) rfl) rfl (Nat.le_of_ble_eq_true rfl) dX5_partsWithin_26) (fun r2 M3 H locs h w => ?_)
    refine lv_pop hx hb dX5_partsWithin_29 rfl ?_
    refine lv_aload_n hx hb dX5_partsWithin_30 rfl (lv_at hl 0 rfl) ?_
    refine gt_5_2 C w kw_1_18 dX5_partsWithin_31 ?_
    refine gn_4_7 C w ⟨by decide, by decide⟩ kn_22 dX5_partsWithin_34 ?_
    refine lv_bipush (v := -4) hx hb dX5_partsWithin_37 (by decide) ?_
    refine lv_icmp_eq (tgt := 44) hx hb dX5_partsWithin_39 (by decide) (fun c4 => ?_) (fun c4 => ?_)
    · replace h := h.1 c4
      refine lv_iinc (v := (x2 + (1 : Int32))) (lv' := [(2, .int (x2 + (1 : Int32))), (0, .ref (ga G 0)), (1, .int x1)]) hx hb dX5_partsWithin_44 hl (k := 2) rfl rfl (by decide) rfl (fun ls hl => ?_)
      refine lv_goto (tgt := 13) hx hb dX5_partsWithin_47 (by decide) ?_
      exact hk13 M3 x1 (x2 + (1 : Int32)) _ _ _  w (lv_sub hl [1, 2, 0] rfl) h
    replace h := h.2 c4
    refine lv_iload_n hx hb dX5_partsWithin_42 rfl (lv_at hl 2 rfl) ?_
    exact ret_i C w h dX5_partsWithin_43
set_option maxHeartbeats 4000000 in
set_option maxRecDepth 100000 in
theorem c_X5_partsWithin (l : Launch) (G : GG) (hG : Ag G) (sz : Nat) (M : Mem) (x1 : Int32) (post : Int32 → Mem → Prop) (h : q_X5_partsWithin M x1 post) : Met l yX5_partsWithin (Cond.code yX5_partsWithin cX5_partsWithin 3 (some .int) :: wsL_law) (rmk 5) (va_Pc [.ref (ga G 0), .int x1] (Pw G sz M)) (va_Qi post (Qw G) (Af G sz)) 0 0 (Af G sz) := by
  refine Met.ofW (cc := cX5_partsWithin) (maxL := 3) (ret := (some .int)) (by decide) rfl ?_
  intro p e s m args below meth c s₁ B hml hv
  obtain ⟨rfl, hsz, hE, hP⟩ := hv
  subst hsz
  have C := Cx.of (own := RX5) hG hE rfl hml B
  have w : Wd G s M s.heap [] := ⟨hP, va_S.rf⟩
  have hl := lv_entry [.ref (ga G 0), .int x1] (n := 3) (Nat.le_of_ble_eq_true rfl)
  rw [lg_entry_eq]
  generalize (lg_sl [.ref (ga G 0), .int x1] ++ List.replicate (3 - (lg_sl [.ref (ga G 0), .int x1]).length) Slot.unset).toArray = ls at hl ⊢
  have hl : lv_has ls 3 [(0, .ref (ga G 0)), (1, .int x1)] := hl
  have hx := C.1.1
  have hb := C.1.2.1
  show W p l e (rmk 5) s m _ below meth c s.heap [] 0 0 _ _
  unfold q_X5_partsWithin at h
  refine lv_aload_n hx hb dX5_partsWithin_0 rfl (lv_at hl 0 rfl) ?_
  refine gt_5_2 C w kw_1_18 dX5_partsWithin_1 ?_
  refine lv_aload_n hx hb dX5_partsWithin_4 rfl (lv_at hl 0 rfl) ?_
  refine gt_5_0 C w kw_1_16 dX5_partsWithin_5 ?_
  refine end_v w (run_VN (As := [.ref (ga G 1)]) C w hl.1 (c_X4_become l G C.2.2.1 _ _ 3 1 ⟨by decide, by decide⟩ ⟨by decide, by decide⟩ _ h) kw_6_11 kw_1_15 kn_44 kw_6_9 kw_6_10 hd_X4_become ⟨by decide, by decide⟩ (w.recv C (i := 3) (by decide) (pE_4 ⟨by decide, by decide⟩) rfl) rfl (Nat.le_of_ble_eq_true rfl) dX5_partsWithin_8) (fun M6 H locs h w => ?_)
  refine lv_iconst (v := 0) hx hb dX5_partsWithin_11 (by decide) ?_
  refine lv_istore_n (lv' := [(2, .int (0 : Int32)), (0, .ref (ga G 0)), (1, .int x1)]) hx hb dX5_partsWithin_12 rfl hl (by decide) rfl (fun ls hl => ?_)
  obtain ⟨n, h⟩ := h
  exact t_X5_partsWithin_13 C n M6 x1 (0 : Int32)  w (lv_sub hl [1, 2, 0] rfl) h
def j_X5_holds_76 (post : Int32 → Mem → Prop) (M : Mem) (y0 : Int32) : Prop := post y0 M
def j_X5_holds_65 (post : Int32 → Mem → Prop) (M : Mem) (x3 : Int32) : Prop := j_X5_holds_76 post M x3
def j_X5_holds_53 (post : Int32 → Mem → Prop) (M : Mem) (y0 : Int32) : Prop := post y0 M
def j_X5_holds_20 (post : Int32 → Mem → Prop) (M : Mem) : Prop := post (-1 : Int32) M
def q_X5_holds (M : Mem) (x1 : Int32) (x2 : Int32) (post : Int32 → Mem → Prop) : Prop := q_X5_isWithin M x1 (0 : Int32) (400 : Int32) (fun r1 M2 => (r1 = 0 → (j_X5_holds_20 post M2)) ∧ (¬ (r1 = 0) → (q_X5_isWithin M2 x2 (0 : Int32) (2 : Int32) (fun r4 M5 => (r4 = 0 → (j_X5_holds_20 post M5)) ∧ (¬ (r4 = 0) → (q_X5_layLine M5  (fun r7 M8 => (r7 = 0 → (post (-3 : Int32) M8)) ∧ (¬ (r7 = 0) → (q_X5_partsWithin M8 x1 (fun r10 M11 => (x2 = 0 → ((r10 = (-4 : Int32) → (j_X5_holds_53 post M11 (1 : Int32))) ∧ (¬ (r10 = (-4 : Int32)) → (j_X5_holds_53 post M11 (0 : Int32))))) ∧ (¬ (x2 = 0) → ((x2 = (1 : Int32) → (j_X5_holds_65 post M11 r10)) ∧ (¬ (x2 = (1 : Int32)) → ((r10 = (-4 : Int32) → (j_X5_holds_65 post M11 r10)) ∧ (¬ (r10 = (-4 : Int32)) → (j_X5_holds_76 post M11 (M11 3 7)))))))))))))))))
set_option maxHeartbeats 4000000 in
set_option maxRecDepth 100000 in
theorem t_X5_holds_76 (C : Cx G p s m args meth c RX5 cX5_holds 4 (some .int)) {post : Int32 → Mem → Prop} (M : Mem) (y0 : Int32) {H : Heap} {locs : List Loc} {ls : Array Slot} (w : Wd G s M H locs) (hl : lv_has ls 4 []) (h : j_X5_holds_76 post M y0) : W p l e (rmk 6) s m args below meth c H locs 0 0 (MQ below (va_Qi post (Qw G) (Af G s.heap.size)) args s 0 0 (Af G s.heap.size)) (F0 m 76 ls [.int y0]) := by
  have hx := C.1.1
  have hb := C.1.2.1
  unfold j_X5_holds_76 at h
  exact ret_i C w h dX5_holds_76
set_option maxHeartbeats 4000000 in
set_option maxRecDepth 100000 in
theorem t_X5_holds_65 (C : Cx G p s m args meth c RX5 cX5_holds 4 (some .int)) {post : Int32 → Mem → Prop} (M : Mem) (x3 : Int32) {H : Heap} {locs : List Loc} {ls : Array Slot} (w : Wd G s M H locs) (hl : lv_has ls 4 [(3, .int x3)]) (h : j_X5_holds_65 post M x3) : W p l e (rmk 6) s m args below meth c H locs 0 0 (MQ below (va_Qi post (Qw G) (Af G s.heap.size)) args s 0 0 (Af G s.heap.size)) (F0 m 65 ls []) := by
  have hx := C.1.1
  have hb := C.1.2.1
  unfold j_X5_holds_65 at h
  refine lv_iload_n hx hb dX5_holds_65 rfl (lv_at hl 0 rfl) ?_
  refine lv_goto (tgt := 76) hx hb dX5_holds_66 (by decide) ?_
  exact t_X5_holds_76 C M x3  w (lv_sub hl [] rfl) h
set_option maxHeartbeats 4000000 in
set_option maxRecDepth 100000 in
theorem t_X5_holds_53 (C : Cx G p s m args meth c RX5 cX5_holds 4 (some .int)) {post : Int32 → Mem → Prop} (M : Mem) (y0 : Int32) {H : Heap} {locs : List Loc} {ls : Array Slot} (w : Wd G s M H locs) (hl : lv_has ls 4 []) (h : j_X5_holds_53 post M y0) : W p l e (rmk 6) s m args below meth c H locs 0 0 (MQ below (va_Qi post (Qw G) (Af G s.heap.size)) args s 0 0 (Af G s.heap.size)) (F0 m 53 ls [.int y0]) := by
  have hx := C.1.1
  have hb := C.1.2.1
  unfold j_X5_holds_53 at h
  exact ret_i C w h dX5_holds_53
set_option maxHeartbeats 4000000 in
set_option maxRecDepth 100000 in
theorem t_X5_holds_20 (C : Cx G p s m args meth c RX5 cX5_holds 4 (some .int)) {post : Int32 → Mem → Prop} (M : Mem) {H : Heap} {locs : List Loc} {ls : Array Slot} (w : Wd G s M H locs) (hl : lv_has ls 4 []) (h : j_X5_holds_20 post M) : W p l e (rmk 6) s m args below meth c H locs 0 0 (MQ below (va_Qi post (Qw G) (Af G s.heap.size)) args s 0 0 (Af G s.heap.size)) (F0 m 20 ls []) := by
  have hx := C.1.1
  have hb := C.1.2.1
  unfold j_X5_holds_20 at h
  refine lv_iconst (v := -1) hx hb dX5_holds_20 (by decide) ?_
  exact ret_i C w h dX5_holds_21
set_option maxHeartbeats 4000000 in
set_option maxRecDepth 100000 in
theorem c_X5_holds (l : Launch) (G : GG) (hG : Ag G) (sz : Nat) (M : Mem) (x1 : Int32) (x2 : Int32) (post : Int32 → Mem → Prop) (h : q_X5_holds M x1 x2 post) : Met l yX5_holds (Cond.code yX5_holds cX5_holds 4 (some .int) :: wsL_law) (rmk 6) (va_Pc [.ref (ga G 0), .int x1, .int x2] (Pw G sz M)) (va_Qi post (Qw G) (Af G sz)) 0 0 (Af G sz) := by
  refine Met.ofW (cc := cX5_holds) (maxL := 4) (ret := (some .int)) (by decide) rfl ?_
  intro p e s m args below meth c s₁ B hml hv
  obtain ⟨rfl, hsz, hE, hP⟩ := hv
  subst hsz
  have C := Cx.of (own := RX5) hG hE rfl hml B
  have w : Wd G s M s.heap [] := ⟨hP, va_S.rf⟩
  have hl := lv_entry [.ref (ga G 0), .int x1, .int x2] (n := 4) (Nat.le_of_ble_eq_true rfl)
  rw [lg_entry_eq]
  generalize (lg_sl [.ref (ga G 0), .int x1, .int x2] ++ List.replicate (4 - (lg_sl [.ref (ga G 0), .int x1, .int x2]).length) Slot.unset).toArray = ls at hl ⊢
  have hl : lv_has ls 4 [(0, .ref (ga G 0)), (1, .int x1), (2, .int x2)] := hl
  have hx := C.1.1
  have hb := C.1.2.1
  show W p l e (rmk 6) s m _ below meth c s.heap [] 0 0 _ _
  unfold q_X5_holds at h
  refine lv_iload_n hx hb dX5_holds_0 rfl (lv_at hl 1 rfl) ?_
  refine lv_iconst (v := 0) hx hb dX5_holds_1 (by decide) ?_
  refine lv_sipush (v := 400) hx hb dX5_holds_2 (by decide) ?_
  refine end_i w (run_S (As := [.int x1, .int (0 : Int32), .int (400 : Int32)]) C w hl.1 (c_X5_isWithin l G C.2.2.1 _ _ x1 (0 : Int32) (400 : Int32)  _ h) kw_6_8 kw_1_2 kw_6_6 kw_6_7 hd_X5_isWithin ⟨by decide, by decide⟩ rfl (Nat.le_of_ble_eq_true rfl) dX5_holds_5) (fun r1 M2 H locs h w => ?_)
  refine lv_if_eq (tgt := 20) hx hb dX5_holds_8 (by decide) (fun c3 => ?_) (fun c3 => ?_)
  · replace h := h.1 c3
    exact t_X5_holds_20 C M2   w (lv_sub hl [] rfl) h
  replace h := h.2 c3
  refine lv_iload_n hx hb dX5_holds_11 rfl (lv_at hl 2 rfl) ?_
  refine lv_iconst (v := 0) hx hb dX5_holds_12 (by decide) ?_
  refine lv_iconst (v := 2) hx hb dX5_holds_13 (by decide) ?_
  refine end_i w (run_S (As := [.int x2, .int (0 : Int32), .int (2 : Int32)]) C w hl.1 (c_X5_isWithin l G C.2.2.1 _ _ x2 (0 : Int32) (2 : Int32)  _ h) kw_6_8 kw_1_2 kw_6_6 kw_6_7 hd_X5_isWithin ⟨by decide, by decide⟩ rfl (Nat.le_of_ble_eq_true rfl) dX5_holds_14) (fun r4 M5 H locs h w => ?_)
  refine lv_if_ne (tgt := 22) hx hb dX5_holds_17 (by decide) (fun c6 => ?_) (fun c6 => ?_)
  · replace h := h.2 c6
    refine lv_aload_n hx hb dX5_holds_22 rfl (lv_at hl 0 rfl) ?_
    refine end_i w (run_V (As := []) C w hl.1 (c_X5_layLine l G C.2.2.1 _ _   _ h) kw_15_21 kw_1_2 kw_15_18 kw_15_19 kw_15_20 hd_X5_layLine ⟨by decide, by decide⟩ (w.recv C (i := 0) (by decide) (pE_5) rfl) rfl (Nat.le_of_ble_eq_true rfl) dX5_holds_23) (fun r7 M8 H locs h w => ?_)
    refine lv_if_ne (tgt := 32) hx hb dX5_holds_26 (by decide) (fun c9 => ?_) (fun c9 => ?_)
    · replace h := h.2 c9
      refine lv_aload_n hx hb dX5_holds_32 rfl (lv_at hl 0 rfl) ?_
      refine lv_iload_n hx hb dX5_holds_33 rfl (lv_at hl 1 rfl) ?_
      refine end_i w (run_V (As := [.int x1]) C w hl.1 (c_X5_partsWithin l G C.2.2.1 _ _ x1  _ h) kw_23_12 kw_1_2 kw_23_9 kw_23_10 kw_23_11 hd_X5_partsWithin ⟨by decide, by decide⟩ (w.recv C (i := 0) (by decide) (pE_5) rfl) rfl (Nat.le_of_ble_eq_true rfl) dX5_holds_34) (fun r10 M11 H locs h w => ?_)
      refine lv_istore_n (lv' := [(3, .int r10), (0, .ref (ga G 0)), (1, .int x1), (2, .int x2)]) hx hb dX5_holds_37 rfl hl (by decide) rfl (fun ls hl => ?_)
      refine lv_iload_n hx hb dX5_holds_38 rfl (lv_at hl 3 rfl) ?_
      refine lv_if_ne (tgt := 54) hx hb dX5_holds_39 (by decide) (fun c12 => ?_) (fun c12 => ?_)
      · replace h := h.2 c12
        refine lv_iload_n hx hb dX5_holds_54 rfl (lv_at hl 3 rfl) ?_
        refine lv_iconst (v := 1) hx hb dX5_holds_55 (by decide) ?_
        refine lv_icmp_eq (tgt := 65) hx hb dX5_holds_56 (by decide) (fun c13 => ?_) (fun c13 => ?_)
        · replace h := h.1 c13
          exact t_X5_holds_65 C M11 r10  w (lv_sub hl [0] rfl) h
        replace h := h.2 c13
        refine lv_iload_n hx hb dX5_holds_59 rfl (lv_at hl 0 rfl) ?_
        refine lv_bipush (v := -4) hx hb dX5_holds_60 (by decide) ?_
        refine lv_icmp_ne (tgt := 69) hx hb dX5_holds_62 (by decide) (fun c14 => ?_) (fun c14 => ?_)
        · replace h := h.2 c14
          refine lv_aload_n hx hb dX5_holds_69 rfl (lv_at hl 1 rfl) ?_
          refine gt_5_2 C w kw_1_18 dX5_holds_70 ?_
          refine gn_4_7 C w ⟨by decide, by decide⟩ kn_22 dX5_holds_73 ?_
          exact t_X5_holds_76 C M11 (M11 3 7)  w (lv_sub hl [] rfl) h
        replace h := h.1 c14
        exact t_X5_holds_65 C M11 r10  w (lv_sub hl [0] rfl) h
      replace h := h.1 c12
      refine lv_iload_n hx hb dX5_holds_42 rfl (lv_at hl 0 rfl) ?_
      refine lv_bipush (v := -4) hx hb dX5_holds_43 (by decide) ?_
      refine lv_icmp_ne (tgt := 52) hx hb dX5_holds_45 (by decide) (fun c15 => ?_) (fun c15 => ?_)
      · replace h := h.2 c15
        refine lv_iconst (v := 0) hx hb dX5_holds_52 (by decide) ?_
        exact t_X5_holds_53 C M11 (0 : Int32)  w (lv_sub hl [] rfl) h
      replace h := h.1 c15
      refine lv_iconst (v := 1) hx hb dX5_holds_48 (by decide) ?_
      refine lv_goto (tgt := 53) hx hb dX5_holds_49 (by decide) ?_
      exact t_X5_holds_53 C M11 (1 : Int32)  w (lv_sub hl [] rfl) h
    replace h := h.1 c9
    refine lv_bipush (v := -3) hx hb dX5_holds_29 (by decide) ?_
    exact ret_i C w h dX5_holds_31
  replace h := h.1 c6
  exact t_X5_holds_20 C M5   w (lv_sub hl [] rfl) h
def j_X6_partsIn_60 (post : Int32 → Mem → Prop) (M : Mem) (x2 : Int32) : Prop := q_X6_copies M 61 58 (fun M2 => post x2 M2)
def j_X6_partsIn_54 (k24 : Mem → Int32 → Int32 → Int32 → Prop) (post : Int32 → Mem → Prop) (M : Mem) (x1 : Int32) (x2 : Int32) (x3 : Int32) : Prop := k24 M x1 x2 (x3 + (1 : Int32))
def b_X6_partsIn_24 (k24 : Mem → Int32 → Int32 → Int32 → Prop) (post : Int32 → Mem → Prop) (M : Mem) (x1 : Int32) (x2 : Int32) (x3 : Int32) : Prop := (x1 ≤ x3 → (j_X6_partsIn_60 post M x2)) ∧ (¬ (x1 ≤ x3) → ((0 ≤ x2 → (j_X6_partsIn_60 post M x2)) ∧ (¬ (0 ≤ x2) → (q_X6_goesTenth M (M 58 5) (fun r5 M6 => ((M6 57 22) < 0 → (j_X6_partsIn_54 k24 post M6 x1 x2 x3)) ∧ (¬ ((M6 57 22) < 0) → (j_X6_partsIn_54 k24 post M6 x1 x3 x3)))))))
def lp_X6_partsIn_24 (post : Int32 → Mem → Prop) : Nat → Mem → Int32 → Int32 → Int32 → Prop
  | 0 => fun _ _ _ _ => False
  | n + 1 => fun M x1 x2 x3 => b_X6_partsIn_24 (lp_X6_partsIn_24 post n) post M x1 x2 x3
def q_X6_partsIn (M : Mem) (x1 : Int32) (post : Int32 → Mem → Prop) : Prop := q_X6_copies M 58 61 (fun M9 => q_X6_allPieces M9  (fun r10 M11 => q_X6_sumsUp M11 r10 (fun M13 => ∃ n, lp_X6_partsIn_24 post n M13 x1 (-4 : Int32) (0 : Int32))))
set_option maxHeartbeats 4000000 in
set_option maxRecDepth 100000 in
theorem t_X6_partsIn_60 (C : Cx G p s m args meth c RX6 cX6_partsIn 5 (some .int)) {post : Int32 → Mem → Prop} (M : Mem) (x2 : Int32) {H : Heap} {locs : List Loc} {ls : Array Slot} (w : Wd G s M H locs) (hl : lv_has ls 5 [(0, .ref (ga G 57)), (2, .int x2)]) (h : j_X6_partsIn_60 post M x2) : W p l e (rmk 5) s m args below meth c H locs 0 0 (MQ below (va_Qi post (Qw G) (Af G s.heap.size)) args s 0 0 (Af G s.heap.size)) (F0 m 60 ls []) := by
  have hx := C.1.1
  have hb := C.1.2.1
  unfold j_X6_partsIn_60 at h
  refine lv_aload_n hx hb dX6_partsIn_60 rfl (lv_at hl 0 rfl) ?_
  refine gt_6_3 C w kw_5_3 dX6_partsIn_61 ?_
  refine lv_aload_n hx hb dX6_partsIn_64 rfl (lv_at hl 0 rfl) ?_
  refine gt_6_0 C w kw_5_0 dX6_partsIn_65 ?_
  refine end_v w (run_S (As := [.ref (ga G 61), .ref (ga G 58)]) C w hl.1 (c_X6_copies l G C.2.2.1 _ _ 61 58 ⟨by decide, by decide⟩ ⟨by decide, by decide⟩ _ h) kw_13_8 kw_1_5 kw_13_6 kw_13_7 hd_X6_copies ⟨by decide, by decide⟩ rfl (Nat.le_of_ble_eq_true rfl) dX6_partsIn_68) (fun M2 H locs h w => ?_)
  refine lv_iload_n hx hb dX6_partsIn_71 rfl (lv_at hl 1 rfl) ?_
  exact ret_i C w h dX6_partsIn_72
set_option maxHeartbeats 4000000 in
set_option maxRecDepth 100000 in
theorem t_X6_partsIn_54 (C : Cx G p s m args meth c RX6 cX6_partsIn 5 (some .int)) {post : Int32 → Mem → Prop} {k24 : Mem → Int32 → Int32 → Int32 → Prop} (hk24 : ∀ (M : Mem) (x1 : Int32) (x2 : Int32) (x3 : Int32) (H : Heap) (locs : List Loc) (ls : Array Slot), Wd G s M H locs → lv_has ls 5 [(0, .ref (ga G 57)), (1, .int x1), (2, .int x2), (3, .int x3)] → k24 M x1 x2 x3 → W p l e (rmk 5) s m args below meth c H locs 0 0 (MQ below (va_Qi post (Qw G) (Af G s.heap.size)) args s 0 0 (Af G s.heap.size)) (F0 m 24 ls [])) (M : Mem) (x1 : Int32) (x2 : Int32) (x3 : Int32) {H : Heap} {locs : List Loc} {ls : Array Slot} (w : Wd G s M H locs) (hl : lv_has ls 5 [(0, .ref (ga G 57)), (1, .int x1), (2, .int x2), (3, .int x3)]) (h : j_X6_partsIn_54 k24 post M x1 x2 x3) : W p l e (rmk 5) s m args below meth c H locs 0 0 (MQ below (va_Qi post (Qw G) (Af G s.heap.size)) args s 0 0 (Af G s.heap.size)) (F0 m 54 ls []) := by
  have hx := C.1.1
  have hb := C.1.2.1
  unfold j_X6_partsIn_54 at h
  refine lv_iinc (v := (x3 + (1 : Int32))) (lv' := [(3, .int (x3 + (1 : Int32))), (0, .ref (ga G 57)), (1, .int x1), (2, .int x2)]) hx hb dX6_partsIn_54 hl (k := 3) rfl rfl (by decide) rfl (fun ls hl => ?_)
  refine lv_goto (tgt := 24) hx hb dX6_partsIn_57 (by decide) ?_
  exact hk24 M x1 x2 (x3 + (1 : Int32)) _ _ _  w (lv_sub hl [1, 2, 3, 0] rfl) h
set_option maxHeartbeats 4000000 in
set_option maxRecDepth 100000 in
theorem t_X6_partsIn_24 (C : Cx G p s m args meth c RX6 cX6_partsIn 5 (some .int)) {post : Int32 → Mem → Prop} : ∀ (n : Nat) (M : Mem) (x1 : Int32) (x2 : Int32) (x3 : Int32) {H : Heap} {locs : List Loc} {ls : Array Slot} (w : Wd G s M H locs) (hl : lv_has ls 5 [(0, .ref (ga G 57)), (1, .int x1), (2, .int x2), (3, .int x3)]) (h : lp_X6_partsIn_24 post n M x1 x2 x3), W p l e (rmk 5) s m args below meth c H locs 0 0 (MQ below (va_Qi post (Qw G) (Af G s.heap.size)) args s 0 0 (Af G s.heap.size)) (F0 m 24 ls []) := by
  have hx := C.1.1
  have hb := C.1.2.1
  intro n9
  induction n9 with
  | zero => intro M x1 x2 x3 H locs ls w hl h; exact absurd h id
  | succ n9 ih9 =>
    intro M x1 x2 x3 H locs ls w hl h
    have hk24 : ∀ (M : Mem) (x1 : Int32) (x2 : Int32) (x3 : Int32) (H : Heap) (locs : List Loc) (ls : Array Slot), Wd G s M H locs → lv_has ls 5 [(0, .ref (ga G 57)), (1, .int x1), (2, .int x2), (3, .int x3)] → lp_X6_partsIn_24 post n9 M x1 x2 x3 → W p l e (rmk 5) s m args below meth c H locs 0 0 (MQ below (va_Qi post (Qw G) (Af G s.heap.size)) args s 0 0 (Af G s.heap.size)) (F0 m 24 ls []) := fun M x1 x2 x3 H locs ls w hl h => ih9 M x1 x2 x3 w hl h
    replace h : b_X6_partsIn_24 (lp_X6_partsIn_24 post n9) post M x1 x2 x3 := h
    unfold b_X6_partsIn_24 at h
    refine lv_iload_n hx hb dX6_partsIn_24 rfl (lv_at hl 3 rfl) ?_
    refine lv_iload_n hx hb dX6_partsIn_25 rfl (lv_at hl 1 rfl) ?_
    refine lv_icmp_ge (tgt := 60) hx hb dX6_partsIn_26 (by decide) (fun c3 => ?_) (fun c3 => ?_)
    · replace h := h.1 c3
      exact t_X6_partsIn_60 C M x2  w (lv_sub hl [0, 2] rfl) h
    replace h := h.2 c3
    refine lv_iload_n hx hb dX6_partsIn_29 rfl (lv_at hl 2 rfl) ?_
    refine lv_if_ge (tgt := 60) hx hb dX6_partsIn_30 (by decide) (fun c4 => ?_) (fun c4 => ?_)
    · replace h := h.1 c4
      exact t_X6_partsIn_60 C M x2  w (lv_sub hl [0, 2] rfl) h
    replace h := h.2 c4
    refine lv_aload_n hx hb dX6_partsIn_33 rfl (lv_at hl 0 rfl) ?_
    refine lv_aload_n hx hb dX6_partsIn_34 rfl (lv_at hl 0 rfl) ?_
    refine gt_6_0 C w kw_5_0 dX6_partsIn_35 ?_
    refine lv_iconst (v := 5) hx hb dX6_partsIn_38 (by decide) ?_
    refine pw_ld C w (i := 58) (by decide) pE_58 (vl (x := (5 : Int32)) (by decide)) (k := 5) (by decide) dX6_partsIn_39 ?_
    refine end_i w (run_V (As := [.int (M 58 5)]) C w hl.1 (c_X6_goesTenth l G C.2.2.1 _ _ (M 58 5)  _ h) kw_21_22 kw_1_5 kw_21_19 kw_21_20 kw_21_21 hd_X6_goesTenth ⟨by decide, by decide⟩ (w.recv C (i := 57) (by decide) (pE_6) rfl) rfl (Nat.le_of_ble_eq_true rfl) dX6_partsIn_40) (fun r5 M6 H locs h w => ?_)
    refine lv_istore (lv' := [(4, .int r5), (0, .ref (ga G 57)), (1, .int x1), (2, .int x2), (3, .int x3)]) hx hb dX6_partsIn_43 hl (by decide) rfl (fun ls hl => ?_)
    refine lv_aload_n hx hb dX6_partsIn_45 rfl (lv_at hl 1 rfl) ?_
    refine gt_6_22 C w kw_21_23 dX6_partsIn_46 ?_
    refine lv_if_lt (tgt := 54) hx hb dX6_partsIn_49 (by decide) (fun c7 => ?_) (fun c7 => ?_)
    · replace h := h.1 c7
      exact t_X6_partsIn_54 C hk24 M6 x1 x2 x3  w (lv_sub hl [1, 2, 3, 4] rfl) h
    replace h := h.2 c7
    refine lv_iload_n hx hb dX6_partsIn_52 rfl (lv_at hl 4 rfl) ?_
    refine lv_istore_n (lv' := [(2, .int x3), (4, .int r5), (0, .ref (ga G 57)), (1, .int x1), (3, .int x3)]) hx hb dX6_partsIn_53 rfl hl (by decide) rfl (fun ls hl => ?_)
    exact t_X6_partsIn_54 C hk24 M6 x1 x3 x3  w (lv_sub hl [2, 3, 0, 4] rfl) h
set_option maxHeartbeats 4000000 in
set_option maxRecDepth 100000 in
theorem c_X6_partsIn (l : Launch) (G : GG) (hG : Ag G) (sz : Nat) (M : Mem) (x1 : Int32) (post : Int32 → Mem → Prop) (h : q_X6_partsIn M x1 post) : Met l yX6_partsIn (Cond.code yX6_partsIn cX6_partsIn 5 (some .int) :: wsL_law) (rmk 5) (va_Pc [.ref (ga G 57), .int x1] (Pw G sz M)) (va_Qi post (Qw G) (Af G sz)) 0 0 (Af G sz) := by
  refine Met.ofW (cc := cX6_partsIn) (maxL := 5) (ret := (some .int)) (by decide) rfl ?_
  intro p e s m args below meth c s₁ B hml hv
  obtain ⟨rfl, hsz, hE, hP⟩ := hv
  subst hsz
  have C := Cx.of (own := RX6) hG hE rfl hml B
  have w : Wd G s M s.heap [] := ⟨hP, va_S.rf⟩
  have hl := lv_entry [.ref (ga G 57), .int x1] (n := 5) (Nat.le_of_ble_eq_true rfl)
  rw [lg_entry_eq]
  generalize (lg_sl [.ref (ga G 57), .int x1] ++ List.replicate (5 - (lg_sl [.ref (ga G 57), .int x1]).length) Slot.unset).toArray = ls at hl ⊢
  have hl : lv_has ls 5 [(0, .ref (ga G 57)), (1, .int x1)] := hl
  have hx := C.1.1
  have hb := C.1.2.1
  show W p l e (rmk 5) s m _ below meth c s.heap [] 0 0 _ _
  unfold q_X6_partsIn at h
  refine lv_aload_n hx hb dX6_partsIn_0 rfl (lv_at hl 0 rfl) ?_
  refine gt_6_0 C w kw_5_0 dX6_partsIn_1 ?_
  refine lv_aload_n hx hb dX6_partsIn_4 rfl (lv_at hl 0 rfl) ?_
  refine gt_6_3 C w kw_5_3 dX6_partsIn_5 ?_
  refine end_v w (run_S (As := [.ref (ga G 58), .ref (ga G 61)]) C w hl.1 (c_X6_copies l G C.2.2.1 _ _ 58 61 ⟨by decide, by decide⟩ ⟨by decide, by decide⟩ _ h) kw_13_8 kw_1_5 kw_13_6 kw_13_7 hd_X6_copies ⟨by decide, by decide⟩ rfl (Nat.le_of_ble_eq_true rfl) dX6_partsIn_8) (fun M9 H locs h w => ?_)
  refine lv_aload_n hx hb dX6_partsIn_11 rfl (lv_at hl 0 rfl) ?_
  refine lv_aload_n hx hb dX6_partsIn_12 rfl (lv_at hl 0 rfl) ?_
  refine end_i w (run_V (As := []) C w hl.1 (c_X6_allPieces l G C.2.2.1 _ _   _ h) kw_17_15 kw_1_5 kw_17_12 kw_17_13 kw_17_14 hd_X6_allPieces ⟨by decide, by decide⟩ (w.recv C (i := 57) (by decide) (pE_6) rfl) rfl (Nat.le_of_ble_eq_true rfl) dX6_partsIn_13) (fun r10 M11 H locs h w => ?_)
  refine end_v w (run_V (As := [.int r10]) C w hl.1 (c_X6_sumsUp l G C.2.2.1 _ _ r10  _ h) kw_17_19 kw_1_5 kw_17_16 kw_17_17 kw_17_18 hd_X6_sumsUp ⟨by decide, by decide⟩ (w.recv C (i := 57) (by decide) (pE_6) rfl) rfl (Nat.le_of_ble_eq_true rfl) dX6_partsIn_16) (fun M13 H locs h w => ?_)
  refine lv_bipush (v := -4) hx hb dX6_partsIn_19 (by decide) ?_
  refine lv_istore_n (lv' := [(2, .int (-4 : Int32)), (0, .ref (ga G 57)), (1, .int x1)]) hx hb dX6_partsIn_21 rfl hl (by decide) rfl (fun ls hl => ?_)
  refine lv_iconst (v := 0) hx hb dX6_partsIn_22 (by decide) ?_
  refine lv_istore_n (lv' := [(3, .int (0 : Int32)), (2, .int (-4 : Int32)), (0, .ref (ga G 57)), (1, .int x1)]) hx hb dX6_partsIn_23 rfl hl (by decide) rfl (fun ls hl => ?_)
  obtain ⟨n, h⟩ := h
  exact t_X6_partsIn_24 C n M13 x1 (-4 : Int32) (0 : Int32)  w (lv_sub hl [2, 3, 1, 0] rfl) h
def j_X6_holds_75 (post : Int32 → Mem → Prop) (M : Mem) (y0 : Int32) : Prop := post y0 M
def j_X6_holds_67 (post : Int32 → Mem → Prop) (M : Mem) (x3 : Int32) : Prop := j_X6_holds_75 post M x3
def j_X6_holds_24 (post : Int32 → Mem → Prop) (M : Mem) : Prop := post (-1 : Int32) M
def q_X6_holds (M : Mem) (x1 : Int32) (x2 : Int32) (post : Int32 → Mem → Prop) : Prop := q_X6_isIn M x1.toInt64 (0 : Int64) (400 : Int64) (fun r1 M2 => (r1 = 0 → (j_X6_holds_24 post M2)) ∧ (¬ (r1 = 0) → (q_X6_isIn M2 x2.toInt64 (0 : Int64) (2 : Int64) (fun r4 M5 => (r4 = 0 → (j_X6_holds_24 post M5)) ∧ (¬ (r4 = 0) → (q_X6_isLine M5  (fun r7 M8 => (r7 = 0 → (post (-3 : Int32) M8)) ∧ (¬ (r7 = 0) → (q_X6_partsIn M8 x1 (fun r10 M11 => (x2 = 0 → ((0 ≤ r10 → (j_X6_holds_75 post M11 (0 : Int32))) ∧ (¬ (0 ≤ r10) → (j_X6_holds_75 post M11 (1 : Int32))))) ∧ (¬ (x2 = 0) → ((r10 < 0 → (j_X6_holds_67 post M11 r10)) ∧ (¬ (r10 < 0) → ((x2 = (1 : Int32) → (j_X6_holds_67 post M11 r10)) ∧ (¬ (x2 = (1 : Int32)) → (j_X6_holds_75 post M11 (M11 57 22)))))))))))))))))
set_option maxHeartbeats 4000000 in
set_option maxRecDepth 100000 in
theorem t_X6_holds_75 (C : Cx G p s m args meth c RX6 cX6_holds 4 (some .int)) {post : Int32 → Mem → Prop} (M : Mem) (y0 : Int32) {H : Heap} {locs : List Loc} {ls : Array Slot} (w : Wd G s M H locs) (hl : lv_has ls 4 []) (h : j_X6_holds_75 post M y0) : W p l e (rmk 6) s m args below meth c H locs 0 0 (MQ below (va_Qi post (Qw G) (Af G s.heap.size)) args s 0 0 (Af G s.heap.size)) (F0 m 75 ls [.int y0]) := by
  have hx := C.1.1
  have hb := C.1.2.1
  unfold j_X6_holds_75 at h
  exact ret_i C w h dX6_holds_75
set_option maxHeartbeats 4000000 in
set_option maxRecDepth 100000 in
theorem t_X6_holds_67 (C : Cx G p s m args meth c RX6 cX6_holds 4 (some .int)) {post : Int32 → Mem → Prop} (M : Mem) (x3 : Int32) {H : Heap} {locs : List Loc} {ls : Array Slot} (w : Wd G s M H locs) (hl : lv_has ls 4 [(3, .int x3)]) (h : j_X6_holds_67 post M x3) : W p l e (rmk 6) s m args below meth c H locs 0 0 (MQ below (va_Qi post (Qw G) (Af G s.heap.size)) args s 0 0 (Af G s.heap.size)) (F0 m 67 ls []) := by
  have hx := C.1.1
  have hb := C.1.2.1
  unfold j_X6_holds_67 at h
  refine lv_iload_n hx hb dX6_holds_67 rfl (lv_at hl 0 rfl) ?_
  refine lv_goto (tgt := 75) hx hb dX6_holds_68 (by decide) ?_
  exact t_X6_holds_75 C M x3  w (lv_sub hl [] rfl) h
set_option maxHeartbeats 4000000 in
set_option maxRecDepth 100000 in
theorem t_X6_holds_24 (C : Cx G p s m args meth c RX6 cX6_holds 4 (some .int)) {post : Int32 → Mem → Prop} (M : Mem) {H : Heap} {locs : List Loc} {ls : Array Slot} (w : Wd G s M H locs) (hl : lv_has ls 4 []) (h : j_X6_holds_24 post M) : W p l e (rmk 6) s m args below meth c H locs 0 0 (MQ below (va_Qi post (Qw G) (Af G s.heap.size)) args s 0 0 (Af G s.heap.size)) (F0 m 24 ls []) := by
  have hx := C.1.1
  have hb := C.1.2.1
  unfold j_X6_holds_24 at h
  refine lv_iconst (v := -1) hx hb dX6_holds_24 (by decide) ?_
  exact ret_i C w h dX6_holds_25
set_option maxHeartbeats 4000000 in
set_option maxRecDepth 100000 in
theorem c_X6_holds (l : Launch) (G : GG) (hG : Ag G) (sz : Nat) (M : Mem) (x1 : Int32) (x2 : Int32) (post : Int32 → Mem → Prop) (h : q_X6_holds M x1 x2 post) : Met l yX6_holds (Cond.code yX6_holds cX6_holds 4 (some .int) :: wsL_law) (rmk 6) (va_Pc [.ref (ga G 57), .int x1, .int x2] (Pw G sz M)) (va_Qi post (Qw G) (Af G sz)) 0 0 (Af G sz) := by
  refine Met.ofW (cc := cX6_holds) (maxL := 4) (ret := (some .int)) (by decide) rfl ?_
  intro p e s m args below meth c s₁ B hml hv
  obtain ⟨rfl, hsz, hE, hP⟩ := hv
  subst hsz
  have C := Cx.of (own := RX6) hG hE rfl hml B
  have w : Wd G s M s.heap [] := ⟨hP, va_S.rf⟩
  have hl := lv_entry [.ref (ga G 57), .int x1, .int x2] (n := 4) (Nat.le_of_ble_eq_true rfl)
  rw [lg_entry_eq]
  generalize (lg_sl [.ref (ga G 57), .int x1, .int x2] ++ List.replicate (4 - (lg_sl [.ref (ga G 57), .int x1, .int x2]).length) Slot.unset).toArray = ls at hl ⊢
  have hl : lv_has ls 4 [(0, .ref (ga G 57)), (1, .int x1), (2, .int x2)] := hl
  have hx := C.1.1
  have hb := C.1.2.1
  show W p l e (rmk 6) s m _ below meth c s.heap [] 0 0 _ _
  unfold q_X6_holds at h
  refine lv_iload_n hx hb dX6_holds_0 rfl (lv_at hl 1 rfl) ?_
  refine lv_i2l hx hb dX6_holds_1 rfl ?_
  refine lv_lconst (v := 0) hx hb dX6_holds_2 (by decide) ?_
  refine lv_ldc2 hx hb C.1.2.2.2.1 (C.ws kw_23_17) dX6_holds_3 ?_
  refine end_i w (run_S (As := [.long x1.toInt64, .long (0 : Int64), .long (400 : Int64)]) C w hl.1 (c_X6_isIn l G C.2.2.1 _ _ x1.toInt64 (0 : Int64) (400 : Int64)  _ h) kw_12_5 kw_1_5 kw_12_3 kw_12_4 hd_X6_isIn ⟨by decide, by decide⟩ rfl (Nat.le_of_ble_eq_true rfl) dX6_holds_6) (fun r1 M2 H locs h w => ?_)
  refine lv_if_eq (tgt := 24) hx hb dX6_holds_9 (by decide) (fun c3 => ?_) (fun c3 => ?_)
  · replace h := h.1 c3
    exact t_X6_holds_24 C M2   w (lv_sub hl [] rfl) h
  replace h := h.2 c3
  refine lv_iload_n hx hb dX6_holds_12 rfl (lv_at hl 2 rfl) ?_
  refine lv_i2l hx hb dX6_holds_13 rfl ?_
  refine lv_lconst (v := 0) hx hb dX6_holds_14 (by decide) ?_
  refine lv_ldc2 hx hb C.1.2.2.2.1 (C.ws kw_23_18) dX6_holds_15 ?_
  refine end_i w (run_S (As := [.long x2.toInt64, .long (0 : Int64), .long (2 : Int64)]) C w hl.1 (c_X6_isIn l G C.2.2.1 _ _ x2.toInt64 (0 : Int64) (2 : Int64)  _ h) kw_12_5 kw_1_5 kw_12_3 kw_12_4 hd_X6_isIn ⟨by decide, by decide⟩ rfl (Nat.le_of_ble_eq_true rfl) dX6_holds_18) (fun r4 M5 H locs h w => ?_)
  refine lv_if_ne (tgt := 26) hx hb dX6_holds_21 (by decide) (fun c6 => ?_) (fun c6 => ?_)
  · replace h := h.2 c6
    refine lv_aload_n hx hb dX6_holds_26 rfl (lv_at hl 0 rfl) ?_
    refine end_i w (run_V (As := []) C w hl.1 (c_X6_isLine l G C.2.2.1 _ _   _ h) kw_17_11 kw_1_5 kw_17_8 kw_17_9 kw_17_10 hd_X6_isLine ⟨by decide, by decide⟩ (w.recv C (i := 57) (by decide) (pE_6) rfl) rfl (Nat.le_of_ble_eq_true rfl) dX6_holds_27) (fun r7 M8 H locs h w => ?_)
    refine lv_if_ne (tgt := 36) hx hb dX6_holds_30 (by decide) (fun c9 => ?_) (fun c9 => ?_)
    · replace h := h.2 c9
      refine lv_aload_n hx hb dX6_holds_36 rfl (lv_at hl 0 rfl) ?_
      refine lv_iload_n hx hb dX6_holds_37 rfl (lv_at hl 1 rfl) ?_
      refine end_i w (run_V (As := [.int x1]) C w hl.1 (c_X6_partsIn l G C.2.2.1 _ _ x1  _ h) kw_23_22 kw_1_5 kw_23_19 kw_23_20 kw_23_21 hd_X6_partsIn ⟨by decide, by decide⟩ (w.recv C (i := 57) (by decide) (pE_6) rfl) rfl (Nat.le_of_ble_eq_true rfl) dX6_holds_38) (fun r10 M11 H locs h w => ?_)
      refine lv_istore_n (lv' := [(3, .int r10), (0, .ref (ga G 57)), (1, .int x1), (2, .int x2)]) hx hb dX6_holds_41 rfl hl (by decide) rfl (fun ls hl => ?_)
      refine lv_iload_n hx hb dX6_holds_42 rfl (lv_at hl 3 rfl) ?_
      refine lv_if_ne (tgt := 58) hx hb dX6_holds_43 (by decide) (fun c12 => ?_) (fun c12 => ?_)
      · replace h := h.2 c12
        refine lv_iload_n hx hb dX6_holds_58 rfl (lv_at hl 0 rfl) ?_
        refine lv_if_lt (tgt := 67) hx hb dX6_holds_59 (by decide) (fun c13 => ?_) (fun c13 => ?_)
        · replace h := h.1 c13
          exact t_X6_holds_67 C M11 r10  w (lv_sub hl [0] rfl) h
        replace h := h.2 c13
        refine lv_iload_n hx hb dX6_holds_62 rfl (lv_at hl 3 rfl) ?_
        refine lv_iconst (v := 1) hx hb dX6_holds_63 (by decide) ?_
        refine lv_icmp_ne (tgt := 71) hx hb dX6_holds_64 (by decide) (fun c14 => ?_) (fun c14 => ?_)
        · replace h := h.2 c14
          refine lv_aload_n hx hb dX6_holds_71 rfl (lv_at hl 1 rfl) ?_
          refine gt_6_22 C w kw_21_23 dX6_holds_72 ?_
          exact t_X6_holds_75 C M11 (M11 57 22)  w (lv_sub hl [] rfl) h
        replace h := h.1 c14
        exact t_X6_holds_67 C M11 r10  w (lv_sub hl [0] rfl) h
      replace h := h.1 c12
      refine lv_iload_n hx hb dX6_holds_46 rfl (lv_at hl 0 rfl) ?_
      refine lv_if_ge (tgt := 54) hx hb dX6_holds_47 (by decide) (fun c15 => ?_) (fun c15 => ?_)
      · replace h := h.1 c15
        refine lv_iconst (v := 0) hx hb dX6_holds_54 (by decide) ?_
        refine lv_goto (tgt := 75) hx hb dX6_holds_55 (by decide) ?_
        exact t_X6_holds_75 C M11 (0 : Int32)  w (lv_sub hl [] rfl) h
      replace h := h.2 c15
      refine lv_iconst (v := 1) hx hb dX6_holds_50 (by decide) ?_
      refine lv_goto (tgt := 75) hx hb dX6_holds_51 (by decide) ?_
      exact t_X6_holds_75 C M11 (1 : Int32)  w (lv_sub hl [] rfl) h
    replace h := h.1 c9
    refine lv_bipush (v := -3) hx hb dX6_holds_33 (by decide) ?_
    exact ret_i C w h dX6_holds_35
  replace h := h.1 c6
  exact t_X6_holds_24 C M5   w (lv_sub hl [] rfl) h
def b_X5_fastest_29 (k29 : Mem → Int32 → Int32 → Prop) (post : Int32 → Mem → Prop) (M : Mem) (x1 : Int32) (x2 : Int32) : Prop := (x2 < 0 → (post (-4 : Int32) M)) ∧ (¬ (x2 < 0) → (∀ M2 : Mem, M2 = (mup M 4 5 x2) → (q_X5_partsWithin M2 x1 (fun r3 M4 => (r3 = (-4 : Int32) → (post x2 M4)) ∧ (¬ (r3 = (-4 : Int32)) → (k29 M4 x1 (x2 + (-1 : Int32))))))))
def lp_X5_fastest_29 (post : Int32 → Mem → Prop) : Nat → Mem → Int32 → Int32 → Prop
  | 0 => fun _ _ _ => False
  | n + 1 => fun M x1 x2 => b_X5_fastest_29 (lp_X5_fastest_29 post n) post M x1 x2
def q_X5_fastest (M : Mem) (x1 : Int32) (post : Int32 → Mem → Prop) : Prop := q_X5_isWithin M x1 (0 : Int32) (400 : Int32) (fun r6 M7 => (r6 = 0 → (post (-1 : Int32) M7)) ∧ (¬ (r6 = 0) → (q_X5_layLine M7  (fun r9 M10 => (r9 = 0 → (post (-3 : Int32) M10)) ∧ (¬ (r9 = 0) → (∃ n, lp_X5_fastest_29 post n M10 x1 (mostT 2)))))))
set_option maxHeartbeats 4000000 in
set_option maxRecDepth 100000 in
theorem t_X5_fastest_29 (C : Cx G p s m args meth c RX5 cX5_fastest 3 (some .int)) {post : Int32 → Mem → Prop} : ∀ (n : Nat) (M : Mem) (x1 : Int32) (x2 : Int32) {H : Heap} {locs : List Loc} {ls : Array Slot} (w : Wd G s M H locs) (hl : lv_has ls 3 [(0, .ref (ga G 0)), (1, .int x1), (2, .int x2)]) (h : lp_X5_fastest_29 post n M x1 x2), W p l e (rmk 6) s m args below meth c H locs 0 0 (MQ below (va_Qi post (Qw G) (Af G s.heap.size)) args s 0 0 (Af G s.heap.size)) (F0 m 29 ls []) := by
  have hx := C.1.1
  have hb := C.1.2.1
  intro n9
  induction n9 with
  | zero => intro M x1 x2 H locs ls w hl h; exact absurd h id
  | succ n9 ih9 =>
    intro M x1 x2 H locs ls w hl h
    have hk29 : ∀ (M : Mem) (x1 : Int32) (x2 : Int32) (H : Heap) (locs : List Loc) (ls : Array Slot), Wd G s M H locs → lv_has ls 3 [(0, .ref (ga G 0)), (1, .int x1), (2, .int x2)] → lp_X5_fastest_29 post n9 M x1 x2 → W p l e (rmk 6) s m args below meth c H locs 0 0 (MQ below (va_Qi post (Qw G) (Af G s.heap.size)) args s 0 0 (Af G s.heap.size)) (F0 m 29 ls []) := fun M x1 x2 H locs ls w hl h => ih9 M x1 x2 w hl h
    replace h : b_X5_fastest_29 (lp_X5_fastest_29 post n9) post M x1 x2 := h
    unfold b_X5_fastest_29 at h
    refine lv_iload_n hx hb dX5_fastest_29 rfl (lv_at hl 2 rfl) ?_
    refine lv_if_lt (tgt := 59) hx hb dX5_fastest_30 (by decide) (fun c1 => ?_) (fun c1 => ?_)
    · replace h := h.1 c1
      refine lv_bipush (v := -4) hx hb dX5_fastest_59 (by decide) ?_
      exact ret_i C w h dX5_fastest_61
    replace h := h.2 c1
    refine lv_aload_n hx hb dX5_fastest_33 rfl (lv_at hl 0 rfl) ?_
    refine gt_5_3 C w kw_1_22 dX5_fastest_34 ?_
    refine lv_iload_n hx hb dX5_fastest_37 rfl (lv_at hl 2 rfl) ?_
    refine pn_0_5 C w kn_28 dX5_fastest_38 (fun H locs w => ?_)
    obtain ⟨M2, eM2⟩ : ∃ z : Mem, z = (mup M 4 5 x2) := ⟨_, rfl⟩
    replace w : Wd G s M2 H locs := by rw [eM2]; exact w
    replace h := h M2 eM2
    refine lv_aload_n hx hb dX5_fastest_41 rfl (lv_at hl 0 rfl) ?_
    refine lv_iload_n hx hb dX5_fastest_42 rfl (lv_at hl 1 rfl) ?_
    refine end_i w (run_V (As := [.int x1]) C w hl.1 (c_X5_partsWithin l G C.2.2.1 _ _ x1  _ h) kw_23_12 kw_1_2 kw_23_9 kw_23_10 kw_23_11 hd_X5_partsWithin ⟨by decide, by decide⟩ (w.recv C (i := 0) (by decide) (pE_5) rfl) rfl (Nat.le_of_ble_eq_true rfl) dX5_fastest_43) (fun r3 M4 H locs h w => ?_)
    refine lv_bipush (v := -4) hx hb dX5_fastest_46 (by decide) ?_
    refine lv_icmp_ne (tgt := 53) hx hb dX5_fastest_48 (by decide) (fun c5 => ?_) (fun c5 => ?_)
    · replace h := h.2 c5
      refine lv_iinc (v := (x2 + (-1 : Int32))) (lv' := [(2, .int (x2 + (-1 : Int32))), (0, .ref (ga G 0)), (1, .int x1)]) hx hb dX5_fastest_53 hl (k := 2) rfl rfl (by decide) rfl (fun ls hl => ?_)
      refine lv_goto (tgt := 29) hx hb dX5_fastest_56 (by decide) ?_
      exact hk29 M4 x1 (x2 + (-1 : Int32)) _ _ _  w (lv_sub hl [1, 2, 0] rfl) h
    replace h := h.1 c5
    refine lv_iload_n hx hb dX5_fastest_51 rfl (lv_at hl 2 rfl) ?_
    exact ret_i C w h dX5_fastest_52
set_option maxHeartbeats 4000000 in
set_option maxRecDepth 100000 in
theorem c_X5_fastest (l : Launch) (G : GG) (hG : Ag G) (sz : Nat) (M : Mem) (x1 : Int32) (post : Int32 → Mem → Prop) (h : q_X5_fastest M x1 post) : Met l yX5_fastest (Cond.code yX5_fastest cX5_fastest 3 (some .int) :: wsL_law) (rmk 6) (va_Pc [.ref (ga G 0), .int x1] (Pw G sz M)) (va_Qi post (Qw G) (Af G sz)) 0 0 (Af G sz) := by
  refine Met.ofW (cc := cX5_fastest) (maxL := 3) (ret := (some .int)) (by decide) rfl ?_
  intro p e s m args below meth c s₁ B hml hv
  obtain ⟨rfl, hsz, hE, hP⟩ := hv
  subst hsz
  have C := Cx.of (own := RX5) hG hE rfl hml B
  have w : Wd G s M s.heap [] := ⟨hP, va_S.rf⟩
  have hl := lv_entry [.ref (ga G 0), .int x1] (n := 3) (Nat.le_of_ble_eq_true rfl)
  rw [lg_entry_eq]
  generalize (lg_sl [.ref (ga G 0), .int x1] ++ List.replicate (3 - (lg_sl [.ref (ga G 0), .int x1]).length) Slot.unset).toArray = ls at hl ⊢
  have hl : lv_has ls 3 [(0, .ref (ga G 0)), (1, .int x1)] := hl
  have hx := C.1.1
  have hb := C.1.2.1
  show W p l e (rmk 6) s m _ below meth c s.heap [] 0 0 _ _
  unfold q_X5_fastest at h
  refine lv_iload_n hx hb dX5_fastest_0 rfl (lv_at hl 1 rfl) ?_
  refine lv_iconst (v := 0) hx hb dX5_fastest_1 (by decide) ?_
  refine lv_sipush (v := 400) hx hb dX5_fastest_2 (by decide) ?_
  refine end_i w (run_S (As := [.int x1, .int (0 : Int32), .int (400 : Int32)]) C w hl.1 (c_X5_isWithin l G C.2.2.1 _ _ x1 (0 : Int32) (400 : Int32)  _ h) kw_6_8 kw_1_2 kw_6_6 kw_6_7 hd_X5_isWithin ⟨by decide, by decide⟩ rfl (Nat.le_of_ble_eq_true rfl) dX5_fastest_5) (fun r6 M7 H locs h w => ?_)
  refine lv_if_ne (tgt := 13) hx hb dX5_fastest_8 (by decide) (fun c8 => ?_) (fun c8 => ?_)
  · replace h := h.2 c8
    refine lv_aload_n hx hb dX5_fastest_13 rfl (lv_at hl 0 rfl) ?_
    refine end_i w (run_V (As := []) C w hl.1 (c_X5_layLine l G C.2.2.1 _ _   _ h) kw_15_21 kw_1_2 kw_15_18 kw_15_19 kw_15_20 hd_X5_layLine ⟨by decide, by decide⟩ (w.recv C (i := 0) (by decide) (pE_5) rfl) rfl (Nat.le_of_ble_eq_true rfl) dX5_fastest_14) (fun r9 M10 H locs h w => ?_)
    refine lv_if_ne (tgt := 23) hx hb dX5_fastest_17 (by decide) (fun c11 => ?_) (fun c11 => ?_)
    · replace h := h.2 c11
      refine gs_gM C w kw_24_3 dX5_fastest_23 ?_
      refine lv_iconst (v := 2) hx hb dX5_fastest_26 (by decide) ?_
      refine ts_gM C w (vl (x := (2 : Int32)) (by decide)) (k := 2) (by decide) dX5_fastest_27 ?_
      refine lv_istore_n (lv' := [(2, .int (mostT 2)), (0, .ref (ga G 0)), (1, .int x1)]) hx hb dX5_fastest_28 rfl hl (by decide) rfl (fun ls hl => ?_)
      obtain ⟨n, h⟩ := h
      exact t_X5_fastest_29 C n M10 x1 (mostT 2)  w (lv_sub hl [1, 2, 0] rfl) h
    replace h := h.1 c11
    refine lv_bipush (v := -3) hx hb dX5_fastest_20 (by decide) ?_
    exact ret_i C w h dX5_fastest_22
  replace h := h.1 c8
  refine lv_iconst (v := -1) hx hb dX5_fastest_11 (by decide) ?_
  exact ret_i C w h dX5_fastest_12
def j_X6_fastest_65 (k38 : Mem → Int32 → Int32 → Int32 → Int32 → Prop) (post : Int32 → Mem → Prop) (M : Mem) (x1 : Int32) (x2 : Int32) (x3 : Int32) (x4 : Int32) : Prop := k38 M x1 x2 x3 (x4 + (1 : Int32))
def b_X6_fastest_38 (k38 : Mem → Int32 → Int32 → Int32 → Int32 → Prop) (post : Int32 → Mem → Prop) (M : Mem) (x1 : Int32) (x2 : Int32) (x3 : Int32) (x4 : Int32) : Prop := ((10 : Int32) ≤ x4 → (∀ M2 : Mem, M2 = (mup M 58 7 x2) → (post x3 M2))) ∧ (¬ ((10 : Int32) ≤ x4) → (∀ M3 : Mem, M3 = (mup M 58 7 x4) → (q_X6_partsIn M3 x1 (fun r4 M5 => (0 ≤ r4 → (j_X6_fastest_65 k38 post M5 x1 x2 x3 x4)) ∧ (¬ (0 ≤ r4) → (j_X6_fastest_65 k38 post M5 x1 x2 x4 x4))))))
def lp_X6_fastest_38 (post : Int32 → Mem → Prop) : Nat → Mem → Int32 → Int32 → Int32 → Int32 → Prop
  | 0 => fun _ _ _ _ _ => False
  | n + 1 => fun M x1 x2 x3 x4 => b_X6_fastest_38 (lp_X6_fastest_38 post n) post M x1 x2 x3 x4
def q_X6_fastest (M : Mem) (x1 : Int32) (post : Int32 → Mem → Prop) : Prop := q_X6_isIn M x1.toInt64 (0 : Int64) (400 : Int64) (fun r7 M8 => (r7 = 0 → (post (-1 : Int32) M8)) ∧ (¬ (r7 = 0) → (q_X6_isLine M8  (fun r10 M11 => (r10 = 0 → (post (-3 : Int32) M11)) ∧ (¬ (r10 = 0) → (∃ n, lp_X6_fastest_38 post n M11 x1 (M11 58 7) (-4 : Int32) (0 : Int32)))))))
set_option maxHeartbeats 4000000 in
set_option maxRecDepth 100000 in
theorem t_X6_fastest_65 (C : Cx G p s m args meth c RX6 cX6_fastest 5 (some .int)) {post : Int32 → Mem → Prop} {k38 : Mem → Int32 → Int32 → Int32 → Int32 → Prop} (hk38 : ∀ (M : Mem) (x1 : Int32) (x2 : Int32) (x3 : Int32) (x4 : Int32) (H : Heap) (locs : List Loc) (ls : Array Slot), Wd G s M H locs → lv_has ls 5 [(0, .ref (ga G 57)), (1, .int x1), (2, .int x2), (3, .int x3), (4, .int x4)] → k38 M x1 x2 x3 x4 → W p l e (rmk 6) s m args below meth c H locs 0 0 (MQ below (va_Qi post (Qw G) (Af G s.heap.size)) args s 0 0 (Af G s.heap.size)) (F0 m 38 ls [])) (M : Mem) (x1 : Int32) (x2 : Int32) (x3 : Int32) (x4 : Int32) {H : Heap} {locs : List Loc} {ls : Array Slot} (w : Wd G s M H locs) (hl : lv_has ls 5 [(0, .ref (ga G 57)), (1, .int x1), (2, .int x2), (3, .int x3), (4, .int x4)]) (h : j_X6_fastest_65 k38 post M x1 x2 x3 x4) : W p l e (rmk 6) s m args below meth c H locs 0 0 (MQ below (va_Qi post (Qw G) (Af G s.heap.size)) args s 0 0 (Af G s.heap.size)) (F0 m 65 ls []) := by
  have hx := C.1.1
  have hb := C.1.2.1
  unfold j_X6_fastest_65 at h
  refine lv_iinc (v := (x4 + (1 : Int32))) (lv' := [(4, .int (x4 + (1 : Int32))), (0, .ref (ga G 57)), (1, .int x1), (2, .int x2), (3, .int x3)]) hx hb dX6_fastest_65 hl (k := 4) rfl rfl (by decide) rfl (fun ls hl => ?_)
  refine lv_goto (tgt := 38) hx hb dX6_fastest_68 (by decide) ?_
  exact hk38 M x1 x2 x3 (x4 + (1 : Int32)) _ _ _  w (lv_sub hl [1, 2, 3, 4, 0] rfl) h
set_option maxHeartbeats 4000000 in
set_option maxRecDepth 100000 in
theorem t_X6_fastest_38 (C : Cx G p s m args meth c RX6 cX6_fastest 5 (some .int)) {post : Int32 → Mem → Prop} : ∀ (n : Nat) (M : Mem) (x1 : Int32) (x2 : Int32) (x3 : Int32) (x4 : Int32) {H : Heap} {locs : List Loc} {ls : Array Slot} (w : Wd G s M H locs) (hl : lv_has ls 5 [(0, .ref (ga G 57)), (1, .int x1), (2, .int x2), (3, .int x3), (4, .int x4)]) (h : lp_X6_fastest_38 post n M x1 x2 x3 x4), W p l e (rmk 6) s m args below meth c H locs 0 0 (MQ below (va_Qi post (Qw G) (Af G s.heap.size)) args s 0 0 (Af G s.heap.size)) (F0 m 38 ls []) := by
  have hx := C.1.1
  have hb := C.1.2.1
  intro n9
  induction n9 with
  | zero => intro M x1 x2 x3 x4 H locs ls w hl h; exact absurd h id
  | succ n9 ih9 =>
    intro M x1 x2 x3 x4 H locs ls w hl h
    have hk38 : ∀ (M : Mem) (x1 : Int32) (x2 : Int32) (x3 : Int32) (x4 : Int32) (H : Heap) (locs : List Loc) (ls : Array Slot), Wd G s M H locs → lv_has ls 5 [(0, .ref (ga G 57)), (1, .int x1), (2, .int x2), (3, .int x3), (4, .int x4)] → lp_X6_fastest_38 post n9 M x1 x2 x3 x4 → W p l e (rmk 6) s m args below meth c H locs 0 0 (MQ below (va_Qi post (Qw G) (Af G s.heap.size)) args s 0 0 (Af G s.heap.size)) (F0 m 38 ls []) := fun M x1 x2 x3 x4 H locs ls w hl h => ih9 M x1 x2 x3 x4 w hl h
    replace h : b_X6_fastest_38 (lp_X6_fastest_38 post n9) post M x1 x2 x3 x4 := h
    unfold b_X6_fastest_38 at h
    refine lv_iload hx hb dX6_fastest_38 (lv_at hl 4 rfl) ?_
    refine lv_bipush (v := 10) hx hb dX6_fastest_40 (by decide) ?_
    refine lv_icmp_ge (tgt := 71) hx hb dX6_fastest_42 (by decide) (fun c1 => ?_) (fun c1 => ?_)
    · replace h := h.1 c1
      refine lv_aload_n hx hb dX6_fastest_71 rfl (lv_at hl 0 rfl) ?_
      refine gt_6_0 C w kw_5_0 dX6_fastest_72 ?_
      refine lv_bipush (v := 7) hx hb dX6_fastest_75 (by decide) ?_
      refine lv_iload_n hx hb dX6_fastest_77 rfl (lv_at hl 2 rfl) ?_
      refine pw_st C w (i := 58) (by decide) (fun _ => pE_58) (vl (x := (7 : Int32)) (by decide)) (k := 7) (by decide) dX6_fastest_78 (fun H locs w => ?_)
      obtain ⟨M2, eM2⟩ : ∃ z : Mem, z = (mup M 58 7 x2) := ⟨_, rfl⟩
      replace w : Wd G s M2 H locs := by rw [eM2]; exact w
      replace h := h M2 eM2
      refine lv_iload_n hx hb dX6_fastest_79 rfl (lv_at hl 3 rfl) ?_
      exact ret_i C w h dX6_fastest_80
    replace h := h.2 c1
    refine lv_aload_n hx hb dX6_fastest_45 rfl (lv_at hl 0 rfl) ?_
    refine gt_6_0 C w kw_5_0 dX6_fastest_46 ?_
    refine lv_bipush (v := 7) hx hb dX6_fastest_49 (by decide) ?_
    refine lv_iload hx hb dX6_fastest_51 (lv_at hl 4 rfl) ?_
    refine pw_st C w (i := 58) (by decide) (fun _ => pE_58) (vl (x := (7 : Int32)) (by decide)) (k := 7) (by decide) dX6_fastest_53 (fun H locs w => ?_)
    obtain ⟨M3, eM3⟩ : ∃ z : Mem, z = (mup M 58 7 x4) := ⟨_, rfl⟩
    replace w : Wd G s M3 H locs := by rw [eM3]; exact w
    replace h := h M3 eM3
    refine lv_aload_n hx hb dX6_fastest_54 rfl (lv_at hl 0 rfl) ?_
    refine lv_iload_n hx hb dX6_fastest_55 rfl (lv_at hl 1 rfl) ?_
    refine end_i w (run_V (As := [.int x1]) C w hl.1 (c_X6_partsIn l G C.2.2.1 _ _ x1  _ h) kw_23_22 kw_1_5 kw_23_19 kw_23_20 kw_23_21 hd_X6_partsIn ⟨by decide, by decide⟩ (w.recv C (i := 57) (by decide) (pE_6) rfl) rfl (Nat.le_of_ble_eq_true rfl) dX6_fastest_56) (fun r4 M5 H locs h w => ?_)
    refine lv_if_ge (tgt := 65) hx hb dX6_fastest_59 (by decide) (fun c6 => ?_) (fun c6 => ?_)
    · replace h := h.1 c6
      exact t_X6_fastest_65 C hk38 M5 x1 x2 x3 x4  w (lv_sub hl [0, 1, 2, 3, 4] rfl) h
    replace h := h.2 c6
    refine lv_iload hx hb dX6_fastest_62 (lv_at hl 4 rfl) ?_
    refine lv_istore_n (lv' := [(3, .int x4), (0, .ref (ga G 57)), (1, .int x1), (2, .int x2), (4, .int x4)]) hx hb dX6_fastest_64 rfl hl (by decide) rfl (fun ls hl => ?_)
    exact t_X6_fastest_65 C hk38 M5 x1 x2 x4 x4  w (lv_sub hl [1, 2, 3, 0, 4] rfl) h
set_option maxHeartbeats 4000000 in
set_option maxRecDepth 100000 in
theorem c_X6_fastest (l : Launch) (G : GG) (hG : Ag G) (sz : Nat) (M : Mem) (x1 : Int32) (post : Int32 → Mem → Prop) (h : q_X6_fastest M x1 post) : Met l yX6_fastest (Cond.code yX6_fastest cX6_fastest 5 (some .int) :: wsL_law) (rmk 6) (va_Pc [.ref (ga G 57), .int x1] (Pw G sz M)) (va_Qi post (Qw G) (Af G sz)) 0 0 (Af G sz) := by
  refine Met.ofW (cc := cX6_fastest) (maxL := 5) (ret := (some .int)) (by decide) rfl ?_
  intro p e s m args below meth c s₁ B hml hv
  obtain ⟨rfl, hsz, hE, hP⟩ := hv
  subst hsz
  have C := Cx.of (own := RX6) hG hE rfl hml B
  have w : Wd G s M s.heap [] := ⟨hP, va_S.rf⟩
  have hl := lv_entry [.ref (ga G 57), .int x1] (n := 5) (Nat.le_of_ble_eq_true rfl)
  rw [lg_entry_eq]
  generalize (lg_sl [.ref (ga G 57), .int x1] ++ List.replicate (5 - (lg_sl [.ref (ga G 57), .int x1]).length) Slot.unset).toArray = ls at hl ⊢
  have hl : lv_has ls 5 [(0, .ref (ga G 57)), (1, .int x1)] := hl
  have hx := C.1.1
  have hb := C.1.2.1
  show W p l e (rmk 6) s m _ below meth c s.heap [] 0 0 _ _
  unfold q_X6_fastest at h
  refine lv_iload_n hx hb dX6_fastest_0 rfl (lv_at hl 1 rfl) ?_
  refine lv_i2l hx hb dX6_fastest_1 rfl ?_
  refine lv_lconst (v := 0) hx hb dX6_fastest_2 (by decide) ?_
  refine lv_ldc2 hx hb C.1.2.2.2.1 (C.ws kw_23_17) dX6_fastest_3 ?_
  refine end_i w (run_S (As := [.long x1.toInt64, .long (0 : Int64), .long (400 : Int64)]) C w hl.1 (c_X6_isIn l G C.2.2.1 _ _ x1.toInt64 (0 : Int64) (400 : Int64)  _ h) kw_12_5 kw_1_5 kw_12_3 kw_12_4 hd_X6_isIn ⟨by decide, by decide⟩ rfl (Nat.le_of_ble_eq_true rfl) dX6_fastest_6) (fun r7 M8 H locs h w => ?_)
  refine lv_if_ne (tgt := 14) hx hb dX6_fastest_9 (by decide) (fun c9 => ?_) (fun c9 => ?_)
  · replace h := h.2 c9
    refine lv_aload_n hx hb dX6_fastest_14 rfl (lv_at hl 0 rfl) ?_
    refine end_i w (run_V (As := []) C w hl.1 (c_X6_isLine l G C.2.2.1 _ _   _ h) kw_17_11 kw_1_5 kw_17_8 kw_17_9 kw_17_10 hd_X6_isLine ⟨by decide, by decide⟩ (w.recv C (i := 57) (by decide) (pE_6) rfl) rfl (Nat.le_of_ble_eq_true rfl) dX6_fastest_15) (fun r10 M11 H locs h w => ?_)
    refine lv_if_ne (tgt := 24) hx hb dX6_fastest_18 (by decide) (fun c12 => ?_) (fun c12 => ?_)
    · replace h := h.2 c12
      refine lv_aload_n hx hb dX6_fastest_24 rfl (lv_at hl 0 rfl) ?_
      refine gt_6_0 C w kw_5_0 dX6_fastest_25 ?_
      refine lv_bipush (v := 7) hx hb dX6_fastest_28 (by decide) ?_
      refine pw_ld C w (i := 58) (by decide) pE_58 (vl (x := (7 : Int32)) (by decide)) (k := 7) (by decide) dX6_fastest_30 ?_
      refine lv_istore_n (lv' := [(2, .int (M11 58 7)), (0, .ref (ga G 57)), (1, .int x1)]) hx hb dX6_fastest_31 rfl hl (by decide) rfl (fun ls hl => ?_)
      refine lv_bipush (v := -4) hx hb dX6_fastest_32 (by decide) ?_
      refine lv_istore_n (lv' := [(3, .int (-4 : Int32)), (2, .int (M11 58 7)), (0, .ref (ga G 57)), (1, .int x1)]) hx hb dX6_fastest_34 rfl hl (by decide) rfl (fun ls hl => ?_)
      refine lv_iconst (v := 0) hx hb dX6_fastest_35 (by decide) ?_
      refine lv_istore (lv' := [(4, .int (0 : Int32)), (3, .int (-4 : Int32)), (2, .int (M11 58 7)), (0, .ref (ga G 57)), (1, .int x1)]) hx hb dX6_fastest_36 hl (by decide) rfl (fun ls hl => ?_)
      obtain ⟨n, h⟩ := h
      exact t_X6_fastest_38 C n M11 x1 (M11 58 7) (-4 : Int32) (0 : Int32)  w (lv_sub hl [3, 4, 2, 1, 0] rfl) h
    replace h := h.1 c12
    refine lv_bipush (v := -3) hx hb dX6_fastest_21 (by decide) ?_
    exact ret_i C w h dX6_fastest_23
  replace h := h.1 c9
  refine lv_iconst (v := -1) hx hb dX6_fastest_12 (by decide) ?_
  exact ret_i C w h dX6_fastest_13
def b_X5_longer_36 (k36 : Mem → Int32 → Int32 → Int32 → Prop) (post : Int32 → Mem → Prop) (M : Mem) (x1 : Int32) (x2 : Int32) (x3 : Int32) : Prop := ((99 : Int32) < x3 → (post (-4 : Int32) M)) ∧ (¬ ((99 : Int32) < x3) → (q_X0_greatestPull M  (fun r2 M3 => (x2 < r2 → (vp_in x1 6 ∧ (q_X0_add M3 (38 + x1.toNatClampNeg) (1 : Int32) (fun M7 => k36 M7 x1 x2 (x3 + (1 : Int32)))))) ∧ (¬ (x2 < r2) → (post x3 M3)))))
def lp_X5_longer_36 (post : Int32 → Mem → Prop) : Nat → Mem → Int32 → Int32 → Int32 → Prop
  | 0 => fun _ _ _ _ => False
  | n + 1 => fun M x1 x2 x3 => b_X5_longer_36 (lp_X5_longer_36 post n) post M x1 x2 x3
def j_X5_longer_22 (post : Int32 → Mem → Prop) (M : Mem) : Prop := post (-1 : Int32) M
def q_X5_longer (M : Mem) (x1 : Int32) (x2 : Int32) (post : Int32 → Mem → Prop) : Prop := q_X4_has M 1 x1 (fun r8 M9 => (r8 = 0 → (j_X5_longer_22 post M9)) ∧ (¬ (r8 = 0) → (q_X5_isWithin M9 x2 (0 : Int32) (9999 : Int32) (fun r11 M12 => (r11 = 0 → (j_X5_longer_22 post M12)) ∧ (¬ (r11 = 0) → (q_X5_layLine M12  (fun r14 M15 => (r14 = 0 → (post (-3 : Int32) M15)) ∧ (¬ (r14 = 0) → (∃ n, lp_X5_longer_36 post n M15 x1 x2 (0 : Int32))))))))))
set_option maxHeartbeats 4000000 in
set_option maxRecDepth 100000 in
theorem t_X5_longer_36 (C : Cx G p s m args meth c RX5 cX5_longer 4 (some .int)) {post : Int32 → Mem → Prop} : ∀ (n : Nat) (M : Mem) (x1 : Int32) (x2 : Int32) (x3 : Int32) {H : Heap} {locs : List Loc} {ls : Array Slot} (w : Wd G s M H locs) (hl : lv_has ls 4 [(0, .ref (ga G 0)), (1, .int x1), (2, .int x2), (3, .int x3)]) (h : lp_X5_longer_36 post n M x1 x2 x3), W p l e (rmk 5) s m args below meth c H locs 0 0 (MQ below (va_Qi post (Qw G) (Af G s.heap.size)) args s 0 0 (Af G s.heap.size)) (F0 m 36 ls []) := by
  have hx := C.1.1
  have hb := C.1.2.1
  intro n9
  induction n9 with
  | zero => intro M x1 x2 x3 H locs ls w hl h; exact absurd h id
  | succ n9 ih9 =>
    intro M x1 x2 x3 H locs ls w hl h
    have hk36 : ∀ (M : Mem) (x1 : Int32) (x2 : Int32) (x3 : Int32) (H : Heap) (locs : List Loc) (ls : Array Slot), Wd G s M H locs → lv_has ls 4 [(0, .ref (ga G 0)), (1, .int x1), (2, .int x2), (3, .int x3)] → lp_X5_longer_36 post n9 M x1 x2 x3 → W p l e (rmk 5) s m args below meth c H locs 0 0 (MQ below (va_Qi post (Qw G) (Af G s.heap.size)) args s 0 0 (Af G s.heap.size)) (F0 m 36 ls []) := fun M x1 x2 x3 H locs ls w hl h => ih9 M x1 x2 x3 w hl h
    replace h : b_X5_longer_36 (lp_X5_longer_36 post n9) post M x1 x2 x3 := h
    unfold b_X5_longer_36 at h
    refine lv_iload_n hx hb dX5_longer_36 rfl (lv_at hl 3 rfl) ?_
    refine lv_bipush (v := 99) hx hb dX5_longer_37 (by decide) ?_
    refine lv_icmp_gt (tgt := 78) hx hb dX5_longer_39 (by decide) (fun c1 => ?_) (fun c1 => ?_)
    · replace h := h.1 c1
      refine lv_bipush (v := -4) hx hb dX5_longer_78 (by decide) ?_
      exact ret_i C w h dX5_longer_80
    replace h := h.2 c1
    refine lv_aload_n hx hb dX5_longer_42 rfl (lv_at hl 0 rfl) ?_
    refine gt_5_3 C w kw_1_22 dX5_longer_43 ?_
    refine end_i w (run_VN (As := []) C w hl.1 (c_X0_greatestPull l G C.2.2.1 _ _   _ h) kw_22_14 kw_1_21 kn_68 kw_22_12 kw_22_13 hd_X0_greatestPull ⟨by decide, by decide⟩ (w.recv C (i := 4) (by decide) (pE_0) rfl) rfl (Nat.le_of_ble_eq_true rfl) dX5_longer_46) (fun r2 M3 H locs h w => ?_)
    refine lv_iload_n hx hb dX5_longer_49 rfl (lv_at hl 2 rfl) ?_
    refine lv_icmp_gt (tgt := 55) hx hb dX5_longer_50 (by decide) (fun c4 => ?_) (fun c4 => ?_)
    · replace h := h.1 c4
      refine lv_aload_n hx hb dX5_longer_55 rfl (lv_at hl 0 rfl) ?_
      refine gt_5_3 C w kw_1_22 dX5_longer_56 ?_
      refine lv_aload_n hx hb dX5_longer_59 rfl (lv_at hl 0 rfl) ?_
      refine gt_5_0 C w kw_1_16 dX5_longer_60 ?_
      refine gn_4_0 C w ⟨by decide, by decide⟩ kn_13 dX5_longer_63 ?_
      refine lv_iload_n hx hb dX5_longer_66 rfl (lv_at hl 1 rfl) ?_
      have hin5 := h.1
      replace h := h.2
      have hz_hin5 := in_lt hin5
      refine pw_ldP C w (i := 8) ⟨by decide, by decide⟩ hin5 dX5_longer_67 (j := (38 + x1.toNatClampNeg)) (by omega) ?_
      refine lv_iconst (v := 1) hx hb dX5_longer_68 (by decide) ?_
      refine end_v w (run_VN (As := [.ref (ga G (38 + x1.toNatClampNeg)), .int (1 : Int32)]) C w hl.1 (c_X0_add l G C.2.2.1 _ _ (38 + x1.toNatClampNeg) (1 : Int32) (by omega) _ h) kw_16_6 kw_1_21 kn_57 kw_16_4 kw_16_5 hd_X0_add ⟨by decide, by decide⟩ (w.recv C (i := 4) (by decide) (pE_0) rfl) rfl (Nat.le_of_ble_eq_true rfl) dX5_longer_69) (fun M7 H locs h w => ?_)
      refine lv_iinc (v := (x3 + (1 : Int32))) (lv' := [(3, .int (x3 + (1 : Int32))), (0, .ref (ga G 0)), (1, .int x1), (2, .int x2)]) hx hb dX5_longer_72 hl (k := 3) rfl rfl (by decide) rfl (fun ls hl => ?_)
      refine lv_goto (tgt := 36) hx hb dX5_longer_75 (by decide) ?_
      exact hk36 M7 x1 x2 (x3 + (1 : Int32)) _ _ _  w (lv_sub hl [1, 2, 3, 0] rfl) h
    replace h := h.2 c4
    refine lv_iload_n hx hb dX5_longer_53 rfl (lv_at hl 3 rfl) ?_
    exact ret_i C w h dX5_longer_54
set_option maxHeartbeats 4000000 in
set_option maxRecDepth 100000 in
theorem t_X5_longer_22 (C : Cx G p s m args meth c RX5 cX5_longer 4 (some .int)) {post : Int32 → Mem → Prop} (M : Mem) {H : Heap} {locs : List Loc} {ls : Array Slot} (w : Wd G s M H locs) (hl : lv_has ls 4 []) (h : j_X5_longer_22 post M) : W p l e (rmk 5) s m args below meth c H locs 0 0 (MQ below (va_Qi post (Qw G) (Af G s.heap.size)) args s 0 0 (Af G s.heap.size)) (F0 m 22 ls []) := by
  have hx := C.1.1
  have hb := C.1.2.1
  unfold j_X5_longer_22 at h
  refine lv_iconst (v := -1) hx hb dX5_longer_22 (by decide) ?_
  exact ret_i C w h dX5_longer_23
set_option maxHeartbeats 4000000 in
set_option maxRecDepth 100000 in
theorem c_X5_longer (l : Launch) (G : GG) (hG : Ag G) (sz : Nat) (M : Mem) (x1 : Int32) (x2 : Int32) (post : Int32 → Mem → Prop) (h : q_X5_longer M x1 x2 post) : Met l yX5_longer (Cond.code yX5_longer cX5_longer 4 (some .int) :: wsL_law) (rmk 5) (va_Pc [.ref (ga G 0), .int x1, .int x2] (Pw G sz M)) (va_Qi post (Qw G) (Af G sz)) 0 0 (Af G sz) := by
  refine Met.ofW (cc := cX5_longer) (maxL := 4) (ret := (some .int)) (by decide) rfl ?_
  intro p e s m args below meth c s₁ B hml hv
  obtain ⟨rfl, hsz, hE, hP⟩ := hv
  subst hsz
  have C := Cx.of (own := RX5) hG hE rfl hml B
  have w : Wd G s M s.heap [] := ⟨hP, va_S.rf⟩
  have hl := lv_entry [.ref (ga G 0), .int x1, .int x2] (n := 4) (Nat.le_of_ble_eq_true rfl)
  rw [lg_entry_eq]
  generalize (lg_sl [.ref (ga G 0), .int x1, .int x2] ++ List.replicate (4 - (lg_sl [.ref (ga G 0), .int x1, .int x2]).length) Slot.unset).toArray = ls at hl ⊢
  have hl : lv_has ls 4 [(0, .ref (ga G 0)), (1, .int x1), (2, .int x2)] := hl
  have hx := C.1.1
  have hb := C.1.2.1
  show W p l e (rmk 5) s m _ below meth c s.heap [] 0 0 _ _
  unfold q_X5_longer at h
  refine lv_aload_n hx hb dX5_longer_0 rfl (lv_at hl 0 rfl) ?_
  refine gt_5_0 C w kw_1_16 dX5_longer_1 ?_
  refine lv_iload_n hx hb dX5_longer_4 rfl (lv_at hl 1 rfl) ?_
  refine end_i w (run_VN (As := [.int x1]) C w hl.1 (c_X4_has l G C.2.2.1 _ _ 1 x1 ⟨by decide, by decide⟩ _ h) kw_13_22 kw_1_15 kn_53 kw_13_20 kw_13_21 hd_X4_has ⟨by decide, by decide⟩ (w.recv C (i := 1) (by decide) (pE_4 ⟨by decide, by decide⟩) rfl) rfl (Nat.le_of_ble_eq_true rfl) dX5_longer_5) (fun r8 M9 H locs h w => ?_)
  refine lv_if_eq (tgt := 22) hx hb dX5_longer_8 (by decide) (fun c10 => ?_) (fun c10 => ?_)
  · replace h := h.1 c10
    exact t_X5_longer_22 C M9   w (lv_sub hl [] rfl) h
  replace h := h.2 c10
  refine lv_iload_n hx hb dX5_longer_11 rfl (lv_at hl 2 rfl) ?_
  refine lv_iconst (v := 0) hx hb dX5_longer_12 (by decide) ?_
  refine lv_sipush (v := 9999) hx hb dX5_longer_13 (by decide) ?_
  refine end_i w (run_S (As := [.int x2, .int (0 : Int32), .int (9999 : Int32)]) C w hl.1 (c_X5_isWithin l G C.2.2.1 _ _ x2 (0 : Int32) (9999 : Int32)  _ h) kw_6_8 kw_1_2 kw_6_6 kw_6_7 hd_X5_isWithin ⟨by decide, by decide⟩ rfl (Nat.le_of_ble_eq_true rfl) dX5_longer_16) (fun r11 M12 H locs h w => ?_)
  refine lv_if_ne (tgt := 24) hx hb dX5_longer_19 (by decide) (fun c13 => ?_) (fun c13 => ?_)
  · replace h := h.2 c13
    refine lv_aload_n hx hb dX5_longer_24 rfl (lv_at hl 0 rfl) ?_
    refine end_i w (run_V (As := []) C w hl.1 (c_X5_layLine l G C.2.2.1 _ _   _ h) kw_15_21 kw_1_2 kw_15_18 kw_15_19 kw_15_20 hd_X5_layLine ⟨by decide, by decide⟩ (w.recv C (i := 0) (by decide) (pE_5) rfl) rfl (Nat.le_of_ble_eq_true rfl) dX5_longer_25) (fun r14 M15 H locs h w => ?_)
    refine lv_if_ne (tgt := 34) hx hb dX5_longer_28 (by decide) (fun c16 => ?_) (fun c16 => ?_)
    · replace h := h.2 c16
      refine lv_iconst (v := 0) hx hb dX5_longer_34 (by decide) ?_
      refine lv_istore_n (lv' := [(3, .int (0 : Int32)), (0, .ref (ga G 0)), (1, .int x1), (2, .int x2)]) hx hb dX5_longer_35 rfl hl (by decide) rfl (fun ls hl => ?_)
      obtain ⟨n, h⟩ := h
      exact t_X5_longer_36 C n M15 x1 x2 (0 : Int32)  w (lv_sub hl [1, 2, 3, 0] rfl) h
    replace h := h.1 c16
    refine lv_bipush (v := -3) hx hb dX5_longer_31 (by decide) ?_
    exact ret_i C w h dX5_longer_33
  replace h := h.1 c13
  exact t_X5_longer_22 C M12   w (lv_sub hl [] rfl) h
def j_X6_longer_94 (post : Int32 → Mem → Prop) (M : Mem) (x1 : Int32) (x3 : Int32) (x4 : Int32) : Prop := q_X6_puts M x1 (2 : Int32) x3 (fun M2 => post x4 M2)
def j_X6_longer_88 (k46 : Mem → Int32 → Int32 → Int32 → Int32 → Int32 → Prop) (post : Int32 → Mem → Prop) (M : Mem) (x1 : Int32) (x2 : Int32) (x3 : Int32) (x4 : Int32) (x5 : Int32) : Prop := k46 M x1 x2 x3 x4 (x5 + (1 : Int32))
def b_X6_longer_46 (k46 : Mem → Int32 → Int32 → Int32 → Int32 → Int32 → Prop) (post : Int32 → Mem → Prop) (M : Mem) (x1 : Int32) (x2 : Int32) (x3 : Int32) (x4 : Int32) (x5 : Int32) : Prop := ((100 : Int32) ≤ x5 → (j_X6_longer_94 post M x1 x3 x4)) ∧ (¬ ((100 : Int32) ≤ x5) → ((0 ≤ x4 → (j_X6_longer_94 post M x1 x3 x4)) ∧ (¬ (0 ≤ x4) → (q_X6_puts M x1 (2 : Int32) (x3 + x5) (fun M6 => q_X6_allPieces M6  (fun r7 M8 => q_X6_sumsUp M8 r7 (fun M10 => q_X6_greatestOf M10  (fun r11 M12 => (x2 < r11 → (j_X6_longer_88 k46 post M12 x1 x2 x3 x4 x5)) ∧ (¬ (x2 < r11) → (j_X6_longer_88 k46 post M12 x1 x2 x3 x5 x5))))))))))
def lp_X6_longer_46 (post : Int32 → Mem → Prop) : Nat → Mem → Int32 → Int32 → Int32 → Int32 → Int32 → Prop
  | 0 => fun _ _ _ _ _ _ => False
  | n + 1 => fun M x1 x2 x3 x4 x5 => b_X6_longer_46 (lp_X6_longer_46 post n) post M x1 x2 x3 x4 x5
def j_X6_longer_20 (post : Int32 → Mem → Prop) (M : Mem) : Prop := post (-1 : Int32) M
def q_X6_longer (M : Mem) (x1 : Int32) (x2 : Int32) (post : Int32 → Mem → Prop) : Prop := q_X6_isPiece M x1 (fun r14 M15 => (r14 = 0 → (j_X6_longer_20 post M15)) ∧ (¬ (r14 = 0) → (q_X6_isIn M15 x2.toInt64 (0 : Int64) (9999 : Int64) (fun r17 M18 => (r17 = 0 → (j_X6_longer_20 post M18)) ∧ (¬ (r17 = 0) → (q_X6_isLine M18  (fun r20 M21 => (r20 = 0 → (post (-3 : Int32) M21)) ∧ (¬ (r20 = 0) → (q_X6_get M21 x1 (2 : Int32) (fun r23 M24 => ∃ n, lp_X6_longer_46 post n M24 x1 x2 r23 (-4 : Int32) (0 : Int32)))))))))))
set_option maxHeartbeats 4000000 in
set_option maxRecDepth 100000 in
theorem t_X6_longer_94 (C : Cx G p s m args meth c RX6 cX6_longer 6 (some .int)) {post : Int32 → Mem → Prop} (M : Mem) (x1 : Int32) (x3 : Int32) (x4 : Int32) {H : Heap} {locs : List Loc} {ls : Array Slot} (w : Wd G s M H locs) (hl : lv_has ls 6 [(0, .ref (ga G 57)), (1, .int x1), (3, .int x3), (4, .int x4)]) (h : j_X6_longer_94 post M x1 x3 x4) : W p l e (rmk 5) s m args below meth c H locs 0 0 (MQ below (va_Qi post (Qw G) (Af G s.heap.size)) args s 0 0 (Af G s.heap.size)) (F0 m 94 ls []) := by
  have hx := C.1.1
  have hb := C.1.2.1
  unfold j_X6_longer_94 at h
  refine lv_aload_n hx hb dX6_longer_94 rfl (lv_at hl 0 rfl) ?_
  refine lv_iload_n hx hb dX6_longer_95 rfl (lv_at hl 1 rfl) ?_
  refine lv_iconst (v := 2) hx hb dX6_longer_96 (by decide) ?_
  refine lv_iload_n hx hb dX6_longer_97 rfl (lv_at hl 2 rfl) ?_
  refine end_v w (run_V (As := [.int x1, .int (2 : Int32), .int x3]) C w hl.1 (c_X6_puts l G C.2.2.1 _ _ x1 (2 : Int32) x3  _ h) kw_22_7 kw_1_5 kw_22_4 kw_22_5 kw_22_6 hd_X6_puts ⟨by decide, by decide⟩ (w.recv C (i := 57) (by decide) (pE_6) rfl) rfl (Nat.le_of_ble_eq_true rfl) dX6_longer_98) (fun M2 H locs h w => ?_)
  refine lv_iload hx hb dX6_longer_101 (lv_at hl 3 rfl) ?_
  exact ret_i C w h dX6_longer_103
set_option maxHeartbeats 4000000 in
set_option maxRecDepth 100000 in
theorem t_X6_longer_88 (C : Cx G p s m args meth c RX6 cX6_longer 6 (some .int)) {post : Int32 → Mem → Prop} {k46 : Mem → Int32 → Int32 → Int32 → Int32 → Int32 → Prop} (hk46 : ∀ (M : Mem) (x1 : Int32) (x2 : Int32) (x3 : Int32) (x4 : Int32) (x5 : Int32) (H : Heap) (locs : List Loc) (ls : Array Slot), Wd G s M H locs → lv_has ls 6 [(0, .ref (ga G 57)), (1, .int x1), (2, .int x2), (3, .int x3), (4, .int x4), (5, .int x5)] → k46 M x1 x2 x3 x4 x5 → W p l e (rmk 5) s m args below meth c H locs 0 0 (MQ below (va_Qi post (Qw G) (Af G s.heap.size)) args s 0 0 (Af G s.heap.size)) (F0 m 46 ls [])) (M : Mem) (x1 : Int32) (x2 : Int32) (x3 : Int32) (x4 : Int32) (x5 : Int32) {H : Heap} {locs : List Loc} {ls : Array Slot} (w : Wd G s M H locs) (hl : lv_has ls 6 [(0, .ref (ga G 57)), (1, .int x1), (2, .int x2), (3, .int x3), (4, .int x4), (5, .int x5)]) (h : j_X6_longer_88 k46 post M x1 x2 x3 x4 x5) : W p l e (rmk 5) s m args below meth c H locs 0 0 (MQ below (va_Qi post (Qw G) (Af G s.heap.size)) args s 0 0 (Af G s.heap.size)) (F0 m 88 ls []) := by
  have hx := C.1.1
  have hb := C.1.2.1
  unfold j_X6_longer_88 at h
  refine lv_iinc (v := (x5 + (1 : Int32))) (lv' := [(5, .int (x5 + (1 : Int32))), (0, .ref (ga G 57)), (1, .int x1), (2, .int x2), (3, .int x3), (4, .int x4)]) hx hb dX6_longer_88 hl (k := 5) rfl rfl (by decide) rfl (fun ls hl => ?_)
  refine lv_goto (tgt := 46) hx hb dX6_longer_91 (by decide) ?_
  exact hk46 M x1 x2 x3 x4 (x5 + (1 : Int32)) _ _ _  w (lv_sub hl [1, 2, 3, 4, 5, 0] rfl) h
set_option maxHeartbeats 4000000 in
set_option maxRecDepth 100000 in
theorem t_X6_longer_46 (C : Cx G p s m args meth c RX6 cX6_longer 6 (some .int)) {post : Int32 → Mem → Prop} : ∀ (n : Nat) (M : Mem) (x1 : Int32) (x2 : Int32) (x3 : Int32) (x4 : Int32) (x5 : Int32) {H : Heap} {locs : List Loc} {ls : Array Slot} (w : Wd G s M H locs) (hl : lv_has ls 6 [(0, .ref (ga G 57)), (1, .int x1), (2, .int x2), (3, .int x3), (4, .int x4), (5, .int x5)]) (h : lp_X6_longer_46 post n M x1 x2 x3 x4 x5), W p l e (rmk 5) s m args below meth c H locs 0 0 (MQ below (va_Qi post (Qw G) (Af G s.heap.size)) args s 0 0 (Af G s.heap.size)) (F0 m 46 ls []) := by
  have hx := C.1.1
  have hb := C.1.2.1
  intro n9
  induction n9 with
  | zero => intro M x1 x2 x3 x4 x5 H locs ls w hl h; exact absurd h id
  | succ n9 ih9 =>
    intro M x1 x2 x3 x4 x5 H locs ls w hl h
    have hk46 : ∀ (M : Mem) (x1 : Int32) (x2 : Int32) (x3 : Int32) (x4 : Int32) (x5 : Int32) (H : Heap) (locs : List Loc) (ls : Array Slot), Wd G s M H locs → lv_has ls 6 [(0, .ref (ga G 57)), (1, .int x1), (2, .int x2), (3, .int x3), (4, .int x4), (5, .int x5)] → lp_X6_longer_46 post n9 M x1 x2 x3 x4 x5 → W p l e (rmk 5) s m args below meth c H locs 0 0 (MQ below (va_Qi post (Qw G) (Af G s.heap.size)) args s 0 0 (Af G s.heap.size)) (F0 m 46 ls []) := fun M x1 x2 x3 x4 x5 H locs ls w hl h => ih9 M x1 x2 x3 x4 x5 w hl h
    replace h : b_X6_longer_46 (lp_X6_longer_46 post n9) post M x1 x2 x3 x4 x5 := h
    unfold b_X6_longer_46 at h
    refine lv_iload hx hb dX6_longer_46 (lv_at hl 5 rfl) ?_
    refine lv_bipush (v := 100) hx hb dX6_longer_48 (by decide) ?_
    refine lv_icmp_ge (tgt := 94) hx hb dX6_longer_50 (by decide) (fun c3 => ?_) (fun c3 => ?_)
    · replace h := h.1 c3
      exact t_X6_longer_94 C M x1 x3 x4  w (lv_sub hl [0, 1, 3, 4] rfl) h
    replace h := h.2 c3
    refine lv_iload hx hb dX6_longer_53 (lv_at hl 4 rfl) ?_
    refine lv_if_ge (tgt := 94) hx hb dX6_longer_55 (by decide) (fun c4 => ?_) (fun c4 => ?_)
    · replace h := h.1 c4
      exact t_X6_longer_94 C M x1 x3 x4  w (lv_sub hl [0, 1, 3, 4] rfl) h
    replace h := h.2 c4
    refine lv_aload_n hx hb dX6_longer_58 rfl (lv_at hl 0 rfl) ?_
    refine lv_iload_n hx hb dX6_longer_59 rfl (lv_at hl 1 rfl) ?_
    refine lv_iconst (v := 2) hx hb dX6_longer_60 (by decide) ?_
    refine lv_iload_n hx hb dX6_longer_61 rfl (lv_at hl 3 rfl) ?_
    refine lv_iload hx hb dX6_longer_62 (lv_at hl 5 rfl) ?_
    refine lv_iadd hx hb dX6_longer_64 ?_
    refine end_v w (run_V (As := [.int x1, .int (2 : Int32), .int (x3 + x5)]) C w hl.1 (c_X6_puts l G C.2.2.1 _ _ x1 (2 : Int32) (x3 + x5)  _ h) kw_22_7 kw_1_5 kw_22_4 kw_22_5 kw_22_6 hd_X6_puts ⟨by decide, by decide⟩ (w.recv C (i := 57) (by decide) (pE_6) rfl) rfl (Nat.le_of_ble_eq_true rfl) dX6_longer_65) (fun M6 H locs h w => ?_)
    refine lv_aload_n hx hb dX6_longer_68 rfl (lv_at hl 0 rfl) ?_
    refine lv_aload_n hx hb dX6_longer_69 rfl (lv_at hl 0 rfl) ?_
    refine end_i w (run_V (As := []) C w hl.1 (c_X6_allPieces l G C.2.2.1 _ _   _ h) kw_17_15 kw_1_5 kw_17_12 kw_17_13 kw_17_14 hd_X6_allPieces ⟨by decide, by decide⟩ (w.recv C (i := 57) (by decide) (pE_6) rfl) rfl (Nat.le_of_ble_eq_true rfl) dX6_longer_70) (fun r7 M8 H locs h w => ?_)
    refine end_v w (run_V (As := [.int r7]) C w hl.1 (c_X6_sumsUp l G C.2.2.1 _ _ r7  _ h) kw_17_19 kw_1_5 kw_17_16 kw_17_17 kw_17_18 hd_X6_sumsUp ⟨by decide, by decide⟩ (w.recv C (i := 57) (by decide) (pE_6) rfl) rfl (Nat.le_of_ble_eq_true rfl) dX6_longer_73) (fun M10 H locs h w => ?_)
    refine lv_aload_n hx hb dX6_longer_76 rfl (lv_at hl 0 rfl) ?_
    refine end_i w (run_V (As := []) C w hl.1 (c_X6_greatestOf l G C.2.2.1 _ _   _ h) kw_23_4 kw_1_5 kw_23_1 kw_23_2 kw_23_3 hd_X6_greatestOf ⟨by decide, by decide⟩ (w.recv C (i := 57) (by decide) (pE_6) rfl) rfl (Nat.le_of_ble_eq_true rfl) dX6_longer_77) (fun r11 M12 H locs h w => ?_)
    refine lv_iload_n hx hb dX6_longer_80 rfl (lv_at hl 2 rfl) ?_
    refine lv_icmp_gt (tgt := 88) hx hb dX6_longer_81 (by decide) (fun c13 => ?_) (fun c13 => ?_)
    · replace h := h.1 c13
      exact t_X6_longer_88 C hk46 M12 x1 x2 x3 x4 x5  w (lv_sub hl [0, 1, 2, 3, 4, 5] rfl) h
    replace h := h.2 c13
    refine lv_iload hx hb dX6_longer_84 (lv_at hl 5 rfl) ?_
    refine lv_istore (lv' := [(4, .int x5), (0, .ref (ga G 57)), (1, .int x1), (2, .int x2), (3, .int x3), (5, .int x5)]) hx hb dX6_longer_86 hl (by decide) rfl (fun ls hl => ?_)
    exact t_X6_longer_88 C hk46 M12 x1 x2 x3 x5 x5  w (lv_sub hl [1, 2, 3, 4, 0, 5] rfl) h
set_option maxHeartbeats 4000000 in
set_option maxRecDepth 100000 in
theorem t_X6_longer_20 (C : Cx G p s m args meth c RX6 cX6_longer 6 (some .int)) {post : Int32 → Mem → Prop} (M : Mem) {H : Heap} {locs : List Loc} {ls : Array Slot} (w : Wd G s M H locs) (hl : lv_has ls 6 []) (h : j_X6_longer_20 post M) : W p l e (rmk 5) s m args below meth c H locs 0 0 (MQ below (va_Qi post (Qw G) (Af G s.heap.size)) args s 0 0 (Af G s.heap.size)) (F0 m 20 ls []) := by
  have hx := C.1.1
  have hb := C.1.2.1
  unfold j_X6_longer_20 at h
  refine lv_iconst (v := -1) hx hb dX6_longer_20 (by decide) ?_
  exact ret_i C w h dX6_longer_21
set_option maxHeartbeats 4000000 in
set_option maxRecDepth 100000 in
theorem c_X6_longer (l : Launch) (G : GG) (hG : Ag G) (sz : Nat) (M : Mem) (x1 : Int32) (x2 : Int32) (post : Int32 → Mem → Prop) (h : q_X6_longer M x1 x2 post) : Met l yX6_longer (Cond.code yX6_longer cX6_longer 6 (some .int) :: wsL_law) (rmk 5) (va_Pc [.ref (ga G 57), .int x1, .int x2] (Pw G sz M)) (va_Qi post (Qw G) (Af G sz)) 0 0 (Af G sz) := by
  refine Met.ofW (cc := cX6_longer) (maxL := 6) (ret := (some .int)) (by decide) rfl ?_
  intro p e s m args below meth c s₁ B hml hv
  obtain ⟨rfl, hsz, hE, hP⟩ := hv
  subst hsz
  have C := Cx.of (own := RX6) hG hE rfl hml B
  have w : Wd G s M s.heap [] := ⟨hP, va_S.rf⟩
  have hl := lv_entry [.ref (ga G 57), .int x1, .int x2] (n := 6) (Nat.le_of_ble_eq_true rfl)
  rw [lg_entry_eq]
  generalize (lg_sl [.ref (ga G 57), .int x1, .int x2] ++ List.replicate (6 - (lg_sl [.ref (ga G 57), .int x1, .int x2]).length) Slot.unset).toArray = ls at hl ⊢
  have hl : lv_has ls 6 [(0, .ref (ga G 57)), (1, .int x1), (2, .int x2)] := hl
  have hx := C.1.1
  have hb := C.1.2.1
  show W p l e (rmk 5) s m _ below meth c s.heap [] 0 0 _ _
  unfold q_X6_longer at h
  refine lv_aload_n hx hb dX6_longer_0 rfl (lv_at hl 0 rfl) ?_
  refine lv_iload_n hx hb dX6_longer_1 rfl (lv_at hl 1 rfl) ?_
  refine end_i w (run_V (As := [.int x1]) C w hl.1 (c_X6_isPiece l G C.2.2.1 _ _ x1  _ h) kw_14_6 kw_1_5 kw_14_3 kw_14_4 kw_14_5 hd_X6_isPiece ⟨by decide, by decide⟩ (w.recv C (i := 57) (by decide) (pE_6) rfl) rfl (Nat.le_of_ble_eq_true rfl) dX6_longer_2) (fun r14 M15 H locs h w => ?_)
  refine lv_if_eq (tgt := 20) hx hb dX6_longer_5 (by decide) (fun c16 => ?_) (fun c16 => ?_)
  · replace h := h.1 c16
    exact t_X6_longer_20 C M15   w (lv_sub hl [] rfl) h
  replace h := h.2 c16
  refine lv_iload_n hx hb dX6_longer_8 rfl (lv_at hl 2 rfl) ?_
  refine lv_i2l hx hb dX6_longer_9 rfl ?_
  refine lv_lconst (v := 0) hx hb dX6_longer_10 (by decide) ?_
  refine lv_ldc2 hx hb C.1.2.2.2.1 (C.ws kw_19_2) dX6_longer_11 ?_
  refine end_i w (run_S (As := [.long x2.toInt64, .long (0 : Int64), .long (9999 : Int64)]) C w hl.1 (c_X6_isIn l G C.2.2.1 _ _ x2.toInt64 (0 : Int64) (9999 : Int64)  _ h) kw_12_5 kw_1_5 kw_12_3 kw_12_4 hd_X6_isIn ⟨by decide, by decide⟩ rfl (Nat.le_of_ble_eq_true rfl) dX6_longer_14) (fun r17 M18 H locs h w => ?_)
  refine lv_if_ne (tgt := 22) hx hb dX6_longer_17 (by decide) (fun c19 => ?_) (fun c19 => ?_)
  · replace h := h.2 c19
    refine lv_aload_n hx hb dX6_longer_22 rfl (lv_at hl 0 rfl) ?_
    refine end_i w (run_V (As := []) C w hl.1 (c_X6_isLine l G C.2.2.1 _ _   _ h) kw_17_11 kw_1_5 kw_17_8 kw_17_9 kw_17_10 hd_X6_isLine ⟨by decide, by decide⟩ (w.recv C (i := 57) (by decide) (pE_6) rfl) rfl (Nat.le_of_ble_eq_true rfl) dX6_longer_23) (fun r20 M21 H locs h w => ?_)
    refine lv_if_ne (tgt := 32) hx hb dX6_longer_26 (by decide) (fun c22 => ?_) (fun c22 => ?_)
    · replace h := h.2 c22
      refine lv_aload_n hx hb dX6_longer_32 rfl (lv_at hl 0 rfl) ?_
      refine lv_iload_n hx hb dX6_longer_33 rfl (lv_at hl 1 rfl) ?_
      refine lv_iconst (v := 2) hx hb dX6_longer_34 (by decide) ?_
      refine end_i w (run_V (As := [.int x1, .int (2 : Int32)]) C w hl.1 (c_X6_get l G C.2.2.1 _ _ x1 (2 : Int32)  _ h) kw_14_10 kw_1_5 kw_14_7 kw_14_8 kw_14_9 hd_X6_get ⟨by decide, by decide⟩ (w.recv C (i := 57) (by decide) (pE_6) rfl) rfl (Nat.le_of_ble_eq_true rfl) dX6_longer_35) (fun r23 M24 H locs h w => ?_)
      refine lv_istore_n (lv' := [(3, .int r23), (0, .ref (ga G 57)), (1, .int x1), (2, .int x2)]) hx hb dX6_longer_38 rfl hl (by decide) rfl (fun ls hl => ?_)
      refine lv_bipush (v := -4) hx hb dX6_longer_39 (by decide) ?_
      refine lv_istore (lv' := [(4, .int (-4 : Int32)), (3, .int r23), (0, .ref (ga G 57)), (1, .int x1), (2, .int x2)]) hx hb dX6_longer_41 hl (by decide) rfl (fun ls hl => ?_)
      refine lv_iconst (v := 0) hx hb dX6_longer_43 (by decide) ?_
      refine lv_istore (lv' := [(5, .int (0 : Int32)), (4, .int (-4 : Int32)), (3, .int r23), (0, .ref (ga G 57)), (1, .int x1), (2, .int x2)]) hx hb dX6_longer_44 hl (by decide) rfl (fun ls hl => ?_)
      obtain ⟨n, h⟩ := h
      exact t_X6_longer_46 C n M24 x1 x2 r23 (-4 : Int32) (0 : Int32)  w (lv_sub hl [3, 4, 5, 2, 1, 0] rfl) h
    replace h := h.1 c22
    refine lv_bipush (v := -3) hx hb dX6_longer_29 (by decide) ?_
    exact ret_i C w h dX6_longer_31
  replace h := h.1 c19
  exact t_X6_longer_20 C M18   w (lv_sub hl [] rfl) h
end WALK
