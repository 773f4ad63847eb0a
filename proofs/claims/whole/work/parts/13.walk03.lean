theorem dX5_set_0 : decode cX5_set 0 = .ok (.iload_n 1, 1) := by decide +kernel
theorem dX5_set_1 : decode cX5_set 1 = .ok (.iload_n 2, 1) := by decide +kernel
theorem dX5_set_2 : decode cX5_set 2 = .ok (.invokestatic 102, 3) := by decide +kernel
theorem dX5_set_5 : decode cX5_set 5 = .ok (.ifCond .ne 5, 3) := by decide +kernel
theorem dX5_set_8 : decode cX5_set 8 = .ok (.iconst (-1), 1) := by decide +kernel
theorem dX5_set_9 : decode cX5_set 9 = .ok (.ireturn, 1) := by decide +kernel
theorem dX5_set_10 : decode cX5_set 10 = .ok (.aload_n 0, 1) := by decide +kernel
theorem dX5_set_11 : decode cX5_set 11 = .ok (.getfield 10, 3) := by decide +kernel
theorem dX5_set_14 : decode cX5_set 14 = .ok (.getfield 106, 3) := by decide +kernel
theorem dX5_set_17 : decode cX5_set 17 = .ok (.iload_n 1, 1) := by decide +kernel
theorem dX5_set_18 : decode cX5_set 18 = .ok (.iaload, 1) := by decide +kernel
theorem dX5_set_19 : decode cX5_set 19 = .ok (.istore_n 3, 1) := by decide +kernel
theorem dX5_set_20 : decode cX5_set 20 = .ok (.aload_n 0, 1) := by decide +kernel
theorem dX5_set_21 : decode cX5_set 21 = .ok (.getfield 10, 3) := by decide +kernel
theorem dX5_set_24 : decode cX5_set 24 = .ok (.getfield 106, 3) := by decide +kernel
theorem dX5_set_27 : decode cX5_set 27 = .ok (.iload_n 1, 1) := by decide +kernel
theorem dX5_set_28 : decode cX5_set 28 = .ok (.iload_n 2, 1) := by decide +kernel
theorem dX5_set_29 : decode cX5_set 29 = .ok (.iastore, 1) := by decide +kernel
theorem dX5_set_30 : decode cX5_set 30 = .ok (.iload_n 3, 1) := by decide +kernel
theorem dX5_set_31 : decode cX5_set 31 = .ok (.ireturn, 1) := by decide +kernel
theorem dX6_leastOf_0 : decode cX6_leastOf 0 = .ok (.iload_n 0, 1) := by decide +kernel
theorem dX6_leastOf_1 : decode cX6_leastOf 1 = .ok (.iconst 1, 1) := by decide +kernel
theorem dX6_leastOf_2 : decode cX6_leastOf 2 = .ok (.if_icmp .ne 7, 3) := by decide +kernel
theorem dX6_leastOf_5 : decode cX6_leastOf 5 = .ok (.iconst 4, 1) := by decide +kernel
theorem dX6_leastOf_6 : decode cX6_leastOf 6 = .ok (.goto 13, 3) := by decide +kernel
theorem dX6_leastOf_9 : decode cX6_leastOf 9 = .ok (.iload_n 0, 1) := by decide +kernel
theorem dX6_leastOf_10 : decode cX6_leastOf 10 = .ok (.iconst 3, 1) := by decide +kernel
theorem dX6_leastOf_11 : decode cX6_leastOf 11 = .ok (.if_icmp .ne 7, 3) := by decide +kernel
theorem dX6_leastOf_14 : decode cX6_leastOf 14 = .ok (.iconst 1, 1) := by decide +kernel
theorem dX6_leastOf_15 : decode cX6_leastOf 15 = .ok (.goto 4, 3) := by decide +kernel
theorem dX6_leastOf_18 : decode cX6_leastOf 18 = .ok (.iconst 0, 1) := by decide +kernel
theorem dX6_leastOf_19 : decode cX6_leastOf 19 = .ok (.ireturn, 1) := by decide +kernel
theorem dX6_mostOf_0 : decode cX6_mostOf 0 = .ok (.iload_n 0, 1) := by decide +kernel
theorem dX6_mostOf_1 : decode cX6_mostOf 1 = .ok (.ifCond .ne 8, 3) := by decide +kernel
theorem dX6_mostOf_4 : decode cX6_mostOf 4 = .ok (.bipush 60, 2) := by decide +kernel
theorem dX6_mostOf_6 : decode cX6_mostOf 6 = .ok (.goto 26, 3) := by decide +kernel
theorem dX6_mostOf_9 : decode cX6_mostOf 9 = .ok (.iload_n 0, 1) := by decide +kernel
theorem dX6_mostOf_10 : decode cX6_mostOf 10 = .ok (.iconst 1, 1) := by decide +kernel
theorem dX6_mostOf_11 : decode cX6_mostOf 11 = .ok (.if_icmp .ne 8, 3) := by decide +kernel
theorem dX6_mostOf_14 : decode cX6_mostOf 14 = .ok (.bipush 40, 2) := by decide +kernel
theorem dX6_mostOf_16 : decode cX6_mostOf 16 = .ok (.goto 16, 3) := by decide +kernel
theorem dX6_mostOf_19 : decode cX6_mostOf 19 = .ok (.iload_n 0, 1) := by decide +kernel
theorem dX6_mostOf_20 : decode cX6_mostOf 20 = .ok (.iconst 3, 1) := by decide +kernel
theorem dX6_mostOf_21 : decode cX6_mostOf 21 = .ok (.if_icmp .ne 9, 3) := by decide +kernel
theorem dX6_mostOf_24 : decode cX6_mostOf 24 = .ok (.sipush 999, 3) := by decide +kernel
theorem dX6_mostOf_27 : decode cX6_mostOf 27 = .ok (.goto 5, 3) := by decide +kernel
theorem dX6_mostOf_30 : decode cX6_mostOf 30 = .ok (.bipush 9, 2) := by decide +kernel
theorem dX6_mostOf_32 : decode cX6_mostOf 32 = .ok (.ireturn, 1) := by decide +kernel
theorem dX6_set_0 : decode cX6_set 0 = .ok (.iload_n 1, 1) := by decide +kernel
theorem dX6_set_1 : decode cX6_set 1 = .ok (.i2l, 1) := by decide +kernel
theorem dX6_set_2 : decode cX6_set 2 = .ok (.lconst 0, 1) := by decide +kernel
theorem dX6_set_3 : decode cX6_set 3 = .ok (.ldc2_w 129, 3) := by decide +kernel
theorem dX6_set_6 : decode cX6_set 6 = .ok (.invokestatic 47, 3) := by decide +kernel
theorem dX6_set_9 : decode cX6_set 9 = .ok (.ifCond .eq 21, 3) := by decide +kernel
theorem dX6_set_12 : decode cX6_set 12 = .ok (.iload_n 2, 1) := by decide +kernel
theorem dX6_set_13 : decode cX6_set 13 = .ok (.i2l, 1) := by decide +kernel
theorem dX6_set_14 : decode cX6_set 14 = .ok (.iload_n 1, 1) := by decide +kernel
theorem dX6_set_15 : decode cX6_set 15 = .ok (.invokestatic 131, 3) := by decide +kernel
theorem dX6_set_18 : decode cX6_set 18 = .ok (.i2l, 1) := by decide +kernel
theorem dX6_set_19 : decode cX6_set 19 = .ok (.iload_n 1, 1) := by decide +kernel
theorem dX6_set_20 : decode cX6_set 20 = .ok (.invokestatic 135, 3) := by decide +kernel
theorem dX6_set_23 : decode cX6_set 23 = .ok (.i2l, 1) := by decide +kernel
theorem dX6_set_24 : decode cX6_set 24 = .ok (.invokestatic 47, 3) := by decide +kernel
theorem dX6_set_27 : decode cX6_set 27 = .ok (.ifCond .ne 5, 3) := by decide +kernel
theorem dX6_set_30 : decode cX6_set 30 = .ok (.iconst (-1), 1) := by decide +kernel
theorem dX6_set_31 : decode cX6_set 31 = .ok (.ireturn, 1) := by decide +kernel
theorem dX6_set_32 : decode cX6_set 32 = .ok (.aload_n 0, 1) := by decide +kernel
theorem dX6_set_33 : decode cX6_set 33 = .ok (.getfield 9, 3) := by decide +kernel
theorem dX6_set_36 : decode cX6_set 36 = .ok (.iconst 5, 1) := by decide +kernel
theorem dX6_set_37 : decode cX6_set 37 = .ok (.iload_n 1, 1) := by decide +kernel
theorem dX6_set_38 : decode cX6_set 38 = .ok (.iadd, 1) := by decide +kernel
theorem dX6_set_39 : decode cX6_set 39 = .ok (.iaload, 1) := by decide +kernel
theorem dX6_set_40 : decode cX6_set 40 = .ok (.istore_n 3, 1) := by decide +kernel
theorem dX6_set_41 : decode cX6_set 41 = .ok (.aload_n 0, 1) := by decide +kernel
theorem dX6_set_42 : decode cX6_set 42 = .ok (.getfield 9, 3) := by decide +kernel
theorem dX6_set_45 : decode cX6_set 45 = .ok (.iconst 5, 1) := by decide +kernel
theorem dX6_set_46 : decode cX6_set 46 = .ok (.iload_n 1, 1) := by decide +kernel
theorem dX6_set_47 : decode cX6_set 47 = .ok (.iadd, 1) := by decide +kernel
theorem dX6_set_48 : decode cX6_set 48 = .ok (.iload_n 2, 1) := by decide +kernel
theorem dX6_set_49 : decode cX6_set 49 = .ok (.iastore, 1) := by decide +kernel
theorem dX6_set_50 : decode cX6_set 50 = .ok (.iload_n 3, 1) := by decide +kernel
theorem dX6_set_51 : decode cX6_set 51 = .ok (.ireturn, 1) := by decide +kernel
theorem dX0_base_0 : decode cX0_base 0 = .ok (.iconst 2, 1) := by decide +kernel
theorem dX0_base_1 : decode cX0_base 1 = .ok (.aload_n 0, 1) := by decide +kernel
theorem dX0_base_2 : decode cX0_base 2 = .ok (.getfield 27, 3) := by decide +kernel
theorem dX0_base_5 : decode cX0_base 5 = .ok (.imul, 1) := by decide +kernel
theorem dX0_base_6 : decode cX0_base 6 = .ok (.aload_n 0, 1) := by decide +kernel
theorem dX0_base_7 : decode cX0_base 7 = .ok (.getfield 27, 3) := by decide +kernel
theorem dX0_base_10 : decode cX0_base 10 = .ok (.imul, 1) := by decide +kernel
theorem dX0_base_11 : decode cX0_base 11 = .ok (.aload_n 0, 1) := by decide +kernel
theorem dX0_base_12 : decode cX0_base 12 = .ok (.getfield 15, 3) := by decide +kernel
theorem dX0_base_15 : decode cX0_base 15 = .ok (.bipush 10, 2) := by decide +kernel
theorem dX0_base_17 : decode cX0_base 17 = .ok (.idiv, 1) := by decide +kernel
theorem dX0_base_18 : decode cX0_base 18 = .ok (.iadd, 1) := by decide +kernel
theorem dX0_base_19 : decode cX0_base 19 = .ok (.ireturn, 1) := by decide +kernel
theorem dX0_giveOfAll_0 : decode cX0_giveOfAll 0 = .ok (.iconst 1, 1) := by decide +kernel
theorem dX0_giveOfAll_1 : decode cX0_giveOfAll 1 = .ok (.aload_n 0, 1) := by decide +kernel
theorem dX0_giveOfAll_2 : decode cX0_giveOfAll 2 = .ok (.getfield 18, 3) := by decide +kernel
theorem dX0_giveOfAll_5 : decode cX0_giveOfAll 5 = .ok (.bipush 100, 2) := by decide +kernel
theorem dX0_giveOfAll_7 : decode cX0_giveOfAll 7 = .ok (.idiv, 1) := by decide +kernel
theorem dX0_giveOfAll_8 : decode cX0_giveOfAll 8 = .ok (.invokestatic 42, 3) := by decide +kernel
theorem dX0_giveOfAll_11 : decode cX0_giveOfAll 11 = .ok (.ireturn, 1) := by decide +kernel
theorem dX0_hang_0 : decode cX0_hang 0 = .ok (.aload_n 0, 1) := by decide +kernel
theorem dX0_hang_1 : decode cX0_hang 1 = .ok (.getfield 15, 3) := by decide +kernel
theorem dX0_hang_4 : decode cX0_hang 4 = .ok (.iconst 1, 1) := by decide +kernel
theorem dX0_hang_5 : decode cX0_hang 5 = .ok (.iconst 4, 1) := by decide +kernel
theorem dX0_hang_6 : decode cX0_hang 6 = .ok (.aload_n 0, 1) := by decide +kernel
theorem dX0_hang_7 : decode cX0_hang 7 = .ok (.getfield 27, 3) := by decide +kernel
theorem dX0_hang_10 : decode cX0_hang 10 = .ok (.aload_n 0, 1) := by decide +kernel
theorem dX0_hang_11 : decode cX0_hang 11 = .ok (.getfield 27, 3) := by decide +kernel
theorem dX0_hang_14 : decode cX0_hang 14 = .ok (.imul, 1) := by decide +kernel
theorem dX0_hang_15 : decode cX0_hang 15 = .ok (.iadd, 1) := by decide +kernel
theorem dX0_hang_16 : decode cX0_hang 16 = .ok (.invokestatic 42, 3) := by decide +kernel
theorem dX0_hang_19 : decode cX0_hang 19 = .ok (.idiv, 1) := by decide +kernel
theorem dX0_hang_20 : decode cX0_hang 20 = .ok (.ireturn, 1) := by decide +kernel
theorem dX0_slack_0 : decode cX0_slack 0 = .ok (.aload_n 0, 1) := by decide +kernel
theorem dX0_slack_1 : decode cX0_slack 1 = .ok (.invokevirtual 48, 3) := by decide +kernel
theorem dX0_slack_4 : decode cX0_slack 4 = .ok (.iconst 4, 1) := by decide +kernel
theorem dX0_slack_5 : decode cX0_slack 5 = .ok (.idiv, 1) := by decide +kernel
theorem dX0_slack_6 : decode cX0_slack 6 = .ok (.ireturn, 1) := by decide +kernel
theorem dX0_add_0 : decode cX0_add 0 = .ok (.aload_n 0, 1) := by decide +kernel
theorem dX0_add_1 : decode cX0_add 1 = .ok (.dup, 1) := by decide +kernel
theorem dX0_add_2 : decode cX0_add 2 = .ok (.getfield 9, 3) := by decide +kernel
theorem dX0_add_5 : decode cX0_add 5 = .ok (.iload_n 2, 1) := by decide +kernel
theorem dX0_add_6 : decode cX0_add 6 = .ok (.iadd, 1) := by decide +kernel
theorem dX0_add_7 : decode cX0_add 7 = .ok (.putfield 9, 3) := by decide +kernel
theorem dX0_add_10 : decode cX0_add 10 = .ok (.aload_n 0, 1) := by decide +kernel
theorem dX0_add_11 : decode cX0_add 11 = .ok (.dup, 1) := by decide +kernel
theorem dX0_add_12 : decode cX0_add 12 = .ok (.getfield 15, 3) := by decide +kernel
theorem dX0_add_15 : decode cX0_add 15 = .ok (.iload_n 2, 1) := by decide +kernel
theorem dX0_add_16 : decode cX0_add 16 = .ok (.aload_n 1, 1) := by decide +kernel
theorem dX0_add_17 : decode cX0_add 17 = .ok (.getfield 36, 3) := by decide +kernel
theorem dX0_add_20 : decode cX0_add 20 = .ok (.imul, 1) := by decide +kernel
theorem dX0_add_21 : decode cX0_add 21 = .ok (.iadd, 1) := by decide +kernel
theorem dX0_add_22 : decode cX0_add 22 = .ok (.putfield 15, 3) := by decide +kernel
theorem dX0_add_25 : decode cX0_add 25 = .ok (.aload_n 0, 1) := by decide +kernel
theorem dX0_add_26 : decode cX0_add 26 = .ok (.dup, 1) := by decide +kernel
theorem dX0_add_27 : decode cX0_add 27 = .ok (.getfield 18, 3) := by decide +kernel
theorem dX0_add_30 : decode cX0_add 30 = .ok (.iload_n 2, 1) := by decide +kernel
theorem dX0_add_31 : decode cX0_add 31 = .ok (.aload_n 1, 1) := by decide +kernel
theorem dX0_add_32 : decode cX0_add 32 = .ok (.getfield 39, 3) := by decide +kernel
theorem dX0_add_35 : decode cX0_add 35 = .ok (.imul, 1) := by decide +kernel
theorem dX0_add_36 : decode cX0_add 36 = .ok (.iadd, 1) := by decide +kernel
theorem dX0_add_37 : decode cX0_add 37 = .ok (.putfield 18, 3) := by decide +kernel
theorem dX0_add_40 : decode cX0_add 40 = .ok (.return_, 1) := by decide +kernel
theorem dX0_begin_0 : decode cX0_begin 0 = .ok (.aload_n 0, 1) := by decide +kernel
theorem dX0_begin_1 : decode cX0_begin 1 = .ok (.iconst 0, 1) := by decide +kernel
theorem dX0_begin_2 : decode cX0_begin 2 = .ok (.putfield 9, 3) := by decide +kernel
theorem dX0_begin_5 : decode cX0_begin 5 = .ok (.aload_n 0, 1) := by decide +kernel
theorem dX0_begin_6 : decode cX0_begin 6 = .ok (.iconst 0, 1) := by decide +kernel
theorem dX0_begin_7 : decode cX0_begin 7 = .ok (.putfield 15, 3) := by decide +kernel
theorem dX0_begin_10 : decode cX0_begin 10 = .ok (.aload_n 0, 1) := by decide +kernel
theorem dX0_begin_11 : decode cX0_begin 11 = .ok (.iconst 0, 1) := by decide +kernel
theorem dX0_begin_12 : decode cX0_begin 12 = .ok (.putfield 18, 3) := by decide +kernel
theorem dX0_begin_15 : decode cX0_begin 15 = .ok (.aload_n 0, 1) := by decide +kernel
theorem dX0_begin_16 : decode cX0_begin 16 = .ok (.aload_n 1, 1) := by decide +kernel
theorem dX0_begin_17 : decode cX0_begin 17 = .ok (.getfield 30, 3) := by decide +kernel
theorem dX0_begin_20 : decode cX0_begin 20 = .ok (.iconst 0, 1) := by decide +kernel
theorem dX0_begin_21 : decode cX0_begin 21 = .ok (.iaload, 1) := by decide +kernel
theorem dX0_begin_22 : decode cX0_begin 22 = .ok (.putfield 21, 3) := by decide +kernel
theorem dX0_begin_25 : decode cX0_begin 25 = .ok (.aload_n 0, 1) := by decide +kernel
theorem dX0_begin_26 : decode cX0_begin 26 = .ok (.aload_n 1, 1) := by decide +kernel
theorem dX0_begin_27 : decode cX0_begin 27 = .ok (.getfield 30, 3) := by decide +kernel
theorem dX0_begin_30 : decode cX0_begin 30 = .ok (.iconst 1, 1) := by decide +kernel
theorem dX0_begin_31 : decode cX0_begin 31 = .ok (.iaload, 1) := by decide +kernel
theorem dX0_begin_32 : decode cX0_begin 32 = .ok (.putfield 24, 3) := by decide +kernel
theorem dX0_begin_35 : decode cX0_begin 35 = .ok (.aload_n 0, 1) := by decide +kernel
theorem dX0_begin_36 : decode cX0_begin 36 = .ok (.aload_n 1, 1) := by decide +kernel
theorem dX0_begin_37 : decode cX0_begin 37 = .ok (.getfield 30, 3) := by decide +kernel
theorem dX0_begin_40 : decode cX0_begin 40 = .ok (.iconst 2, 1) := by decide +kernel
theorem dX0_begin_41 : decode cX0_begin 41 = .ok (.iaload, 1) := by decide +kernel
theorem dX0_begin_42 : decode cX0_begin 42 = .ok (.putfield 27, 3) := by decide +kernel
theorem dX0_begin_45 : decode cX0_begin 45 = .ok (.return_, 1) := by decide +kernel
theorem dX4_hasLine_0 : decode cX4_hasLine 0 = .ok (.aload_n 0, 1) := by decide +kernel
theorem dX4_hasLine_1 : decode cX4_hasLine 1 = .ok (.getfield 17, 3) := by decide +kernel
theorem dX4_hasLine_4 : decode cX4_hasLine 4 = .ok (.ifCond .le 16, 3) := by decide +kernel
theorem dX4_hasLine_7 : decode cX4_hasLine 7 = .ok (.aload_n 0, 1) := by decide +kernel
theorem dX4_hasLine_8 : decode cX4_hasLine 8 = .ok (.getfield 45, 3) := by decide +kernel
theorem dX4_hasLine_11 : decode cX4_hasLine 11 = .ok (.bipush (-4), 2) := by decide +kernel
theorem dX4_hasLine_13 : decode cX4_hasLine 13 = .ok (.if_icmp .ne 7, 3) := by decide +kernel
theorem dX4_hasLine_16 : decode cX4_hasLine 16 = .ok (.iconst 1, 1) := by decide +kernel
theorem dX4_hasLine_17 : decode cX4_hasLine 17 = .ok (.goto 4, 3) := by decide +kernel
theorem dX4_hasLine_20 : decode cX4_hasLine 20 = .ok (.iconst 0, 1) := by decide +kernel
theorem dX4_hasLine_21 : decode cX4_hasLine 21 = .ok (.ireturn, 1) := by decide +kernel
theorem dX5_layLine_0 : decode cX5_layLine 0 = .ok (.aload_n 0, 1) := by decide +kernel
theorem dX5_layLine_1 : decode cX5_layLine 1 = .ok (.getfield 10, 3) := by decide +kernel
theorem dX5_layLine_4 : decode cX5_layLine 4 = .ok (.invokevirtual 318, 3) := by decide +kernel
theorem dX5_layLine_7 : decode cX5_layLine 7 = .ok (.ifCond .ne 5, 3) := by decide +kernel
theorem dX5_layLine_10 : decode cX5_layLine 10 = .ok (.iconst 0, 1) := by decide +kernel
theorem dX5_layLine_11 : decode cX5_layLine 11 = .ok (.ireturn, 1) := by decide +kernel
theorem dX5_layLine_12 : decode cX5_layLine 12 = .ok (.aload_n 0, 1) := by decide +kernel
theorem dX5_layLine_13 : decode cX5_layLine 13 = .ok (.getfield 25, 3) := by decide +kernel
theorem dX5_layLine_16 : decode cX5_layLine 16 = .ok (.aload_n 0, 1) := by decide +kernel
theorem dX5_layLine_17 : decode cX5_layLine 17 = .ok (.getfield 10, 3) := by decide +kernel
theorem dX5_layLine_20 : decode cX5_layLine 20 = .ok (.invokevirtual 321, 3) := by decide +kernel
theorem dX5_layLine_23 : decode cX5_layLine 23 = .ok (.iconst 0, 1) := by decide +kernel
theorem dX5_layLine_24 : decode cX5_layLine 24 = .ok (.istore_n 1, 1) := by decide +kernel
theorem dX5_layLine_25 : decode cX5_layLine 25 = .ok (.iload_n 1, 1) := by decide +kernel
theorem dX5_layLine_26 : decode cX5_layLine 26 = .ok (.aload_n 0, 1) := by decide +kernel
theorem dX5_layLine_27 : decode cX5_layLine 27 = .ok (.getfield 10, 3) := by decide +kernel
theorem dX5_layLine_30 : decode cX5_layLine 30 = .ok (.getfield 162, 3) := by decide +kernel
theorem dX5_layLine_33 : decode cX5_layLine 33 = .ok (.if_icmp .ge 37, 3) := by decide +kernel
theorem dX5_layLine_36 : decode cX5_layLine 36 = .ok (.aload_n 0, 1) := by decide +kernel
theorem dX5_layLine_37 : decode cX5_layLine 37 = .ok (.getfield 25, 3) := by decide +kernel
theorem dX5_layLine_40 : decode cX5_layLine 40 = .ok (.aload_n 0, 1) := by decide +kernel
theorem dX5_layLine_41 : decode cX5_layLine 41 = .ok (.getfield 10, 3) := by decide +kernel
theorem dX5_layLine_44 : decode cX5_layLine 44 = .ok (.getfield 70, 3) := by decide +kernel
theorem dX5_layLine_47 : decode cX5_layLine 47 = .ok (.iload_n 1, 1) := by decide +kernel
theorem dX5_layLine_48 : decode cX5_layLine 48 = .ok (.aaload, 1) := by decide +kernel
theorem dX5_layLine_49 : decode cX5_layLine 49 = .ok (.aload_n 0, 1) := by decide +kernel
theorem dX5_layLine_50 : decode cX5_layLine 50 = .ok (.getfield 10, 3) := by decide +kernel
theorem dX5_layLine_53 : decode cX5_layLine 53 = .ok (.getfield 70, 3) := by decide +kernel
theorem dX5_layLine_56 : decode cX5_layLine 56 = .ok (.iload_n 1, 1) := by decide +kernel
theorem dX5_layLine_57 : decode cX5_layLine 57 = .ok (.aaload, 1) := by decide +kernel
theorem dX5_layLine_58 : decode cX5_layLine 58 = .ok (.getfield 78, 3) := by decide +kernel
theorem dX5_layLine_61 : decode cX5_layLine 61 = .ok (.invokevirtual 158, 3) := by decide +kernel
theorem dX5_layLine_64 : decode cX5_layLine 64 = .ok (.iinc 1 1, 3) := by decide +kernel
theorem dX5_layLine_67 : decode cX5_layLine 67 = .ok (.goto (-42), 3) := by decide +kernel
theorem dX5_layLine_70 : decode cX5_layLine 70 = .ok (.iconst 1, 1) := by decide +kernel
theorem dX5_layLine_71 : decode cX5_layLine 71 = .ok (.ireturn, 1) := by decide +kernel
theorem dX5_line_0 : decode cX5_line 0 = .ok (.iload_n 1, 1) := by decide +kernel
theorem dX5_line_1 : decode cX5_line 1 = .ok (.ifCond .lt 8, 3) := by decide +kernel
theorem dX5_line_4 : decode cX5_line 4 = .ok (.iload_n 1, 1) := by decide +kernel
theorem dX5_line_5 : decode cX5_line 5 = .ok (.iconst 5, 1) := by decide +kernel
theorem dX5_line_6 : decode cX5_line 6 = .ok (.if_icmp .le 5, 3) := by decide +kernel
theorem dX5_line_9 : decode cX5_line 9 = .ok (.iconst (-1), 1) := by decide +kernel
theorem dX5_line_10 : decode cX5_line 10 = .ok (.ireturn, 1) := by decide +kernel
theorem dX5_line_11 : decode cX5_line 11 = .ok (.aload_n 0, 1) := by decide +kernel
theorem dX5_line_12 : decode cX5_line 12 = .ok (.invokevirtual 110, 3) := by decide +kernel
theorem dX5_line_15 : decode cX5_line 15 = .ok (.ifCond .ne 6, 3) := by decide +kernel
theorem dX5_line_18 : decode cX5_line 18 = .ok (.bipush (-3), 2) := by decide +kernel
theorem dX5_line_20 : decode cX5_line 20 = .ok (.ireturn, 1) := by decide +kernel
theorem dX5_line_21 : decode cX5_line 21 = .ok (.iload_n 1, 1) := by decide +kernel
theorem dX5_line_22 : decode cX5_line 22 = .ok (.tableswitch 74 0 4 #[34, 42, 50, 58, 66], 34) := by decide +kernel
theorem dX5_line_56 : decode cX5_line 56 = .ok (.aload_n 0, 1) := by decide +kernel
theorem dX5_line_57 : decode cX5_line 57 = .ok (.getfield 25, 3) := by decide +kernel
theorem dX5_line_60 : decode cX5_line 60 = .ok (.getfield 114, 3) := by decide +kernel
theorem dX5_line_63 : decode cX5_line 63 = .ok (.ireturn, 1) := by decide +kernel
theorem dX5_line_64 : decode cX5_line 64 = .ok (.aload_n 0, 1) := by decide +kernel
theorem dX5_line_65 : decode cX5_line 65 = .ok (.getfield 25, 3) := by decide +kernel
theorem dX5_line_68 : decode cX5_line 68 = .ok (.getfield 115, 3) := by decide +kernel
theorem dX5_line_71 : decode cX5_line 71 = .ok (.ireturn, 1) := by decide +kernel
theorem dX5_line_72 : decode cX5_line 72 = .ok (.aload_n 0, 1) := by decide +kernel
theorem dX5_line_73 : decode cX5_line 73 = .ok (.getfield 25, 3) := by decide +kernel
theorem dX5_line_76 : decode cX5_line 76 = .ok (.invokevirtual 116, 3) := by decide +kernel
theorem dX5_line_79 : decode cX5_line 79 = .ok (.ireturn, 1) := by decide +kernel
theorem dX5_line_80 : decode cX5_line 80 = .ok (.aload_n 0, 1) := by decide +kernel
theorem dX5_line_81 : decode cX5_line 81 = .ok (.getfield 25, 3) := by decide +kernel
theorem dX5_line_84 : decode cX5_line 84 = .ok (.invokevirtual 120, 3) := by decide +kernel
theorem dX5_line_87 : decode cX5_line 87 = .ok (.ireturn, 1) := by decide +kernel
theorem dX5_line_88 : decode cX5_line 88 = .ok (.aload_n 0, 1) := by decide +kernel
theorem dX5_line_89 : decode cX5_line 89 = .ok (.getfield 25, 3) := by decide +kernel
theorem dX5_line_92 : decode cX5_line 92 = .ok (.invokevirtual 123, 3) := by decide +kernel
theorem dX5_line_95 : decode cX5_line 95 = .ok (.ireturn, 1) := by decide +kernel
theorem dX5_line_96 : decode cX5_line 96 = .ok (.aload_n 0, 1) := by decide +kernel
theorem dX5_line_97 : decode cX5_line 97 = .ok (.getfield 25, 3) := by decide +kernel
theorem dX5_line_100 : decode cX5_line 100 = .ok (.invokevirtual 126, 3) := by decide +kernel
theorem dX5_line_103 : decode cX5_line 103 = .ok (.ireturn, 1) := by decide +kernel
theorem dX6_allPieces_0 : decode cX6_allPieces 0 = .ok (.iconst 1, 1) := by decide +kernel
theorem dX6_allPieces_1 : decode cX6_allPieces 1 = .ok (.aload_n 0, 1) := by decide +kernel
theorem dX6_allPieces_2 : decode cX6_allPieces 2 = .ok (.getfield 9, 3) := by decide +kernel
theorem dX6_allPieces_5 : decode cX6_allPieces 5 = .ok (.iconst 0, 1) := by decide +kernel
theorem dX6_allPieces_6 : decode cX6_allPieces 6 = .ok (.iaload, 1) := by decide +kernel
theorem dX6_allPieces_7 : decode cX6_allPieces 7 = .ok (.ishl, 1) := by decide +kernel
theorem dX6_allPieces_8 : decode cX6_allPieces 8 = .ok (.iconst 1, 1) := by decide +kernel
theorem dX6_allPieces_9 : decode cX6_allPieces 9 = .ok (.isub, 1) := by decide +kernel
theorem dX6_allPieces_10 : decode cX6_allPieces 10 = .ok (.ireturn, 1) := by decide +kernel
theorem dX6_baseOf_0 : decode cX6_baseOf 0 = .ok (.iconst 2, 1) := by decide +kernel
theorem dX6_baseOf_1 : decode cX6_baseOf 1 = .ok (.aload_n 0, 1) := by decide +kernel
theorem dX6_baseOf_2 : decode cX6_baseOf 2 = .ok (.getfield 9, 3) := by decide +kernel
theorem dX6_baseOf_5 : decode cX6_baseOf 5 = .ok (.bipush 7, 2) := by decide +kernel
theorem dX6_baseOf_7 : decode cX6_baseOf 7 = .ok (.iaload, 1) := by decide +kernel
theorem dX6_baseOf_8 : decode cX6_baseOf 8 = .ok (.imul, 1) := by decide +kernel
theorem dX6_baseOf_9 : decode cX6_baseOf 9 = .ok (.aload_n 0, 1) := by decide +kernel
theorem dX6_baseOf_10 : decode cX6_baseOf 10 = .ok (.getfield 9, 3) := by decide +kernel
theorem dX6_baseOf_13 : decode cX6_baseOf 13 = .ok (.bipush 7, 2) := by decide +kernel
theorem dX6_baseOf_15 : decode cX6_baseOf 15 = .ok (.iaload, 1) := by decide +kernel
theorem dX6_baseOf_16 : decode cX6_baseOf 16 = .ok (.imul, 1) := by decide +kernel
theorem dX6_baseOf_17 : decode cX6_baseOf 17 = .ok (.aload_n 0, 1) := by decide +kernel
theorem dX6_baseOf_18 : decode cX6_baseOf 18 = .ok (.getfield 141, 3) := by decide +kernel
theorem dX6_baseOf_21 : decode cX6_baseOf 21 = .ok (.bipush 10, 2) := by decide +kernel
theorem dX6_baseOf_23 : decode cX6_baseOf 23 = .ok (.idiv, 1) := by decide +kernel
theorem dX6_baseOf_24 : decode cX6_baseOf 24 = .ok (.iadd, 1) := by decide +kernel
theorem dX6_baseOf_25 : decode cX6_baseOf 25 = .ok (.ireturn, 1) := by decide +kernel
theorem dX6_hang_0 : decode cX6_hang 0 = .ok (.aload_n 0, 1) := by decide +kernel
theorem dX6_hang_1 : decode cX6_hang 1 = .ok (.getfield 141, 3) := by decide +kernel
theorem dX6_hang_4 : decode cX6_hang 4 = .ok (.iconst 4, 1) := by decide +kernel
theorem dX6_hang_5 : decode cX6_hang 5 = .ok (.aload_n 0, 1) := by decide +kernel
theorem dX6_hang_6 : decode cX6_hang 6 = .ok (.getfield 9, 3) := by decide +kernel
theorem dX6_hang_9 : decode cX6_hang 9 = .ok (.bipush 7, 2) := by decide +kernel
theorem dX6_hang_11 : decode cX6_hang 11 = .ok (.iaload, 1) := by decide +kernel
theorem dX6_hang_12 : decode cX6_hang 12 = .ok (.aload_n 0, 1) := by decide +kernel
theorem dX6_hang_13 : decode cX6_hang 13 = .ok (.getfield 9, 3) := by decide +kernel
theorem dX6_hang_16 : decode cX6_hang 16 = .ok (.bipush 7, 2) := by decide +kernel
theorem dX6_hang_18 : decode cX6_hang 18 = .ok (.iaload, 1) := by decide +kernel
theorem dX6_hang_19 : decode cX6_hang 19 = .ok (.imul, 1) := by decide +kernel
theorem dX6_hang_20 : decode cX6_hang 20 = .ok (.iadd, 1) := by decide +kernel
theorem dX6_hang_21 : decode cX6_hang 21 = .ok (.idiv, 1) := by decide +kernel
theorem dX6_hang_22 : decode cX6_hang 22 = .ok (.ireturn, 1) := by decide +kernel
theorem dX6_isLine_0 : decode cX6_isLine 0 = .ok (.iconst 0, 1) := by decide +kernel
theorem dX6_isLine_1 : decode cX6_isLine 1 = .ok (.istore_n 1, 1) := by decide +kernel
theorem dX6_isLine_2 : decode cX6_isLine 2 = .ok (.iload_n 1, 1) := by decide +kernel
theorem dX6_isLine_3 : decode cX6_isLine 3 = .ok (.aload_n 0, 1) := by decide +kernel
theorem dX6_isLine_4 : decode cX6_isLine 4 = .ok (.getfield 9, 3) := by decide +kernel
theorem dX6_isLine_7 : decode cX6_isLine 7 = .ok (.iconst 0, 1) := by decide +kernel
theorem dX6_isLine_8 : decode cX6_isLine 8 = .ok (.iaload, 1) := by decide +kernel
theorem dX6_isLine_9 : decode cX6_isLine 9 = .ok (.if_icmp .ge 21, 3) := by decide +kernel
theorem dX6_isLine_12 : decode cX6_isLine 12 = .ok (.aload_n 0, 1) := by decide +kernel
theorem dX6_isLine_13 : decode cX6_isLine 13 = .ok (.iload_n 1, 1) := by decide +kernel
theorem dX6_isLine_14 : decode cX6_isLine 14 = .ok (.iconst 4, 1) := by decide +kernel
theorem dX6_isLine_15 : decode cX6_isLine 15 = .ok (.invokevirtual 111, 3) := by decide +kernel
theorem dX6_isLine_18 : decode cX6_isLine 18 = .ok (.iconst 1, 1) := by decide +kernel
theorem dX6_isLine_19 : decode cX6_isLine 19 = .ok (.if_icmp .ne 5, 3) := by decide +kernel
theorem dX6_isLine_22 : decode cX6_isLine 22 = .ok (.iconst 0, 1) := by decide +kernel
theorem dX6_isLine_23 : decode cX6_isLine 23 = .ok (.ireturn, 1) := by decide +kernel
theorem dX6_isLine_24 : decode cX6_isLine 24 = .ok (.iinc 1 1, 3) := by decide +kernel
theorem dX6_isLine_27 : decode cX6_isLine 27 = .ok (.goto (-25), 3) := by decide +kernel
theorem dX6_isLine_30 : decode cX6_isLine 30 = .ok (.aload_n 0, 1) := by decide +kernel
theorem dX6_isLine_31 : decode cX6_isLine 31 = .ok (.getfield 9, 3) := by decide +kernel
theorem dX6_isLine_34 : decode cX6_isLine 34 = .ok (.iconst 0, 1) := by decide +kernel
theorem dX6_isLine_35 : decode cX6_isLine 35 = .ok (.iaload, 1) := by decide +kernel
theorem dX6_isLine_36 : decode cX6_isLine 36 = .ok (.ifCond .le 7, 3) := by decide +kernel
theorem dX6_isLine_39 : decode cX6_isLine 39 = .ok (.iconst 1, 1) := by decide +kernel
theorem dX6_isLine_40 : decode cX6_isLine 40 = .ok (.goto 4, 3) := by decide +kernel
theorem dX6_isLine_43 : decode cX6_isLine 43 = .ok (.iconst 0, 1) := by decide +kernel
theorem dX6_isLine_44 : decode cX6_isLine 44 = .ok (.ireturn, 1) := by decide +kernel
theorem dX6_rounds_0 : decode cX6_rounds 0 = .ok (.aload_n 0, 1) := by decide +kernel
theorem dX6_rounds_1 : decode cX6_rounds 1 = .ok (.aload_n 0, 1) := by decide +kernel
theorem dX6_rounds_2 : decode cX6_rounds 2 = .ok (.getfield 144, 3) := by decide +kernel
theorem dX6_rounds_5 : decode cX6_rounds 5 = .ok (.bipush 100, 2) := by decide +kernel
theorem dX6_rounds_7 : decode cX6_rounds 7 = .ok (.if_icmp .ge 7, 3) := by decide +kernel
theorem dX6_rounds_10 : decode cX6_rounds 10 = .ok (.iconst 1, 1) := by decide +kernel
theorem dX6_rounds_11 : decode cX6_rounds 11 = .ok (.goto 10, 3) := by decide +kernel
theorem dX6_rounds_14 : decode cX6_rounds 14 = .ok (.aload_n 0, 1) := by decide +kernel
theorem dX6_rounds_15 : decode cX6_rounds 15 = .ok (.getfield 144, 3) := by decide +kernel
theorem dX6_rounds_18 : decode cX6_rounds 18 = .ok (.bipush 100, 2) := by decide +kernel
theorem dX6_rounds_20 : decode cX6_rounds 20 = .ok (.idiv, 1) := by decide +kernel
theorem dX6_rounds_21 : decode cX6_rounds 21 = .ok (.putfield 144, 3) := by decide +kernel
theorem dX6_rounds_24 : decode cX6_rounds 24 = .ok (.return_, 1) := by decide +kernel
theorem dX6_sumsUp_0 : decode cX6_sumsUp 0 = .ok (.aload_n 0, 1) := by decide +kernel
theorem dX6_sumsUp_1 : decode cX6_sumsUp 1 = .ok (.iconst 0, 1) := by decide +kernel
theorem dX6_sumsUp_2 : decode cX6_sumsUp 2 = .ok (.putfield 138, 3) := by decide +kernel
theorem dX6_sumsUp_5 : decode cX6_sumsUp 5 = .ok (.aload_n 0, 1) := by decide +kernel
theorem dX6_sumsUp_6 : decode cX6_sumsUp 6 = .ok (.iconst 0, 1) := by decide +kernel
theorem dX6_sumsUp_7 : decode cX6_sumsUp 7 = .ok (.putfield 141, 3) := by decide +kernel
theorem dX6_sumsUp_10 : decode cX6_sumsUp 10 = .ok (.aload_n 0, 1) := by decide +kernel
theorem dX6_sumsUp_11 : decode cX6_sumsUp 11 = .ok (.iconst 0, 1) := by decide +kernel
theorem dX6_sumsUp_12 : decode cX6_sumsUp 12 = .ok (.putfield 144, 3) := by decide +kernel
theorem dX6_sumsUp_15 : decode cX6_sumsUp 15 = .ok (.iconst 0, 1) := by decide +kernel
theorem dX6_sumsUp_16 : decode cX6_sumsUp 16 = .ok (.istore_n 2, 1) := by decide +kernel
theorem dX6_sumsUp_17 : decode cX6_sumsUp 17 = .ok (.iload_n 2, 1) := by decide +kernel
theorem dX6_sumsUp_18 : decode cX6_sumsUp 18 = .ok (.aload_n 0, 1) := by decide +kernel
theorem dX6_sumsUp_19 : decode cX6_sumsUp 19 = .ok (.getfield 9, 3) := by decide +kernel
theorem dX6_sumsUp_22 : decode cX6_sumsUp 22 = .ok (.iconst 0, 1) := by decide +kernel
theorem dX6_sumsUp_23 : decode cX6_sumsUp 23 = .ok (.iaload, 1) := by decide +kernel
theorem dX6_sumsUp_24 : decode cX6_sumsUp 24 = .ok (.if_icmp .ge 89, 3) := by decide +kernel
theorem dX6_sumsUp_27 : decode cX6_sumsUp 27 = .ok (.iload_n 1, 1) := by decide +kernel
theorem dX6_sumsUp_28 : decode cX6_sumsUp 28 = .ok (.iload_n 2, 1) := by decide +kernel
theorem dX6_sumsUp_29 : decode cX6_sumsUp 29 = .ok (.ishr, 1) := by decide +kernel
theorem dX6_sumsUp_30 : decode cX6_sumsUp 30 = .ok (.iconst 1, 1) := by decide +kernel
theorem dX6_sumsUp_31 : decode cX6_sumsUp 31 = .ok (.iand, 1) := by decide +kernel
theorem dX6_sumsUp_32 : decode cX6_sumsUp 32 = .ok (.ifCond .ne 6, 3) := by decide +kernel
theorem dX6_sumsUp_35 : decode cX6_sumsUp 35 = .ok (.goto 72, 3) := by decide +kernel
theorem dX6_sumsUp_38 : decode cX6_sumsUp 38 = .ok (.aload_n 0, 1) := by decide +kernel
theorem dX6_sumsUp_39 : decode cX6_sumsUp 39 = .ok (.iload_n 2, 1) := by decide +kernel
theorem dX6_sumsUp_40 : decode cX6_sumsUp 40 = .ok (.iconst 2, 1) := by decide +kernel
theorem dX6_sumsUp_41 : decode cX6_sumsUp 41 = .ok (.invokevirtual 111, 3) := by decide +kernel
theorem dX6_sumsUp_44 : decode cX6_sumsUp 44 = .ok (.istore_n 3, 1) := by decide +kernel
theorem dX6_sumsUp_45 : decode cX6_sumsUp 45 = .ok (.aload_n 0, 1) := by decide +kernel
theorem dX6_sumsUp_46 : decode cX6_sumsUp 46 = .ok (.dup, 1) := by decide +kernel
theorem dX6_sumsUp_47 : decode cX6_sumsUp 47 = .ok (.getfield 138, 3) := by decide +kernel
theorem dX6_sumsUp_50 : decode cX6_sumsUp 50 = .ok (.iload_n 3, 1) := by decide +kernel
theorem dX6_sumsUp_51 : decode cX6_sumsUp 51 = .ok (.iadd, 1) := by decide +kernel
theorem dX6_sumsUp_52 : decode cX6_sumsUp 52 = .ok (.putfield 138, 3) := by decide +kernel
theorem dX6_sumsUp_55 : decode cX6_sumsUp 55 = .ok (.aload_n 0, 1) := by decide +kernel
theorem dX6_sumsUp_56 : decode cX6_sumsUp 56 = .ok (.dup, 1) := by decide +kernel
theorem dX6_sumsUp_57 : decode cX6_sumsUp 57 = .ok (.getfield 141, 3) := by decide +kernel
theorem dX6_sumsUp_60 : decode cX6_sumsUp 60 = .ok (.iload_n 3, 1) := by decide +kernel
theorem dX6_sumsUp_61 : decode cX6_sumsUp 61 = .ok (.aload_n 0, 1) := by decide +kernel
theorem dX6_sumsUp_62 : decode cX6_sumsUp 62 = .ok (.iload_n 2, 1) := by decide +kernel
theorem dX6_sumsUp_63 : decode cX6_sumsUp 63 = .ok (.iconst 0, 1) := by decide +kernel
theorem dX6_sumsUp_64 : decode cX6_sumsUp 64 = .ok (.invokevirtual 111, 3) := by decide +kernel
theorem dX6_sumsUp_67 : decode cX6_sumsUp 67 = .ok (.aload_n 0, 1) := by decide +kernel
theorem dX6_sumsUp_68 : decode cX6_sumsUp 68 = .ok (.iload_n 2, 1) := by decide +kernel
theorem dX6_sumsUp_69 : decode cX6_sumsUp 69 = .ok (.iconst 1, 1) := by decide +kernel
theorem dX6_sumsUp_70 : decode cX6_sumsUp 70 = .ok (.invokevirtual 111, 3) := by decide +kernel
theorem dX6_sumsUp_73 : decode cX6_sumsUp 73 = .ok (.invokestatic 120, 3) := by decide +kernel
theorem dX6_sumsUp_76 : decode cX6_sumsUp 76 = .ok (.imul, 1) := by decide +kernel
theorem dX6_sumsUp_77 : decode cX6_sumsUp 77 = .ok (.iadd, 1) := by decide +kernel
theorem dX6_sumsUp_78 : decode cX6_sumsUp 78 = .ok (.putfield 141, 3) := by decide +kernel
theorem dX6_sumsUp_81 : decode cX6_sumsUp 81 = .ok (.aload_n 0, 1) := by decide +kernel
theorem dX6_sumsUp_82 : decode cX6_sumsUp 82 = .ok (.dup, 1) := by decide +kernel
theorem dX6_sumsUp_83 : decode cX6_sumsUp 83 = .ok (.getfield 144, 3) := by decide +kernel
theorem dX6_sumsUp_86 : decode cX6_sumsUp 86 = .ok (.iload_n 3, 1) := by decide +kernel
theorem dX6_sumsUp_87 : decode cX6_sumsUp 87 = .ok (.aload_n 0, 1) := by decide +kernel
theorem dX6_sumsUp_88 : decode cX6_sumsUp 88 = .ok (.iload_n 2, 1) := by decide +kernel
theorem dX6_sumsUp_89 : decode cX6_sumsUp 89 = .ok (.iconst 0, 1) := by decide +kernel
theorem dX6_sumsUp_90 : decode cX6_sumsUp 90 = .ok (.invokevirtual 111, 3) := by decide +kernel
theorem dX6_sumsUp_93 : decode cX6_sumsUp 93 = .ok (.aload_n 0, 1) := by decide +kernel
theorem dX6_sumsUp_94 : decode cX6_sumsUp 94 = .ok (.iload_n 2, 1) := by decide +kernel
theorem dX6_sumsUp_95 : decode cX6_sumsUp 95 = .ok (.iconst 1, 1) := by decide +kernel
theorem dX6_sumsUp_96 : decode cX6_sumsUp 96 = .ok (.invokevirtual 111, 3) := by decide +kernel
theorem dX6_sumsUp_99 : decode cX6_sumsUp 99 = .ok (.invokestatic 123, 3) := by decide +kernel
theorem dX6_sumsUp_102 : decode cX6_sumsUp 102 = .ok (.imul, 1) := by decide +kernel
theorem dX6_sumsUp_103 : decode cX6_sumsUp 103 = .ok (.iadd, 1) := by decide +kernel
theorem dX6_sumsUp_104 : decode cX6_sumsUp 104 = .ok (.putfield 144, 3) := by decide +kernel
theorem dX6_sumsUp_107 : decode cX6_sumsUp 107 = .ok (.iinc 2 1, 3) := by decide +kernel
theorem dX6_sumsUp_110 : decode cX6_sumsUp 110 = .ok (.goto (-93), 3) := by decide +kernel
theorem dX6_sumsUp_113 : decode cX6_sumsUp 113 = .ok (.aload_n 0, 1) := by decide +kernel
theorem dX6_sumsUp_114 : decode cX6_sumsUp 114 = .ok (.invokevirtual 147, 3) := by decide +kernel
theorem dX6_sumsUp_117 : decode cX6_sumsUp 117 = .ok (.return_, 1) := by decide +kernel
theorem dX6_line_0 : decode cX6_line 0 = .ok (.iload_n 1, 1) := by decide +kernel
theorem dX6_line_1 : decode cX6_line 1 = .ok (.i2l, 1) := by decide +kernel
theorem dX6_line_2 : decode cX6_line 2 = .ok (.lconst 0, 1) := by decide +kernel
theorem dX6_line_3 : decode cX6_line 3 = .ok (.ldc2_w 168, 3) := by decide +kernel
theorem dX6_line_6 : decode cX6_line 6 = .ok (.invokestatic 47, 3) := by decide +kernel
theorem dX6_line_9 : decode cX6_line 9 = .ok (.ifCond .ne 5, 3) := by decide +kernel
theorem dX6_line_12 : decode cX6_line 12 = .ok (.iconst (-1), 1) := by decide +kernel
theorem dX6_line_13 : decode cX6_line 13 = .ok (.ireturn, 1) := by decide +kernel
theorem dX6_line_14 : decode cX6_line 14 = .ok (.aload_n 0, 1) := by decide +kernel
theorem dX6_line_15 : decode cX6_line 15 = .ok (.invokevirtual 170, 3) := by decide +kernel
theorem dX6_line_18 : decode cX6_line 18 = .ok (.ifCond .ne 6, 3) := by decide +kernel
theorem dX6_line_21 : decode cX6_line 21 = .ok (.bipush (-3), 2) := by decide +kernel
theorem dX6_line_23 : decode cX6_line 23 = .ok (.ireturn, 1) := by decide +kernel
theorem dX6_line_24 : decode cX6_line 24 = .ok (.aload_n 0, 1) := by decide +kernel
theorem dX6_line_25 : decode cX6_line 25 = .ok (.aload_n 0, 1) := by decide +kernel
theorem dX6_line_26 : decode cX6_line 26 = .ok (.invokevirtual 173, 3) := by decide +kernel
theorem dX6_line_29 : decode cX6_line 29 = .ok (.invokevirtual 176, 3) := by decide +kernel
theorem dX6_line_32 : decode cX6_line 32 = .ok (.iload_n 1, 1) := by decide +kernel
theorem dX6_line_33 : decode cX6_line 33 = .ok (.ifCond .ne 10, 3) := by decide +kernel
theorem dX6_line_36 : decode cX6_line 36 = .ok (.aload_n 0, 1) := by decide +kernel
theorem dX6_line_37 : decode cX6_line 37 = .ok (.getfield 138, 3) := by decide +kernel
theorem dX6_line_40 : decode cX6_line 40 = .ok (.goto 57, 3) := by decide +kernel
theorem dX6_line_43 : decode cX6_line 43 = .ok (.iload_n 1, 1) := by decide +kernel
theorem dX6_line_44 : decode cX6_line 44 = .ok (.iconst 1, 1) := by decide +kernel
theorem dX6_line_45 : decode cX6_line 45 = .ok (.if_icmp .ne 10, 3) := by decide +kernel
theorem dX6_line_48 : decode cX6_line 48 = .ok (.aload_n 0, 1) := by decide +kernel
theorem dX6_line_49 : decode cX6_line 49 = .ok (.getfield 141, 3) := by decide +kernel
theorem dX6_line_52 : decode cX6_line 52 = .ok (.goto 45, 3) := by decide +kernel
theorem dX6_line_55 : decode cX6_line 55 = .ok (.iload_n 1, 1) := by decide +kernel
theorem dX6_line_56 : decode cX6_line 56 = .ok (.iconst 2, 1) := by decide +kernel
theorem dX6_line_57 : decode cX6_line 57 = .ok (.if_icmp .ne 10, 3) := by decide +kernel
theorem dX6_line_60 : decode cX6_line 60 = .ok (.aload_n 0, 1) := by decide +kernel
theorem dX6_line_61 : decode cX6_line 61 = .ok (.getfield 144, 3) := by decide +kernel
theorem dX6_line_64 : decode cX6_line 64 = .ok (.goto 33, 3) := by decide +kernel
theorem dX6_line_67 : decode cX6_line 67 = .ok (.iload_n 1, 1) := by decide +kernel
theorem dX6_line_68 : decode cX6_line 68 = .ok (.iconst 3, 1) := by decide +kernel
theorem dX6_line_69 : decode cX6_line 69 = .ok (.if_icmp .ne 10, 3) := by decide +kernel
theorem dX6_line_72 : decode cX6_line 72 = .ok (.aload_n 0, 1) := by decide +kernel
theorem dX6_line_73 : decode cX6_line 73 = .ok (.invokevirtual 159, 3) := by decide +kernel
theorem dX6_line_76 : decode cX6_line 76 = .ok (.goto 21, 3) := by decide +kernel
theorem dX6_line_79 : decode cX6_line 79 = .ok (.iload_n 1, 1) := by decide +kernel
theorem dX6_line_80 : decode cX6_line 80 = .ok (.iconst 4, 1) := by decide +kernel
theorem dX6_line_81 : decode cX6_line 81 = .ok (.if_icmp .ne 12, 3) := by decide +kernel
theorem dX6_line_84 : decode cX6_line 84 = .ok (.aload_n 0, 1) := by decide +kernel
theorem dX6_line_85 : decode cX6_line 85 = .ok (.invokevirtual 159, 3) := by decide +kernel
theorem dX6_line_88 : decode cX6_line 88 = .ok (.iconst 4, 1) := by decide +kernel
theorem dX6_line_89 : decode cX6_line 89 = .ok (.idiv, 1) := by decide +kernel
theorem dX6_line_90 : decode cX6_line 90 = .ok (.goto 7, 3) := by decide +kernel
theorem dX6_line_93 : decode cX6_line 93 = .ok (.aload_n 0, 1) := by decide +kernel
theorem dX6_line_94 : decode cX6_line 94 = .ok (.invokevirtual 165, 3) := by decide +kernel
theorem dX6_line_97 : decode cX6_line 97 = .ok (.ireturn, 1) := by decide +kernel
section WALK
variable {p : Program} {l : Launch} {e : Env} {s : State} {m : MethodId} {args : Array Value} {below : List Frame} {meth : Method} {c : Code} {G : GG}

def q_X5_set (M : Mem) (x1 : Int32) (x2 : Int32) (post : Int32 → Mem → Prop) : Prop := q_X4_maySet M x1 x2 (fun r1 M2 => (r1 = 0 → (post (-1 : Int32) M2)) ∧ (¬ (r1 = 0) → (vp_in x1 7 ∧ (∀ M5 : Mem, M5 = (mup M2 11 x1.toNatClampNeg x2) → (post (M2 11 x1.toNatClampNeg) M5)))))
set_option maxHeartbeats 4000000 in
set_option maxRecDepth 100000 in
theorem c_X5_set (l : Launch) (G : GG) (hG : Ag G) (sz : Nat) (M : Mem) (x1 : Int32) (x2 : Int32) (post : Int32 → Mem → Prop) (h : q_X5_set M x1 x2 post) : Met l yX5_set (Cond.code yX5_set cX5_set 4 (some .int) :: wsL_law) (rmk 3) (va_Pc [.ref (ga G 0), .int x1, .int x2] (Pw G sz M)) (va_Qi post (Qw G) (Af G sz)) 0 0 (Af G sz) := by
  refine Met.ofW (cc := cX5_set) (maxL := 4) (ret := (some .int)) (by decide) rfl ?_
  intro p e s m args below meth c s₁ B hml hv
  obtain ⟨rfl, hsz, hE, hP⟩ := hv
  subst hsz
  have C := Cx.of (own := RX5) hG hE rfl hml B
  have w : Wd G s M s.heap [] := ⟨hP, va_S.rf⟩
  have hl := lv_entry [.ref (ga G 0), .int x1, .int x2] (n := 4) (Nat.le_of_ble_eq_true rfl)
  rw [lg_entry_eq]
  generalize (lg_sl [.ref (ga G 0), .int x1, .int x2] ++ List.replicate (4 - (lg_sl [.ref (ga G 0), .int x1, .int x2]).length) Slot.unset).toArray = ls at hl ⊢
  have hl : lv_has ls 4 [(0, .ref (ga G 0)), (1, .int x1), (2, .int x2)] := hl
  have hx := C.1.1
  have hb := C.1.2.1
  show W p l e (rmk 3) s m _ below meth c s.heap [] 0 0 _ _
  unfold q_X5_set at h
  refine lv_iload_n hx hb dX5_set_0 rfl (lv_at hl 1 rfl) ?_
  refine lv_iload_n hx hb dX5_set_1 rfl (lv_at hl 2 rfl) ?_
  refine end_i w (run_SN (As := [.int x1, .int x2]) C w hl.1 (c_X4_maySet l G C.2.2.1 _ _ x1 x2  _ h) kw_11_11 kw_1_15 kn_54 kw_11_10 hd_X4_maySet ⟨by decide, by decide⟩ rfl (Nat.le_of_ble_eq_true rfl) dX5_set_2) (fun r1 M2 H locs h w => ?_)
  refine lv_if_ne (tgt := 10) hx hb dX5_set_5 (by decide) (fun c3 => ?_) (fun c3 => ?_)
  · replace h := h.2 c3
    refine lv_aload_n hx hb dX5_set_10 rfl (lv_at hl 0 rfl) ?_
    refine gt_5_0 C w kw_1_16 dX5_set_11 ?_
    refine gn_4_2 C w ⟨by decide, by decide⟩ kn_16 dX5_set_14 ?_
    refine lv_iload_n hx hb dX5_set_17 rfl (lv_at hl 1 rfl) ?_
    have hin4 := h.1
    replace h := h.2
    have hz_hin4 := in_lt hin4
    refine pw_ld C w (i := 11) (by decide) (pE_st ⟨by decide, by decide⟩) hin4 rfl dX5_set_18 ?_
    refine lv_istore_n (lv' := [(3, .int (M2 11 x1.toNatClampNeg)), (0, .ref (ga G 0)), (1, .int x1), (2, .int x2)]) hx hb dX5_set_19 rfl hl (by decide) rfl (fun ls hl => ?_)
    refine lv_aload_n hx hb dX5_set_20 rfl (lv_at hl 1 rfl) ?_
    refine gt_5_0 C w kw_1_16 dX5_set_21 ?_
    refine gn_4_2 C w ⟨by decide, by decide⟩ kn_16 dX5_set_24 ?_
    refine lv_iload_n hx hb dX5_set_27 rfl (lv_at hl 2 rfl) ?_
    refine lv_iload_n hx hb dX5_set_28 rfl (lv_at hl 3 rfl) ?_
    refine pw_st C w (i := 11) (by decide) (fun _ => (pE_st ⟨by decide, by decide⟩)) hin4 rfl dX5_set_29 (fun H locs w => ?_)
    obtain ⟨M5, eM5⟩ : ∃ z : Mem, z = (mup M2 11 x1.toNatClampNeg x2) := ⟨_, rfl⟩
    replace w : Wd G s M5 H locs := by rw [eM5]; exact w
    replace h := h M5 eM5
    refine lv_iload_n hx hb dX5_set_30 rfl (lv_at hl 0 rfl) ?_
    exact ret_i C w h dX5_set_31
  replace h := h.1 c3
  refine lv_iconst (v := -1) hx hb dX5_set_8 (by decide) ?_
  exact ret_i C w h dX5_set_9
def j_X6_leastOf_19 (post : Int32 → Mem → Prop) (M : Mem) (y0 : Int32) : Prop := post y0 M
def q_X6_leastOf (M : Mem) (x0 : Int32) (post : Int32 → Mem → Prop) : Prop := (x0 = (1 : Int32) → (j_X6_leastOf_19 post M (4 : Int32))) ∧ (¬ (x0 = (1 : Int32)) → ((x0 = (3 : Int32) → (j_X6_leastOf_19 post M (1 : Int32))) ∧ (¬ (x0 = (3 : Int32)) → (j_X6_leastOf_19 post M (0 : Int32)))))
set_option maxHeartbeats 4000000 in
set_option maxRecDepth 100000 in
theorem t_X6_leastOf_19 (C : Cx G p s m args meth c RX6 cX6_leastOf 1 (some .int)) {post : Int32 → Mem → Prop} (M : Mem) (y0 : Int32) {H : Heap} {locs : List Loc} {ls : Array Slot} (w : Wd G s M H locs) (hl : lv_has ls 1 []) (h : j_X6_leastOf_19 post M y0) : W p l e (rmk 1) s m args below meth c H locs 0 0 (MQ below (va_Qi post (Qw G) (Af G s.heap.size)) args s 0 0 (Af G s.heap.size)) (F0 m 19 ls [.int y0]) := by
  have hx := C.1.1
  have hb := C.1.2.1
  unfold j_X6_leastOf_19 at h
  exact ret_i C w h dX6_leastOf_19
set_option maxHeartbeats 4000000 in
set_option maxRecDepth 100000 in
theorem c_X6_leastOf (l : Launch) (G : GG) (hG : Ag G) (sz : Nat) (M : Mem) (x0 : Int32) (post : Int32 → Mem → Prop) (h : q_X6_leastOf M x0 post) : Met l yX6_leastOf (Cond.code yX6_leastOf cX6_leastOf 1 (some .int) :: wsL_law) (rmk 1) (va_Pc [.int x0] (Pw G sz M)) (va_Qi post (Qw G) (Af G sz)) 0 0 (Af G sz) := by
  refine Met.ofW (cc := cX6_leastOf) (maxL := 1) (ret := (some .int)) (by decide) rfl ?_
  intro p e s m args below meth c s₁ B hml hv
  obtain ⟨rfl, hsz, hE, hP⟩ := hv
  subst hsz
  have C := Cx.of (own := RX6) hG hE rfl hml B
  have w : Wd G s M s.heap [] := ⟨hP, va_S.rf⟩
  have hl := lv_entry [.int x0] (n := 1) (Nat.le_of_ble_eq_true rfl)
  rw [lg_entry_eq]
  generalize (lg_sl [.int x0] ++ List.replicate (1 - (lg_sl [.int x0]).length) Slot.unset).toArray = ls at hl ⊢
  have hl : lv_has ls 1 [(0, .int x0)] := hl
  have hx := C.1.1
  have hb := C.1.2.1
  show W p l e (rmk 1) s m _ below meth c s.heap [] 0 0 _ _
  unfold q_X6_leastOf at h
  refine lv_iload_n hx hb dX6_leastOf_0 rfl (lv_at hl 0 rfl) ?_
  refine lv_iconst (v := 1) hx hb dX6_leastOf_1 (by decide) ?_
  refine lv_icmp_ne (tgt := 9) hx hb dX6_leastOf_2 (by decide) (fun c1 => ?_) (fun c1 => ?_)
  · replace h := h.2 c1
    refine lv_iload_n hx hb dX6_leastOf_9 rfl (lv_at hl 0 rfl) ?_
    refine lv_iconst (v := 3) hx hb dX6_leastOf_10 (by decide) ?_
    refine lv_icmp_ne (tgt := 18) hx hb dX6_leastOf_11 (by decide) (fun c2 => ?_) (fun c2 => ?_)
    · replace h := h.2 c2
      refine lv_iconst (v := 0) hx hb dX6_leastOf_18 (by decide) ?_
      exact t_X6_leastOf_19 C M (0 : Int32)  w (lv_sub hl [] rfl) h
    replace h := h.1 c2
    refine lv_iconst (v := 1) hx hb dX6_leastOf_14 (by decide) ?_
    refine lv_goto (tgt := 19) hx hb dX6_leastOf_15 (by decide) ?_
    exact t_X6_leastOf_19 C M (1 : Int32)  w (lv_sub hl [] rfl) h
  replace h := h.1 c1
  refine lv_iconst (v := 4) hx hb dX6_leastOf_5 (by decide) ?_
  refine lv_goto (tgt := 19) hx hb dX6_leastOf_6 (by decide) ?_
  exact t_X6_leastOf_19 C M (4 : Int32)  w (lv_sub hl [] rfl) h
def j_X6_mostOf_32 (post : Int32 → Mem → Prop) (M : Mem) (y0 : Int32) : Prop := post y0 M
def q_X6_mostOf (M : Mem) (x0 : Int32) (post : Int32 → Mem → Prop) : Prop := (x0 = 0 → (j_X6_mostOf_32 post M (60 : Int32))) ∧ (¬ (x0 = 0) → ((x0 = (1 : Int32) → (j_X6_mostOf_32 post M (40 : Int32))) ∧ (¬ (x0 = (1 : Int32)) → ((x0 = (3 : Int32) → (j_X6_mostOf_32 post M (999 : Int32))) ∧ (¬ (x0 = (3 : Int32)) → (j_X6_mostOf_32 post M (9 : Int32)))))))
set_option maxHeartbeats 4000000 in
set_option maxRecDepth 100000 in
theorem t_X6_mostOf_32 (C : Cx G p s m args meth c RX6 cX6_mostOf 1 (some .int)) {post : Int32 → Mem → Prop} (M : Mem) (y0 : Int32) {H : Heap} {locs : List Loc} {ls : Array Slot} (w : Wd G s M H locs) (hl : lv_has ls 1 []) (h : j_X6_mostOf_32 post M y0) : W p l e (rmk 1) s m args below meth c H locs 0 0 (MQ below (va_Qi post (Qw G) (Af G s.heap.size)) args s 0 0 (Af G s.heap.size)) (F0 m 32 ls [.int y0]) := by
  have hx := C.1.1
  have hb := C.1.2.1
  unfold j_X6_mostOf_32 at h
  exact ret_i C w h dX6_mostOf_32
set_option maxHeartbeats 4000000 in
set_option maxRecDepth 100000 in
theorem c_X6_mostOf (l : Launch) (G : GG) (hG : Ag G) (sz : Nat) (M : Mem) (x0 : Int32) (post : Int32 → Mem → Prop) (h : q_X6_mostOf M x0 post) : Met l yX6_mostOf (Cond.code yX6_mostOf cX6_mostOf 1 (some .int) :: wsL_law) (rmk 1) (va_Pc [.int x0] (Pw G sz M)) (va_Qi post (Qw G) (Af G sz)) 0 0 (Af G sz) := by
  refine Met.ofW (cc := cX6_mostOf) (maxL := 1) (ret := (some .int)) (by decide) rfl ?_
  intro p e s m args below meth c s₁ B hml hv
  obtain ⟨rfl, hsz, hE, hP⟩ := hv
  subst hsz
  have C := Cx.of (own := RX6) hG hE rfl hml B
  have w : Wd G s M s.heap [] := ⟨hP, va_S.rf⟩
  have hl := lv_entry [.int x0] (n := 1) (Nat.le_of_ble_eq_true rfl)
  rw [lg_entry_eq]
  generalize (lg_sl [.int x0] ++ List.replicate (1 - (lg_sl [.int x0]).length) Slot.unset).toArray = ls at hl ⊢
  have hl : lv_has ls 1 [(0, .int x0)] := hl
  have hx := C.1.1
  have hb := C.1.2.1
  show W p l e (rmk 1) s m _ below meth c s.heap [] 0 0 _ _
  unfold q_X6_mostOf at h
  refine lv_iload_n hx hb dX6_mostOf_0 rfl (lv_at hl 0 rfl) ?_
  refine lv_if_ne (tgt := 9) hx hb dX6_mostOf_1 (by decide) (fun c1 => ?_) (fun c1 => ?_)
  · replace h := h.2 c1
    refine lv_iload_n hx hb dX6_mostOf_9 rfl (lv_at hl 0 rfl) ?_
    refine lv_iconst (v := 1) hx hb dX6_mostOf_10 (by decide) ?_
    refine lv_icmp_ne (tgt := 19) hx hb dX6_mostOf_11 (by decide) (fun c2 => ?_) (fun c2 => ?_)
    · replace h := h.2 c2
      refine lv_iload_n hx hb dX6_mostOf_19 rfl (lv_at hl 0 rfl) ?_
      refine lv_iconst (v := 3) hx hb dX6_mostOf_20 (by decide) ?_
      refine lv_icmp_ne (tgt := 30) hx hb dX6_mostOf_21 (by decide) (fun c3 => ?_) (fun c3 => ?_)
      · replace h := h.2 c3
        refine lv_bipush (v := 9) hx hb dX6_mostOf_30 (by decide) ?_
        exact t_X6_mostOf_32 C M (9 : Int32)  w (lv_sub hl [] rfl) h
      replace h := h.1 c3
      refine lv_sipush (v := 999) hx hb dX6_mostOf_24 (by decide) ?_
      refine lv_goto (tgt := 32) hx hb dX6_mostOf_27 (by decide) ?_
      exact t_X6_mostOf_32 C M (999 : Int32)  w (lv_sub hl [] rfl) h
    replace h := h.1 c2
    refine lv_bipush (v := 40) hx hb dX6_mostOf_14 (by decide) ?_
    refine lv_goto (tgt := 32) hx hb dX6_mostOf_16 (by decide) ?_
    exact t_X6_mostOf_32 C M (40 : Int32)  w (lv_sub hl [] rfl) h
  replace h := h.1 c1
  refine lv_bipush (v := 60) hx hb dX6_mostOf_4 (by decide) ?_
  refine lv_goto (tgt := 32) hx hb dX6_mostOf_6 (by decide) ?_
  exact t_X6_mostOf_32 C M (60 : Int32)  w (lv_sub hl [] rfl) h
def j_X6_set_30 (post : Int32 → Mem → Prop) (M : Mem) : Prop := post (-1 : Int32) M
def q_X6_set (M : Mem) (x1 : Int32) (x2 : Int32) (post : Int32 → Mem → Prop) : Prop := q_X6_isIn M x1.toInt64 (0 : Int64) (6 : Int64) (fun r1 M2 => (r1 = 0 → (j_X6_set_30 post M2)) ∧ (¬ (r1 = 0) → (q_X6_leastOf M2 x1 (fun r4 M5 => q_X6_mostOf M5 x1 (fun r6 M7 => q_X6_isIn M7 x2.toInt64 r4.toInt64 r6.toInt64 (fun r8 M9 => (r8 = 0 → (j_X6_set_30 post M9)) ∧ (¬ (r8 = 0) → (vp_in ((5 : Int32) + x1) 54 ∧ (∀ v12 : Int32, v12 = (M9 58 ((5 : Int32) + x1).toNatClampNeg) → (∀ M13 : Mem, M13 = (mup M9 58 ((5 : Int32) + x1).toNatClampNeg x2) → (post v12 M13)))))))))))
set_option maxHeartbeats 4000000 in
set_option maxRecDepth 100000 in
theorem t_X6_set_30 (C : Cx G p s m args meth c RX6 cX6_set 4 (some .int)) {post : Int32 → Mem → Prop} (M : Mem) {H : Heap} {locs : List Loc} {ls : Array Slot} (w : Wd G s M H locs) (hl : lv_has ls 4 []) (h : j_X6_set_30 post M) : W p l e (rmk 2) s m args below meth c H locs 0 0 (MQ below (va_Qi post (Qw G) (Af G s.heap.size)) args s 0 0 (Af G s.heap.size)) (F0 m 30 ls []) := by
  have hx := C.1.1
  have hb := C.1.2.1
  unfold j_X6_set_30 at h
  refine lv_iconst (v := -1) hx hb dX6_set_30 (by decide) ?_
  exact ret_i C w h dX6_set_31
set_option maxHeartbeats 4000000 in
set_option maxRecDepth 100000 in
theorem c_X6_set (l : Launch) (G : GG) (hG : Ag G) (sz : Nat) (M : Mem) (x1 : Int32) (x2 : Int32) (post : Int32 → Mem → Prop) (h : q_X6_set M x1 x2 post) : Met l yX6_set (Cond.code yX6_set cX6_set 4 (some .int) :: wsL_law) (rmk 2) (va_Pc [.ref (ga G 57), .int x1, .int x2] (Pw G sz M)) (va_Qi post (Qw G) (Af G sz)) 0 0 (Af G sz) := by
  refine Met.ofW (cc := cX6_set) (maxL := 4) (ret := (some .int)) (by decide) rfl ?_
  intro p e s m args below meth c s₁ B hml hv
  obtain ⟨rfl, hsz, hE, hP⟩ := hv
  subst hsz
  have C := Cx.of (own := RX6) hG hE rfl hml B
  have w : Wd G s M s.heap [] := ⟨hP, va_S.rf⟩
  have hl := lv_entry [.ref (ga G 57), .int x1, .int x2] (n := 4) (Nat.le_of_ble_eq_true rfl)
  rw [lg_entry_eq]
  generalize (lg_sl [.ref (ga G 57), .int x1, .int x2] ++ List.replicate (4 - (lg_sl [.ref (ga G 57), .int x1, .int x2]).length) Slot.unset).toArray = ls at hl ⊢
  have hl : lv_has ls 4 [(0, .ref (ga G 57)), (1, .int x1), (2, .int x2)] := hl
  have hx := C.1.1
  have hb := C.1.2.1
  show W p l e (rmk 2) s m _ below meth c s.heap [] 0 0 _ _
  unfold q_X6_set at h
  refine lv_iload_n hx hb dX6_set_0 rfl (lv_at hl 1 rfl) ?_
  refine lv_i2l hx hb dX6_set_1 rfl ?_
  refine lv_lconst (v := 0) hx hb dX6_set_2 (by decide) ?_
  refine lv_ldc2 hx hb C.1.2.2.2.1 (C.ws kw_15_7) dX6_set_3 ?_
  refine end_i w (run_S (As := [.long x1.toInt64, .long (0 : Int64), .long (6 : Int64)]) C w hl.1 (c_X6_isIn l G C.2.2.1 _ _ x1.toInt64 (0 : Int64) (6 : Int64)  _ h) kw_12_5 kw_1_5 kw_12_3 kw_12_4 hd_X6_isIn ⟨by decide, by decide⟩ rfl (Nat.le_of_ble_eq_true rfl) dX6_set_6) (fun r1 M2 H locs h w => ?_)
  refine lv_if_eq (tgt := 30) hx hb dX6_set_9 (by decide) (fun c3 => ?_) (fun c3 => ?_)
  · replace h := h.1 c3
    exact t_X6_set_30 C M2   w (lv_sub hl [] rfl) h
  replace h := h.2 c3
  refine lv_iload_n hx hb dX6_set_12 rfl (lv_at hl 2 rfl) ?_
  refine lv_i2l hx hb dX6_set_13 rfl ?_
  refine lv_iload_n hx hb dX6_set_14 rfl (lv_at hl 1 rfl) ?_
  refine end_i w (run_S (As := [.int x1]) C w hl.1 (c_X6_leastOf l G C.2.2.1 _ _ x1  _ h) kw_15_10 kw_1_5 kw_15_8 kw_15_9 hd_X6_leastOf ⟨by decide, by decide⟩ rfl (Nat.le_of_ble_eq_true rfl) dX6_set_15) (fun r4 M5 H locs h w => ?_)
  refine lv_i2l hx hb dX6_set_18 rfl ?_
  refine lv_iload_n hx hb dX6_set_19 rfl (lv_at hl 1 rfl) ?_
  refine end_i w (run_S (As := [.int x1]) C w hl.1 (c_X6_mostOf l G C.2.2.1 _ _ x1  _ h) kw_15_13 kw_1_5 kw_15_11 kw_15_12 hd_X6_mostOf ⟨by decide, by decide⟩ rfl (Nat.le_of_ble_eq_true rfl) dX6_set_20) (fun r6 M7 H locs h w => ?_)
  refine lv_i2l hx hb dX6_set_23 rfl ?_
  refine end_i w (run_S (As := [.long x2.toInt64, .long r4.toInt64, .long r6.toInt64]) C w hl.1 (c_X6_isIn l G C.2.2.1 _ _ x2.toInt64 r4.toInt64 r6.toInt64  _ h) kw_12_5 kw_1_5 kw_12_3 kw_12_4 hd_X6_isIn ⟨by decide, by decide⟩ rfl (Nat.le_of_ble_eq_true rfl) dX6_set_24) (fun r8 M9 H locs h w => ?_)
  refine lv_if_ne (tgt := 32) hx hb dX6_set_27 (by decide) (fun c10 => ?_) (fun c10 => ?_)
  · replace h := h.2 c10
    refine lv_aload_n hx hb dX6_set_32 rfl (lv_at hl 0 rfl) ?_
    refine gt_6_0 C w kw_5_0 dX6_set_33 ?_
    refine lv_iconst (v := 5) hx hb dX6_set_36 (by decide) ?_
    refine lv_iload_n hx hb dX6_set_37 rfl (lv_at hl 1 rfl) ?_
    refine lv_iadd hx hb dX6_set_38 ?_
    have hin11 := h.1
    replace h := h.2
    have hz_hin11 := in_lt hin11
    refine pw_ld C w (i := 58) (by decide) pE_58 hin11 rfl dX6_set_39 ?_
    refine lv_topi (fun v12 ev12 => ?_)
    replace h := h v12 ev12
    refine lv_istore_n (lv' := [(3, .int v12), (0, .ref (ga G 57)), (1, .int x1), (2, .int x2)]) hx hb dX6_set_40 rfl hl (by decide) rfl (fun ls hl => ?_)
    refine lv_aload_n hx hb dX6_set_41 rfl (lv_at hl 1 rfl) ?_
    refine gt_6_0 C w kw_5_0 dX6_set_42 ?_
    refine lv_iconst (v := 5) hx hb dX6_set_45 (by decide) ?_
    refine lv_iload_n hx hb dX6_set_46 rfl (lv_at hl 2 rfl) ?_
    refine lv_iadd hx hb dX6_set_47 ?_
    refine lv_iload_n hx hb dX6_set_48 rfl (lv_at hl 3 rfl) ?_
    refine pw_st C w (i := 58) (by decide) (fun _ => pE_58) hin11 rfl dX6_set_49 (fun H locs w => ?_)
    obtain ⟨M13, eM13⟩ : ∃ z : Mem, z = (mup M9 58 ((5 : Int32) + x1).toNatClampNeg x2) := ⟨_, rfl⟩
    replace w : Wd G s M13 H locs := by rw [eM13]; exact w
    replace h := h M13 eM13
    refine lv_iload_n hx hb dX6_set_50 rfl (lv_at hl 0 rfl) ?_
    exact ret_i C w h dX6_set_51
  replace h := h.1 c10
  exact t_X6_set_30 C M9   w (lv_sub hl [] rfl) h
def q_X0_base (M : Mem) (post : Int32 → Mem → Prop) : Prop := post ((((2 : Int32) * (M 4 5)) * (M 4 5)) + ((M 4 1) / (10 : Int32))) M
set_option maxHeartbeats 4000000 in
set_option maxRecDepth 100000 in
theorem c_X0_base (l : Launch) (G : GG) (hG : Ag G) (sz : Nat) (M : Mem) (post : Int32 → Mem → Prop) (h : q_X0_base M post) : Met l yX0_base (Cond.code yX0_base cX0_base 1 (some .int) :: wsL_law) (rmk 1) (va_Pc [.ref (ga G 4)] (Pw G sz M)) (va_Qi post (Qw G) (Af G sz)) 0 0 (Af G sz) := by
  refine Met.ofW (cc := cX0_base) (maxL := 1) (ret := (some .int)) (by decide) rfl ?_
  intro p e s m args below meth c s₁ B hml hv
  obtain ⟨rfl, hsz, hE, hP⟩ := hv
  subst hsz
  have C := Cx.of (own := RX0) hG hE rfl hml B
  have w : Wd G s M s.heap [] := ⟨hP, va_S.rf⟩
  have hl := lv_entry [.ref (ga G 4)] (n := 1) (Nat.le_of_ble_eq_true rfl)
  rw [lg_entry_eq]
  generalize (lg_sl [.ref (ga G 4)] ++ List.replicate (1 - (lg_sl [.ref (ga G 4)]).length) Slot.unset).toArray = ls at hl ⊢
  have hl : lv_has ls 1 [(0, .ref (ga G 4))] := hl
  have hx := C.1.1
  have hb := C.1.2.1
  show W p l e (rmk 1) s m _ below meth c s.heap [] 0 0 _ _
  unfold q_X0_base at h
  refine lv_iconst (v := 2) hx hb dX0_base_0 (by decide) ?_
  refine lv_aload_n hx hb dX0_base_1 rfl (lv_at hl 0 rfl) ?_
  refine gt_0_5 C w kw_4_3 dX0_base_2 ?_
  refine lv_imul hx hb dX0_base_5 ?_
  refine lv_aload_n hx hb dX0_base_6 rfl (lv_at hl 0 rfl) ?_
  refine gt_0_5 C w kw_4_3 dX0_base_7 ?_
  refine lv_imul hx hb dX0_base_10 ?_
  refine lv_aload_n hx hb dX0_base_11 rfl (lv_at hl 0 rfl) ?_
  refine gt_0_1 C w kw_3_23 dX0_base_12 ?_
  refine lv_bipush (v := 10) hx hb dX0_base_15 (by decide) ?_
  refine lv_idiv hx hb dX0_base_17 (by decide) ?_
  refine lv_iadd hx hb dX0_base_18 ?_
  exact ret_i C w h dX0_base_19
def q_X0_giveOfAll (M : Mem) (post : Int32 → Mem → Prop) : Prop := post (if (1 : Int32) < ((M 4 2) / (100 : Int32)) then ((M 4 2) / (100 : Int32)) else (1 : Int32)) M
set_option maxHeartbeats 4000000 in
set_option maxRecDepth 100000 in
theorem c_X0_giveOfAll (l : Launch) (G : GG) (hG : Ag G) (sz : Nat) (M : Mem) (post : Int32 → Mem → Prop) (h : q_X0_giveOfAll M post) : Met l yX0_giveOfAll (Cond.code yX0_giveOfAll cX0_giveOfAll 1 (some .int) :: wsL_law) (rmk 1) (va_Pc [.ref (ga G 4)] (Pw G sz M)) (va_Qi post (Qw G) (Af G sz)) 0 0 (Af G sz) := by
  refine Met.ofW (cc := cX0_giveOfAll) (maxL := 1) (ret := (some .int)) (by decide) rfl ?_
  intro p e s m args below meth c s₁ B hml hv
  obtain ⟨rfl, hsz, hE, hP⟩ := hv
  subst hsz
  have C := Cx.of (own := RX0) hG hE rfl hml B
  have w : Wd G s M s.heap [] := ⟨hP, va_S.rf⟩
  have hl := lv_entry [.ref (ga G 4)] (n := 1) (Nat.le_of_ble_eq_true rfl)
  rw [lg_entry_eq]
  generalize (lg_sl [.ref (ga G 4)] ++ List.replicate (1 - (lg_sl [.ref (ga G 4)]).length) Slot.unset).toArray = ls at hl ⊢
  have hl : lv_has ls 1 [(0, .ref (ga G 4))] := hl
  have hx := C.1.1
  have hb := C.1.2.1
  show W p l e (rmk 1) s m _ below meth c s.heap [] 0 0 _ _
  unfold q_X0_giveOfAll at h
  refine lv_iconst (v := 1) hx hb dX0_giveOfAll_0 (by decide) ?_
  refine lv_aload_n hx hb dX0_giveOfAll_1 rfl (lv_at hl 0 rfl) ?_
  refine gt_0_2 C w kw_4_0 dX0_giveOfAll_2 ?_
  refine lv_bipush (v := 100) hx hb dX0_giveOfAll_5 (by decide) ?_
  refine lv_idiv hx hb dX0_giveOfAll_7 (by decide) ?_
  refine va_mmax hx hb (C.ml hl) C.1.2.2.2.1 (C.ws kw_16_10) (C.ws kw_16_11) (C.ws kw_16_12) (C.ws kw_16_13) (Nat.le_of_ble_eq_true rfl) (Nat.le_of_ble_eq_true rfl) (Nat.le_refl 0) (Nat.le_refl 0) dX0_giveOfAll_8 ?_
  exact ret_i C w h dX0_giveOfAll_11
def q_X0_hang (M : Mem) (post : Int32 → Mem → Prop) : Prop := ¬ (if (1 : Int32) < ((4 : Int32) + ((M 4 5) * (M 4 5))) then ((4 : Int32) + ((M 4 5) * (M 4 5))) else (1 : Int32)) = 0 ∧ (post ((M 4 1) / (if (1 : Int32) < ((4 : Int32) + ((M 4 5) * (M 4 5))) then ((4 : Int32) + ((M 4 5) * (M 4 5))) else (1 : Int32))) M)
set_option maxHeartbeats 4000000 in
set_option maxRecDepth 100000 in
theorem c_X0_hang (l : Launch) (G : GG) (hG : Ag G) (sz : Nat) (M : Mem) (post : Int32 → Mem → Prop) (h : q_X0_hang M post) : Met l yX0_hang (Cond.code yX0_hang cX0_hang 1 (some .int) :: wsL_law) (rmk 1) (va_Pc [.ref (ga G 4)] (Pw G sz M)) (va_Qi post (Qw G) (Af G sz)) 0 0 (Af G sz) := by
  refine Met.ofW (cc := cX0_hang) (maxL := 1) (ret := (some .int)) (by decide) rfl ?_
  intro p e s m args below meth c s₁ B hml hv
  obtain ⟨rfl, hsz, hE, hP⟩ := hv
  subst hsz
  have C := Cx.of (own := RX0) hG hE rfl hml B
  have w : Wd G s M s.heap [] := ⟨hP, va_S.rf⟩
  have hl := lv_entry [.ref (ga G 4)] (n := 1) (Nat.le_of_ble_eq_true rfl)
  rw [lg_entry_eq]
  generalize (lg_sl [.ref (ga G 4)] ++ List.replicate (1 - (lg_sl [.ref (ga G 4)]).length) Slot.unset).toArray = ls at hl ⊢
  have hl : lv_has ls 1 [(0, .ref (ga G 4))] := hl
  have hx := C.1.1
  have hb := C.1.2.1
  show W p l e (rmk 1) s m _ below meth c s.heap [] 0 0 _ _
  unfold q_X0_hang at h
  refine lv_aload_n hx hb dX0_hang_0 rfl (lv_at hl 0 rfl) ?_
  refine gt_0_1 C w kw_3_23 dX0_hang_1 ?_
  refine lv_iconst (v := 1) hx hb dX0_hang_4 (by decide) ?_
  refine lv_iconst (v := 4) hx hb dX0_hang_5 (by decide) ?_
  refine lv_aload_n hx hb dX0_hang_6 rfl (lv_at hl 0 rfl) ?_
  refine gt_0_5 C w kw_4_3 dX0_hang_7 ?_
  refine lv_aload_n hx hb dX0_hang_10 rfl (lv_at hl 0 rfl) ?_
  refine gt_0_5 C w kw_4_3 dX0_hang_11 ?_
  refine lv_imul hx hb dX0_hang_14 ?_
  refine lv_iadd hx hb dX0_hang_15 ?_
  refine va_mmax hx hb (C.ml hl) C.1.2.2.2.1 (C.ws kw_16_10) (C.ws kw_16_11) (C.ws kw_16_12) (C.ws kw_16_13) (Nat.le_of_ble_eq_true rfl) (Nat.le_of_ble_eq_true rfl) (Nat.le_refl 0) (Nat.le_refl 0) dX0_hang_16 ?_
  refine lv_idiv hx hb dX0_hang_19 h.1 ?_
  replace h := h.2
  exact ret_i C w h dX0_hang_20
def q_X0_slack (M : Mem) (post : Int32 → Mem → Prop) : Prop := q_X0_hang M  (fun r1 M2 => post (r1 / (4 : Int32)) M2)
set_option maxHeartbeats 4000000 in
set_option maxRecDepth 100000 in
theorem c_X0_slack (l : Launch) (G : GG) (hG : Ag G) (sz : Nat) (M : Mem) (post : Int32 → Mem → Prop) (h : q_X0_slack M post) : Met l yX0_slack (Cond.code yX0_slack cX0_slack 1 (some .int) :: wsL_law) (rmk 2) (va_Pc [.ref (ga G 4)] (Pw G sz M)) (va_Qi post (Qw G) (Af G sz)) 0 0 (Af G sz) := by
  refine Met.ofW (cc := cX0_slack) (maxL := 1) (ret := (some .int)) (by decide) rfl ?_
  intro p e s m args below meth c s₁ B hml hv
  obtain ⟨rfl, hsz, hE, hP⟩ := hv
  subst hsz
  have C := Cx.of (own := RX0) hG hE rfl hml B
  have w : Wd G s M s.heap [] := ⟨hP, va_S.rf⟩
  have hl := lv_entry [.ref (ga G 4)] (n := 1) (Nat.le_of_ble_eq_true rfl)
  rw [lg_entry_eq]
  generalize (lg_sl [.ref (ga G 4)] ++ List.replicate (1 - (lg_sl [.ref (ga G 4)]).length) Slot.unset).toArray = ls at hl ⊢
  have hl : lv_has ls 1 [(0, .ref (ga G 4))] := hl
  have hx := C.1.1
  have hb := C.1.2.1
  show W p l e (rmk 2) s m _ below meth c s.heap [] 0 0 _ _
  unfold q_X0_slack at h
  refine lv_aload_n hx hb dX0_slack_0 rfl (lv_at hl 0 rfl) ?_
  refine end_i w (run_V (As := []) C w hl.1 (c_X0_hang l G C.2.2.1 _ _   _ h) kw_16_16 kw_1_21 kw_16_20 kw_16_14 kw_16_15 hd_X0_hang ⟨by decide, by decide⟩ (w.recv C (i := 4) (by decide) (pE_0) rfl) rfl (Nat.le_of_ble_eq_true rfl) dX0_slack_1) (fun r1 M2 H locs h w => ?_)
  refine lv_iconst (v := 4) hx hb dX0_slack_4 (by decide) ?_
  refine lv_idiv hx hb dX0_slack_5 (by decide) ?_
  exact ret_i C w h dX0_slack_6
def q_X0_add (M : Mem) (a1 : Nat) (x2 : Int32) (post : Mem → Prop) : Prop := ∀ M1 : Mem, M1 = (mup M 4 0 ((M 4 0) + x2)) → (∀ M2 : Mem, M2 = (mup M1 4 1 ((M1 4 1) + (x2 * (M1 a1 5)))) → (∀ M3 : Mem, M3 = (mup M2 4 2 ((M2 4 2) + (x2 * (M2 a1 6)))) → (post M3)))
set_option maxHeartbeats 4000000 in
set_option maxRecDepth 100000 in
theorem c_X0_add (l : Launch) (G : GG) (hG : Ag G) (sz : Nat) (M : Mem) (a1 : Nat) (x2 : Int32) (ha1 : 30 ≤ a1 ∧ a1 < 57) (post : Mem → Prop) (h : q_X0_add M a1 x2 post) : Met l yX0_add (Cond.code yX0_add cX0_add 3 none :: wsL_law) (rmk 1) (va_Pc [.ref (ga G 4), .ref (ga G a1), .int x2] (Pw G sz M)) (va_Qv post (Qw G) (Af G sz)) 0 0 (Af G sz) := by
  refine Met.ofW (cc := cX0_add) (maxL := 3) (ret := none) (by decide) rfl ?_
  intro p e s m args below meth c s₁ B hml hv
  obtain ⟨rfl, hsz, hE, hP⟩ := hv
  subst hsz
  have C := Cx.of (own := RX0) hG hE rfl hml B
  have w : Wd G s M s.heap [] := ⟨hP, va_S.rf⟩
  have hl := lv_entry [.ref (ga G 4), .ref (ga G a1), .int x2] (n := 3) (Nat.le_of_ble_eq_true rfl)
  rw [lg_entry_eq]
  generalize (lg_sl [.ref (ga G 4), .ref (ga G a1), .int x2] ++ List.replicate (3 - (lg_sl [.ref (ga G 4), .ref (ga G a1), .int x2]).length) Slot.unset).toArray = ls at hl ⊢
  have hl : lv_has ls 3 [(0, .ref (ga G 4)), (1, .ref (ga G a1)), (2, .int x2)] := hl
  have hx := C.1.1
  have hb := C.1.2.1
  show W p l e (rmk 1) s m _ below meth c s.heap [] 0 0 _ _
  unfold q_X0_add at h
  refine lv_aload_n hx hb dX0_add_0 rfl (lv_at hl 0 rfl) ?_
  refine lv_dup hx hb dX0_add_1 rfl ?_
  refine gt_0_0 C w kw_3_22 dX0_add_2 ?_
  refine lv_iload_n hx hb dX0_add_5 rfl (lv_at hl 2 rfl) ?_
  refine lv_iadd hx hb dX0_add_6 ?_
  refine pt_0_0 C w kw_3_22 dX0_add_7 (fun H locs w => ?_)
  obtain ⟨M1, eM1⟩ : ∃ z : Mem, z = (mup M 4 0 ((M 4 0) + x2)) := ⟨_, rfl⟩
  replace w : Wd G s M1 H locs := by rw [eM1]; exact w
  replace h := h M1 eM1
  refine lv_aload_n hx hb dX0_add_10 rfl (lv_at hl 0 rfl) ?_
  refine lv_dup hx hb dX0_add_11 rfl ?_
  refine gt_0_1 C w kw_3_23 dX0_add_12 ?_
  refine lv_iload_n hx hb dX0_add_15 rfl (lv_at hl 2 rfl) ?_
  refine lv_aload_n hx hb dX0_add_16 rfl (lv_at hl 1 rfl) ?_
  refine gn_1_5 C w ha1 kn_6 dX0_add_17 ?_
  refine lv_imul hx hb dX0_add_20 ?_
  refine lv_iadd hx hb dX0_add_21 ?_
  refine pt_0_1 C w kw_3_23 dX0_add_22 (fun H locs w => ?_)
  obtain ⟨M2, eM2⟩ : ∃ z : Mem, z = (mup M1 4 1 ((M1 4 1) + (x2 * (M1 a1 5)))) := ⟨_, rfl⟩
  replace w : Wd G s M2 H locs := by rw [eM2]; exact w
  replace h := h M2 eM2
  refine lv_aload_n hx hb dX0_add_25 rfl (lv_at hl 0 rfl) ?_
  refine lv_dup hx hb dX0_add_26 rfl ?_
  refine gt_0_2 C w kw_4_0 dX0_add_27 ?_
  refine lv_iload_n hx hb dX0_add_30 rfl (lv_at hl 2 rfl) ?_
  refine lv_aload_n hx hb dX0_add_31 rfl (lv_at hl 1 rfl) ?_
  refine gn_1_6 C w ha1 kn_8 dX0_add_32 ?_
  refine lv_imul hx hb dX0_add_35 ?_
  refine lv_iadd hx hb dX0_add_36 ?_
  refine pt_0_2 C w kw_4_0 dX0_add_37 (fun H locs w => ?_)
  obtain ⟨M3, eM3⟩ : ∃ z : Mem, z = (mup M2 4 2 ((M2 4 2) + (x2 * (M2 a1 6)))) := ⟨_, rfl⟩
  replace w : Wd G s M3 H locs := by rw [eM3]; exact w
  replace h := h M3 eM3
  exact ret_v C w h dX0_add_40
def q_X0_begin (M : Mem) (a1 : Nat) (post : Mem → Prop) : Prop := ∀ M1 : Mem, M1 = (mup M 4 0 (0 : Int32)) → (∀ M2 : Mem, M2 = (mup M1 4 1 (0 : Int32)) → (∀ M3 : Mem, M3 = (mup M2 4 2 (0 : Int32)) → (∀ M4 : Mem, M4 = (mup M3 4 3 (M3 (10 + a1) 0)) → (∀ M5 : Mem, M5 = (mup M4 4 4 (M4 (10 + a1) 1)) → (∀ M6 : Mem, M6 = (mup M5 4 5 (M5 (10 + a1) 2)) → (post M6))))))
set_option maxHeartbeats 4000000 in
set_option maxRecDepth 100000 in
theorem c_X0_begin (l : Launch) (G : GG) (hG : Ag G) (sz : Nat) (M : Mem) (a1 : Nat) (ha1 : 1 ≤ a1 ∧ a1 < 4) (post : Mem → Prop) (h : q_X0_begin M a1 post) : Met l yX0_begin (Cond.code yX0_begin cX0_begin 2 none :: wsL_law) (rmk 1) (va_Pc [.ref (ga G 4), .ref (ga G a1)] (Pw G sz M)) (va_Qv post (Qw G) (Af G sz)) 0 0 (Af G sz) := by
  refine Met.ofW (cc := cX0_begin) (maxL := 2) (ret := none) (by decide) rfl ?_
  intro p e s m args below meth c s₁ B hml hv
  obtain ⟨rfl, hsz, hE, hP⟩ := hv
  subst hsz
  have C := Cx.of (own := RX0) hG hE rfl hml B
  have w : Wd G s M s.heap [] := ⟨hP, va_S.rf⟩
  have hl := lv_entry [.ref (ga G 4), .ref (ga G a1)] (n := 2) (Nat.le_of_ble_eq_true rfl)
  rw [lg_entry_eq]
  generalize (lg_sl [.ref (ga G 4), .ref (ga G a1)] ++ List.replicate (2 - (lg_sl [.ref (ga G 4), .ref (ga G a1)]).length) Slot.unset).toArray = ls at hl ⊢
  have hl : lv_has ls 2 [(0, .ref (ga G 4)), (1, .ref (ga G a1))] := hl
  have hx := C.1.1
  have hb := C.1.2.1
  show W p l e (rmk 1) s m _ below meth c s.heap [] 0 0 _ _
  unfold q_X0_begin at h
  refine lv_aload_n hx hb dX0_begin_0 rfl (lv_at hl 0 rfl) ?_
  refine lv_iconst (v := 0) hx hb dX0_begin_1 (by decide) ?_
  refine pt_0_0 C w kw_3_22 dX0_begin_2 (fun H locs w => ?_)
  obtain ⟨M1, eM1⟩ : ∃ z : Mem, z = (mup M 4 0 (0 : Int32)) := ⟨_, rfl⟩
  replace w : Wd G s M1 H locs := by rw [eM1]; exact w
  replace h := h M1 eM1
  refine lv_aload_n hx hb dX0_begin_5 rfl (lv_at hl 0 rfl) ?_
  refine lv_iconst (v := 0) hx hb dX0_begin_6 (by decide) ?_
  refine pt_0_1 C w kw_3_23 dX0_begin_7 (fun H locs w => ?_)
  obtain ⟨M2, eM2⟩ : ∃ z : Mem, z = (mup M1 4 1 (0 : Int32)) := ⟨_, rfl⟩
  replace w : Wd G s M2 H locs := by rw [eM2]; exact w
  replace h := h M2 eM2
  refine lv_aload_n hx hb dX0_begin_10 rfl (lv_at hl 0 rfl) ?_
  refine lv_iconst (v := 0) hx hb dX0_begin_11 (by decide) ?_
  refine pt_0_2 C w kw_4_0 dX0_begin_12 (fun H locs w => ?_)
  obtain ⟨M3, eM3⟩ : ∃ z : Mem, z = (mup M2 4 2 (0 : Int32)) := ⟨_, rfl⟩
  replace w : Wd G s M3 H locs := by rw [eM3]; exact w
  replace h := h M3 eM3
  refine lv_aload_n hx hb dX0_begin_15 rfl (lv_at hl 0 rfl) ?_
  refine lv_aload_n hx hb dX0_begin_16 rfl (lv_at hl 1 rfl) ?_
  refine gn_4_2 C w ha1 kn_15 dX0_begin_17 ?_
  refine lv_iconst (v := 0) hx hb dX0_begin_20 (by decide) ?_
  refine pw_ld C w (i := (10 + a1)) (by omega) (pE_st (by omega)) (vl (x := (0 : Int32)) (by decide)) (k := 0) (by decide) dX0_begin_21 ?_
  refine pt_0_3 C w kw_4_1 dX0_begin_22 (fun H locs w => ?_)
  obtain ⟨M4, eM4⟩ : ∃ z : Mem, z = (mup M3 4 3 (M3 (10 + a1) 0)) := ⟨_, rfl⟩
  replace w : Wd G s M4 H locs := by rw [eM4]; exact w
  replace h := h M4 eM4
  refine lv_aload_n hx hb dX0_begin_25 rfl (lv_at hl 0 rfl) ?_
  refine lv_aload_n hx hb dX0_begin_26 rfl (lv_at hl 1 rfl) ?_
  refine gn_4_2 C w ha1 kn_15 dX0_begin_27 ?_
  refine lv_iconst (v := 1) hx hb dX0_begin_30 (by decide) ?_
  refine pw_ld C w (i := (10 + a1)) (by omega) (pE_st (by omega)) (vl (x := (1 : Int32)) (by decide)) (k := 1) (by decide) dX0_begin_31 ?_
  refine pt_0_4 C w kw_4_2 dX0_begin_32 (fun H locs w => ?_)
  obtain ⟨M5, eM5⟩ : ∃ z : Mem, z = (mup M4 4 4 (M4 (10 + a1) 1)) := ⟨_, rfl⟩
  replace w : Wd G s M5 H locs := by rw [eM5]; exact w
  replace h := h M5 eM5
  refine lv_aload_n hx hb dX0_begin_35 rfl (lv_at hl 0 rfl) ?_
  refine lv_aload_n hx hb dX0_begin_36 rfl (lv_at hl 1 rfl) ?_
  refine gn_4_2 C w ha1 kn_15 dX0_begin_37 ?_
  refine lv_iconst (v := 2) hx hb dX0_begin_40 (by decide) ?_
  refine pw_ld C w (i := (10 + a1)) (by omega) (pE_st (by omega)) (vl (x := (2 : Int32)) (by decide)) (k := 2) (by decide) dX0_begin_41 ?_
  refine pt_0_5 C w kw_4_3 dX0_begin_42 (fun H locs w => ?_)
  obtain ⟨M6, eM6⟩ : ∃ z : Mem, z = (mup M5 4 5 (M5 (10 + a1) 2)) := ⟨_, rfl⟩
  replace w : Wd G s M6 H locs := by rw [eM6]; exact w
  replace h := h M6 eM6
  exact ret_v C w h dX0_begin_45
def j_X4_hasLine_21 (post : Int32 → Mem → Prop) (M : Mem) (y0 : Int32) : Prop := (y0 = 0 ∨ y0 = 1) ∧ post y0 M
def j_X4_hasLine_20 (post : Int32 → Mem → Prop) (M : Mem) : Prop := j_X4_hasLine_21 post M (0 : Int32)
def q_X4_hasLine (M : Mem) (a0 : Nat) (post : Int32 → Mem → Prop) : Prop := ((M a0 1) ≤ 0 → (j_X4_hasLine_20 post M)) ∧ (¬ ((M a0 1) ≤ 0) → (((M a0 7) = (-4 : Int32) → (j_X4_hasLine_21 post M (1 : Int32))) ∧ (¬ ((M a0 7) = (-4 : Int32)) → (j_X4_hasLine_20 post M))))
set_option maxHeartbeats 4000000 in
set_option maxRecDepth 100000 in
theorem t_X4_hasLine_21 (C : Cx G p s m args meth c RX4 cX4_hasLine 1 (some .boolean)) {post : Int32 → Mem → Prop} (M : Mem) (y0 : Int32) {H : Heap} {locs : List Loc} {ls : Array Slot} (w : Wd G s M H locs) (hl : lv_has ls 1 []) (h : j_X4_hasLine_21 post M y0) : W p l e (rmk 1) s m args below meth c H locs 0 0 (MQ below (va_Qi post (Qw G) (Af G s.heap.size)) args s 0 0 (Af G s.heap.size)) (F0 m 21 ls [.int y0]) := by
  have hx := C.1.1
  have hb := C.1.2.1
  unfold j_X4_hasLine_21 at h
  exact ret_z C w h dX4_hasLine_21
set_option maxHeartbeats 4000000 in
set_option maxRecDepth 100000 in
theorem t_X4_hasLine_20 (C : Cx G p s m args meth c RX4 cX4_hasLine 1 (some .boolean)) {post : Int32 → Mem → Prop} (M : Mem) {H : Heap} {locs : List Loc} {ls : Array Slot} (w : Wd G s M H locs) (hl : lv_has ls 1 []) (h : j_X4_hasLine_20 post M) : W p l e (rmk 1) s m args below meth c H locs 0 0 (MQ below (va_Qi post (Qw G) (Af G s.heap.size)) args s 0 0 (Af G s.heap.size)) (F0 m 20 ls []) := by
  have hx := C.1.1
  have hb := C.1.2.1
  unfold j_X4_hasLine_20 at h
  refine lv_iconst (v := 0) hx hb dX4_hasLine_20 (by decide) ?_
  exact t_X4_hasLine_21 C M (0 : Int32)  w (lv_sub hl [] rfl) h
set_option maxHeartbeats 4000000 in
set_option maxRecDepth 100000 in
theorem c_X4_hasLine (l : Launch) (G : GG) (hG : Ag G) (sz : Nat) (M : Mem) (a0 : Nat) (ha0 : 1 ≤ a0 ∧ a0 < 4) (post : Int32 → Mem → Prop) (h : q_X4_hasLine M a0 post) : Met l yX4_hasLine (Cond.code yX4_hasLine cX4_hasLine 1 (some .boolean) :: wsL_law) (rmk 1) (va_Pc [.ref (ga G a0)] (Pw G sz M)) (va_Qi post (Qw G) (Af G sz)) 0 0 (Af G sz) := by
  refine Met.ofW (cc := cX4_hasLine) (maxL := 1) (ret := (some .boolean)) (by decide) rfl ?_
  intro p e s m args below meth c s₁ B hml hv
  obtain ⟨rfl, hsz, hE, hP⟩ := hv
  subst hsz
  have C := Cx.of (own := RX4) hG hE rfl hml B
  have w : Wd G s M s.heap [] := ⟨hP, va_S.rf⟩
  have hl := lv_entry [.ref (ga G a0)] (n := 1) (Nat.le_of_ble_eq_true rfl)
  rw [lg_entry_eq]
  generalize (lg_sl [.ref (ga G a0)] ++ List.replicate (1 - (lg_sl [.ref (ga G a0)]).length) Slot.unset).toArray = ls at hl ⊢
  have hl : lv_has ls 1 [(0, .ref (ga G a0))] := hl
  have hx := C.1.1
  have hb := C.1.2.1
  show W p l e (rmk 1) s m _ below meth c s.heap [] 0 0 _ _
  unfold q_X4_hasLine at h
  refine lv_aload_n hx hb dX4_hasLine_0 rfl (lv_at hl 0 rfl) ?_
  refine gt_4_1 C w ha0 kw_2_17 dX4_hasLine_1 ?_
  refine lv_if_le (tgt := 20) hx hb dX4_hasLine_4 (by decide) (fun c1 => ?_) (fun c1 => ?_)
  · replace h := h.1 c1
    exact t_X4_hasLine_20 C M   w (lv_sub hl [] rfl) h
  replace h := h.2 c1
  refine lv_aload_n hx hb dX4_hasLine_7 rfl (lv_at hl 0 rfl) ?_
  refine gt_4_7 C w ha0 kw_3_5 dX4_hasLine_8 ?_
  refine lv_bipush (v := -4) hx hb dX4_hasLine_11 (by decide) ?_
  refine lv_icmp_ne (tgt := 20) hx hb dX4_hasLine_13 (by decide) (fun c2 => ?_) (fun c2 => ?_)
  · replace h := h.2 c2
    exact t_X4_hasLine_20 C M   w (lv_sub hl [] rfl) h
  replace h := h.1 c2
  refine lv_iconst (v := 1) hx hb dX4_hasLine_16 (by decide) ?_
  refine lv_goto (tgt := 21) hx hb dX4_hasLine_17 (by decide) ?_
  exact t_X4_hasLine_21 C M (1 : Int32)  w (lv_sub hl [] rfl) h
def b_X5_layLine_25 (k25 : Mem → Int32 → Prop) (post : Int32 → Mem → Prop) (M : Mem) (x1 : Int32) : Prop := ((M 1 1) ≤ x1 → (post (1 : Int32) M)) ∧ (¬ ((M 1 1) ≤ x1) → (vp_in x1 6 ∧ (q_X0_add M (38 + x1.toNatClampNeg) (M (38 + x1.toNatClampNeg) 2) (fun M4 => k25 M4 (x1 + (1 : Int32))))))
def lp_X5_layLine_25 (post : Int32 → Mem → Prop) : Nat → Mem → Int32 → Prop
  | 0 => fun _ _ => False
  | n + 1 => fun M x1 => b_X5_layLine_25 (lp_X5_layLine_25 post n) post M x1
def q_X5_layLine (M : Mem) (post : Int32 → Mem → Prop) : Prop := q_X4_hasLine M 1 (fun r5 M6 => (r5 = 0 → (post (0 : Int32) M6)) ∧ (¬ (r5 = 0) → (q_X0_begin M6 1 (fun M9 => ∃ n, lp_X5_layLine_25 post n M9 (0 : Int32)))))
set_option maxHeartbeats 4000000 in
set_option maxRecDepth 100000 in
theorem t_X5_layLine_25 (C : Cx G p s m args meth c RX5 cX5_layLine 2 (some .boolean)) {post : Int32 → Mem → Prop} : ∀ (n : Nat) (M : Mem) (x1 : Int32) {H : Heap} {locs : List Loc} {ls : Array Slot} (w : Wd G s M H locs) (hl : lv_has ls 2 [(0, .ref (ga G 0)), (1, .int x1)]) (h : lp_X5_layLine_25 post n M x1), W p l e (rmk 2) s m args below meth c H locs 0 0 (MQ below (va_Qi post (Qw G) (Af G s.heap.size)) args s 0 0 (Af G s.heap.size)) (F0 m 25 ls []) := by
  have hx := C.1.1
  have hb := C.1.2.1
  intro n9
  induction n9 with
  | zero => intro M x1 H locs ls w hl h; exact absurd h id
  | succ n9 ih9 =>
    intro M x1 H locs ls w hl h
    have hk25 : ∀ (M : Mem) (x1 : Int32) (H : Heap) (locs : List Loc) (ls : Array Slot), Wd G s M H locs → lv_has ls 2 [(0, .ref (ga G 0)), (1, .int x1)] → lp_X5_layLine_25 post n9 M x1 → W p l e (rmk 2) s m args below meth c H locs 0 0 (MQ below (va_Qi post (Qw G) (Af G s.heap.size)) args s 0 0 (Af G s.heap.size)) (F0 m 25 ls []) := fun M x1 H locs ls w hl h => ih9 M x1 w hl h
    replace h : b_X5_layLine_25 (lp_X5_layLine_25 post n9) post M x1 := h
    unfold b_X5_layLine_25 at h
    refine lv_iload_n hx hb dX5_layLine_25 rfl (lv_at hl 1 rfl) ?_
    refine lv_aload_n hx hb dX5_layLine_26 rfl (lv_at hl 0 rfl) ?_
    refine gt_5_0 C w kw_1_16 dX5_layLine_27 ?_
    refine gn_4_1 C w ⟨by decide, by decide⟩ kn_14 dX5_layLine_30 ?_
    refine lv_icmp_ge (tgt := 70) hx hb dX5_layLine_33 (by decide) (fun c1 => ?_) (fun c1 => ?_)
    · replace h := h.1 c1
      refine lv_iconst (v := 1) hx hb dX5_layLine_70 (by decide) ?_
      exact ret_z C w ⟨Or.inr rfl, h⟩ dX5_layLine_71
    replace h := h.2 c1
    refine lv_aload_n hx hb dX5_layLine_36 rfl (lv_at hl 0 rfl) ?_
    refine gt_5_3 C w kw_1_22 dX5_layLine_37 ?_
    refine lv_aload_n hx hb dX5_layLine_40 rfl (lv_at hl 0 rfl) ?_
    refine gt_5_0 C w kw_1_16 dX5_layLine_41 ?_
    refine gn_4_0 C w ⟨by decide, by decide⟩ kn_13 dX5_layLine_44 ?_
    refine lv_iload_n hx hb dX5_layLine_47 rfl (lv_at hl 1 rfl) ?_
    have hin2 := h.1
    replace h := h.2
    have hz_hin2 := in_lt hin2
    refine pw_ldP C w (i := 8) ⟨by decide, by decide⟩ hin2 dX5_layLine_48 (j := (38 + x1.toNatClampNeg)) (by omega) ?_
    refine lv_aload_n hx hb dX5_layLine_49 rfl (lv_at hl 0 rfl) ?_
    refine gt_5_0 C w kw_1_16 dX5_layLine_50 ?_
    refine gn_4_0 C w ⟨by decide, by decide⟩ kn_13 dX5_layLine_53 ?_
    refine lv_iload_n hx hb dX5_layLine_56 rfl (lv_at hl 1 rfl) ?_
    refine pw_ldP C w (i := 8) ⟨by decide, by decide⟩ hin2 dX5_layLine_57 (j := (38 + x1.toNatClampNeg)) (by omega) ?_
    refine gn_1_2 C w (by omega) kn_3 dX5_layLine_58 ?_
    refine end_v w (run_VN (As := [.ref (ga G (38 + x1.toNatClampNeg)), .int (M (38 + x1.toNatClampNeg) 2)]) C w hl.1 (c_X0_add l G C.2.2.1 _ _ (38 + x1.toNatClampNeg) (M (38 + x1.toNatClampNeg) 2) (by omega) _ h) kw_16_6 kw_1_21 kn_57 kw_16_4 kw_16_5 hd_X0_add ⟨by decide, by decide⟩ (w.recv C (i := 4) (by decide) (pE_0) rfl) rfl (Nat.le_of_ble_eq_true rfl) dX5_layLine_61) (fun M4 H locs h w => ?_)
    refine lv_iinc (v := (x1 + (1 : Int32))) (lv' := [(1, .int (x1 + (1 : Int32))), (0, .ref (ga G 0))]) hx hb dX5_layLine_64 hl (k := 1) rfl rfl (by decide) rfl (fun ls hl => ?_)
    refine lv_goto (tgt := 25) hx hb dX5_layLine_67 (by decide) ?_
    exact hk25 M4 (x1 + (1 : Int32)) _ _ _  w (lv_sub hl [1, 0] rfl) h
set_option maxHeartbeats 4000000 in
set_option maxRecDepth 100000 in
theorem c_X5_layLine (l : Launch) (G : GG) (hG : Ag G) (sz : Nat) (M : Mem) (post : Int32 → Mem → Prop) (h : q_X5_layLine M post) : Met l yX5_layLine (Cond.code yX5_layLine cX5_layLine 2 (some .boolean) :: wsL_law) (rmk 2) (va_Pc [.ref (ga G 0)] (Pw G sz M)) (va_Qi post (Qw G) (Af G sz)) 0 0 (Af G sz) := by
  refine Met.ofW (cc := cX5_layLine) (maxL := 2) (ret := (some .boolean)) (by decide) rfl ?_
  intro p e s m args below meth c s₁ B hml hv
  obtain ⟨rfl, hsz, hE, hP⟩ := hv
  subst hsz
  have C := Cx.of (own := RX5) hG hE rfl hml B
  have w : Wd G s M s.heap [] := ⟨hP, va_S.rf⟩
  have hl := lv_entry [.ref (ga G 0)] (n := 2) (Nat.le_of_ble_eq_true rfl)
  rw [lg_entry_eq]
  generalize (lg_sl [.ref (ga G 0)] ++ List.replicate (2 - (lg_sl [.ref (ga G 0)]).length) Slot.unset).toArray = ls at hl ⊢
  have hl : lv_has ls 2 [(0, .ref (ga G 0))] := hl
  have hx := C.1.1
  have hb := C.1.2.1
  show W p l e (rmk 2) s m _ below meth c s.heap [] 0 0 _ _
  unfold q_X5_layLine at h
  refine lv_aload_n hx hb dX5_layLine_0 rfl (lv_at hl 0 rfl) ?_
  refine gt_5_0 C w kw_1_16 dX5_layLine_1 ?_
  refine end_i w (run_VN (As := []) C w hl.1 (c_X4_hasLine l G C.2.2.1 _ _ 1 ⟨by decide, by decide⟩ _ h) kw_16_0 kw_1_15 kn_55 kw_15_22 kw_15_23 hd_X4_hasLine ⟨by decide, by decide⟩ (w.recv C (i := 1) (by decide) (pE_4 ⟨by decide, by decide⟩) rfl) rfl (Nat.le_of_ble_eq_true rfl) dX5_layLine_4) (fun r5 M6 H locs h w => ?_)
  refine lv_if_ne (tgt := 12) hx hb dX5_layLine_7 (by decide) (fun c7 => ?_) (fun c7 => ?_)
  · replace h := h.2 c7
    refine lv_aload_n hx hb dX5_layLine_12 rfl (lv_at hl 0 rfl) ?_
    refine gt_5_3 C w kw_1_22 dX5_layLine_13 ?_
    refine lv_aload_n hx hb dX5_layLine_16 rfl (lv_at hl 0 rfl) ?_
    refine gt_5_0 C w kw_1_16 dX5_layLine_17 ?_
    refine end_v w (run_VN (As := [.ref (ga G 1)]) C w hl.1 (c_X0_begin l G C.2.2.1 _ _ 1 ⟨by decide, by decide⟩ _ h) kw_16_3 kw_1_21 kn_56 kw_16_1 kw_16_2 hd_X0_begin ⟨by decide, by decide⟩ (w.recv C (i := 4) (by decide) (pE_0) rfl) rfl (Nat.le_of_ble_eq_true rfl) dX5_layLine_20) (fun M9 H locs h w => ?_)
    refine lv_iconst (v := 0) hx hb dX5_layLine_23 (by decide) ?_
    refine lv_istore_n (lv' := [(1, .int (0 : Int32)), (0, .ref (ga G 0))]) hx hb dX5_layLine_24 rfl hl (by decide) rfl (fun ls hl => ?_)
    obtain ⟨n, h⟩ := h
    exact t_X5_layLine_25 C n M9 (0 : Int32)  w (lv_sub hl [1, 0] rfl) h
  replace h := h.1 c7
  refine lv_iconst (v := 0) hx hb dX5_layLine_10 (by decide) ?_
  exact ret_z C w ⟨Or.inl rfl, h⟩ dX5_layLine_11
def j_X5_line_9 (post : Int32 → Mem → Prop) (M : Mem) : Prop := post (-1 : Int32) M
def q_X5_line (M : Mem) (x1 : Int32) (post : Int32 → Mem → Prop) : Prop := (x1 < 0 → (j_X5_line_9 post M)) ∧ (¬ (x1 < 0) → ((x1 ≤ (5 : Int32) → (q_X5_layLine M  (fun r3 M4 => (r3 = 0 → (post (-3 : Int32) M4)) ∧ (¬ (r3 = 0) → ((x1 = (0 : Int32) → (post (M4 4 0) M4)) ∧ (¬ x1 = (0 : Int32) → ((x1 = (1 : Int32) → (post (M4 4 1) M4)) ∧ (¬ x1 = (1 : Int32) → ((x1 = (2 : Int32) → (q_X0_giveOfAll M4  (fun r9 M10 => post r9 M10))) ∧ (¬ x1 = (2 : Int32) → ((x1 = (3 : Int32) → (q_X0_hang M4  (fun r12 M13 => post r12 M13))) ∧ (¬ x1 = (3 : Int32) → ((x1 = (4 : Int32) → (q_X0_slack M4  (fun r15 M16 => post r15 M16))) ∧ (¬ x1 = (4 : Int32) → (q_X0_base M4  (fun r17 M18 => post r17 M18)))))))))))))))) ∧ (¬ (x1 ≤ (5 : Int32)) → (j_X5_line_9 post M))))
set_option maxHeartbeats 4000000 in
set_option maxRecDepth 100000 in
theorem t_X5_line_9 (C : Cx G p s m args meth c RX5 cX5_line 2 (some .int)) {post : Int32 → Mem → Prop} (M : Mem) {H : Heap} {locs : List Loc} {ls : Array Slot} (w : Wd G s M H locs) (hl : lv_has ls 2 []) (h : j_X5_line_9 post M) : W p l e (rmk 3) s m args below meth c H locs 0 0 (MQ below (va_Qi post (Qw G) (Af G s.heap.size)) args s 0 0 (Af G s.heap.size)) (F0 m 9 ls []) := by
  have hx := C.1.1
  have hb := C.1.2.1
  unfold j_X5_line_9 at h
  refine lv_iconst (v := -1) hx hb dX5_line_9 (by decide) ?_
  exact ret_i C w h dX5_line_10
set_option maxHeartbeats 4000000 in
set_option maxRecDepth 100000 in
theorem c_X5_line (l : Launch) (G : GG) (hG : Ag G) (sz : Nat) (M : Mem) (x1 : Int32) (post : Int32 → Mem → Prop) (h : q_X5_line M x1 post) : Met l yX5_line (Cond.code yX5_line cX5_line 2 (some .int) :: wsL_law) (rmk 3) (va_Pc [.ref (ga G 0), .int x1] (Pw G sz M)) (va_Qi post (Qw G) (Af G sz)) 0 0 (Af G sz) := by
  refine Met.ofW (cc := cX5_line) (maxL := 2) (ret := (some .int)) (by decide) rfl ?_
  intro p e s m args below meth c s₁ B hml hv
  obtain ⟨rfl, hsz, hE, hP⟩ := hv
  subst hsz
  have C := Cx.of (own := RX5) hG hE rfl hml B
  have w : Wd G s M s.heap [] := ⟨hP, va_S.rf⟩
  have hl := lv_entry [.ref (ga G 0), .int x1] (n := 2) (Nat.le_of_ble_eq_true rfl)
  rw [lg_entry_eq]
  generalize (lg_sl [.ref (ga G 0), .int x1] ++ List.replicate (2 - (lg_sl [.ref (ga G 0), .int x1]).length) Slot.unset).toArray = ls at hl ⊢
  have hl : lv_has ls 2 [(0, .ref (ga G 0)), (1, .int x1)] := hl
  have hx := C.1.1
  have hb := C.1.2.1
  show W p l e (rmk 3) s m _ below meth c s.heap [] 0 0 _ _
  unfold q_X5_line at h
  refine lv_iload_n hx hb dX5_line_0 rfl (lv_at hl 1 rfl) ?_
  refine lv_if_lt (tgt := 9) hx hb dX5_line_1 (by decide) (fun c1 => ?_) (fun c1 => ?_)
  · replace h := h.1 c1
    exact t_X5_line_9 C M   w (lv_sub hl [] rfl) h
  replace h := h.2 c1
  refine lv_iload_n hx hb dX5_line_4 rfl (lv_at hl 1 rfl) ?_
  refine lv_iconst (v := 5) hx hb dX5_line_5 (by decide) ?_
  refine lv_icmp_le (tgt := 11) hx hb dX5_line_6 (by decide) (fun c2 => ?_) (fun c2 => ?_)
  · replace h := h.1 c2
    refine lv_aload_n hx hb dX5_line_11 rfl (lv_at hl 0 rfl) ?_
    refine end_i w (run_V (As := []) C w hl.1 (c_X5_layLine l G C.2.2.1 _ _   _ h) kw_15_21 kw_1_2 kw_15_18 kw_15_19 kw_15_20 hd_X5_layLine ⟨by decide, by decide⟩ (w.recv C (i := 0) (by decide) (pE_5) rfl) rfl (Nat.le_of_ble_eq_true rfl) dX5_line_12) (fun r3 M4 H locs h w => ?_)
    refine lv_if_ne (tgt := 21) hx hb dX5_line_15 (by decide) (fun c5 => ?_) (fun c5 => ?_)
    · replace h := h.2 c5
      refine lv_iload_n hx hb dX5_line_21 rfl (lv_at hl 1 rfl) ?_
      by_cases c6 : x1 = (0 : Int32)
      · replace h := h.1 c6
        refine lv_tableIn (off := 34) (tgt := 56) hx hb dX5_line_22 (by rw [c6]; decide) (by rw [c6]; decide) (by rw [c6]; decide) (by decide) ?_
        refine lv_aload_n hx hb dX5_line_56 rfl (lv_at hl 0 rfl) ?_
        refine gt_5_3 C w kw_1_22 dX5_line_57 ?_
        refine gn_0_0 C w kn_24 dX5_line_60 ?_
        exact ret_i C w h dX5_line_63
      replace h := h.2 c6
      by_cases c7 : x1 = (1 : Int32)
      · replace h := h.1 c7
        refine lv_tableIn (off := 42) (tgt := 64) hx hb dX5_line_22 (by rw [c7]; decide) (by rw [c7]; decide) (by rw [c7]; decide) (by decide) ?_
        refine lv_aload_n hx hb dX5_line_64 rfl (lv_at hl 0 rfl) ?_
        refine gt_5_3 C w kw_1_22 dX5_line_65 ?_
        refine gn_0_1 C w kn_25 dX5_line_68 ?_
        exact ret_i C w h dX5_line_71
      replace h := h.2 c7
      by_cases c8 : x1 = (2 : Int32)
      · replace h := h.1 c8
        refine lv_tableIn (off := 50) (tgt := 72) hx hb dX5_line_22 (by rw [c8]; decide) (by rw [c8]; decide) (by rw [c8]; decide) (by decide) ?_
        refine lv_aload_n hx hb dX5_line_72 rfl (lv_at hl 0 rfl) ?_
        refine gt_5_3 C w kw_1_22 dX5_line_73 ?_
        refine end_i w (run_VN (As := []) C w hl.1 (c_X0_giveOfAll l G C.2.2.1 _ _   _ h) kw_16_9 kw_1_21 kn_58 kw_16_7 kw_16_8 hd_X0_giveOfAll ⟨by decide, by decide⟩ (w.recv C (i := 4) (by decide) (pE_0) rfl) rfl (Nat.le_of_ble_eq_true rfl) dX5_line_76) (fun r9 M10 H locs h w => ?_)
        exact ret_i C w h dX5_line_79
      replace h := h.2 c8
      by_cases c11 : x1 = (3 : Int32)
      · replace h := h.1 c11
        refine lv_tableIn (off := 58) (tgt := 80) hx hb dX5_line_22 (by rw [c11]; decide) (by rw [c11]; decide) (by rw [c11]; decide) (by decide) ?_
        refine lv_aload_n hx hb dX5_line_80 rfl (lv_at hl 0 rfl) ?_
        refine gt_5_3 C w kw_1_22 dX5_line_81 ?_
        refine end_i w (run_VN (As := []) C w hl.1 (c_X0_hang l G C.2.2.1 _ _   _ h) kw_16_16 kw_1_21 kn_59 kw_16_14 kw_16_15 hd_X0_hang ⟨by decide, by decide⟩ (w.recv C (i := 4) (by decide) (pE_0) rfl) rfl (Nat.le_of_ble_eq_true rfl) dX5_line_84) (fun r12 M13 H locs h w => ?_)
        exact ret_i C w h dX5_line_87
      replace h := h.2 c11
      by_cases c14 : x1 = (4 : Int32)
      · replace h := h.1 c14
        refine lv_tableIn (off := 66) (tgt := 88) hx hb dX5_line_22 (by rw [c14]; decide) (by rw [c14]; decide) (by rw [c14]; decide) (by decide) ?_
        refine lv_aload_n hx hb dX5_line_88 rfl (lv_at hl 0 rfl) ?_
        refine gt_5_3 C w kw_1_22 dX5_line_89 ?_
        refine end_i w (run_VN (As := []) C w hl.1 (c_X0_slack l G C.2.2.1 _ _   _ h) kw_16_19 kw_1_21 kn_60 kw_16_17 kw_16_18 hd_X0_slack ⟨by decide, by decide⟩ (w.recv C (i := 4) (by decide) (pE_0) rfl) rfl (Nat.le_of_ble_eq_true rfl) dX5_line_92) (fun r15 M16 H locs h w => ?_)
        exact ret_i C w h dX5_line_95
      replace h := h.2 c14
      have nc6 := lv_neT c6 (a := 0) (by decide)
      have nc7 := lv_neT c7 (a := 1) (by decide)
      have nc8 := lv_neT c8 (a := 2) (by decide)
      have nc11 := lv_neT c11 (a := 3) (by decide)
      have nc14 := lv_neT c14 (a := 4) (by decide)
      refine lv_tableOut (tgt := 96) hx hb dX5_line_22 (by omega) (by decide) ?_
      refine lv_aload_n hx hb dX5_line_96 rfl (lv_at hl 0 rfl) ?_
      refine gt_5_3 C w kw_1_22 dX5_line_97 ?_
      refine end_i w (run_VN (As := []) C w hl.1 (c_X0_base l G C.2.2.1 _ _   _ h) kw_16_23 kw_1_21 kn_61 kw_16_21 kw_16_22 hd_X0_base ⟨by decide, by decide⟩ (w.recv C (i := 4) (by decide) (pE_0) rfl) rfl (Nat.le_of_ble_eq_true rfl) dX5_line_100) (fun r17 M18 H locs h w => ?_)
      exact ret_i C w h dX5_line_103
    replace h := h.1 c5
    refine lv_bipush (v := -3) hx hb dX5_line_18 (by decide) ?_
    exact ret_i C w h dX5_line_20
  replace h := h.2 c2
  exact t_X5_line_9 C M   w (lv_sub hl [] rfl) h
def q_X6_allPieces (M : Mem) (post : Int32 → Mem → Prop) : Prop := post (((1 : Int32) <<< ((M 58 0) &&& 31)) - (1 : Int32)) M
set_option maxHeartbeats 4000000 in
set_option maxRecDepth 100000 in
theorem c_X6_allPieces (l : Launch) (G : GG) (hG : Ag G) (sz : Nat) (M : Mem) (post : Int32 → Mem → Prop) (h : q_X6_allPieces M post) : Met l yX6_allPieces (Cond.code yX6_allPieces cX6_allPieces 1 (some .int) :: wsL_law) (rmk 1) (va_Pc [.ref (ga G 57)] (Pw G sz M)) (va_Qi post (Qw G) (Af G sz)) 0 0 (Af G sz) := by
  refine Met.ofW (cc := cX6_allPieces) (maxL := 1) (ret := (some .int)) (by decide) rfl ?_
  intro p e s m args below meth c s₁ B hml hv
  obtain ⟨rfl, hsz, hE, hP⟩ := hv
  subst hsz
  have C := Cx.of (own := RX6) hG hE rfl hml B
  have w : Wd G s M s.heap [] := ⟨hP, va_S.rf⟩
  have hl := lv_entry [.ref (ga G 57)] (n := 1) (Nat.le_of_ble_eq_true rfl)
  rw [lg_entry_eq]
  generalize (lg_sl [.ref (ga G 57)] ++ List.replicate (1 - (lg_sl [.ref (ga G 57)]).length) Slot.unset).toArray = ls at hl ⊢
  have hl : lv_has ls 1 [(0, .ref (ga G 57))] := hl
  have hx := C.1.1
  have hb := C.1.2.1
  show W p l e (rmk 1) s m _ below meth c s.heap [] 0 0 _ _
  unfold q_X6_allPieces at h
  refine lv_iconst (v := 1) hx hb dX6_allPieces_0 (by decide) ?_
  refine lv_aload_n hx hb dX6_allPieces_1 rfl (lv_at hl 0 rfl) ?_
  refine gt_6_0 C w kw_5_0 dX6_allPieces_2 ?_
  refine lv_iconst (v := 0) hx hb dX6_allPieces_5 (by decide) ?_
  refine pw_ld C w (i := 58) (by decide) pE_58 (vl (x := (0 : Int32)) (by decide)) (k := 0) (by decide) dX6_allPieces_6 ?_
  refine lv_ishl hx hb dX6_allPieces_7 ?_
  refine lv_iconst (v := 1) hx hb dX6_allPieces_8 (by decide) ?_
  refine lv_isub hx hb dX6_allPieces_9 ?_
  exact ret_i C w h dX6_allPieces_10
def q_X6_baseOf (M : Mem) (post : Int32 → Mem → Prop) : Prop := post ((((2 : Int32) * (M 58 7)) * (M 58 7)) + ((M 57 19) / (10 : Int32))) M
set_option maxHeartbeats 4000000 in
set_option maxRecDepth 100000 in
theorem c_X6_baseOf (l : Launch) (G : GG) (hG : Ag G) (sz : Nat) (M : Mem) (post : Int32 → Mem → Prop) (h : q_X6_baseOf M post) : Met l yX6_baseOf (Cond.code yX6_baseOf cX6_baseOf 1 (some .int) :: wsL_law) (rmk 1) (va_Pc [.ref (ga G 57)] (Pw G sz M)) (va_Qi post (Qw G) (Af G sz)) 0 0 (Af G sz) := by
  refine Met.ofW (cc := cX6_baseOf) (maxL := 1) (ret := (some .int)) (by decide) rfl ?_
  intro p e s m args below meth c s₁ B hml hv
  obtain ⟨rfl, hsz, hE, hP⟩ := hv
  subst hsz
  have C := Cx.of (own := RX6) hG hE rfl hml B
  have w : Wd G s M s.heap [] := ⟨hP, va_S.rf⟩
  have hl := lv_entry [.ref (ga G 57)] (n := 1) (Nat.le_of_ble_eq_true rfl)
  rw [lg_entry_eq]
  generalize (lg_sl [.ref (ga G 57)] ++ List.replicate (1 - (lg_sl [.ref (ga G 57)]).length) Slot.unset).toArray = ls at hl ⊢
  have hl : lv_has ls 1 [(0, .ref (ga G 57))] := hl
  have hx := C.1.1
  have hb := C.1.2.1
  show W p l e (rmk 1) s m _ below meth c s.heap [] 0 0 _ _
  unfold q_X6_baseOf at h
  refine lv_iconst (v := 2) hx hb dX6_baseOf_0 (by decide) ?_
  refine lv_aload_n hx hb dX6_baseOf_1 rfl (lv_at hl 0 rfl) ?_
  refine gt_6_0 C w kw_5_0 dX6_baseOf_2 ?_
  refine lv_bipush (v := 7) hx hb dX6_baseOf_5 (by decide) ?_
  refine pw_ld C w (i := 58) (by decide) pE_58 (vl (x := (7 : Int32)) (by decide)) (k := 7) (by decide) dX6_baseOf_7 ?_
  refine lv_imul hx hb dX6_baseOf_8 ?_
  refine lv_aload_n hx hb dX6_baseOf_9 rfl (lv_at hl 0 rfl) ?_
  refine gt_6_0 C w kw_5_0 dX6_baseOf_10 ?_
  refine lv_bipush (v := 7) hx hb dX6_baseOf_13 (by decide) ?_
  refine pw_ld C w (i := 58) (by decide) pE_58 (vl (x := (7 : Int32)) (by decide)) (k := 7) (by decide) dX6_baseOf_15 ?_
  refine lv_imul hx hb dX6_baseOf_16 ?_
  refine lv_aload_n hx hb dX6_baseOf_17 rfl (lv_at hl 0 rfl) ?_
  refine gt_6_19 C w kw_17_6 dX6_baseOf_18 ?_
  refine lv_bipush (v := 10) hx hb dX6_baseOf_21 (by decide) ?_
  refine lv_idiv hx hb dX6_baseOf_23 (by decide) ?_
  refine lv_iadd hx hb dX6_baseOf_24 ?_
  exact ret_i C w h dX6_baseOf_25
def q_X6_hang (M : Mem) (post : Int32 → Mem → Prop) : Prop := ¬ ((4 : Int32) + ((M 58 7) * (M 58 7))) = 0 ∧ (post ((M 57 19) / ((4 : Int32) + ((M 58 7) * (M 58 7)))) M)
set_option maxHeartbeats 4000000 in
set_option maxRecDepth 100000 in
theorem c_X6_hang (l : Launch) (G : GG) (hG : Ag G) (sz : Nat) (M : Mem) (post : Int32 → Mem → Prop) (h : q_X6_hang M post) : Met l yX6_hang (Cond.code yX6_hang cX6_hang 1 (some .int) :: wsL_law) (rmk 1) (va_Pc [.ref (ga G 57)] (Pw G sz M)) (va_Qi post (Qw G) (Af G sz)) 0 0 (Af G sz) := by
  refine Met.ofW (cc := cX6_hang) (maxL := 1) (ret := (some .int)) (by decide) rfl ?_
  intro p e s m args below meth c s₁ B hml hv
  obtain ⟨rfl, hsz, hE, hP⟩ := hv
  subst hsz
  have C := Cx.of (own := RX6) hG hE rfl hml B
  have w : Wd G s M s.heap [] := ⟨hP, va_S.rf⟩
  have hl := lv_entry [.ref (ga G 57)] (n := 1) (Nat.le_of_ble_eq_true rfl)
  rw [lg_entry_eq]
  generalize (lg_sl [.ref (ga G 57)] ++ List.replicate (1 - (lg_sl [.ref (ga G 57)]).length) Slot.unset).toArray = ls at hl ⊢
  have hl : lv_has ls 1 [(0, .ref (ga G 57))] := hl
  have hx := C.1.1
  have hb := C.1.2.1
  show W p l e (rmk 1) s m _ below meth c s.heap [] 0 0 _ _
  unfold q_X6_hang at h
  refine lv_aload_n hx hb dX6_hang_0 rfl (lv_at hl 0 rfl) ?_
  refine gt_6_19 C w kw_17_6 dX6_hang_1 ?_
  refine lv_iconst (v := 4) hx hb dX6_hang_4 (by decide) ?_
  refine lv_aload_n hx hb dX6_hang_5 rfl (lv_at hl 0 rfl) ?_
  refine gt_6_0 C w kw_5_0 dX6_hang_6 ?_
  refine lv_bipush (v := 7) hx hb dX6_hang_9 (by decide) ?_
  refine pw_ld C w (i := 58) (by decide) pE_58 (vl (x := (7 : Int32)) (by decide)) (k := 7) (by decide) dX6_hang_11 ?_
  refine lv_aload_n hx hb dX6_hang_12 rfl (lv_at hl 0 rfl) ?_
  refine gt_6_0 C w kw_5_0 dX6_hang_13 ?_
  refine lv_bipush (v := 7) hx hb dX6_hang_16 (by decide) ?_
  refine pw_ld C w (i := 58) (by decide) pE_58 (vl (x := (7 : Int32)) (by decide)) (k := 7) (by decide) dX6_hang_18 ?_
  refine lv_imul hx hb dX6_hang_19 ?_
  refine lv_iadd hx hb dX6_hang_20 ?_
  refine lv_idiv hx hb dX6_hang_21 h.1 ?_
  replace h := h.2
  exact ret_i C w h dX6_hang_22
def j_X6_isLine_44 (post : Int32 → Mem → Prop) (M : Mem) (y0 : Int32) : Prop := (y0 = 0 ∨ y0 = 1) ∧ post y0 M
def b_X6_isLine_2 (k2 : Mem → Int32 → Prop) (post : Int32 → Mem → Prop) (M : Mem) (x1 : Int32) : Prop := ((M 58 0) ≤ x1 → (((M 58 0) ≤ 0 → (j_X6_isLine_44 post M (0 : Int32))) ∧ (¬ ((M 58 0) ≤ 0) → (j_X6_isLine_44 post M (1 : Int32))))) ∧ (¬ ((M 58 0) ≤ x1) → (q_X6_get M x1 (4 : Int32) (fun r3 M4 => (r3 = (1 : Int32) → (post (0 : Int32) M4)) ∧ (¬ (r3 = (1 : Int32)) → (k2 M4 (x1 + (1 : Int32)))))))
def lp_X6_isLine_2 (post : Int32 → Mem → Prop) : Nat → Mem → Int32 → Prop
  | 0 => fun _ _ => False
  | n + 1 => fun M x1 => b_X6_isLine_2 (lp_X6_isLine_2 post n) post M x1
def q_X6_isLine (M : Mem) (post : Int32 → Mem → Prop) : Prop := ∃ n, lp_X6_isLine_2 post n M (0 : Int32)
set_option maxHeartbeats 4000000 in
set_option maxRecDepth 100000 in
theorem t_X6_isLine_44 (C : Cx G p s m args meth c RX6 cX6_isLine 2 (some .boolean)) {post : Int32 → Mem → Prop} (M : Mem) (y0 : Int32) {H : Heap} {locs : List Loc} {ls : Array Slot} (w : Wd G s M H locs) (hl : lv_has ls 2 []) (h : j_X6_isLine_44 post M y0) : W p l e (rmk 2) s m args below meth c H locs 0 0 (MQ below (va_Qi post (Qw G) (Af G s.heap.size)) args s 0 0 (Af G s.heap.size)) (F0 m 44 ls [.int y0]) := by
  have hx := C.1.1
  have hb := C.1.2.1
  unfold j_X6_isLine_44 at h
  exact ret_z C w h dX6_isLine_44
set_option maxHeartbeats 4000000 in
set_option maxRecDepth 100000 in
theorem t_X6_isLine_2 (C : Cx G p s m args meth c RX6 cX6_isLine 2 (some .boolean)) {post : Int32 → Mem → Prop} : ∀ (n : Nat) (M : Mem) (x1 : Int32) {H : Heap} {locs : List Loc} {ls : Array Slot} (w : Wd G s M H locs) (hl : lv_has ls 2 [(0, .ref (ga G 57)), (1, .int x1)]) (h : lp_X6_isLine_2 post n M x1), W p l e (rmk 2) s m args below meth c H locs 0 0 (MQ below (va_Qi post (Qw G) (Af G s.heap.size)) args s 0 0 (Af G s.heap.size)) (F0 m 2 ls []) := by
  have hx := C.1.1
  have hb := C.1.2.1
  intro n9
  induction n9 with
  | zero => intro M x1 H locs ls w hl h; exact absurd h id
  | succ n9 ih9 =>
    intro M x1 H locs ls w hl h
    have hk2 : ∀ (M : Mem) (x1 : Int32) (H : Heap) (locs : List Loc) (ls : Array Slot), Wd G s M H locs → lv_has ls 2 [(0, .ref (ga G 57)), (1, .int x1)] → lp_X6_isLine_2 post n9 M x1 → W p l e (rmk 2) s m args below meth c H locs 0 0 (MQ below (va_Qi post (Qw G) (Af G s.heap.size)) args s 0 0 (Af G s.heap.size)) (F0 m 2 ls []) := fun M x1 H locs ls w hl h => ih9 M x1 w hl h
    replace h : b_X6_isLine_2 (lp_X6_isLine_2 post n9) post M x1 := h
    unfold b_X6_isLine_2 at h
    refine lv_iload_n hx hb dX6_isLine_2 rfl (lv_at hl 1 rfl) ?_
    refine lv_aload_n hx hb dX6_isLine_3 rfl (lv_at hl 0 rfl) ?_
    refine gt_6_0 C w kw_5_0 dX6_isLine_4 ?_
    refine lv_iconst (v := 0) hx hb dX6_isLine_7 (by decide) ?_
    refine pw_ld C w (i := 58) (by decide) pE_58 (vl (x := (0 : Int32)) (by decide)) (k := 0) (by decide) dX6_isLine_8 ?_
    refine lv_icmp_ge (tgt := 30) hx hb dX6_isLine_9 (by decide) (fun c1 => ?_) (fun c1 => ?_)
    · replace h := h.1 c1
      refine lv_aload_n hx hb dX6_isLine_30 rfl (lv_at hl 0 rfl) ?_
      refine gt_6_0 C w kw_5_0 dX6_isLine_31 ?_
      refine lv_iconst (v := 0) hx hb dX6_isLine_34 (by decide) ?_
      refine pw_ld C w (i := 58) (by decide) pE_58 (vl (x := (0 : Int32)) (by decide)) (k := 0) (by decide) dX6_isLine_35 ?_
      refine lv_if_le (tgt := 43) hx hb dX6_isLine_36 (by decide) (fun c2 => ?_) (fun c2 => ?_)
      · replace h := h.1 c2
        refine lv_iconst (v := 0) hx hb dX6_isLine_43 (by decide) ?_
        exact t_X6_isLine_44 C M (0 : Int32)  w (lv_sub hl [] rfl) h
      replace h := h.2 c2
      refine lv_iconst (v := 1) hx hb dX6_isLine_39 (by decide) ?_
      refine lv_goto (tgt := 44) hx hb dX6_isLine_40 (by decide) ?_
      exact t_X6_isLine_44 C M (1 : Int32)  w (lv_sub hl [] rfl) h
    replace h := h.2 c1
    refine lv_aload_n hx hb dX6_isLine_12 rfl (lv_at hl 0 rfl) ?_
    refine lv_iload_n hx hb dX6_isLine_13 rfl (lv_at hl 1 rfl) ?_
    refine lv_iconst (v := 4) hx hb dX6_isLine_14 (by decide) ?_
    refine end_i w (run_V (As := [.int x1, .int (4 : Int32)]) C w hl.1 (c_X6_get l G C.2.2.1 _ _ x1 (4 : Int32)  _ h) kw_14_10 kw_1_5 kw_14_7 kw_14_8 kw_14_9 hd_X6_get ⟨by decide, by decide⟩ (w.recv C (i := 57) (by decide) (pE_6) rfl) rfl (Nat.le_of_ble_eq_true rfl) dX6_isLine_15) (fun r3 M4 H locs h w => ?_)
    refine lv_iconst (v := 1) hx hb dX6_isLine_18 (by decide) ?_
    refine lv_icmp_ne (tgt := 24) hx hb dX6_isLine_19 (by decide) (fun c5 => ?_) (fun c5 => ?_)
    · replace h := h.2 c5
      refine lv_iinc (v := (x1 + (1 : Int32))) (lv' := [(1, .int (x1 + (1 : Int32))), (0, .ref (ga G 57))]) hx hb dX6_isLine_24 hl (k := 1) rfl rfl (by decide) rfl (fun ls hl => ?_)
      refine lv_goto (tgt := 2) hx hb dX6_isLine_27 (by decide) ?_
      exact hk2 M4 (x1 + (1 : Int32)) _ _ _  w (lv_sub hl [1, 0] rfl) h
    replace h := h.1 c5
    refine lv_iconst (v := 0) hx hb dX6_isLine_22 (by decide) ?_
    exact ret_z C w ⟨Or.inl rfl, h⟩ dX6_isLine_23
set_option maxHeartbeats 4000000 in
set_option maxRecDepth 100000 in
theorem c_X6_isLine (l : Launch) (G : GG) (hG : Ag G) (sz : Nat) (M : Mem) (post : Int32 → Mem → Prop) (h : q_X6_isLine M post) : Met l yX6_isLine (Cond.code yX6_isLine cX6_isLine 2 (some .boolean) :: wsL_law) (rmk 2) (va_Pc [.ref (ga G 57)] (Pw G sz M)) (va_Qi post (Qw G) (Af G sz)) 0 0 (Af G sz) := by
  refine Met.ofW (cc := cX6_isLine) (maxL := 2) (ret := (some .boolean)) (by decide) rfl ?_
  intro p e s m args below meth c s₁ B hml hv
  obtain ⟨rfl, hsz, hE, hP⟩ := hv
  subst hsz
  have C := Cx.of (own := RX6) hG hE rfl hml B
  have w : Wd G s M s.heap [] := ⟨hP, va_S.rf⟩
  have hl := lv_entry [.ref (ga G 57)] (n := 2) (Nat.le_of_ble_eq_true rfl)
  rw [lg_entry_eq]
  generalize (lg_sl [.ref (ga G 57)] ++ List.replicate (2 - (lg_sl [.ref (ga G 57)]).length) Slot.unset).toArray = ls at hl ⊢
  have hl : lv_has ls 2 [(0, .ref (ga G 57))] := hl
  have hx := C.1.1
  have hb := C.1.2.1
  show W p l e (rmk 2) s m _ below meth c s.heap [] 0 0 _ _
  unfold q_X6_isLine at h
  refine lv_iconst (v := 0) hx hb dX6_isLine_0 (by decide) ?_
  refine lv_istore_n (lv' := [(1, .int (0 : Int32)), (0, .ref (ga G 57))]) hx hb dX6_isLine_1 rfl hl (by decide) rfl (fun ls hl => ?_)
  obtain ⟨n, h⟩ := h
  exact t_X6_isLine_2 C n M (0 : Int32)  w (lv_sub hl [1, 0] rfl) h
def j_X6_rounds_21 (post : Mem → Prop) (M : Mem) (y0 : Int32) : Prop := ∀ M1 : Mem, M1 = (mup M 57 20 y0) → (post M1)
def q_X6_rounds (M : Mem) (post : Mem → Prop) : Prop := ((100 : Int32) ≤ (M 57 20) → (j_X6_rounds_21 post M ((M 57 20) / (100 : Int32)))) ∧ (¬ ((100 : Int32) ≤ (M 57 20)) → (j_X6_rounds_21 post M (1 : Int32)))
set_option maxHeartbeats 4000000 in
set_option maxRecDepth 100000 in
theorem t_X6_rounds_21 (C : Cx G p s m args meth c RX6 cX6_rounds 1 none) {post : Mem → Prop} (M : Mem) (y0 : Int32) {H : Heap} {locs : List Loc} {ls : Array Slot} (w : Wd G s M H locs) (hl : lv_has ls 1 []) (h : j_X6_rounds_21 post M y0) : W p l e (rmk 1) s m args below meth c H locs 0 0 (MQ below (va_Qv post (Qw G) (Af G s.heap.size)) args s 0 0 (Af G s.heap.size)) (F0 m 21 ls [.int y0, .ref (ga G 57)]) := by
  have hx := C.1.1
  have hb := C.1.2.1
  unfold j_X6_rounds_21 at h
  refine pt_6_20 C w kw_17_7 dX6_rounds_21 (fun H locs w => ?_)
  obtain ⟨M1, eM1⟩ : ∃ z : Mem, z = (mup M 57 20 y0) := ⟨_, rfl⟩
  replace w : Wd G s M1 H locs := by rw [eM1]; exact w
  replace h := h M1 eM1
  exact ret_v C w h dX6_rounds_24
set_option maxHeartbeats 4000000 in
set_option maxRecDepth 100000 in
theorem c_X6_rounds (l : Launch) (G : GG) (hG : Ag G) (sz : Nat) (M : Mem) (post : Mem → Prop) (h : q_X6_rounds M post) : Met l yX6_rounds (Cond.code yX6_rounds cX6_rounds 1 none :: wsL_law) (rmk 1) (va_Pc [.ref (ga G 57)] (Pw G sz M)) (va_Qv post (Qw G) (Af G sz)) 0 0 (Af G sz) := by
  refine Met.ofW (cc := cX6_rounds) (maxL := 1) (ret := none) (by decide) rfl ?_
  intro p e s m args below meth c s₁ B hml hv
  obtain ⟨rfl, hsz, hE, hP⟩ := hv
  subst hsz
  have C := Cx.of (own := RX6) hG hE rfl hml B
  have w : Wd G s M s.heap [] := ⟨hP, va_S.rf⟩
  have hl := lv_entry [.ref (ga G 57)] (n := 1) (Nat.le_of_ble_eq_true rfl)
  rw [lg_entry_eq]
  generalize (lg_sl [.ref (ga G 57)] ++ List.replicate (1 - (lg_sl [.ref (ga G 57)]).length) Slot.unset).toArray = ls at hl ⊢
  have hl : lv_has ls 1 [(0, .ref (ga G 57))] := hl
  have hx := C.1.1
  have hb := C.1.2.1
  show W p l e (rmk 1) s m _ below meth c s.heap [] 0 0 _ _
  unfold q_X6_rounds at h
  refine lv_aload_n hx hb dX6_rounds_0 rfl (lv_at hl 0 rfl) ?_
  refine lv_aload_n hx hb dX6_rounds_1 rfl (lv_at hl 0 rfl) ?_
  refine gt_6_20 C w kw_17_7 dX6_rounds_2 ?_
  refine lv_bipush (v := 100) hx hb dX6_rounds_5 (by decide) ?_
  refine lv_icmp_ge (tgt := 14) hx hb dX6_rounds_7 (by decide) (fun c2 => ?_) (fun c2 => ?_)
  · replace h := h.1 c2
    refine lv_aload_n hx hb dX6_rounds_14 rfl (lv_at hl 0 rfl) ?_
    refine gt_6_20 C w kw_17_7 dX6_rounds_15 ?_
    refine lv_bipush (v := 100) hx hb dX6_rounds_18 (by decide) ?_
    refine lv_idiv hx hb dX6_rounds_20 (by decide) ?_
    exact t_X6_rounds_21 C M ((M 57 20) / (100 : Int32))  w (lv_sub hl [] rfl) h
  replace h := h.2 c2
  refine lv_iconst (v := 1) hx hb dX6_rounds_10 (by decide) ?_
  refine lv_goto (tgt := 21) hx hb dX6_rounds_11 (by decide) ?_
  exact t_X6_rounds_21 C M (1 : Int32)  w (lv_sub hl [] rfl) h
def j_X6_sumsUp_107 (k17 : Mem → Int32 → Int32 → Prop) (post : Mem → Prop) (M : Mem) (x1 : Int32) (x2 : Int32) : Prop := k17 M x1 (x2 + (1 : Int32))
def b_X6_sumsUp_17 (k17 : Mem → Int32 → Int32 → Prop) (post : Mem → Prop) (M : Mem) (x1 : Int32) (x2 : Int32) : Prop := ((M 58 0) ≤ x2 → (q_X6_rounds M  (fun M3 => post M3))) ∧ (¬ ((M 58 0) ≤ x2) → ((((x1 >>> (x2 &&& 31)) &&& (1 : Int32)) = 0 → (j_X6_sumsUp_107 k17 post M x1 x2)) ∧ (¬ (((x1 >>> (x2 &&& 31)) &&& (1 : Int32)) = 0) → (q_X6_get M x2 (2 : Int32) (fun r5 M6 => ∀ M7 : Mem, M7 = (mup M6 57 18 ((M6 57 18) + r5)) → (q_X6_get M7 x2 (0 : Int32) (fun r8 M9 => q_X6_get M9 x2 (1 : Int32) (fun r10 M11 => q_X6_heftBy M11 r8 r10 (fun r12 M13 => ∀ M14 : Mem, M14 = (mup M13 57 19 ((M7 57 19) + (r5 * r12))) → (q_X6_get M14 x2 (0 : Int32) (fun r15 M16 => q_X6_get M16 x2 (1 : Int32) (fun r17 M18 => q_X6_giveBy M18 r15 r17 (fun r19 M20 => ∀ M21 : Mem, M21 = (mup M20 57 20 ((M14 57 20) + (r5 * r19))) → (j_X6_sumsUp_107 k17 post M21 x1 x2))))))))))))))
def lp_X6_sumsUp_17 (post : Mem → Prop) : Nat → Mem → Int32 → Int32 → Prop
  | 0 => fun _ _ _ => False
  | n + 1 => fun M x1 x2 => b_X6_sumsUp_17 (lp_X6_sumsUp_17 post n) post M x1 x2
def q_X6_sumsUp (M : Mem) (x1 : Int32) (post : Mem → Prop) : Prop := ∀ M22 : Mem, M22 = (mup M 57 18 (0 : Int32)) → (∀ M23 : Mem, M23 = (mup M22 57 19 (0 : Int32)) → (∀ M24 : Mem, M24 = (mup M23 57 20 (0 : Int32)) → (∃ n, lp_X6_sumsUp_17 post n M24 x1 (0 : Int32))))
set_option maxHeartbeats 4000000 in
set_option maxRecDepth 100000 in
theorem t_X6_sumsUp_107 (C : Cx G p s m args meth c RX6 cX6_sumsUp 4 none) {post : Mem → Prop} {k17 : Mem → Int32 → Int32 → Prop} (hk17 : ∀ (M : Mem) (x1 : Int32) (x2 : Int32) (H : Heap) (locs : List Loc) (ls : Array Slot), Wd G s M H locs → lv_has ls 4 [(0, .ref (ga G 57)), (1, .int x1), (2, .int x2)] → k17 M x1 x2 → W p l e (rmk 2) s m args below meth c H locs 0 0 (MQ below (va_Qv post (Qw G) (Af G s.heap.size)) args s 0 0 (Af G s.heap.size)) (F0 m 17 ls [])) (M : Mem) (x1 : Int32) (x2 : Int32) {H : Heap} {locs : List Loc} {ls : Array Slot} (w : Wd G s M H locs) (hl : lv_has ls 4 [(0, .ref (ga G 57)), (1, .int x1), (2, .int x2)]) (h : j_X6_sumsUp_107 k17 post M x1 x2) : W p l e (rmk 2) s m args below meth c H locs 0 0 (MQ below (va_Qv post (Qw G) (Af G s.heap.size)) args s 0 0 (Af G s.heap.size)) (F0 m 107 ls []) := by
  have hx := C.1.1
  have hb := C.1.2.1
  unfold j_X6_sumsUp_107 at h
  refine lv_iinc (v := (x2 + (1 : Int32))) (lv' := [(2, .int (x2 + (1 : Int32))), (0, .ref (ga G 57)), (1, .int x1)]) hx hb dX6_sumsUp_107 hl (k := 2) rfl rfl (by decide) rfl (fun ls hl => ?_)
  refine lv_goto (tgt := 17) hx hb dX6_sumsUp_110 (by decide) ?_
  exact hk17 M x1 (x2 + (1 : Int32)) _ _ _  w (lv_sub hl [1, 2, 0] rfl) h
set_option maxHeartbeats 4000000 in
set_option maxRecDepth 100000 in
theorem t_X6_sumsUp_17 (C : Cx G p s m args meth c RX6 cX6_sumsUp 4 none) {post : Mem → Prop} : ∀ (n : Nat) (M : Mem) (x1 : Int32) (x2 : Int32) {H : Heap} {locs : List Loc} {ls : Array Slot} (w : Wd G s M H locs) (hl : lv_has ls 4 [(0, .ref (ga G 57)), (1, .int x1), (2, .int x2)]) (h : lp_X6_sumsUp_17 post n M x1 x2), W p l e (rmk 2) s m args below meth c H locs 0 0 (MQ below (va_Qv post (Qw G) (Af G s.heap.size)) args s 0 0 (Af G s.heap.size)) (F0 m 17 ls []) := by
  have hx := C.1.1
  have hb := C.1.2.1
  intro n9
  induction n9 with
  | zero => intro M x1 x2 H locs ls w hl h; exact absurd h id
  | succ n9 ih9 =>
    intro M x1 x2 H locs ls w hl h
    have hk17 : ∀ (M : Mem) (x1 : Int32) (x2 : Int32) (H : Heap) (locs : List Loc) (ls : Array Slot), Wd G s M H locs → lv_has ls 4 [(0, .ref (ga G 57)), (1, .int x1), (2, .int x2)] → lp_X6_sumsUp_17 post n9 M x1 x2 → W p l e (rmk 2) s m args below meth c H locs 0 0 (MQ below (va_Qv post (Qw G) (Af G s.heap.size)) args s 0 0 (Af G s.heap.size)) (F0 m 17 ls []) := fun M x1 x2 H locs ls w hl h => ih9 M x1 x2 w hl h
    replace h : b_X6_sumsUp_17 (lp_X6_sumsUp_17 post n9) post M x1 x2 := h
    unfold b_X6_sumsUp_17 at h
    refine lv_iload_n hx hb dX6_sumsUp_17 rfl (lv_at hl 2 rfl) ?_
    refine lv_aload_n hx hb dX6_sumsUp_18 rfl (lv_at hl 0 rfl) ?_
    refine gt_6_0 C w kw_5_0 dX6_sumsUp_19 ?_
    refine lv_iconst (v := 0) hx hb dX6_sumsUp_22 (by decide) ?_
    refine pw_ld C w (i := 58) (by decide) pE_58 (vl (x := (0 : Int32)) (by decide)) (k := 0) (by decide) dX6_sumsUp_23 ?_
    refine lv_icmp_ge (tgt := 113) hx hb dX6_sumsUp_24 (by decide) (fun c1 => ?_) (fun c1 => ?_)
    · replace h := h.1 c1
      refine lv_aload_n hx hb dX6_sumsUp_113 rfl (lv_at hl 0 rfl) ?_
      refine end_v w (run_V (As := []) C w hl.1 (c_X6_rounds l G C.2.2.1 _ _   _ h) kw_17_23 kw_1_5 kw_17_20 kw_17_21 kw_17_22 hd_X6_rounds ⟨by decide, by decide⟩ (w.recv C (i := 57) (by decide) (pE_6) rfl) rfl (Nat.le_of_ble_eq_true rfl) dX6_sumsUp_114) (fun M3 H locs h w => ?_)
      exact ret_v C w h dX6_sumsUp_117
    replace h := h.2 c1
    refine lv_iload_n hx hb dX6_sumsUp_27 rfl (lv_at hl 1 rfl) ?_
    refine lv_iload_n hx hb dX6_sumsUp_28 rfl (lv_at hl 2 rfl) ?_
    refine lv_ishr hx hb dX6_sumsUp_29 ?_
    refine lv_iconst (v := 1) hx hb dX6_sumsUp_30 (by decide) ?_
    refine lv_iand hx hb dX6_sumsUp_31 ?_
    refine lv_if_ne (tgt := 38) hx hb dX6_sumsUp_32 (by decide) (fun c4 => ?_) (fun c4 => ?_)
    · replace h := h.2 c4
      refine lv_aload_n hx hb dX6_sumsUp_38 rfl (lv_at hl 0 rfl) ?_
      refine lv_iload_n hx hb dX6_sumsUp_39 rfl (lv_at hl 2 rfl) ?_
      refine lv_iconst (v := 2) hx hb dX6_sumsUp_40 (by decide) ?_
      refine end_i w (run_V (As := [.int x2, .int (2 : Int32)]) C w hl.1 (c_X6_get l G C.2.2.1 _ _ x2 (2 : Int32)  _ h) kw_14_10 kw_1_5 kw_14_7 kw_14_8 kw_14_9 hd_X6_get ⟨by decide, by decide⟩ (w.recv C (i := 57) (by decide) (pE_6) rfl) rfl (Nat.le_of_ble_eq_true rfl) dX6_sumsUp_41) (fun r5 M6 H locs h w => ?_)
      refine lv_istore_n (lv' := [(3, .int r5), (0, .ref (ga G 57)), (1, .int x1), (2, .int x2)]) hx hb dX6_sumsUp_44 rfl hl (by decide) rfl (fun ls hl => ?_)
      refine lv_aload_n hx hb dX6_sumsUp_45 rfl (lv_at hl 1 rfl) ?_
      refine lv_dup hx hb dX6_sumsUp_46 rfl ?_
      refine gt_6_18 C w kw_17_5 dX6_sumsUp_47 ?_
      refine lv_iload_n hx hb dX6_sumsUp_50 rfl (lv_at hl 0 rfl) ?_
      refine lv_iadd hx hb dX6_sumsUp_51 ?_
      refine pt_6_18 C w kw_17_5 dX6_sumsUp_52 (fun H locs w => ?_)
      obtain ⟨M7, eM7⟩ : ∃ z : Mem, z = (mup M6 57 18 ((M6 57 18) + r5)) := ⟨_, rfl⟩
      replace w : Wd G s M7 H locs := by rw [eM7]; exact w
      replace h := h M7 eM7
      refine lv_aload_n hx hb dX6_sumsUp_55 rfl (lv_at hl 1 rfl) ?_
      refine lv_dup hx hb dX6_sumsUp_56 rfl ?_
      refine gt_6_19 C w kw_17_6 dX6_sumsUp_57 ?_
      refine lv_iload_n hx hb dX6_sumsUp_60 rfl (lv_at hl 0 rfl) ?_
      refine lv_aload_n hx hb dX6_sumsUp_61 rfl (lv_at hl 1 rfl) ?_
      refine lv_iload_n hx hb dX6_sumsUp_62 rfl (lv_at hl 3 rfl) ?_
      refine lv_iconst (v := 0) hx hb dX6_sumsUp_63 (by decide) ?_
      refine end_i w (run_V (As := [.int x2, .int (0 : Int32)]) C w hl.1 (c_X6_get l G C.2.2.1 _ _ x2 (0 : Int32)  _ h) kw_14_10 kw_1_5 kw_14_7 kw_14_8 kw_14_9 hd_X6_get ⟨by decide, by decide⟩ (w.recv C (i := 57) (by decide) (pE_6) rfl) rfl (Nat.le_of_ble_eq_true rfl) dX6_sumsUp_64) (fun r8 M9 H locs h w => ?_)
      refine lv_aload_n hx hb dX6_sumsUp_67 rfl (lv_at hl 1 rfl) ?_
      refine lv_iload_n hx hb dX6_sumsUp_68 rfl (lv_at hl 3 rfl) ?_
      refine lv_iconst (v := 1) hx hb dX6_sumsUp_69 (by decide) ?_
      refine end_i w (run_V (As := [.int x2, .int (1 : Int32)]) C w hl.1 (c_X6_get l G C.2.2.1 _ _ x2 (1 : Int32)  _ h) kw_14_10 kw_1_5 kw_14_7 kw_14_8 kw_14_9 hd_X6_get ⟨by decide, by decide⟩ (w.recv C (i := 57) (by decide) (pE_6) rfl) rfl (Nat.le_of_ble_eq_true rfl) dX6_sumsUp_70) (fun r10 M11 H locs h w => ?_)
      refine end_i w (run_S (As := [.int r8, .int r10]) C w hl.1 (c_X6_heftBy l G C.2.2.1 _ _ r8 r10  _ h) kw_14_13 kw_1_5 kw_14_11 kw_14_12 hd_X6_heftBy ⟨by decide, by decide⟩ rfl (Nat.le_of_ble_eq_true rfl) dX6_sumsUp_73) (fun r12 M13 H locs h w => ?_)
      refine lv_imul hx hb dX6_sumsUp_76 ?_
      refine lv_iadd hx hb dX6_sumsUp_77 ?_
      refine pt_6_19 C w kw_17_6 dX6_sumsUp_78 (fun H locs w => ?_)
      obtain ⟨M14, eM14⟩ : ∃ z : Mem, z = (mup M13 57 19 ((M7 57 19) + (r5 * r12))) := ⟨_, rfl⟩
      replace w : Wd G s M14 H locs := by rw [eM14]; exact w
      replace h := h M14 eM14
      refine lv_aload_n hx hb dX6_sumsUp_81 rfl (lv_at hl 1 rfl) ?_
      refine lv_dup hx hb dX6_sumsUp_82 rfl ?_
      refine gt_6_20 C w kw_17_7 dX6_sumsUp_83 ?_
      refine lv_iload_n hx hb dX6_sumsUp_86 rfl (lv_at hl 0 rfl) ?_
      refine lv_aload_n hx hb dX6_sumsUp_87 rfl (lv_at hl 1 rfl) ?_
      refine lv_iload_n hx hb dX6_sumsUp_88 rfl (lv_at hl 3 rfl) ?_
      refine lv_iconst (v := 0) hx hb dX6_sumsUp_89 (by decide) ?_
      refine end_i w (run_V (As := [.int x2, .int (0 : Int32)]) C w hl.1 (c_X6_get l G C.2.2.1 _ _ x2 (0 : Int32)  _ h) kw_14_10 kw_1_5 kw_14_7 kw_14_8 kw_14_9 hd_X6_get ⟨by decide, by decide⟩ (w.recv C (i := 57) (by decide) (pE_6) rfl) rfl (Nat.le_of_ble_eq_true rfl) dX6_sumsUp_90) (fun r15 M16 H locs h w => ?_)
      refine lv_aload_n hx hb dX6_sumsUp_93 rfl (lv_at hl 1 rfl) ?_
      refine lv_iload_n hx hb dX6_sumsUp_94 rfl (lv_at hl 3 rfl) ?_
      refine lv_iconst (v := 1) hx hb dX6_sumsUp_95 (by decide) ?_
      refine end_i w (run_V (As := [.int x2, .int (1 : Int32)]) C w hl.1 (c_X6_get l G C.2.2.1 _ _ x2 (1 : Int32)  _ h) kw_14_10 kw_1_5 kw_14_7 kw_14_8 kw_14_9 hd_X6_get ⟨by decide, by decide⟩ (w.recv C (i := 57) (by decide) (pE_6) rfl) rfl (Nat.le_of_ble_eq_true rfl) dX6_sumsUp_96) (fun r17 M18 H locs h w => ?_)
      refine end_i w (run_S (As := [.int r15, .int r17]) C w hl.1 (c_X6_giveBy l G C.2.2.1 _ _ r15 r17  _ h) kw_14_16 kw_1_5 kw_14_14 kw_14_15 hd_X6_giveBy ⟨by decide, by decide⟩ rfl (Nat.le_of_ble_eq_true rfl) dX6_sumsUp_99) (fun r19 M20 H locs h w => ?_)
      refine lv_imul hx hb dX6_sumsUp_102 ?_
      refine lv_iadd hx hb dX6_sumsUp_103 ?_
      refine pt_6_20 C w kw_17_7 dX6_sumsUp_104 (fun H locs w => ?_)
      obtain ⟨M21, eM21⟩ : ∃ z : Mem, z = (mup M20 57 20 ((M14 57 20) + (r5 * r19))) := ⟨_, rfl⟩
      replace w : Wd G s M21 H locs := by rw [eM21]; exact w
      replace h := h M21 eM21
      exact t_X6_sumsUp_107 C hk17 M21 x1 x2  w (lv_sub hl [1, 2, 3] rfl) h
    replace h := h.1 c4
    refine lv_goto (tgt := 107) hx hb dX6_sumsUp_35 (by decide) ?_
    exact t_X6_sumsUp_107 C hk17 M x1 x2  w (lv_sub hl [0, 1, 2] rfl) h
set_option maxHeartbeats 4000000 in
set_option maxRecDepth 100000 in
theorem c_X6_sumsUp (l : Launch) (G : GG) (hG : Ag G) (sz : Nat) (M : Mem) (x1 : Int32) (post : Mem → Prop) (h : q_X6_sumsUp M x1 post) : Met l yX6_sumsUp (Cond.code yX6_sumsUp cX6_sumsUp 4 none :: wsL_law) (rmk 2) (va_Pc [.ref (ga G 57), .int x1] (Pw G sz M)) (va_Qv post (Qw G) (Af G sz)) 0 0 (Af G sz) := by
  refine Met.ofW (cc := cX6_sumsUp) (maxL := 4) (ret := none) (by decide) rfl ?_
  intro p e s m args below meth c s₁ B hml hv
  obtain ⟨rfl, hsz, hE, hP⟩ := hv
  subst hsz
  have C := Cx.of (own := RX6) hG hE rfl hml B
  have w : Wd G s M s.heap [] := ⟨hP, va_S.rf⟩
  have hl := lv_entry [.ref (ga G 57), .int x1] (n := 4) (Nat.le_of_ble_eq_true rfl)
  rw [lg_entry_eq]
  generalize (lg_sl [.ref (ga G 57), .int x1] ++ List.replicate (4 - (lg_sl [.ref (ga G 57), .int x1]).length) Slot.unset).toArray = ls at hl ⊢
  have hl : lv_has ls 4 [(0, .ref (ga G 57)), (1, .int x1)] := hl
  have hx := C.1.1
  have hb := C.1.2.1
  show W p l e (rmk 2) s m _ below meth c s.heap [] 0 0 _ _
  unfold q_X6_sumsUp at h
  refine lv_aload_n hx hb dX6_sumsUp_0 rfl (lv_at hl 0 rfl) ?_
  refine lv_iconst (v := 0) hx hb dX6_sumsUp_1 (by decide) ?_
  refine pt_6_18 C w kw_17_5 dX6_sumsUp_2 (fun H locs w => ?_)
  obtain ⟨M22, eM22⟩ : ∃ z : Mem, z = (mup M 57 18 (0 : Int32)) := ⟨_, rfl⟩
  replace w : Wd G s M22 H locs := by rw [eM22]; exact w
  replace h := h M22 eM22
  refine lv_aload_n hx hb dX6_sumsUp_5 rfl (lv_at hl 0 rfl) ?_
  refine lv_iconst (v := 0) hx hb dX6_sumsUp_6 (by decide) ?_
  refine pt_6_19 C w kw_17_6 dX6_sumsUp_7 (fun H locs w => ?_)
  obtain ⟨M23, eM23⟩ : ∃ z : Mem, z = (mup M22 57 19 (0 : Int32)) := ⟨_, rfl⟩
  replace w : Wd G s M23 H locs := by rw [eM23]; exact w
  replace h := h M23 eM23
  refine lv_aload_n hx hb dX6_sumsUp_10 rfl (lv_at hl 0 rfl) ?_
  refine lv_iconst (v := 0) hx hb dX6_sumsUp_11 (by decide) ?_
  refine pt_6_20 C w kw_17_7 dX6_sumsUp_12 (fun H locs w => ?_)
  obtain ⟨M24, eM24⟩ : ∃ z : Mem, z = (mup M23 57 20 (0 : Int32)) := ⟨_, rfl⟩
  replace w : Wd G s M24 H locs := by rw [eM24]; exact w
  replace h := h M24 eM24
  refine lv_iconst (v := 0) hx hb dX6_sumsUp_15 (by decide) ?_
  refine lv_istore_n (lv' := [(2, .int (0 : Int32)), (0, .ref (ga G 57)), (1, .int x1)]) hx hb dX6_sumsUp_16 rfl hl (by decide) rfl (fun ls hl => ?_)
  obtain ⟨n, h⟩ := h
  exact t_X6_sumsUp_17 C n M24 x1 (0 : Int32)  w (lv_sub hl [1, 2, 0] rfl) h
def j_X6_line_97 (post : Int32 → Mem → Prop) (M : Mem) (y0 : Int32) : Prop := post y0 M
def q_X6_line (M : Mem) (x1 : Int32) (post : Int32 → Mem → Prop) : Prop := q_X6_isIn M x1.toInt64 (0 : Int64) (5 : Int64) (fun r1 M2 => (r1 = 0 → (post (-1 : Int32) M2)) ∧ (¬ (r1 = 0) → (q_X6_isLine M2  (fun r4 M5 => (r4 = 0 → (post (-3 : Int32) M5)) ∧ (¬ (r4 = 0) → (q_X6_allPieces M5  (fun r7 M8 => q_X6_sumsUp M8 r7 (fun M10 => (x1 = 0 → (j_X6_line_97 post M10 (M10 57 18))) ∧ (¬ (x1 = 0) → ((x1 = (1 : Int32) → (j_X6_line_97 post M10 (M10 57 19))) ∧ (¬ (x1 = (1 : Int32)) → ((x1 = (2 : Int32) → (j_X6_line_97 post M10 (M10 57 20))) ∧ (¬ (x1 = (2 : Int32)) → ((x1 = (3 : Int32) → (q_X6_hang M10  (fun r20 M21 => j_X6_line_97 post M21 r20))) ∧ (¬ (x1 = (3 : Int32)) → ((x1 = (4 : Int32) → (q_X6_hang M10  (fun r18 M19 => j_X6_line_97 post M19 (r18 / (4 : Int32))))) ∧ (¬ (x1 = (4 : Int32)) → (q_X6_baseOf M10  (fun r16 M17 => j_X6_line_97 post M17 r16)))))))))))))))))))
set_option maxHeartbeats 4000000 in
set_option maxRecDepth 100000 in
theorem t_X6_line_97 (C : Cx G p s m args meth c RX6 cX6_line 2 (some .int)) {post : Int32 → Mem → Prop} (M : Mem) (y0 : Int32) {H : Heap} {locs : List Loc} {ls : Array Slot} (w : Wd G s M H locs) (hl : lv_has ls 2 []) (h : j_X6_line_97 post M y0) : W p l e (rmk 3) s m args below meth c H locs 0 0 (MQ below (va_Qi post (Qw G) (Af G s.heap.size)) args s 0 0 (Af G s.heap.size)) (F0 m 97 ls [.int y0]) := by
  have hx := C.1.1
  have hb := C.1.2.1
  unfold j_X6_line_97 at h
  exact ret_i C w h dX6_line_97
set_option maxHeartbeats 4000000 in
set_option maxRecDepth 100000 in
theorem c_X6_line (l : Launch) (G : GG) (hG : Ag G) (sz : Nat) (M : Mem) (x1 : Int32) (post : Int32 → Mem → Prop) (h : q_X6_line M x1 post) : Met l yX6_line (Cond.code yX6_line cX6_line 2 (some .int) :: wsL_law) (rmk 3) (va_Pc [.ref (ga G 57), .int x1] (Pw G sz M)) (va_Qi post (Qw G) (Af G sz)) 0 0 (Af G sz) := by
  refine Met.ofW (cc := cX6_line) (maxL := 2) (ret := (some .int)) (by decide) rfl ?_
  intro p e s m args below meth c s₁ B hml hv
  obtain ⟨rfl, hsz, hE, hP⟩ := hv
  subst hsz
  have C := Cx.of (own := RX6) hG hE rfl hml B
  have w : Wd G s M s.heap [] := ⟨hP, va_S.rf⟩
  have hl := lv_entry [.ref (ga G 57), .int x1] (n := 2) (Nat.le_of_ble_eq_true rfl)
  rw [lg_entry_eq]
  generalize (lg_sl [.ref (ga G 57), .int x1] ++ List.replicate (2 - (lg_sl [.ref (ga G 57), .int x1]).length) Slot.unset).toArray = ls at hl ⊢
  have hl : lv_has ls 2 [(0, .ref (ga G 57)), (1, .int x1)] := hl
  have hx := C.1.1
  have hb := C.1.2.1
  show W p l e (rmk 3) s m _ below meth c s.heap [] 0 0 _ _
  unfold q_X6_line at h
  refine lv_iload_n hx hb dX6_line_0 rfl (lv_at hl 1 rfl) ?_
  refine lv_i2l hx hb dX6_line_1 rfl ?_
  refine lv_lconst (v := 0) hx hb dX6_line_2 (by decide) ?_
  refine lv_ldc2 hx hb C.1.2.2.2.1 (C.ws kw_17_4) dX6_line_3 ?_
  refine end_i w (run_S (As := [.long x1.toInt64, .long (0 : Int64), .long (5 : Int64)]) C w hl.1 (c_X6_isIn l G C.2.2.1 _ _ x1.toInt64 (0 : Int64) (5 : Int64)  _ h) kw_12_5 kw_1_5 kw_12_3 kw_12_4 hd_X6_isIn ⟨by decide, by decide⟩ rfl (Nat.le_of_ble_eq_true rfl) dX6_line_6) (fun r1 M2 H locs h w => ?_)
  refine lv_if_ne (tgt := 14) hx hb dX6_line_9 (by decide) (fun c3 => ?_) (fun c3 => ?_)
  · replace h := h.2 c3
    refine lv_aload_n hx hb dX6_line_14 rfl (lv_at hl 0 rfl) ?_
    refine end_i w (run_V (As := []) C w hl.1 (c_X6_isLine l G C.2.2.1 _ _   _ h) kw_17_11 kw_1_5 kw_17_8 kw_17_9 kw_17_10 hd_X6_isLine ⟨by decide, by decide⟩ (w.recv C (i := 57) (by decide) (pE_6) rfl) rfl (Nat.le_of_ble_eq_true rfl) dX6_line_15) (fun r4 M5 H locs h w => ?_)
    refine lv_if_ne (tgt := 24) hx hb dX6_line_18 (by decide) (fun c6 => ?_) (fun c6 => ?_)
    · replace h := h.2 c6
      refine lv_aload_n hx hb dX6_line_24 rfl (lv_at hl 0 rfl) ?_
      refine lv_aload_n hx hb dX6_line_25 rfl (lv_at hl 0 rfl) ?_
      refine end_i w (run_V (As := []) C w hl.1 (c_X6_allPieces l G C.2.2.1 _ _   _ h) kw_17_15 kw_1_5 kw_17_12 kw_17_13 kw_17_14 hd_X6_allPieces ⟨by decide, by decide⟩ (w.recv C (i := 57) (by decide) (pE_6) rfl) rfl (Nat.le_of_ble_eq_true rfl) dX6_line_26) (fun r7 M8 H locs h w => ?_)
      refine end_v w (run_V (As := [.int r7]) C w hl.1 (c_X6_sumsUp l G C.2.2.1 _ _ r7  _ h) kw_17_19 kw_1_5 kw_17_16 kw_17_17 kw_17_18 hd_X6_sumsUp ⟨by decide, by decide⟩ (w.recv C (i := 57) (by decide) (pE_6) rfl) rfl (Nat.le_of_ble_eq_true rfl) dX6_line_29) (fun M10 H locs h w => ?_)
      refine lv_iload_n hx hb dX6_line_32 rfl (lv_at hl 1 rfl) ?_
      refine lv_if_ne (tgt := 43) hx hb dX6_line_33 (by decide) (fun c11 => ?_) (fun c11 => ?_)
      · replace h := h.2 c11
        refine lv_iload_n hx hb dX6_line_43 rfl (lv_at hl 1 rfl) ?_
        refine lv_iconst (v := 1) hx hb dX6_line_44 (by decide) ?_
        refine lv_icmp_ne (tgt := 55) hx hb dX6_line_45 (by decide) (fun c12 => ?_) (fun c12 => ?_)
        · replace h := h.2 c12
          refine lv_iload_n hx hb dX6_line_55 rfl (lv_at hl 1 rfl) ?_
          refine lv_iconst (v := 2) hx hb dX6_line_56 (by decide) ?_
          refine lv_icmp_ne (tgt := 67) hx hb dX6_line_57 (by decide) (fun c13 => ?_) (fun c13 => ?_)
          · replace h := h.2 c13
            refine lv_iload_n hx hb dX6_line_67 rfl (lv_at hl 1 rfl) ?_
            refine lv_iconst (v := 3) hx hb dX6_line_68 (by decide) ?_
            refine lv_icmp_ne (tgt := 79) hx hb dX6_line_69 (by decide) (fun c14 => ?_) (fun c14 => ?_)
            · replace h := h.2 c14
              refine lv_iload_n hx hb dX6_line_79 rfl (lv_at hl 1 rfl) ?_
              refine lv_iconst (v := 4) hx hb dX6_line_80 (by decide) ?_
              refine lv_icmp_ne (tgt := 93) hx hb dX6_line_81 (by decide) (fun c15 => ?_) (fun c15 => ?_)
              · replace h := h.2 c15
                refine lv_aload_n hx hb dX6_line_93 rfl (lv_at hl 0 rfl) ?_
                refine end_i w (run_V (As := []) C w hl.1 (c_X6_baseOf l G C.2.2.1 _ _   _ h) kw_18_7 kw_1_5 kw_18_4 kw_18_5 kw_18_6 hd_X6_baseOf ⟨by decide, by decide⟩ (w.recv C (i := 57) (by decide) (pE_6) rfl) rfl (Nat.le_of_ble_eq_true rfl) dX6_line_94) (fun r16 M17 H locs h w => ?_)
                exact t_X6_line_97 C M17 r16  w (lv_sub hl [] rfl) h
              replace h := h.1 c15
              refine lv_aload_n hx hb dX6_line_84 rfl (lv_at hl 0 rfl) ?_
              refine end_i w (run_V (As := []) C w hl.1 (c_X6_hang l G C.2.2.1 _ _   _ h) kw_18_3 kw_1_5 kw_18_0 kw_18_1 kw_18_2 hd_X6_hang ⟨by decide, by decide⟩ (w.recv C (i := 57) (by decide) (pE_6) rfl) rfl (Nat.le_of_ble_eq_true rfl) dX6_line_85) (fun r18 M19 H locs h w => ?_)
              refine lv_iconst (v := 4) hx hb dX6_line_88 (by decide) ?_
              refine lv_idiv hx hb dX6_line_89 (by decide) ?_
              refine lv_goto (tgt := 97) hx hb dX6_line_90 (by decide) ?_
              exact t_X6_line_97 C M19 (r18 / (4 : Int32))  w (lv_sub hl [] rfl) h
            replace h := h.1 c14
            refine lv_aload_n hx hb dX6_line_72 rfl (lv_at hl 0 rfl) ?_
            refine end_i w (run_V (As := []) C w hl.1 (c_X6_hang l G C.2.2.1 _ _   _ h) kw_18_3 kw_1_5 kw_18_0 kw_18_1 kw_18_2 hd_X6_hang ⟨by decide, by decide⟩ (w.recv C (i := 57) (by decide) (pE_6) rfl) rfl (Nat.le_of_ble_eq_true rfl) dX6_line_73) (fun r20 M21 H locs h w => ?_)
            refine lv_goto (tgt := 97) hx hb dX6_line_76 (by decide) ?_
            exact t_X6_line_97 C M21 r20  w (lv_sub hl [] rfl) h
          replace h := h.1 c13
          refine lv_aload_n hx hb dX6_line_60 rfl (lv_at hl 0 rfl) ?_
          refine gt_6_20 C w kw_17_7 dX6_line_61 ?_
          refine lv_goto (tgt := 97) hx hb dX6_line_64 (by decide) ?_
          exact t_X6_line_97 C M10 (M10 57 20)  w (lv_sub hl [] rfl) h
        replace h := h.1 c12
        refine lv_aload_n hx hb dX6_line_48 rfl (lv_at hl 0 rfl) ?_
        refine gt_6_19 C w kw_17_6 dX6_line_49 ?_
        refine lv_goto (tgt := 97) hx hb dX6_line_52 (by decide) ?_
        exact t_X6_line_97 C M10 (M10 57 19)  w (lv_sub hl [] rfl) h
      replace h := h.1 c11
      refine lv_aload_n hx hb dX6_line_36 rfl (lv_at hl 0 rfl) ?_
      refine gt_6_18 C w kw_17_5 dX6_line_37 ?_
      refine lv_goto (tgt := 97) hx hb dX6_line_40 (by decide) ?_
      exact t_X6_line_97 C M10 (M10 57 18)  w (lv_sub hl [] rfl) h
    replace h := h.1 c6
    refine lv_bipush (v := -3) hx hb dX6_line_21 (by decide) ?_
    exact ret_i C w h dX6_line_23
  replace h := h.1 c3
  refine lv_iconst (v := -1) hx hb dX6_line_12 (by decide) ?_
  exact ret_i C w h dX6_line_13
end WALK
