theorem dX1_giveOf_0 : decode cX1_giveOf 0 = .ok (.iload_n 0, 1) := by decide +kernel
theorem dX1_giveOf_1 : decode cX1_giveOf 1 = .ok (.tableswitch 101 1 7 #[43, 51, 59, 70, 76, 84, 92], 43) := by decide +kernel
theorem dX1_giveOf_44 : decode cX1_giveOf 44 = .ok (.iconst 0, 1) := by decide +kernel
theorem dX1_giveOf_45 : decode cX1_giveOf 45 = .ok (.iload_n 1, 1) := by decide +kernel
theorem dX1_giveOf_46 : decode cX1_giveOf 46 = .ok (.invokestatic 43, 3) := by decide +kernel
theorem dX1_giveOf_49 : decode cX1_giveOf 49 = .ok (.iconst 2, 1) := by decide +kernel
theorem dX1_giveOf_50 : decode cX1_giveOf 50 = .ok (.isub, 1) := by decide +kernel
theorem dX1_giveOf_51 : decode cX1_giveOf 51 = .ok (.ireturn, 1) := by decide +kernel
theorem dX1_giveOf_52 : decode cX1_giveOf 52 = .ok (.iconst 0, 1) := by decide +kernel
theorem dX1_giveOf_53 : decode cX1_giveOf 53 = .ok (.iload_n 1, 1) := by decide +kernel
theorem dX1_giveOf_54 : decode cX1_giveOf 54 = .ok (.invokestatic 43, 3) := by decide +kernel
theorem dX1_giveOf_57 : decode cX1_giveOf 57 = .ok (.iconst 3, 1) := by decide +kernel
theorem dX1_giveOf_58 : decode cX1_giveOf 58 = .ok (.isub, 1) := by decide +kernel
theorem dX1_giveOf_59 : decode cX1_giveOf 59 = .ok (.ireturn, 1) := by decide +kernel
theorem dX1_giveOf_60 : decode cX1_giveOf 60 = .ok (.bipush 10, 2) := by decide +kernel
theorem dX1_giveOf_62 : decode cX1_giveOf 62 = .ok (.iconst 0, 1) := by decide +kernel
theorem dX1_giveOf_63 : decode cX1_giveOf 63 = .ok (.iload_n 1, 1) := by decide +kernel
theorem dX1_giveOf_64 : decode cX1_giveOf 64 = .ok (.invokestatic 43, 3) := by decide +kernel
theorem dX1_giveOf_67 : decode cX1_giveOf 67 = .ok (.imul, 1) := by decide +kernel
theorem dX1_giveOf_68 : decode cX1_giveOf 68 = .ok (.iload_n 1, 1) := by decide +kernel
theorem dX1_giveOf_69 : decode cX1_giveOf 69 = .ok (.iadd, 1) := by decide +kernel
theorem dX1_giveOf_70 : decode cX1_giveOf 70 = .ok (.ireturn, 1) := by decide +kernel
theorem dX1_giveOf_71 : decode cX1_giveOf 71 = .ok (.iconst 1, 1) := by decide +kernel
theorem dX1_giveOf_72 : decode cX1_giveOf 72 = .ok (.iload_n 1, 1) := by decide +kernel
theorem dX1_giveOf_73 : decode cX1_giveOf 73 = .ok (.invokestatic 43, 3) := by decide +kernel
theorem dX1_giveOf_76 : decode cX1_giveOf 76 = .ok (.ireturn, 1) := by decide +kernel
theorem dX1_giveOf_77 : decode cX1_giveOf 77 = .ok (.iconst 2, 1) := by decide +kernel
theorem dX1_giveOf_78 : decode cX1_giveOf 78 = .ok (.iconst 2, 1) := by decide +kernel
theorem dX1_giveOf_79 : decode cX1_giveOf 79 = .ok (.iload_n 1, 1) := by decide +kernel
theorem dX1_giveOf_80 : decode cX1_giveOf 80 = .ok (.invokestatic 43, 3) := by decide +kernel
theorem dX1_giveOf_83 : decode cX1_giveOf 83 = .ok (.imul, 1) := by decide +kernel
theorem dX1_giveOf_84 : decode cX1_giveOf 84 = .ok (.ireturn, 1) := by decide +kernel
theorem dX1_giveOf_85 : decode cX1_giveOf 85 = .ok (.iconst 3, 1) := by decide +kernel
theorem dX1_giveOf_86 : decode cX1_giveOf 86 = .ok (.iload_n 1, 1) := by decide +kernel
theorem dX1_giveOf_87 : decode cX1_giveOf 87 = .ok (.invokestatic 43, 3) := by decide +kernel
theorem dX1_giveOf_90 : decode cX1_giveOf 90 = .ok (.iconst 2, 1) := by decide +kernel
theorem dX1_giveOf_91 : decode cX1_giveOf 91 = .ok (.idiv, 1) := by decide +kernel
theorem dX1_giveOf_92 : decode cX1_giveOf 92 = .ok (.ireturn, 1) := by decide +kernel
theorem dX1_giveOf_93 : decode cX1_giveOf 93 = .ok (.bipush 6, 2) := by decide +kernel
theorem dX1_giveOf_95 : decode cX1_giveOf 95 = .ok (.iload_n 1, 1) := by decide +kernel
theorem dX1_giveOf_96 : decode cX1_giveOf 96 = .ok (.invokestatic 43, 3) := by decide +kernel
theorem dX1_giveOf_99 : decode cX1_giveOf 99 = .ok (.iconst 5, 1) := by decide +kernel
theorem dX1_giveOf_100 : decode cX1_giveOf 100 = .ok (.isub, 1) := by decide +kernel
theorem dX1_giveOf_101 : decode cX1_giveOf 101 = .ok (.ireturn, 1) := by decide +kernel
theorem dX1_giveOf_102 : decode cX1_giveOf 102 = .ok (.iconst 4, 1) := by decide +kernel
theorem dX1_giveOf_103 : decode cX1_giveOf 103 = .ok (.ireturn, 1) := by decide +kernel
theorem dX1_heftOf_0 : decode cX1_heftOf 0 = .ok (.iload_n 0, 1) := by decide +kernel
theorem dX1_heftOf_1 : decode cX1_heftOf 1 = .ok (.tableswitch 98 1 7 #[43, 51, 61, 69, 75, 83, 91], 43) := by decide +kernel
theorem dX1_heftOf_44 : decode cX1_heftOf 44 = .ok (.iconst 0, 1) := by decide +kernel
theorem dX1_heftOf_45 : decode cX1_heftOf 45 = .ok (.iload_n 1, 1) := by decide +kernel
theorem dX1_heftOf_46 : decode cX1_heftOf 46 = .ok (.invokestatic 39, 3) := by decide +kernel
theorem dX1_heftOf_49 : decode cX1_heftOf 49 = .ok (.iconst 2, 1) := by decide +kernel
theorem dX1_heftOf_50 : decode cX1_heftOf 50 = .ok (.iadd, 1) := by decide +kernel
theorem dX1_heftOf_51 : decode cX1_heftOf 51 = .ok (.ireturn, 1) := by decide +kernel
theorem dX1_heftOf_52 : decode cX1_heftOf 52 = .ok (.iconst 3, 1) := by decide +kernel
theorem dX1_heftOf_53 : decode cX1_heftOf 53 = .ok (.iconst 0, 1) := by decide +kernel
theorem dX1_heftOf_54 : decode cX1_heftOf 54 = .ok (.iload_n 1, 1) := by decide +kernel
theorem dX1_heftOf_55 : decode cX1_heftOf 55 = .ok (.invokestatic 39, 3) := by decide +kernel
theorem dX1_heftOf_58 : decode cX1_heftOf 58 = .ok (.imul, 1) := by decide +kernel
theorem dX1_heftOf_59 : decode cX1_heftOf 59 = .ok (.iload_n 1, 1) := by decide +kernel
theorem dX1_heftOf_60 : decode cX1_heftOf 60 = .ok (.iadd, 1) := by decide +kernel
theorem dX1_heftOf_61 : decode cX1_heftOf 61 = .ok (.ireturn, 1) := by decide +kernel
theorem dX1_heftOf_62 : decode cX1_heftOf 62 = .ok (.iconst 0, 1) := by decide +kernel
theorem dX1_heftOf_63 : decode cX1_heftOf 63 = .ok (.iload_n 1, 1) := by decide +kernel
theorem dX1_heftOf_64 : decode cX1_heftOf 64 = .ok (.invokestatic 39, 3) := by decide +kernel
theorem dX1_heftOf_67 : decode cX1_heftOf 67 = .ok (.iconst 1, 1) := by decide +kernel
theorem dX1_heftOf_68 : decode cX1_heftOf 68 = .ok (.isub, 1) := by decide +kernel
theorem dX1_heftOf_69 : decode cX1_heftOf 69 = .ok (.ireturn, 1) := by decide +kernel
theorem dX1_heftOf_70 : decode cX1_heftOf 70 = .ok (.iconst 1, 1) := by decide +kernel
theorem dX1_heftOf_71 : decode cX1_heftOf 71 = .ok (.iload_n 1, 1) := by decide +kernel
theorem dX1_heftOf_72 : decode cX1_heftOf 72 = .ok (.invokestatic 39, 3) := by decide +kernel
theorem dX1_heftOf_75 : decode cX1_heftOf 75 = .ok (.ireturn, 1) := by decide +kernel
theorem dX1_heftOf_76 : decode cX1_heftOf 76 = .ok (.iconst 2, 1) := by decide +kernel
theorem dX1_heftOf_77 : decode cX1_heftOf 77 = .ok (.iload_n 1, 1) := by decide +kernel
theorem dX1_heftOf_78 : decode cX1_heftOf 78 = .ok (.invokestatic 39, 3) := by decide +kernel
theorem dX1_heftOf_81 : decode cX1_heftOf 81 = .ok (.iconst 1, 1) := by decide +kernel
theorem dX1_heftOf_82 : decode cX1_heftOf 82 = .ok (.isub, 1) := by decide +kernel
theorem dX1_heftOf_83 : decode cX1_heftOf 83 = .ok (.ireturn, 1) := by decide +kernel
theorem dX1_heftOf_84 : decode cX1_heftOf 84 = .ok (.iconst 3, 1) := by decide +kernel
theorem dX1_heftOf_85 : decode cX1_heftOf 85 = .ok (.iload_n 1, 1) := by decide +kernel
theorem dX1_heftOf_86 : decode cX1_heftOf 86 = .ok (.invokestatic 39, 3) := by decide +kernel
theorem dX1_heftOf_89 : decode cX1_heftOf 89 = .ok (.iconst 1, 1) := by decide +kernel
theorem dX1_heftOf_90 : decode cX1_heftOf 90 = .ok (.iadd, 1) := by decide +kernel
theorem dX1_heftOf_91 : decode cX1_heftOf 91 = .ok (.ireturn, 1) := by decide +kernel
theorem dX1_heftOf_92 : decode cX1_heftOf 92 = .ok (.bipush 6, 2) := by decide +kernel
theorem dX1_heftOf_94 : decode cX1_heftOf 94 = .ok (.iload_n 1, 1) := by decide +kernel
theorem dX1_heftOf_95 : decode cX1_heftOf 95 = .ok (.invokestatic 39, 3) := by decide +kernel
theorem dX1_heftOf_98 : decode cX1_heftOf 98 = .ok (.ireturn, 1) := by decide +kernel
theorem dX1_heftOf_99 : decode cX1_heftOf 99 = .ok (.iconst 2, 1) := by decide +kernel
theorem dX1_heftOf_100 : decode cX1_heftOf 100 = .ok (.ireturn, 1) := by decide +kernel
theorem dX1_strengthOf_0 : decode cX1_strengthOf 0 = .ok (.iload_n 0, 1) := by decide +kernel
theorem dX1_strengthOf_1 : decode cX1_strengthOf 1 = .ok (.tableswitch 111 1 7 #[43, 53, 61, 70, 81, 92, 102], 43) := by decide +kernel
theorem dX1_strengthOf_44 : decode cX1_strengthOf 44 = .ok (.iconst 0, 1) := by decide +kernel
theorem dX1_strengthOf_45 : decode cX1_strengthOf 45 = .ok (.iload_n 1, 1) := by decide +kernel
theorem dX1_strengthOf_46 : decode cX1_strengthOf 46 = .ok (.invokestatic 46, 3) := by decide +kernel
theorem dX1_strengthOf_49 : decode cX1_strengthOf 49 = .ok (.sipush 200, 3) := by decide +kernel
theorem dX1_strengthOf_52 : decode cX1_strengthOf 52 = .ok (.iadd, 1) := by decide +kernel
theorem dX1_strengthOf_53 : decode cX1_strengthOf 53 = .ok (.ireturn, 1) := by decide +kernel
theorem dX1_strengthOf_54 : decode cX1_strengthOf 54 = .ok (.iconst 2, 1) := by decide +kernel
theorem dX1_strengthOf_55 : decode cX1_strengthOf 55 = .ok (.iconst 0, 1) := by decide +kernel
theorem dX1_strengthOf_56 : decode cX1_strengthOf 56 = .ok (.iload_n 1, 1) := by decide +kernel
theorem dX1_strengthOf_57 : decode cX1_strengthOf 57 = .ok (.invokestatic 46, 3) := by decide +kernel
theorem dX1_strengthOf_60 : decode cX1_strengthOf 60 = .ok (.imul, 1) := by decide +kernel
theorem dX1_strengthOf_61 : decode cX1_strengthOf 61 = .ok (.ireturn, 1) := by decide +kernel
theorem dX1_strengthOf_62 : decode cX1_strengthOf 62 = .ok (.iconst 0, 1) := by decide +kernel
theorem dX1_strengthOf_63 : decode cX1_strengthOf 63 = .ok (.iload_n 1, 1) := by decide +kernel
theorem dX1_strengthOf_64 : decode cX1_strengthOf 64 = .ok (.invokestatic 46, 3) := by decide +kernel
theorem dX1_strengthOf_67 : decode cX1_strengthOf 67 = .ok (.bipush 50, 2) := by decide +kernel
theorem dX1_strengthOf_69 : decode cX1_strengthOf 69 = .ok (.isub, 1) := by decide +kernel
theorem dX1_strengthOf_70 : decode cX1_strengthOf 70 = .ok (.ireturn, 1) := by decide +kernel
theorem dX1_strengthOf_71 : decode cX1_strengthOf 71 = .ok (.iconst 1, 1) := by decide +kernel
theorem dX1_strengthOf_72 : decode cX1_strengthOf 72 = .ok (.iload_n 1, 1) := by decide +kernel
theorem dX1_strengthOf_73 : decode cX1_strengthOf 73 = .ok (.invokestatic 46, 3) := by decide +kernel
theorem dX1_strengthOf_76 : decode cX1_strengthOf 76 = .ok (.bipush 20, 2) := by decide +kernel
theorem dX1_strengthOf_78 : decode cX1_strengthOf 78 = .ok (.iload_n 1, 1) := by decide +kernel
theorem dX1_strengthOf_79 : decode cX1_strengthOf 79 = .ok (.imul, 1) := by decide +kernel
theorem dX1_strengthOf_80 : decode cX1_strengthOf 80 = .ok (.isub, 1) := by decide +kernel
theorem dX1_strengthOf_81 : decode cX1_strengthOf 81 = .ok (.ireturn, 1) := by decide +kernel
theorem dX1_strengthOf_82 : decode cX1_strengthOf 82 = .ok (.iconst 2, 1) := by decide +kernel
theorem dX1_strengthOf_83 : decode cX1_strengthOf 83 = .ok (.iload_n 1, 1) := by decide +kernel
theorem dX1_strengthOf_84 : decode cX1_strengthOf 84 = .ok (.invokestatic 46, 3) := by decide +kernel
theorem dX1_strengthOf_87 : decode cX1_strengthOf 87 = .ok (.bipush 10, 2) := by decide +kernel
theorem dX1_strengthOf_89 : decode cX1_strengthOf 89 = .ok (.iload_n 1, 1) := by decide +kernel
theorem dX1_strengthOf_90 : decode cX1_strengthOf 90 = .ok (.imul, 1) := by decide +kernel
theorem dX1_strengthOf_91 : decode cX1_strengthOf 91 = .ok (.isub, 1) := by decide +kernel
theorem dX1_strengthOf_92 : decode cX1_strengthOf 92 = .ok (.ireturn, 1) := by decide +kernel
theorem dX1_strengthOf_93 : decode cX1_strengthOf 93 = .ok (.iconst 3, 1) := by decide +kernel
theorem dX1_strengthOf_94 : decode cX1_strengthOf 94 = .ok (.iload_n 1, 1) := by decide +kernel
theorem dX1_strengthOf_95 : decode cX1_strengthOf 95 = .ok (.invokestatic 46, 3) := by decide +kernel
theorem dX1_strengthOf_98 : decode cX1_strengthOf 98 = .ok (.iconst 5, 1) := by decide +kernel
theorem dX1_strengthOf_99 : decode cX1_strengthOf 99 = .ok (.iload_n 1, 1) := by decide +kernel
theorem dX1_strengthOf_100 : decode cX1_strengthOf 100 = .ok (.imul, 1) := by decide +kernel
theorem dX1_strengthOf_101 : decode cX1_strengthOf 101 = .ok (.isub, 1) := by decide +kernel
theorem dX1_strengthOf_102 : decode cX1_strengthOf 102 = .ok (.ireturn, 1) := by decide +kernel
theorem dX1_strengthOf_103 : decode cX1_strengthOf 103 = .ok (.bipush 6, 2) := by decide +kernel
theorem dX1_strengthOf_105 : decode cX1_strengthOf 105 = .ok (.iload_n 1, 1) := by decide +kernel
theorem dX1_strengthOf_106 : decode cX1_strengthOf 106 = .ok (.invokestatic 46, 3) := by decide +kernel
theorem dX1_strengthOf_109 : decode cX1_strengthOf 109 = .ok (.iconst 2, 1) := by decide +kernel
theorem dX1_strengthOf_110 : decode cX1_strengthOf 110 = .ok (.idiv, 1) := by decide +kernel
theorem dX1_strengthOf_111 : decode cX1_strengthOf 111 = .ok (.ireturn, 1) := by decide +kernel
theorem dX1_strengthOf_112 : decode cX1_strengthOf 112 = .ok (.sipush 300, 3) := by decide +kernel
theorem dX1_strengthOf_115 : decode cX1_strengthOf 115 = .ok (.ireturn, 1) := by decide +kernel
theorem dX1_wearOf_0 : decode cX1_wearOf 0 = .ok (.iload_n 0, 1) := by decide +kernel
theorem dX1_wearOf_1 : decode cX1_wearOf 1 = .ok (.tableswitch 98 1 7 #[43, 49, 57, 65, 73, 81, 89], 43) := by decide +kernel
theorem dX1_wearOf_44 : decode cX1_wearOf 44 = .ok (.iconst 0, 1) := by decide +kernel
theorem dX1_wearOf_45 : decode cX1_wearOf 45 = .ok (.iload_n 1, 1) := by decide +kernel
theorem dX1_wearOf_46 : decode cX1_wearOf 46 = .ok (.invokestatic 49, 3) := by decide +kernel
theorem dX1_wearOf_49 : decode cX1_wearOf 49 = .ok (.ireturn, 1) := by decide +kernel
theorem dX1_wearOf_50 : decode cX1_wearOf 50 = .ok (.iconst 0, 1) := by decide +kernel
theorem dX1_wearOf_51 : decode cX1_wearOf 51 = .ok (.iload_n 1, 1) := by decide +kernel
theorem dX1_wearOf_52 : decode cX1_wearOf 52 = .ok (.invokestatic 49, 3) := by decide +kernel
theorem dX1_wearOf_55 : decode cX1_wearOf 55 = .ok (.iconst 1, 1) := by decide +kernel
theorem dX1_wearOf_56 : decode cX1_wearOf 56 = .ok (.isub, 1) := by decide +kernel
theorem dX1_wearOf_57 : decode cX1_wearOf 57 = .ok (.ireturn, 1) := by decide +kernel
theorem dX1_wearOf_58 : decode cX1_wearOf 58 = .ok (.iconst 0, 1) := by decide +kernel
theorem dX1_wearOf_59 : decode cX1_wearOf 59 = .ok (.iload_n 1, 1) := by decide +kernel
theorem dX1_wearOf_60 : decode cX1_wearOf 60 = .ok (.invokestatic 49, 3) := by decide +kernel
theorem dX1_wearOf_63 : decode cX1_wearOf 63 = .ok (.iconst 2, 1) := by decide +kernel
theorem dX1_wearOf_64 : decode cX1_wearOf 64 = .ok (.iadd, 1) := by decide +kernel
theorem dX1_wearOf_65 : decode cX1_wearOf 65 = .ok (.ireturn, 1) := by decide +kernel
theorem dX1_wearOf_66 : decode cX1_wearOf 66 = .ok (.iconst 3, 1) := by decide +kernel
theorem dX1_wearOf_67 : decode cX1_wearOf 67 = .ok (.iconst 1, 1) := by decide +kernel
theorem dX1_wearOf_68 : decode cX1_wearOf 68 = .ok (.iload_n 1, 1) := by decide +kernel
theorem dX1_wearOf_69 : decode cX1_wearOf 69 = .ok (.invokestatic 49, 3) := by decide +kernel
theorem dX1_wearOf_72 : decode cX1_wearOf 72 = .ok (.imul, 1) := by decide +kernel
theorem dX1_wearOf_73 : decode cX1_wearOf 73 = .ok (.ireturn, 1) := by decide +kernel
theorem dX1_wearOf_74 : decode cX1_wearOf 74 = .ok (.iconst 2, 1) := by decide +kernel
theorem dX1_wearOf_75 : decode cX1_wearOf 75 = .ok (.iload_n 1, 1) := by decide +kernel
theorem dX1_wearOf_76 : decode cX1_wearOf 76 = .ok (.invokestatic 49, 3) := by decide +kernel
theorem dX1_wearOf_79 : decode cX1_wearOf 79 = .ok (.iconst 1, 1) := by decide +kernel
theorem dX1_wearOf_80 : decode cX1_wearOf 80 = .ok (.iadd, 1) := by decide +kernel
theorem dX1_wearOf_81 : decode cX1_wearOf 81 = .ok (.ireturn, 1) := by decide +kernel
theorem dX1_wearOf_82 : decode cX1_wearOf 82 = .ok (.iconst 3, 1) := by decide +kernel
theorem dX1_wearOf_83 : decode cX1_wearOf 83 = .ok (.iload_n 1, 1) := by decide +kernel
theorem dX1_wearOf_84 : decode cX1_wearOf 84 = .ok (.invokestatic 49, 3) := by decide +kernel
theorem dX1_wearOf_87 : decode cX1_wearOf 87 = .ok (.iload_n 1, 1) := by decide +kernel
theorem dX1_wearOf_88 : decode cX1_wearOf 88 = .ok (.iadd, 1) := by decide +kernel
theorem dX1_wearOf_89 : decode cX1_wearOf 89 = .ok (.ireturn, 1) := by decide +kernel
theorem dX1_wearOf_90 : decode cX1_wearOf 90 = .ok (.iconst 2, 1) := by decide +kernel
theorem dX1_wearOf_91 : decode cX1_wearOf 91 = .ok (.bipush 6, 2) := by decide +kernel
theorem dX1_wearOf_93 : decode cX1_wearOf 93 = .ok (.iload_n 1, 1) := by decide +kernel
theorem dX1_wearOf_94 : decode cX1_wearOf 94 = .ok (.invokestatic 49, 3) := by decide +kernel
theorem dX1_wearOf_97 : decode cX1_wearOf 97 = .ok (.imul, 1) := by decide +kernel
theorem dX1_wearOf_98 : decode cX1_wearOf 98 = .ok (.ireturn, 1) := by decide +kernel
theorem dX1_wearOf_99 : decode cX1_wearOf 99 = .ok (.iconst 1, 1) := by decide +kernel
theorem dX1_wearOf_100 : decode cX1_wearOf 100 = .ok (.ireturn, 1) := by decide +kernel
theorem dX1_begin_0 : decode cX1_begin 0 = .ok (.aload_n 0, 1) := by decide +kernel
theorem dX1_begin_1 : decode cX1_begin 1 = .ok (.iload_n 1, 1) := by decide +kernel
theorem dX1_begin_2 : decode cX1_begin 2 = .ok (.putfield 11, 3) := by decide +kernel
theorem dX1_begin_5 : decode cX1_begin 5 = .ok (.aload_n 0, 1) := by decide +kernel
theorem dX1_begin_6 : decode cX1_begin 6 = .ok (.iload_n 2, 1) := by decide +kernel
theorem dX1_begin_7 : decode cX1_begin 7 = .ok (.putfield 15, 3) := by decide +kernel
theorem dX1_begin_10 : decode cX1_begin 10 = .ok (.aload_n 0, 1) := by decide +kernel
theorem dX1_begin_11 : decode cX1_begin 11 = .ok (.iload_n 3, 1) := by decide +kernel
theorem dX1_begin_12 : decode cX1_begin 12 = .ok (.putfield 18, 3) := by decide +kernel
theorem dX1_begin_15 : decode cX1_begin 15 = .ok (.aload_n 0, 1) := by decide +kernel
theorem dX1_begin_16 : decode cX1_begin 16 = .ok (.iload 4, 2) := by decide +kernel
theorem dX1_begin_18 : decode cX1_begin 18 = .ok (.putfield 21, 3) := by decide +kernel
theorem dX1_begin_21 : decode cX1_begin 21 = .ok (.aload_n 0, 1) := by decide +kernel
theorem dX1_begin_22 : decode cX1_begin 22 = .ok (.iconst 0, 1) := by decide +kernel
theorem dX1_begin_23 : decode cX1_begin 23 = .ok (.putfield 24, 3) := by decide +kernel
theorem dX1_begin_26 : decode cX1_begin 26 = .ok (.aload_n 0, 1) := by decide +kernel
theorem dX1_begin_27 : decode cX1_begin 27 = .ok (.aload_n 0, 1) := by decide +kernel
theorem dX1_begin_28 : decode cX1_begin 28 = .ok (.getfield 11, 3) := by decide +kernel
theorem dX1_begin_31 : decode cX1_begin 31 = .ok (.aload_n 0, 1) := by decide +kernel
theorem dX1_begin_32 : decode cX1_begin 32 = .ok (.getfield 15, 3) := by decide +kernel
theorem dX1_begin_35 : decode cX1_begin 35 = .ok (.invokestatic 39, 3) := by decide +kernel
theorem dX1_begin_38 : decode cX1_begin 38 = .ok (.putfield 27, 3) := by decide +kernel
theorem dX1_begin_41 : decode cX1_begin 41 = .ok (.aload_n 0, 1) := by decide +kernel
theorem dX1_begin_42 : decode cX1_begin 42 = .ok (.aload_n 0, 1) := by decide +kernel
theorem dX1_begin_43 : decode cX1_begin 43 = .ok (.getfield 11, 3) := by decide +kernel
theorem dX1_begin_46 : decode cX1_begin 46 = .ok (.aload_n 0, 1) := by decide +kernel
theorem dX1_begin_47 : decode cX1_begin 47 = .ok (.getfield 15, 3) := by decide +kernel
theorem dX1_begin_50 : decode cX1_begin 50 = .ok (.invokestatic 43, 3) := by decide +kernel
theorem dX1_begin_53 : decode cX1_begin 53 = .ok (.putfield 30, 3) := by decide +kernel
theorem dX1_begin_56 : decode cX1_begin 56 = .ok (.aload_n 0, 1) := by decide +kernel
theorem dX1_begin_57 : decode cX1_begin 57 = .ok (.aload_n 0, 1) := by decide +kernel
theorem dX1_begin_58 : decode cX1_begin 58 = .ok (.getfield 11, 3) := by decide +kernel
theorem dX1_begin_61 : decode cX1_begin 61 = .ok (.aload_n 0, 1) := by decide +kernel
theorem dX1_begin_62 : decode cX1_begin 62 = .ok (.getfield 15, 3) := by decide +kernel
theorem dX1_begin_65 : decode cX1_begin 65 = .ok (.invokestatic 46, 3) := by decide +kernel
theorem dX1_begin_68 : decode cX1_begin 68 = .ok (.putfield 33, 3) := by decide +kernel
theorem dX1_begin_71 : decode cX1_begin 71 = .ok (.aload_n 0, 1) := by decide +kernel
theorem dX1_begin_72 : decode cX1_begin 72 = .ok (.aload_n 0, 1) := by decide +kernel
theorem dX1_begin_73 : decode cX1_begin 73 = .ok (.getfield 11, 3) := by decide +kernel
theorem dX1_begin_76 : decode cX1_begin 76 = .ok (.aload_n 0, 1) := by decide +kernel
theorem dX1_begin_77 : decode cX1_begin 77 = .ok (.getfield 15, 3) := by decide +kernel
theorem dX1_begin_80 : decode cX1_begin 80 = .ok (.invokestatic 49, 3) := by decide +kernel
theorem dX1_begin_83 : decode cX1_begin 83 = .ok (.putfield 36, 3) := by decide +kernel
theorem dX1_begin_86 : decode cX1_begin 86 = .ok (.return_, 1) := by decide +kernel
theorem dX5_isWithin_0 : decode cX5_isWithin 0 = .ok (.iload_n 0, 1) := by decide +kernel
theorem dX5_isWithin_1 : decode cX5_isWithin 1 = .ok (.iload_n 1, 1) := by decide +kernel
theorem dX5_isWithin_2 : decode cX5_isWithin 2 = .ok (.if_icmp .lt 12, 3) := by decide +kernel
theorem dX5_isWithin_5 : decode cX5_isWithin 5 = .ok (.iload_n 0, 1) := by decide +kernel
theorem dX5_isWithin_6 : decode cX5_isWithin 6 = .ok (.iload_n 2, 1) := by decide +kernel
theorem dX5_isWithin_7 : decode cX5_isWithin 7 = .ok (.if_icmp .gt 7, 3) := by decide +kernel
theorem dX5_isWithin_10 : decode cX5_isWithin 10 = .ok (.iconst 1, 1) := by decide +kernel
theorem dX5_isWithin_11 : decode cX5_isWithin 11 = .ok (.goto 4, 3) := by decide +kernel
theorem dX5_isWithin_14 : decode cX5_isWithin 14 = .ok (.iconst 0, 1) := by decide +kernel
theorem dX5_isWithin_15 : decode cX5_isWithin 15 = .ok (.ireturn, 1) := by decide +kernel
theorem dX4_addPiece_0 : decode cX4_addPiece 0 = .ok (.aload_n 0, 1) := by decide +kernel
theorem dX4_addPiece_1 : decode cX4_addPiece 1 = .ok (.getfield 17, 3) := by decide +kernel
theorem dX4_addPiece_4 : decode cX4_addPiece 4 = .ok (.bipush 6, 2) := by decide +kernel
theorem dX4_addPiece_6 : decode cX4_addPiece 6 = .ok (.if_icmp .ge 19, 3) := by decide +kernel
theorem dX4_addPiece_9 : decode cX4_addPiece 9 = .ok (.iload_n 1, 1) := by decide +kernel
theorem dX4_addPiece_10 : decode cX4_addPiece 10 = .ok (.bipush 7, 2) := by decide +kernel
theorem dX4_addPiece_12 : decode cX4_addPiece 12 = .ok (.if_icmp .gt 13, 3) := by decide +kernel
theorem dX4_addPiece_15 : decode cX4_addPiece 15 = .ok (.iload_n 3, 1) := by decide +kernel
theorem dX4_addPiece_16 : decode cX4_addPiece 16 = .ok (.iconst 1, 1) := by decide +kernel
theorem dX4_addPiece_17 : decode cX4_addPiece 17 = .ok (.bipush 99, 2) := by decide +kernel
theorem dX4_addPiece_19 : decode cX4_addPiece 19 = .ok (.invokestatic 62, 3) := by decide +kernel
theorem dX4_addPiece_22 : decode cX4_addPiece 22 = .ok (.ifCond .ne 5, 3) := by decide +kernel
theorem dX4_addPiece_25 : decode cX4_addPiece 25 = .ok (.iconst 0, 1) := by decide +kernel
theorem dX4_addPiece_26 : decode cX4_addPiece 26 = .ok (.ireturn, 1) := by decide +kernel
theorem dX4_addPiece_27 : decode cX4_addPiece 27 = .ok (.aload_n 0, 1) := by decide +kernel
theorem dX4_addPiece_28 : decode cX4_addPiece 28 = .ok (.getfield 11, 3) := by decide +kernel
theorem dX4_addPiece_31 : decode cX4_addPiece 31 = .ok (.aload_n 0, 1) := by decide +kernel
theorem dX4_addPiece_32 : decode cX4_addPiece 32 = .ok (.getfield 17, 3) := by decide +kernel
theorem dX4_addPiece_35 : decode cX4_addPiece 35 = .ok (.aaload, 1) := by decide +kernel
theorem dX4_addPiece_36 : decode cX4_addPiece 36 = .ok (.iload_n 1, 1) := by decide +kernel
theorem dX4_addPiece_37 : decode cX4_addPiece 37 = .ok (.iload_n 2, 1) := by decide +kernel
theorem dX4_addPiece_38 : decode cX4_addPiece 38 = .ok (.iload_n 3, 1) := by decide +kernel
theorem dX4_addPiece_39 : decode cX4_addPiece 39 = .ok (.aload_n 0, 1) := by decide +kernel
theorem dX4_addPiece_40 : decode cX4_addPiece 40 = .ok (.getfield 17, 3) := by decide +kernel
theorem dX4_addPiece_43 : decode cX4_addPiece 43 = .ok (.invokevirtual 66, 3) := by decide +kernel
theorem dX4_addPiece_46 : decode cX4_addPiece 46 = .ok (.aload_n 0, 1) := by decide +kernel
theorem dX4_addPiece_47 : decode cX4_addPiece 47 = .ok (.dup, 1) := by decide +kernel
theorem dX4_addPiece_48 : decode cX4_addPiece 48 = .ok (.getfield 17, 3) := by decide +kernel
theorem dX4_addPiece_51 : decode cX4_addPiece 51 = .ok (.iconst 1, 1) := by decide +kernel
theorem dX4_addPiece_52 : decode cX4_addPiece 52 = .ok (.iadd, 1) := by decide +kernel
theorem dX4_addPiece_53 : decode cX4_addPiece 53 = .ok (.putfield 17, 3) := by decide +kernel
theorem dX4_addPiece_56 : decode cX4_addPiece 56 = .ok (.iconst 1, 1) := by decide +kernel
theorem dX4_addPiece_57 : decode cX4_addPiece 57 = .ok (.ireturn, 1) := by decide +kernel
theorem dX4_maySet_0 : decode cX4_maySet 0 = .ok (.iload_n 0, 1) := by decide +kernel
theorem dX4_maySet_1 : decode cX4_maySet 1 = .ok (.iconst 0, 1) := by decide +kernel
theorem dX4_maySet_2 : decode cX4_maySet 2 = .ok (.bipush 6, 2) := by decide +kernel
theorem dX4_maySet_4 : decode cX4_maySet 4 = .ok (.invokestatic 62, 3) := by decide +kernel
theorem dX4_maySet_7 : decode cX4_maySet 7 = .ok (.ifCond .eq 24, 3) := by decide +kernel
theorem dX4_maySet_10 : decode cX4_maySet 10 = .ok (.iload_n 1, 1) := by decide +kernel
theorem dX4_maySet_11 : decode cX4_maySet 11 = .ok (.getstatic 70, 3) := by decide +kernel
theorem dX4_maySet_14 : decode cX4_maySet 14 = .ok (.iload_n 0, 1) := by decide +kernel
theorem dX4_maySet_15 : decode cX4_maySet 15 = .ok (.iaload, 1) := by decide +kernel
theorem dX4_maySet_16 : decode cX4_maySet 16 = .ok (.getstatic 73, 3) := by decide +kernel
theorem dX4_maySet_19 : decode cX4_maySet 19 = .ok (.iload_n 0, 1) := by decide +kernel
theorem dX4_maySet_20 : decode cX4_maySet 20 = .ok (.iaload, 1) := by decide +kernel
theorem dX4_maySet_21 : decode cX4_maySet 21 = .ok (.invokestatic 62, 3) := by decide +kernel
theorem dX4_maySet_24 : decode cX4_maySet 24 = .ok (.ifCond .eq 7, 3) := by decide +kernel
theorem dX4_maySet_27 : decode cX4_maySet 27 = .ok (.iconst 1, 1) := by decide +kernel
theorem dX4_maySet_28 : decode cX4_maySet 28 = .ok (.goto 4, 3) := by decide +kernel
theorem dX4_maySet_31 : decode cX4_maySet 31 = .ok (.iconst 0, 1) := by decide +kernel
theorem dX4_maySet_32 : decode cX4_maySet 32 = .ok (.ireturn, 1) := by decide +kernel
theorem dX4_change_0 : decode cX4_change 0 = .ok (.iload_n 1, 1) := by decide +kernel
theorem dX4_change_1 : decode cX4_change 1 = .ok (.iload_n 2, 1) := by decide +kernel
theorem dX4_change_2 : decode cX4_change 2 = .ok (.invokestatic 76, 3) := by decide +kernel
theorem dX4_change_5 : decode cX4_change 5 = .ok (.ifCond .ne 5, 3) := by decide +kernel
theorem dX4_change_8 : decode cX4_change 8 = .ok (.iconst 0, 1) := by decide +kernel
theorem dX4_change_9 : decode cX4_change 9 = .ok (.ireturn, 1) := by decide +kernel
theorem dX4_change_10 : decode cX4_change 10 = .ok (.aload_n 0, 1) := by decide +kernel
theorem dX4_change_11 : decode cX4_change 11 = .ok (.getfield 30, 3) := by decide +kernel
theorem dX4_change_14 : decode cX4_change 14 = .ok (.iload_n 1, 1) := by decide +kernel
theorem dX4_change_15 : decode cX4_change 15 = .ok (.iload_n 2, 1) := by decide +kernel
theorem dX4_change_16 : decode cX4_change 16 = .ok (.iastore, 1) := by decide +kernel
theorem dX4_change_17 : decode cX4_change 17 = .ok (.iconst 1, 1) := by decide +kernel
theorem dX4_change_18 : decode cX4_change 18 = .ok (.ireturn, 1) := by decide +kernel
theorem dX2_obey_0 : decode cX2_obey 0 = .ok (.iload_n 1, 1) := by decide +kernel
theorem dX2_obey_1 : decode cX2_obey 1 = .ok (.lookupswitch 181 #[(100, 120), (112, 51), (115, 74), (118, 108), (121, 132)], 51) := by decide +kernel
theorem dX2_obey_52 : decode cX2_obey 52 = .ok (.aload_n 2, 1) := by decide +kernel
theorem dX2_obey_53 : decode cX2_obey 53 = .ok (.aload_n 0, 1) := by decide +kernel
theorem dX2_obey_54 : decode cX2_obey 54 = .ok (.getfield 15, 3) := by decide +kernel
theorem dX2_obey_57 : decode cX2_obey 57 = .ok (.iconst 0, 1) := by decide +kernel
theorem dX2_obey_58 : decode cX2_obey 58 = .ok (.iaload, 1) := by decide +kernel
theorem dX2_obey_59 : decode cX2_obey 59 = .ok (.aload_n 0, 1) := by decide +kernel
theorem dX2_obey_60 : decode cX2_obey 60 = .ok (.getfield 15, 3) := by decide +kernel
theorem dX2_obey_63 : decode cX2_obey 63 = .ok (.iconst 1, 1) := by decide +kernel
theorem dX2_obey_64 : decode cX2_obey 64 = .ok (.iaload, 1) := by decide +kernel
theorem dX2_obey_65 : decode cX2_obey 65 = .ok (.aload_n 0, 1) := by decide +kernel
theorem dX2_obey_66 : decode cX2_obey 66 = .ok (.getfield 15, 3) := by decide +kernel
theorem dX2_obey_69 : decode cX2_obey 69 = .ok (.iconst 2, 1) := by decide +kernel
theorem dX2_obey_70 : decode cX2_obey 70 = .ok (.iaload, 1) := by decide +kernel
theorem dX2_obey_71 : decode cX2_obey 71 = .ok (.invokevirtual 90, 3) := by decide +kernel
theorem dX2_obey_74 : decode cX2_obey 74 = .ok (.ireturn, 1) := by decide +kernel
theorem dX2_obey_75 : decode cX2_obey 75 = .ok (.aload_n 2, 1) := by decide +kernel
theorem dX2_obey_76 : decode cX2_obey 76 = .ok (.iconst 0, 1) := by decide +kernel
theorem dX2_obey_77 : decode cX2_obey 77 = .ok (.aload_n 0, 1) := by decide +kernel
theorem dX2_obey_78 : decode cX2_obey 78 = .ok (.getfield 15, 3) := by decide +kernel
theorem dX2_obey_81 : decode cX2_obey 81 = .ok (.iconst 0, 1) := by decide +kernel
theorem dX2_obey_82 : decode cX2_obey 82 = .ok (.iaload, 1) := by decide +kernel
theorem dX2_obey_83 : decode cX2_obey 83 = .ok (.invokevirtual 95, 3) := by decide +kernel
theorem dX2_obey_86 : decode cX2_obey 86 = .ok (.ifCond .eq 21, 3) := by decide +kernel
theorem dX2_obey_89 : decode cX2_obey 89 = .ok (.aload_n 2, 1) := by decide +kernel
theorem dX2_obey_90 : decode cX2_obey 90 = .ok (.iconst 1, 1) := by decide +kernel
theorem dX2_obey_91 : decode cX2_obey 91 = .ok (.aload_n 0, 1) := by decide +kernel
theorem dX2_obey_92 : decode cX2_obey 92 = .ok (.getfield 15, 3) := by decide +kernel
theorem dX2_obey_95 : decode cX2_obey 95 = .ok (.iconst 1, 1) := by decide +kernel
theorem dX2_obey_96 : decode cX2_obey 96 = .ok (.iaload, 1) := by decide +kernel
theorem dX2_obey_97 : decode cX2_obey 97 = .ok (.invokevirtual 95, 3) := by decide +kernel
theorem dX2_obey_100 : decode cX2_obey 100 = .ok (.ifCond .eq 7, 3) := by decide +kernel
theorem dX2_obey_103 : decode cX2_obey 103 = .ok (.iconst 1, 1) := by decide +kernel
theorem dX2_obey_104 : decode cX2_obey 104 = .ok (.goto 4, 3) := by decide +kernel
theorem dX2_obey_107 : decode cX2_obey 107 = .ok (.iconst 0, 1) := by decide +kernel
theorem dX2_obey_108 : decode cX2_obey 108 = .ok (.ireturn, 1) := by decide +kernel
theorem dX2_obey_109 : decode cX2_obey 109 = .ok (.aload_n 2, 1) := by decide +kernel
theorem dX2_obey_110 : decode cX2_obey 110 = .ok (.iconst 2, 1) := by decide +kernel
theorem dX2_obey_111 : decode cX2_obey 111 = .ok (.aload_n 0, 1) := by decide +kernel
theorem dX2_obey_112 : decode cX2_obey 112 = .ok (.getfield 15, 3) := by decide +kernel
theorem dX2_obey_115 : decode cX2_obey 115 = .ok (.iconst 0, 1) := by decide +kernel
theorem dX2_obey_116 : decode cX2_obey 116 = .ok (.iaload, 1) := by decide +kernel
theorem dX2_obey_117 : decode cX2_obey 117 = .ok (.invokevirtual 95, 3) := by decide +kernel
theorem dX2_obey_120 : decode cX2_obey 120 = .ok (.ireturn, 1) := by decide +kernel
theorem dX2_obey_121 : decode cX2_obey 121 = .ok (.aload_n 2, 1) := by decide +kernel
theorem dX2_obey_122 : decode cX2_obey 122 = .ok (.iconst 3, 1) := by decide +kernel
theorem dX2_obey_123 : decode cX2_obey 123 = .ok (.aload_n 0, 1) := by decide +kernel
theorem dX2_obey_124 : decode cX2_obey 124 = .ok (.getfield 15, 3) := by decide +kernel
theorem dX2_obey_127 : decode cX2_obey 127 = .ok (.iconst 0, 1) := by decide +kernel
theorem dX2_obey_128 : decode cX2_obey 128 = .ok (.iaload, 1) := by decide +kernel
theorem dX2_obey_129 : decode cX2_obey 129 = .ok (.invokevirtual 95, 3) := by decide +kernel
theorem dX2_obey_132 : decode cX2_obey 132 = .ok (.ireturn, 1) := by decide +kernel
theorem dX2_obey_133 : decode cX2_obey 133 = .ok (.aload_n 2, 1) := by decide +kernel
theorem dX2_obey_134 : decode cX2_obey 134 = .ok (.iconst 4, 1) := by decide +kernel
theorem dX2_obey_135 : decode cX2_obey 135 = .ok (.aload_n 0, 1) := by decide +kernel
theorem dX2_obey_136 : decode cX2_obey 136 = .ok (.getfield 15, 3) := by decide +kernel
theorem dX2_obey_139 : decode cX2_obey 139 = .ok (.iconst 0, 1) := by decide +kernel
theorem dX2_obey_140 : decode cX2_obey 140 = .ok (.iaload, 1) := by decide +kernel
theorem dX2_obey_141 : decode cX2_obey 141 = .ok (.invokevirtual 95, 3) := by decide +kernel
theorem dX2_obey_144 : decode cX2_obey 144 = .ok (.ifCond .eq 36, 3) := by decide +kernel
theorem dX2_obey_147 : decode cX2_obey 147 = .ok (.aload_n 2, 1) := by decide +kernel
theorem dX2_obey_148 : decode cX2_obey 148 = .ok (.iconst 5, 1) := by decide +kernel
theorem dX2_obey_149 : decode cX2_obey 149 = .ok (.aload_n 0, 1) := by decide +kernel
theorem dX2_obey_150 : decode cX2_obey 150 = .ok (.getfield 15, 3) := by decide +kernel
theorem dX2_obey_153 : decode cX2_obey 153 = .ok (.iconst 1, 1) := by decide +kernel
theorem dX2_obey_154 : decode cX2_obey 154 = .ok (.iaload, 1) := by decide +kernel
theorem dX2_obey_155 : decode cX2_obey 155 = .ok (.invokevirtual 95, 3) := by decide +kernel
theorem dX2_obey_158 : decode cX2_obey 158 = .ok (.ifCond .eq 22, 3) := by decide +kernel
theorem dX2_obey_161 : decode cX2_obey 161 = .ok (.aload_n 2, 1) := by decide +kernel
theorem dX2_obey_162 : decode cX2_obey 162 = .ok (.bipush 6, 2) := by decide +kernel
theorem dX2_obey_164 : decode cX2_obey 164 = .ok (.aload_n 0, 1) := by decide +kernel
theorem dX2_obey_165 : decode cX2_obey 165 = .ok (.getfield 15, 3) := by decide +kernel
theorem dX2_obey_168 : decode cX2_obey 168 = .ok (.iconst 2, 1) := by decide +kernel
theorem dX2_obey_169 : decode cX2_obey 169 = .ok (.iaload, 1) := by decide +kernel
theorem dX2_obey_170 : decode cX2_obey 170 = .ok (.invokevirtual 95, 3) := by decide +kernel
theorem dX2_obey_173 : decode cX2_obey 173 = .ok (.ifCond .eq 7, 3) := by decide +kernel
theorem dX2_obey_176 : decode cX2_obey 176 = .ok (.iconst 1, 1) := by decide +kernel
theorem dX2_obey_177 : decode cX2_obey 177 = .ok (.goto 4, 3) := by decide +kernel
theorem dX2_obey_180 : decode cX2_obey 180 = .ok (.iconst 0, 1) := by decide +kernel
theorem dX2_obey_181 : decode cX2_obey 181 = .ok (.ireturn, 1) := by decide +kernel
theorem dX2_obey_182 : decode cX2_obey 182 = .ok (.aload_n 2, 1) := by decide +kernel
theorem dX2_obey_183 : decode cX2_obey 183 = .ok (.aload_n 0, 1) := by decide +kernel
theorem dX2_obey_184 : decode cX2_obey 184 = .ok (.getfield 15, 3) := by decide +kernel
theorem dX2_obey_187 : decode cX2_obey 187 = .ok (.iconst 0, 1) := by decide +kernel
theorem dX2_obey_188 : decode cX2_obey 188 = .ok (.iaload, 1) := by decide +kernel
theorem dX2_obey_189 : decode cX2_obey 189 = .ok (.aload_n 0, 1) := by decide +kernel
theorem dX2_obey_190 : decode cX2_obey 190 = .ok (.getfield 15, 3) := by decide +kernel
theorem dX2_obey_193 : decode cX2_obey 193 = .ok (.iconst 1, 1) := by decide +kernel
theorem dX2_obey_194 : decode cX2_obey 194 = .ok (.iaload, 1) := by decide +kernel
theorem dX2_obey_195 : decode cX2_obey 195 = .ok (.imul, 1) := by decide +kernel
theorem dX2_obey_196 : decode cX2_obey 196 = .ok (.putfield 98, 3) := by decide +kernel
theorem dX2_obey_199 : decode cX2_obey 199 = .ok (.iconst 1, 1) := by decide +kernel
theorem dX2_obey_200 : decode cX2_obey 200 = .ok (.ireturn, 1) := by decide +kernel
theorem dJ0_isLatin1_aae02_0 : decode cJ0_isLatin1_aae02 0 = .ok (.getstatic 38, 3) := by decide +kernel
theorem dJ0_isLatin1_aae02_3 : decode cJ0_isLatin1_aae02 3 = .ok (.ifCond .eq 14, 3) := by decide +kernel
theorem dJ0_isLatin1_aae02_6 : decode cJ0_isLatin1_aae02 6 = .ok (.aload_n 0, 1) := by decide +kernel
theorem dJ0_isLatin1_aae02_7 : decode cJ0_isLatin1_aae02 7 = .ok (.getfield 15, 3) := by decide +kernel
theorem dJ0_isLatin1_aae02_10 : decode cJ0_isLatin1_aae02 10 = .ok (.ifCond .ne 7, 3) := by decide +kernel
theorem dJ0_isLatin1_aae02_13 : decode cJ0_isLatin1_aae02 13 = .ok (.iconst 1, 1) := by decide +kernel
theorem dJ0_isLatin1_aae02_14 : decode cJ0_isLatin1_aae02 14 = .ok (.goto 4, 3) := by decide +kernel
theorem dJ0_isLatin1_aae02_17 : decode cJ0_isLatin1_aae02 17 = .ok (.iconst 0, 1) := by decide +kernel
theorem dJ0_isLatin1_aae02_18 : decode cJ0_isLatin1_aae02 18 = .ok (.ireturn, 1) := by decide +kernel
theorem dJ3_checkIndex_8e157_0 : decode cJ3_checkIndex_8e157 0 = .ok (.iload_n 0, 1) := by decide +kernel
theorem dJ3_checkIndex_8e157_1 : decode cJ3_checkIndex_8e157 1 = .ok (.ifCond .lt 8, 3) := by decide +kernel
theorem dJ3_checkIndex_8e157_4 : decode cJ3_checkIndex_8e157 4 = .ok (.iload_n 0, 1) := by decide +kernel
theorem dJ3_checkIndex_8e157_5 : decode cJ3_checkIndex_8e157 5 = .ok (.iload_n 1, 1) := by decide +kernel
theorem dJ3_checkIndex_8e157_6 : decode cJ3_checkIndex_8e157 6 = .ok (.if_icmp .lt 10, 3) := by decide +kernel
theorem dJ3_checkIndex_8e157_9 : decode cJ3_checkIndex_8e157 9 = .ok (.aload_n 2, 1) := by decide +kernel
theorem dJ3_checkIndex_8e157_16 : decode cJ3_checkIndex_8e157 16 = .ok (.iload_n 0, 1) := by decide +kernel
theorem dJ3_checkIndex_8e157_17 : decode cJ3_checkIndex_8e157 17 = .ok (.ireturn, 1) := by decide +kernel
theorem dJ0_checkIndex_df160_0 : decode cJ0_checkIndex_df160 0 = .ok (.iload_n 0, 1) := by decide +kernel
theorem dJ0_checkIndex_df160_1 : decode cJ0_checkIndex_df160 1 = .ok (.iload_n 1, 1) := by decide +kernel
theorem dJ0_checkIndex_df160_2 : decode cJ0_checkIndex_df160 2 = .ok (.getstatic 1053, 3) := by decide +kernel
theorem dJ0_checkIndex_df160_5 : decode cJ0_checkIndex_df160 5 = .ok (.invokestatic 1059, 3) := by decide +kernel
theorem dJ0_checkIndex_df160_8 : decode cJ0_checkIndex_df160 8 = .ok (.pop, 1) := by decide +kernel
theorem dJ0_checkIndex_df160_9 : decode cJ0_checkIndex_df160 9 = .ok (.return_, 1) := by decide +kernel
theorem dJ1_charAt_3b067_0 : decode cJ1_charAt_3b067 0 = .ok (.iload_n 1, 1) := by decide +kernel
theorem dJ1_charAt_3b067_1 : decode cJ1_charAt_3b067 1 = .ok (.aload_n 0, 1) := by decide +kernel
theorem dJ1_charAt_3b067_2 : decode cJ1_charAt_3b067 2 = .ok (.arraylength, 1) := by decide +kernel
theorem dJ1_charAt_3b067_3 : decode cJ1_charAt_3b067 3 = .ok (.invokestatic 9, 3) := by decide +kernel
theorem dJ1_charAt_3b067_6 : decode cJ1_charAt_3b067 6 = .ok (.aload_n 0, 1) := by decide +kernel
theorem dJ1_charAt_3b067_7 : decode cJ1_charAt_3b067 7 = .ok (.iload_n 1, 1) := by decide +kernel
theorem dJ1_charAt_3b067_8 : decode cJ1_charAt_3b067 8 = .ok (.baload, 1) := by decide +kernel
theorem dJ1_charAt_3b067_9 : decode cJ1_charAt_3b067 9 = .ok (.sipush 255, 3) := by decide +kernel
theorem dJ1_charAt_3b067_12 : decode cJ1_charAt_3b067 12 = .ok (.iand, 1) := by decide +kernel
theorem dJ1_charAt_3b067_13 : decode cJ1_charAt_3b067 13 = .ok (.i2c, 1) := by decide +kernel
theorem dJ1_charAt_3b067_14 : decode cJ1_charAt_3b067 14 = .ok (.ireturn, 1) := by decide +kernel
theorem dJ0_charAt_5068e_0 : decode cJ0_charAt_5068e 0 = .ok (.aload_n 0, 1) := by decide +kernel
theorem dJ0_charAt_5068e_1 : decode cJ0_charAt_5068e 1 = .ok (.invokevirtual 492, 3) := by decide +kernel
theorem dJ0_charAt_5068e_4 : decode cJ0_charAt_5068e 4 = .ok (.ifCond .eq 12, 3) := by decide +kernel
theorem dJ0_charAt_5068e_7 : decode cJ0_charAt_5068e 7 = .ok (.aload_n 0, 1) := by decide +kernel
theorem dJ0_charAt_5068e_8 : decode cJ0_charAt_5068e 8 = .ok (.getfield 9, 3) := by decide +kernel
theorem dJ0_charAt_5068e_11 : decode cJ0_charAt_5068e 11 = .ok (.iload_n 1, 1) := by decide +kernel
theorem dJ0_charAt_5068e_12 : decode cJ0_charAt_5068e 12 = .ok (.invokestatic 495, 3) := by decide +kernel
theorem dJ0_charAt_5068e_15 : decode cJ0_charAt_5068e 15 = .ok (.ireturn, 1) := by decide +kernel
theorem dJ0_charAt_5068e_16 : decode cJ0_charAt_5068e 16 = .ok (.aload_n 0, 1) := by decide +kernel
theorem dJ0_isEmpty_aae02_0 : decode cJ0_isEmpty_aae02 0 = .ok (.aload_n 0, 1) := by decide +kernel
theorem dJ0_isEmpty_aae02_1 : decode cJ0_isEmpty_aae02 1 = .ok (.getfield 9, 3) := by decide +kernel
theorem dJ0_isEmpty_aae02_4 : decode cJ0_isEmpty_aae02 4 = .ok (.arraylength, 1) := by decide +kernel
theorem dJ0_isEmpty_aae02_5 : decode cJ0_isEmpty_aae02 5 = .ok (.ifCond .ne 7, 3) := by decide +kernel
theorem dJ0_isEmpty_aae02_8 : decode cJ0_isEmpty_aae02 8 = .ok (.iconst 1, 1) := by decide +kernel
theorem dJ0_isEmpty_aae02_9 : decode cJ0_isEmpty_aae02 9 = .ok (.goto 4, 3) := by decide +kernel
theorem dJ0_isEmpty_aae02_12 : decode cJ0_isEmpty_aae02 12 = .ok (.iconst 0, 1) := by decide +kernel
theorem dJ0_isEmpty_aae02_13 : decode cJ0_isEmpty_aae02 13 = .ok (.ireturn, 1) := by decide +kernel
theorem dJ0_coder_7d493_0 : decode cJ0_coder_7d493 0 = .ok (.getstatic 38, 3) := by decide +kernel
theorem dJ0_coder_7d493_3 : decode cJ0_coder_7d493 3 = .ok (.ifCond .eq 10, 3) := by decide +kernel
theorem dJ0_coder_7d493_6 : decode cJ0_coder_7d493 6 = .ok (.aload_n 0, 1) := by decide +kernel
theorem dJ0_coder_7d493_7 : decode cJ0_coder_7d493 7 = .ok (.getfield 15, 3) := by decide +kernel
theorem dJ0_coder_7d493_10 : decode cJ0_coder_7d493 10 = .ok (.goto 4, 3) := by decide +kernel
theorem dJ0_coder_7d493_13 : decode cJ0_coder_7d493 13 = .ok (.iconst 1, 1) := by decide +kernel
theorem dJ0_coder_7d493_14 : decode cJ0_coder_7d493 14 = .ok (.ireturn, 1) := by decide +kernel
section WALK
variable {p : Program} {l : Launch} {e : Env} {s : State} {m : MethodId} {args : Array Value} {below : List Frame} {meth : Method} {c : Code} {G : GG}

def q_X1_giveOf : Nat → Mem → Int32 → Int32 → (Int32 → Mem → Prop) → Prop
  | 0 => fun _ _ _ _ => False
  | n + 1 => fun M x0 x1 post => (x0 = (1 : Int32) → (q_X1_giveOf n M (0 : Int32) x1 (fun r2 M3 => post (r2 - (2 : Int32)) M3))) ∧ (¬ x0 = (1 : Int32) → ((x0 = (2 : Int32) → (q_X1_giveOf n M (0 : Int32) x1 (fun r5 M6 => post (r5 - (3 : Int32)) M6))) ∧ (¬ x0 = (2 : Int32) → ((x0 = (3 : Int32) → (q_X1_giveOf n M (0 : Int32) x1 (fun r8 M9 => post (((10 : Int32) * r8) + x1) M9))) ∧ (¬ x0 = (3 : Int32) → ((x0 = (4 : Int32) → (q_X1_giveOf n M (1 : Int32) x1 (fun r11 M12 => post r11 M12))) ∧ (¬ x0 = (4 : Int32) → ((x0 = (5 : Int32) → (q_X1_giveOf n M (2 : Int32) x1 (fun r14 M15 => post ((2 : Int32) * r14) M15))) ∧ (¬ x0 = (5 : Int32) → ((x0 = (6 : Int32) → (q_X1_giveOf n M (3 : Int32) x1 (fun r17 M18 => post (r17 / (2 : Int32)) M18))) ∧ (¬ x0 = (6 : Int32) → ((x0 = (7 : Int32) → (q_X1_giveOf n M (6 : Int32) x1 (fun r20 M21 => post (r20 - (5 : Int32)) M21))) ∧ (¬ x0 = (7 : Int32) → (post (4 : Int32) M))))))))))))))
set_option maxHeartbeats 4000000 in
set_option maxRecDepth 100000 in
theorem c_X1_giveOf (l : Launch) (G : GG) (hG : Ag G) : ∀ (n sz : Nat) (M : Mem) (x0 : Int32) (x1 : Int32) (post : Int32 → Mem → Prop) (h : q_X1_giveOf n M x0 x1 post), Met l yX1_giveOf (Cond.code yX1_giveOf cX1_giveOf 2 (some .int) :: wsL_law) (rmk n) (va_Pc [.int x0, .int x1] (Pw G sz M)) (va_Qi post (Qw G) (Af G sz)) 0 0 (Af G sz) := by
  intro n
  induction n with
  | zero => intro sz M x0 x1 post h; exact absurd h id
  | succ n ih =>
  intro sz M x0 x1 post h
  refine Met.ofW (cc := cX1_giveOf) (maxL := 2) (ret := (some .int)) (by decide) rfl ?_
  intro p e s m args below meth c s₁ B hml hv
  obtain ⟨rfl, hsz, hE, hP⟩ := hv
  subst hsz
  have C := Cx.of (own := RX1) hG hE rfl hml B
  have w : Wd G s M s.heap [] := ⟨hP, va_S.rf⟩
  have hl := lv_entry [.int x0, .int x1] (n := 2) (Nat.le_of_ble_eq_true rfl)
  rw [lg_entry_eq]
  generalize (lg_sl [.int x0, .int x1] ++ List.replicate (2 - (lg_sl [.int x0, .int x1]).length) Slot.unset).toArray = ls at hl ⊢
  have hl : lv_has ls 2 [(0, .int x0), (1, .int x1)] := hl
  have hx := C.1.1
  have hb := C.1.2.1
  show W p l e (rmk (n + 1)) s m _ below meth c s.heap [] 0 0 _ _
  replace h : (x0 = (1 : Int32) → (q_X1_giveOf n M (0 : Int32) x1 (fun r2 M3 => post (r2 - (2 : Int32)) M3))) ∧ (¬ x0 = (1 : Int32) → ((x0 = (2 : Int32) → (q_X1_giveOf n M (0 : Int32) x1 (fun r5 M6 => post (r5 - (3 : Int32)) M6))) ∧ (¬ x0 = (2 : Int32) → ((x0 = (3 : Int32) → (q_X1_giveOf n M (0 : Int32) x1 (fun r8 M9 => post (((10 : Int32) * r8) + x1) M9))) ∧ (¬ x0 = (3 : Int32) → ((x0 = (4 : Int32) → (q_X1_giveOf n M (1 : Int32) x1 (fun r11 M12 => post r11 M12))) ∧ (¬ x0 = (4 : Int32) → ((x0 = (5 : Int32) → (q_X1_giveOf n M (2 : Int32) x1 (fun r14 M15 => post ((2 : Int32) * r14) M15))) ∧ (¬ x0 = (5 : Int32) → ((x0 = (6 : Int32) → (q_X1_giveOf n M (3 : Int32) x1 (fun r17 M18 => post (r17 / (2 : Int32)) M18))) ∧ (¬ x0 = (6 : Int32) → ((x0 = (7 : Int32) → (q_X1_giveOf n M (6 : Int32) x1 (fun r20 M21 => post (r20 - (5 : Int32)) M21))) ∧ (¬ x0 = (7 : Int32) → (post (4 : Int32) M)))))))))))))) := h
  refine lv_iload_n hx hb dX1_giveOf_0 rfl (lv_at hl 0 rfl) ?_
  by_cases c1 : x0 = (1 : Int32)
  · replace h := h.1 c1
    refine lv_tableIn (off := 43) (tgt := 44) hx hb dX1_giveOf_1 (by rw [c1]; decide) (by rw [c1]; decide) (by rw [c1]; decide) (by decide) ?_
    refine lv_iconst (v := 0) hx hb dX1_giveOf_44 (by decide) ?_
    refine lv_iload_n hx hb dX1_giveOf_45 rfl (lv_at hl 1 rfl) ?_
    refine end_i w (run_S (As := [.int (0 : Int32), .int x1]) C w hl.1 (ih _ _ (0 : Int32) x1 _ h) kw_10_23 kw_2_1 kw_10_21 kw_10_22 hd_X1_giveOf ⟨Nat.le_refl _, by decide⟩ rfl (Nat.le_of_ble_eq_true rfl) dX1_giveOf_46) (fun r2 M3 H locs h w => ?_)
    refine lv_iconst (v := 2) hx hb dX1_giveOf_49 (by decide) ?_
    refine lv_isub hx hb dX1_giveOf_50 ?_
    exact ret_i C w h dX1_giveOf_51
  replace h := h.2 c1
  by_cases c4 : x0 = (2 : Int32)
  · replace h := h.1 c4
    refine lv_tableIn (off := 51) (tgt := 52) hx hb dX1_giveOf_1 (by rw [c4]; decide) (by rw [c4]; decide) (by rw [c4]; decide) (by decide) ?_
    refine lv_iconst (v := 0) hx hb dX1_giveOf_52 (by decide) ?_
    refine lv_iload_n hx hb dX1_giveOf_53 rfl (lv_at hl 1 rfl) ?_
    refine end_i w (run_S (As := [.int (0 : Int32), .int x1]) C w hl.1 (ih _ _ (0 : Int32) x1 _ h) kw_10_23 kw_2_1 kw_10_21 kw_10_22 hd_X1_giveOf ⟨Nat.le_refl _, by decide⟩ rfl (Nat.le_of_ble_eq_true rfl) dX1_giveOf_54) (fun r5 M6 H locs h w => ?_)
    refine lv_iconst (v := 3) hx hb dX1_giveOf_57 (by decide) ?_
    refine lv_isub hx hb dX1_giveOf_58 ?_
    exact ret_i C w h dX1_giveOf_59
  replace h := h.2 c4
  by_cases c7 : x0 = (3 : Int32)
  · replace h := h.1 c7
    refine lv_tableIn (off := 59) (tgt := 60) hx hb dX1_giveOf_1 (by rw [c7]; decide) (by rw [c7]; decide) (by rw [c7]; decide) (by decide) ?_
    refine lv_bipush (v := 10) hx hb dX1_giveOf_60 (by decide) ?_
    refine lv_iconst (v := 0) hx hb dX1_giveOf_62 (by decide) ?_
    refine lv_iload_n hx hb dX1_giveOf_63 rfl (lv_at hl 1 rfl) ?_
    refine end_i w (run_S (As := [.int (0 : Int32), .int x1]) C w hl.1 (ih _ _ (0 : Int32) x1 _ h) kw_10_23 kw_2_1 kw_10_21 kw_10_22 hd_X1_giveOf ⟨Nat.le_refl _, by decide⟩ rfl (Nat.le_of_ble_eq_true rfl) dX1_giveOf_64) (fun r8 M9 H locs h w => ?_)
    refine lv_imul hx hb dX1_giveOf_67 ?_
    refine lv_iload_n hx hb dX1_giveOf_68 rfl (lv_at hl 1 rfl) ?_
    refine lv_iadd hx hb dX1_giveOf_69 ?_
    exact ret_i C w h dX1_giveOf_70
  replace h := h.2 c7
  by_cases c10 : x0 = (4 : Int32)
  · replace h := h.1 c10
    refine lv_tableIn (off := 70) (tgt := 71) hx hb dX1_giveOf_1 (by rw [c10]; decide) (by rw [c10]; decide) (by rw [c10]; decide) (by decide) ?_
    refine lv_iconst (v := 1) hx hb dX1_giveOf_71 (by decide) ?_
    refine lv_iload_n hx hb dX1_giveOf_72 rfl (lv_at hl 1 rfl) ?_
    refine end_i w (run_S (As := [.int (1 : Int32), .int x1]) C w hl.1 (ih _ _ (1 : Int32) x1 _ h) kw_10_23 kw_2_1 kw_10_21 kw_10_22 hd_X1_giveOf ⟨Nat.le_refl _, by decide⟩ rfl (Nat.le_of_ble_eq_true rfl) dX1_giveOf_73) (fun r11 M12 H locs h w => ?_)
    exact ret_i C w h dX1_giveOf_76
  replace h := h.2 c10
  by_cases c13 : x0 = (5 : Int32)
  · replace h := h.1 c13
    refine lv_tableIn (off := 76) (tgt := 77) hx hb dX1_giveOf_1 (by rw [c13]; decide) (by rw [c13]; decide) (by rw [c13]; decide) (by decide) ?_
    refine lv_iconst (v := 2) hx hb dX1_giveOf_77 (by decide) ?_
    refine lv_iconst (v := 2) hx hb dX1_giveOf_78 (by decide) ?_
    refine lv_iload_n hx hb dX1_giveOf_79 rfl (lv_at hl 1 rfl) ?_
    refine end_i w (run_S (As := [.int (2 : Int32), .int x1]) C w hl.1 (ih _ _ (2 : Int32) x1 _ h) kw_10_23 kw_2_1 kw_10_21 kw_10_22 hd_X1_giveOf ⟨Nat.le_refl _, by decide⟩ rfl (Nat.le_of_ble_eq_true rfl) dX1_giveOf_80) (fun r14 M15 H locs h w => ?_)
    refine lv_imul hx hb dX1_giveOf_83 ?_
    exact ret_i C w h dX1_giveOf_84
  replace h := h.2 c13
  by_cases c16 : x0 = (6 : Int32)
  · replace h := h.1 c16
    refine lv_tableIn (off := 84) (tgt := 85) hx hb dX1_giveOf_1 (by rw [c16]; decide) (by rw [c16]; decide) (by rw [c16]; decide) (by decide) ?_
    refine lv_iconst (v := 3) hx hb dX1_giveOf_85 (by decide) ?_
    refine lv_iload_n hx hb dX1_giveOf_86 rfl (lv_at hl 1 rfl) ?_
    refine end_i w (run_S (As := [.int (3 : Int32), .int x1]) C w hl.1 (ih _ _ (3 : Int32) x1 _ h) kw_10_23 kw_2_1 kw_10_21 kw_10_22 hd_X1_giveOf ⟨Nat.le_refl _, by decide⟩ rfl (Nat.le_of_ble_eq_true rfl) dX1_giveOf_87) (fun r17 M18 H locs h w => ?_)
    refine lv_iconst (v := 2) hx hb dX1_giveOf_90 (by decide) ?_
    refine lv_idiv hx hb dX1_giveOf_91 (by decide) ?_
    exact ret_i C w h dX1_giveOf_92
  replace h := h.2 c16
  by_cases c19 : x0 = (7 : Int32)
  · replace h := h.1 c19
    refine lv_tableIn (off := 92) (tgt := 93) hx hb dX1_giveOf_1 (by rw [c19]; decide) (by rw [c19]; decide) (by rw [c19]; decide) (by decide) ?_
    refine lv_bipush (v := 6) hx hb dX1_giveOf_93 (by decide) ?_
    refine lv_iload_n hx hb dX1_giveOf_95 rfl (lv_at hl 1 rfl) ?_
    refine end_i w (run_S (As := [.int (6 : Int32), .int x1]) C w hl.1 (ih _ _ (6 : Int32) x1 _ h) kw_10_23 kw_2_1 kw_10_21 kw_10_22 hd_X1_giveOf ⟨Nat.le_refl _, by decide⟩ rfl (Nat.le_of_ble_eq_true rfl) dX1_giveOf_96) (fun r20 M21 H locs h w => ?_)
    refine lv_iconst (v := 5) hx hb dX1_giveOf_99 (by decide) ?_
    refine lv_isub hx hb dX1_giveOf_100 ?_
    exact ret_i C w h dX1_giveOf_101
  replace h := h.2 c19
  have nc1 := lv_neT c1 (a := 1) (by decide)
  have nc4 := lv_neT c4 (a := 2) (by decide)
  have nc7 := lv_neT c7 (a := 3) (by decide)
  have nc10 := lv_neT c10 (a := 4) (by decide)
  have nc13 := lv_neT c13 (a := 5) (by decide)
  have nc16 := lv_neT c16 (a := 6) (by decide)
  have nc19 := lv_neT c19 (a := 7) (by decide)
  refine lv_tableOut (tgt := 102) hx hb dX1_giveOf_1 (by omega) (by decide) ?_
  refine lv_iconst (v := 4) hx hb dX1_giveOf_102 (by decide) ?_
  exact ret_i C w h dX1_giveOf_103
def q_X1_heftOf : Nat → Mem → Int32 → Int32 → (Int32 → Mem → Prop) → Prop
  | 0 => fun _ _ _ _ => False
  | n + 1 => fun M x0 x1 post => (x0 = (1 : Int32) → (q_X1_heftOf n M (0 : Int32) x1 (fun r2 M3 => post (r2 + (2 : Int32)) M3))) ∧ (¬ x0 = (1 : Int32) → ((x0 = (2 : Int32) → (q_X1_heftOf n M (0 : Int32) x1 (fun r5 M6 => post (((3 : Int32) * r5) + x1) M6))) ∧ (¬ x0 = (2 : Int32) → ((x0 = (3 : Int32) → (q_X1_heftOf n M (0 : Int32) x1 (fun r8 M9 => post (r8 - (1 : Int32)) M9))) ∧ (¬ x0 = (3 : Int32) → ((x0 = (4 : Int32) → (q_X1_heftOf n M (1 : Int32) x1 (fun r11 M12 => post r11 M12))) ∧ (¬ x0 = (4 : Int32) → ((x0 = (5 : Int32) → (q_X1_heftOf n M (2 : Int32) x1 (fun r14 M15 => post (r14 - (1 : Int32)) M15))) ∧ (¬ x0 = (5 : Int32) → ((x0 = (6 : Int32) → (q_X1_heftOf n M (3 : Int32) x1 (fun r17 M18 => post (r17 + (1 : Int32)) M18))) ∧ (¬ x0 = (6 : Int32) → ((x0 = (7 : Int32) → (q_X1_heftOf n M (6 : Int32) x1 (fun r20 M21 => post r20 M21))) ∧ (¬ x0 = (7 : Int32) → (post (2 : Int32) M))))))))))))))
set_option maxHeartbeats 4000000 in
set_option maxRecDepth 100000 in
theorem c_X1_heftOf (l : Launch) (G : GG) (hG : Ag G) : ∀ (n sz : Nat) (M : Mem) (x0 : Int32) (x1 : Int32) (post : Int32 → Mem → Prop) (h : q_X1_heftOf n M x0 x1 post), Met l yX1_heftOf (Cond.code yX1_heftOf cX1_heftOf 2 (some .int) :: wsL_law) (rmk n) (va_Pc [.int x0, .int x1] (Pw G sz M)) (va_Qi post (Qw G) (Af G sz)) 0 0 (Af G sz) := by
  intro n
  induction n with
  | zero => intro sz M x0 x1 post h; exact absurd h id
  | succ n ih =>
  intro sz M x0 x1 post h
  refine Met.ofW (cc := cX1_heftOf) (maxL := 2) (ret := (some .int)) (by decide) rfl ?_
  intro p e s m args below meth c s₁ B hml hv
  obtain ⟨rfl, hsz, hE, hP⟩ := hv
  subst hsz
  have C := Cx.of (own := RX1) hG hE rfl hml B
  have w : Wd G s M s.heap [] := ⟨hP, va_S.rf⟩
  have hl := lv_entry [.int x0, .int x1] (n := 2) (Nat.le_of_ble_eq_true rfl)
  rw [lg_entry_eq]
  generalize (lg_sl [.int x0, .int x1] ++ List.replicate (2 - (lg_sl [.int x0, .int x1]).length) Slot.unset).toArray = ls at hl ⊢
  have hl : lv_has ls 2 [(0, .int x0), (1, .int x1)] := hl
  have hx := C.1.1
  have hb := C.1.2.1
  show W p l e (rmk (n + 1)) s m _ below meth c s.heap [] 0 0 _ _
  replace h : (x0 = (1 : Int32) → (q_X1_heftOf n M (0 : Int32) x1 (fun r2 M3 => post (r2 + (2 : Int32)) M3))) ∧ (¬ x0 = (1 : Int32) → ((x0 = (2 : Int32) → (q_X1_heftOf n M (0 : Int32) x1 (fun r5 M6 => post (((3 : Int32) * r5) + x1) M6))) ∧ (¬ x0 = (2 : Int32) → ((x0 = (3 : Int32) → (q_X1_heftOf n M (0 : Int32) x1 (fun r8 M9 => post (r8 - (1 : Int32)) M9))) ∧ (¬ x0 = (3 : Int32) → ((x0 = (4 : Int32) → (q_X1_heftOf n M (1 : Int32) x1 (fun r11 M12 => post r11 M12))) ∧ (¬ x0 = (4 : Int32) → ((x0 = (5 : Int32) → (q_X1_heftOf n M (2 : Int32) x1 (fun r14 M15 => post (r14 - (1 : Int32)) M15))) ∧ (¬ x0 = (5 : Int32) → ((x0 = (6 : Int32) → (q_X1_heftOf n M (3 : Int32) x1 (fun r17 M18 => post (r17 + (1 : Int32)) M18))) ∧ (¬ x0 = (6 : Int32) → ((x0 = (7 : Int32) → (q_X1_heftOf n M (6 : Int32) x1 (fun r20 M21 => post r20 M21))) ∧ (¬ x0 = (7 : Int32) → (post (2 : Int32) M)))))))))))))) := h
  refine lv_iload_n hx hb dX1_heftOf_0 rfl (lv_at hl 0 rfl) ?_
  by_cases c1 : x0 = (1 : Int32)
  · replace h := h.1 c1
    refine lv_tableIn (off := 43) (tgt := 44) hx hb dX1_heftOf_1 (by rw [c1]; decide) (by rw [c1]; decide) (by rw [c1]; decide) (by decide) ?_
    refine lv_iconst (v := 0) hx hb dX1_heftOf_44 (by decide) ?_
    refine lv_iload_n hx hb dX1_heftOf_45 rfl (lv_at hl 1 rfl) ?_
    refine end_i w (run_S (As := [.int (0 : Int32), .int x1]) C w hl.1 (ih _ _ (0 : Int32) x1 _ h) kw_10_20 kw_2_1 kw_10_18 kw_10_19 hd_X1_heftOf ⟨Nat.le_refl _, by decide⟩ rfl (Nat.le_of_ble_eq_true rfl) dX1_heftOf_46) (fun r2 M3 H locs h w => ?_)
    refine lv_iconst (v := 2) hx hb dX1_heftOf_49 (by decide) ?_
    refine lv_iadd hx hb dX1_heftOf_50 ?_
    exact ret_i C w h dX1_heftOf_51
  replace h := h.2 c1
  by_cases c4 : x0 = (2 : Int32)
  · replace h := h.1 c4
    refine lv_tableIn (off := 51) (tgt := 52) hx hb dX1_heftOf_1 (by rw [c4]; decide) (by rw [c4]; decide) (by rw [c4]; decide) (by decide) ?_
    refine lv_iconst (v := 3) hx hb dX1_heftOf_52 (by decide) ?_
    refine lv_iconst (v := 0) hx hb dX1_heftOf_53 (by decide) ?_
    refine lv_iload_n hx hb dX1_heftOf_54 rfl (lv_at hl 1 rfl) ?_
    refine end_i w (run_S (As := [.int (0 : Int32), .int x1]) C w hl.1 (ih _ _ (0 : Int32) x1 _ h) kw_10_20 kw_2_1 kw_10_18 kw_10_19 hd_X1_heftOf ⟨Nat.le_refl _, by decide⟩ rfl (Nat.le_of_ble_eq_true rfl) dX1_heftOf_55) (fun r5 M6 H locs h w => ?_)
    refine lv_imul hx hb dX1_heftOf_58 ?_
    refine lv_iload_n hx hb dX1_heftOf_59 rfl (lv_at hl 1 rfl) ?_
    refine lv_iadd hx hb dX1_heftOf_60 ?_
    exact ret_i C w h dX1_heftOf_61
  replace h := h.2 c4
  by_cases c7 : x0 = (3 : Int32)
  · replace h := h.1 c7
    refine lv_tableIn (off := 61) (tgt := 62) hx hb dX1_heftOf_1 (by rw [c7]; decide) (by rw [c7]; decide) (by rw [c7]; decide) (by decide) ?_
    refine lv_iconst (v := 0) hx hb dX1_heftOf_62 (by decide) ?_
    refine lv_iload_n hx hb dX1_heftOf_63 rfl (lv_at hl 1 rfl) ?_
    refine end_i w (run_S (As := [.int (0 : Int32), .int x1]) C w hl.1 (ih _ _ (0 : Int32) x1 _ h) kw_10_20 kw_2_1 kw_10_18 kw_10_19 hd_X1_heftOf ⟨Nat.le_refl _, by decide⟩ rfl (Nat.le_of_ble_eq_true rfl) dX1_heftOf_64) (fun r8 M9 H locs h w => ?_)
    refine lv_iconst (v := 1) hx hb dX1_heftOf_67 (by decide) ?_
    refine lv_isub hx hb dX1_heftOf_68 ?_
    exact ret_i C w h dX1_heftOf_69
  replace h := h.2 c7
  by_cases c10 : x0 = (4 : Int32)
  · replace h := h.1 c10
    refine lv_tableIn (off := 69) (tgt := 70) hx hb dX1_heftOf_1 (by rw [c10]; decide) (by rw [c10]; decide) (by rw [c10]; decide) (by decide) ?_
    refine lv_iconst (v := 1) hx hb dX1_heftOf_70 (by decide) ?_
    refine lv_iload_n hx hb dX1_heftOf_71 rfl (lv_at hl 1 rfl) ?_
    refine end_i w (run_S (As := [.int (1 : Int32), .int x1]) C w hl.1 (ih _ _ (1 : Int32) x1 _ h) kw_10_20 kw_2_1 kw_10_18 kw_10_19 hd_X1_heftOf ⟨Nat.le_refl _, by decide⟩ rfl (Nat.le_of_ble_eq_true rfl) dX1_heftOf_72) (fun r11 M12 H locs h w => ?_)
    exact ret_i C w h dX1_heftOf_75
  replace h := h.2 c10
  by_cases c13 : x0 = (5 : Int32)
  · replace h := h.1 c13
    refine lv_tableIn (off := 75) (tgt := 76) hx hb dX1_heftOf_1 (by rw [c13]; decide) (by rw [c13]; decide) (by rw [c13]; decide) (by decide) ?_
    refine lv_iconst (v := 2) hx hb dX1_heftOf_76 (by decide) ?_
    refine lv_iload_n hx hb dX1_heftOf_77 rfl (lv_at hl 1 rfl) ?_
    refine end_i w (run_S (As := [.int (2 : Int32), .int x1]) C w hl.1 (ih _ _ (2 : Int32) x1 _ h) kw_10_20 kw_2_1 kw_10_18 kw_10_19 hd_X1_heftOf ⟨Nat.le_refl _, by decide⟩ rfl (Nat.le_of_ble_eq_true rfl) dX1_heftOf_78) (fun r14 M15 H locs h w => ?_)
    refine lv_iconst (v := 1) hx hb dX1_heftOf_81 (by decide) ?_
    refine lv_isub hx hb dX1_heftOf_82 ?_
    exact ret_i C w h dX1_heftOf_83
  replace h := h.2 c13
  by_cases c16 : x0 = (6 : Int32)
  · replace h := h.1 c16
    refine lv_tableIn (off := 83) (tgt := 84) hx hb dX1_heftOf_1 (by rw [c16]; decide) (by rw [c16]; decide) (by rw [c16]; decide) (by decide) ?_
    refine lv_iconst (v := 3) hx hb dX1_heftOf_84 (by decide) ?_
    refine lv_iload_n hx hb dX1_heftOf_85 rfl (lv_at hl 1 rfl) ?_
    refine end_i w (run_S (As := [.int (3 : Int32), .int x1]) C w hl.1 (ih _ _ (3 : Int32) x1 _ h) kw_10_20 kw_2_1 kw_10_18 kw_10_19 hd_X1_heftOf ⟨Nat.le_refl _, by decide⟩ rfl (Nat.le_of_ble_eq_true rfl) dX1_heftOf_86) (fun r17 M18 H locs h w => ?_)
    refine lv_iconst (v := 1) hx hb dX1_heftOf_89 (by decide) ?_
    refine lv_iadd hx hb dX1_heftOf_90 ?_
    exact ret_i C w h dX1_heftOf_91
  replace h := h.2 c16
  by_cases c19 : x0 = (7 : Int32)
  · replace h := h.1 c19
    refine lv_tableIn (off := 91) (tgt := 92) hx hb dX1_heftOf_1 (by rw [c19]; decide) (by rw [c19]; decide) (by rw [c19]; decide) (by decide) ?_
    refine lv_bipush (v := 6) hx hb dX1_heftOf_92 (by decide) ?_
    refine lv_iload_n hx hb dX1_heftOf_94 rfl (lv_at hl 1 rfl) ?_
    refine end_i w (run_S (As := [.int (6 : Int32), .int x1]) C w hl.1 (ih _ _ (6 : Int32) x1 _ h) kw_10_20 kw_2_1 kw_10_18 kw_10_19 hd_X1_heftOf ⟨Nat.le_refl _, by decide⟩ rfl (Nat.le_of_ble_eq_true rfl) dX1_heftOf_95) (fun r20 M21 H locs h w => ?_)
    exact ret_i C w h dX1_heftOf_98
  replace h := h.2 c19
  have nc1 := lv_neT c1 (a := 1) (by decide)
  have nc4 := lv_neT c4 (a := 2) (by decide)
  have nc7 := lv_neT c7 (a := 3) (by decide)
  have nc10 := lv_neT c10 (a := 4) (by decide)
  have nc13 := lv_neT c13 (a := 5) (by decide)
  have nc16 := lv_neT c16 (a := 6) (by decide)
  have nc19 := lv_neT c19 (a := 7) (by decide)
  refine lv_tableOut (tgt := 99) hx hb dX1_heftOf_1 (by omega) (by decide) ?_
  refine lv_iconst (v := 2) hx hb dX1_heftOf_99 (by decide) ?_
  exact ret_i C w h dX1_heftOf_100
def q_X1_strengthOf : Nat → Mem → Int32 → Int32 → (Int32 → Mem → Prop) → Prop
  | 0 => fun _ _ _ _ => False
  | n + 1 => fun M x0 x1 post => (x0 = (1 : Int32) → (q_X1_strengthOf n M (0 : Int32) x1 (fun r2 M3 => post (r2 + (200 : Int32)) M3))) ∧ (¬ x0 = (1 : Int32) → ((x0 = (2 : Int32) → (q_X1_strengthOf n M (0 : Int32) x1 (fun r5 M6 => post ((2 : Int32) * r5) M6))) ∧ (¬ x0 = (2 : Int32) → ((x0 = (3 : Int32) → (q_X1_strengthOf n M (0 : Int32) x1 (fun r8 M9 => post (r8 - (50 : Int32)) M9))) ∧ (¬ x0 = (3 : Int32) → ((x0 = (4 : Int32) → (q_X1_strengthOf n M (1 : Int32) x1 (fun r11 M12 => post (r11 - ((20 : Int32) * x1)) M12))) ∧ (¬ x0 = (4 : Int32) → ((x0 = (5 : Int32) → (q_X1_strengthOf n M (2 : Int32) x1 (fun r14 M15 => post (r14 - ((10 : Int32) * x1)) M15))) ∧ (¬ x0 = (5 : Int32) → ((x0 = (6 : Int32) → (q_X1_strengthOf n M (3 : Int32) x1 (fun r17 M18 => post (r17 - ((5 : Int32) * x1)) M18))) ∧ (¬ x0 = (6 : Int32) → ((x0 = (7 : Int32) → (q_X1_strengthOf n M (6 : Int32) x1 (fun r20 M21 => post (r20 / (2 : Int32)) M21))) ∧ (¬ x0 = (7 : Int32) → (post (300 : Int32) M))))))))))))))
set_option maxHeartbeats 4000000 in
set_option maxRecDepth 100000 in
theorem c_X1_strengthOf (l : Launch) (G : GG) (hG : Ag G) : ∀ (n sz : Nat) (M : Mem) (x0 : Int32) (x1 : Int32) (post : Int32 → Mem → Prop) (h : q_X1_strengthOf n M x0 x1 post), Met l yX1_strengthOf (Cond.code yX1_strengthOf cX1_strengthOf 2 (some .int) :: wsL_law) (rmk n) (va_Pc [.int x0, .int x1] (Pw G sz M)) (va_Qi post (Qw G) (Af G sz)) 0 0 (Af G sz) := by
  intro n
  induction n with
  | zero => intro sz M x0 x1 post h; exact absurd h id
  | succ n ih =>
  intro sz M x0 x1 post h
  refine Met.ofW (cc := cX1_strengthOf) (maxL := 2) (ret := (some .int)) (by decide) rfl ?_
  intro p e s m args below meth c s₁ B hml hv
  obtain ⟨rfl, hsz, hE, hP⟩ := hv
  subst hsz
  have C := Cx.of (own := RX1) hG hE rfl hml B
  have w : Wd G s M s.heap [] := ⟨hP, va_S.rf⟩
  have hl := lv_entry [.int x0, .int x1] (n := 2) (Nat.le_of_ble_eq_true rfl)
  rw [lg_entry_eq]
  generalize (lg_sl [.int x0, .int x1] ++ List.replicate (2 - (lg_sl [.int x0, .int x1]).length) Slot.unset).toArray = ls at hl ⊢
  have hl : lv_has ls 2 [(0, .int x0), (1, .int x1)] := hl
  have hx := C.1.1
  have hb := C.1.2.1
  show W p l e (rmk (n + 1)) s m _ below meth c s.heap [] 0 0 _ _
  replace h : (x0 = (1 : Int32) → (q_X1_strengthOf n M (0 : Int32) x1 (fun r2 M3 => post (r2 + (200 : Int32)) M3))) ∧ (¬ x0 = (1 : Int32) → ((x0 = (2 : Int32) → (q_X1_strengthOf n M (0 : Int32) x1 (fun r5 M6 => post ((2 : Int32) * r5) M6))) ∧ (¬ x0 = (2 : Int32) → ((x0 = (3 : Int32) → (q_X1_strengthOf n M (0 : Int32) x1 (fun r8 M9 => post (r8 - (50 : Int32)) M9))) ∧ (¬ x0 = (3 : Int32) → ((x0 = (4 : Int32) → (q_X1_strengthOf n M (1 : Int32) x1 (fun r11 M12 => post (r11 - ((20 : Int32) * x1)) M12))) ∧ (¬ x0 = (4 : Int32) → ((x0 = (5 : Int32) → (q_X1_strengthOf n M (2 : Int32) x1 (fun r14 M15 => post (r14 - ((10 : Int32) * x1)) M15))) ∧ (¬ x0 = (5 : Int32) → ((x0 = (6 : Int32) → (q_X1_strengthOf n M (3 : Int32) x1 (fun r17 M18 => post (r17 - ((5 : Int32) * x1)) M18))) ∧ (¬ x0 = (6 : Int32) → ((x0 = (7 : Int32) → (q_X1_strengthOf n M (6 : Int32) x1 (fun r20 M21 => post (r20 / (2 : Int32)) M21))) ∧ (¬ x0 = (7 : Int32) → (post (300 : Int32) M)))))))))))))) := h
  refine lv_iload_n hx hb dX1_strengthOf_0 rfl (lv_at hl 0 rfl) ?_
  by_cases c1 : x0 = (1 : Int32)
  · replace h := h.1 c1
    refine lv_tableIn (off := 43) (tgt := 44) hx hb dX1_strengthOf_1 (by rw [c1]; decide) (by rw [c1]; decide) (by rw [c1]; decide) (by decide) ?_
    refine lv_iconst (v := 0) hx hb dX1_strengthOf_44 (by decide) ?_
    refine lv_iload_n hx hb dX1_strengthOf_45 rfl (lv_at hl 1 rfl) ?_
    refine end_i w (run_S (As := [.int (0 : Int32), .int x1]) C w hl.1 (ih _ _ (0 : Int32) x1 _ h) kw_11_2 kw_2_1 kw_11_0 kw_11_1 hd_X1_strengthOf ⟨Nat.le_refl _, by decide⟩ rfl (Nat.le_of_ble_eq_true rfl) dX1_strengthOf_46) (fun r2 M3 H locs h w => ?_)
    refine lv_sipush (v := 200) hx hb dX1_strengthOf_49 (by decide) ?_
    refine lv_iadd hx hb dX1_strengthOf_52 ?_
    exact ret_i C w h dX1_strengthOf_53
  replace h := h.2 c1
  by_cases c4 : x0 = (2 : Int32)
  · replace h := h.1 c4
    refine lv_tableIn (off := 53) (tgt := 54) hx hb dX1_strengthOf_1 (by rw [c4]; decide) (by rw [c4]; decide) (by rw [c4]; decide) (by decide) ?_
    refine lv_iconst (v := 2) hx hb dX1_strengthOf_54 (by decide) ?_
    refine lv_iconst (v := 0) hx hb dX1_strengthOf_55 (by decide) ?_
    refine lv_iload_n hx hb dX1_strengthOf_56 rfl (lv_at hl 1 rfl) ?_
    refine end_i w (run_S (As := [.int (0 : Int32), .int x1]) C w hl.1 (ih _ _ (0 : Int32) x1 _ h) kw_11_2 kw_2_1 kw_11_0 kw_11_1 hd_X1_strengthOf ⟨Nat.le_refl _, by decide⟩ rfl (Nat.le_of_ble_eq_true rfl) dX1_strengthOf_57) (fun r5 M6 H locs h w => ?_)
    refine lv_imul hx hb dX1_strengthOf_60 ?_
    exact ret_i C w h dX1_strengthOf_61
  replace h := h.2 c4
  by_cases c7 : x0 = (3 : Int32)
  · replace h := h.1 c7
    refine lv_tableIn (off := 61) (tgt := 62) hx hb dX1_strengthOf_1 (by rw [c7]; decide) (by rw [c7]; decide) (by rw [c7]; decide) (by decide) ?_
    refine lv_iconst (v := 0) hx hb dX1_strengthOf_62 (by decide) ?_
    refine lv_iload_n hx hb dX1_strengthOf_63 rfl (lv_at hl 1 rfl) ?_
    refine end_i w (run_S (As := [.int (0 : Int32), .int x1]) C w hl.1 (ih _ _ (0 : Int32) x1 _ h) kw_11_2 kw_2_1 kw_11_0 kw_11_1 hd_X1_strengthOf ⟨Nat.le_refl _, by decide⟩ rfl (Nat.le_of_ble_eq_true rfl) dX1_strengthOf_64) (fun r8 M9 H locs h w => ?_)
    refine lv_bipush (v := 50) hx hb dX1_strengthOf_67 (by decide) ?_
    refine lv_isub hx hb dX1_strengthOf_69 ?_
    exact ret_i C w h dX1_strengthOf_70
  replace h := h.2 c7
  by_cases c10 : x0 = (4 : Int32)
  · replace h := h.1 c10
    refine lv_tableIn (off := 70) (tgt := 71) hx hb dX1_strengthOf_1 (by rw [c10]; decide) (by rw [c10]; decide) (by rw [c10]; decide) (by decide) ?_
    refine lv_iconst (v := 1) hx hb dX1_strengthOf_71 (by decide) ?_
    refine lv_iload_n hx hb dX1_strengthOf_72 rfl (lv_at hl 1 rfl) ?_
    refine end_i w (run_S (As := [.int (1 : Int32), .int x1]) C w hl.1 (ih _ _ (1 : Int32) x1 _ h) kw_11_2 kw_2_1 kw_11_0 kw_11_1 hd_X1_strengthOf ⟨Nat.le_refl _, by decide⟩ rfl (Nat.le_of_ble_eq_true rfl) dX1_strengthOf_73) (fun r11 M12 H locs h w => ?_)
    refine lv_bipush (v := 20) hx hb dX1_strengthOf_76 (by decide) ?_
    refine lv_iload_n hx hb dX1_strengthOf_78 rfl (lv_at hl 1 rfl) ?_
    refine lv_imul hx hb dX1_strengthOf_79 ?_
    refine lv_isub hx hb dX1_strengthOf_80 ?_
    exact ret_i C w h dX1_strengthOf_81
  replace h := h.2 c10
  by_cases c13 : x0 = (5 : Int32)
  · replace h := h.1 c13
    refine lv_tableIn (off := 81) (tgt := 82) hx hb dX1_strengthOf_1 (by rw [c13]; decide) (by rw [c13]; decide) (by rw [c13]; decide) (by decide) ?_
    refine lv_iconst (v := 2) hx hb dX1_strengthOf_82 (by decide) ?_
    refine lv_iload_n hx hb dX1_strengthOf_83 rfl (lv_at hl 1 rfl) ?_
    refine end_i w (run_S (As := [.int (2 : Int32), .int x1]) C w hl.1 (ih _ _ (2 : Int32) x1 _ h) kw_11_2 kw_2_1 kw_11_0 kw_11_1 hd_X1_strengthOf ⟨Nat.le_refl _, by decide⟩ rfl (Nat.le_of_ble_eq_true rfl) dX1_strengthOf_84) (fun r14 M15 H locs h w => ?_)
    refine lv_bipush (v := 10) hx hb dX1_strengthOf_87 (by decide) ?_
    refine lv_iload_n hx hb dX1_strengthOf_89 rfl (lv_at hl 1 rfl) ?_
    refine lv_imul hx hb dX1_strengthOf_90 ?_
    refine lv_isub hx hb dX1_strengthOf_91 ?_
    exact ret_i C w h dX1_strengthOf_92
  replace h := h.2 c13
  by_cases c16 : x0 = (6 : Int32)
  · replace h := h.1 c16
    refine lv_tableIn (off := 92) (tgt := 93) hx hb dX1_strengthOf_1 (by rw [c16]; decide) (by rw [c16]; decide) (by rw [c16]; decide) (by decide) ?_
    refine lv_iconst (v := 3) hx hb dX1_strengthOf_93 (by decide) ?_
    refine lv_iload_n hx hb dX1_strengthOf_94 rfl (lv_at hl 1 rfl) ?_
    refine end_i w (run_S (As := [.int (3 : Int32), .int x1]) C w hl.1 (ih _ _ (3 : Int32) x1 _ h) kw_11_2 kw_2_1 kw_11_0 kw_11_1 hd_X1_strengthOf ⟨Nat.le_refl _, by decide⟩ rfl (Nat.le_of_ble_eq_true rfl) dX1_strengthOf_95) (fun r17 M18 H locs h w => ?_)
    refine lv_iconst (v := 5) hx hb dX1_strengthOf_98 (by decide) ?_
    refine lv_iload_n hx hb dX1_strengthOf_99 rfl (lv_at hl 1 rfl) ?_
    refine lv_imul hx hb dX1_strengthOf_100 ?_
    refine lv_isub hx hb dX1_strengthOf_101 ?_
    exact ret_i C w h dX1_strengthOf_102
  replace h := h.2 c16
  by_cases c19 : x0 = (7 : Int32)
  · replace h := h.1 c19
    refine lv_tableIn (off := 102) (tgt := 103) hx hb dX1_strengthOf_1 (by rw [c19]; decide) (by rw [c19]; decide) (by rw [c19]; decide) (by decide) ?_
    refine lv_bipush (v := 6) hx hb dX1_strengthOf_103 (by decide) ?_
    refine lv_iload_n hx hb dX1_strengthOf_105 rfl (lv_at hl 1 rfl) ?_
    refine end_i w (run_S (As := [.int (6 : Int32), .int x1]) C w hl.1 (ih _ _ (6 : Int32) x1 _ h) kw_11_2 kw_2_1 kw_11_0 kw_11_1 hd_X1_strengthOf ⟨Nat.le_refl _, by decide⟩ rfl (Nat.le_of_ble_eq_true rfl) dX1_strengthOf_106) (fun r20 M21 H locs h w => ?_)
    refine lv_iconst (v := 2) hx hb dX1_strengthOf_109 (by decide) ?_
    refine lv_idiv hx hb dX1_strengthOf_110 (by decide) ?_
    exact ret_i C w h dX1_strengthOf_111
  replace h := h.2 c19
  have nc1 := lv_neT c1 (a := 1) (by decide)
  have nc4 := lv_neT c4 (a := 2) (by decide)
  have nc7 := lv_neT c7 (a := 3) (by decide)
  have nc10 := lv_neT c10 (a := 4) (by decide)
  have nc13 := lv_neT c13 (a := 5) (by decide)
  have nc16 := lv_neT c16 (a := 6) (by decide)
  have nc19 := lv_neT c19 (a := 7) (by decide)
  refine lv_tableOut (tgt := 112) hx hb dX1_strengthOf_1 (by omega) (by decide) ?_
  refine lv_sipush (v := 300) hx hb dX1_strengthOf_112 (by decide) ?_
  exact ret_i C w h dX1_strengthOf_115
def q_X1_wearOf : Nat → Mem → Int32 → Int32 → (Int32 → Mem → Prop) → Prop
  | 0 => fun _ _ _ _ => False
  | n + 1 => fun M x0 x1 post => (x0 = (1 : Int32) → (q_X1_wearOf n M (0 : Int32) x1 (fun r2 M3 => post r2 M3))) ∧ (¬ x0 = (1 : Int32) → ((x0 = (2 : Int32) → (q_X1_wearOf n M (0 : Int32) x1 (fun r5 M6 => post (r5 - (1 : Int32)) M6))) ∧ (¬ x0 = (2 : Int32) → ((x0 = (3 : Int32) → (q_X1_wearOf n M (0 : Int32) x1 (fun r8 M9 => post (r8 + (2 : Int32)) M9))) ∧ (¬ x0 = (3 : Int32) → ((x0 = (4 : Int32) → (q_X1_wearOf n M (1 : Int32) x1 (fun r11 M12 => post ((3 : Int32) * r11) M12))) ∧ (¬ x0 = (4 : Int32) → ((x0 = (5 : Int32) → (q_X1_wearOf n M (2 : Int32) x1 (fun r14 M15 => post (r14 + (1 : Int32)) M15))) ∧ (¬ x0 = (5 : Int32) → ((x0 = (6 : Int32) → (q_X1_wearOf n M (3 : Int32) x1 (fun r17 M18 => post (r17 + x1) M18))) ∧ (¬ x0 = (6 : Int32) → ((x0 = (7 : Int32) → (q_X1_wearOf n M (6 : Int32) x1 (fun r20 M21 => post ((2 : Int32) * r20) M21))) ∧ (¬ x0 = (7 : Int32) → (post (1 : Int32) M))))))))))))))
set_option maxHeartbeats 4000000 in
set_option maxRecDepth 100000 in
theorem c_X1_wearOf (l : Launch) (G : GG) (hG : Ag G) : ∀ (n sz : Nat) (M : Mem) (x0 : Int32) (x1 : Int32) (post : Int32 → Mem → Prop) (h : q_X1_wearOf n M x0 x1 post), Met l yX1_wearOf (Cond.code yX1_wearOf cX1_wearOf 2 (some .int) :: wsL_law) (rmk n) (va_Pc [.int x0, .int x1] (Pw G sz M)) (va_Qi post (Qw G) (Af G sz)) 0 0 (Af G sz) := by
  intro n
  induction n with
  | zero => intro sz M x0 x1 post h; exact absurd h id
  | succ n ih =>
  intro sz M x0 x1 post h
  refine Met.ofW (cc := cX1_wearOf) (maxL := 2) (ret := (some .int)) (by decide) rfl ?_
  intro p e s m args below meth c s₁ B hml hv
  obtain ⟨rfl, hsz, hE, hP⟩ := hv
  subst hsz
  have C := Cx.of (own := RX1) hG hE rfl hml B
  have w : Wd G s M s.heap [] := ⟨hP, va_S.rf⟩
  have hl := lv_entry [.int x0, .int x1] (n := 2) (Nat.le_of_ble_eq_true rfl)
  rw [lg_entry_eq]
  generalize (lg_sl [.int x0, .int x1] ++ List.replicate (2 - (lg_sl [.int x0, .int x1]).length) Slot.unset).toArray = ls at hl ⊢
  have hl : lv_has ls 2 [(0, .int x0), (1, .int x1)] := hl
  have hx := C.1.1
  have hb := C.1.2.1
  show W p l e (rmk (n + 1)) s m _ below meth c s.heap [] 0 0 _ _
  replace h : (x0 = (1 : Int32) → (q_X1_wearOf n M (0 : Int32) x1 (fun r2 M3 => post r2 M3))) ∧ (¬ x0 = (1 : Int32) → ((x0 = (2 : Int32) → (q_X1_wearOf n M (0 : Int32) x1 (fun r5 M6 => post (r5 - (1 : Int32)) M6))) ∧ (¬ x0 = (2 : Int32) → ((x0 = (3 : Int32) → (q_X1_wearOf n M (0 : Int32) x1 (fun r8 M9 => post (r8 + (2 : Int32)) M9))) ∧ (¬ x0 = (3 : Int32) → ((x0 = (4 : Int32) → (q_X1_wearOf n M (1 : Int32) x1 (fun r11 M12 => post ((3 : Int32) * r11) M12))) ∧ (¬ x0 = (4 : Int32) → ((x0 = (5 : Int32) → (q_X1_wearOf n M (2 : Int32) x1 (fun r14 M15 => post (r14 + (1 : Int32)) M15))) ∧ (¬ x0 = (5 : Int32) → ((x0 = (6 : Int32) → (q_X1_wearOf n M (3 : Int32) x1 (fun r17 M18 => post (r17 + x1) M18))) ∧ (¬ x0 = (6 : Int32) → ((x0 = (7 : Int32) → (q_X1_wearOf n M (6 : Int32) x1 (fun r20 M21 => post ((2 : Int32) * r20) M21))) ∧ (¬ x0 = (7 : Int32) → (post (1 : Int32) M)))))))))))))) := h
  refine lv_iload_n hx hb dX1_wearOf_0 rfl (lv_at hl 0 rfl) ?_
  by_cases c1 : x0 = (1 : Int32)
  · replace h := h.1 c1
    refine lv_tableIn (off := 43) (tgt := 44) hx hb dX1_wearOf_1 (by rw [c1]; decide) (by rw [c1]; decide) (by rw [c1]; decide) (by decide) ?_
    refine lv_iconst (v := 0) hx hb dX1_wearOf_44 (by decide) ?_
    refine lv_iload_n hx hb dX1_wearOf_45 rfl (lv_at hl 1 rfl) ?_
    refine end_i w (run_S (As := [.int (0 : Int32), .int x1]) C w hl.1 (ih _ _ (0 : Int32) x1 _ h) kw_11_5 kw_2_1 kw_11_3 kw_11_4 hd_X1_wearOf ⟨Nat.le_refl _, by decide⟩ rfl (Nat.le_of_ble_eq_true rfl) dX1_wearOf_46) (fun r2 M3 H locs h w => ?_)
    exact ret_i C w h dX1_wearOf_49
  replace h := h.2 c1
  by_cases c4 : x0 = (2 : Int32)
  · replace h := h.1 c4
    refine lv_tableIn (off := 49) (tgt := 50) hx hb dX1_wearOf_1 (by rw [c4]; decide) (by rw [c4]; decide) (by rw [c4]; decide) (by decide) ?_
    refine lv_iconst (v := 0) hx hb dX1_wearOf_50 (by decide) ?_
    refine lv_iload_n hx hb dX1_wearOf_51 rfl (lv_at hl 1 rfl) ?_
    refine end_i w (run_S (As := [.int (0 : Int32), .int x1]) C w hl.1 (ih _ _ (0 : Int32) x1 _ h) kw_11_5 kw_2_1 kw_11_3 kw_11_4 hd_X1_wearOf ⟨Nat.le_refl _, by decide⟩ rfl (Nat.le_of_ble_eq_true rfl) dX1_wearOf_52) (fun r5 M6 H locs h w => ?_)
    refine lv_iconst (v := 1) hx hb dX1_wearOf_55 (by decide) ?_
    refine lv_isub hx hb dX1_wearOf_56 ?_
    exact ret_i C w h dX1_wearOf_57
  replace h := h.2 c4
  by_cases c7 : x0 = (3 : Int32)
  · replace h := h.1 c7
    refine lv_tableIn (off := 57) (tgt := 58) hx hb dX1_wearOf_1 (by rw [c7]; decide) (by rw [c7]; decide) (by rw [c7]; decide) (by decide) ?_
    refine lv_iconst (v := 0) hx hb dX1_wearOf_58 (by decide) ?_
    refine lv_iload_n hx hb dX1_wearOf_59 rfl (lv_at hl 1 rfl) ?_
    refine end_i w (run_S (As := [.int (0 : Int32), .int x1]) C w hl.1 (ih _ _ (0 : Int32) x1 _ h) kw_11_5 kw_2_1 kw_11_3 kw_11_4 hd_X1_wearOf ⟨Nat.le_refl _, by decide⟩ rfl (Nat.le_of_ble_eq_true rfl) dX1_wearOf_60) (fun r8 M9 H locs h w => ?_)
    refine lv_iconst (v := 2) hx hb dX1_wearOf_63 (by decide) ?_
    refine lv_iadd hx hb dX1_wearOf_64 ?_
    exact ret_i C w h dX1_wearOf_65
  replace h := h.2 c7
  by_cases c10 : x0 = (4 : Int32)
  · replace h := h.1 c10
    refine lv_tableIn (off := 65) (tgt := 66) hx hb dX1_wearOf_1 (by rw [c10]; decide) (by rw [c10]; decide) (by rw [c10]; decide) (by decide) ?_
    refine lv_iconst (v := 3) hx hb dX1_wearOf_66 (by decide) ?_
    refine lv_iconst (v := 1) hx hb dX1_wearOf_67 (by decide) ?_
    refine lv_iload_n hx hb dX1_wearOf_68 rfl (lv_at hl 1 rfl) ?_
    refine end_i w (run_S (As := [.int (1 : Int32), .int x1]) C w hl.1 (ih _ _ (1 : Int32) x1 _ h) kw_11_5 kw_2_1 kw_11_3 kw_11_4 hd_X1_wearOf ⟨Nat.le_refl _, by decide⟩ rfl (Nat.le_of_ble_eq_true rfl) dX1_wearOf_69) (fun r11 M12 H locs h w => ?_)
    refine lv_imul hx hb dX1_wearOf_72 ?_
    exact ret_i C w h dX1_wearOf_73
  replace h := h.2 c10
  by_cases c13 : x0 = (5 : Int32)
  · replace h := h.1 c13
    refine lv_tableIn (off := 73) (tgt := 74) hx hb dX1_wearOf_1 (by rw [c13]; decide) (by rw [c13]; decide) (by rw [c13]; decide) (by decide) ?_
    refine lv_iconst (v := 2) hx hb dX1_wearOf_74 (by decide) ?_
    refine lv_iload_n hx hb dX1_wearOf_75 rfl (lv_at hl 1 rfl) ?_
    refine end_i w (run_S (As := [.int (2 : Int32), .int x1]) C w hl.1 (ih _ _ (2 : Int32) x1 _ h) kw_11_5 kw_2_1 kw_11_3 kw_11_4 hd_X1_wearOf ⟨Nat.le_refl _, by decide⟩ rfl (Nat.le_of_ble_eq_true rfl) dX1_wearOf_76) (fun r14 M15 H locs h w => ?_)
    refine lv_iconst (v := 1) hx hb dX1_wearOf_79 (by decide) ?_
    refine lv_iadd hx hb dX1_wearOf_80 ?_
    exact ret_i C w h dX1_wearOf_81
  replace h := h.2 c13
  by_cases c16 : x0 = (6 : Int32)
  · replace h := h.1 c16
    refine lv_tableIn (off := 81) (tgt := 82) hx hb dX1_wearOf_1 (by rw [c16]; decide) (by rw [c16]; decide) (by rw [c16]; decide) (by decide) ?_
    refine lv_iconst (v := 3) hx hb dX1_wearOf_82 (by decide) ?_
    refine lv_iload_n hx hb dX1_wearOf_83 rfl (lv_at hl 1 rfl) ?_
    refine end_i w (run_S (As := [.int (3 : Int32), .int x1]) C w hl.1 (ih _ _ (3 : Int32) x1 _ h) kw_11_5 kw_2_1 kw_11_3 kw_11_4 hd_X1_wearOf ⟨Nat.le_refl _, by decide⟩ rfl (Nat.le_of_ble_eq_true rfl) dX1_wearOf_84) (fun r17 M18 H locs h w => ?_)
    refine lv_iload_n hx hb dX1_wearOf_87 rfl (lv_at hl 1 rfl) ?_
    refine lv_iadd hx hb dX1_wearOf_88 ?_
    exact ret_i C w h dX1_wearOf_89
  replace h := h.2 c16
  by_cases c19 : x0 = (7 : Int32)
  · replace h := h.1 c19
    refine lv_tableIn (off := 89) (tgt := 90) hx hb dX1_wearOf_1 (by rw [c19]; decide) (by rw [c19]; decide) (by rw [c19]; decide) (by decide) ?_
    refine lv_iconst (v := 2) hx hb dX1_wearOf_90 (by decide) ?_
    refine lv_bipush (v := 6) hx hb dX1_wearOf_91 (by decide) ?_
    refine lv_iload_n hx hb dX1_wearOf_93 rfl (lv_at hl 1 rfl) ?_
    refine end_i w (run_S (As := [.int (6 : Int32), .int x1]) C w hl.1 (ih _ _ (6 : Int32) x1 _ h) kw_11_5 kw_2_1 kw_11_3 kw_11_4 hd_X1_wearOf ⟨Nat.le_refl _, by decide⟩ rfl (Nat.le_of_ble_eq_true rfl) dX1_wearOf_94) (fun r20 M21 H locs h w => ?_)
    refine lv_imul hx hb dX1_wearOf_97 ?_
    exact ret_i C w h dX1_wearOf_98
  replace h := h.2 c19
  have nc1 := lv_neT c1 (a := 1) (by decide)
  have nc4 := lv_neT c4 (a := 2) (by decide)
  have nc7 := lv_neT c7 (a := 3) (by decide)
  have nc10 := lv_neT c10 (a := 4) (by decide)
  have nc13 := lv_neT c13 (a := 5) (by decide)
  have nc16 := lv_neT c16 (a := 6) (by decide)
  have nc19 := lv_neT c19 (a := 7) (by decide)
  refine lv_tableOut (tgt := 99) hx hb dX1_wearOf_1 (by omega) (by decide) ?_
  refine lv_iconst (v := 1) hx hb dX1_wearOf_99 (by decide) ?_
  exact ret_i C w h dX1_wearOf_100
def q_X1_begin (M : Mem) (a0 : Nat) (x1 : Int32) (x2 : Int32) (x3 : Int32) (x4 : Int32) (post : Mem → Prop) : Prop := ∀ M1 : Mem, M1 = (mup M a0 0 x1) → (∀ M2 : Mem, M2 = (mup M1 a0 1 x2) → (∀ M3 : Mem, M3 = (mup M2 a0 2 x3) → (∀ M4 : Mem, M4 = (mup M3 a0 3 x4) → (∀ M5 : Mem, M5 = (mup M4 a0 4 (0 : Int32)) → (q_X1_heftOf 4 M5 (M5 a0 0) (M5 a0 1) (fun r6 M7 => ∀ M8 : Mem, M8 = (mup M7 a0 5 r6) → (q_X1_giveOf 4 M8 (M8 a0 0) (M8 a0 1) (fun r9 M10 => ∀ M11 : Mem, M11 = (mup M10 a0 6 r9) → (q_X1_strengthOf 4 M11 (M11 a0 0) (M11 a0 1) (fun r12 M13 => ∀ M14 : Mem, M14 = (mup M13 a0 7 r12) → (q_X1_wearOf 4 M14 (M14 a0 0) (M14 a0 1) (fun r15 M16 => ∀ M17 : Mem, M17 = (mup M16 a0 8 r15) → (post M17)))))))))))))
set_option maxHeartbeats 4000000 in
set_option maxRecDepth 100000 in
theorem c_X1_begin (l : Launch) (G : GG) (hG : Ag G) (sz : Nat) (M : Mem) (a0 : Nat) (x1 : Int32) (x2 : Int32) (x3 : Int32) (x4 : Int32) (ha0 : 30 ≤ a0 ∧ a0 < 57) (post : Mem → Prop) (h : q_X1_begin M a0 x1 x2 x3 x4 post) : Met l yX1_begin (Cond.code yX1_begin cX1_begin 5 none :: wsL_law) (rmk 5) (va_Pc [.ref (ga G a0), .int x1, .int x2, .int x3, .int x4] (Pw G sz M)) (va_Qv post (Qw G) (Af G sz)) 0 0 (Af G sz) := by
  refine Met.ofW (cc := cX1_begin) (maxL := 5) (ret := none) (by decide) rfl ?_
  intro p e s m args below meth c s₁ B hml hv
  obtain ⟨rfl, hsz, hE, hP⟩ := hv
  subst hsz
  have C := Cx.of (own := RX1) hG hE rfl hml B
  have w : Wd G s M s.heap [] := ⟨hP, va_S.rf⟩
  have hl := lv_entry [.ref (ga G a0), .int x1, .int x2, .int x3, .int x4] (n := 5) (Nat.le_of_ble_eq_true rfl)
  rw [lg_entry_eq]
  generalize (lg_sl [.ref (ga G a0), .int x1, .int x2, .int x3, .int x4] ++ List.replicate (5 - (lg_sl [.ref (ga G a0), .int x1, .int x2, .int x3, .int x4]).length) Slot.unset).toArray = ls at hl ⊢
  have hl : lv_has ls 5 [(0, .ref (ga G a0)), (1, .int x1), (2, .int x2), (3, .int x3), (4, .int x4)] := hl
  have hx := C.1.1
  have hb := C.1.2.1
  show W p l e (rmk 5) s m _ below meth c s.heap [] 0 0 _ _
  unfold q_X1_begin at h
  refine lv_aload_n hx hb dX1_begin_0 rfl (lv_at hl 0 rfl) ?_
  refine lv_iload_n hx hb dX1_begin_1 rfl (lv_at hl 1 rfl) ?_
  refine pt_1_0 C w ha0 kw_3_10 dX1_begin_2 (fun H locs w => ?_)
  obtain ⟨M1, eM1⟩ : ∃ z : Mem, z = (mup M a0 0 x1) := ⟨_, rfl⟩
  replace w : Wd G s M1 H locs := by rw [eM1]; exact w
  replace h := h M1 eM1
  refine lv_aload_n hx hb dX1_begin_5 rfl (lv_at hl 0 rfl) ?_
  refine lv_iload_n hx hb dX1_begin_6 rfl (lv_at hl 2 rfl) ?_
  refine pt_1_1 C w ha0 kw_3_11 dX1_begin_7 (fun H locs w => ?_)
  obtain ⟨M2, eM2⟩ : ∃ z : Mem, z = (mup M1 a0 1 x2) := ⟨_, rfl⟩
  replace w : Wd G s M2 H locs := by rw [eM2]; exact w
  replace h := h M2 eM2
  refine lv_aload_n hx hb dX1_begin_10 rfl (lv_at hl 0 rfl) ?_
  refine lv_iload_n hx hb dX1_begin_11 rfl (lv_at hl 3 rfl) ?_
  refine pt_1_2 C w ha0 kw_3_12 dX1_begin_12 (fun H locs w => ?_)
  obtain ⟨M3, eM3⟩ : ∃ z : Mem, z = (mup M2 a0 2 x3) := ⟨_, rfl⟩
  replace w : Wd G s M3 H locs := by rw [eM3]; exact w
  replace h := h M3 eM3
  refine lv_aload_n hx hb dX1_begin_15 rfl (lv_at hl 0 rfl) ?_
  refine lv_iload hx hb dX1_begin_16 (lv_at hl 4 rfl) ?_
  refine pt_1_3 C w ha0 kw_3_13 dX1_begin_18 (fun H locs w => ?_)
  obtain ⟨M4, eM4⟩ : ∃ z : Mem, z = (mup M3 a0 3 x4) := ⟨_, rfl⟩
  replace w : Wd G s M4 H locs := by rw [eM4]; exact w
  replace h := h M4 eM4
  refine lv_aload_n hx hb dX1_begin_21 rfl (lv_at hl 0 rfl) ?_
  refine lv_iconst (v := 0) hx hb dX1_begin_22 (by decide) ?_
  refine pt_1_4 C w ha0 kw_3_14 dX1_begin_23 (fun H locs w => ?_)
  obtain ⟨M5, eM5⟩ : ∃ z : Mem, z = (mup M4 a0 4 (0 : Int32)) := ⟨_, rfl⟩
  replace w : Wd G s M5 H locs := by rw [eM5]; exact w
  replace h := h M5 eM5
  refine lv_aload_n hx hb dX1_begin_26 rfl (lv_at hl 0 rfl) ?_
  refine lv_aload_n hx hb dX1_begin_27 rfl (lv_at hl 0 rfl) ?_
  refine gt_1_0 C w ha0 kw_3_10 dX1_begin_28 ?_
  refine lv_aload_n hx hb dX1_begin_31 rfl (lv_at hl 0 rfl) ?_
  refine gt_1_1 C w ha0 kw_3_11 dX1_begin_32 ?_
  refine end_i w (run_S (As := [.int (M5 a0 0), .int (M5 a0 1)]) C w hl.1 (c_X1_heftOf l G C.2.2.1 4 _ _ (M5 a0 0) (M5 a0 1) _ h) kw_10_20 kw_2_1 kw_10_18 kw_10_19 hd_X1_heftOf ⟨by decide, by decide⟩ rfl (Nat.le_of_ble_eq_true rfl) dX1_begin_35) (fun r6 M7 H locs h w => ?_)
  refine pt_1_5 C w ha0 kw_3_15 dX1_begin_38 (fun H locs w => ?_)
  obtain ⟨M8, eM8⟩ : ∃ z : Mem, z = (mup M7 a0 5 r6) := ⟨_, rfl⟩
  replace w : Wd G s M8 H locs := by rw [eM8]; exact w
  replace h := h M8 eM8
  refine lv_aload_n hx hb dX1_begin_41 rfl (lv_at hl 0 rfl) ?_
  refine lv_aload_n hx hb dX1_begin_42 rfl (lv_at hl 0 rfl) ?_
  refine gt_1_0 C w ha0 kw_3_10 dX1_begin_43 ?_
  refine lv_aload_n hx hb dX1_begin_46 rfl (lv_at hl 0 rfl) ?_
  refine gt_1_1 C w ha0 kw_3_11 dX1_begin_47 ?_
  refine end_i w (run_S (As := [.int (M8 a0 0), .int (M8 a0 1)]) C w hl.1 (c_X1_giveOf l G C.2.2.1 4 _ _ (M8 a0 0) (M8 a0 1) _ h) kw_10_23 kw_2_1 kw_10_21 kw_10_22 hd_X1_giveOf ⟨by decide, by decide⟩ rfl (Nat.le_of_ble_eq_true rfl) dX1_begin_50) (fun r9 M10 H locs h w => ?_)
  refine pt_1_6 C w ha0 kw_3_16 dX1_begin_53 (fun H locs w => ?_)
  obtain ⟨M11, eM11⟩ : ∃ z : Mem, z = (mup M10 a0 6 r9) := ⟨_, rfl⟩
  replace w : Wd G s M11 H locs := by rw [eM11]; exact w
  replace h := h M11 eM11
  refine lv_aload_n hx hb dX1_begin_56 rfl (lv_at hl 0 rfl) ?_
  refine lv_aload_n hx hb dX1_begin_57 rfl (lv_at hl 0 rfl) ?_
  refine gt_1_0 C w ha0 kw_3_10 dX1_begin_58 ?_
  refine lv_aload_n hx hb dX1_begin_61 rfl (lv_at hl 0 rfl) ?_
  refine gt_1_1 C w ha0 kw_3_11 dX1_begin_62 ?_
  refine end_i w (run_S (As := [.int (M11 a0 0), .int (M11 a0 1)]) C w hl.1 (c_X1_strengthOf l G C.2.2.1 4 _ _ (M11 a0 0) (M11 a0 1) _ h) kw_11_2 kw_2_1 kw_11_0 kw_11_1 hd_X1_strengthOf ⟨by decide, by decide⟩ rfl (Nat.le_of_ble_eq_true rfl) dX1_begin_65) (fun r12 M13 H locs h w => ?_)
  refine pt_1_7 C w ha0 kw_3_17 dX1_begin_68 (fun H locs w => ?_)
  obtain ⟨M14, eM14⟩ : ∃ z : Mem, z = (mup M13 a0 7 r12) := ⟨_, rfl⟩
  replace w : Wd G s M14 H locs := by rw [eM14]; exact w
  replace h := h M14 eM14
  refine lv_aload_n hx hb dX1_begin_71 rfl (lv_at hl 0 rfl) ?_
  refine lv_aload_n hx hb dX1_begin_72 rfl (lv_at hl 0 rfl) ?_
  refine gt_1_0 C w ha0 kw_3_10 dX1_begin_73 ?_
  refine lv_aload_n hx hb dX1_begin_76 rfl (lv_at hl 0 rfl) ?_
  refine gt_1_1 C w ha0 kw_3_11 dX1_begin_77 ?_
  refine end_i w (run_S (As := [.int (M14 a0 0), .int (M14 a0 1)]) C w hl.1 (c_X1_wearOf l G C.2.2.1 4 _ _ (M14 a0 0) (M14 a0 1) _ h) kw_11_5 kw_2_1 kw_11_3 kw_11_4 hd_X1_wearOf ⟨by decide, by decide⟩ rfl (Nat.le_of_ble_eq_true rfl) dX1_begin_80) (fun r15 M16 H locs h w => ?_)
  refine pt_1_8 C w ha0 kw_3_18 dX1_begin_83 (fun H locs w => ?_)
  obtain ⟨M17, eM17⟩ : ∃ z : Mem, z = (mup M16 a0 8 r15) := ⟨_, rfl⟩
  replace w : Wd G s M17 H locs := by rw [eM17]; exact w
  replace h := h M17 eM17
  exact ret_v C w h dX1_begin_86
def j_X5_isWithin_15 (post : Int32 → Mem → Prop) (M : Mem) (y0 : Int32) : Prop := (y0 = 0 ∨ y0 = 1) ∧ post y0 M
def j_X5_isWithin_14 (post : Int32 → Mem → Prop) (M : Mem) : Prop := j_X5_isWithin_15 post M (0 : Int32)
def q_X5_isWithin (M : Mem) (x0 : Int32) (x1 : Int32) (x2 : Int32) (post : Int32 → Mem → Prop) : Prop := (x0 < x1 → (j_X5_isWithin_14 post M)) ∧ (¬ (x0 < x1) → ((x2 < x0 → (j_X5_isWithin_14 post M)) ∧ (¬ (x2 < x0) → (j_X5_isWithin_15 post M (1 : Int32)))))
set_option maxHeartbeats 4000000 in
set_option maxRecDepth 100000 in
theorem t_X5_isWithin_15 (C : Cx G p s m args meth c RX5 cX5_isWithin 3 (some .boolean)) {post : Int32 → Mem → Prop} (M : Mem) (y0 : Int32) {H : Heap} {locs : List Loc} {ls : Array Slot} (w : Wd G s M H locs) (hl : lv_has ls 3 []) (h : j_X5_isWithin_15 post M y0) : W p l e (rmk 1) s m args below meth c H locs 0 0 (MQ below (va_Qi post (Qw G) (Af G s.heap.size)) args s 0 0 (Af G s.heap.size)) (F0 m 15 ls [.int y0]) := by
  have hx := C.1.1
  have hb := C.1.2.1
  unfold j_X5_isWithin_15 at h
  exact ret_z C w h dX5_isWithin_15
set_option maxHeartbeats 4000000 in
set_option maxRecDepth 100000 in
theorem t_X5_isWithin_14 (C : Cx G p s m args meth c RX5 cX5_isWithin 3 (some .boolean)) {post : Int32 → Mem → Prop} (M : Mem) {H : Heap} {locs : List Loc} {ls : Array Slot} (w : Wd G s M H locs) (hl : lv_has ls 3 []) (h : j_X5_isWithin_14 post M) : W p l e (rmk 1) s m args below meth c H locs 0 0 (MQ below (va_Qi post (Qw G) (Af G s.heap.size)) args s 0 0 (Af G s.heap.size)) (F0 m 14 ls []) := by
  have hx := C.1.1
  have hb := C.1.2.1
  unfold j_X5_isWithin_14 at h
  refine lv_iconst (v := 0) hx hb dX5_isWithin_14 (by decide) ?_
  exact t_X5_isWithin_15 C M (0 : Int32)  w (lv_sub hl [] rfl) h
set_option maxHeartbeats 4000000 in
set_option maxRecDepth 100000 in
theorem c_X5_isWithin (l : Launch) (G : GG) (hG : Ag G) (sz : Nat) (M : Mem) (x0 : Int32) (x1 : Int32) (x2 : Int32) (post : Int32 → Mem → Prop) (h : q_X5_isWithin M x0 x1 x2 post) : Met l yX5_isWithin (Cond.code yX5_isWithin cX5_isWithin 3 (some .boolean) :: wsL_law) (rmk 1) (va_Pc [.int x0, .int x1, .int x2] (Pw G sz M)) (va_Qi post (Qw G) (Af G sz)) 0 0 (Af G sz) := by
  refine Met.ofW (cc := cX5_isWithin) (maxL := 3) (ret := (some .boolean)) (by decide) rfl ?_
  intro p e s m args below meth c s₁ B hml hv
  obtain ⟨rfl, hsz, hE, hP⟩ := hv
  subst hsz
  have C := Cx.of (own := RX5) hG hE rfl hml B
  have w : Wd G s M s.heap [] := ⟨hP, va_S.rf⟩
  have hl := lv_entry [.int x0, .int x1, .int x2] (n := 3) (Nat.le_of_ble_eq_true rfl)
  rw [lg_entry_eq]
  generalize (lg_sl [.int x0, .int x1, .int x2] ++ List.replicate (3 - (lg_sl [.int x0, .int x1, .int x2]).length) Slot.unset).toArray = ls at hl ⊢
  have hl : lv_has ls 3 [(0, .int x0), (1, .int x1), (2, .int x2)] := hl
  have hx := C.1.1
  have hb := C.1.2.1
  show W p l e (rmk 1) s m _ below meth c s.heap [] 0 0 _ _
  unfold q_X5_isWithin at h
  refine lv_iload_n hx hb dX5_isWithin_0 rfl (lv_at hl 0 rfl) ?_
  refine lv_iload_n hx hb dX5_isWithin_1 rfl (lv_at hl 1 rfl) ?_
  refine lv_icmp_lt (tgt := 14) hx hb dX5_isWithin_2 (by decide) (fun c1 => ?_) (fun c1 => ?_)
  · replace h := h.1 c1
    exact t_X5_isWithin_14 C M   w (lv_sub hl [] rfl) h
  replace h := h.2 c1
  refine lv_iload_n hx hb dX5_isWithin_5 rfl (lv_at hl 0 rfl) ?_
  refine lv_iload_n hx hb dX5_isWithin_6 rfl (lv_at hl 2 rfl) ?_
  refine lv_icmp_gt (tgt := 14) hx hb dX5_isWithin_7 (by decide) (fun c2 => ?_) (fun c2 => ?_)
  · replace h := h.1 c2
    exact t_X5_isWithin_14 C M   w (lv_sub hl [] rfl) h
  replace h := h.2 c2
  refine lv_iconst (v := 1) hx hb dX5_isWithin_10 (by decide) ?_
  refine lv_goto (tgt := 15) hx hb dX5_isWithin_11 (by decide) ?_
  exact t_X5_isWithin_15 C M (1 : Int32)  w (lv_sub hl [] rfl) h
def j_X4_addPiece_25 (post : Int32 → Mem → Prop) (M : Mem) : Prop := post (0 : Int32) M
def q_X4_addPiece (M : Mem) (a0 : Nat) (x1 : Int32) (x2 : Int32) (x3 : Int32) (post : Int32 → Mem → Prop) : Prop := ((6 : Int32) ≤ (M a0 1) → (j_X4_addPiece_25 post M)) ∧ (¬ ((6 : Int32) ≤ (M a0 1)) → (((7 : Int32) < x1 → (j_X4_addPiece_25 post M)) ∧ (¬ ((7 : Int32) < x1) → (q_X5_isWithin M x3 (1 : Int32) (99 : Int32) (fun r3 M4 => (r3 = 0 → (j_X4_addPiece_25 post M4)) ∧ (¬ (r3 = 0) → (vp_in (M4 a0 1) 6 ∧ (q_X1_begin M4 (32 + 6 * a0 + (M4 a0 1).toNatClampNeg) x1 x2 x3 (M4 a0 1) (fun M8 => ∀ M9 : Mem, M9 = (mup M8 a0 1 ((M8 a0 1) + (1 : Int32))) → (post (1 : Int32) M9))))))))))
set_option maxHeartbeats 4000000 in
set_option maxRecDepth 100000 in
theorem t_X4_addPiece_25 (C : Cx G p s m args meth c RX4 cX4_addPiece 4 (some .boolean)) {post : Int32 → Mem → Prop} (M : Mem) {H : Heap} {locs : List Loc} {ls : Array Slot} (w : Wd G s M H locs) (hl : lv_has ls 4 []) (h : j_X4_addPiece_25 post M) : W p l e (rmk 6) s m args below meth c H locs 0 0 (MQ below (va_Qi post (Qw G) (Af G s.heap.size)) args s 0 0 (Af G s.heap.size)) (F0 m 25 ls []) := by
  have hx := C.1.1
  have hb := C.1.2.1
  unfold j_X4_addPiece_25 at h
  refine lv_iconst (v := 0) hx hb dX4_addPiece_25 (by decide) ?_
  exact ret_z C w ⟨Or.inl rfl, h⟩ dX4_addPiece_26
set_option maxHeartbeats 4000000 in
set_option maxRecDepth 100000 in
theorem c_X4_addPiece (l : Launch) (G : GG) (hG : Ag G) (sz : Nat) (M : Mem) (a0 : Nat) (x1 : Int32) (x2 : Int32) (x3 : Int32) (ha0 : 1 ≤ a0 ∧ a0 < 4) (post : Int32 → Mem → Prop) (h : q_X4_addPiece M a0 x1 x2 x3 post) : Met l yX4_addPiece (Cond.code yX4_addPiece cX4_addPiece 4 (some .boolean) :: wsL_law) (rmk 6) (va_Pc [.ref (ga G a0), .int x1, .int x2, .int x3] (Pw G sz M)) (va_Qi post (Qw G) (Af G sz)) 0 0 (Af G sz) := by
  refine Met.ofW (cc := cX4_addPiece) (maxL := 4) (ret := (some .boolean)) (by decide) rfl ?_
  intro p e s m args below meth c s₁ B hml hv
  obtain ⟨rfl, hsz, hE, hP⟩ := hv
  subst hsz
  have C := Cx.of (own := RX4) hG hE rfl hml B
  have w : Wd G s M s.heap [] := ⟨hP, va_S.rf⟩
  have hl := lv_entry [.ref (ga G a0), .int x1, .int x2, .int x3] (n := 4) (Nat.le_of_ble_eq_true rfl)
  rw [lg_entry_eq]
  generalize (lg_sl [.ref (ga G a0), .int x1, .int x2, .int x3] ++ List.replicate (4 - (lg_sl [.ref (ga G a0), .int x1, .int x2, .int x3]).length) Slot.unset).toArray = ls at hl ⊢
  have hl : lv_has ls 4 [(0, .ref (ga G a0)), (1, .int x1), (2, .int x2), (3, .int x3)] := hl
  have hx := C.1.1
  have hb := C.1.2.1
  show W p l e (rmk 6) s m _ below meth c s.heap [] 0 0 _ _
  unfold q_X4_addPiece at h
  refine lv_aload_n hx hb dX4_addPiece_0 rfl (lv_at hl 0 rfl) ?_
  refine gt_4_1 C w ha0 kw_2_17 dX4_addPiece_1 ?_
  refine lv_bipush (v := 6) hx hb dX4_addPiece_4 (by decide) ?_
  refine lv_icmp_ge (tgt := 25) hx hb dX4_addPiece_6 (by decide) (fun c1 => ?_) (fun c1 => ?_)
  · replace h := h.1 c1
    exact t_X4_addPiece_25 C M   w (lv_sub hl [] rfl) h
  replace h := h.2 c1
  refine lv_iload_n hx hb dX4_addPiece_9 rfl (lv_at hl 1 rfl) ?_
  refine lv_bipush (v := 7) hx hb dX4_addPiece_10 (by decide) ?_
  refine lv_icmp_gt (tgt := 25) hx hb dX4_addPiece_12 (by decide) (fun c2 => ?_) (fun c2 => ?_)
  · replace h := h.1 c2
    exact t_X4_addPiece_25 C M   w (lv_sub hl [] rfl) h
  replace h := h.2 c2
  refine lv_iload_n hx hb dX4_addPiece_15 rfl (lv_at hl 3 rfl) ?_
  refine lv_iconst (v := 1) hx hb dX4_addPiece_16 (by decide) ?_
  refine lv_bipush (v := 99) hx hb dX4_addPiece_17 (by decide) ?_
  refine end_i w (run_SN (As := [.int x3, .int (1 : Int32), .int (99 : Int32)]) C w hl.1 (c_X5_isWithin l G C.2.2.1 _ _ x3 (1 : Int32) (99 : Int32)  _ h) kw_6_8 kw_1_2 kn_50 kw_6_7 hd_X5_isWithin ⟨by decide, by decide⟩ rfl (Nat.le_of_ble_eq_true rfl) dX4_addPiece_19) (fun r3 M4 H locs h w => ?_)
  refine lv_if_ne (tgt := 27) hx hb dX4_addPiece_22 (by decide) (fun c5 => ?_) (fun c5 => ?_)
  · replace h := h.2 c5
    refine lv_aload_n hx hb dX4_addPiece_27 rfl (lv_at hl 0 rfl) ?_
    refine gt_4_0 C w ha0 kw_2_16 dX4_addPiece_28 ?_
    refine lv_aload_n hx hb dX4_addPiece_31 rfl (lv_at hl 0 rfl) ?_
    refine gt_4_1 C w ha0 kw_2_17 dX4_addPiece_32 ?_
    have hin6 := h.1
    replace h := h.2
    have hz_hin6 := in_lt hin6
    refine pw_ldP C w (i := (7 + a0)) (by omega) hin6 dX4_addPiece_35 (j := (32 + 6 * a0 + (M4 a0 1).toNatClampNeg)) (by omega) ?_
    refine lv_iload_n hx hb dX4_addPiece_36 rfl (lv_at hl 1 rfl) ?_
    refine lv_iload_n hx hb dX4_addPiece_37 rfl (lv_at hl 2 rfl) ?_
    refine lv_iload_n hx hb dX4_addPiece_38 rfl (lv_at hl 3 rfl) ?_
    refine lv_aload_n hx hb dX4_addPiece_39 rfl (lv_at hl 0 rfl) ?_
    refine gt_4_1 C w ha0 kw_2_17 dX4_addPiece_40 ?_
    refine end_v w (run_VN (As := [.int x1, .int x2, .int x3, .int (M4 a0 1)]) C w hl.1 (c_X1_begin l G C.2.2.1 _ _ (32 + 6 * a0 + (M4 a0 1).toNatClampNeg) x1 x2 x3 (M4 a0 1) (by omega) _ h) kw_10_17 kw_2_1 kn_51 kw_10_15 kw_10_16 hd_X1_begin ⟨by decide, by decide⟩ (w.recv C (i := (32 + 6 * a0 + (M4 a0 1).toNatClampNeg)) (by omega) (pE_1 (by omega)) rfl) rfl (Nat.le_of_ble_eq_true rfl) dX4_addPiece_43) (fun M8 H locs h w => ?_)
    refine lv_aload_n hx hb dX4_addPiece_46 rfl (lv_at hl 0 rfl) ?_
    refine lv_dup hx hb dX4_addPiece_47 rfl ?_
    refine gt_4_1 C w ha0 kw_2_17 dX4_addPiece_48 ?_
    refine lv_iconst (v := 1) hx hb dX4_addPiece_51 (by decide) ?_
    refine lv_iadd hx hb dX4_addPiece_52 ?_
    refine pt_4_1 C w ha0 kw_2_17 dX4_addPiece_53 (fun H locs w => ?_)
    obtain ⟨M9, eM9⟩ : ∃ z : Mem, z = (mup M8 a0 1 ((M8 a0 1) + (1 : Int32))) := ⟨_, rfl⟩
    replace w : Wd G s M9 H locs := by rw [eM9]; exact w
    replace h := h M9 eM9
    refine lv_iconst (v := 1) hx hb dX4_addPiece_56 (by decide) ?_
    exact ret_z C w ⟨Or.inr rfl, h⟩ dX4_addPiece_57
  replace h := h.1 c5
  exact t_X4_addPiece_25 C M4   w (lv_sub hl [] rfl) h
def j_X4_maySet_32 (post : Int32 → Mem → Prop) (M : Mem) (y0 : Int32) : Prop := (y0 = 0 ∨ y0 = 1) ∧ post y0 M
def j_X4_maySet_31 (post : Int32 → Mem → Prop) (M : Mem) : Prop := j_X4_maySet_32 post M (0 : Int32)
def q_X4_maySet (M : Mem) (x0 : Int32) (x1 : Int32) (post : Int32 → Mem → Prop) : Prop := q_X5_isWithin M x0 (0 : Int32) (6 : Int32) (fun r1 M2 => (r1 = 0 → (j_X4_maySet_31 post M2)) ∧ (¬ (r1 = 0) → (vp_in x0 7 ∧ (q_X5_isWithin M2 x1 (leastT x0.toNatClampNeg) (mostT x0.toNatClampNeg) (fun r5 M6 => (r5 = 0 → (j_X4_maySet_31 post M6)) ∧ (¬ (r5 = 0) → (j_X4_maySet_32 post M6 (1 : Int32))))))))
set_option maxHeartbeats 4000000 in
set_option maxRecDepth 100000 in
theorem t_X4_maySet_32 (C : Cx G p s m args meth c RX4 cX4_maySet 2 (some .boolean)) {post : Int32 → Mem → Prop} (M : Mem) (y0 : Int32) {H : Heap} {locs : List Loc} {ls : Array Slot} (w : Wd G s M H locs) (hl : lv_has ls 2 []) (h : j_X4_maySet_32 post M y0) : W p l e (rmk 2) s m args below meth c H locs 0 0 (MQ below (va_Qi post (Qw G) (Af G s.heap.size)) args s 0 0 (Af G s.heap.size)) (F0 m 32 ls [.int y0]) := by
  have hx := C.1.1
  have hb := C.1.2.1
  unfold j_X4_maySet_32 at h
  exact ret_z C w h dX4_maySet_32
set_option maxHeartbeats 4000000 in
set_option maxRecDepth 100000 in
theorem t_X4_maySet_31 (C : Cx G p s m args meth c RX4 cX4_maySet 2 (some .boolean)) {post : Int32 → Mem → Prop} (M : Mem) {H : Heap} {locs : List Loc} {ls : Array Slot} (w : Wd G s M H locs) (hl : lv_has ls 2 []) (h : j_X4_maySet_31 post M) : W p l e (rmk 2) s m args below meth c H locs 0 0 (MQ below (va_Qi post (Qw G) (Af G s.heap.size)) args s 0 0 (Af G s.heap.size)) (F0 m 31 ls []) := by
  have hx := C.1.1
  have hb := C.1.2.1
  unfold j_X4_maySet_31 at h
  refine lv_iconst (v := 0) hx hb dX4_maySet_31 (by decide) ?_
  exact t_X4_maySet_32 C M (0 : Int32)  w (lv_sub hl [] rfl) h
set_option maxHeartbeats 4000000 in
set_option maxRecDepth 100000 in
theorem c_X4_maySet (l : Launch) (G : GG) (hG : Ag G) (sz : Nat) (M : Mem) (x0 : Int32) (x1 : Int32) (post : Int32 → Mem → Prop) (h : q_X4_maySet M x0 x1 post) : Met l yX4_maySet (Cond.code yX4_maySet cX4_maySet 2 (some .boolean) :: wsL_law) (rmk 2) (va_Pc [.int x0, .int x1] (Pw G sz M)) (va_Qi post (Qw G) (Af G sz)) 0 0 (Af G sz) := by
  refine Met.ofW (cc := cX4_maySet) (maxL := 2) (ret := (some .boolean)) (by decide) rfl ?_
  intro p e s m args below meth c s₁ B hml hv
  obtain ⟨rfl, hsz, hE, hP⟩ := hv
  subst hsz
  have C := Cx.of (own := RX4) hG hE rfl hml B
  have w : Wd G s M s.heap [] := ⟨hP, va_S.rf⟩
  have hl := lv_entry [.int x0, .int x1] (n := 2) (Nat.le_of_ble_eq_true rfl)
  rw [lg_entry_eq]
  generalize (lg_sl [.int x0, .int x1] ++ List.replicate (2 - (lg_sl [.int x0, .int x1]).length) Slot.unset).toArray = ls at hl ⊢
  have hl : lv_has ls 2 [(0, .int x0), (1, .int x1)] := hl
  have hx := C.1.1
  have hb := C.1.2.1
  show W p l e (rmk 2) s m _ below meth c s.heap [] 0 0 _ _
  unfold q_X4_maySet at h
  refine lv_iload_n hx hb dX4_maySet_0 rfl (lv_at hl 0 rfl) ?_
  refine lv_iconst (v := 0) hx hb dX4_maySet_1 (by decide) ?_
  refine lv_bipush (v := 6) hx hb dX4_maySet_2 (by decide) ?_
  refine end_i w (run_SN (As := [.int x0, .int (0 : Int32), .int (6 : Int32)]) C w hl.1 (c_X5_isWithin l G C.2.2.1 _ _ x0 (0 : Int32) (6 : Int32)  _ h) kw_6_8 kw_1_2 kn_50 kw_6_7 hd_X5_isWithin ⟨by decide, by decide⟩ rfl (Nat.le_of_ble_eq_true rfl) dX4_maySet_4) (fun r1 M2 H locs h w => ?_)
  refine lv_if_eq (tgt := 31) hx hb dX4_maySet_7 (by decide) (fun c3 => ?_) (fun c3 => ?_)
  · replace h := h.1 c3
    exact t_X4_maySet_31 C M2   w (lv_sub hl [] rfl) h
  replace h := h.2 c3
  refine lv_iload_n hx hb dX4_maySet_10 rfl (lv_at hl 1 rfl) ?_
  refine gsN_gL C w kn_35 dX4_maySet_11 ?_
  refine lv_iload_n hx hb dX4_maySet_14 rfl (lv_at hl 0 rfl) ?_
  have hin4 := h.1
  replace h := h.2
  have hz_hin4 := in_lt hin4
  refine ts_gL C w hin4 rfl dX4_maySet_15 ?_
  refine gsN_gM C w kn_36 dX4_maySet_16 ?_
  refine lv_iload_n hx hb dX4_maySet_19 rfl (lv_at hl 0 rfl) ?_
  refine ts_gM C w hin4 rfl dX4_maySet_20 ?_
  refine end_i w (run_SN (As := [.int x1, .int (leastT x0.toNatClampNeg), .int (mostT x0.toNatClampNeg)]) C w hl.1 (c_X5_isWithin l G C.2.2.1 _ _ x1 (leastT x0.toNatClampNeg) (mostT x0.toNatClampNeg)  _ h) kw_6_8 kw_1_2 kn_50 kw_6_7 hd_X5_isWithin ⟨by decide, by decide⟩ rfl (Nat.le_of_ble_eq_true rfl) dX4_maySet_21) (fun r5 M6 H locs h w => ?_)
  refine lv_if_eq (tgt := 31) hx hb dX4_maySet_24 (by decide) (fun c7 => ?_) (fun c7 => ?_)
  · replace h := h.1 c7
    exact t_X4_maySet_31 C M6   w (lv_sub hl [] rfl) h
  replace h := h.2 c7
  refine lv_iconst (v := 1) hx hb dX4_maySet_27 (by decide) ?_
  refine lv_goto (tgt := 32) hx hb dX4_maySet_28 (by decide) ?_
  exact t_X4_maySet_32 C M6 (1 : Int32)  w (lv_sub hl [] rfl) h
def q_X4_change (M : Mem) (a0 : Nat) (x1 : Int32) (x2 : Int32) (post : Int32 → Mem → Prop) : Prop := q_X4_maySet M x1 x2 (fun r1 M2 => (r1 = 0 → (post (0 : Int32) M2)) ∧ (¬ (r1 = 0) → (vp_in x1 7 ∧ (∀ M5 : Mem, M5 = (mup M2 (10 + a0) x1.toNatClampNeg x2) → (post (1 : Int32) M5)))))
set_option maxHeartbeats 4000000 in
set_option maxRecDepth 100000 in
theorem c_X4_change (l : Launch) (G : GG) (hG : Ag G) (sz : Nat) (M : Mem) (a0 : Nat) (x1 : Int32) (x2 : Int32) (ha0 : 1 ≤ a0 ∧ a0 < 4) (post : Int32 → Mem → Prop) (h : q_X4_change M a0 x1 x2 post) : Met l yX4_change (Cond.code yX4_change cX4_change 3 (some .boolean) :: wsL_law) (rmk 3) (va_Pc [.ref (ga G a0), .int x1, .int x2] (Pw G sz M)) (va_Qi post (Qw G) (Af G sz)) 0 0 (Af G sz) := by
  refine Met.ofW (cc := cX4_change) (maxL := 3) (ret := (some .boolean)) (by decide) rfl ?_
  intro p e s m args below meth c s₁ B hml hv
  obtain ⟨rfl, hsz, hE, hP⟩ := hv
  subst hsz
  have C := Cx.of (own := RX4) hG hE rfl hml B
  have w : Wd G s M s.heap [] := ⟨hP, va_S.rf⟩
  have hl := lv_entry [.ref (ga G a0), .int x1, .int x2] (n := 3) (Nat.le_of_ble_eq_true rfl)
  rw [lg_entry_eq]
  generalize (lg_sl [.ref (ga G a0), .int x1, .int x2] ++ List.replicate (3 - (lg_sl [.ref (ga G a0), .int x1, .int x2]).length) Slot.unset).toArray = ls at hl ⊢
  have hl : lv_has ls 3 [(0, .ref (ga G a0)), (1, .int x1), (2, .int x2)] := hl
  have hx := C.1.1
  have hb := C.1.2.1
  show W p l e (rmk 3) s m _ below meth c s.heap [] 0 0 _ _
  unfold q_X4_change at h
  refine lv_iload_n hx hb dX4_change_0 rfl (lv_at hl 1 rfl) ?_
  refine lv_iload_n hx hb dX4_change_1 rfl (lv_at hl 2 rfl) ?_
  refine end_i w (run_S (As := [.int x1, .int x2]) C w hl.1 (c_X4_maySet l G C.2.2.1 _ _ x1 x2  _ h) kw_11_11 kw_1_15 kw_11_9 kw_11_10 hd_X4_maySet ⟨by decide, by decide⟩ rfl (Nat.le_of_ble_eq_true rfl) dX4_change_2) (fun r1 M2 H locs h w => ?_)
  refine lv_if_ne (tgt := 10) hx hb dX4_change_5 (by decide) (fun c3 => ?_) (fun c3 => ?_)
  · replace h := h.2 c3
    refine lv_aload_n hx hb dX4_change_10 rfl (lv_at hl 0 rfl) ?_
    refine gt_4_2 C w ha0 kw_3_0 dX4_change_11 ?_
    refine lv_iload_n hx hb dX4_change_14 rfl (lv_at hl 1 rfl) ?_
    refine lv_iload_n hx hb dX4_change_15 rfl (lv_at hl 2 rfl) ?_
    have hin4 := h.1
    replace h := h.2
    have hz_hin4 := in_lt hin4
    refine pw_st C w (i := (10 + a0)) (by omega) (fun _ => (pE_st (by omega))) hin4 rfl dX4_change_16 (fun H locs w => ?_)
    obtain ⟨M5, eM5⟩ : ∃ z : Mem, z = (mup M2 (10 + a0) x1.toNatClampNeg x2) := ⟨_, rfl⟩
    replace w : Wd G s M5 H locs := by rw [eM5]; exact w
    replace h := h M5 eM5
    refine lv_iconst (v := 1) hx hb dX4_change_17 (by decide) ?_
    exact ret_z C w ⟨Or.inr rfl, h⟩ dX4_change_18
  replace h := h.1 c3
  refine lv_iconst (v := 0) hx hb dX4_change_8 (by decide) ?_
  exact ret_z C w ⟨Or.inl rfl, h⟩ dX4_change_9
def j_X2_obey_181 (post : Int32 → Mem → Prop) (M : Mem) (y0 : Int32) : Prop := (y0 = 0 ∨ y0 = 1) ∧ post y0 M
def j_X2_obey_180 (post : Int32 → Mem → Prop) (M : Mem) : Prop := j_X2_obey_181 post M (0 : Int32)
def j_X2_obey_108 (post : Int32 → Mem → Prop) (M : Mem) (y0 : Int32) : Prop := (y0 = 0 ∨ y0 = 1) ∧ post y0 M
def j_X2_obey_107 (post : Int32 → Mem → Prop) (M : Mem) : Prop := j_X2_obey_108 post M (0 : Int32)
def q_X2_obey (M : Mem) (x1 : Int32) (a2 : Nat) (post : Int32 → Mem → Prop) : Prop := (x1 = (100 : Int32) → (q_X4_change M a2 (3 : Int32) (M 7 0) (fun r2 M3 => (r2 = 0 ∨ r2 = 1) ∧ post r2 M3))) ∧ (¬ x1 = (100 : Int32) → ((x1 = (112 : Int32) → (q_X4_addPiece M a2 (M 7 0) (M 7 1) (M 7 2) (fun r5 M6 => (r5 = 0 ∨ r5 = 1) ∧ post r5 M6))) ∧ (¬ x1 = (112 : Int32) → ((x1 = (115 : Int32) → (q_X4_change M a2 (0 : Int32) (M 7 0) (fun r8 M9 => (r8 = 0 → (j_X2_obey_107 post M9)) ∧ (¬ (r8 = 0) → (q_X4_change M9 a2 (1 : Int32) (M9 7 1) (fun r11 M12 => (r11 = 0 → (j_X2_obey_107 post M12)) ∧ (¬ (r11 = 0) → (j_X2_obey_108 post M12 (1 : Int32))))))))) ∧ (¬ x1 = (115 : Int32) → ((x1 = (118 : Int32) → (q_X4_change M a2 (2 : Int32) (M 7 0) (fun r15 M16 => (r15 = 0 ∨ r15 = 1) ∧ post r15 M16))) ∧ (¬ x1 = (118 : Int32) → ((x1 = (121 : Int32) → (q_X4_change M a2 (4 : Int32) (M 7 0) (fun r18 M19 => (r18 = 0 → (j_X2_obey_180 post M19)) ∧ (¬ (r18 = 0) → (q_X4_change M19 a2 (5 : Int32) (M19 7 1) (fun r21 M22 => (r21 = 0 → (j_X2_obey_180 post M22)) ∧ (¬ (r21 = 0) → (q_X4_change M22 a2 (6 : Int32) (M22 7 2) (fun r24 M25 => (r24 = 0 → (j_X2_obey_180 post M25)) ∧ (¬ (r24 = 0) → (j_X2_obey_181 post M25 (1 : Int32)))))))))))) ∧ (¬ x1 = (121 : Int32) → (∀ M27 : Mem, M27 = (mup M a2 3 ((M 7 0) * (M 7 1))) → (post (1 : Int32) M27)))))))))))
set_option maxHeartbeats 4000000 in
set_option maxRecDepth 100000 in
theorem t_X2_obey_181 (C : Cx G p s m args meth c RX2 cX2_obey 3 (some .boolean)) {post : Int32 → Mem → Prop} (M : Mem) (y0 : Int32) {H : Heap} {locs : List Loc} {ls : Array Slot} (w : Wd G s M H locs) (hl : lv_has ls 3 []) (h : j_X2_obey_181 post M y0) : W p l e (rmk 7) s m args below meth c H locs 0 0 (MQ below (va_Qi post (Qw G) (Af G s.heap.size)) args s 0 0 (Af G s.heap.size)) (F0 m 181 ls [.int y0]) := by
  have hx := C.1.1
  have hb := C.1.2.1
  unfold j_X2_obey_181 at h
  exact ret_z C w h dX2_obey_181
set_option maxHeartbeats 4000000 in
set_option maxRecDepth 100000 in
theorem t_X2_obey_180 (C : Cx G p s m args meth c RX2 cX2_obey 3 (some .boolean)) {post : Int32 → Mem → Prop} (M : Mem) {H : Heap} {locs : List Loc} {ls : Array Slot} (w : Wd G s M H locs) (hl : lv_has ls 3 []) (h : j_X2_obey_180 post M) : W p l e (rmk 7) s m args below meth c H locs 0 0 (MQ below (va_Qi post (Qw G) (Af G s.heap.size)) args s 0 0 (Af G s.heap.size)) (F0 m 180 ls []) := by
  have hx := C.1.1
  have hb := C.1.2.1
  unfold j_X2_obey_180 at h
  refine lv_iconst (v := 0) hx hb dX2_obey_180 (by decide) ?_
  exact t_X2_obey_181 C M (0 : Int32)  w (lv_sub hl [] rfl) h
set_option maxHeartbeats 4000000 in
set_option maxRecDepth 100000 in
theorem t_X2_obey_108 (C : Cx G p s m args meth c RX2 cX2_obey 3 (some .boolean)) {post : Int32 → Mem → Prop} (M : Mem) (y0 : Int32) {H : Heap} {locs : List Loc} {ls : Array Slot} (w : Wd G s M H locs) (hl : lv_has ls 3 []) (h : j_X2_obey_108 post M y0) : W p l e (rmk 7) s m args below meth c H locs 0 0 (MQ below (va_Qi post (Qw G) (Af G s.heap.size)) args s 0 0 (Af G s.heap.size)) (F0 m 108 ls [.int y0]) := by
  have hx := C.1.1
  have hb := C.1.2.1
  unfold j_X2_obey_108 at h
  exact ret_z C w h dX2_obey_108
set_option maxHeartbeats 4000000 in
set_option maxRecDepth 100000 in
theorem t_X2_obey_107 (C : Cx G p s m args meth c RX2 cX2_obey 3 (some .boolean)) {post : Int32 → Mem → Prop} (M : Mem) {H : Heap} {locs : List Loc} {ls : Array Slot} (w : Wd G s M H locs) (hl : lv_has ls 3 []) (h : j_X2_obey_107 post M) : W p l e (rmk 7) s m args below meth c H locs 0 0 (MQ below (va_Qi post (Qw G) (Af G s.heap.size)) args s 0 0 (Af G s.heap.size)) (F0 m 107 ls []) := by
  have hx := C.1.1
  have hb := C.1.2.1
  unfold j_X2_obey_107 at h
  refine lv_iconst (v := 0) hx hb dX2_obey_107 (by decide) ?_
  exact t_X2_obey_108 C M (0 : Int32)  w (lv_sub hl [] rfl) h
set_option maxHeartbeats 4000000 in
set_option maxRecDepth 100000 in
theorem c_X2_obey (l : Launch) (G : GG) (hG : Ag G) (sz : Nat) (M : Mem) (x1 : Int32) (a2 : Nat) (ha2 : 1 ≤ a2 ∧ a2 < 4) (post : Int32 → Mem → Prop) (h : q_X2_obey M x1 a2 post) : Met l yX2_obey (Cond.code yX2_obey cX2_obey 3 (some .boolean) :: wsL_law) (rmk 7) (va_Pc [.ref (ga G 5), .int x1, .ref (ga G a2)] (Pw G sz M)) (va_Qi post (Qw G) (Af G sz)) 0 0 (Af G sz) := by
  refine Met.ofW (cc := cX2_obey) (maxL := 3) (ret := (some .boolean)) (by decide) rfl ?_
  intro p e s m args below meth c s₁ B hml hv
  obtain ⟨rfl, hsz, hE, hP⟩ := hv
  subst hsz
  have C := Cx.of (own := RX2) hG hE rfl hml B
  have w : Wd G s M s.heap [] := ⟨hP, va_S.rf⟩
  have hl := lv_entry [.ref (ga G 5), .int x1, .ref (ga G a2)] (n := 3) (Nat.le_of_ble_eq_true rfl)
  rw [lg_entry_eq]
  generalize (lg_sl [.ref (ga G 5), .int x1, .ref (ga G a2)] ++ List.replicate (3 - (lg_sl [.ref (ga G 5), .int x1, .ref (ga G a2)]).length) Slot.unset).toArray = ls at hl ⊢
  have hl : lv_has ls 3 [(0, .ref (ga G 5)), (1, .int x1), (2, .ref (ga G a2))] := hl
  have hx := C.1.1
  have hb := C.1.2.1
  show W p l e (rmk 7) s m _ below meth c s.heap [] 0 0 _ _
  unfold q_X2_obey at h
  refine lv_iload_n hx hb dX2_obey_0 rfl (lv_at hl 1 rfl) ?_
  by_cases c1 : x1 = (100 : Int32)
  · replace h := h.1 c1
    refine lv_lookup (off := 120) (tgt := 121) hx hb dX2_obey_1 (by decide) (by rw [c1]; decide) (by decide) ?_
    refine lv_aload_n hx hb dX2_obey_121 rfl (lv_at hl 2 rfl) ?_
    refine lv_iconst (v := 3) hx hb dX2_obey_122 (by decide) ?_
    refine lv_aload_n hx hb dX2_obey_123 rfl (lv_at hl 0 rfl) ?_
    refine gt_2_1 C w kw_4_9 dX2_obey_124 ?_
    refine lv_iconst (v := 0) hx hb dX2_obey_127 (by decide) ?_
    refine pw_ld C w (i := 7) (by decide) pE_nu (vl (x := (0 : Int32)) (by decide)) (k := 0) (by decide) dX2_obey_128 ?_
    refine end_i w (run_VN (As := [.int (3 : Int32), .int (M 7 0)]) C w hl.1 (c_X4_change l G C.2.2.1 _ _ a2 (3 : Int32) (M 7 0) ha2 _ h) kw_11_8 kw_1_15 kn_52 kw_11_6 kw_11_7 hd_X4_change ⟨by decide, by decide⟩ (w.recv C (i := a2) (by omega) (pE_4 ha2) rfl) rfl (Nat.le_of_ble_eq_true rfl) dX2_obey_129) (fun r2 M3 H locs h w => ?_)
    exact ret_z C w h dX2_obey_132
  replace h := h.2 c1
  by_cases c4 : x1 = (112 : Int32)
  · replace h := h.1 c4
    refine lv_lookup (off := 51) (tgt := 52) hx hb dX2_obey_1 (by decide) (by rw [c4]; decide) (by decide) ?_
    refine lv_aload_n hx hb dX2_obey_52 rfl (lv_at hl 2 rfl) ?_
    refine lv_aload_n hx hb dX2_obey_53 rfl (lv_at hl 0 rfl) ?_
    refine gt_2_1 C w kw_4_9 dX2_obey_54 ?_
    refine lv_iconst (v := 0) hx hb dX2_obey_57 (by decide) ?_
    refine pw_ld C w (i := 7) (by decide) pE_nu (vl (x := (0 : Int32)) (by decide)) (k := 0) (by decide) dX2_obey_58 ?_
    refine lv_aload_n hx hb dX2_obey_59 rfl (lv_at hl 0 rfl) ?_
    refine gt_2_1 C w kw_4_9 dX2_obey_60 ?_
    refine lv_iconst (v := 1) hx hb dX2_obey_63 (by decide) ?_
    refine pw_ld C w (i := 7) (by decide) pE_nu (vl (x := (1 : Int32)) (by decide)) (k := 1) (by decide) dX2_obey_64 ?_
    refine lv_aload_n hx hb dX2_obey_65 rfl (lv_at hl 0 rfl) ?_
    refine gt_2_1 C w kw_4_9 dX2_obey_66 ?_
    refine lv_iconst (v := 2) hx hb dX2_obey_69 (by decide) ?_
    refine pw_ld C w (i := 7) (by decide) pE_nu (vl (x := (2 : Int32)) (by decide)) (k := 2) (by decide) dX2_obey_70 ?_
    refine end_i w (run_VN (As := [.int (M 7 0), .int (M 7 1), .int (M 7 2)]) C w hl.1 (c_X4_addPiece l G C.2.2.1 _ _ a2 (M 7 0) (M 7 1) (M 7 2) ha2 _ h) kw_10_14 kw_1_15 kn_49 kw_10_12 kw_10_13 hd_X4_addPiece ⟨by decide, by decide⟩ (w.recv C (i := a2) (by omega) (pE_4 ha2) rfl) rfl (Nat.le_of_ble_eq_true rfl) dX2_obey_71) (fun r5 M6 H locs h w => ?_)
    exact ret_z C w h dX2_obey_74
  replace h := h.2 c4
  by_cases c7 : x1 = (115 : Int32)
  · replace h := h.1 c7
    refine lv_lookup (off := 74) (tgt := 75) hx hb dX2_obey_1 (by decide) (by rw [c7]; decide) (by decide) ?_
    refine lv_aload_n hx hb dX2_obey_75 rfl (lv_at hl 2 rfl) ?_
    refine lv_iconst (v := 0) hx hb dX2_obey_76 (by decide) ?_
    refine lv_aload_n hx hb dX2_obey_77 rfl (lv_at hl 0 rfl) ?_
    refine gt_2_1 C w kw_4_9 dX2_obey_78 ?_
    refine lv_iconst (v := 0) hx hb dX2_obey_81 (by decide) ?_
    refine pw_ld C w (i := 7) (by decide) pE_nu (vl (x := (0 : Int32)) (by decide)) (k := 0) (by decide) dX2_obey_82 ?_
    refine end_i w (run_VN (As := [.int (0 : Int32), .int (M 7 0)]) C w hl.1 (c_X4_change l G C.2.2.1 _ _ a2 (0 : Int32) (M 7 0) ha2 _ h) kw_11_8 kw_1_15 kn_52 kw_11_6 kw_11_7 hd_X4_change ⟨by decide, by decide⟩ (w.recv C (i := a2) (by omega) (pE_4 ha2) rfl) rfl (Nat.le_of_ble_eq_true rfl) dX2_obey_83) (fun r8 M9 H locs h w => ?_)
    refine lv_if_eq (tgt := 107) hx hb dX2_obey_86 (by decide) (fun c10 => ?_) (fun c10 => ?_)
    · replace h := h.1 c10
      exact t_X2_obey_107 C M9   w (lv_sub hl [] rfl) h
    replace h := h.2 c10
    refine lv_aload_n hx hb dX2_obey_89 rfl (lv_at hl 2 rfl) ?_
    refine lv_iconst (v := 1) hx hb dX2_obey_90 (by decide) ?_
    refine lv_aload_n hx hb dX2_obey_91 rfl (lv_at hl 0 rfl) ?_
    refine gt_2_1 C w kw_4_9 dX2_obey_92 ?_
    refine lv_iconst (v := 1) hx hb dX2_obey_95 (by decide) ?_
    refine pw_ld C w (i := 7) (by decide) pE_nu (vl (x := (1 : Int32)) (by decide)) (k := 1) (by decide) dX2_obey_96 ?_
    refine end_i w (run_VN (As := [.int (1 : Int32), .int (M9 7 1)]) C w hl.1 (c_X4_change l G C.2.2.1 _ _ a2 (1 : Int32) (M9 7 1) ha2 _ h) kw_11_8 kw_1_15 kn_52 kw_11_6 kw_11_7 hd_X4_change ⟨by decide, by decide⟩ (w.recv C (i := a2) (by omega) (pE_4 ha2) rfl) rfl (Nat.le_of_ble_eq_true rfl) dX2_obey_97) (fun r11 M12 H locs h w => ?_)
    refine lv_if_eq (tgt := 107) hx hb dX2_obey_100 (by decide) (fun c13 => ?_) (fun c13 => ?_)
    · replace h := h.1 c13
      exact t_X2_obey_107 C M12   w (lv_sub hl [] rfl) h
    replace h := h.2 c13
    refine lv_iconst (v := 1) hx hb dX2_obey_103 (by decide) ?_
    refine lv_goto (tgt := 108) hx hb dX2_obey_104 (by decide) ?_
    exact t_X2_obey_108 C M12 (1 : Int32)  w (lv_sub hl [] rfl) h
  replace h := h.2 c7
  by_cases c14 : x1 = (118 : Int32)
  · replace h := h.1 c14
    refine lv_lookup (off := 108) (tgt := 109) hx hb dX2_obey_1 (by decide) (by rw [c14]; decide) (by decide) ?_
    refine lv_aload_n hx hb dX2_obey_109 rfl (lv_at hl 2 rfl) ?_
    refine lv_iconst (v := 2) hx hb dX2_obey_110 (by decide) ?_
    refine lv_aload_n hx hb dX2_obey_111 rfl (lv_at hl 0 rfl) ?_
    refine gt_2_1 C w kw_4_9 dX2_obey_112 ?_
    refine lv_iconst (v := 0) hx hb dX2_obey_115 (by decide) ?_
    refine pw_ld C w (i := 7) (by decide) pE_nu (vl (x := (0 : Int32)) (by decide)) (k := 0) (by decide) dX2_obey_116 ?_
    refine end_i w (run_VN (As := [.int (2 : Int32), .int (M 7 0)]) C w hl.1 (c_X4_change l G C.2.2.1 _ _ a2 (2 : Int32) (M 7 0) ha2 _ h) kw_11_8 kw_1_15 kn_52 kw_11_6 kw_11_7 hd_X4_change ⟨by decide, by decide⟩ (w.recv C (i := a2) (by omega) (pE_4 ha2) rfl) rfl (Nat.le_of_ble_eq_true rfl) dX2_obey_117) (fun r15 M16 H locs h w => ?_)
    exact ret_z C w h dX2_obey_120
  replace h := h.2 c14
  by_cases c17 : x1 = (121 : Int32)
  · replace h := h.1 c17
    refine lv_lookup (off := 132) (tgt := 133) hx hb dX2_obey_1 (by decide) (by rw [c17]; decide) (by decide) ?_
    refine lv_aload_n hx hb dX2_obey_133 rfl (lv_at hl 2 rfl) ?_
    refine lv_iconst (v := 4) hx hb dX2_obey_134 (by decide) ?_
    refine lv_aload_n hx hb dX2_obey_135 rfl (lv_at hl 0 rfl) ?_
    refine gt_2_1 C w kw_4_9 dX2_obey_136 ?_
    refine lv_iconst (v := 0) hx hb dX2_obey_139 (by decide) ?_
    refine pw_ld C w (i := 7) (by decide) pE_nu (vl (x := (0 : Int32)) (by decide)) (k := 0) (by decide) dX2_obey_140 ?_
    refine end_i w (run_VN (As := [.int (4 : Int32), .int (M 7 0)]) C w hl.1 (c_X4_change l G C.2.2.1 _ _ a2 (4 : Int32) (M 7 0) ha2 _ h) kw_11_8 kw_1_15 kn_52 kw_11_6 kw_11_7 hd_X4_change ⟨by decide, by decide⟩ (w.recv C (i := a2) (by omega) (pE_4 ha2) rfl) rfl (Nat.le_of_ble_eq_true rfl) dX2_obey_141) (fun r18 M19 H locs h w => ?_)
    refine lv_if_eq (tgt := 180) hx hb dX2_obey_144 (by decide) (fun c20 => ?_) (fun c20 => ?_)
    · replace h := h.1 c20
      exact t_X2_obey_180 C M19   w (lv_sub hl [] rfl) h
    replace h := h.2 c20
    refine lv_aload_n hx hb dX2_obey_147 rfl (lv_at hl 2 rfl) ?_
    refine lv_iconst (v := 5) hx hb dX2_obey_148 (by decide) ?_
    refine lv_aload_n hx hb dX2_obey_149 rfl (lv_at hl 0 rfl) ?_
    refine gt_2_1 C w kw_4_9 dX2_obey_150 ?_
    refine lv_iconst (v := 1) hx hb dX2_obey_153 (by decide) ?_
    refine pw_ld C w (i := 7) (by decide) pE_nu (vl (x := (1 : Int32)) (by decide)) (k := 1) (by decide) dX2_obey_154 ?_
    refine end_i w (run_VN (As := [.int (5 : Int32), .int (M19 7 1)]) C w hl.1 (c_X4_change l G C.2.2.1 _ _ a2 (5 : Int32) (M19 7 1) ha2 _ h) kw_11_8 kw_1_15 kn_52 kw_11_6 kw_11_7 hd_X4_change ⟨by decide, by decide⟩ (w.recv C (i := a2) (by omega) (pE_4 ha2) rfl) rfl (Nat.le_of_ble_eq_true rfl) dX2_obey_155) (fun r21 M22 H locs h w => ?_)
    refine lv_if_eq (tgt := 180) hx hb dX2_obey_158 (by decide) (fun c23 => ?_) (fun c23 => ?_)
    · replace h := h.1 c23
      exact t_X2_obey_180 C M22   w (lv_sub hl [] rfl) h
    replace h := h.2 c23
    refine lv_aload_n hx hb dX2_obey_161 rfl (lv_at hl 2 rfl) ?_
    refine lv_bipush (v := 6) hx hb dX2_obey_162 (by decide) ?_
    refine lv_aload_n hx hb dX2_obey_164 rfl (lv_at hl 0 rfl) ?_
    refine gt_2_1 C w kw_4_9 dX2_obey_165 ?_
    refine lv_iconst (v := 2) hx hb dX2_obey_168 (by decide) ?_
    refine pw_ld C w (i := 7) (by decide) pE_nu (vl (x := (2 : Int32)) (by decide)) (k := 2) (by decide) dX2_obey_169 ?_
    refine end_i w (run_VN (As := [.int (6 : Int32), .int (M22 7 2)]) C w hl.1 (c_X4_change l G C.2.2.1 _ _ a2 (6 : Int32) (M22 7 2) ha2 _ h) kw_11_8 kw_1_15 kn_52 kw_11_6 kw_11_7 hd_X4_change ⟨by decide, by decide⟩ (w.recv C (i := a2) (by omega) (pE_4 ha2) rfl) rfl (Nat.le_of_ble_eq_true rfl) dX2_obey_170) (fun r24 M25 H locs h w => ?_)
    refine lv_if_eq (tgt := 180) hx hb dX2_obey_173 (by decide) (fun c26 => ?_) (fun c26 => ?_)
    · replace h := h.1 c26
      exact t_X2_obey_180 C M25   w (lv_sub hl [] rfl) h
    replace h := h.2 c26
    refine lv_iconst (v := 1) hx hb dX2_obey_176 (by decide) ?_
    refine lv_goto (tgt := 181) hx hb dX2_obey_177 (by decide) ?_
    exact t_X2_obey_181 C M25 (1 : Int32)  w (lv_sub hl [] rfl) h
  replace h := h.2 c17
  refine lv_lookup (off := 181) (tgt := 182) hx hb dX2_obey_1 (by decide) ((lv_osw c1 (by decide)).trans ((lv_osw c4 (by decide)).trans ((lv_osw c7 (by decide)).trans ((lv_osw c14 (by decide)).trans ((lv_osw c17 (by decide)).trans rfl))))) (by decide) ?_
  refine lv_aload_n hx hb dX2_obey_182 rfl (lv_at hl 2 rfl) ?_
  refine lv_aload_n hx hb dX2_obey_183 rfl (lv_at hl 0 rfl) ?_
  refine gt_2_1 C w kw_4_9 dX2_obey_184 ?_
  refine lv_iconst (v := 0) hx hb dX2_obey_187 (by decide) ?_
  refine pw_ld C w (i := 7) (by decide) pE_nu (vl (x := (0 : Int32)) (by decide)) (k := 0) (by decide) dX2_obey_188 ?_
  refine lv_aload_n hx hb dX2_obey_189 rfl (lv_at hl 0 rfl) ?_
  refine gt_2_1 C w kw_4_9 dX2_obey_190 ?_
  refine lv_iconst (v := 1) hx hb dX2_obey_193 (by decide) ?_
  refine pw_ld C w (i := 7) (by decide) pE_nu (vl (x := (1 : Int32)) (by decide)) (k := 1) (by decide) dX2_obey_194 ?_
  refine lv_imul hx hb dX2_obey_195 ?_
  refine pn_4_3 C w ha2 kn_17 dX2_obey_196 (fun H locs w => ?_)
  obtain ⟨M27, eM27⟩ : ∃ z : Mem, z = (mup M a2 3 ((M 7 0) * (M 7 1))) := ⟨_, rfl⟩
  replace w : Wd G s M27 H locs := by rw [eM27]; exact w
  replace h := h M27 eM27
  refine lv_iconst (v := 1) hx hb dX2_obey_199 (by decide) ?_
  exact ret_z C w ⟨Or.inr rfl, h⟩ dX2_obey_200
def j_J0_isLatin1_aae02_18 (post : Int32 → Mem → Prop) (M : Mem) (y0 : Int32) : Prop := (y0 = 0 ∨ y0 = 1) ∧ post y0 M
def j_J0_isLatin1_aae02_17 (post : Int32 → Mem → Prop) (M : Mem) : Prop := j_J0_isLatin1_aae02_18 post M (0 : Int32)
def q_J0_isLatin1_aae02 (M : Mem) (a0 : Nat) (post : Int32 → Mem → Prop) : Prop := ((1 : Int32) = 0 → (j_J0_isLatin1_aae02_17 post M)) ∧ (¬ ((1 : Int32) = 0) → (((0 : Int32) = 0 → (j_J0_isLatin1_aae02_18 post M (1 : Int32))) ∧ (¬ ((0 : Int32) = 0) → (j_J0_isLatin1_aae02_17 post M))))
set_option maxHeartbeats 4000000 in
set_option maxRecDepth 100000 in
theorem t_J0_isLatin1_aae02_18 (C : Cx G p s m args meth c RJ0 cJ0_isLatin1_aae02 1 (some .boolean)) {post : Int32 → Mem → Prop} (M : Mem) (y0 : Int32) {H : Heap} {locs : List Loc} {ls : Array Slot} (w : Wd G s M H locs) (hl : lv_has ls 1 []) (h : j_J0_isLatin1_aae02_18 post M y0) : W p l e (rmk 1) s m args below meth c H locs 0 0 (MQ below (va_Qi post (Qw G) (Af G s.heap.size)) args s 0 0 (Af G s.heap.size)) (F0 m 18 ls [.int y0]) := by
  have hx := C.1.1
  have hb := C.1.2.1
  unfold j_J0_isLatin1_aae02_18 at h
  exact ret_z C w h dJ0_isLatin1_aae02_18
set_option maxHeartbeats 4000000 in
set_option maxRecDepth 100000 in
theorem t_J0_isLatin1_aae02_17 (C : Cx G p s m args meth c RJ0 cJ0_isLatin1_aae02 1 (some .boolean)) {post : Int32 → Mem → Prop} (M : Mem) {H : Heap} {locs : List Loc} {ls : Array Slot} (w : Wd G s M H locs) (hl : lv_has ls 1 []) (h : j_J0_isLatin1_aae02_17 post M) : W p l e (rmk 1) s m args below meth c H locs 0 0 (MQ below (va_Qi post (Qw G) (Af G s.heap.size)) args s 0 0 (Af G s.heap.size)) (F0 m 17 ls []) := by
  have hx := C.1.1
  have hb := C.1.2.1
  unfold j_J0_isLatin1_aae02_17 at h
  refine lv_iconst (v := 0) hx hb dJ0_isLatin1_aae02_17 (by decide) ?_
  exact t_J0_isLatin1_aae02_18 C M (0 : Int32)  w (lv_sub hl [] rfl) h
set_option maxHeartbeats 4000000 in
set_option maxRecDepth 100000 in
theorem c_J0_isLatin1_aae02 (l : Launch) (G : GG) (hG : Ag G) (sz : Nat) (M : Mem) (a0 : Nat) (ha0 : 0 ≤ a0 ∧ a0 < 7) (post : Int32 → Mem → Prop) (h : q_J0_isLatin1_aae02 M a0 post) : Met l yJ0_isLatin1_aae02 (Cond.code yJ0_isLatin1_aae02 cJ0_isLatin1_aae02 1 (some .boolean) :: wsL_law) (rmk 1) (va_Pc [.ref (gK G a0)] (Pw G sz M)) (va_Qi post (Qw G) (Af G sz)) 0 0 (Af G sz) := by
  refine Met.ofW (cc := cJ0_isLatin1_aae02) (maxL := 1) (ret := (some .boolean)) (by decide) rfl ?_
  intro p e s m args below meth c s₁ B hml hv
  obtain ⟨rfl, hsz, hE, hP⟩ := hv
  subst hsz
  have C := Cx.of (own := RJ0) hG hE rfl hml B
  have w : Wd G s M s.heap [] := ⟨hP, va_S.rf⟩
  have hl := lv_entry [.ref (gK G a0)] (n := 1) (Nat.le_of_ble_eq_true rfl)
  rw [lg_entry_eq]
  generalize (lg_sl [.ref (gK G a0)] ++ List.replicate (1 - (lg_sl [.ref (gK G a0)]).length) Slot.unset).toArray = ls at hl ⊢
  have hl : lv_has ls 1 [(0, .ref (gK G a0))] := hl
  have hx := C.1.1
  have hb := C.1.2.1
  show W p l e (rmk 1) s m _ below meth c s.heap [] 0 0 _ _
  unfold q_J0_isLatin1_aae02 at h
  refine gS_compact C w kw_8_2 dJ0_isLatin1_aae02_0 ?_
  refine lv_if_eq (tgt := 17) hx hb dJ0_isLatin1_aae02_3 (by decide) (fun c1 => ?_) (fun c1 => ?_)
  · replace h := h.1 c1
    exact t_J0_isLatin1_aae02_17 C M   w (lv_sub hl [] rfl) h
  replace h := h.2 c1
  refine lv_aload_n hx hb dJ0_isLatin1_aae02_6 rfl (lv_at hl 0 rfl) ?_
  refine gS_coder C w ha0.2 kw_8_3 dJ0_isLatin1_aae02_7 ?_
  refine lv_if_ne (tgt := 17) hx hb dJ0_isLatin1_aae02_10 (by decide) (fun c2 => ?_) (fun c2 => ?_)
  · replace h := h.2 c2
    exact t_J0_isLatin1_aae02_17 C M   w (lv_sub hl [] rfl) h
  replace h := h.1 c2
  refine lv_iconst (v := 1) hx hb dJ0_isLatin1_aae02_13 (by decide) ?_
  refine lv_goto (tgt := 18) hx hb dJ0_isLatin1_aae02_14 (by decide) ?_
  exact t_J0_isLatin1_aae02_18 C M (1 : Int32)  w (lv_sub hl [] rfl) h
def q_J3_checkIndex_8e157 (M : Mem) (x0 : Int32) (x1 : Int32) (f2 : Value) (post : Int32 → Mem → Prop) : Prop := (x0 < 0 → (False)) ∧ (¬ (x0 < 0) → ((x0 < x1 → (post x0 M)) ∧ (¬ (x0 < x1) → (False))))
set_option maxHeartbeats 4000000 in
set_option maxRecDepth 100000 in
theorem c_J3_checkIndex_8e157 (l : Launch) (G : GG) (hG : Ag G) (sz : Nat) (M : Mem) (x0 : Int32) (x1 : Int32) (f2 : Value) (hf2 : f2.category = 1) (post : Int32 → Mem → Prop) (h : q_J3_checkIndex_8e157 M x0 x1 f2 post) : Met l yJ3_checkIndex_8e157 (Cond.code yJ3_checkIndex_8e157 cJ3_checkIndex_8e157 3 (some .int) :: wsL_law) (rmk 1) (va_Pc [.int x0, .int x1, f2] (Pw G sz M)) (va_Qi post (Qw G) (Af G sz)) 0 0 (Af G sz) := by
  refine Met.ofW (cc := cJ3_checkIndex_8e157) (maxL := 3) (ret := (some .int)) (by decide) rfl ?_
  intro p e s m args below meth c s₁ B hml hv
  obtain ⟨rfl, hsz, hE, hP⟩ := hv
  subst hsz
  have C := Cx.of (own := RJ3) hG hE rfl hml B
  have w : Wd G s M s.heap [] := ⟨hP, va_S.rf⟩
  have hl := lv_entry [.int x0, .int x1, f2] (n := 3) (sl3 hf2)
  rw [lg_entry_eq]
  generalize (lg_sl [.int x0, .int x1, f2] ++ List.replicate (3 - (lg_sl [.int x0, .int x1, f2]).length) Slot.unset).toArray = ls at hl ⊢
  have hl : lv_has ls 3 [(0, .int x0), (1, .int x1), (2, f2)] := hl
  have hx := C.1.1
  have hb := C.1.2.1
  show W p l e (rmk 1) s m _ below meth c s.heap [] 0 0 _ _
  unfold q_J3_checkIndex_8e157 at h
  refine lv_iload_n hx hb dJ3_checkIndex_8e157_0 rfl (lv_at hl 0 rfl) ?_
  refine lv_if_lt (tgt := 9) hx hb dJ3_checkIndex_8e157_1 (by decide) (fun c1 => ?_) (fun c1 => ?_)
  · replace h := h.1 c1
    exact absurd h id
  replace h := h.2 c1
  refine lv_iload_n hx hb dJ3_checkIndex_8e157_4 rfl (lv_at hl 0 rfl) ?_
  refine lv_iload_n hx hb dJ3_checkIndex_8e157_5 rfl (lv_at hl 1 rfl) ?_
  refine lv_icmp_lt (tgt := 16) hx hb dJ3_checkIndex_8e157_6 (by decide) (fun c2 => ?_) (fun c2 => ?_)
  · replace h := h.1 c2
    refine lv_iload_n hx hb dJ3_checkIndex_8e157_16 rfl (lv_at hl 0 rfl) ?_
    exact ret_i C w h dJ3_checkIndex_8e157_17
  replace h := h.2 c2
  exact absurd h id
def q_J0_checkIndex_df160 (M : Mem) (x0 : Int32) (x1 : Int32) (post : Mem → Prop) : Prop := ∀ fv1 : Value, (q_J3_checkIndex_8e157 M x0 x1 fv1 (fun r2 M3 => post M3))
set_option maxHeartbeats 4000000 in
set_option maxRecDepth 100000 in
theorem c_J0_checkIndex_df160 (l : Launch) (G : GG) (hG : Ag G) (sz : Nat) (M : Mem) (x0 : Int32) (x1 : Int32) (post : Mem → Prop) (h : q_J0_checkIndex_df160 M x0 x1 post) : Met l yJ0_checkIndex_df160 (Cond.code yJ0_checkIndex_df160 cJ0_checkIndex_df160 2 none :: wsL_law) (rmk 2) (va_Pc [.int x0, .int x1] (Pw G sz M)) (va_Qv post (Qw G) (Af G sz)) 0 0 (Af G sz) := by
  refine Met.ofW (cc := cJ0_checkIndex_df160) (maxL := 2) (ret := none) (by decide) rfl ?_
  intro p e s m args below meth c s₁ B hml hv
  obtain ⟨rfl, hsz, hE, hP⟩ := hv
  subst hsz
  have C := Cx.of (own := RJ0) hG hE rfl hml B
  have w : Wd G s M s.heap [] := ⟨hP, va_S.rf⟩
  have hl := lv_entry [.int x0, .int x1] (n := 2) (Nat.le_of_ble_eq_true rfl)
  rw [lg_entry_eq]
  generalize (lg_sl [.int x0, .int x1] ++ List.replicate (2 - (lg_sl [.int x0, .int x1]).length) Slot.unset).toArray = ls at hl ⊢
  have hl : lv_has ls 2 [(0, .int x0), (1, .int x1)] := hl
  have hx := C.1.1
  have hb := C.1.2.1
  show W p l e (rmk 2) s m _ below meth c s.heap [] 0 0 _ _
  unfold q_J0_checkIndex_df160 at h
  refine lv_iload_n hx hb dJ0_checkIndex_df160_0 rfl (lv_at hl 0 rfl) ?_
  refine lv_iload_n hx hb dJ0_checkIndex_df160_1 rfl (lv_at hl 1 rfl) ?_
  refine gS_fmt C w kw_8_19 dJ0_checkIndex_df160_2 (fun fv1 hfv1 => ?_)
  replace h := h fv1
  refine end_i w (run_S (As := [.int x0, .int x1, fv1]) C w hl.1 (c_J3_checkIndex_8e157 l G C.2.2.1 _ _ x0 x1 fv1 hfv1 _ h) kw_8_23 kw_8_22 kw_8_20 kw_8_21 hd_J3_checkIndex_8e157 ⟨by decide, by decide⟩ rfl (Nat.le_of_ble_eq_true rfl) dJ0_checkIndex_df160_5) (fun r2 M3 H locs h w => ?_)
  refine lv_pop hx hb dJ0_checkIndex_df160_8 rfl ?_
  exact ret_v C w h dJ0_checkIndex_df160_9
def q_J1_charAt_3b067 (M : Mem) (a0 : Nat) (x1 : Int32) (post : Int32 → Mem → Prop) : Prop := q_J0_checkIndex_df160 M x1 (sLn a0) (fun M2 => vp_in x1 (sLen.getD a0 0) ∧ (narrow .char (.int (((sBy a0 x1.toNatClampNeg) &&& (255 : Int32)).toUInt32 % 65536).toInt32) = .int (((sBy a0 x1.toNatClampNeg) &&& (255 : Int32)).toUInt32 % 65536).toInt32 ∧ post ((((sBy a0 x1.toNatClampNeg) &&& (255 : Int32)).toUInt32 % 65536).toInt32) M2))
set_option maxHeartbeats 4000000 in
set_option maxRecDepth 100000 in
theorem c_J1_charAt_3b067 (l : Launch) (G : GG) (hG : Ag G) (sz : Nat) (M : Mem) (a0 : Nat) (x1 : Int32) (ha0 : 0 ≤ a0 ∧ a0 < 7) (post : Int32 → Mem → Prop) (h : q_J1_charAt_3b067 M a0 x1 post) : Met l yJ1_charAt_3b067 (Cond.code yJ1_charAt_3b067 cJ1_charAt_3b067 2 (some .char) :: wsL_law) (rmk 3) (va_Pc [.ref (gV G a0), .int x1] (Pw G sz M)) (va_Qi post (Qw G) (Af G sz)) 0 0 (Af G sz) := by
  refine Met.ofW (cc := cJ1_charAt_3b067) (maxL := 2) (ret := (some .char)) (by decide) rfl ?_
  intro p e s m args below meth c s₁ B hml hv
  obtain ⟨rfl, hsz, hE, hP⟩ := hv
  subst hsz
  have C := Cx.of (own := RJ1) hG hE rfl hml B
  have w : Wd G s M s.heap [] := ⟨hP, va_S.rf⟩
  have hl := lv_entry [.ref (gV G a0), .int x1] (n := 2) (Nat.le_of_ble_eq_true rfl)
  rw [lg_entry_eq]
  generalize (lg_sl [.ref (gV G a0), .int x1] ++ List.replicate (2 - (lg_sl [.ref (gV G a0), .int x1]).length) Slot.unset).toArray = ls at hl ⊢
  have hl : lv_has ls 2 [(0, .ref (gV G a0)), (1, .int x1)] := hl
  have hx := C.1.1
  have hb := C.1.2.1
  show W p l e (rmk 3) s m _ below meth c s.heap [] 0 0 _ _
  unfold q_J1_charAt_3b067 at h
  refine lv_iload_n hx hb dJ1_charAt_3b067_0 rfl (lv_at hl 1 rfl) ?_
  refine lv_aload_n hx hb dJ1_charAt_3b067_1 rfl (lv_at hl 0 rfl) ?_
  refine gS_len C w ha0.2 dJ1_charAt_3b067_2 ?_
  refine end_v w (run_S (As := [.int x1, .int (sLn a0)]) C w hl.1 (c_J0_checkIndex_df160 l G C.2.2.1 _ _ x1 (sLn a0)  _ h) kw_8_18 kw_7_15 kw_8_16 kw_8_17 hd_J0_checkIndex_df160 ⟨by decide, by decide⟩ rfl (Nat.le_of_ble_eq_true rfl) dJ1_charAt_3b067_3) (fun M2 H locs h w => ?_)
  refine lv_aload_n hx hb dJ1_charAt_3b067_6 rfl (lv_at hl 0 rfl) ?_
  refine lv_iload_n hx hb dJ1_charAt_3b067_7 rfl (lv_at hl 1 rfl) ?_
  refine gS_ld C w ha0.2 h.1 dJ1_charAt_3b067_8 ?_
  replace h := h.2
  refine lv_sipush (v := 255) hx hb dJ1_charAt_3b067_9 (by decide) ?_
  refine lv_iand hx hb dJ1_charAt_3b067_12 ?_
  refine lv_i2c hx hb dJ1_charAt_3b067_13 rfl ?_
  exact ret_n C w h dJ1_charAt_3b067_14
def q_J0_charAt_5068e (M : Mem) (a0 : Nat) (x1 : Int32) (post : Int32 → Mem → Prop) : Prop := q_J0_isLatin1_aae02 M a0 (fun r1 M2 => (r1 = 0 → (False)) ∧ (¬ (r1 = 0) → (q_J1_charAt_3b067 M2 a0 x1 (fun r4 M5 => narrow .char (.int r4) = .int r4 ∧ post r4 M5))))
set_option maxHeartbeats 4000000 in
set_option maxRecDepth 100000 in
theorem c_J0_charAt_5068e (l : Launch) (G : GG) (hG : Ag G) (sz : Nat) (M : Mem) (a0 : Nat) (x1 : Int32) (ha0 : 0 ≤ a0 ∧ a0 < 7) (post : Int32 → Mem → Prop) (h : q_J0_charAt_5068e M a0 x1 post) : Met l yJ0_charAt_5068e (Cond.code yJ0_charAt_5068e cJ0_charAt_5068e 2 (some .char) :: wsL_law) (rmk 4) (va_Pc [.ref (gK G a0), .int x1] (Pw G sz M)) (va_Qi post (Qw G) (Af G sz)) 0 0 (Af G sz) := by
  refine Met.ofW (cc := cJ0_charAt_5068e) (maxL := 2) (ret := (some .char)) (by decide) rfl ?_
  intro p e s m args below meth c s₁ B hml hv
  obtain ⟨rfl, hsz, hE, hP⟩ := hv
  subst hsz
  have C := Cx.of (own := RJ0) hG hE rfl hml B
  have w : Wd G s M s.heap [] := ⟨hP, va_S.rf⟩
  have hl := lv_entry [.ref (gK G a0), .int x1] (n := 2) (Nat.le_of_ble_eq_true rfl)
  rw [lg_entry_eq]
  generalize (lg_sl [.ref (gK G a0), .int x1] ++ List.replicate (2 - (lg_sl [.ref (gK G a0), .int x1]).length) Slot.unset).toArray = ls at hl ⊢
  have hl : lv_has ls 2 [(0, .ref (gK G a0)), (1, .int x1)] := hl
  have hx := C.1.1
  have hb := C.1.2.1
  show W p l e (rmk 4) s m _ below meth c s.heap [] 0 0 _ _
  unfold q_J0_charAt_5068e at h
  refine lv_aload_n hx hb dJ0_charAt_5068e_0 rfl (lv_at hl 0 rfl) ?_
  refine end_i w (run_V (As := []) C w hl.1 (c_J0_isLatin1_aae02 l G C.2.2.1 _ _ a0 ha0 _ h) kw_8_11 kw_7_15 kw_8_8 kw_8_9 kw_8_10 hd_J0_isLatin1_aae02 ⟨by decide, by decide⟩ (vk_recv C.2.1.2.2.2.1.2.2.2.2.2.1 ha0.2 (w.zf C)) rfl (Nat.le_of_ble_eq_true rfl) dJ0_charAt_5068e_1) (fun r1 M2 H locs h w => ?_)
  refine lv_if_eq (tgt := 16) hx hb dJ0_charAt_5068e_4 (by decide) (fun c3 => ?_) (fun c3 => ?_)
  · replace h := h.1 c3
    exact absurd h id
  replace h := h.2 c3
  refine lv_aload_n hx hb dJ0_charAt_5068e_7 rfl (lv_at hl 0 rfl) ?_
  refine gS_value C w ha0.2 kw_7_17 dJ0_charAt_5068e_8 ?_
  refine lv_iload_n hx hb dJ0_charAt_5068e_11 rfl (lv_at hl 1 rfl) ?_
  refine end_i w (run_S (As := [.ref (gV G a0), .int x1]) C w hl.1 (c_J1_charAt_3b067 l G C.2.2.1 _ _ a0 x1 ha0 _ h) kw_8_15 kw_8_14 kw_8_12 kw_8_13 hd_J1_charAt_3b067 ⟨by decide, by decide⟩ rfl (Nat.le_of_ble_eq_true rfl) dJ0_charAt_5068e_12) (fun r4 M5 H locs h w => ?_)
  exact ret_n C w h dJ0_charAt_5068e_15
def j_J0_isEmpty_aae02_13 (post : Int32 → Mem → Prop) (M : Mem) (y0 : Int32) : Prop := (y0 = 0 ∨ y0 = 1) ∧ post y0 M
def q_J0_isEmpty_aae02 (M : Mem) (a0 : Nat) (post : Int32 → Mem → Prop) : Prop := ((sLn a0) = 0 → (j_J0_isEmpty_aae02_13 post M (1 : Int32))) ∧ (¬ ((sLn a0) = 0) → (j_J0_isEmpty_aae02_13 post M (0 : Int32)))
set_option maxHeartbeats 4000000 in
set_option maxRecDepth 100000 in
theorem t_J0_isEmpty_aae02_13 (C : Cx G p s m args meth c RJ0 cJ0_isEmpty_aae02 1 (some .boolean)) {post : Int32 → Mem → Prop} (M : Mem) (y0 : Int32) {H : Heap} {locs : List Loc} {ls : Array Slot} (w : Wd G s M H locs) (hl : lv_has ls 1 []) (h : j_J0_isEmpty_aae02_13 post M y0) : W p l e (rmk 1) s m args below meth c H locs 0 0 (MQ below (va_Qi post (Qw G) (Af G s.heap.size)) args s 0 0 (Af G s.heap.size)) (F0 m 13 ls [.int y0]) := by
  have hx := C.1.1
  have hb := C.1.2.1
  unfold j_J0_isEmpty_aae02_13 at h
  exact ret_z C w h dJ0_isEmpty_aae02_13
set_option maxHeartbeats 4000000 in
set_option maxRecDepth 100000 in
theorem c_J0_isEmpty_aae02 (l : Launch) (G : GG) (hG : Ag G) (sz : Nat) (M : Mem) (a0 : Nat) (ha0 : 0 ≤ a0 ∧ a0 < 7) (post : Int32 → Mem → Prop) (h : q_J0_isEmpty_aae02 M a0 post) : Met l yJ0_isEmpty_aae02 (Cond.code yJ0_isEmpty_aae02 cJ0_isEmpty_aae02 1 (some .boolean) :: wsL_law) (rmk 1) (va_Pc [.ref (gK G a0)] (Pw G sz M)) (va_Qi post (Qw G) (Af G sz)) 0 0 (Af G sz) := by
  refine Met.ofW (cc := cJ0_isEmpty_aae02) (maxL := 1) (ret := (some .boolean)) (by decide) rfl ?_
  intro p e s m args below meth c s₁ B hml hv
  obtain ⟨rfl, hsz, hE, hP⟩ := hv
  subst hsz
  have C := Cx.of (own := RJ0) hG hE rfl hml B
  have w : Wd G s M s.heap [] := ⟨hP, va_S.rf⟩
  have hl := lv_entry [.ref (gK G a0)] (n := 1) (Nat.le_of_ble_eq_true rfl)
  rw [lg_entry_eq]
  generalize (lg_sl [.ref (gK G a0)] ++ List.replicate (1 - (lg_sl [.ref (gK G a0)]).length) Slot.unset).toArray = ls at hl ⊢
  have hl : lv_has ls 1 [(0, .ref (gK G a0))] := hl
  have hx := C.1.1
  have hb := C.1.2.1
  show W p l e (rmk 1) s m _ below meth c s.heap [] 0 0 _ _
  unfold q_J0_isEmpty_aae02 at h
  refine lv_aload_n hx hb dJ0_isEmpty_aae02_0 rfl (lv_at hl 0 rfl) ?_
  refine gS_value C w ha0.2 kw_7_17 dJ0_isEmpty_aae02_1 ?_
  refine gS_len C w ha0.2 dJ0_isEmpty_aae02_4 ?_
  refine lv_if_ne (tgt := 12) hx hb dJ0_isEmpty_aae02_5 (by decide) (fun c1 => ?_) (fun c1 => ?_)
  · replace h := h.2 c1
    refine lv_iconst (v := 0) hx hb dJ0_isEmpty_aae02_12 (by decide) ?_
    exact t_J0_isEmpty_aae02_13 C M (0 : Int32)  w (lv_sub hl [] rfl) h
  replace h := h.1 c1
  refine lv_iconst (v := 1) hx hb dJ0_isEmpty_aae02_8 (by decide) ?_
  refine lv_goto (tgt := 13) hx hb dJ0_isEmpty_aae02_9 (by decide) ?_
  exact t_J0_isEmpty_aae02_13 C M (1 : Int32)  w (lv_sub hl [] rfl) h
def j_J0_coder_7d493_14 (post : Int32 → Mem → Prop) (M : Mem) (y0 : Int32) : Prop := narrow .byte (.int y0) = .int y0 ∧ post y0 M
def q_J0_coder_7d493 (M : Mem) (a0 : Nat) (post : Int32 → Mem → Prop) : Prop := ((1 : Int32) = 0 → (j_J0_coder_7d493_14 post M (1 : Int32))) ∧ (¬ ((1 : Int32) = 0) → (j_J0_coder_7d493_14 post M (0 : Int32)))
set_option maxHeartbeats 4000000 in
set_option maxRecDepth 100000 in
theorem t_J0_coder_7d493_14 (C : Cx G p s m args meth c RJ0 cJ0_coder_7d493 1 (some .byte)) {post : Int32 → Mem → Prop} (M : Mem) (y0 : Int32) {H : Heap} {locs : List Loc} {ls : Array Slot} (w : Wd G s M H locs) (hl : lv_has ls 1 []) (h : j_J0_coder_7d493_14 post M y0) : W p l e (rmk 1) s m args below meth c H locs 0 0 (MQ below (va_Qi post (Qw G) (Af G s.heap.size)) args s 0 0 (Af G s.heap.size)) (F0 m 14 ls [.int y0]) := by
  have hx := C.1.1
  have hb := C.1.2.1
  unfold j_J0_coder_7d493_14 at h
  exact ret_n C w h dJ0_coder_7d493_14
set_option maxHeartbeats 4000000 in
set_option maxRecDepth 100000 in
theorem c_J0_coder_7d493 (l : Launch) (G : GG) (hG : Ag G) (sz : Nat) (M : Mem) (a0 : Nat) (ha0 : 0 ≤ a0 ∧ a0 < 7) (post : Int32 → Mem → Prop) (h : q_J0_coder_7d493 M a0 post) : Met l yJ0_coder_7d493 (Cond.code yJ0_coder_7d493 cJ0_coder_7d493 1 (some .byte) :: wsL_law) (rmk 1) (va_Pc [.ref (gK G a0)] (Pw G sz M)) (va_Qi post (Qw G) (Af G sz)) 0 0 (Af G sz) := by
  refine Met.ofW (cc := cJ0_coder_7d493) (maxL := 1) (ret := (some .byte)) (by decide) rfl ?_
  intro p e s m args below meth c s₁ B hml hv
  obtain ⟨rfl, hsz, hE, hP⟩ := hv
  subst hsz
  have C := Cx.of (own := RJ0) hG hE rfl hml B
  have w : Wd G s M s.heap [] := ⟨hP, va_S.rf⟩
  have hl := lv_entry [.ref (gK G a0)] (n := 1) (Nat.le_of_ble_eq_true rfl)
  rw [lg_entry_eq]
  generalize (lg_sl [.ref (gK G a0)] ++ List.replicate (1 - (lg_sl [.ref (gK G a0)]).length) Slot.unset).toArray = ls at hl ⊢
  have hl : lv_has ls 1 [(0, .ref (gK G a0))] := hl
  have hx := C.1.1
  have hb := C.1.2.1
  show W p l e (rmk 1) s m _ below meth c s.heap [] 0 0 _ _
  unfold q_J0_coder_7d493 at h
  refine gS_compact C w kw_8_2 dJ0_coder_7d493_0 ?_
  refine lv_if_eq (tgt := 13) hx hb dJ0_coder_7d493_3 (by decide) (fun c1 => ?_) (fun c1 => ?_)
  · replace h := h.1 c1
    refine lv_iconst (v := 1) hx hb dJ0_coder_7d493_13 (by decide) ?_
    exact t_J0_coder_7d493_14 C M (1 : Int32)  w (lv_sub hl [] rfl) h
  replace h := h.2 c1
  refine lv_aload_n hx hb dJ0_coder_7d493_6 rfl (lv_at hl 0 rfl) ?_
  refine gS_coder C w ha0.2 kw_8_3 dJ0_coder_7d493_7 ?_
  refine lv_goto (tgt := 14) hx hb dJ0_coder_7d493_10 (by decide) ?_
  exact t_J0_coder_7d493_14 C M (0 : Int32)  w (lv_sub hl [] rfl) h
end WALK
