theorem dX10_takeCourse_106 : decode cX10_takeCourse 106 = .ok (.aload_n 0, 1) := by decide +kernel
theorem dX10_takeCourse_107 : decode cX10_takeCourse 107 = .ok (.aload_n 1, 1) := by decide +kernel
theorem dX10_takeCourse_108 : decode cX10_takeCourse 108 = .ok (.getfield 62, 3) := by decide +kernel
theorem dX10_takeCourse_111 : decode cX10_takeCourse 111 = .ok (.putfield 62, 3) := by decide +kernel
theorem dX10_takeCourse_114 : decode cX10_takeCourse 114 = .ok (.return_, 1) := by decide +kernel
theorem dX10_take_0 : decode cX10_take 0 = .ok (.aload_n 0, 1) := by decide +kernel
theorem dX10_take_1 : decode cX10_take 1 = .ok (.aload_n 1, 1) := by decide +kernel
theorem dX10_take_2 : decode cX10_take 2 = .ok (.invokevirtual 74, 3) := by decide +kernel
theorem dX10_take_5 : decode cX10_take 5 = .ok (.aload_n 1, 1) := by decide +kernel
theorem dX10_take_6 : decode cX10_take 6 = .ok (.getfield 30, 3) := by decide +kernel
theorem dX10_take_9 : decode cX10_take 9 = .ok (.iconst 0, 1) := by decide +kernel
theorem dX10_take_10 : decode cX10_take 10 = .ok (.aload_n 0, 1) := by decide +kernel
theorem dX10_take_11 : decode cX10_take 11 = .ok (.getfield 30, 3) := by decide +kernel
theorem dX10_take_14 : decode cX10_take 14 = .ok (.iconst 0, 1) := by decide +kernel
theorem dX10_take_15 : decode cX10_take 15 = .ok (.bipush 8, 2) := by decide +kernel
theorem dX10_take_17 : decode cX10_take 17 = .ok (.invokestatic 68, 3) := by decide +kernel
theorem dX10_take_20 : decode cX10_take 20 = .ok (.aload_n 1, 1) := by decide +kernel
theorem dX10_take_21 : decode cX10_take 21 = .ok (.getfield 33, 3) := by decide +kernel
theorem dX10_take_24 : decode cX10_take 24 = .ok (.iconst 0, 1) := by decide +kernel
theorem dX10_take_25 : decode cX10_take 25 = .ok (.aload_n 0, 1) := by decide +kernel
theorem dX10_take_26 : decode cX10_take 26 = .ok (.getfield 33, 3) := by decide +kernel
theorem dX10_take_29 : decode cX10_take 29 = .ok (.iconst 0, 1) := by decide +kernel
theorem dX10_take_30 : decode cX10_take 30 = .ok (.bipush 8, 2) := by decide +kernel
theorem dX10_take_32 : decode cX10_take 32 = .ok (.invokestatic 68, 3) := by decide +kernel
theorem dX10_take_35 : decode cX10_take 35 = .ok (.aload_n 0, 1) := by decide +kernel
theorem dX10_take_36 : decode cX10_take 36 = .ok (.getfield 39, 3) := by decide +kernel
theorem dX10_take_39 : decode cX10_take 39 = .ok (.aload_n 1, 1) := by decide +kernel
theorem dX10_take_40 : decode cX10_take 40 = .ok (.getfield 39, 3) := by decide +kernel
theorem dX10_take_43 : decode cX10_take 43 = .ok (.invokevirtual 78, 3) := by decide +kernel
theorem dX10_take_46 : decode cX10_take 46 = .ok (.aload_n 0, 1) := by decide +kernel
theorem dX10_take_47 : decode cX10_take 47 = .ok (.getfield 43, 3) := by decide +kernel
theorem dX10_take_50 : decode cX10_take 50 = .ok (.aload_n 1, 1) := by decide +kernel
theorem dX10_take_51 : decode cX10_take 51 = .ok (.getfield 43, 3) := by decide +kernel
theorem dX10_take_54 : decode cX10_take 54 = .ok (.invokevirtual 78, 3) := by decide +kernel
theorem dX10_take_57 : decode cX10_take 57 = .ok (.return_, 1) := by decide +kernel
theorem dX10_pass_0 : decode cX10_pass 0 = .ok (.aload_n 0, 1) := by decide +kernel
theorem dX10_pass_1 : decode cX10_pass 1 = .ok (.getfield 59, 3) := by decide +kernel
theorem dX10_pass_4 : decode cX10_pass 4 = .ok (.ifCond .lt 12, 3) := by decide +kernel
theorem dX10_pass_7 : decode cX10_pass 7 = .ok (.aload_n 0, 1) := by decide +kernel
theorem dX10_pass_8 : decode cX10_pass 8 = .ok (.getfield 59, 3) := by decide +kernel
theorem dX10_pass_11 : decode cX10_pass 11 = .ok (.bipush 8, 2) := by decide +kernel
theorem dX10_pass_13 : decode cX10_pass 13 = .ok (.if_icmp .lt 4, 3) := by decide +kernel
theorem dX10_pass_16 : decode cX10_pass 16 = .ok (.return_, 1) := by decide +kernel
theorem dX10_pass_17 : decode cX10_pass 17 = .ok (.iload_n 1, 1) := by decide +kernel
theorem dX10_pass_18 : decode cX10_pass 18 = .ok (.iconst 0, 1) := by decide +kernel
theorem dX10_pass_19 : decode cX10_pass 19 = .ok (.aload_n 0, 1) := by decide +kernel
theorem dX10_pass_20 : decode cX10_pass 20 = .ok (.getfield 55, 3) := by decide +kernel
theorem dX10_pass_23 : decode cX10_pass 23 = .ok (.iconst 1, 1) := by decide +kernel
theorem dX10_pass_24 : decode cX10_pass 24 = .ok (.isub, 1) := by decide +kernel
theorem dX10_pass_25 : decode cX10_pass 25 = .ok (.invokestatic 82, 3) := by decide +kernel
theorem dX10_pass_28 : decode cX10_pass 28 = .ok (.ifCond .eq 18, 3) := by decide +kernel
theorem dX10_pass_31 : decode cX10_pass 31 = .ok (.aload_n 0, 1) := by decide +kernel
theorem dX10_pass_32 : decode cX10_pass 32 = .ok (.getfield 24, 3) := by decide +kernel
theorem dX10_pass_35 : decode cX10_pass 35 = .ok (.iload_n 1, 1) := by decide +kernel
theorem dX10_pass_36 : decode cX10_pass 36 = .ok (.dup2, 1) := by decide +kernel
theorem dX10_pass_37 : decode cX10_pass 37 = .ok (.iaload, 1) := by decide +kernel
theorem dX10_pass_38 : decode cX10_pass 38 = .ok (.iconst 1, 1) := by decide +kernel
theorem dX10_pass_39 : decode cX10_pass 39 = .ok (.aload_n 0, 1) := by decide +kernel
theorem dX10_pass_40 : decode cX10_pass 40 = .ok (.getfield 59, 3) := by decide +kernel
theorem dX10_pass_43 : decode cX10_pass 43 = .ok (.ishl, 1) := by decide +kernel
theorem dX10_pass_44 : decode cX10_pass 44 = .ok (.ior, 1) := by decide +kernel
theorem dX10_pass_45 : decode cX10_pass 45 = .ok (.iastore, 1) := by decide +kernel
theorem dX10_pass_46 : decode cX10_pass 46 = .ok (.iload_n 2, 1) := by decide +kernel
theorem dX10_pass_47 : decode cX10_pass 47 = .ok (.iconst 0, 1) := by decide +kernel
theorem dX10_pass_48 : decode cX10_pass 48 = .ok (.aload_n 0, 1) := by decide +kernel
theorem dX10_pass_49 : decode cX10_pass 49 = .ok (.getfield 55, 3) := by decide +kernel
theorem dX10_pass_52 : decode cX10_pass 52 = .ok (.iconst 1, 1) := by decide +kernel
theorem dX10_pass_53 : decode cX10_pass 53 = .ok (.isub, 1) := by decide +kernel
theorem dX10_pass_54 : decode cX10_pass 54 = .ok (.invokestatic 82, 3) := by decide +kernel
theorem dX10_pass_57 : decode cX10_pass 57 = .ok (.ifCond .eq 13, 3) := by decide +kernel
theorem dX10_pass_60 : decode cX10_pass 60 = .ok (.aload_n 0, 1) := by decide +kernel
theorem dX10_pass_61 : decode cX10_pass 61 = .ok (.getfield 27, 3) := by decide +kernel
theorem dX10_pass_64 : decode cX10_pass 64 = .ok (.iload_n 2, 1) := by decide +kernel
theorem dX10_pass_65 : decode cX10_pass 65 = .ok (.dup2, 1) := by decide +kernel
theorem dX10_pass_66 : decode cX10_pass 66 = .ok (.iaload, 1) := by decide +kernel
theorem dX10_pass_67 : decode cX10_pass 67 = .ok (.iconst 1, 1) := by decide +kernel
theorem dX10_pass_68 : decode cX10_pass 68 = .ok (.iadd, 1) := by decide +kernel
theorem dX10_pass_69 : decode cX10_pass 69 = .ok (.iastore, 1) := by decide +kernel
theorem dX10_pass_70 : decode cX10_pass 70 = .ok (.aload_n 0, 1) := by decide +kernel
theorem dX10_pass_71 : decode cX10_pass 71 = .ok (.getfield 30, 3) := by decide +kernel
theorem dX10_pass_74 : decode cX10_pass 74 = .ok (.aload_n 0, 1) := by decide +kernel
theorem dX10_pass_75 : decode cX10_pass 75 = .ok (.getfield 59, 3) := by decide +kernel
theorem dX10_pass_78 : decode cX10_pass 78 = .ok (.iload_n 1, 1) := by decide +kernel
theorem dX10_pass_79 : decode cX10_pass 79 = .ok (.iastore, 1) := by decide +kernel
theorem dX10_pass_80 : decode cX10_pass 80 = .ok (.aload_n 0, 1) := by decide +kernel
theorem dX10_pass_81 : decode cX10_pass 81 = .ok (.getfield 33, 3) := by decide +kernel
theorem dX10_pass_84 : decode cX10_pass 84 = .ok (.aload_n 0, 1) := by decide +kernel
theorem dX10_pass_85 : decode cX10_pass 85 = .ok (.getfield 59, 3) := by decide +kernel
theorem dX10_pass_88 : decode cX10_pass 88 = .ok (.iload_n 2, 1) := by decide +kernel
theorem dX10_pass_89 : decode cX10_pass 89 = .ok (.iastore, 1) := by decide +kernel
theorem dX10_pass_90 : decode cX10_pass 90 = .ok (.aload_n 0, 1) := by decide +kernel
theorem dX10_pass_91 : decode cX10_pass 91 = .ok (.dup, 1) := by decide +kernel
theorem dX10_pass_92 : decode cX10_pass 92 = .ok (.getfield 59, 3) := by decide +kernel
theorem dX10_pass_95 : decode cX10_pass 95 = .ok (.iconst 1, 1) := by decide +kernel
theorem dX10_pass_96 : decode cX10_pass 96 = .ok (.iadd, 1) := by decide +kernel
theorem dX10_pass_97 : decode cX10_pass 97 = .ok (.putfield 59, 3) := by decide +kernel
theorem dX10_pass_100 : decode cX10_pass 100 = .ok (.aload_n 0, 1) := by decide +kernel
theorem dX10_pass_101 : decode cX10_pass 101 = .ok (.dup, 1) := by decide +kernel
theorem dX10_pass_102 : decode cX10_pass 102 = .ok (.getfield 62, 3) := by decide +kernel
theorem dX10_pass_105 : decode cX10_pass 105 = .ok (.iconst 1, 1) := by decide +kernel
theorem dX10_pass_106 : decode cX10_pass 106 = .ok (.iadd, 1) := by decide +kernel
theorem dX10_pass_107 : decode cX10_pass 107 = .ok (.putfield 62, 3) := by decide +kernel
theorem dX10_pass_110 : decode cX10_pass 110 = .ok (.return_, 1) := by decide +kernel
theorem dX10_takeBack_0 : decode cX10_takeBack 0 = .ok (.aload_n 0, 1) := by decide +kernel
theorem dX10_takeBack_1 : decode cX10_takeBack 1 = .ok (.getfield 59, 3) := by decide +kernel
theorem dX10_takeBack_4 : decode cX10_takeBack 4 = .ok (.ifCond .le 19, 3) := by decide +kernel
theorem dX10_takeBack_7 : decode cX10_takeBack 7 = .ok (.aload_n 0, 1) := by decide +kernel
theorem dX10_takeBack_8 : decode cX10_takeBack 8 = .ok (.getfield 59, 3) := by decide +kernel
theorem dX10_takeBack_11 : decode cX10_takeBack 11 = .ok (.bipush 8, 2) := by decide +kernel
theorem dX10_takeBack_13 : decode cX10_takeBack 13 = .ok (.if_icmp .gt 10, 3) := by decide +kernel
theorem dX10_takeBack_16 : decode cX10_takeBack 16 = .ok (.aload_n 0, 1) := by decide +kernel
theorem dX10_takeBack_17 : decode cX10_takeBack 17 = .ok (.getfield 62, 3) := by decide +kernel
theorem dX10_takeBack_20 : decode cX10_takeBack 20 = .ok (.ifCond .gt 4, 3) := by decide +kernel
theorem dX10_takeBack_23 : decode cX10_takeBack 23 = .ok (.return_, 1) := by decide +kernel
theorem dX10_takeBack_24 : decode cX10_takeBack 24 = .ok (.aload_n 0, 1) := by decide +kernel
theorem dX10_takeBack_25 : decode cX10_takeBack 25 = .ok (.dup, 1) := by decide +kernel
theorem dX10_takeBack_26 : decode cX10_takeBack 26 = .ok (.getfield 59, 3) := by decide +kernel
theorem dX10_takeBack_29 : decode cX10_takeBack 29 = .ok (.iconst 1, 1) := by decide +kernel
theorem dX10_takeBack_30 : decode cX10_takeBack 30 = .ok (.isub, 1) := by decide +kernel
theorem dX10_takeBack_31 : decode cX10_takeBack 31 = .ok (.putfield 59, 3) := by decide +kernel
theorem dX10_takeBack_34 : decode cX10_takeBack 34 = .ok (.aload_n 0, 1) := by decide +kernel
theorem dX10_takeBack_35 : decode cX10_takeBack 35 = .ok (.dup, 1) := by decide +kernel
theorem dX10_takeBack_36 : decode cX10_takeBack 36 = .ok (.getfield 62, 3) := by decide +kernel
theorem dX10_takeBack_39 : decode cX10_takeBack 39 = .ok (.iconst 1, 1) := by decide +kernel
theorem dX10_takeBack_40 : decode cX10_takeBack 40 = .ok (.isub, 1) := by decide +kernel
theorem dX10_takeBack_41 : decode cX10_takeBack 41 = .ok (.putfield 62, 3) := by decide +kernel
theorem dX10_takeBack_44 : decode cX10_takeBack 44 = .ok (.aload_n 0, 1) := by decide +kernel
theorem dX10_takeBack_45 : decode cX10_takeBack 45 = .ok (.getfield 30, 3) := by decide +kernel
theorem dX10_takeBack_48 : decode cX10_takeBack 48 = .ok (.aload_n 0, 1) := by decide +kernel
theorem dX10_takeBack_49 : decode cX10_takeBack 49 = .ok (.getfield 59, 3) := by decide +kernel
theorem dX10_takeBack_52 : decode cX10_takeBack 52 = .ok (.iaload, 1) := by decide +kernel
theorem dX10_takeBack_53 : decode cX10_takeBack 53 = .ok (.istore_n 1, 1) := by decide +kernel
theorem dX10_takeBack_54 : decode cX10_takeBack 54 = .ok (.aload_n 0, 1) := by decide +kernel
theorem dX10_takeBack_55 : decode cX10_takeBack 55 = .ok (.getfield 33, 3) := by decide +kernel
theorem dX10_takeBack_58 : decode cX10_takeBack 58 = .ok (.aload_n 0, 1) := by decide +kernel
theorem dX10_takeBack_59 : decode cX10_takeBack 59 = .ok (.getfield 59, 3) := by decide +kernel
theorem dX10_takeBack_62 : decode cX10_takeBack 62 = .ok (.iaload, 1) := by decide +kernel
theorem dX10_takeBack_63 : decode cX10_takeBack 63 = .ok (.istore_n 2, 1) := by decide +kernel
theorem dX10_takeBack_64 : decode cX10_takeBack 64 = .ok (.iload_n 1, 1) := by decide +kernel
theorem dX10_takeBack_65 : decode cX10_takeBack 65 = .ok (.iconst 0, 1) := by decide +kernel
theorem dX10_takeBack_66 : decode cX10_takeBack 66 = .ok (.aload_n 0, 1) := by decide +kernel
theorem dX10_takeBack_67 : decode cX10_takeBack 67 = .ok (.getfield 55, 3) := by decide +kernel
theorem dX10_takeBack_70 : decode cX10_takeBack 70 = .ok (.iconst 1, 1) := by decide +kernel
theorem dX10_takeBack_71 : decode cX10_takeBack 71 = .ok (.isub, 1) := by decide +kernel
theorem dX10_takeBack_72 : decode cX10_takeBack 72 = .ok (.invokestatic 82, 3) := by decide +kernel
theorem dX10_takeBack_75 : decode cX10_takeBack 75 = .ok (.ifCond .eq 20, 3) := by decide +kernel
theorem dX10_takeBack_78 : decode cX10_takeBack 78 = .ok (.aload_n 0, 1) := by decide +kernel
theorem dX10_takeBack_79 : decode cX10_takeBack 79 = .ok (.getfield 24, 3) := by decide +kernel
theorem dX10_takeBack_82 : decode cX10_takeBack 82 = .ok (.iload_n 1, 1) := by decide +kernel
theorem dX10_takeBack_83 : decode cX10_takeBack 83 = .ok (.dup2, 1) := by decide +kernel
theorem dX10_takeBack_84 : decode cX10_takeBack 84 = .ok (.iaload, 1) := by decide +kernel
theorem dX10_takeBack_85 : decode cX10_takeBack 85 = .ok (.iconst 1, 1) := by decide +kernel
theorem dX10_takeBack_86 : decode cX10_takeBack 86 = .ok (.aload_n 0, 1) := by decide +kernel
theorem dX10_takeBack_87 : decode cX10_takeBack 87 = .ok (.getfield 59, 3) := by decide +kernel
theorem dX10_takeBack_90 : decode cX10_takeBack 90 = .ok (.ishl, 1) := by decide +kernel
theorem dX10_takeBack_91 : decode cX10_takeBack 91 = .ok (.iconst (-1), 1) := by decide +kernel
theorem dX10_takeBack_92 : decode cX10_takeBack 92 = .ok (.ixor, 1) := by decide +kernel
theorem dX10_takeBack_93 : decode cX10_takeBack 93 = .ok (.iand, 1) := by decide +kernel
theorem dX10_takeBack_94 : decode cX10_takeBack 94 = .ok (.iastore, 1) := by decide +kernel
theorem dX10_takeBack_95 : decode cX10_takeBack 95 = .ok (.iload_n 2, 1) := by decide +kernel
theorem dX10_takeBack_96 : decode cX10_takeBack 96 = .ok (.iconst 0, 1) := by decide +kernel
theorem dX10_takeBack_97 : decode cX10_takeBack 97 = .ok (.aload_n 0, 1) := by decide +kernel
theorem dX10_takeBack_98 : decode cX10_takeBack 98 = .ok (.getfield 55, 3) := by decide +kernel
theorem dX10_takeBack_101 : decode cX10_takeBack 101 = .ok (.iconst 1, 1) := by decide +kernel
theorem dX10_takeBack_102 : decode cX10_takeBack 102 = .ok (.isub, 1) := by decide +kernel
theorem dX10_takeBack_103 : decode cX10_takeBack 103 = .ok (.invokestatic 82, 3) := by decide +kernel
theorem dX10_takeBack_106 : decode cX10_takeBack 106 = .ok (.ifCond .eq 13, 3) := by decide +kernel
theorem dX10_takeBack_109 : decode cX10_takeBack 109 = .ok (.aload_n 0, 1) := by decide +kernel
theorem dX10_takeBack_110 : decode cX10_takeBack 110 = .ok (.getfield 27, 3) := by decide +kernel
theorem dX10_takeBack_113 : decode cX10_takeBack 113 = .ok (.iload_n 2, 1) := by decide +kernel
theorem dX10_takeBack_114 : decode cX10_takeBack 114 = .ok (.dup2, 1) := by decide +kernel
theorem dX10_takeBack_115 : decode cX10_takeBack 115 = .ok (.iaload, 1) := by decide +kernel
theorem dX10_takeBack_116 : decode cX10_takeBack 116 = .ok (.iconst 1, 1) := by decide +kernel
theorem dX10_takeBack_117 : decode cX10_takeBack 117 = .ok (.isub, 1) := by decide +kernel
theorem dX10_takeBack_118 : decode cX10_takeBack 118 = .ok (.iastore, 1) := by decide +kernel
theorem dX10_takeBack_119 : decode cX10_takeBack 119 = .ok (.return_, 1) := by decide +kernel
theorem dX10_swapPrizes_0 : decode cX10_swapPrizes 0 = .ok (.aload_n 0, 1) := by decide +kernel
theorem dX10_swapPrizes_1 : decode cX10_swapPrizes 1 = .ok (.getfield 9, 3) := by decide +kernel
theorem dX10_swapPrizes_4 : decode cX10_swapPrizes 4 = .ok (.iload_n 1, 1) := by decide +kernel
theorem dX10_swapPrizes_5 : decode cX10_swapPrizes 5 = .ok (.iaload, 1) := by decide +kernel
theorem dX10_swapPrizes_6 : decode cX10_swapPrizes 6 = .ok (.istore_n 3, 1) := by decide +kernel
theorem dX10_swapPrizes_7 : decode cX10_swapPrizes 7 = .ok (.aload_n 0, 1) := by decide +kernel
theorem dX10_swapPrizes_8 : decode cX10_swapPrizes 8 = .ok (.getfield 15, 3) := by decide +kernel
theorem dX10_swapPrizes_11 : decode cX10_swapPrizes 11 = .ok (.iload_n 1, 1) := by decide +kernel
theorem dX10_swapPrizes_12 : decode cX10_swapPrizes 12 = .ok (.iaload, 1) := by decide +kernel
theorem dX10_swapPrizes_13 : decode cX10_swapPrizes 13 = .ok (.istore 4, 2) := by decide +kernel
theorem dX10_swapPrizes_15 : decode cX10_swapPrizes 15 = .ok (.aload_n 0, 1) := by decide +kernel
theorem dX10_swapPrizes_16 : decode cX10_swapPrizes 16 = .ok (.iload_n 1, 1) := by decide +kernel
theorem dX10_swapPrizes_17 : decode cX10_swapPrizes 17 = .ok (.aload_n 0, 1) := by decide +kernel
theorem dX10_swapPrizes_18 : decode cX10_swapPrizes 18 = .ok (.getfield 9, 3) := by decide +kernel
theorem dX10_swapPrizes_21 : decode cX10_swapPrizes 21 = .ok (.iload_n 2, 1) := by decide +kernel
theorem dX10_swapPrizes_22 : decode cX10_swapPrizes 22 = .ok (.iaload, 1) := by decide +kernel
theorem dX10_swapPrizes_23 : decode cX10_swapPrizes 23 = .ok (.aload_n 0, 1) := by decide +kernel
theorem dX10_swapPrizes_24 : decode cX10_swapPrizes 24 = .ok (.getfield 15, 3) := by decide +kernel
theorem dX10_swapPrizes_27 : decode cX10_swapPrizes 27 = .ok (.iload_n 2, 1) := by decide +kernel
theorem dX10_swapPrizes_28 : decode cX10_swapPrizes 28 = .ok (.iaload, 1) := by decide +kernel
theorem dX10_swapPrizes_29 : decode cX10_swapPrizes 29 = .ok (.invokevirtual 86, 3) := by decide +kernel
theorem dX10_swapPrizes_32 : decode cX10_swapPrizes 32 = .ok (.aload_n 0, 1) := by decide +kernel
theorem dX10_swapPrizes_33 : decode cX10_swapPrizes 33 = .ok (.iload_n 2, 1) := by decide +kernel
theorem dX10_swapPrizes_34 : decode cX10_swapPrizes 34 = .ok (.iload_n 3, 1) := by decide +kernel
theorem dX10_swapPrizes_35 : decode cX10_swapPrizes 35 = .ok (.iload 4, 2) := by decide +kernel
theorem dX10_swapPrizes_37 : decode cX10_swapPrizes 37 = .ok (.invokevirtual 86, 3) := by decide +kernel
theorem dX10_swapPrizes_40 : decode cX10_swapPrizes 40 = .ok (.return_, 1) := by decide +kernel
theorem dX10_worthWonBy_0 : decode cX10_worthWonBy 0 = .ok (.iconst 0, 1) := by decide +kernel
theorem dX10_worthWonBy_1 : decode cX10_worthWonBy 1 = .ok (.istore_n 2, 1) := by decide +kernel
theorem dX10_worthWonBy_2 : decode cX10_worthWonBy 2 = .ok (.iconst 0, 1) := by decide +kernel
theorem dX10_worthWonBy_3 : decode cX10_worthWonBy 3 = .ok (.istore_n 3, 1) := by decide +kernel
theorem dX10_worthWonBy_4 : decode cX10_worthWonBy 4 = .ok (.iload_n 3, 1) := by decide +kernel
theorem dX10_worthWonBy_5 : decode cX10_worthWonBy 5 = .ok (.bipush 8, 2) := by decide +kernel
theorem dX10_worthWonBy_7 : decode cX10_worthWonBy 7 = .ok (.if_icmp .ge 18, 3) := by decide +kernel
theorem dX10_worthWonBy_10 : decode cX10_worthWonBy 10 = .ok (.iload_n 2, 1) := by decide +kernel
theorem dX10_worthWonBy_11 : decode cX10_worthWonBy 11 = .ok (.aload_n 0, 1) := by decide +kernel
theorem dX10_worthWonBy_12 : decode cX10_worthWonBy 12 = .ok (.iload_n 1, 1) := by decide +kernel
theorem dX10_worthWonBy_13 : decode cX10_worthWonBy 13 = .ok (.iload_n 3, 1) := by decide +kernel
theorem dX10_worthWonBy_14 : decode cX10_worthWonBy 14 = .ok (.invokevirtual 90, 3) := by decide +kernel
theorem dX10_worthWonBy_17 : decode cX10_worthWonBy 17 = .ok (.iadd, 1) := by decide +kernel
theorem dX10_worthWonBy_18 : decode cX10_worthWonBy 18 = .ok (.istore_n 2, 1) := by decide +kernel
theorem dX10_worthWonBy_19 : decode cX10_worthWonBy 19 = .ok (.iinc 3 1, 3) := by decide +kernel
theorem dX10_worthWonBy_22 : decode cX10_worthWonBy 22 = .ok (.goto (-18), 3) := by decide +kernel
theorem dX10_worthWonBy_25 : decode cX10_worthWonBy 25 = .ok (.iload_n 2, 1) := by decide +kernel
theorem dX10_worthWonBy_26 : decode cX10_worthWonBy 26 = .ok (.ireturn, 1) := by decide +kernel
theorem dX10_worthWonIn_0 : decode cX10_worthWonIn 0 = .ok (.aload_n 0, 1) := by decide +kernel
theorem dX10_worthWonIn_1 : decode cX10_worthWonIn 1 = .ok (.getfield 24, 3) := by decide +kernel
theorem dX10_worthWonIn_4 : decode cX10_worthWonIn 4 = .ok (.iload_n 1, 1) := by decide +kernel
theorem dX10_worthWonIn_5 : decode cX10_worthWonIn 5 = .ok (.iaload, 1) := by decide +kernel
theorem dX10_worthWonIn_6 : decode cX10_worthWonIn 6 = .ok (.iload_n 2, 1) := by decide +kernel
theorem dX10_worthWonIn_7 : decode cX10_worthWonIn 7 = .ok (.ishr, 1) := by decide +kernel
theorem dX10_worthWonIn_8 : decode cX10_worthWonIn 8 = .ok (.iconst 1, 1) := by decide +kernel
theorem dX10_worthWonIn_9 : decode cX10_worthWonIn 9 = .ok (.iand, 1) := by decide +kernel
theorem dX10_worthWonIn_10 : decode cX10_worthWonIn 10 = .ok (.aload_n 0, 1) := by decide +kernel
theorem dX10_worthWonIn_11 : decode cX10_worthWonIn 11 = .ok (.getfield 15, 3) := by decide +kernel
theorem dX10_worthWonIn_14 : decode cX10_worthWonIn 14 = .ok (.iload_n 2, 1) := by decide +kernel
theorem dX10_worthWonIn_15 : decode cX10_worthWonIn 15 = .ok (.iaload, 1) := by decide +kernel
theorem dX10_worthWonIn_16 : decode cX10_worthWonIn 16 = .ok (.imul, 1) := by decide +kernel
theorem dX10_worthWonIn_17 : decode cX10_worthWonIn 17 = .ok (.ireturn, 1) := by decide +kernel
theorem dX10_prizesTold_0 : decode cX10_prizesTold 0 = .ok (.iconst 0, 1) := by decide +kernel
theorem dX10_prizesTold_1 : decode cX10_prizesTold 1 = .ok (.istore_n 1, 1) := by decide +kernel
theorem dX10_prizesTold_2 : decode cX10_prizesTold 2 = .ok (.iconst 0, 1) := by decide +kernel
theorem dX10_prizesTold_3 : decode cX10_prizesTold 3 = .ok (.istore_n 2, 1) := by decide +kernel
theorem dX10_prizesTold_4 : decode cX10_prizesTold 4 = .ok (.iload_n 2, 1) := by decide +kernel
theorem dX10_prizesTold_5 : decode cX10_prizesTold 5 = .ok (.bipush 8, 2) := by decide +kernel
theorem dX10_prizesTold_7 : decode cX10_prizesTold 7 = .ok (.if_icmp .ge 22, 3) := by decide +kernel
theorem dX10_prizesTold_10 : decode cX10_prizesTold 10 = .ok (.aload_n 0, 1) := by decide +kernel
theorem dX10_prizesTold_11 : decode cX10_prizesTold 11 = .ok (.getfield 9, 3) := by decide +kernel
theorem dX10_prizesTold_14 : decode cX10_prizesTold 14 = .ok (.iload_n 2, 1) := by decide +kernel
theorem dX10_prizesTold_15 : decode cX10_prizesTold 15 = .ok (.iaload, 1) := by decide +kernel
theorem dX10_prizesTold_16 : decode cX10_prizesTold 16 = .ok (.iconst (-1), 1) := by decide +kernel
theorem dX10_prizesTold_17 : decode cX10_prizesTold 17 = .ok (.if_icmp .eq 6, 3) := by decide +kernel
theorem dX10_prizesTold_20 : decode cX10_prizesTold 20 = .ok (.iinc 1 1, 3) := by decide +kernel
theorem dX10_prizesTold_23 : decode cX10_prizesTold 23 = .ok (.iinc 2 1, 3) := by decide +kernel
theorem dX10_prizesTold_26 : decode cX10_prizesTold 26 = .ok (.goto (-22), 3) := by decide +kernel
theorem dX10_prizesTold_29 : decode cX10_prizesTold 29 = .ok (.iload_n 1, 1) := by decide +kernel
theorem dX10_prizesTold_30 : decode cX10_prizesTold 30 = .ok (.ireturn, 1) := by decide +kernel
theorem dX10_winsOfAll_0 : decode cX10_winsOfAll 0 = .ok (.iconst 0, 1) := by decide +kernel
theorem dX10_winsOfAll_1 : decode cX10_winsOfAll 1 = .ok (.istore_n 1, 1) := by decide +kernel
theorem dX10_winsOfAll_2 : decode cX10_winsOfAll 2 = .ok (.iconst 0, 1) := by decide +kernel
theorem dX10_winsOfAll_3 : decode cX10_winsOfAll 3 = .ok (.istore_n 2, 1) := by decide +kernel
theorem dX10_winsOfAll_4 : decode cX10_winsOfAll 4 = .ok (.iload_n 2, 1) := by decide +kernel
theorem dX10_winsOfAll_5 : decode cX10_winsOfAll 5 = .ok (.aload_n 0, 1) := by decide +kernel
theorem dX10_winsOfAll_6 : decode cX10_winsOfAll 6 = .ok (.getfield 55, 3) := by decide +kernel
theorem dX10_winsOfAll_9 : decode cX10_winsOfAll 9 = .ok (.if_icmp .ge 21, 3) := by decide +kernel
theorem dX10_winsOfAll_12 : decode cX10_winsOfAll 12 = .ok (.iload_n 1, 1) := by decide +kernel
theorem dX10_winsOfAll_13 : decode cX10_winsOfAll 13 = .ok (.aload_n 0, 1) := by decide +kernel
theorem dX10_winsOfAll_14 : decode cX10_winsOfAll 14 = .ok (.getfield 24, 3) := by decide +kernel
theorem dX10_winsOfAll_17 : decode cX10_winsOfAll 17 = .ok (.iload_n 2, 1) := by decide +kernel
theorem dX10_winsOfAll_18 : decode cX10_winsOfAll 18 = .ok (.iaload, 1) := by decide +kernel
theorem dX10_winsOfAll_19 : decode cX10_winsOfAll 19 = .ok (.invokestatic 94, 3) := by decide +kernel
theorem dX10_winsOfAll_22 : decode cX10_winsOfAll 22 = .ok (.iadd, 1) := by decide +kernel
theorem dX10_winsOfAll_23 : decode cX10_winsOfAll 23 = .ok (.istore_n 1, 1) := by decide +kernel
theorem dX10_winsOfAll_24 : decode cX10_winsOfAll 24 = .ok (.iinc 2 1, 3) := by decide +kernel
theorem dX10_winsOfAll_27 : decode cX10_winsOfAll 27 = .ok (.goto (-23), 3) := by decide +kernel
theorem dX10_winsOfAll_30 : decode cX10_winsOfAll 30 = .ok (.iload_n 1, 1) := by decide +kernel
theorem dX10_winsOfAll_31 : decode cX10_winsOfAll 31 = .ok (.ireturn, 1) := by decide +kernel
theorem dX10_mixedInto_0 : decode cX10_mixedInto 0 = .ok (.iconst 0, 1) := by decide +kernel
theorem dX10_mixedInto_1 : decode cX10_mixedInto 1 = .ok (.istore_n 3, 1) := by decide +kernel
theorem dX10_mixedInto_2 : decode cX10_mixedInto 2 = .ok (.iload_n 3, 1) := by decide +kernel
theorem dX10_mixedInto_3 : decode cX10_mixedInto 3 = .ok (.bipush 8, 2) := by decide +kernel
theorem dX10_mixedInto_5 : decode cX10_mixedInto 5 = .ok (.if_icmp .ge 37, 3) := by decide +kernel
theorem dX10_mixedInto_8 : decode cX10_mixedInto 8 = .ok (.ldc2_w 100, 3) := by decide +kernel
theorem dX10_mixedInto_11 : decode cX10_mixedInto 11 = .ok (.lload_n 1, 1) := by decide +kernel
theorem dX10_mixedInto_12 : decode cX10_mixedInto 12 = .ok (.lmul, 1) := by decide +kernel
theorem dX10_mixedInto_13 : decode cX10_mixedInto 13 = .ok (.aload_n 0, 1) := by decide +kernel
theorem dX10_mixedInto_14 : decode cX10_mixedInto 14 = .ok (.getfield 9, 3) := by decide +kernel
theorem dX10_mixedInto_17 : decode cX10_mixedInto 17 = .ok (.iload_n 3, 1) := by decide +kernel
theorem dX10_mixedInto_18 : decode cX10_mixedInto 18 = .ok (.iaload, 1) := by decide +kernel
theorem dX10_mixedInto_19 : decode cX10_mixedInto 19 = .ok (.i2l, 1) := by decide +kernel
theorem dX10_mixedInto_20 : decode cX10_mixedInto 20 = .ok (.ladd, 1) := by decide +kernel
theorem dX10_mixedInto_21 : decode cX10_mixedInto 21 = .ok (.lstore_n 1, 1) := by decide +kernel
theorem dX10_mixedInto_22 : decode cX10_mixedInto 22 = .ok (.ldc2_w 100, 3) := by decide +kernel
theorem dX10_mixedInto_25 : decode cX10_mixedInto 25 = .ok (.lload_n 1, 1) := by decide +kernel
theorem dX10_mixedInto_26 : decode cX10_mixedInto 26 = .ok (.lmul, 1) := by decide +kernel
theorem dX10_mixedInto_27 : decode cX10_mixedInto 27 = .ok (.aload_n 0, 1) := by decide +kernel
theorem dX10_mixedInto_28 : decode cX10_mixedInto 28 = .ok (.getfield 15, 3) := by decide +kernel
theorem dX10_mixedInto_31 : decode cX10_mixedInto 31 = .ok (.iload_n 3, 1) := by decide +kernel
theorem dX10_mixedInto_32 : decode cX10_mixedInto 32 = .ok (.iaload, 1) := by decide +kernel
theorem dX10_mixedInto_33 : decode cX10_mixedInto 33 = .ok (.i2l, 1) := by decide +kernel
theorem dX10_mixedInto_34 : decode cX10_mixedInto 34 = .ok (.ladd, 1) := by decide +kernel
theorem dX10_mixedInto_35 : decode cX10_mixedInto 35 = .ok (.lstore_n 1, 1) := by decide +kernel
theorem dX10_mixedInto_36 : decode cX10_mixedInto 36 = .ok (.iinc 3 1, 3) := by decide +kernel
theorem dX10_mixedInto_39 : decode cX10_mixedInto 39 = .ok (.goto (-37), 3) := by decide +kernel
theorem dX10_mixedInto_42 : decode cX10_mixedInto 42 = .ok (.iconst 0, 1) := by decide +kernel
theorem dX10_mixedInto_43 : decode cX10_mixedInto 43 = .ok (.istore_n 3, 1) := by decide +kernel
theorem dX10_mixedInto_44 : decode cX10_mixedInto 44 = .ok (.iload_n 3, 1) := by decide +kernel
theorem dX10_mixedInto_45 : decode cX10_mixedInto 45 = .ok (.aload_n 0, 1) := by decide +kernel
theorem dX10_mixedInto_46 : decode cX10_mixedInto 46 = .ok (.getfield 55, 3) := by decide +kernel
theorem dX10_mixedInto_49 : decode cX10_mixedInto 49 = .ok (.if_icmp .ge 85, 3) := by decide +kernel
theorem dX10_mixedInto_52 : decode cX10_mixedInto 52 = .ok (.ldc2_w 100, 3) := by decide +kernel
theorem dX10_mixedInto_55 : decode cX10_mixedInto 55 = .ok (.lload_n 1, 1) := by decide +kernel
theorem dX10_mixedInto_56 : decode cX10_mixedInto 56 = .ok (.lmul, 1) := by decide +kernel
theorem dX10_mixedInto_57 : decode cX10_mixedInto 57 = .ok (.aload_n 0, 1) := by decide +kernel
theorem dX10_mixedInto_58 : decode cX10_mixedInto 58 = .ok (.getfield 18, 3) := by decide +kernel
theorem dX10_mixedInto_61 : decode cX10_mixedInto 61 = .ok (.iload_n 3, 1) := by decide +kernel
theorem dX10_mixedInto_62 : decode cX10_mixedInto 62 = .ok (.iaload, 1) := by decide +kernel
theorem dX10_mixedInto_63 : decode cX10_mixedInto 63 = .ok (.i2l, 1) := by decide +kernel
theorem dX10_mixedInto_64 : decode cX10_mixedInto 64 = .ok (.ladd, 1) := by decide +kernel
theorem dX10_mixedInto_65 : decode cX10_mixedInto 65 = .ok (.lstore_n 1, 1) := by decide +kernel
theorem dX10_mixedInto_66 : decode cX10_mixedInto 66 = .ok (.iconst 0, 1) := by decide +kernel
theorem dX10_mixedInto_67 : decode cX10_mixedInto 67 = .ok (.istore 4, 2) := by decide +kernel
theorem dX10_mixedInto_69 : decode cX10_mixedInto 69 = .ok (.iload 4, 2) := by decide +kernel
theorem dX10_mixedInto_71 : decode cX10_mixedInto 71 = .ok (.iconst 3, 1) := by decide +kernel
theorem dX10_mixedInto_72 : decode cX10_mixedInto 72 = .ok (.if_icmp .ge 28, 3) := by decide +kernel
theorem dX10_mixedInto_75 : decode cX10_mixedInto 75 = .ok (.ldc2_w 100, 3) := by decide +kernel
theorem dX10_mixedInto_78 : decode cX10_mixedInto 78 = .ok (.lload_n 1, 1) := by decide +kernel
theorem dX10_mixedInto_79 : decode cX10_mixedInto 79 = .ok (.lmul, 1) := by decide +kernel
theorem dX10_mixedInto_80 : decode cX10_mixedInto 80 = .ok (.aload_n 0, 1) := by decide +kernel
theorem dX10_mixedInto_81 : decode cX10_mixedInto 81 = .ok (.getfield 21, 3) := by decide +kernel
theorem dX10_mixedInto_84 : decode cX10_mixedInto 84 = .ok (.iload_n 3, 1) := by decide +kernel
theorem dX10_mixedInto_85 : decode cX10_mixedInto 85 = .ok (.iconst 3, 1) := by decide +kernel
theorem dX10_mixedInto_86 : decode cX10_mixedInto 86 = .ok (.imul, 1) := by decide +kernel
theorem dX10_mixedInto_87 : decode cX10_mixedInto 87 = .ok (.iload 4, 2) := by decide +kernel
theorem dX10_mixedInto_89 : decode cX10_mixedInto 89 = .ok (.iadd, 1) := by decide +kernel
theorem dX10_mixedInto_90 : decode cX10_mixedInto 90 = .ok (.iaload, 1) := by decide +kernel
theorem dX10_mixedInto_91 : decode cX10_mixedInto 91 = .ok (.i2l, 1) := by decide +kernel
theorem dX10_mixedInto_92 : decode cX10_mixedInto 92 = .ok (.ladd, 1) := by decide +kernel
theorem dX10_mixedInto_93 : decode cX10_mixedInto 93 = .ok (.lstore_n 1, 1) := by decide +kernel
theorem dX10_mixedInto_94 : decode cX10_mixedInto 94 = .ok (.iinc 4 1, 3) := by decide +kernel
theorem dX10_mixedInto_97 : decode cX10_mixedInto 97 = .ok (.goto (-28), 3) := by decide +kernel
theorem dX10_mixedInto_100 : decode cX10_mixedInto 100 = .ok (.ldc2_w 100, 3) := by decide +kernel
theorem dX10_mixedInto_103 : decode cX10_mixedInto 103 = .ok (.lload_n 1, 1) := by decide +kernel
theorem dX10_mixedInto_104 : decode cX10_mixedInto 104 = .ok (.lmul, 1) := by decide +kernel
theorem dX10_mixedInto_105 : decode cX10_mixedInto 105 = .ok (.aload_n 0, 1) := by decide +kernel
theorem dX10_mixedInto_106 : decode cX10_mixedInto 106 = .ok (.getfield 24, 3) := by decide +kernel
theorem dX10_mixedInto_109 : decode cX10_mixedInto 109 = .ok (.iload_n 3, 1) := by decide +kernel
theorem dX10_mixedInto_110 : decode cX10_mixedInto 110 = .ok (.iaload, 1) := by decide +kernel
theorem dX10_mixedInto_111 : decode cX10_mixedInto 111 = .ok (.i2l, 1) := by decide +kernel
theorem dX10_mixedInto_112 : decode cX10_mixedInto 112 = .ok (.ladd, 1) := by decide +kernel
theorem dX10_mixedInto_113 : decode cX10_mixedInto 113 = .ok (.lstore_n 1, 1) := by decide +kernel
theorem dX10_mixedInto_114 : decode cX10_mixedInto 114 = .ok (.ldc2_w 100, 3) := by decide +kernel
theorem dX10_mixedInto_117 : decode cX10_mixedInto 117 = .ok (.lload_n 1, 1) := by decide +kernel
theorem dX10_mixedInto_118 : decode cX10_mixedInto 118 = .ok (.lmul, 1) := by decide +kernel
theorem dX10_mixedInto_119 : decode cX10_mixedInto 119 = .ok (.aload_n 0, 1) := by decide +kernel
theorem dX10_mixedInto_120 : decode cX10_mixedInto 120 = .ok (.getfield 27, 3) := by decide +kernel
theorem dX10_mixedInto_123 : decode cX10_mixedInto 123 = .ok (.iload_n 3, 1) := by decide +kernel
theorem dX10_mixedInto_124 : decode cX10_mixedInto 124 = .ok (.iaload, 1) := by decide +kernel
theorem dX10_mixedInto_125 : decode cX10_mixedInto 125 = .ok (.i2l, 1) := by decide +kernel
theorem dX10_mixedInto_126 : decode cX10_mixedInto 126 = .ok (.ladd, 1) := by decide +kernel
theorem dX10_mixedInto_127 : decode cX10_mixedInto 127 = .ok (.lstore_n 1, 1) := by decide +kernel
theorem dX10_mixedInto_128 : decode cX10_mixedInto 128 = .ok (.iinc 3 1, 3) := by decide +kernel
theorem dX10_mixedInto_131 : decode cX10_mixedInto 131 = .ok (.goto (-87), 3) := by decide +kernel
theorem dX10_mixedInto_134 : decode cX10_mixedInto 134 = .ok (.aload_n 0, 1) := by decide +kernel
theorem dX10_mixedInto_135 : decode cX10_mixedInto 135 = .ok (.getfield 43, 3) := by decide +kernel
theorem dX10_mixedInto_138 : decode cX10_mixedInto 138 = .ok (.aload_n 0, 1) := by decide +kernel
theorem dX10_mixedInto_139 : decode cX10_mixedInto 139 = .ok (.getfield 39, 3) := by decide +kernel
theorem dX10_mixedInto_142 : decode cX10_mixedInto 142 = .ok (.lload_n 1, 1) := by decide +kernel
theorem dX10_mixedInto_143 : decode cX10_mixedInto 143 = .ok (.invokevirtual 102, 3) := by decide +kernel
theorem dX10_mixedInto_146 : decode cX10_mixedInto 146 = .ok (.invokevirtual 102, 3) := by decide +kernel
theorem dX10_mixedInto_149 : decode cX10_mixedInto 149 = .ok (.lreturn, 1) := by decide +kernel
theorem dX11_init_0 : decode cX11_init 0 = .ok (.aload_n 0, 1) := by decide +kernel
theorem dX11_init_1 : decode cX11_init 1 = .ok (.invokespecial 1, 3) := by decide +kernel
theorem dX11_init_4 : decode cX11_init 4 = .ok (.aload_n 0, 1) := by decide +kernel
theorem dX11_init_5 : decode cX11_init 5 = .ok (.new 7, 3) := by decide +kernel
theorem dX11_init_8 : decode cX11_init 8 = .ok (.dup, 1) := by decide +kernel
theorem dX11_init_9 : decode cX11_init 9 = .ok (.invokespecial 9, 3) := by decide +kernel
theorem dX11_init_12 : decode cX11_init 12 = .ok (.putfield 10, 3) := by decide +kernel
theorem dX11_init_15 : decode cX11_init 15 = .ok (.aload_n 0, 1) := by decide +kernel
theorem dX11_init_16 : decode cX11_init 16 = .ok (.new 7, 3) := by decide +kernel
theorem dX11_init_19 : decode cX11_init 19 = .ok (.dup, 1) := by decide +kernel
theorem dX11_init_20 : decode cX11_init 20 = .ok (.invokespecial 9, 3) := by decide +kernel
theorem dX11_init_23 : decode cX11_init 23 = .ok (.putfield 16, 3) := by decide +kernel
theorem dX11_init_26 : decode cX11_init 26 = .ok (.aload_n 0, 1) := by decide +kernel
theorem dX11_init_27 : decode cX11_init 27 = .ok (.iconst 2, 1) := by decide +kernel
theorem dX11_init_28 : decode cX11_init 28 = .ok (.anewarray 7, 3) := by decide +kernel
theorem dX11_init_31 : decode cX11_init 31 = .ok (.putfield 19, 3) := by decide +kernel
theorem dX11_init_34 : decode cX11_init 34 = .ok (.aload_n 0, 1) := by decide +kernel
theorem dX11_init_35 : decode cX11_init 35 = .ok (.iconst 2, 1) := by decide +kernel
theorem dX11_init_36 : decode cX11_init 36 = .ok (.newarray .boolean, 2) := by decide +kernel
theorem dX11_init_38 : decode cX11_init 38 = .ok (.putfield 23, 3) := by decide +kernel
theorem dX11_init_41 : decode cX11_init 41 = .ok (.iconst 0, 1) := by decide +kernel
theorem dX11_init_42 : decode cX11_init 42 = .ok (.istore_n 1, 1) := by decide +kernel
theorem dX11_init_43 : decode cX11_init 43 = .ok (.iload_n 1, 1) := by decide +kernel
theorem dX11_init_44 : decode cX11_init 44 = .ok (.iconst 2, 1) := by decide +kernel
theorem dX11_init_45 : decode cX11_init 45 = .ok (.if_icmp .ge 22, 3) := by decide +kernel
theorem dX11_init_48 : decode cX11_init 48 = .ok (.aload_n 0, 1) := by decide +kernel
theorem dX11_init_49 : decode cX11_init 49 = .ok (.getfield 19, 3) := by decide +kernel
theorem dX11_init_52 : decode cX11_init 52 = .ok (.iload_n 1, 1) := by decide +kernel
theorem dX11_init_53 : decode cX11_init 53 = .ok (.new 7, 3) := by decide +kernel
theorem dX11_init_56 : decode cX11_init 56 = .ok (.dup, 1) := by decide +kernel
theorem dX11_init_57 : decode cX11_init 57 = .ok (.invokespecial 9, 3) := by decide +kernel
theorem dX11_init_60 : decode cX11_init 60 = .ok (.aastore, 1) := by decide +kernel
theorem dX11_init_61 : decode cX11_init 61 = .ok (.iinc 1 1, 3) := by decide +kernel
theorem dX11_init_64 : decode cX11_init 64 = .ok (.goto (-21), 3) := by decide +kernel
theorem dX11_init_67 : decode cX11_init 67 = .ok (.aload_n 0, 1) := by decide +kernel
theorem dX11_init_68 : decode cX11_init 68 = .ok (.new 27, 3) := by decide +kernel
theorem dX11_init_71 : decode cX11_init 71 = .ok (.dup, 1) := by decide +kernel
theorem dX11_init_72 : decode cX11_init 72 = .ok (.invokespecial 29, 3) := by decide +kernel
theorem dX11_init_75 : decode cX11_init 75 = .ok (.putfield 30, 3) := by decide +kernel
theorem dX11_init_78 : decode cX11_init 78 = .ok (.aload_n 0, 1) := by decide +kernel
theorem dX11_init_79 : decode cX11_init 79 = .ok (.new 34, 3) := by decide +kernel
theorem dX11_init_82 : decode cX11_init 82 = .ok (.dup, 1) := by decide +kernel
theorem dX11_init_83 : decode cX11_init 83 = .ok (.aload_n 0, 1) := by decide +kernel
theorem dX11_init_84 : decode cX11_init 84 = .ok (.getfield 30, 3) := by decide +kernel
theorem dX11_init_87 : decode cX11_init 87 = .ok (.invokespecial 36, 3) := by decide +kernel
theorem dX11_init_90 : decode cX11_init 90 = .ok (.putfield 39, 3) := by decide +kernel
theorem dX11_init_93 : decode cX11_init 93 = .ok (.aload_n 0, 1) := by decide +kernel
theorem dX11_init_94 : decode cX11_init 94 = .ok (.new 43, 3) := by decide +kernel
theorem dX11_init_97 : decode cX11_init 97 = .ok (.dup, 1) := by decide +kernel
theorem dX11_init_98 : decode cX11_init 98 = .ok (.invokespecial 45, 3) := by decide +kernel
theorem dX11_init_101 : decode cX11_init 101 = .ok (.putfield 46, 3) := by decide +kernel
theorem dX11_init_104 : decode cX11_init 104 = .ok (.aload_n 0, 1) := by decide +kernel
theorem dX11_init_105 : decode cX11_init 105 = .ok (.lconst 0, 1) := by decide +kernel
theorem dX11_init_106 : decode cX11_init 106 = .ok (.putfield 50, 3) := by decide +kernel
theorem dX11_init_109 : decode cX11_init 109 = .ok (.aload_n 0, 1) := by decide +kernel
theorem dX11_init_110 : decode cX11_init 110 = .ok (.lconst 1, 1) := by decide +kernel
theorem dX11_init_111 : decode cX11_init 111 = .ok (.putfield 54, 3) := by decide +kernel
theorem dX11_init_114 : decode cX11_init 114 = .ok (.return_, 1) := by decide +kernel
theorem dX11_valley_0 : decode cX11_valley 0 = .ok (.aload_n 0, 1) := by decide +kernel
theorem dX11_valley_1 : decode cX11_valley 1 = .ok (.getfield 10, 3) := by decide +kernel
theorem dX11_valley_4 : decode cX11_valley 4 = .ok (.getfield 57, 3) := by decide +kernel
theorem dX11_valley_7 : decode cX11_valley 7 = .ok (.istore_n 1, 1) := by decide +kernel
theorem dX11_valley_8 : decode cX11_valley 8 = .ok (.aload_n 0, 1) := by decide +kernel
theorem dX11_valley_9 : decode cX11_valley 9 = .ok (.getfield 10, 3) := by decide +kernel
theorem dX11_valley_12 : decode cX11_valley 12 = .ok (.invokevirtual 61, 3) := by decide +kernel
theorem dX11_valley_15 : decode cX11_valley 15 = .ok (.iload_n 1, 1) := by decide +kernel
theorem dX11_valley_16 : decode cX11_valley 16 = .ok (.ireturn, 1) := by decide +kernel
theorem dX11_prize_0 : decode cX11_prize 0 = .ok (.iload_n 1, 1) := by decide +kernel
theorem dX11_prize_1 : decode cX11_prize 1 = .ok (.iconst 0, 1) := by decide +kernel
theorem dX11_prize_2 : decode cX11_prize 2 = .ok (.bipush 7, 2) := by decide +kernel
theorem dX11_prize_4 : decode cX11_prize 4 = .ok (.invokestatic 64, 3) := by decide +kernel
theorem dX11_prize_7 : decode cX11_prize 7 = .ok (.ifCond .eq 22, 3) := by decide +kernel
theorem dX11_prize_10 : decode cX11_prize 10 = .ok (.iload_n 2, 1) := by decide +kernel
theorem dX11_prize_11 : decode cX11_prize 11 = .ok (.iconst 0, 1) := by decide +kernel
theorem dX11_prize_12 : decode cX11_prize 12 = .ok (.iconst 2, 1) := by decide +kernel
theorem dX11_prize_13 : decode cX11_prize 13 = .ok (.invokestatic 64, 3) := by decide +kernel
theorem dX11_prize_16 : decode cX11_prize 16 = .ok (.ifCond .eq 13, 3) := by decide +kernel
theorem dX11_prize_19 : decode cX11_prize 19 = .ok (.iload_n 3, 1) := by decide +kernel
theorem dX11_prize_20 : decode cX11_prize 20 = .ok (.iconst 1, 1) := by decide +kernel
theorem dX11_prize_21 : decode cX11_prize 21 = .ok (.bipush 30, 2) := by decide +kernel
theorem dX11_prize_23 : decode cX11_prize 23 = .ok (.invokestatic 64, 3) := by decide +kernel
theorem dX11_prize_26 : decode cX11_prize 26 = .ok (.ifCond .ne 8, 3) := by decide +kernel
theorem dX11_prize_29 : decode cX11_prize 29 = .ok (.aload_n 0, 1) := by decide +kernel
theorem dX11_prize_30 : decode cX11_prize 30 = .ok (.invokevirtual 68, 3) := by decide +kernel
theorem dX11_prize_33 : decode cX11_prize 33 = .ok (.ireturn, 1) := by decide +kernel
theorem dX11_prize_34 : decode cX11_prize 34 = .ok (.aload_n 0, 1) := by decide +kernel
theorem dX11_prize_35 : decode cX11_prize 35 = .ok (.getfield 10, 3) := by decide +kernel
theorem dX11_prize_38 : decode cX11_prize 38 = .ok (.getfield 72, 3) := by decide +kernel
theorem dX11_prize_41 : decode cX11_prize 41 = .ok (.iload_n 1, 1) := by decide +kernel
theorem dX11_prize_42 : decode cX11_prize 42 = .ok (.iaload, 1) := by decide +kernel
theorem dX11_prize_43 : decode cX11_prize 43 = .ok (.istore 4, 2) := by decide +kernel
theorem dX11_prize_45 : decode cX11_prize 45 = .ok (.aload_n 0, 1) := by decide +kernel
theorem dX11_prize_46 : decode cX11_prize 46 = .ok (.getfield 10, 3) := by decide +kernel
theorem dX11_prize_49 : decode cX11_prize 49 = .ok (.iload_n 1, 1) := by decide +kernel
theorem dX11_prize_50 : decode cX11_prize 50 = .ok (.iload_n 2, 1) := by decide +kernel
theorem dX11_prize_51 : decode cX11_prize 51 = .ok (.iload_n 3, 1) := by decide +kernel
theorem dX11_prize_52 : decode cX11_prize 52 = .ok (.invokevirtual 76, 3) := by decide +kernel
theorem dX11_prize_55 : decode cX11_prize 55 = .ok (.aload_n 0, 1) := by decide +kernel
theorem dX11_prize_56 : decode cX11_prize 56 = .ok (.getfield 10, 3) := by decide +kernel
theorem dX11_prize_59 : decode cX11_prize 59 = .ok (.iconst 0, 1) := by decide +kernel
theorem dX11_prize_60 : decode cX11_prize 60 = .ok (.putfield 80, 3) := by decide +kernel
theorem dX11_prize_63 : decode cX11_prize 63 = .ok (.iload 4, 2) := by decide +kernel
theorem dX11_prize_65 : decode cX11_prize 65 = .ok (.ireturn, 1) := by decide +kernel
theorem dX11_one_0 : decode cX11_one 0 = .ok (.iload_n 1, 1) := by decide +kernel
theorem dX11_one_1 : decode cX11_one 1 = .ok (.iconst 0, 1) := by decide +kernel
theorem dX11_one_2 : decode cX11_one 2 = .ok (.iconst 5, 1) := by decide +kernel
theorem dX11_one_3 : decode cX11_one 3 = .ok (.invokestatic 64, 3) := by decide +kernel
theorem dX11_one_6 : decode cX11_one 6 = .ok (.ifCond .eq 25, 3) := by decide +kernel
theorem dX11_one_9 : decode cX11_one 9 = .ok (.iload_n 2, 1) := by decide +kernel
theorem dX11_one_10 : decode cX11_one 10 = .ok (.invokestatic 83, 3) := by decide +kernel
theorem dX11_one_13 : decode cX11_one 13 = .ok (.ifCond .eq 18, 3) := by decide +kernel
theorem dX11_one_16 : decode cX11_one 16 = .ok (.iload_n 3, 1) := by decide +kernel
theorem dX11_one_17 : decode cX11_one 17 = .ok (.invokestatic 83, 3) := by decide +kernel
theorem dX11_one_20 : decode cX11_one 20 = .ok (.ifCond .eq 11, 3) := by decide +kernel
theorem dX11_one_23 : decode cX11_one 23 = .ok (.iload 4, 2) := by decide +kernel
theorem dX11_one_25 : decode cX11_one 25 = .ok (.invokestatic 83, 3) := by decide +kernel
theorem dX11_one_28 : decode cX11_one 28 = .ok (.ifCond .ne 8, 3) := by decide +kernel
theorem dX11_one_31 : decode cX11_one 31 = .ok (.aload_n 0, 1) := by decide +kernel
theorem dX11_one_32 : decode cX11_one 32 = .ok (.invokevirtual 68, 3) := by decide +kernel
theorem dX11_one_35 : decode cX11_one 35 = .ok (.ireturn, 1) := by decide +kernel
theorem dX11_one_36 : decode cX11_one 36 = .ok (.aload_n 0, 1) := by decide +kernel
theorem dX11_one_37 : decode cX11_one 37 = .ok (.getfield 10, 3) := by decide +kernel
theorem dX11_one_40 : decode cX11_one 40 = .ok (.getfield 57, 3) := by decide +kernel
theorem dX11_one_43 : decode cX11_one 43 = .ok (.bipush 6, 2) := by decide +kernel
theorem dX11_one_45 : decode cX11_one 45 = .ok (.if_icmp .lt 8, 3) := by decide +kernel
theorem dX11_one_48 : decode cX11_one 48 = .ok (.aload_n 0, 1) := by decide +kernel
theorem dX11_one_49 : decode cX11_one 49 = .ok (.invokevirtual 87, 3) := by decide +kernel
theorem dX11_one_52 : decode cX11_one 52 = .ok (.ireturn, 1) := by decide +kernel
theorem dX11_one_53 : decode cX11_one 53 = .ok (.aload_n 0, 1) := by decide +kernel
theorem dX11_one_54 : decode cX11_one 54 = .ok (.getfield 10, 3) := by decide +kernel
theorem dX11_one_57 : decode cX11_one 57 = .ok (.iload_n 1, 1) := by decide +kernel
theorem dX11_one_58 : decode cX11_one 58 = .ok (.iload_n 2, 1) := by decide +kernel
theorem dX11_one_59 : decode cX11_one 59 = .ok (.iload_n 3, 1) := by decide +kernel
theorem dX11_one_60 : decode cX11_one 60 = .ok (.iload 4, 2) := by decide +kernel
theorem dX11_one_62 : decode cX11_one 62 = .ok (.invokevirtual 90, 3) := by decide +kernel
theorem dX11_one_65 : decode cX11_one 65 = .ok (.aload_n 0, 1) := by decide +kernel
theorem dX11_one_66 : decode cX11_one 66 = .ok (.getfield 10, 3) := by decide +kernel
theorem dX11_one_69 : decode cX11_one 69 = .ok (.iconst 0, 1) := by decide +kernel
theorem dX11_one_70 : decode cX11_one 70 = .ok (.putfield 80, 3) := by decide +kernel
theorem dX11_one_73 : decode cX11_one 73 = .ok (.aload_n 0, 1) := by decide +kernel
theorem dX11_one_74 : decode cX11_one 74 = .ok (.getfield 10, 3) := by decide +kernel
theorem dX11_one_77 : decode cX11_one 77 = .ok (.getfield 57, 3) := by decide +kernel
theorem dX11_one_80 : decode cX11_one 80 = .ok (.iconst 1, 1) := by decide +kernel
theorem dX11_one_81 : decode cX11_one 81 = .ok (.isub, 1) := by decide +kernel
theorem dX11_one_82 : decode cX11_one 82 = .ok (.ireturn, 1) := by decide +kernel
theorem dX11_type_0 : decode cX11_type 0 = .ok (.iload_n 1, 1) := by decide +kernel
theorem dX11_type_1 : decode cX11_type 1 = .ok (.iconst 0, 1) := by decide +kernel
theorem dX11_type_2 : decode cX11_type 2 = .ok (.bipush 127, 2) := by decide +kernel
theorem dX11_type_4 : decode cX11_type 4 = .ok (.invokestatic 64, 3) := by decide +kernel
theorem dX11_type_7 : decode cX11_type 7 = .ok (.ifCond .ne 8, 3) := by decide +kernel
theorem dX11_type_10 : decode cX11_type 10 = .ok (.aload_n 0, 1) := by decide +kernel
theorem dX11_type_11 : decode cX11_type 11 = .ok (.invokevirtual 68, 3) := by decide +kernel
theorem dX11_type_14 : decode cX11_type 14 = .ok (.ireturn, 1) := by decide +kernel
theorem dX11_type_15 : decode cX11_type 15 = .ok (.aload_n 0, 1) := by decide +kernel
theorem dX11_type_16 : decode cX11_type 16 = .ok (.getfield 46, 3) := by decide +kernel
theorem dX11_type_19 : decode cX11_type 19 = .ok (.getfield 94, 3) := by decide +kernel
theorem dX11_type_22 : decode cX11_type 22 = .ok (.sipush 150, 3) := by decide +kernel
theorem dX11_type_25 : decode cX11_type 25 = .ok (.if_icmp .lt 8, 3) := by decide +kernel
theorem dX11_type_28 : decode cX11_type 28 = .ok (.aload_n 0, 1) := by decide +kernel
theorem dX11_type_29 : decode cX11_type 29 = .ok (.invokevirtual 87, 3) := by decide +kernel
theorem dX11_type_32 : decode cX11_type 32 = .ok (.ireturn, 1) := by decide +kernel
theorem dX11_type_33 : decode cX11_type 33 = .ok (.aload_n 0, 1) := by decide +kernel
theorem dX11_type_34 : decode cX11_type 34 = .ok (.getfield 46, 3) := by decide +kernel
theorem dX11_type_37 : decode cX11_type 37 = .ok (.iload_n 1, 1) := by decide +kernel
theorem dX11_type_38 : decode cX11_type 38 = .ok (.invokevirtual 97, 3) := by decide +kernel
theorem dX11_type_41 : decode cX11_type 41 = .ok (.aload_n 0, 1) := by decide +kernel
theorem dX11_type_42 : decode cX11_type 42 = .ok (.getfield 46, 3) := by decide +kernel
theorem dX11_type_45 : decode cX11_type 45 = .ok (.getfield 94, 3) := by decide +kernel
theorem dX11_type_48 : decode cX11_type 48 = .ok (.ireturn, 1) := by decide +kernel
theorem dX11_clear_0 : decode cX11_clear 0 = .ok (.aload_n 0, 1) := by decide +kernel
theorem dX11_clear_1 : decode cX11_clear 1 = .ok (.getfield 46, 3) := by decide +kernel
theorem dX11_clear_4 : decode cX11_clear 4 = .ok (.getfield 94, 3) := by decide +kernel
theorem dX11_clear_7 : decode cX11_clear 7 = .ok (.istore_n 1, 1) := by decide +kernel
theorem dX11_clear_8 : decode cX11_clear 8 = .ok (.aload_n 0, 1) := by decide +kernel
theorem dX11_clear_9 : decode cX11_clear 9 = .ok (.getfield 46, 3) := by decide +kernel
theorem dX11_clear_12 : decode cX11_clear 12 = .ok (.iconst 0, 1) := by decide +kernel
theorem dX11_clear_13 : decode cX11_clear 13 = .ok (.putfield 94, 3) := by decide +kernel
theorem dX11_clear_16 : decode cX11_clear 16 = .ok (.iload_n 1, 1) := by decide +kernel
theorem dX11_clear_17 : decode cX11_clear 17 = .ok (.ireturn, 1) := by decide +kernel
theorem dX11_read_0 : decode cX11_read 0 = .ok (.aload_n 0, 1) := by decide +kernel
theorem dX11_read_1 : decode cX11_read 1 = .ok (.getfield 46, 3) := by decide +kernel
theorem dX11_read_4 : decode cX11_read 4 = .ok (.aload_n 0, 1) := by decide +kernel
theorem dX11_read_5 : decode cX11_read 5 = .ok (.getfield 16, 3) := by decide +kernel
theorem dX11_read_8 : decode cX11_read 8 = .ok (.invokevirtual 101, 3) := by decide +kernel
theorem dX11_read_11 : decode cX11_read 11 = .ok (.istore_n 1, 1) := by decide +kernel
theorem dX11_read_12 : decode cX11_read 12 = .ok (.iload_n 1, 1) := by decide +kernel
theorem dX11_read_13 : decode cX11_read 13 = .ok (.ifCond .lt 14, 3) := by decide +kernel
theorem dX11_read_16 : decode cX11_read 16 = .ok (.aload_n 0, 1) := by decide +kernel
theorem dX11_read_17 : decode cX11_read 17 = .ok (.getfield 10, 3) := by decide +kernel
theorem dX11_read_20 : decode cX11_read 20 = .ok (.aload_n 0, 1) := by decide +kernel
theorem dX11_read_21 : decode cX11_read 21 = .ok (.getfield 16, 3) := by decide +kernel
theorem dX11_read_24 : decode cX11_read 24 = .ok (.invokevirtual 105, 3) := by decide +kernel
theorem dX11_read_27 : decode cX11_read 27 = .ok (.iload_n 1, 1) := by decide +kernel
theorem dX11_read_28 : decode cX11_read 28 = .ok (.ireturn, 1) := by decide +kernel
theorem dX11_year_0 : decode cX11_year 0 = .ok (.aload_n 0, 1) := by decide +kernel
theorem dX11_year_1 : decode cX11_year 1 = .ok (.getfield 10, 3) := by decide +kernel
theorem dX11_year_4 : decode cX11_year 4 = .ok (.getfield 109, 3) := by decide +kernel
theorem dX11_year_7 : decode cX11_year 7 = .ok (.bipush 8, 2) := by decide +kernel
theorem dX11_year_9 : decode cX11_year 9 = .ok (.if_icmp .lt 8, 3) := by decide +kernel
theorem dX11_year_12 : decode cX11_year 12 = .ok (.aload_n 0, 1) := by decide +kernel
theorem dX11_year_13 : decode cX11_year 13 = .ok (.invokevirtual 112, 3) := by decide +kernel
theorem dX11_year_16 : decode cX11_year 16 = .ok (.ireturn, 1) := by decide +kernel
theorem dX11_year_17 : decode cX11_year 17 = .ok (.aload_n 0, 1) := by decide +kernel
theorem dX11_year_18 : decode cX11_year 18 = .ok (.getfield 30, 3) := by decide +kernel
theorem dX11_year_21 : decode cX11_year 21 = .ok (.invokevirtual 115, 3) := by decide +kernel
theorem dX11_year_24 : decode cX11_year 24 = .ok (.aload_n 0, 1) := by decide +kernel
theorem dX11_year_25 : decode cX11_year 25 = .ok (.getfield 30, 3) := by decide +kernel
theorem dX11_year_28 : decode cX11_year 28 = .ok (.aload_n 0, 1) := by decide +kernel
theorem dX11_year_29 : decode cX11_year 29 = .ok (.getfield 10, 3) := by decide +kernel
theorem dX11_year_32 : decode cX11_year 32 = .ok (.aload_n 0, 1) := by decide +kernel
theorem dX11_year_33 : decode cX11_year 33 = .ok (.getfield 10, 3) := by decide +kernel
theorem dX11_year_36 : decode cX11_year 36 = .ok (.getfield 109, 3) := by decide +kernel
theorem dX11_year_39 : decode cX11_year 39 = .ok (.invokevirtual 118, 3) := by decide +kernel
theorem dX11_year_42 : decode cX11_year 42 = .ok (.aload_n 0, 1) := by decide +kernel
theorem dX11_year_43 : decode cX11_year 43 = .ok (.getfield 10, 3) := by decide +kernel
theorem dX11_year_46 : decode cX11_year 46 = .ok (.aload_n 0, 1) := by decide +kernel
theorem dX11_year_47 : decode cX11_year 47 = .ok (.getfield 30, 3) := by decide +kernel
theorem dX11_year_50 : decode cX11_year 50 = .ok (.getfield 122, 3) := by decide +kernel
theorem dX11_year_53 : decode cX11_year 53 = .ok (.aload_n 0, 1) := by decide +kernel
theorem dX11_year_54 : decode cX11_year 54 = .ok (.getfield 30, 3) := by decide +kernel
theorem dX11_year_57 : decode cX11_year 57 = .ok (.getfield 125, 3) := by decide +kernel
theorem dX11_year_60 : decode cX11_year 60 = .ok (.invokevirtual 128, 3) := by decide +kernel
theorem dX11_year_63 : decode cX11_year 63 = .ok (.aload_n 0, 1) := by decide +kernel
theorem dX11_year_64 : decode cX11_year 64 = .ok (.getfield 30, 3) := by decide +kernel
theorem dX11_year_67 : decode cX11_year 67 = .ok (.getfield 122, 3) := by decide +kernel
theorem dX11_year_70 : decode cX11_year 70 = .ok (.ireturn, 1) := by decide +kernel
theorem dX11_undo_0 : decode cX11_undo 0 = .ok (.aload_n 0, 1) := by decide +kernel
theorem dX11_undo_1 : decode cX11_undo 1 = .ok (.getfield 10, 3) := by decide +kernel
theorem dX11_undo_4 : decode cX11_undo 4 = .ok (.getfield 80, 3) := by decide +kernel
theorem dX11_undo_7 : decode cX11_undo 7 = .ok (.ifCond .gt 8, 3) := by decide +kernel
theorem dX11_undo_10 : decode cX11_undo 10 = .ok (.aload_n 0, 1) := by decide +kernel
theorem dX11_undo_11 : decode cX11_undo 11 = .ok (.invokevirtual 112, 3) := by decide +kernel
theorem dX11_undo_14 : decode cX11_undo 14 = .ok (.ireturn, 1) := by decide +kernel
theorem dX11_undo_15 : decode cX11_undo 15 = .ok (.aload_n 0, 1) := by decide +kernel
theorem dX11_undo_16 : decode cX11_undo 16 = .ok (.getfield 10, 3) := by decide +kernel
theorem dX11_undo_19 : decode cX11_undo 19 = .ok (.invokevirtual 132, 3) := by decide +kernel
theorem dX11_undo_22 : decode cX11_undo 22 = .ok (.aload_n 0, 1) := by decide +kernel
theorem dX11_undo_23 : decode cX11_undo 23 = .ok (.getfield 10, 3) := by decide +kernel
theorem dX11_undo_26 : decode cX11_undo 26 = .ok (.getfield 109, 3) := by decide +kernel
theorem dX11_undo_29 : decode cX11_undo 29 = .ok (.ireturn, 1) := by decide +kernel
theorem dX11_of_0 : decode cX11_of 0 = .ok (.aload_n 0, 1) := by decide +kernel
theorem dX11_of_1 : decode cX11_of 1 = .ok (.iload_n 1, 1) := by decide +kernel
theorem dX11_of_2 : decode cX11_of 2 = .ok (.invokevirtual 135, 3) := by decide +kernel
theorem dX11_of_5 : decode cX11_of 5 = .ok (.ifCond .eq 13, 3) := by decide +kernel
theorem dX11_of_8 : decode cX11_of 8 = .ok (.iload_n 2, 1) := by decide +kernel
theorem dX11_of_9 : decode cX11_of 9 = .ok (.iconst 0, 1) := by decide +kernel
theorem dX11_of_10 : decode cX11_of 10 = .ok (.bipush 6, 2) := by decide +kernel
theorem dX11_of_12 : decode cX11_of 12 = .ok (.invokestatic 64, 3) := by decide +kernel
theorem dX11_of_15 : decode cX11_of 15 = .ok (.ifCond .ne 8, 3) := by decide +kernel
theorem dX11_of_18 : decode cX11_of 18 = .ok (.aload_n 0, 1) := by decide +kernel
theorem dX11_of_19 : decode cX11_of 19 = .ok (.invokevirtual 68, 3) := by decide +kernel
theorem dX11_of_22 : decode cX11_of 22 = .ok (.ireturn, 1) := by decide +kernel
theorem dX11_of_23 : decode cX11_of 23 = .ok (.iload_n 2, 1) := by decide +kernel
theorem dX11_of_24 : decode cX11_of 24 = .ok (.tableswitch 95 0 6 #[44, 95, 95, 95, 54, 64, 74], 44) := by decide +kernel
theorem dX11_of_68 : decode cX11_of 68 = .ok (.aload_n 0, 1) := by decide +kernel
theorem dX11_of_69 : decode cX11_of 69 = .ok (.getfield 10, 3) := by decide +kernel
theorem dX11_of_72 : decode cX11_of 72 = .ok (.getfield 138, 3) := by decide +kernel
theorem dX11_of_75 : decode cX11_of 75 = .ok (.iload_n 1, 1) := by decide +kernel
theorem dX11_of_76 : decode cX11_of 76 = .ok (.iaload, 1) := by decide +kernel
theorem dX11_of_77 : decode cX11_of 77 = .ok (.ireturn, 1) := by decide +kernel
theorem dX11_of_78 : decode cX11_of 78 = .ok (.aload_n 0, 1) := by decide +kernel
theorem dX11_of_79 : decode cX11_of 79 = .ok (.getfield 10, 3) := by decide +kernel
theorem dX11_of_82 : decode cX11_of 82 = .ok (.getfield 141, 3) := by decide +kernel
theorem dX11_of_85 : decode cX11_of 85 = .ok (.iload_n 1, 1) := by decide +kernel
theorem dX11_of_86 : decode cX11_of 86 = .ok (.iaload, 1) := by decide +kernel
theorem dX11_of_87 : decode cX11_of 87 = .ok (.ireturn, 1) := by decide +kernel
theorem dX11_of_88 : decode cX11_of 88 = .ok (.aload_n 0, 1) := by decide +kernel
theorem dX11_of_89 : decode cX11_of 89 = .ok (.getfield 10, 3) := by decide +kernel
theorem dX11_of_92 : decode cX11_of 92 = .ok (.getfield 144, 3) := by decide +kernel
theorem dX11_of_95 : decode cX11_of 95 = .ok (.iload_n 1, 1) := by decide +kernel
theorem dX11_of_96 : decode cX11_of 96 = .ok (.iaload, 1) := by decide +kernel
theorem dX11_of_97 : decode cX11_of 97 = .ok (.ireturn, 1) := by decide +kernel
theorem dX11_of_98 : decode cX11_of 98 = .ok (.aload_n 0, 1) := by decide +kernel
theorem dX11_of_99 : decode cX11_of 99 = .ok (.getfield 30, 3) := by decide +kernel
theorem dX11_of_102 : decode cX11_of 102 = .ok (.aload_n 0, 1) := by decide +kernel
theorem dX11_of_103 : decode cX11_of 103 = .ok (.getfield 10, 3) := by decide +kernel
theorem dX11_of_106 : decode cX11_of 106 = .ok (.iload_n 1, 1) := by decide +kernel
theorem dX11_of_107 : decode cX11_of 107 = .ok (.invokevirtual 147, 3) := by decide +kernel
theorem dX11_of_110 : decode cX11_of 110 = .ok (.ifCond .eq 7, 3) := by decide +kernel
theorem dX11_of_113 : decode cX11_of 113 = .ok (.iconst 1, 1) := by decide +kernel
theorem dX11_of_114 : decode cX11_of 114 = .ok (.goto 4, 3) := by decide +kernel
theorem dX11_of_117 : decode cX11_of 117 = .ok (.iconst 0, 1) := by decide +kernel
theorem dX11_of_118 : decode cX11_of 118 = .ok (.ireturn, 1) := by decide +kernel
theorem dX11_of_119 : decode cX11_of 119 = .ok (.aload_n 0, 1) := by decide +kernel
theorem dX11_of_120 : decode cX11_of 120 = .ok (.getfield 10, 3) := by decide +kernel
theorem dX11_of_123 : decode cX11_of 123 = .ok (.getfield 151, 3) := by decide +kernel
theorem dX11_of_126 : decode cX11_of 126 = .ok (.iload_n 1, 1) := by decide +kernel
theorem dX11_of_127 : decode cX11_of 127 = .ok (.iconst 3, 1) := by decide +kernel
theorem dX11_of_128 : decode cX11_of 128 = .ok (.imul, 1) := by decide +kernel
theorem dX11_of_129 : decode cX11_of 129 = .ok (.iload_n 2, 1) := by decide +kernel
theorem dX11_of_130 : decode cX11_of 130 = .ok (.iadd, 1) := by decide +kernel
theorem dX11_of_131 : decode cX11_of 131 = .ok (.iconst 1, 1) := by decide +kernel
theorem dX11_of_132 : decode cX11_of 132 = .ok (.isub, 1) := by decide +kernel
theorem dX11_of_133 : decode cX11_of 133 = .ok (.iaload, 1) := by decide +kernel
theorem dX11_of_134 : decode cX11_of 134 = .ok (.ireturn, 1) := by decide +kernel
theorem dX11_about_0 : decode cX11_about 0 = .ok (.iload_n 1, 1) := by decide +kernel
theorem dX11_about_1 : decode cX11_about 1 = .ok (.iconst 0, 1) := by decide +kernel
theorem dX11_about_2 : decode cX11_about 2 = .ok (.bipush 7, 2) := by decide +kernel
theorem dX11_about_4 : decode cX11_about 4 = .ok (.invokestatic 64, 3) := by decide +kernel
theorem dX11_about_7 : decode cX11_about 7 = .ok (.ifCond .eq 12, 3) := by decide +kernel
theorem dX11_about_10 : decode cX11_about 10 = .ok (.iload_n 2, 1) := by decide +kernel
theorem dX11_about_11 : decode cX11_about 11 = .ok (.iconst 0, 1) := by decide +kernel
theorem dX11_about_12 : decode cX11_about 12 = .ok (.iconst 1, 1) := by decide +kernel
theorem dX11_about_13 : decode cX11_about 13 = .ok (.invokestatic 64, 3) := by decide +kernel
theorem dX11_about_16 : decode cX11_about 16 = .ok (.ifCond .ne 11, 3) := by decide +kernel
theorem dX11_about_19 : decode cX11_about 19 = .ok (.aload_n 0, 1) := by decide +kernel
theorem dX11_about_20 : decode cX11_about 20 = .ok (.invokevirtual 68, 3) := by decide +kernel
theorem dX11_about_23 : decode cX11_about 23 = .ok (.pop, 1) := by decide +kernel
theorem dX11_about_24 : decode cX11_about 24 = .ok (.bipush (-10), 2) := by decide +kernel
theorem dX11_about_26 : decode cX11_about 26 = .ok (.ireturn, 1) := by decide +kernel
theorem dX11_about_27 : decode cX11_about 27 = .ok (.iload_n 2, 1) := by decide +kernel
theorem dX11_about_28 : decode cX11_about 28 = .ok (.ifCond .ne 15, 3) := by decide +kernel
theorem dX11_about_31 : decode cX11_about 31 = .ok (.aload_n 0, 1) := by decide +kernel
theorem dX11_about_32 : decode cX11_about 32 = .ok (.getfield 10, 3) := by decide +kernel
theorem dX11_about_35 : decode cX11_about 35 = .ok (.getfield 154, 3) := by decide +kernel
theorem dX11_about_38 : decode cX11_about 38 = .ok (.iload_n 1, 1) := by decide +kernel
theorem dX11_about_39 : decode cX11_about 39 = .ok (.iaload, 1) := by decide +kernel
theorem dX11_about_40 : decode cX11_about 40 = .ok (.goto 12, 3) := by decide +kernel
theorem dX11_about_43 : decode cX11_about 43 = .ok (.aload_n 0, 1) := by decide +kernel
theorem dX11_about_44 : decode cX11_about 44 = .ok (.getfield 10, 3) := by decide +kernel
theorem dX11_about_47 : decode cX11_about 47 = .ok (.getfield 72, 3) := by decide +kernel
theorem dX11_about_50 : decode cX11_about 50 = .ok (.iload_n 1, 1) := by decide +kernel
theorem dX11_about_51 : decode cX11_about 51 = .ok (.iaload, 1) := by decide +kernel
theorem dX11_about_52 : decode cX11_about 52 = .ok (.ireturn, 1) := by decide +kernel
theorem dX11_good_0 : decode cX11_good 0 = .ok (.aload_n 0, 1) := by decide +kernel
theorem dX11_good_1 : decode cX11_good 1 = .ok (.iload_n 1, 1) := by decide +kernel
theorem dX11_good_2 : decode cX11_good 2 = .ok (.invokevirtual 135, 3) := by decide +kernel
theorem dX11_good_5 : decode cX11_good 5 = .ok (.ifCond .eq 22, 3) := by decide +kernel
theorem dX11_good_8 : decode cX11_good 8 = .ok (.iload_n 2, 1) := by decide +kernel
theorem dX11_good_9 : decode cX11_good 9 = .ok (.iconst 0, 1) := by decide +kernel
theorem dX11_good_10 : decode cX11_good 10 = .ok (.iconst 2, 1) := by decide +kernel
theorem dX11_good_11 : decode cX11_good 11 = .ok (.invokestatic 64, 3) := by decide +kernel
theorem dX11_good_14 : decode cX11_good 14 = .ok (.ifCond .eq 13, 3) := by decide +kernel
theorem dX11_good_17 : decode cX11_good 17 = .ok (.iload_n 3, 1) := by decide +kernel
theorem dX11_good_18 : decode cX11_good 18 = .ok (.iconst 0, 1) := by decide +kernel
theorem dX11_good_19 : decode cX11_good 19 = .ok (.bipush 7, 2) := by decide +kernel
theorem dX11_good_21 : decode cX11_good 21 = .ok (.invokestatic 64, 3) := by decide +kernel
theorem dX11_good_24 : decode cX11_good 24 = .ok (.ifCond .ne 8, 3) := by decide +kernel
theorem dX11_good_27 : decode cX11_good 27 = .ok (.aload_n 0, 1) := by decide +kernel
theorem dX11_good_28 : decode cX11_good 28 = .ok (.invokevirtual 68, 3) := by decide +kernel
theorem dX11_good_31 : decode cX11_good 31 = .ok (.ireturn, 1) := by decide +kernel
theorem dX11_good_32 : decode cX11_good 32 = .ok (.aload_n 0, 1) := by decide +kernel
theorem dX11_good_33 : decode cX11_good 33 = .ok (.getfield 30, 3) := by decide +kernel
theorem dX11_good_36 : decode cX11_good 36 = .ok (.aload_n 0, 1) := by decide +kernel
theorem dX11_good_37 : decode cX11_good 37 = .ok (.getfield 10, 3) := by decide +kernel
theorem dX11_good_40 : decode cX11_good 40 = .ok (.getfield 138, 3) := by decide +kernel
theorem dX11_good_43 : decode cX11_good 43 = .ok (.iload_n 1, 1) := by decide +kernel
theorem dX11_good_44 : decode cX11_good 44 = .ok (.iaload, 1) := by decide +kernel
theorem dX11_good_45 : decode cX11_good 45 = .ok (.aload_n 0, 1) := by decide +kernel
theorem dX11_good_46 : decode cX11_good 46 = .ok (.getfield 10, 3) := by decide +kernel
theorem dX11_good_49 : decode cX11_good 49 = .ok (.getfield 151, 3) := by decide +kernel
theorem dX11_good_52 : decode cX11_good 52 = .ok (.iload_n 1, 1) := by decide +kernel
theorem dX11_good_53 : decode cX11_good 53 = .ok (.iconst 3, 1) := by decide +kernel
theorem dX11_good_54 : decode cX11_good 54 = .ok (.imul, 1) := by decide +kernel
theorem dX11_good_55 : decode cX11_good 55 = .ok (.iload_n 2, 1) := by decide +kernel
theorem dX11_good_56 : decode cX11_good 56 = .ok (.iadd, 1) := by decide +kernel
theorem dX11_good_57 : decode cX11_good 57 = .ok (.iaload, 1) := by decide +kernel
theorem dX11_good_58 : decode cX11_good 58 = .ok (.iload_n 3, 1) := by decide +kernel
theorem dX11_good_59 : decode cX11_good 59 = .ok (.invokevirtual 157, 3) := by decide +kernel
theorem dX11_good_62 : decode cX11_good 62 = .ok (.ireturn, 1) := by decide +kernel
theorem dX11_enter_0 : decode cX11_enter 0 = .ok (.aload_n 0, 1) := by decide +kernel
theorem dX11_enter_1 : decode cX11_enter 1 = .ok (.iload_n 1, 1) := by decide +kernel
theorem dX11_enter_2 : decode cX11_enter 2 = .ok (.invokevirtual 161, 3) := by decide +kernel
theorem dX11_enter_5 : decode cX11_enter 5 = .ok (.ifCond .ne 8, 3) := by decide +kernel
theorem dX11_enter_8 : decode cX11_enter 8 = .ok (.aload_n 0, 1) := by decide +kernel
theorem dX11_enter_9 : decode cX11_enter 9 = .ok (.invokevirtual 68, 3) := by decide +kernel
theorem dX11_enter_12 : decode cX11_enter 12 = .ok (.ireturn, 1) := by decide +kernel
theorem dX11_enter_13 : decode cX11_enter 13 = .ok (.aload_n 0, 1) := by decide +kernel
theorem dX11_enter_14 : decode cX11_enter 14 = .ok (.getfield 39, 3) := by decide +kernel
theorem dX11_enter_17 : decode cX11_enter 17 = .ok (.aload_n 0, 1) := by decide +kernel
theorem dX11_enter_18 : decode cX11_enter 18 = .ok (.getfield 10, 3) := by decide +kernel
theorem dX11_enter_21 : decode cX11_enter 21 = .ok (.iload_n 1, 1) := by decide +kernel
theorem dX11_enter_22 : decode cX11_enter 22 = .ok (.invokevirtual 164, 3) := by decide +kernel
theorem dX11_enter_25 : decode cX11_enter 25 = .ok (.aload_n 0, 1) := by decide +kernel
theorem dX11_enter_26 : decode cX11_enter 26 = .ok (.getfield 30, 3) := by decide +kernel
theorem dX11_enter_29 : decode cX11_enter 29 = .ok (.getfield 167, 3) := by decide +kernel
theorem dX11_enter_32 : decode cX11_enter 32 = .ok (.ireturn, 1) := by decide +kernel
theorem dX11_winner_0 : decode cX11_winner 0 = .ok (.aload_n 0, 1) := by decide +kernel
theorem dX11_winner_1 : decode cX11_winner 1 = .ok (.iload_n 1, 1) := by decide +kernel
theorem dX11_winner_2 : decode cX11_winner 2 = .ok (.invokevirtual 161, 3) := by decide +kernel
theorem dX11_winner_5 : decode cX11_winner 5 = .ok (.ifCond .eq 12, 3) := by decide +kernel
theorem dX11_winner_8 : decode cX11_winner 8 = .ok (.iload_n 2, 1) := by decide +kernel
theorem dX11_winner_9 : decode cX11_winner 9 = .ok (.iconst 0, 1) := by decide +kernel
theorem dX11_winner_10 : decode cX11_winner 10 = .ok (.iconst 1, 1) := by decide +kernel
theorem dX11_winner_11 : decode cX11_winner 11 = .ok (.invokestatic 64, 3) := by decide +kernel
theorem dX11_winner_14 : decode cX11_winner 14 = .ok (.ifCond .ne 8, 3) := by decide +kernel
theorem dX11_winner_17 : decode cX11_winner 17 = .ok (.aload_n 0, 1) := by decide +kernel
theorem dX11_winner_18 : decode cX11_winner 18 = .ok (.invokevirtual 68, 3) := by decide +kernel
theorem dX11_winner_21 : decode cX11_winner 21 = .ok (.ireturn, 1) := by decide +kernel
theorem dX11_winner_22 : decode cX11_winner 22 = .ok (.aload_n 0, 1) := by decide +kernel
theorem dX11_winner_23 : decode cX11_winner 23 = .ok (.getfield 39, 3) := by decide +kernel
theorem dX11_winner_26 : decode cX11_winner 26 = .ok (.aload_n 0, 1) := by decide +kernel
theorem dX11_winner_27 : decode cX11_winner 27 = .ok (.getfield 10, 3) := by decide +kernel
theorem dX11_winner_30 : decode cX11_winner 30 = .ok (.iload_n 1, 1) := by decide +kernel
theorem dX11_winner_31 : decode cX11_winner 31 = .ok (.invokevirtual 164, 3) := by decide +kernel
theorem dX11_winner_34 : decode cX11_winner 34 = .ok (.iload_n 2, 1) := by decide +kernel
theorem dX11_winner_35 : decode cX11_winner 35 = .ok (.ifCond .ne 13, 3) := by decide +kernel
theorem dX11_winner_38 : decode cX11_winner 38 = .ok (.aload_n 0, 1) := by decide +kernel
theorem dX11_winner_39 : decode cX11_winner 39 = .ok (.getfield 30, 3) := by decide +kernel
theorem dX11_winner_42 : decode cX11_winner 42 = .ok (.getfield 122, 3) := by decide +kernel
theorem dX11_winner_45 : decode cX11_winner 45 = .ok (.goto 10, 3) := by decide +kernel
theorem dX11_winner_48 : decode cX11_winner 48 = .ok (.aload_n 0, 1) := by decide +kernel
theorem dX11_winner_49 : decode cX11_winner 49 = .ok (.getfield 30, 3) := by decide +kernel
theorem dX11_winner_52 : decode cX11_winner 52 = .ok (.getfield 125, 3) := by decide +kernel
theorem dX11_winner_55 : decode cX11_winner 55 = .ok (.ireturn, 1) := by decide +kernel
theorem dX11_end_0 : decode cX11_end 0 = .ok (.aload_n 0, 1) := by decide +kernel
theorem dX11_end_1 : decode cX11_end 1 = .ok (.iload_n 1, 1) := by decide +kernel
theorem dX11_end_2 : decode cX11_end 2 = .ok (.invokevirtual 135, 3) := by decide +kernel
theorem dX11_end_5 : decode cX11_end 5 = .ok (.ifCond .eq 12, 3) := by decide +kernel
theorem dX11_end_8 : decode cX11_end 8 = .ok (.iload_n 2, 1) := by decide +kernel
theorem dX11_end_9 : decode cX11_end 9 = .ok (.iconst 0, 1) := by decide +kernel
theorem dX11_end_10 : decode cX11_end 10 = .ok (.iconst 1, 1) := by decide +kernel
theorem dX11_end_11 : decode cX11_end 11 = .ok (.invokestatic 64, 3) := by decide +kernel
theorem dX11_end_14 : decode cX11_end 14 = .ok (.ifCond .ne 8, 3) := by decide +kernel
theorem dX11_end_17 : decode cX11_end 17 = .ok (.aload_n 0, 1) := by decide +kernel
theorem dX11_end_18 : decode cX11_end 18 = .ok (.invokevirtual 68, 3) := by decide +kernel
theorem dX11_end_21 : decode cX11_end 21 = .ok (.ireturn, 1) := by decide +kernel
theorem dX11_end_22 : decode cX11_end 22 = .ok (.aload_n 0, 1) := by decide +kernel
theorem dX11_end_23 : decode cX11_end 23 = .ok (.getfield 39, 3) := by decide +kernel
theorem dX11_end_26 : decode cX11_end 26 = .ok (.aload_n 0, 1) := by decide +kernel
theorem dX11_end_27 : decode cX11_end 27 = .ok (.getfield 10, 3) := by decide +kernel
theorem dX11_end_30 : decode cX11_end 30 = .ok (.invokevirtual 170, 3) := by decide +kernel
theorem dX11_end_33 : decode cX11_end 33 = .ok (.aload_n 0, 1) := by decide +kernel
theorem dX11_end_34 : decode cX11_end 34 = .ok (.getfield 39, 3) := by decide +kernel
theorem dX11_end_37 : decode cX11_end 37 = .ok (.bipush 8, 2) := by decide +kernel
theorem dX11_end_39 : decode cX11_end 39 = .ok (.invokevirtual 173, 3) := by decide +kernel
theorem dX11_end_42 : decode cX11_end 42 = .ok (.iload_n 2, 1) := by decide +kernel
theorem dX11_end_43 : decode cX11_end 43 = .ok (.ifCond .ne 17, 3) := by decide +kernel
theorem dX11_end_46 : decode cX11_end 46 = .ok (.aload_n 0, 1) := by decide +kernel
theorem dX11_end_47 : decode cX11_end 47 = .ok (.getfield 39, 3) := by decide +kernel
theorem dX11_end_50 : decode cX11_end 50 = .ok (.getfield 176, 3) := by decide +kernel
theorem dX11_end_53 : decode cX11_end 53 = .ok (.iload_n 1, 1) := by decide +kernel
theorem dX11_end_54 : decode cX11_end 54 = .ok (.invokevirtual 179, 3) := by decide +kernel
theorem dX11_end_57 : decode cX11_end 57 = .ok (.goto 15, 3) := by decide +kernel
theorem dX11_end_60 : decode cX11_end 60 = .ok (.aload_n 0, 1) := by decide +kernel
theorem dX11_end_61 : decode cX11_end 61 = .ok (.getfield 39, 3) := by decide +kernel
theorem dX11_end_64 : decode cX11_end 64 = .ok (.getfield 176, 3) := by decide +kernel
theorem dX11_end_67 : decode cX11_end 67 = .ok (.getfield 144, 3) := by decide +kernel
theorem dX11_end_70 : decode cX11_end 70 = .ok (.iload_n 1, 1) := by decide +kernel
theorem dX11_end_71 : decode cX11_end 71 = .ok (.iaload, 1) := by decide +kernel
theorem dX11_end_72 : decode cX11_end 72 = .ok (.ireturn, 1) := by decide +kernel
theorem dX11_left_0 : decode cX11_left 0 = .ok (.aload_n 0, 1) := by decide +kernel
theorem dX11_left_1 : decode cX11_left 1 = .ok (.getfield 39, 3) := by decide +kernel
theorem dX11_left_4 : decode cX11_left 4 = .ok (.aload_n 0, 1) := by decide +kernel
theorem dX11_left_5 : decode cX11_left 5 = .ok (.getfield 10, 3) := by decide +kernel
theorem dX11_left_8 : decode cX11_left 8 = .ok (.invokevirtual 183, 3) := by decide +kernel
theorem dX11_left_11 : decode cX11_left 11 = .ok (.ireturn, 1) := by decide +kernel
theorem dX11_best_0 : decode cX11_best 0 = .ok (.aload_n 0, 1) := by decide +kernel
theorem dX11_best_1 : decode cX11_best 1 = .ok (.iload_n 1, 1) := by decide +kernel
theorem dX11_best_2 : decode cX11_best 2 = .ok (.invokevirtual 135, 3) := by decide +kernel
theorem dX11_best_5 : decode cX11_best 5 = .ok (.ifCond .eq 12, 3) := by decide +kernel
theorem dX11_best_8 : decode cX11_best 8 = .ok (.iload_n 2, 1) := by decide +kernel
theorem dX11_best_9 : decode cX11_best 9 = .ok (.iconst 0, 1) := by decide +kernel
theorem dX11_best_10 : decode cX11_best 10 = .ok (.iconst 1, 1) := by decide +kernel
theorem dX11_best_11 : decode cX11_best 11 = .ok (.invokestatic 64, 3) := by decide +kernel
theorem dX11_best_14 : decode cX11_best 14 = .ok (.ifCond .ne 8, 3) := by decide +kernel
theorem dX11_best_17 : decode cX11_best 17 = .ok (.aload_n 0, 1) := by decide +kernel
theorem dX11_best_18 : decode cX11_best 18 = .ok (.invokevirtual 68, 3) := by decide +kernel
theorem dX11_best_21 : decode cX11_best 21 = .ok (.ireturn, 1) := by decide +kernel
theorem dX11_best_22 : decode cX11_best 22 = .ok (.aload_n 0, 1) := by decide +kernel
theorem dX11_best_23 : decode cX11_best 23 = .ok (.getfield 39, 3) := by decide +kernel
theorem dX11_best_26 : decode cX11_best 26 = .ok (.aload_n 0, 1) := by decide +kernel
theorem dX11_best_27 : decode cX11_best 27 = .ok (.getfield 10, 3) := by decide +kernel
theorem dX11_best_30 : decode cX11_best 30 = .ok (.iload_n 1, 1) := by decide +kernel
theorem dX11_best_31 : decode cX11_best 31 = .ok (.invokevirtual 186, 3) := by decide +kernel
theorem dX11_best_34 : decode cX11_best 34 = .ok (.istore_n 3, 1) := by decide +kernel
theorem dX11_best_35 : decode cX11_best 35 = .ok (.iload_n 3, 1) := by decide +kernel
theorem dX11_best_36 : decode cX11_best 36 = .ok (.iconst (-1), 1) := by decide +kernel
theorem dX11_best_37 : decode cX11_best 37 = .ok (.if_icmp .eq 7, 3) := by decide +kernel
theorem dX11_best_40 : decode cX11_best 40 = .ok (.iload_n 2, 1) := by decide +kernel
theorem dX11_best_41 : decode cX11_best 41 = .ok (.ifCond .ne 7, 3) := by decide +kernel
theorem dX11_best_44 : decode cX11_best 44 = .ok (.iload_n 3, 1) := by decide +kernel
theorem dX11_best_45 : decode cX11_best 45 = .ok (.goto 12, 3) := by decide +kernel
theorem dX11_best_48 : decode cX11_best 48 = .ok (.aload_n 0, 1) := by decide +kernel
theorem dX11_best_49 : decode cX11_best 49 = .ok (.getfield 10, 3) := by decide +kernel
theorem dX11_best_52 : decode cX11_best 52 = .ok (.getfield 72, 3) := by decide +kernel
theorem dX11_best_55 : decode cX11_best 55 = .ok (.iload_n 3, 1) := by decide +kernel
theorem dX11_best_56 : decode cX11_best 56 = .ok (.iaload, 1) := by decide +kernel
theorem dX11_best_57 : decode cX11_best 57 = .ok (.ireturn, 1) := by decide +kernel
theorem dX11_rivals_0 : decode cX11_rivals 0 = .ok (.aload_n 0, 1) := by decide +kernel
theorem dX11_rivals_1 : decode cX11_rivals 1 = .ok (.iload_n 1, 1) := by decide +kernel
theorem dX11_rivals_2 : decode cX11_rivals 2 = .ok (.invokevirtual 135, 3) := by decide +kernel
theorem dX11_rivals_5 : decode cX11_rivals 5 = .ok (.ifCond .eq 21, 3) := by decide +kernel
theorem dX11_rivals_8 : decode cX11_rivals 8 = .ok (.aload_n 0, 1) := by decide +kernel
theorem dX11_rivals_9 : decode cX11_rivals 9 = .ok (.iload_n 2, 1) := by decide +kernel
theorem dX11_rivals_10 : decode cX11_rivals 10 = .ok (.invokevirtual 135, 3) := by decide +kernel
theorem dX11_rivals_13 : decode cX11_rivals 13 = .ok (.ifCond .eq 13, 3) := by decide +kernel
theorem dX11_rivals_16 : decode cX11_rivals 16 = .ok (.iload_n 1, 1) := by decide +kernel
theorem dX11_rivals_17 : decode cX11_rivals 17 = .ok (.iload_n 2, 1) := by decide +kernel
theorem dX11_rivals_18 : decode cX11_rivals 18 = .ok (.if_icmp .eq 8, 3) := by decide +kernel
theorem dX11_rivals_21 : decode cX11_rivals 21 = .ok (.iload_n 3, 1) := by decide +kernel
theorem dX11_rivals_22 : decode cX11_rivals 22 = .ok (.iconst (-1), 1) := by decide +kernel
theorem dX11_rivals_23 : decode cX11_rivals 23 = .ok (.if_icmp .ge 11, 3) := by decide +kernel
theorem dX11_rivals_26 : decode cX11_rivals 26 = .ok (.aload_n 0, 1) := by decide +kernel
theorem dX11_rivals_27 : decode cX11_rivals 27 = .ok (.invokevirtual 68, 3) := by decide +kernel
theorem dX11_rivals_30 : decode cX11_rivals 30 = .ok (.pop, 1) := by decide +kernel
theorem dX11_rivals_31 : decode cX11_rivals 31 = .ok (.bipush (-10), 2) := by decide +kernel
theorem dX11_rivals_33 : decode cX11_rivals 33 = .ok (.ireturn, 1) := by decide +kernel
theorem dX11_rivals_34 : decode cX11_rivals 34 = .ok (.aload_n 0, 1) := by decide +kernel
theorem dX11_rivals_35 : decode cX11_rivals 35 = .ok (.getfield 39, 3) := by decide +kernel
theorem dX11_rivals_38 : decode cX11_rivals 38 = .ok (.aload_n 0, 1) := by decide +kernel
theorem dX11_rivals_39 : decode cX11_rivals 39 = .ok (.getfield 10, 3) := by decide +kernel
theorem dX11_rivals_42 : decode cX11_rivals 42 = .ok (.iload_n 1, 1) := by decide +kernel
theorem dX11_rivals_43 : decode cX11_rivals 43 = .ok (.iload_n 2, 1) := by decide +kernel
theorem dX11_rivals_44 : decode cX11_rivals 44 = .ok (.invokevirtual 190, 3) := by decide +kernel
theorem dX11_rivals_47 : decode cX11_rivals 47 = .ok (.aload_n 0, 1) := by decide +kernel
theorem dX11_rivals_48 : decode cX11_rivals 48 = .ok (.getfield 39, 3) := by decide +kernel
theorem dX11_rivals_51 : decode cX11_rivals 51 = .ok (.aload_n 0, 1) := by decide +kernel
theorem dX11_rivals_52 : decode cX11_rivals 52 = .ok (.getfield 10, 3) := by decide +kernel
theorem dX11_rivals_55 : decode cX11_rivals 55 = .ok (.getfield 109, 3) := by decide +kernel
theorem dX11_rivals_58 : decode cX11_rivals 58 = .ok (.iload_n 3, 1) := by decide +kernel
theorem dX11_rivals_59 : decode cX11_rivals 59 = .ok (.invokevirtual 194, 3) := by decide +kernel
theorem dX11_rivals_62 : decode cX11_rivals 62 = .ok (.ireturn, 1) := by decide +kernel
theorem dX11_handicap_0 : decode cX11_handicap 0 = .ok (.aload_n 0, 1) := by decide +kernel
theorem dX11_handicap_1 : decode cX11_handicap 1 = .ok (.iload_n 1, 1) := by decide +kernel
theorem dX11_handicap_2 : decode cX11_handicap 2 = .ok (.invokevirtual 135, 3) := by decide +kernel
theorem dX11_handicap_5 : decode cX11_handicap 5 = .ok (.ifCond .ne 8, 3) := by decide +kernel
theorem dX11_handicap_8 : decode cX11_handicap 8 = .ok (.aload_n 0, 1) := by decide +kernel
theorem dX11_handicap_9 : decode cX11_handicap 9 = .ok (.invokevirtual 68, 3) := by decide +kernel
theorem dX11_handicap_12 : decode cX11_handicap 12 = .ok (.ireturn, 1) := by decide +kernel
theorem dX11_handicap_13 : decode cX11_handicap 13 = .ok (.aload_n 0, 1) := by decide +kernel
theorem dX11_handicap_14 : decode cX11_handicap 14 = .ok (.getfield 30, 3) := by decide +kernel
theorem dX11_handicap_17 : decode cX11_handicap 17 = .ok (.invokevirtual 115, 3) := by decide +kernel
theorem dX11_handicap_20 : decode cX11_handicap 20 = .ok (.aload_n 0, 1) := by decide +kernel
theorem dX11_handicap_21 : decode cX11_handicap 21 = .ok (.getfield 30, 3) := by decide +kernel
theorem dX11_handicap_24 : decode cX11_handicap 24 = .ok (.aload_n 0, 1) := by decide +kernel
theorem dX11_handicap_25 : decode cX11_handicap 25 = .ok (.getfield 10, 3) := by decide +kernel
theorem dX11_handicap_28 : decode cX11_handicap 28 = .ok (.iload_n 1, 1) := by decide +kernel
theorem dX11_handicap_29 : decode cX11_handicap 29 = .ok (.invokevirtual 198, 3) := by decide +kernel
theorem dX11_handicap_32 : decode cX11_handicap 32 = .ok (.ireturn, 1) := by decide +kernel
theorem dX11_order_0 : decode cX11_order 0 = .ok (.aload_n 0, 1) := by decide +kernel
theorem dX11_order_1 : decode cX11_order 1 = .ok (.iload_n 1, 1) := by decide +kernel
theorem dX11_order_2 : decode cX11_order 2 = .ok (.invokevirtual 135, 3) := by decide +kernel
theorem dX11_order_5 : decode cX11_order 5 = .ok (.ifCond .ne 8, 3) := by decide +kernel
theorem dX11_order_8 : decode cX11_order 8 = .ok (.aload_n 0, 1) := by decide +kernel
theorem dX11_order_9 : decode cX11_order 9 = .ok (.invokevirtual 68, 3) := by decide +kernel
theorem dX11_order_12 : decode cX11_order 12 = .ok (.ireturn, 1) := by decide +kernel
theorem dX11_order_13 : decode cX11_order 13 = .ok (.aload_n 0, 1) := by decide +kernel
theorem dX11_order_14 : decode cX11_order 14 = .ok (.getfield 39, 3) := by decide +kernel
theorem dX11_order_17 : decode cX11_order 17 = .ok (.aload_n 0, 1) := by decide +kernel
theorem dX11_order_18 : decode cX11_order 18 = .ok (.getfield 10, 3) := by decide +kernel
theorem dX11_order_21 : decode cX11_order 21 = .ok (.iload_n 1, 1) := by decide +kernel
theorem dX11_order_22 : decode cX11_order 22 = .ok (.invokevirtual 201, 3) := by decide +kernel
theorem dX11_order_25 : decode cX11_order 25 = .ok (.ireturn, 1) := by decide +kernel
theorem dX11_note_0 : decode cX11_note 0 = .ok (.aload_n 0, 1) := by decide +kernel
theorem dX11_note_1 : decode cX11_note 1 = .ok (.iload_n 1, 1) := by decide +kernel
theorem dX11_note_2 : decode cX11_note 2 = .ok (.invokevirtual 135, 3) := by decide +kernel
theorem dX11_note_5 : decode cX11_note 5 = .ok (.ifCond .eq 33, 3) := by decide +kernel
theorem dX11_note_8 : decode cX11_note 8 = .ok (.iload_n 2, 1) := by decide +kernel
theorem dX11_note_9 : decode cX11_note 9 = .ok (.iconst 1, 1) := by decide +kernel
theorem dX11_note_10 : decode cX11_note 10 = .ok (.bipush 30, 2) := by decide +kernel
theorem dX11_note_12 : decode cX11_note 12 = .ok (.invokestatic 64, 3) := by decide +kernel
theorem dX11_note_15 : decode cX11_note 15 = .ok (.ifCond .eq 23, 3) := by decide +kernel
theorem dX11_note_18 : decode cX11_note 18 = .ok (.iload_n 3, 1) := by decide +kernel
theorem dX11_note_19 : decode cX11_note 19 = .ok (.iconst 0, 1) := by decide +kernel
theorem dX11_note_20 : decode cX11_note 20 = .ok (.bipush 7, 2) := by decide +kernel
theorem dX11_note_22 : decode cX11_note 22 = .ok (.invokestatic 64, 3) := by decide +kernel
theorem dX11_note_25 : decode cX11_note 25 = .ok (.ifCond .eq 13, 3) := by decide +kernel
theorem dX11_note_28 : decode cX11_note 28 = .ok (.iload 4, 2) := by decide +kernel
theorem dX11_note_30 : decode cX11_note 30 = .ok (.iconst 0, 1) := by decide +kernel
theorem dX11_note_31 : decode cX11_note 31 = .ok (.iconst 1, 1) := by decide +kernel
theorem dX11_note_32 : decode cX11_note 32 = .ok (.invokestatic 64, 3) := by decide +kernel
theorem dX11_note_35 : decode cX11_note 35 = .ok (.ifCond .ne 8, 3) := by decide +kernel
theorem dX11_note_38 : decode cX11_note 38 = .ok (.aload_n 0, 1) := by decide +kernel
theorem dX11_note_39 : decode cX11_note 39 = .ok (.invokevirtual 68, 3) := by decide +kernel
theorem dX11_note_42 : decode cX11_note 42 = .ok (.ireturn, 1) := by decide +kernel
theorem dX11_note_43 : decode cX11_note 43 = .ok (.aload_n 0, 1) := by decide +kernel
theorem dX11_note_44 : decode cX11_note 44 = .ok (.getfield 10, 3) := by decide +kernel
theorem dX11_note_47 : decode cX11_note 47 = .ok (.getfield 204, 3) := by decide +kernel
theorem dX11_note_50 : decode cX11_note 50 = .ok (.getfield 208, 3) := by decide +kernel
theorem dX11_note_53 : decode cX11_note 53 = .ok (.bipush 6, 2) := by decide +kernel
theorem dX11_note_55 : decode cX11_note 55 = .ok (.if_icmp .lt 8, 3) := by decide +kernel
theorem dX11_note_58 : decode cX11_note 58 = .ok (.aload_n 0, 1) := by decide +kernel
theorem dX11_note_59 : decode cX11_note 59 = .ok (.invokevirtual 87, 3) := by decide +kernel
theorem dX11_note_62 : decode cX11_note 62 = .ok (.ireturn, 1) := by decide +kernel
theorem dX11_note_63 : decode cX11_note 63 = .ok (.aload_n 0, 1) := by decide +kernel
theorem dX11_note_64 : decode cX11_note 64 = .ok (.getfield 10, 3) := by decide +kernel
theorem dX11_note_67 : decode cX11_note 67 = .ok (.getfield 204, 3) := by decide +kernel
theorem dX11_note_70 : decode cX11_note 70 = .ok (.iload_n 1, 1) := by decide +kernel
theorem dX11_note_71 : decode cX11_note 71 = .ok (.iload_n 2, 1) := by decide +kernel
theorem dX11_note_72 : decode cX11_note 72 = .ok (.iload_n 3, 1) := by decide +kernel
theorem dX11_note_73 : decode cX11_note 73 = .ok (.iload 4, 2) := by decide +kernel
theorem dX11_note_75 : decode cX11_note 75 = .ok (.invokevirtual 213, 3) := by decide +kernel
theorem dX11_note_78 : decode cX11_note 78 = .ok (.aload_n 0, 1) := by decide +kernel
theorem dX11_note_79 : decode cX11_note 79 = .ok (.getfield 10, 3) := by decide +kernel
theorem dX11_note_82 : decode cX11_note 82 = .ok (.getfield 204, 3) := by decide +kernel
theorem dX11_note_85 : decode cX11_note 85 = .ok (.getfield 208, 3) := by decide +kernel
theorem dX11_note_88 : decode cX11_note 88 = .ok (.ireturn, 1) := by decide +kernel
theorem dX11_beaten_0 : decode cX11_beaten 0 = .ok (.aload_n 0, 1) := by decide +kernel
theorem dX11_beaten_1 : decode cX11_beaten 1 = .ok (.iload_n 1, 1) := by decide +kernel
theorem dX11_beaten_2 : decode cX11_beaten 2 = .ok (.invokevirtual 135, 3) := by decide +kernel
theorem dX11_beaten_5 : decode cX11_beaten 5 = .ok (.ifCond .eq 36, 3) := by decide +kernel
theorem dX11_beaten_8 : decode cX11_beaten 8 = .ok (.aload_n 0, 1) := by decide +kernel
theorem dX11_beaten_9 : decode cX11_beaten 9 = .ok (.iload_n 2, 1) := by decide +kernel
theorem dX11_beaten_10 : decode cX11_beaten 10 = .ok (.invokevirtual 135, 3) := by decide +kernel
theorem dX11_beaten_13 : decode cX11_beaten 13 = .ok (.ifCond .eq 28, 3) := by decide +kernel
theorem dX11_beaten_16 : decode cX11_beaten 16 = .ok (.iload_n 1, 1) := by decide +kernel
theorem dX11_beaten_17 : decode cX11_beaten 17 = .ok (.iload_n 2, 1) := by decide +kernel
theorem dX11_beaten_18 : decode cX11_beaten 18 = .ok (.if_icmp .eq 23, 3) := by decide +kernel
theorem dX11_beaten_21 : decode cX11_beaten 21 = .ok (.iload_n 3, 1) := by decide +kernel
theorem dX11_beaten_22 : decode cX11_beaten 22 = .ok (.iconst 0, 1) := by decide +kernel
theorem dX11_beaten_23 : decode cX11_beaten 23 = .ok (.iconst 2, 1) := by decide +kernel
theorem dX11_beaten_24 : decode cX11_beaten 24 = .ok (.invokestatic 64, 3) := by decide +kernel
theorem dX11_beaten_27 : decode cX11_beaten 27 = .ok (.ifCond .eq 14, 3) := by decide +kernel
theorem dX11_beaten_30 : decode cX11_beaten 30 = .ok (.iload 4, 2) := by decide +kernel
theorem dX11_beaten_32 : decode cX11_beaten 32 = .ok (.iconst 0, 1) := by decide +kernel
theorem dX11_beaten_33 : decode cX11_beaten 33 = .ok (.bipush 7, 2) := by decide +kernel
theorem dX11_beaten_35 : decode cX11_beaten 35 = .ok (.invokestatic 64, 3) := by decide +kernel
theorem dX11_beaten_38 : decode cX11_beaten 38 = .ok (.ifCond .ne 8, 3) := by decide +kernel
theorem dX11_beaten_41 : decode cX11_beaten 41 = .ok (.aload_n 0, 1) := by decide +kernel
theorem dX11_beaten_42 : decode cX11_beaten 42 = .ok (.invokevirtual 68, 3) := by decide +kernel
theorem dX11_beaten_45 : decode cX11_beaten 45 = .ok (.ireturn, 1) := by decide +kernel
theorem dX11_beaten_46 : decode cX11_beaten 46 = .ok (.aload_n 0, 1) := by decide +kernel
theorem dX11_beaten_47 : decode cX11_beaten 47 = .ok (.getfield 10, 3) := by decide +kernel
theorem dX11_beaten_50 : decode cX11_beaten 50 = .ok (.getfield 216, 3) := by decide +kernel
theorem dX11_beaten_53 : decode cX11_beaten 53 = .ok (.getfield 208, 3) := by decide +kernel
theorem dX11_beaten_56 : decode cX11_beaten 56 = .ok (.bipush 6, 2) := by decide +kernel
theorem dX11_beaten_58 : decode cX11_beaten 58 = .ok (.if_icmp .lt 8, 3) := by decide +kernel
theorem dX11_beaten_61 : decode cX11_beaten 61 = .ok (.aload_n 0, 1) := by decide +kernel
theorem dX11_beaten_62 : decode cX11_beaten 62 = .ok (.invokevirtual 87, 3) := by decide +kernel
theorem dX11_beaten_65 : decode cX11_beaten 65 = .ok (.ireturn, 1) := by decide +kernel
theorem dX11_beaten_66 : decode cX11_beaten 66 = .ok (.aload_n 0, 1) := by decide +kernel
theorem dX11_beaten_67 : decode cX11_beaten 67 = .ok (.getfield 10, 3) := by decide +kernel
theorem dX11_beaten_70 : decode cX11_beaten 70 = .ok (.getfield 216, 3) := by decide +kernel
theorem dX11_beaten_73 : decode cX11_beaten 73 = .ok (.iload_n 1, 1) := by decide +kernel
theorem dX11_beaten_74 : decode cX11_beaten 74 = .ok (.iload_n 2, 1) := by decide +kernel
theorem dX11_beaten_75 : decode cX11_beaten 75 = .ok (.iload_n 3, 1) := by decide +kernel
theorem dX11_beaten_76 : decode cX11_beaten 76 = .ok (.iload 4, 2) := by decide +kernel
theorem dX11_beaten_78 : decode cX11_beaten 78 = .ok (.invokevirtual 213, 3) := by decide +kernel
theorem dX11_beaten_81 : decode cX11_beaten 81 = .ok (.aload_n 0, 1) := by decide +kernel
theorem dX11_beaten_82 : decode cX11_beaten 82 = .ok (.getfield 10, 3) := by decide +kernel
theorem dX11_beaten_85 : decode cX11_beaten 85 = .ok (.getfield 216, 3) := by decide +kernel
theorem dX11_beaten_88 : decode cX11_beaten 88 = .ok (.getfield 208, 3) := by decide +kernel
theorem dX11_beaten_91 : decode cX11_beaten 91 = .ok (.ireturn, 1) := by decide +kernel
theorem dX11_forget_0 : decode cX11_forget 0 = .ok (.iload_n 1, 1) := by decide +kernel
theorem dX11_forget_1 : decode cX11_forget 1 = .ok (.iconst 0, 1) := by decide +kernel
theorem dX11_forget_2 : decode cX11_forget 2 = .ok (.iconst 1, 1) := by decide +kernel
theorem dX11_forget_3 : decode cX11_forget 3 = .ok (.invokestatic 64, 3) := by decide +kernel
theorem dX11_forget_6 : decode cX11_forget 6 = .ok (.ifCond .ne 8, 3) := by decide +kernel
theorem dX11_forget_9 : decode cX11_forget 9 = .ok (.aload_n 0, 1) := by decide +kernel
theorem dX11_forget_10 : decode cX11_forget 10 = .ok (.invokevirtual 68, 3) := by decide +kernel
theorem dX11_forget_13 : decode cX11_forget 13 = .ok (.ireturn, 1) := by decide +kernel
theorem dX11_forget_14 : decode cX11_forget 14 = .ok (.iload_n 1, 1) := by decide +kernel
theorem dX11_forget_15 : decode cX11_forget 15 = .ok (.ifCond .ne 13, 3) := by decide +kernel
theorem dX11_forget_18 : decode cX11_forget 18 = .ok (.aload_n 0, 1) := by decide +kernel
theorem dX11_forget_19 : decode cX11_forget 19 = .ok (.getfield 10, 3) := by decide +kernel
theorem dX11_forget_22 : decode cX11_forget 22 = .ok (.getfield 204, 3) := by decide +kernel
theorem dX11_forget_25 : decode cX11_forget 25 = .ok (.goto 10, 3) := by decide +kernel
theorem dX11_forget_28 : decode cX11_forget 28 = .ok (.aload_n 0, 1) := by decide +kernel
theorem dX11_forget_29 : decode cX11_forget 29 = .ok (.getfield 10, 3) := by decide +kernel
theorem dX11_forget_32 : decode cX11_forget 32 = .ok (.getfield 216, 3) := by decide +kernel
theorem dX11_forget_35 : decode cX11_forget 35 = .ok (.astore_n 2, 1) := by decide +kernel
theorem dX11_forget_36 : decode cX11_forget 36 = .ok (.aload_n 2, 1) := by decide +kernel
theorem dX11_forget_37 : decode cX11_forget 37 = .ok (.getfield 208, 3) := by decide +kernel
theorem dX11_forget_40 : decode cX11_forget 40 = .ok (.istore_n 3, 1) := by decide +kernel
theorem dX11_forget_41 : decode cX11_forget 41 = .ok (.aload_n 2, 1) := by decide +kernel
theorem dX11_forget_42 : decode cX11_forget 42 = .ok (.iconst 0, 1) := by decide +kernel
theorem dX11_forget_43 : decode cX11_forget 43 = .ok (.putfield 208, 3) := by decide +kernel
theorem dX11_forget_46 : decode cX11_forget 46 = .ok (.iload_n 3, 1) := by decide +kernel
theorem dX11_forget_47 : decode cX11_forget 47 = .ok (.ireturn, 1) := by decide +kernel
theorem dX11_is_0 : decode cX11_is 0 = .ok (.aload_n 0, 1) := by decide +kernel
theorem dX11_is_1 : decode cX11_is 1 = .ok (.iload_n 1, 1) := by decide +kernel
theorem dX11_is_2 : decode cX11_is 2 = .ok (.invokevirtual 135, 3) := by decide +kernel
theorem dX11_is_5 : decode cX11_is 5 = .ok (.ifCond .ne 8, 3) := by decide +kernel
theorem dX11_is_8 : decode cX11_is 8 = .ok (.aload_n 0, 1) := by decide +kernel
theorem dX11_is_9 : decode cX11_is 9 = .ok (.invokevirtual 68, 3) := by decide +kernel
theorem dX11_is_12 : decode cX11_is 12 = .ok (.ireturn, 1) := by decide +kernel
theorem dX11_is_13 : decode cX11_is 13 = .ok (.aload_n 0, 1) := by decide +kernel
theorem dX11_is_14 : decode cX11_is 14 = .ok (.getfield 30, 3) := by decide +kernel
theorem dX11_is_17 : decode cX11_is 17 = .ok (.aload_n 0, 1) := by decide +kernel
theorem dX11_is_18 : decode cX11_is 18 = .ok (.getfield 10, 3) := by decide +kernel
theorem dX11_is_21 : decode cX11_is 21 = .ok (.getfield 204, 3) := by decide +kernel
theorem dX11_is_24 : decode cX11_is 24 = .ok (.iload_n 1, 1) := by decide +kernel
theorem dX11_is_25 : decode cX11_is 25 = .ok (.invokevirtual 219, 3) := by decide +kernel
theorem dX11_is_28 : decode cX11_is 28 = .ok (.ireturn, 1) := by decide +kernel
theorem dX11_offer_0 : decode cX11_offer 0 = .ok (.aload_n 0, 1) := by decide +kernel
theorem dX11_offer_1 : decode cX11_offer 1 = .ok (.iload_n 1, 1) := by decide +kernel
theorem dX11_offer_2 : decode cX11_offer 2 = .ok (.invokevirtual 135, 3) := by decide +kernel
theorem dX11_offer_5 : decode cX11_offer 5 = .ok (.ifCond .ne 8, 3) := by decide +kernel
theorem dX11_offer_8 : decode cX11_offer 8 = .ok (.aload_n 0, 1) := by decide +kernel
theorem dX11_offer_9 : decode cX11_offer 9 = .ok (.invokevirtual 68, 3) := by decide +kernel
theorem dX11_offer_12 : decode cX11_offer 12 = .ok (.ireturn, 1) := by decide +kernel
theorem dX11_offer_13 : decode cX11_offer 13 = .ok (.iconst 0, 1) := by decide +kernel
theorem dX11_offer_14 : decode cX11_offer 14 = .ok (.bipush 7, 2) := by decide +kernel
theorem dX11_offer_16 : decode cX11_offer 16 = .ok (.aload_n 0, 1) := by decide +kernel
theorem dX11_offer_17 : decode cX11_offer 17 = .ok (.getfield 10, 3) := by decide +kernel
theorem dX11_offer_20 : decode cX11_offer 20 = .ok (.getfield 109, 3) := by decide +kernel
theorem dX11_offer_23 : decode cX11_offer 23 = .ok (.isub, 1) := by decide +kernel
theorem dX11_offer_24 : decode cX11_offer 24 = .ok (.invokestatic 223, 3) := by decide +kernel
theorem dX11_offer_27 : decode cX11_offer 27 = .ok (.istore_n 2, 1) := by decide +kernel
theorem dX11_offer_28 : decode cX11_offer 28 = .ok (.aload_n 0, 1) := by decide +kernel
theorem dX11_offer_29 : decode cX11_offer 29 = .ok (.getfield 30, 3) := by decide +kernel
theorem dX11_offer_32 : decode cX11_offer 32 = .ok (.aload_n 0, 1) := by decide +kernel
theorem dX11_offer_33 : decode cX11_offer 33 = .ok (.getfield 30, 3) := by decide +kernel
theorem dX11_offer_36 : decode cX11_offer 36 = .ok (.aload_n 0, 1) := by decide +kernel
theorem dX11_offer_37 : decode cX11_offer 37 = .ok (.getfield 10, 3) := by decide +kernel
theorem dX11_offer_40 : decode cX11_offer 40 = .ok (.getfield 204, 3) := by decide +kernel
theorem dX11_offer_43 : decode cX11_offer 43 = .ok (.iload_n 1, 1) := by decide +kernel
theorem dX11_offer_44 : decode cX11_offer 44 = .ok (.invokevirtual 219, 3) := by decide +kernel
theorem dX11_offer_47 : decode cX11_offer 47 = .ok (.iload_n 2, 1) := by decide +kernel
theorem dX11_offer_48 : decode cX11_offer 48 = .ok (.invokevirtual 228, 3) := by decide +kernel
theorem dX11_offer_51 : decode cX11_offer 51 = .ok (.ireturn, 1) := by decide +kernel
theorem dX11_may_0 : decode cX11_may 0 = .ok (.aload_n 0, 1) := by decide +kernel
theorem dX11_may_1 : decode cX11_may 1 = .ok (.iload_n 1, 1) := by decide +kernel
theorem dX11_may_2 : decode cX11_may 2 = .ok (.invokevirtual 135, 3) := by decide +kernel
theorem dX11_may_5 : decode cX11_may 5 = .ok (.ifCond .eq 12, 3) := by decide +kernel
theorem dX11_may_8 : decode cX11_may 8 = .ok (.iload_n 2, 1) := by decide +kernel
theorem dX11_may_9 : decode cX11_may 9 = .ok (.iconst 0, 1) := by decide +kernel
theorem dX11_may_10 : decode cX11_may 10 = .ok (.iconst 2, 1) := by decide +kernel
theorem dX11_may_11 : decode cX11_may 11 = .ok (.invokestatic 64, 3) := by decide +kernel
theorem dX11_may_14 : decode cX11_may 14 = .ok (.ifCond .ne 8, 3) := by decide +kernel
theorem dX11_may_17 : decode cX11_may 17 = .ok (.aload_n 0, 1) := by decide +kernel
theorem dX11_may_18 : decode cX11_may 18 = .ok (.invokevirtual 68, 3) := by decide +kernel
theorem dX11_may_21 : decode cX11_may 21 = .ok (.ireturn, 1) := by decide +kernel
theorem dX11_may_22 : decode cX11_may 22 = .ok (.iconst 0, 1) := by decide +kernel
theorem dX11_may_23 : decode cX11_may 23 = .ok (.istore_n 3, 1) := by decide +kernel
theorem dX11_may_24 : decode cX11_may 24 = .ok (.iconst 0, 1) := by decide +kernel
theorem dX11_may_25 : decode cX11_may 25 = .ok (.istore 4, 2) := by decide +kernel
theorem dX11_may_27 : decode cX11_may 27 = .ok (.iload 4, 2) := by decide +kernel
theorem dX11_may_29 : decode cX11_may 29 = .ok (.bipush 10, 2) := by decide +kernel
theorem dX11_may_31 : decode cX11_may 31 = .ok (.if_icmp .ge 34, 3) := by decide +kernel
theorem dX11_may_34 : decode cX11_may 34 = .ok (.aload_n 0, 1) := by decide +kernel
theorem dX11_may_35 : decode cX11_may 35 = .ok (.getfield 30, 3) := by decide +kernel
theorem dX11_may_38 : decode cX11_may 38 = .ok (.aload_n 0, 1) := by decide +kernel
theorem dX11_may_39 : decode cX11_may 39 = .ok (.getfield 10, 3) := by decide +kernel
theorem dX11_may_42 : decode cX11_may 42 = .ok (.iload_n 1, 1) := by decide +kernel
theorem dX11_may_43 : decode cX11_may 43 = .ok (.iload_n 2, 1) := by decide +kernel
theorem dX11_may_44 : decode cX11_may 44 = .ok (.iload 4, 2) := by decide +kernel
theorem dX11_may_46 : decode cX11_may 46 = .ok (.invokevirtual 231, 3) := by decide +kernel
theorem dX11_may_49 : decode cX11_may 49 = .ok (.ifCond .eq 10, 3) := by decide +kernel
theorem dX11_may_52 : decode cX11_may 52 = .ok (.iload_n 3, 1) := by decide +kernel
theorem dX11_may_53 : decode cX11_may 53 = .ok (.iconst 1, 1) := by decide +kernel
theorem dX11_may_54 : decode cX11_may 54 = .ok (.iload 4, 2) := by decide +kernel
theorem dX11_may_56 : decode cX11_may 56 = .ok (.ishl, 1) := by decide +kernel
theorem dX11_may_57 : decode cX11_may 57 = .ok (.ior, 1) := by decide +kernel
theorem dX11_may_58 : decode cX11_may 58 = .ok (.istore_n 3, 1) := by decide +kernel
theorem dX11_may_59 : decode cX11_may 59 = .ok (.iinc 4 1, 3) := by decide +kernel
theorem dX11_may_62 : decode cX11_may 62 = .ok (.goto (-35), 3) := by decide +kernel
theorem dX11_may_65 : decode cX11_may 65 = .ok (.iload_n 3, 1) := by decide +kernel
theorem dX11_may_66 : decode cX11_may 66 = .ok (.ireturn, 1) := by decide +kernel
theorem dX11_clash_0 : decode cX11_clash 0 = .ok (.iconst 0, 1) := by decide +kernel
theorem dX11_clash_1 : decode cX11_clash 1 = .ok (.istore_n 1, 1) := by decide +kernel
theorem dX11_clash_2 : decode cX11_clash 2 = .ok (.iconst 0, 1) := by decide +kernel
theorem dX11_clash_3 : decode cX11_clash 3 = .ok (.istore_n 2, 1) := by decide +kernel
theorem dX11_clash_4 : decode cX11_clash 4 = .ok (.iload_n 2, 1) := by decide +kernel
theorem dX11_clash_5 : decode cX11_clash 5 = .ok (.aload_n 0, 1) := by decide +kernel
theorem dX11_clash_6 : decode cX11_clash 6 = .ok (.getfield 10, 3) := by decide +kernel
theorem dX11_clash_9 : decode cX11_clash 9 = .ok (.getfield 216, 3) := by decide +kernel
theorem dX11_clash_12 : decode cX11_clash 12 = .ok (.getfield 208, 3) := by decide +kernel
theorem dX11_clash_15 : decode cX11_clash 15 = .ok (.if_icmp .ge 27, 3) := by decide +kernel
theorem dX11_clash_18 : decode cX11_clash 18 = .ok (.aload_n 0, 1) := by decide +kernel
theorem dX11_clash_19 : decode cX11_clash 19 = .ok (.getfield 30, 3) := by decide +kernel
theorem dX11_clash_22 : decode cX11_clash 22 = .ok (.aload_n 0, 1) := by decide +kernel
theorem dX11_clash_23 : decode cX11_clash 23 = .ok (.getfield 10, 3) := by decide +kernel
theorem dX11_clash_26 : decode cX11_clash 26 = .ok (.iload_n 2, 1) := by decide +kernel
theorem dX11_clash_27 : decode cX11_clash 27 = .ok (.invokevirtual 235, 3) := by decide +kernel
theorem dX11_clash_30 : decode cX11_clash 30 = .ok (.ifCond .ne 6, 3) := by decide +kernel
theorem dX11_clash_33 : decode cX11_clash 33 = .ok (.iinc 1 1, 3) := by decide +kernel
theorem dX11_clash_36 : decode cX11_clash 36 = .ok (.iinc 2 1, 3) := by decide +kernel
theorem dX11_clash_39 : decode cX11_clash 39 = .ok (.goto (-35), 3) := by decide +kernel
theorem dX11_clash_42 : decode cX11_clash 42 = .ok (.iload_n 1, 1) := by decide +kernel
theorem dX11_clash_43 : decode cX11_clash 43 = .ok (.ireturn, 1) := by decide +kernel
theorem dX11_odds_0 : decode cX11_odds 0 = .ok (.aload_n 0, 1) := by decide +kernel
theorem dX11_odds_1 : decode cX11_odds 1 = .ok (.iload_n 1, 1) := by decide +kernel
theorem dX11_odds_2 : decode cX11_odds 2 = .ok (.invokevirtual 135, 3) := by decide +kernel
theorem dX11_odds_5 : decode cX11_odds 5 = .ok (.ifCond .eq 11, 3) := by decide +kernel
theorem dX11_odds_8 : decode cX11_odds 8 = .ok (.aload_n 0, 1) := by decide +kernel
theorem dX11_odds_9 : decode cX11_odds 9 = .ok (.iload_n 2, 1) := by decide +kernel
theorem dX11_odds_10 : decode cX11_odds 10 = .ok (.invokevirtual 161, 3) := by decide +kernel
theorem dX11_odds_13 : decode cX11_odds 13 = .ok (.ifCond .ne 8, 3) := by decide +kernel
theorem dX11_odds_16 : decode cX11_odds 16 = .ok (.aload_n 0, 1) := by decide +kernel
theorem dX11_odds_17 : decode cX11_odds 17 = .ok (.invokevirtual 68, 3) := by decide +kernel
theorem dX11_odds_20 : decode cX11_odds 20 = .ok (.ireturn, 1) := by decide +kernel
theorem dX11_odds_21 : decode cX11_odds 21 = .ok (.aload_n 0, 1) := by decide +kernel
theorem dX11_odds_22 : decode cX11_odds 22 = .ok (.getfield 39, 3) := by decide +kernel
theorem dX11_odds_25 : decode cX11_odds 25 = .ok (.aload_n 0, 1) := by decide +kernel
theorem dX11_odds_26 : decode cX11_odds 26 = .ok (.getfield 10, 3) := by decide +kernel
theorem dX11_odds_29 : decode cX11_odds 29 = .ok (.invokevirtual 170, 3) := by decide +kernel
theorem dX11_odds_32 : decode cX11_odds 32 = .ok (.aload_n 0, 1) := by decide +kernel
theorem dX11_odds_33 : decode cX11_odds 33 = .ok (.getfield 39, 3) := by decide +kernel
theorem dX11_odds_36 : decode cX11_odds 36 = .ok (.iload_n 2, 1) := by decide +kernel
theorem dX11_odds_37 : decode cX11_odds 37 = .ok (.invokevirtual 173, 3) := by decide +kernel
theorem dX11_odds_40 : decode cX11_odds 40 = .ok (.aload_n 0, 1) := by decide +kernel
theorem dX11_odds_41 : decode cX11_odds 41 = .ok (.aload_n 0, 1) := by decide +kernel
theorem dX11_odds_42 : decode cX11_odds 42 = .ok (.getfield 30, 3) := by decide +kernel
theorem dX11_odds_45 : decode cX11_odds 45 = .ok (.aload_n 0, 1) := by decide +kernel
theorem dX11_odds_46 : decode cX11_odds 46 = .ok (.getfield 39, 3) := by decide +kernel
theorem dX11_odds_49 : decode cX11_odds 49 = .ok (.getfield 176, 3) := by decide +kernel
theorem dX11_odds_52 : decode cX11_odds 52 = .ok (.iload_n 1, 1) := by decide +kernel
theorem dX11_odds_53 : decode cX11_odds 53 = .ok (.iload_n 2, 1) := by decide +kernel
theorem dX11_odds_54 : decode cX11_odds 54 = .ok (.invokevirtual 238, 3) := by decide +kernel
theorem dX11_odds_57 : decode cX11_odds 57 = .ok (.aload_n 0, 1) := by decide +kernel
theorem dX11_odds_58 : decode cX11_odds 58 = .ok (.getfield 30, 3) := by decide +kernel
theorem dX11_odds_61 : decode cX11_odds 61 = .ok (.aload_n 0, 1) := by decide +kernel
theorem dX11_odds_62 : decode cX11_odds 62 = .ok (.getfield 39, 3) := by decide +kernel
theorem dX11_odds_65 : decode cX11_odds 65 = .ok (.getfield 176, 3) := by decide +kernel
theorem dX11_odds_68 : decode cX11_odds 68 = .ok (.iload_n 2, 1) := by decide +kernel
theorem dX11_odds_69 : decode cX11_odds 69 = .ok (.invokevirtual 242, 3) := by decide +kernel
theorem dX11_odds_72 : decode cX11_odds 72 = .ok (.invokevirtual 245, 3) := by decide +kernel
theorem dX11_odds_75 : decode cX11_odds 75 = .ok (.iconst 1, 1) := by decide +kernel
theorem dX11_odds_76 : decode cX11_odds 76 = .ok (.ireturn, 1) := by decide +kernel
theorem dX11_valleys_0 : decode cX11_valleys 0 = .ok (.iload_n 1, 1) := by decide +kernel
theorem dX11_valleys_1 : decode cX11_valleys 1 = .ok (.iconst 0, 1) := by decide +kernel
theorem dX11_valleys_2 : decode cX11_valleys 2 = .ok (.ldc 248, 2) := by decide +kernel
theorem dX11_valleys_4 : decode cX11_valleys 4 = .ok (.invokestatic 64, 3) := by decide +kernel
theorem dX11_valleys_7 : decode cX11_valleys 7 = .ok (.ifCond .eq 13, 3) := by decide +kernel
theorem dX11_valleys_10 : decode cX11_valleys 10 = .ok (.iload_n 2, 1) := by decide +kernel
theorem dX11_valleys_11 : decode cX11_valleys 11 = .ok (.iconst 0, 1) := by decide +kernel
theorem dX11_valleys_12 : decode cX11_valleys 12 = .ok (.bipush 60, 2) := by decide +kernel
theorem dX11_valleys_14 : decode cX11_valleys 14 = .ok (.invokestatic 64, 3) := by decide +kernel
theorem dX11_valleys_17 : decode cX11_valleys 17 = .ok (.ifCond .ne 8, 3) := by decide +kernel
theorem dX11_valleys_20 : decode cX11_valleys 20 = .ok (.aload_n 0, 1) := by decide +kernel
theorem dX11_valleys_21 : decode cX11_valleys 21 = .ok (.invokevirtual 68, 3) := by decide +kernel
theorem dX11_valleys_24 : decode cX11_valleys 24 = .ok (.ireturn, 1) := by decide +kernel
theorem dX11_valleys_25 : decode cX11_valleys 25 = .ok (.aload_n 0, 1) := by decide +kernel
theorem dX11_valleys_26 : decode cX11_valleys 26 = .ok (.getfield 39, 3) := by decide +kernel
theorem dX11_valleys_29 : decode cX11_valleys 29 = .ok (.aload_n 0, 1) := by decide +kernel
theorem dX11_valleys_30 : decode cX11_valleys 30 = .ok (.getfield 10, 3) := by decide +kernel
theorem dX11_valleys_33 : decode cX11_valleys 33 = .ok (.iload_n 1, 1) := by decide +kernel
theorem dX11_valleys_34 : decode cX11_valleys 34 = .ok (.iload_n 2, 1) := by decide +kernel
theorem dX11_valleys_35 : decode cX11_valleys 35 = .ok (.invokevirtual 249, 3) := by decide +kernel
theorem dX11_valleys_38 : decode cX11_valleys 38 = .ok (.ireturn, 1) := by decide +kernel
theorem dX11_part_0 : decode cX11_part 0 = .ok (.iload_n 1, 1) := by decide +kernel
theorem dX11_part_1 : decode cX11_part 1 = .ok (.iconst 0, 1) := by decide +kernel
theorem dX11_part_2 : decode cX11_part 2 = .ok (.iconst 1, 1) := by decide +kernel
theorem dX11_part_3 : decode cX11_part 3 = .ok (.invokestatic 64, 3) := by decide +kernel
theorem dX11_part_6 : decode cX11_part 6 = .ok (.ifCond .ne 9, 3) := by decide +kernel
theorem dX11_part_9 : decode cX11_part 9 = .ok (.aload_n 0, 1) := by decide +kernel
theorem dX11_part_10 : decode cX11_part 10 = .ok (.invokevirtual 68, 3) := by decide +kernel
theorem dX11_part_13 : decode cX11_part 13 = .ok (.i2l, 1) := by decide +kernel
theorem dX11_part_14 : decode cX11_part 14 = .ok (.lreturn, 1) := by decide +kernel
theorem dX11_part_15 : decode cX11_part 15 = .ok (.iload_n 1, 1) := by decide +kernel
theorem dX11_part_16 : decode cX11_part 16 = .ok (.ifCond .ne 10, 3) := by decide +kernel
theorem dX11_part_19 : decode cX11_part 19 = .ok (.aload_n 0, 1) := by decide +kernel
theorem dX11_part_20 : decode cX11_part 20 = .ok (.getfield 50, 3) := by decide +kernel
theorem dX11_part_23 : decode cX11_part 23 = .ok (.goto 7, 3) := by decide +kernel
theorem dX11_part_26 : decode cX11_part 26 = .ok (.aload_n 0, 1) := by decide +kernel
theorem dX11_part_27 : decode cX11_part 27 = .ok (.getfield 54, 3) := by decide +kernel
theorem dX11_part_30 : decode cX11_part 30 = .ok (.lreturn, 1) := by decide +kernel
theorem dX11_image_0 : decode cX11_image 0 = .ok (.iload_n 1, 1) := by decide +kernel
theorem dX11_image_1 : decode cX11_image 1 = .ok (.iconst 0, 1) := by decide +kernel
theorem dX11_image_2 : decode cX11_image 2 = .ok (.iconst 1, 1) := by decide +kernel
theorem dX11_image_3 : decode cX11_image 3 = .ok (.invokestatic 64, 3) := by decide +kernel
theorem dX11_image_6 : decode cX11_image 6 = .ok (.ifCond .ne 8, 3) := by decide +kernel
theorem dX11_image_9 : decode cX11_image 9 = .ok (.aload_n 0, 1) := by decide +kernel
theorem dX11_image_10 : decode cX11_image 10 = .ok (.invokevirtual 68, 3) := by decide +kernel
theorem dX11_image_13 : decode cX11_image 13 = .ok (.ireturn, 1) := by decide +kernel
theorem dX11_image_14 : decode cX11_image 14 = .ok (.aload_n 0, 1) := by decide +kernel
theorem dX11_image_15 : decode cX11_image 15 = .ok (.getfield 19, 3) := by decide +kernel
theorem dX11_image_18 : decode cX11_image 18 = .ok (.iload_n 1, 1) := by decide +kernel
theorem dX11_image_19 : decode cX11_image 19 = .ok (.aaload, 1) := by decide +kernel
theorem dX11_image_20 : decode cX11_image 20 = .ok (.aload_n 0, 1) := by decide +kernel
theorem dX11_image_21 : decode cX11_image 21 = .ok (.getfield 10, 3) := by decide +kernel
theorem dX11_image_24 : decode cX11_image 24 = .ok (.invokevirtual 105, 3) := by decide +kernel
theorem dX11_image_27 : decode cX11_image 27 = .ok (.aload_n 0, 1) := by decide +kernel
theorem dX11_image_28 : decode cX11_image 28 = .ok (.getfield 23, 3) := by decide +kernel
theorem dX11_image_31 : decode cX11_image 31 = .ok (.iload_n 1, 1) := by decide +kernel
theorem dX11_image_32 : decode cX11_image 32 = .ok (.iconst 1, 1) := by decide +kernel
theorem dX11_image_33 : decode cX11_image 33 = .ok (.bastore, 1) := by decide +kernel
theorem dX11_image_34 : decode cX11_image 34 = .ok (.iconst 1, 1) := by decide +kernel
theorem dX11_image_35 : decode cX11_image 35 = .ok (.ireturn, 1) := by decide +kernel
theorem dX11_from_0 : decode cX11_from 0 = .ok (.iload_n 1, 1) := by decide +kernel
theorem dX11_from_1 : decode cX11_from 1 = .ok (.iconst 0, 1) := by decide +kernel
theorem dX11_from_2 : decode cX11_from 2 = .ok (.iconst 1, 1) := by decide +kernel
theorem dX11_from_3 : decode cX11_from 3 = .ok (.invokestatic 64, 3) := by decide +kernel
theorem dX11_from_6 : decode cX11_from 6 = .ok (.ifCond .ne 8, 3) := by decide +kernel
theorem dX11_from_9 : decode cX11_from 9 = .ok (.aload_n 0, 1) := by decide +kernel
theorem dX11_from_10 : decode cX11_from 10 = .ok (.invokevirtual 68, 3) := by decide +kernel
theorem dX11_from_13 : decode cX11_from 13 = .ok (.ireturn, 1) := by decide +kernel
theorem dX11_from_14 : decode cX11_from 14 = .ok (.aload_n 0, 1) := by decide +kernel
theorem dX11_from_15 : decode cX11_from 15 = .ok (.getfield 23, 3) := by decide +kernel
theorem dX11_from_18 : decode cX11_from 18 = .ok (.iload_n 1, 1) := by decide +kernel
theorem dX11_from_19 : decode cX11_from 19 = .ok (.baload, 1) := by decide +kernel
theorem dX11_from_20 : decode cX11_from 20 = .ok (.ifCond .ne 8, 3) := by decide +kernel
theorem dX11_from_23 : decode cX11_from 23 = .ok (.aload_n 0, 1) := by decide +kernel
theorem dX11_from_24 : decode cX11_from 24 = .ok (.invokevirtual 112, 3) := by decide +kernel
theorem dX11_from_27 : decode cX11_from 27 = .ok (.ireturn, 1) := by decide +kernel
theorem dX11_from_28 : decode cX11_from 28 = .ok (.aload_n 0, 1) := by decide +kernel
theorem dX11_from_29 : decode cX11_from 29 = .ok (.getfield 10, 3) := by decide +kernel
theorem dX11_from_32 : decode cX11_from 32 = .ok (.aload_n 0, 1) := by decide +kernel
theorem dX11_from_33 : decode cX11_from 33 = .ok (.getfield 19, 3) := by decide +kernel
theorem dX11_from_36 : decode cX11_from 36 = .ok (.iload_n 1, 1) := by decide +kernel
theorem dX11_from_37 : decode cX11_from 37 = .ok (.aaload, 1) := by decide +kernel
theorem dX11_from_38 : decode cX11_from 38 = .ok (.invokevirtual 105, 3) := by decide +kernel
theorem dX11_from_41 : decode cX11_from 41 = .ok (.iconst 1, 1) := by decide +kernel
theorem dX11_from_42 : decode cX11_from 42 = .ok (.ireturn, 1) := by decide +kernel
theorem dX11_status_0 : decode cX11_status 0 = .ok (.iload_n 1, 1) := by decide +kernel
theorem dX11_status_1 : decode cX11_status 1 = .ok (.tableswitch 42 0 2 #[27, 32, 37], 27) := by decide +kernel
theorem dX11_status_28 : decode cX11_status 28 = .ok (.aload_n 0, 1) := by decide +kernel
theorem dX11_status_29 : decode cX11_status 29 = .ok (.getfield 252, 3) := by decide +kernel
theorem dX11_status_32 : decode cX11_status 32 = .ok (.ireturn, 1) := by decide +kernel
theorem dX11_status_33 : decode cX11_status 33 = .ok (.aload_n 0, 1) := by decide +kernel
theorem dX11_status_34 : decode cX11_status 34 = .ok (.getfield 255, 3) := by decide +kernel
theorem dX11_status_37 : decode cX11_status 37 = .ok (.ireturn, 1) := by decide +kernel
theorem dX11_status_38 : decode cX11_status 38 = .ok (.aload_n 0, 1) := by decide +kernel
theorem dX11_status_39 : decode cX11_status 39 = .ok (.getfield 258, 3) := by decide +kernel
theorem dX11_status_42 : decode cX11_status 42 = .ok (.ireturn, 1) := by decide +kernel
theorem dX11_status_43 : decode cX11_status 43 = .ok (.aload_n 0, 1) := by decide +kernel
theorem dX11_status_44 : decode cX11_status 44 = .ok (.invokevirtual 68, 3) := by decide +kernel
theorem dX11_status_47 : decode cX11_status 47 = .ok (.pop, 1) := by decide +kernel
theorem dX11_status_48 : decode cX11_status 48 = .ok (.iconst (-1), 1) := by decide +kernel
theorem dX11_status_49 : decode cX11_status 49 = .ok (.ireturn, 1) := by decide +kernel
theorem dX11_count_0 : decode cX11_count 0 = .ok (.iload_n 1, 1) := by decide +kernel
theorem dX11_count_1 : decode cX11_count 1 = .ok (.iconst 0, 1) := by decide +kernel
theorem dX11_count_2 : decode cX11_count 2 = .ok (.bipush 7, 2) := by decide +kernel
theorem dX11_count_4 : decode cX11_count 4 = .ok (.invokestatic 64, 3) := by decide +kernel
theorem dX11_count_7 : decode cX11_count 7 = .ok (.ifCond .ne 8, 3) := by decide +kernel
theorem dX11_count_10 : decode cX11_count 10 = .ok (.aload_n 0, 1) := by decide +kernel
theorem dX11_count_11 : decode cX11_count 11 = .ok (.invokevirtual 68, 3) := by decide +kernel
theorem dX11_count_14 : decode cX11_count 14 = .ok (.ireturn, 1) := by decide +kernel
theorem dX11_count_15 : decode cX11_count 15 = .ok (.aload_n 0, 1) := by decide +kernel
theorem dX11_count_16 : decode cX11_count 16 = .ok (.iload_n 1, 1) := by decide +kernel
theorem dX11_count_17 : decode cX11_count 17 = .ok (.invokevirtual 261, 3) := by decide +kernel
theorem dX11_count_20 : decode cX11_count 20 = .ok (.ireturn, 1) := by decide +kernel
theorem dX11_digest_0 : decode cX11_digest 0 = .ok (.ldc2_w 264, 3) := by decide +kernel
theorem dX11_digest_3 : decode cX11_digest 3 = .ok (.lstore_n 1, 1) := by decide +kernel
theorem dX11_digest_4 : decode cX11_digest 4 = .ok (.iconst 0, 1) := by decide +kernel
theorem dX11_digest_5 : decode cX11_digest 5 = .ok (.istore_n 3, 1) := by decide +kernel
theorem dX11_digest_6 : decode cX11_digest 6 = .ok (.iload_n 3, 1) := by decide +kernel
theorem dX11_digest_7 : decode cX11_digest 7 = .ok (.bipush 8, 2) := by decide +kernel
theorem dX11_digest_9 : decode cX11_digest 9 = .ok (.if_icmp .ge 22, 3) := by decide +kernel
theorem dX11_digest_12 : decode cX11_digest 12 = .ok (.ldc2_w 266, 3) := by decide +kernel
theorem dX11_digest_15 : decode cX11_digest 15 = .ok (.lload_n 1, 1) := by decide +kernel
theorem dX11_digest_16 : decode cX11_digest 16 = .ok (.lmul, 1) := by decide +kernel
theorem dX11_digest_17 : decode cX11_digest 17 = .ok (.aload_n 0, 1) := by decide +kernel
theorem dX11_digest_18 : decode cX11_digest 18 = .ok (.iload_n 3, 1) := by decide +kernel
theorem dX11_digest_19 : decode cX11_digest 19 = .ok (.invokevirtual 261, 3) := by decide +kernel
theorem dX11_digest_22 : decode cX11_digest 22 = .ok (.i2l, 1) := by decide +kernel
theorem dX11_digest_23 : decode cX11_digest 23 = .ok (.ladd, 1) := by decide +kernel
theorem dX11_digest_24 : decode cX11_digest 24 = .ok (.lstore_n 1, 1) := by decide +kernel
theorem dX11_digest_25 : decode cX11_digest 25 = .ok (.iinc 3 1, 3) := by decide +kernel
theorem dX11_digest_28 : decode cX11_digest 28 = .ok (.goto (-22), 3) := by decide +kernel
theorem dX11_digest_31 : decode cX11_digest 31 = .ok (.aload_n 0, 1) := by decide +kernel
theorem dX11_digest_32 : decode cX11_digest 32 = .ok (.getfield 10, 3) := by decide +kernel
theorem dX11_digest_35 : decode cX11_digest 35 = .ok (.lload_n 1, 1) := by decide +kernel
theorem dX11_digest_36 : decode cX11_digest 36 = .ok (.invokevirtual 268, 3) := by decide +kernel
theorem dX11_digest_39 : decode cX11_digest 39 = .ok (.lstore_n 1, 1) := by decide +kernel
theorem dX11_digest_40 : decode cX11_digest 40 = .ok (.ldc2_w 266, 3) := by decide +kernel
theorem dX11_digest_43 : decode cX11_digest 43 = .ok (.lload_n 1, 1) := by decide +kernel
theorem dX11_digest_44 : decode cX11_digest 44 = .ok (.lmul, 1) := by decide +kernel
theorem dX11_digest_45 : decode cX11_digest 45 = .ok (.aload_n 0, 1) := by decide +kernel
theorem dX11_digest_46 : decode cX11_digest 46 = .ok (.getfield 50, 3) := by decide +kernel
theorem dX11_digest_49 : decode cX11_digest 49 = .ok (.ladd, 1) := by decide +kernel
theorem dX11_digest_50 : decode cX11_digest 50 = .ok (.lstore_n 1, 1) := by decide +kernel
theorem dX11_digest_51 : decode cX11_digest 51 = .ok (.ldc2_w 266, 3) := by decide +kernel
theorem dX11_digest_54 : decode cX11_digest 54 = .ok (.lload_n 1, 1) := by decide +kernel
theorem dX11_digest_55 : decode cX11_digest 55 = .ok (.lmul, 1) := by decide +kernel
theorem dX11_digest_56 : decode cX11_digest 56 = .ok (.aload_n 0, 1) := by decide +kernel
theorem dX11_digest_57 : decode cX11_digest 57 = .ok (.getfield 54, 3) := by decide +kernel
theorem dX11_digest_60 : decode cX11_digest 60 = .ok (.ladd, 1) := by decide +kernel
theorem dX11_digest_61 : decode cX11_digest 61 = .ok (.lreturn, 1) := by decide +kernel
theorem dX11_within_0 : decode cX11_within 0 = .ok (.iload_n 0, 1) := by decide +kernel
theorem dX11_within_1 : decode cX11_within 1 = .ok (.iload_n 1, 1) := by decide +kernel
theorem dX11_within_2 : decode cX11_within 2 = .ok (.if_icmp .lt 12, 3) := by decide +kernel
theorem dX11_within_5 : decode cX11_within 5 = .ok (.iload_n 0, 1) := by decide +kernel
theorem dX11_within_6 : decode cX11_within 6 = .ok (.iload_n 2, 1) := by decide +kernel
theorem dX11_within_7 : decode cX11_within 7 = .ok (.if_icmp .gt 7, 3) := by decide +kernel
theorem dX11_within_10 : decode cX11_within 10 = .ok (.iconst 1, 1) := by decide +kernel
theorem dX11_within_11 : decode cX11_within 11 = .ok (.goto 4, 3) := by decide +kernel
theorem dX11_within_14 : decode cX11_within 14 = .ok (.iconst 0, 1) := by decide +kernel
theorem dX11_within_15 : decode cX11_within 15 = .ok (.ireturn, 1) := by decide +kernel
theorem dX11_isArt_0 : decode cX11_isArt 0 = .ok (.iload_n 0, 1) := by decide +kernel
theorem dX11_isArt_1 : decode cX11_isArt 1 = .ok (.iconst 0, 1) := by decide +kernel
theorem dX11_isArt_2 : decode cX11_isArt 2 = .ok (.bipush 9, 2) := by decide +kernel
theorem dX11_isArt_4 : decode cX11_isArt 4 = .ok (.invokestatic 64, 3) := by decide +kernel
theorem dX11_isArt_7 : decode cX11_isArt 7 = .ok (.ireturn, 1) := by decide +kernel
theorem dX11_isOne_0 : decode cX11_isOne 0 = .ok (.iload_n 1, 1) := by decide +kernel
theorem dX11_isOne_1 : decode cX11_isOne 1 = .ok (.iconst 0, 1) := by decide +kernel
theorem dX11_isOne_2 : decode cX11_isOne 2 = .ok (.aload_n 0, 1) := by decide +kernel
theorem dX11_isOne_3 : decode cX11_isOne 3 = .ok (.getfield 10, 3) := by decide +kernel
theorem dX11_isOne_6 : decode cX11_isOne 6 = .ok (.getfield 57, 3) := by decide +kernel
theorem dX11_isOne_9 : decode cX11_isOne 9 = .ok (.iconst 1, 1) := by decide +kernel
theorem dX11_isOne_10 : decode cX11_isOne 10 = .ok (.isub, 1) := by decide +kernel
theorem dX11_isOne_11 : decode cX11_isOne 11 = .ok (.invokestatic 64, 3) := by decide +kernel
theorem dX11_isOne_14 : decode cX11_isOne 14 = .ok (.ireturn, 1) := by decide +kernel
theorem dX11_isToCome_0 : decode cX11_isToCome 0 = .ok (.iload_n 1, 1) := by decide +kernel
theorem dX11_isToCome_1 : decode cX11_isToCome 1 = .ok (.aload_n 0, 1) := by decide +kernel
theorem dX11_isToCome_2 : decode cX11_isToCome 2 = .ok (.getfield 10, 3) := by decide +kernel
theorem dX11_isToCome_5 : decode cX11_isToCome 5 = .ok (.getfield 109, 3) := by decide +kernel
theorem dX11_isToCome_8 : decode cX11_isToCome 8 = .ok (.bipush 7, 2) := by decide +kernel
theorem dX11_isToCome_10 : decode cX11_isToCome 10 = .ok (.invokestatic 64, 3) := by decide +kernel
theorem dX11_isToCome_13 : decode cX11_isToCome 13 = .ok (.ireturn, 1) := by decide +kernel
theorem dX11_bad_0 : decode cX11_bad 0 = .ok (.aload_n 0, 1) := by decide +kernel
theorem dX11_bad_1 : decode cX11_bad 1 = .ok (.dup, 1) := by decide +kernel
theorem dX11_bad_2 : decode cX11_bad 2 = .ok (.getfield 252, 3) := by decide +kernel
theorem dX11_bad_5 : decode cX11_bad 5 = .ok (.iconst 1, 1) := by decide +kernel
theorem dX11_bad_6 : decode cX11_bad 6 = .ok (.iadd, 1) := by decide +kernel
theorem dX11_bad_7 : decode cX11_bad 7 = .ok (.putfield 252, 3) := by decide +kernel
theorem dX11_bad_10 : decode cX11_bad 10 = .ok (.bipush (-2), 2) := by decide +kernel
theorem dX11_bad_12 : decode cX11_bad 12 = .ok (.ireturn, 1) := by decide +kernel
theorem dX11_no_0 : decode cX11_no 0 = .ok (.aload_n 0, 1) := by decide +kernel
theorem dX11_no_1 : decode cX11_no 1 = .ok (.dup, 1) := by decide +kernel
theorem dX11_no_2 : decode cX11_no 2 = .ok (.getfield 255, 3) := by decide +kernel
theorem dX11_no_5 : decode cX11_no 5 = .ok (.iconst 1, 1) := by decide +kernel
theorem dX11_no_6 : decode cX11_no 6 = .ok (.iadd, 1) := by decide +kernel
theorem dX11_no_7 : decode cX11_no 7 = .ok (.putfield 255, 3) := by decide +kernel
theorem dX11_no_10 : decode cX11_no 10 = .ok (.bipush (-3), 2) := by decide +kernel
theorem dX11_no_12 : decode cX11_no 12 = .ok (.ireturn, 1) := by decide +kernel
theorem dX11_full_0 : decode cX11_full 0 = .ok (.aload_n 0, 1) := by decide +kernel
theorem dX11_full_1 : decode cX11_full 1 = .ok (.dup, 1) := by decide +kernel
theorem dX11_full_2 : decode cX11_full 2 = .ok (.getfield 258, 3) := by decide +kernel
theorem dX11_full_5 : decode cX11_full 5 = .ok (.iconst 1, 1) := by decide +kernel
theorem dX11_full_6 : decode cX11_full 6 = .ok (.iadd, 1) := by decide +kernel
theorem dX11_full_7 : decode cX11_full 7 = .ok (.putfield 258, 3) := by decide +kernel
theorem dX11_full_10 : decode cX11_full 10 = .ok (.bipush (-4), 2) := by decide +kernel
theorem dX11_full_12 : decode cX11_full 12 = .ok (.ireturn, 1) := by decide +kernel
theorem dX11_amount_0 : decode cX11_amount 0 = .ok (.iload_n 1, 1) := by decide +kernel
theorem dX11_amount_1 : decode cX11_amount 1 = .ok (.tableswitch 105 0 6 #[43, 51, 59, 67, 75, 86, 97], 43) := by decide +kernel
theorem dX11_amount_44 : decode cX11_amount 44 = .ok (.aload_n 0, 1) := by decide +kernel
theorem dX11_amount_45 : decode cX11_amount 45 = .ok (.getfield 10, 3) := by decide +kernel
theorem dX11_amount_48 : decode cX11_amount 48 = .ok (.getfield 57, 3) := by decide +kernel
theorem dX11_amount_51 : decode cX11_amount 51 = .ok (.ireturn, 1) := by decide +kernel
theorem dX11_amount_52 : decode cX11_amount 52 = .ok (.aload_n 0, 1) := by decide +kernel
theorem dX11_amount_53 : decode cX11_amount 53 = .ok (.getfield 10, 3) := by decide +kernel
theorem dX11_amount_56 : decode cX11_amount 56 = .ok (.getfield 109, 3) := by decide +kernel
theorem dX11_amount_59 : decode cX11_amount 59 = .ok (.ireturn, 1) := by decide +kernel
theorem dX11_amount_60 : decode cX11_amount 60 = .ok (.aload_n 0, 1) := by decide +kernel
theorem dX11_amount_61 : decode cX11_amount 61 = .ok (.getfield 10, 3) := by decide +kernel
theorem dX11_amount_64 : decode cX11_amount 64 = .ok (.invokevirtual 272, 3) := by decide +kernel
theorem dX11_amount_67 : decode cX11_amount 67 = .ok (.ireturn, 1) := by decide +kernel
theorem dX11_amount_68 : decode cX11_amount 68 = .ok (.aload_n 0, 1) := by decide +kernel
theorem dX11_amount_69 : decode cX11_amount 69 = .ok (.getfield 10, 3) := by decide +kernel
theorem dX11_amount_72 : decode cX11_amount 72 = .ok (.invokevirtual 275, 3) := by decide +kernel
theorem dX11_amount_75 : decode cX11_amount 75 = .ok (.ireturn, 1) := by decide +kernel
theorem dX11_amount_76 : decode cX11_amount 76 = .ok (.aload_n 0, 1) := by decide +kernel
theorem dX11_amount_77 : decode cX11_amount 77 = .ok (.getfield 10, 3) := by decide +kernel
theorem dX11_amount_80 : decode cX11_amount 80 = .ok (.getfield 204, 3) := by decide +kernel
theorem dX11_amount_83 : decode cX11_amount 83 = .ok (.getfield 208, 3) := by decide +kernel
theorem dX11_amount_86 : decode cX11_amount 86 = .ok (.ireturn, 1) := by decide +kernel
theorem dX11_amount_87 : decode cX11_amount 87 = .ok (.aload_n 0, 1) := by decide +kernel
theorem dX11_amount_88 : decode cX11_amount 88 = .ok (.getfield 10, 3) := by decide +kernel
theorem dX11_amount_91 : decode cX11_amount 91 = .ok (.getfield 216, 3) := by decide +kernel
theorem dX11_amount_94 : decode cX11_amount 94 = .ok (.getfield 208, 3) := by decide +kernel
theorem dX11_amount_97 : decode cX11_amount 97 = .ok (.ireturn, 1) := by decide +kernel
theorem dX11_amount_98 : decode cX11_amount 98 = .ok (.aload_n 0, 1) := by decide +kernel
theorem dX11_amount_99 : decode cX11_amount 99 = .ok (.getfield 10, 3) := by decide +kernel
theorem dX11_amount_102 : decode cX11_amount 102 = .ok (.getfield 80, 3) := by decide +kernel
theorem dX11_amount_105 : decode cX11_amount 105 = .ok (.ireturn, 1) := by decide +kernel
theorem dX11_amount_106 : decode cX11_amount 106 = .ok (.aload_n 0, 1) := by decide +kernel
theorem dX11_amount_107 : decode cX11_amount 107 = .ok (.getfield 46, 3) := by decide +kernel
theorem dX11_amount_110 : decode cX11_amount 110 = .ok (.getfield 94, 3) := by decide +kernel
theorem dX11_amount_113 : decode cX11_amount 113 = .ok (.ireturn, 1) := by decide +kernel
theorem dX11_setFraction_0 : decode cX11_setFraction 0 = .ok (.aload_n 0, 1) := by decide +kernel
theorem dX11_setFraction_1 : decode cX11_setFraction 1 = .ok (.lconst 0, 1) := by decide +kernel
theorem dX11_setFraction_2 : decode cX11_setFraction 2 = .ok (.putfield 50, 3) := by decide +kernel
theorem dX11_setFraction_5 : decode cX11_setFraction 5 = .ok (.aload_n 0, 1) := by decide +kernel
theorem dX11_setFraction_6 : decode cX11_setFraction 6 = .ok (.lconst 1, 1) := by decide +kernel
theorem dX11_setFraction_7 : decode cX11_setFraction 7 = .ok (.putfield 54, 3) := by decide +kernel
theorem dX11_setFraction_10 : decode cX11_setFraction 10 = .ok (.iload_n 1, 1) := by decide +kernel
theorem dX11_setFraction_11 : decode cX11_setFraction 11 = .ok (.ifCond .le 7, 3) := by decide +kernel
theorem dX11_setFraction_14 : decode cX11_setFraction 14 = .ok (.iload_n 2, 1) := by decide +kernel
theorem dX11_setFraction_15 : decode cX11_setFraction 15 = .ok (.ifCond .gt 4, 3) := by decide +kernel
theorem dX11_setFraction_18 : decode cX11_setFraction 18 = .ok (.return_, 1) := by decide +kernel
theorem dX11_setFraction_19 : decode cX11_setFraction 19 = .ok (.iconst 1, 1) := by decide +kernel
theorem dX11_setFraction_20 : decode cX11_setFraction 20 = .ok (.istore_n 3, 1) := by decide +kernel
theorem dX11_setFraction_21 : decode cX11_setFraction 21 = .ok (.iconst 2, 1) := by decide +kernel
theorem dX11_setFraction_22 : decode cX11_setFraction 22 = .ok (.istore 4, 2) := by decide +kernel
theorem dX11_setFraction_24 : decode cX11_setFraction 24 = .ok (.iload 4, 2) := by decide +kernel
theorem dX11_setFraction_26 : decode cX11_setFraction 26 = .ok (.iload_n 1, 1) := by decide +kernel
theorem dX11_setFraction_27 : decode cX11_setFraction 27 = .ok (.if_icmp .gt 26, 3) := by decide +kernel
theorem dX11_setFraction_30 : decode cX11_setFraction 30 = .ok (.iload_n 1, 1) := by decide +kernel
theorem dX11_setFraction_31 : decode cX11_setFraction 31 = .ok (.iload 4, 2) := by decide +kernel
theorem dX11_setFraction_33 : decode cX11_setFraction 33 = .ok (.irem, 1) := by decide +kernel
theorem dX11_setFraction_34 : decode cX11_setFraction 34 = .ok (.ifCond .ne 13, 3) := by decide +kernel
theorem dX11_setFraction_37 : decode cX11_setFraction 37 = .ok (.iload_n 2, 1) := by decide +kernel
theorem dX11_setFraction_38 : decode cX11_setFraction 38 = .ok (.iload 4, 2) := by decide +kernel
theorem dX11_setFraction_40 : decode cX11_setFraction 40 = .ok (.irem, 1) := by decide +kernel
theorem dX11_setFraction_41 : decode cX11_setFraction 41 = .ok (.ifCond .ne 6, 3) := by decide +kernel
theorem dX11_setFraction_44 : decode cX11_setFraction 44 = .ok (.iload 4, 2) := by decide +kernel
theorem dX11_setFraction_46 : decode cX11_setFraction 46 = .ok (.istore_n 3, 1) := by decide +kernel
theorem dX11_setFraction_47 : decode cX11_setFraction 47 = .ok (.iinc 4 1, 3) := by decide +kernel
theorem dX11_setFraction_50 : decode cX11_setFraction 50 = .ok (.goto (-26), 3) := by decide +kernel
theorem dX11_setFraction_53 : decode cX11_setFraction 53 = .ok (.aload_n 0, 1) := by decide +kernel
theorem dX11_setFraction_54 : decode cX11_setFraction 54 = .ok (.iload_n 1, 1) := by decide +kernel
theorem dX11_setFraction_55 : decode cX11_setFraction 55 = .ok (.iload_n 3, 1) := by decide +kernel
theorem dX11_setFraction_56 : decode cX11_setFraction 56 = .ok (.idiv, 1) := by decide +kernel
theorem dX11_setFraction_57 : decode cX11_setFraction 57 = .ok (.i2l, 1) := by decide +kernel
theorem dX11_setFraction_58 : decode cX11_setFraction 58 = .ok (.putfield 50, 3) := by decide +kernel
theorem dX11_setFraction_61 : decode cX11_setFraction 61 = .ok (.aload_n 0, 1) := by decide +kernel
theorem dX11_setFraction_62 : decode cX11_setFraction 62 = .ok (.iload_n 2, 1) := by decide +kernel
theorem dX11_setFraction_63 : decode cX11_setFraction 63 = .ok (.iload_n 3, 1) := by decide +kernel
theorem dX11_setFraction_64 : decode cX11_setFraction 64 = .ok (.idiv, 1) := by decide +kernel
theorem dX11_setFraction_65 : decode cX11_setFraction 65 = .ok (.i2l, 1) := by decide +kernel
theorem dX11_setFraction_66 : decode cX11_setFraction 66 = .ok (.putfield 54, 3) := by decide +kernel
theorem dX11_setFraction_69 : decode cX11_setFraction 69 = .ok (.return_, 1) := by decide +kernel
theorem dX12_init_0 : decode cX12_init 0 = .ok (.aload_n 0, 1) := by decide +kernel
theorem dX12_init_1 : decode cX12_init 1 = .ok (.invokespecial 1, 3) := by decide +kernel
theorem dX12_init_4 : decode cX12_init 4 = .ok (.aload_n 0, 1) := by decide +kernel
theorem dX12_init_5 : decode cX12_init 5 = .ok (.sipush 209, 3) := by decide +kernel
theorem dX12_init_8 : decode cX12_init 8 = .ok (.newarray .int, 2) := by decide +kernel
theorem dX12_init_10 : decode cX12_init 10 = .ok (.putfield 7, 3) := by decide +kernel
theorem dX12_init_13 : decode cX12_init 13 = .ok (.aload_n 0, 1) := by decide +kernel
theorem dX12_init_14 : decode cX12_init 14 = .ok (.sipush 418, 3) := by decide +kernel
theorem dX12_init_17 : decode cX12_init 17 = .ok (.newarray .int, 2) := by decide +kernel
theorem dX12_init_19 : decode cX12_init 19 = .ok (.putfield 13, 3) := by decide +kernel
theorem dX12_init_22 : decode cX12_init 22 = .ok (.aload_n 0, 1) := by decide +kernel
theorem dX12_init_23 : decode cX12_init 23 = .ok (.iconst 2, 1) := by decide +kernel
theorem dX12_init_24 : decode cX12_init 24 = .ok (.newarray .boolean, 2) := by decide +kernel
theorem dX12_init_26 : decode cX12_init 26 = .ok (.putfield 16, 3) := by decide +kernel
theorem dX12_init_29 : decode cX12_init 29 = .ok (.aload_n 0, 1) := by decide +kernel
theorem dX12_init_30 : decode cX12_init 30 = .ok (.iconst 3, 1) := by decide +kernel
theorem dX12_init_31 : decode cX12_init 31 = .ok (.newarray .int, 2) := by decide +kernel
theorem dX12_init_33 : decode cX12_init 33 = .ok (.putfield 20, 3) := by decide +kernel
theorem dX12_init_36 : decode cX12_init 36 = .ok (.aload_n 0, 1) := by decide +kernel
theorem dX12_init_37 : decode cX12_init 37 = .ok (.lconst 1, 1) := by decide +kernel
theorem dX12_init_38 : decode cX12_init 38 = .ok (.putfield 23, 3) := by decide +kernel
theorem dX12_init_41 : decode cX12_init 41 = .ok (.aload_n 0, 1) := by decide +kernel
theorem dX12_init_42 : decode cX12_init 42 = .ok (.bipush 6, 2) := by decide +kernel
theorem dX12_init_44 : decode cX12_init 44 = .ok (.newarray .int, 2) := by decide +kernel
theorem dX12_init_46 : decode cX12_init 46 = .ok (.putfield 27, 3) := by decide +kernel
theorem dX12_init_49 : decode cX12_init 49 = .ok (.aload_n 0, 1) := by decide +kernel
theorem dX12_init_50 : decode cX12_init 50 = .ok (.bipush 6, 2) := by decide +kernel
theorem dX12_init_52 : decode cX12_init 52 = .ok (.newarray .int, 2) := by decide +kernel
theorem dX12_init_54 : decode cX12_init 54 = .ok (.putfield 30, 3) := by decide +kernel
theorem dX12_init_57 : decode cX12_init 57 = .ok (.aload_n 0, 1) := by decide +kernel
theorem dX12_init_58 : decode cX12_init 58 = .ok (.bipush 8, 2) := by decide +kernel
theorem dX12_init_60 : decode cX12_init 60 = .ok (.newarray .int, 2) := by decide +kernel
theorem dX12_init_62 : decode cX12_init 62 = .ok (.putfield 33, 3) := by decide +kernel
theorem dX12_init_65 : decode cX12_init 65 = .ok (.aload_n 0, 1) := by decide +kernel
theorem dX12_init_66 : decode cX12_init 66 = .ok (.bipush 8, 2) := by decide +kernel
theorem dX12_init_68 : decode cX12_init 68 = .ok (.newarray .int, 2) := by decide +kernel
theorem dX12_init_70 : decode cX12_init 70 = .ok (.putfield 36, 3) := by decide +kernel
theorem dX12_init_73 : decode cX12_init 73 = .ok (.aload_n 0, 1) := by decide +kernel
theorem dX12_init_74 : decode cX12_init 74 = .ok (.bipush 6, 2) := by decide +kernel
theorem dX12_init_76 : decode cX12_init 76 = .ok (.newarray .int, 2) := by decide +kernel
theorem dX12_init_78 : decode cX12_init 78 = .ok (.putfield 39, 3) := by decide +kernel
theorem dX12_init_81 : decode cX12_init 81 = .ok (.aload_n 0, 1) := by decide +kernel
theorem dX12_init_82 : decode cX12_init 82 = .ok (.bipush 64, 2) := by decide +kernel
theorem dX12_init_84 : decode cX12_init 84 = .ok (.newarray .int, 2) := by decide +kernel
theorem dX12_init_86 : decode cX12_init 86 = .ok (.putfield 42, 3) := by decide +kernel
theorem dX12_init_89 : decode cX12_init 89 = .ok (.aload_n 0, 1) := by decide +kernel
theorem dX12_init_90 : decode cX12_init 90 = .ok (.bipush 64, 2) := by decide +kernel
theorem dX12_init_92 : decode cX12_init 92 = .ok (.newarray .int, 2) := by decide +kernel
theorem dX12_init_94 : decode cX12_init 94 = .ok (.putfield 45, 3) := by decide +kernel
theorem dX12_init_97 : decode cX12_init 97 = .ok (.aload_n 0, 1) := by decide +kernel
theorem dX12_init_98 : decode cX12_init 98 = .ok (.sipush 150, 3) := by decide +kernel
theorem dX12_init_101 : decode cX12_init 101 = .ok (.newarray .int, 2) := by decide +kernel
theorem dX12_init_103 : decode cX12_init 103 = .ok (.putfield 48, 3) := by decide +kernel
theorem dX12_init_106 : decode cX12_init 106 = .ok (.aload_n 0, 1) := by decide +kernel
theorem dX12_init_107 : decode cX12_init 107 = .ok (.bipush 105, 2) := by decide +kernel
theorem dX12_init_109 : decode cX12_init 109 = .ok (.newarray .int, 2) := by decide +kernel
theorem dX12_init_111 : decode cX12_init 111 = .ok (.putfield 51, 3) := by decide +kernel
theorem dX12_init_114 : decode cX12_init 114 = .ok (.aload_n 0, 1) := by decide +kernel
theorem dX12_init_115 : decode cX12_init 115 = .ok (.iconst 4, 1) := by decide +kernel
theorem dX12_init_116 : decode cX12_init 116 = .ok (.newarray .int, 2) := by decide +kernel
theorem dX12_init_118 : decode cX12_init 118 = .ok (.putfield 54, 3) := by decide +kernel
theorem dX12_init_121 : decode cX12_init 121 = .ok (.aload_n 0, 1) := by decide +kernel
theorem dX12_init_122 : decode cX12_init 122 = .ok (.getfield 7, 3) := by decide +kernel
theorem dX12_init_125 : decode cX12_init 125 = .ok (.invokestatic 57, 3) := by decide +kernel
theorem dX12_init_128 : decode cX12_init 128 = .ok (.return_, 1) := by decide +kernel
theorem dX12_in_0 : decode cX12_in 0 = .ok (.lload_n 0, 1) := by decide +kernel
theorem dX12_in_1 : decode cX12_in 1 = .ok (.lload_n 2, 1) := by decide +kernel
theorem dX12_in_2 : decode cX12_in 2 = .ok (.lcmp, 1) := by decide +kernel
theorem dX12_in_3 : decode cX12_in 3 = .ok (.ifCond .lt 14, 3) := by decide +kernel
theorem dX12_in_6 : decode cX12_in 6 = .ok (.lload_n 0, 1) := by decide +kernel
theorem dX12_in_7 : decode cX12_in 7 = .ok (.lload 4, 2) := by decide +kernel
theorem dX12_in_9 : decode cX12_in 9 = .ok (.lcmp, 1) := by decide +kernel
theorem dX12_in_10 : decode cX12_in 10 = .ok (.ifCond .gt 7, 3) := by decide +kernel
theorem dX12_in_13 : decode cX12_in 13 = .ok (.iconst 1, 1) := by decide +kernel
theorem dX12_in_14 : decode cX12_in 14 = .ok (.goto 4, 3) := by decide +kernel
theorem dX12_in_17 : decode cX12_in 17 = .ok (.iconst 0, 1) := by decide +kernel
theorem dX12_in_18 : decode cX12_in 18 = .ok (.ireturn, 1) := by decide +kernel
theorem dX12_bad_0 : decode cX12_bad 0 = .ok (.aload_n 0, 1) := by decide +kernel
theorem dX12_bad_1 : decode cX12_bad 1 = .ok (.getfield 20, 3) := by decide +kernel
theorem dX12_bad_4 : decode cX12_bad 4 = .ok (.iconst 0, 1) := by decide +kernel
theorem dX12_bad_5 : decode cX12_bad 5 = .ok (.dup2, 1) := by decide +kernel
theorem dX12_bad_6 : decode cX12_bad 6 = .ok (.iaload, 1) := by decide +kernel
theorem dX12_bad_7 : decode cX12_bad 7 = .ok (.iconst 1, 1) := by decide +kernel
theorem dX12_bad_8 : decode cX12_bad 8 = .ok (.iadd, 1) := by decide +kernel
theorem dX12_bad_9 : decode cX12_bad 9 = .ok (.iastore, 1) := by decide +kernel
theorem dX12_bad_10 : decode cX12_bad 10 = .ok (.iload_n 1, 1) := by decide +kernel
theorem dX12_bad_11 : decode cX12_bad 11 = .ok (.ireturn, 1) := by decide +kernel
theorem dX12_no_0 : decode cX12_no 0 = .ok (.aload_n 0, 1) := by decide +kernel
theorem dX12_no_1 : decode cX12_no 1 = .ok (.getfield 20, 3) := by decide +kernel
theorem dX12_no_4 : decode cX12_no 4 = .ok (.iconst 1, 1) := by decide +kernel
theorem dX12_no_5 : decode cX12_no 5 = .ok (.dup2, 1) := by decide +kernel
theorem dX12_no_6 : decode cX12_no 6 = .ok (.iaload, 1) := by decide +kernel
theorem dX12_no_7 : decode cX12_no 7 = .ok (.iconst 1, 1) := by decide +kernel
theorem dX12_no_8 : decode cX12_no 8 = .ok (.iadd, 1) := by decide +kernel
theorem dX12_no_9 : decode cX12_no 9 = .ok (.iastore, 1) := by decide +kernel
theorem dX12_no_10 : decode cX12_no 10 = .ok (.bipush (-3), 2) := by decide +kernel
theorem dX12_no_12 : decode cX12_no 12 = .ok (.ireturn, 1) := by decide +kernel
theorem dX12_full_0 : decode cX12_full 0 = .ok (.aload_n 0, 1) := by decide +kernel
theorem dX12_full_1 : decode cX12_full 1 = .ok (.getfield 20, 3) := by decide +kernel
theorem dX12_full_4 : decode cX12_full 4 = .ok (.iconst 2, 1) := by decide +kernel
theorem dX12_full_5 : decode cX12_full 5 = .ok (.dup2, 1) := by decide +kernel
theorem dX12_full_6 : decode cX12_full 6 = .ok (.iaload, 1) := by decide +kernel
theorem dX12_full_7 : decode cX12_full 7 = .ok (.iconst 1, 1) := by decide +kernel
theorem dX12_full_8 : decode cX12_full 8 = .ok (.iadd, 1) := by decide +kernel
theorem dX12_full_9 : decode cX12_full 9 = .ok (.iastore, 1) := by decide +kernel
theorem dX12_full_10 : decode cX12_full 10 = .ok (.bipush (-4), 2) := by decide +kernel
theorem dX12_full_12 : decode cX12_full 12 = .ok (.ireturn, 1) := by decide +kernel
theorem dX12_bits_0 : decode cX12_bits 0 = .ok (.iconst 0, 1) := by decide +kernel
theorem dX12_bits_1 : decode cX12_bits 1 = .ok (.istore_n 1, 1) := by decide +kernel
theorem dX12_bits_2 : decode cX12_bits 2 = .ok (.iload_n 0, 1) := by decide +kernel
theorem dX12_bits_3 : decode cX12_bits 3 = .ok (.istore_n 2, 1) := by decide +kernel
theorem dX12_bits_4 : decode cX12_bits 4 = .ok (.iload_n 2, 1) := by decide +kernel
theorem dX12_bits_5 : decode cX12_bits 5 = .ok (.ifCond .le 16, 3) := by decide +kernel
theorem dX12_bits_8 : decode cX12_bits 8 = .ok (.iload_n 1, 1) := by decide +kernel
theorem dX12_bits_9 : decode cX12_bits 9 = .ok (.iload_n 2, 1) := by decide +kernel
theorem dX12_bits_10 : decode cX12_bits 10 = .ok (.iconst 1, 1) := by decide +kernel
theorem dX12_bits_11 : decode cX12_bits 11 = .ok (.iand, 1) := by decide +kernel
theorem dX12_bits_12 : decode cX12_bits 12 = .ok (.iadd, 1) := by decide +kernel
theorem dX12_bits_13 : decode cX12_bits 13 = .ok (.istore_n 1, 1) := by decide +kernel
theorem dX12_bits_14 : decode cX12_bits 14 = .ok (.iload_n 2, 1) := by decide +kernel
theorem dX12_bits_15 : decode cX12_bits 15 = .ok (.iconst 1, 1) := by decide +kernel
theorem dX12_bits_16 : decode cX12_bits 16 = .ok (.ishr, 1) := by decide +kernel
theorem dX12_bits_17 : decode cX12_bits 17 = .ok (.istore_n 2, 1) := by decide +kernel
theorem dX12_bits_18 : decode cX12_bits 18 = .ok (.goto (-14), 3) := by decide +kernel
theorem dX12_bits_21 : decode cX12_bits 21 = .ok (.iload_n 1, 1) := by decide +kernel
theorem dX12_bits_22 : decode cX12_bits 22 = .ok (.ireturn, 1) := by decide +kernel
theorem dX12_has_0 : decode cX12_has 0 = .ok (.iload_n 0, 1) := by decide +kernel
theorem dX12_has_1 : decode cX12_has 1 = .ok (.iload_n 1, 1) := by decide +kernel
theorem dX12_has_2 : decode cX12_has 2 = .ok (.ishr, 1) := by decide +kernel
theorem dX12_has_3 : decode cX12_has 3 = .ok (.iconst 1, 1) := by decide +kernel
theorem dX12_has_4 : decode cX12_has 4 = .ok (.iand, 1) := by decide +kernel
theorem dX12_has_5 : decode cX12_has 5 = .ok (.iconst 1, 1) := by decide +kernel
theorem dX12_has_6 : decode cX12_has 6 = .ok (.if_icmp .ne 7, 3) := by decide +kernel
theorem dX12_has_9 : decode cX12_has 9 = .ok (.iconst 1, 1) := by decide +kernel
theorem dX12_has_10 : decode cX12_has 10 = .ok (.goto 4, 3) := by decide +kernel
theorem dX12_has_13 : decode cX12_has 13 = .ok (.iconst 0, 1) := by decide +kernel
theorem dX12_has_14 : decode cX12_has 14 = .ok (.ireturn, 1) := by decide +kernel
theorem dX12_begin_0 : decode cX12_begin 0 = .ok (.iconst 0, 1) := by decide +kernel
theorem dX12_begin_1 : decode cX12_begin 1 = .ok (.istore_n 1, 1) := by decide +kernel
theorem dX12_begin_2 : decode cX12_begin 2 = .ok (.iload_n 1, 1) := by decide +kernel
theorem dX12_begin_3 : decode cX12_begin 3 = .ok (.bipush 105, 2) := by decide +kernel
theorem dX12_begin_5 : decode cX12_begin 5 = .ok (.if_icmp .ge 13, 3) := by decide +kernel
theorem dX12_begin_8 : decode cX12_begin 8 = .ok (.aload_n 0, 1) := by decide +kernel
theorem dX12_begin_9 : decode cX12_begin 9 = .ok (.iload_n 1, 1) := by decide +kernel
theorem dX12_begin_10 : decode cX12_begin 10 = .ok (.iconst 0, 1) := by decide +kernel
theorem dX12_begin_11 : decode cX12_begin 11 = .ok (.iastore, 1) := by decide +kernel
theorem dX12_begin_12 : decode cX12_begin 12 = .ok (.iinc 1 1, 3) := by decide +kernel
theorem dX12_begin_15 : decode cX12_begin 15 = .ok (.goto (-13), 3) := by decide +kernel
theorem dX12_begin_18 : decode cX12_begin 18 = .ok (.iconst 0, 1) := by decide +kernel
theorem dX12_begin_19 : decode cX12_begin 19 = .ok (.istore_n 1, 1) := by decide +kernel
theorem dX12_begin_20 : decode cX12_begin 20 = .ok (.iload_n 1, 1) := by decide +kernel
theorem dX12_begin_21 : decode cX12_begin 21 = .ok (.bipush 8, 2) := by decide +kernel
theorem dX12_begin_23 : decode cX12_begin 23 = .ok (.if_icmp .ge 16, 3) := by decide +kernel
theorem dX12_begin_26 : decode cX12_begin 26 = .ok (.aload_n 0, 1) := by decide +kernel
theorem dX12_begin_27 : decode cX12_begin 27 = .ok (.bipush 41, 2) := by decide +kernel
theorem dX12_begin_29 : decode cX12_begin 29 = .ok (.iload_n 1, 1) := by decide +kernel
theorem dX12_begin_30 : decode cX12_begin 30 = .ok (.iadd, 1) := by decide +kernel
theorem dX12_begin_31 : decode cX12_begin 31 = .ok (.iconst (-1), 1) := by decide +kernel
theorem dX12_begin_32 : decode cX12_begin 32 = .ok (.iastore, 1) := by decide +kernel
theorem dX12_begin_33 : decode cX12_begin 33 = .ok (.iinc 1 1, 3) := by decide +kernel
theorem dX12_begin_36 : decode cX12_begin 36 = .ok (.goto (-16), 3) := by decide +kernel
theorem dX12_begin_39 : decode cX12_begin 39 = .ok (.return_, 1) := by decide +kernel
theorem dX12_many_0 : decode cX12_many 0 = .ok (.aload_n 0, 1) := by decide +kernel
theorem dX12_many_1 : decode cX12_many 1 = .ok (.getfield 7, 3) := by decide +kernel
theorem dX12_many_4 : decode cX12_many 4 = .ok (.iconst 0, 1) := by decide +kernel
theorem dX12_many_5 : decode cX12_many 5 = .ok (.iaload, 1) := by decide +kernel
theorem dX12_many_6 : decode cX12_many 6 = .ok (.ireturn, 1) := by decide +kernel
theorem dX12_isOne_0 : decode cX12_isOne 0 = .ok (.iload_n 1, 1) := by decide +kernel
theorem dX12_isOne_1 : decode cX12_isOne 1 = .ok (.i2l, 1) := by decide +kernel
theorem dX12_isOne_2 : decode cX12_isOne 2 = .ok (.lconst 0, 1) := by decide +kernel
theorem dX12_isOne_3 : decode cX12_isOne 3 = .ok (.aload_n 0, 1) := by decide +kernel
theorem dX12_isOne_4 : decode cX12_isOne 4 = .ok (.invokevirtual 61, 3) := by decide +kernel
theorem dX12_isOne_7 : decode cX12_isOne 7 = .ok (.iconst 1, 1) := by decide +kernel
theorem dX12_isOne_8 : decode cX12_isOne 8 = .ok (.isub, 1) := by decide +kernel
theorem dX12_isOne_9 : decode cX12_isOne 9 = .ok (.i2l, 1) := by decide +kernel
theorem dX12_isOne_10 : decode cX12_isOne 10 = .ok (.invokestatic 65, 3) := by decide +kernel
theorem dX12_isOne_13 : decode cX12_isOne 13 = .ok (.ireturn, 1) := by decide +kernel
theorem dX12_isYear_0 : decode cX12_isYear 0 = .ok (.iload_n 0, 1) := by decide +kernel
theorem dX12_isYear_1 : decode cX12_isYear 1 = .ok (.i2l, 1) := by decide +kernel
theorem dX12_isYear_2 : decode cX12_isYear 2 = .ok (.lconst 0, 1) := by decide +kernel
theorem dX12_isYear_3 : decode cX12_isYear 3 = .ok (.ldc2_w 69, 3) := by decide +kernel
theorem dX12_isYear_6 : decode cX12_isYear 6 = .ok (.invokestatic 65, 3) := by decide +kernel
theorem dX12_isYear_9 : decode cX12_isYear 9 = .ok (.ireturn, 1) := by decide +kernel
theorem dX12_isToCome_0 : decode cX12_isToCome 0 = .ok (.iload_n 1, 1) := by decide +kernel
theorem dX12_isToCome_1 : decode cX12_isToCome 1 = .ok (.i2l, 1) := by decide +kernel
theorem dX12_isToCome_2 : decode cX12_isToCome 2 = .ok (.aload_n 0, 1) := by decide +kernel
theorem dX12_isToCome_3 : decode cX12_isToCome 3 = .ok (.getfield 7, 3) := by decide +kernel
theorem dX12_isToCome_6 : decode cX12_isToCome 6 = .ok (.iconst 4, 1) := by decide +kernel
theorem dX12_isToCome_7 : decode cX12_isToCome 7 = .ok (.iaload, 1) := by decide +kernel
theorem dX12_isToCome_8 : decode cX12_isToCome 8 = .ok (.i2l, 1) := by decide +kernel
theorem dX12_isToCome_9 : decode cX12_isToCome 9 = .ok (.ldc2_w 69, 3) := by decide +kernel
theorem dX12_isToCome_12 : decode cX12_isToCome 12 = .ok (.invokestatic 65, 3) := by decide +kernel
theorem dX12_isToCome_15 : decode cX12_isToCome 15 = .ok (.ireturn, 1) := by decide +kernel
theorem dX12_isSort_0 : decode cX12_isSort 0 = .ok (.iload_n 0, 1) := by decide +kernel
theorem dX12_isSort_1 : decode cX12_isSort 1 = .ok (.i2l, 1) := by decide +kernel
theorem dX12_isSort_2 : decode cX12_isSort 2 = .ok (.lconst 0, 1) := by decide +kernel
theorem dX12_isSort_3 : decode cX12_isSort 3 = .ok (.ldc2_w 71, 3) := by decide +kernel
theorem dX12_isSort_6 : decode cX12_isSort 6 = .ok (.invokestatic 65, 3) := by decide +kernel
theorem dX12_isSort_9 : decode cX12_isSort 9 = .ok (.ireturn, 1) := by decide +kernel
theorem dX12_valley_0 : decode cX12_valley 0 = .ok (.aload_n 0, 1) := by decide +kernel
theorem dX12_valley_1 : decode cX12_valley 1 = .ok (.invokevirtual 61, 3) := by decide +kernel
theorem dX12_valley_4 : decode cX12_valley 4 = .ok (.istore_n 1, 1) := by decide +kernel
theorem dX12_valley_5 : decode cX12_valley 5 = .ok (.aload_n 0, 1) := by decide +kernel
theorem dX12_valley_6 : decode cX12_valley 6 = .ok (.getfield 7, 3) := by decide +kernel
theorem dX12_valley_9 : decode cX12_valley 9 = .ok (.invokestatic 57, 3) := by decide +kernel
theorem dX12_valley_12 : decode cX12_valley 12 = .ok (.iload_n 1, 1) := by decide +kernel
theorem dX12_valley_13 : decode cX12_valley 13 = .ok (.ireturn, 1) := by decide +kernel
theorem dX12_prize_0 : decode cX12_prize 0 = .ok (.iload_n 1, 1) := by decide +kernel
theorem dX12_prize_1 : decode cX12_prize 1 = .ok (.invokestatic 73, 3) := by decide +kernel
theorem dX12_prize_4 : decode cX12_prize 4 = .ok (.ifCond .eq 22, 3) := by decide +kernel
theorem dX12_prize_7 : decode cX12_prize 7 = .ok (.iload_n 2, 1) := by decide +kernel
theorem dX12_prize_8 : decode cX12_prize 8 = .ok (.invokestatic 77, 3) := by decide +kernel
theorem dX12_prize_11 : decode cX12_prize 11 = .ok (.ifCond .eq 15, 3) := by decide +kernel
theorem dX12_prize_14 : decode cX12_prize 14 = .ok (.iload_n 3, 1) := by decide +kernel
theorem dX12_prize_15 : decode cX12_prize 15 = .ok (.i2l, 1) := by decide +kernel
theorem dX12_prize_16 : decode cX12_prize 16 = .ok (.lconst 1, 1) := by decide +kernel
theorem dX12_prize_17 : decode cX12_prize 17 = .ok (.ldc2_w 80, 3) := by decide +kernel
theorem dX12_prize_20 : decode cX12_prize 20 = .ok (.invokestatic 65, 3) := by decide +kernel
theorem dX12_prize_23 : decode cX12_prize 23 = .ok (.ifCond .ne 10, 3) := by decide +kernel
theorem dX12_prize_26 : decode cX12_prize 26 = .ok (.aload_n 0, 1) := by decide +kernel
theorem dX12_prize_27 : decode cX12_prize 27 = .ok (.bipush (-2), 2) := by decide +kernel
theorem dX12_prize_29 : decode cX12_prize 29 = .ok (.invokevirtual 82, 3) := by decide +kernel
theorem dX12_prize_32 : decode cX12_prize 32 = .ok (.ireturn, 1) := by decide +kernel
theorem dX12_prize_33 : decode cX12_prize 33 = .ok (.aload_n 0, 1) := by decide +kernel
theorem dX12_prize_34 : decode cX12_prize 34 = .ok (.getfield 7, 3) := by decide +kernel
theorem dX12_prize_37 : decode cX12_prize 37 = .ok (.bipush 49, 2) := by decide +kernel
theorem dX12_prize_39 : decode cX12_prize 39 = .ok (.iload_n 1, 1) := by decide +kernel
theorem dX12_prize_40 : decode cX12_prize 40 = .ok (.iadd, 1) := by decide +kernel
theorem dX12_prize_41 : decode cX12_prize 41 = .ok (.iaload, 1) := by decide +kernel
theorem dX12_prize_42 : decode cX12_prize 42 = .ok (.istore 4, 2) := by decide +kernel
theorem dX12_prize_44 : decode cX12_prize 44 = .ok (.aload_n 0, 1) := by decide +kernel
theorem dX12_prize_45 : decode cX12_prize 45 = .ok (.getfield 7, 3) := by decide +kernel
theorem dX12_prize_48 : decode cX12_prize 48 = .ok (.bipush 41, 2) := by decide +kernel
theorem dX12_prize_50 : decode cX12_prize 50 = .ok (.iload_n 1, 1) := by decide +kernel
theorem dX12_prize_51 : decode cX12_prize 51 = .ok (.iadd, 1) := by decide +kernel
theorem dX12_prize_52 : decode cX12_prize 52 = .ok (.iload_n 2, 1) := by decide +kernel
theorem dX12_prize_53 : decode cX12_prize 53 = .ok (.iastore, 1) := by decide +kernel
theorem dX12_prize_54 : decode cX12_prize 54 = .ok (.aload_n 0, 1) := by decide +kernel
theorem dX12_prize_55 : decode cX12_prize 55 = .ok (.getfield 7, 3) := by decide +kernel
theorem dX12_prize_58 : decode cX12_prize 58 = .ok (.bipush 49, 2) := by decide +kernel
theorem dX12_prize_60 : decode cX12_prize 60 = .ok (.iload_n 1, 1) := by decide +kernel
theorem dX12_prize_61 : decode cX12_prize 61 = .ok (.iadd, 1) := by decide +kernel
theorem dX12_prize_62 : decode cX12_prize 62 = .ok (.iload_n 3, 1) := by decide +kernel
theorem dX12_prize_63 : decode cX12_prize 63 = .ok (.iastore, 1) := by decide +kernel
theorem dX12_prize_64 : decode cX12_prize 64 = .ok (.aload_n 0, 1) := by decide +kernel
theorem dX12_prize_65 : decode cX12_prize 65 = .ok (.getfield 7, 3) := by decide +kernel
theorem dX12_prize_68 : decode cX12_prize 68 = .ok (.iconst 3, 1) := by decide +kernel
theorem dX12_prize_69 : decode cX12_prize 69 = .ok (.iconst 0, 1) := by decide +kernel
theorem dX12_prize_70 : decode cX12_prize 70 = .ok (.iastore, 1) := by decide +kernel
theorem dX12_prize_71 : decode cX12_prize 71 = .ok (.iload 4, 2) := by decide +kernel
theorem dX12_prize_73 : decode cX12_prize 73 = .ok (.ireturn, 1) := by decide +kernel
theorem dX12_layOne_0 : decode cX12_layOne 0 = .ok (.aload_n 0, 1) := by decide +kernel
theorem dX12_layOne_1 : decode cX12_layOne 1 = .ok (.iconst 0, 1) := by decide +kernel
theorem dX12_layOne_2 : decode cX12_layOne 2 = .ok (.iaload, 1) := by decide +kernel
theorem dX12_layOne_3 : decode cX12_layOne 3 = .ok (.istore 5, 2) := by decide +kernel
theorem dX12_layOne_5 : decode cX12_layOne 5 = .ok (.aload_n 0, 1) := by decide +kernel
theorem dX12_layOne_6 : decode cX12_layOne 6 = .ok (.bipush 17, 2) := by decide +kernel
theorem dX12_layOne_8 : decode cX12_layOne 8 = .ok (.iload 5, 2) := by decide +kernel
theorem dX12_layOne_10 : decode cX12_layOne 10 = .ok (.iadd, 1) := by decide +kernel
theorem dX12_layOne_11 : decode cX12_layOne 11 = .ok (.iload_n 1, 1) := by decide +kernel
theorem dX12_layOne_12 : decode cX12_layOne 12 = .ok (.iastore, 1) := by decide +kernel
theorem dX12_layOne_13 : decode cX12_layOne 13 = .ok (.aload_n 0, 1) := by decide +kernel
theorem dX12_layOne_14 : decode cX12_layOne 14 = .ok (.bipush 23, 2) := by decide +kernel
theorem dX12_layOne_16 : decode cX12_layOne 16 = .ok (.iconst 3, 1) := by decide +kernel
theorem dX12_layOne_17 : decode cX12_layOne 17 = .ok (.iload 5, 2) := by decide +kernel
theorem dX12_layOne_19 : decode cX12_layOne 19 = .ok (.imul, 1) := by decide +kernel
theorem dX12_layOne_20 : decode cX12_layOne 20 = .ok (.iadd, 1) := by decide +kernel
theorem dX12_layOne_21 : decode cX12_layOne 21 = .ok (.iload_n 2, 1) := by decide +kernel
theorem dX12_layOne_22 : decode cX12_layOne 22 = .ok (.iastore, 1) := by decide +kernel
theorem dX12_layOne_23 : decode cX12_layOne 23 = .ok (.aload_n 0, 1) := by decide +kernel
theorem dX12_layOne_24 : decode cX12_layOne 24 = .ok (.bipush 23, 2) := by decide +kernel
theorem dX12_layOne_26 : decode cX12_layOne 26 = .ok (.iconst 3, 1) := by decide +kernel
theorem dX12_layOne_27 : decode cX12_layOne 27 = .ok (.iload 5, 2) := by decide +kernel
theorem dX12_layOne_29 : decode cX12_layOne 29 = .ok (.imul, 1) := by decide +kernel
theorem dX12_layOne_30 : decode cX12_layOne 30 = .ok (.iadd, 1) := by decide +kernel
theorem dX12_layOne_31 : decode cX12_layOne 31 = .ok (.iconst 1, 1) := by decide +kernel
theorem dX12_layOne_32 : decode cX12_layOne 32 = .ok (.iadd, 1) := by decide +kernel
theorem dX12_layOne_33 : decode cX12_layOne 33 = .ok (.iload_n 3, 1) := by decide +kernel
theorem dX12_layOne_34 : decode cX12_layOne 34 = .ok (.iastore, 1) := by decide +kernel
theorem dX12_layOne_35 : decode cX12_layOne 35 = .ok (.aload_n 0, 1) := by decide +kernel
theorem dX12_layOne_36 : decode cX12_layOne 36 = .ok (.bipush 23, 2) := by decide +kernel
theorem dX12_layOne_38 : decode cX12_layOne 38 = .ok (.iconst 3, 1) := by decide +kernel
theorem dX12_layOne_39 : decode cX12_layOne 39 = .ok (.iload 5, 2) := by decide +kernel
theorem dX12_layOne_41 : decode cX12_layOne 41 = .ok (.imul, 1) := by decide +kernel
theorem dX12_layOne_42 : decode cX12_layOne 42 = .ok (.iadd, 1) := by decide +kernel
theorem dX12_layOne_43 : decode cX12_layOne 43 = .ok (.iconst 2, 1) := by decide +kernel
theorem dX12_layOne_44 : decode cX12_layOne 44 = .ok (.iadd, 1) := by decide +kernel
theorem dX12_layOne_45 : decode cX12_layOne 45 = .ok (.iload 4, 2) := by decide +kernel
theorem dX12_layOne_47 : decode cX12_layOne 47 = .ok (.iastore, 1) := by decide +kernel
theorem dX12_layOne_48 : decode cX12_layOne 48 = .ok (.aload_n 0, 1) := by decide +kernel
theorem dX12_layOne_49 : decode cX12_layOne 49 = .ok (.iconst 5, 1) := by decide +kernel
theorem dX12_layOne_50 : decode cX12_layOne 50 = .ok (.iload 5, 2) := by decide +kernel
theorem dX12_layOne_52 : decode cX12_layOne 52 = .ok (.iadd, 1) := by decide +kernel
theorem dX12_layOne_53 : decode cX12_layOne 53 = .ok (.iconst 0, 1) := by decide +kernel
theorem dX12_layOne_54 : decode cX12_layOne 54 = .ok (.iastore, 1) := by decide +kernel
theorem dX12_layOne_55 : decode cX12_layOne 55 = .ok (.aload_n 0, 1) := by decide +kernel
theorem dX12_layOne_56 : decode cX12_layOne 56 = .ok (.bipush 11, 2) := by decide +kernel
theorem dX12_layOne_58 : decode cX12_layOne 58 = .ok (.iload 5, 2) := by decide +kernel
theorem dX12_layOne_60 : decode cX12_layOne 60 = .ok (.iadd, 1) := by decide +kernel
theorem dX12_layOne_61 : decode cX12_layOne 61 = .ok (.iconst 0, 1) := by decide +kernel
theorem dX12_layOne_62 : decode cX12_layOne 62 = .ok (.iastore, 1) := by decide +kernel
theorem dX12_layOne_63 : decode cX12_layOne 63 = .ok (.aload_n 0, 1) := by decide +kernel
theorem dX12_layOne_64 : decode cX12_layOne 64 = .ok (.iconst 0, 1) := by decide +kernel
theorem dX12_layOne_65 : decode cX12_layOne 65 = .ok (.dup2, 1) := by decide +kernel
theorem dX12_layOne_66 : decode cX12_layOne 66 = .ok (.iaload, 1) := by decide +kernel
theorem dX12_layOne_67 : decode cX12_layOne 67 = .ok (.iconst 1, 1) := by decide +kernel
theorem dX12_layOne_68 : decode cX12_layOne 68 = .ok (.iadd, 1) := by decide +kernel
theorem dX12_layOne_69 : decode cX12_layOne 69 = .ok (.iastore, 1) := by decide +kernel
theorem dX12_layOne_70 : decode cX12_layOne 70 = .ok (.return_, 1) := by decide +kernel
theorem dX12_one_0 : decode cX12_one 0 = .ok (.iload_n 1, 1) := by decide +kernel
theorem dX12_one_1 : decode cX12_one 1 = .ok (.i2l, 1) := by decide +kernel
theorem dX12_one_2 : decode cX12_one 2 = .ok (.lconst 0, 1) := by decide +kernel
theorem dX12_one_3 : decode cX12_one 3 = .ok (.ldc2_w 86, 3) := by decide +kernel
theorem dX12_one_6 : decode cX12_one 6 = .ok (.invokestatic 65, 3) := by decide +kernel
theorem dX12_one_9 : decode cX12_one 9 = .ok (.ifCond .eq 40, 3) := by decide +kernel
theorem dX12_one_12 : decode cX12_one 12 = .ok (.iload_n 2, 1) := by decide +kernel
theorem dX12_one_13 : decode cX12_one 13 = .ok (.i2l, 1) := by decide +kernel
theorem dX12_one_14 : decode cX12_one 14 = .ok (.lconst 0, 1) := by decide +kernel
theorem dX12_one_15 : decode cX12_one 15 = .ok (.ldc2_w 88, 3) := by decide +kernel
theorem dX12_one_18 : decode cX12_one 18 = .ok (.invokestatic 65, 3) := by decide +kernel
theorem dX12_one_21 : decode cX12_one 21 = .ok (.ifCond .eq 28, 3) := by decide +kernel
theorem dX12_one_24 : decode cX12_one 24 = .ok (.iload_n 3, 1) := by decide +kernel
theorem dX12_one_25 : decode cX12_one 25 = .ok (.i2l, 1) := by decide +kernel
theorem dX12_one_26 : decode cX12_one 26 = .ok (.lconst 0, 1) := by decide +kernel
theorem dX12_one_27 : decode cX12_one 27 = .ok (.ldc2_w 88, 3) := by decide +kernel
theorem dX12_one_30 : decode cX12_one 30 = .ok (.invokestatic 65, 3) := by decide +kernel
theorem dX12_one_33 : decode cX12_one 33 = .ok (.ifCond .eq 16, 3) := by decide +kernel
theorem dX12_one_36 : decode cX12_one 36 = .ok (.iload 4, 2) := by decide +kernel
theorem dX12_one_38 : decode cX12_one 38 = .ok (.i2l, 1) := by decide +kernel
theorem dX12_one_39 : decode cX12_one 39 = .ok (.lconst 0, 1) := by decide +kernel
theorem dX12_one_40 : decode cX12_one 40 = .ok (.ldc2_w 88, 3) := by decide +kernel
theorem dX12_one_43 : decode cX12_one 43 = .ok (.invokestatic 65, 3) := by decide +kernel
theorem dX12_one_46 : decode cX12_one 46 = .ok (.ifCond .ne 10, 3) := by decide +kernel
theorem dX12_one_49 : decode cX12_one 49 = .ok (.aload_n 0, 1) := by decide +kernel
theorem dX12_one_50 : decode cX12_one 50 = .ok (.bipush (-2), 2) := by decide +kernel
theorem dX12_one_52 : decode cX12_one 52 = .ok (.invokevirtual 82, 3) := by decide +kernel
theorem dX12_one_55 : decode cX12_one 55 = .ok (.ireturn, 1) := by decide +kernel
theorem dX12_one_56 : decode cX12_one 56 = .ok (.aload_n 0, 1) := by decide +kernel
theorem dX12_one_57 : decode cX12_one 57 = .ok (.invokevirtual 61, 3) := by decide +kernel
theorem dX12_one_60 : decode cX12_one 60 = .ok (.bipush 6, 2) := by decide +kernel
theorem dX12_one_62 : decode cX12_one 62 = .ok (.if_icmp .ne 8, 3) := by decide +kernel
theorem dX12_one_65 : decode cX12_one 65 = .ok (.aload_n 0, 1) := by decide +kernel
theorem dX12_one_66 : decode cX12_one 66 = .ok (.invokevirtual 90, 3) := by decide +kernel
theorem dX12_one_69 : decode cX12_one 69 = .ok (.ireturn, 1) := by decide +kernel
theorem dX12_one_70 : decode cX12_one 70 = .ok (.aload_n 0, 1) := by decide +kernel
theorem dX12_one_71 : decode cX12_one 71 = .ok (.getfield 7, 3) := by decide +kernel
theorem dX12_one_74 : decode cX12_one 74 = .ok (.iload_n 1, 1) := by decide +kernel
theorem dX12_one_75 : decode cX12_one 75 = .ok (.iload_n 2, 1) := by decide +kernel
theorem dX12_one_76 : decode cX12_one 76 = .ok (.iload_n 3, 1) := by decide +kernel
theorem dX12_one_77 : decode cX12_one 77 = .ok (.iload 4, 2) := by decide +kernel
theorem dX12_one_79 : decode cX12_one 79 = .ok (.invokestatic 93, 3) := by decide +kernel
theorem dX12_one_82 : decode cX12_one 82 = .ok (.aload_n 0, 1) := by decide +kernel
theorem dX12_one_83 : decode cX12_one 83 = .ok (.getfield 7, 3) := by decide +kernel
theorem dX12_one_86 : decode cX12_one 86 = .ok (.iconst 3, 1) := by decide +kernel
theorem dX12_one_87 : decode cX12_one 87 = .ok (.iconst 0, 1) := by decide +kernel
theorem dX12_one_88 : decode cX12_one 88 = .ok (.iastore, 1) := by decide +kernel
theorem dX12_one_89 : decode cX12_one 89 = .ok (.aload_n 0, 1) := by decide +kernel
theorem dX12_one_90 : decode cX12_one 90 = .ok (.invokevirtual 61, 3) := by decide +kernel
theorem dX12_one_93 : decode cX12_one 93 = .ok (.iconst 1, 1) := by decide +kernel
theorem dX12_one_94 : decode cX12_one 94 = .ok (.isub, 1) := by decide +kernel
theorem dX12_one_95 : decode cX12_one 95 = .ok (.ireturn, 1) := by decide +kernel
theorem dX12_triesAs_0 : decode cX12_triesAs 0 = .ok (.iload_n 1, 1) := by decide +kernel
theorem dX12_triesAs_1 : decode cX12_triesAs 1 = .ok (.bipush 15, 2) := by decide +kernel
theorem dX12_triesAs_3 : decode cX12_triesAs 3 = .ok (.if_icmp .ge 8, 3) := by decide +kernel
theorem dX12_triesAs_6 : decode cX12_triesAs 6 = .ok (.iload_n 2, 1) := by decide +kernel
theorem dX12_triesAs_7 : decode cX12_triesAs 7 = .ok (.iconst 1, 1) := by decide +kernel
theorem dX12_triesAs_8 : decode cX12_triesAs 8 = .ok (.if_icmp .gt 7, 3) := by decide +kernel
theorem dX12_triesAs_11 : decode cX12_triesAs 11 = .ok (.iconst 1, 1) := by decide +kernel
theorem dX12_triesAs_12 : decode cX12_triesAs 12 = .ok (.goto 4, 3) := by decide +kernel
theorem dX12_triesAs_15 : decode cX12_triesAs 15 = .ok (.iconst 0, 1) := by decide +kernel
theorem dX12_triesAs_16 : decode cX12_triesAs 16 = .ok (.istore_n 3, 1) := by decide +kernel
theorem dX12_triesAs_17 : decode cX12_triesAs 17 = .ok (.iload_n 0, 1) := by decide +kernel
theorem dX12_triesAs_18 : decode cX12_triesAs 18 = .ok (.iconst 3, 1) := by decide +kernel
theorem dX12_triesAs_19 : decode cX12_triesAs 19 = .ok (.if_icmp .ne 21, 3) := by decide +kernel
theorem dX12_triesAs_22 : decode cX12_triesAs 22 = .ok (.iload_n 3, 1) := by decide +kernel
theorem dX12_triesAs_23 : decode cX12_triesAs 23 = .ok (.ifCond .eq 13, 3) := by decide +kernel
theorem dX12_triesAs_26 : decode cX12_triesAs 26 = .ok (.iload_n 1, 1) := by decide +kernel
theorem dX12_triesAs_27 : decode cX12_triesAs 27 = .ok (.bipush 8, 2) := by decide +kernel
theorem dX12_triesAs_29 : decode cX12_triesAs 29 = .ok (.if_icmp .lt 7, 3) := by decide +kernel
theorem dX12_triesAs_32 : decode cX12_triesAs 32 = .ok (.iconst 1, 1) := by decide +kernel
theorem dX12_triesAs_33 : decode cX12_triesAs 33 = .ok (.goto 26, 3) := by decide +kernel
theorem dX12_triesAs_36 : decode cX12_triesAs 36 = .ok (.iconst 0, 1) := by decide +kernel
theorem dX12_triesAs_37 : decode cX12_triesAs 37 = .ok (.goto 22, 3) := by decide +kernel
theorem dX12_triesAs_40 : decode cX12_triesAs 40 = .ok (.iload_n 0, 1) := by decide +kernel
theorem dX12_triesAs_41 : decode cX12_triesAs 41 = .ok (.iconst 1, 1) := by decide +kernel
theorem dX12_triesAs_42 : decode cX12_triesAs 42 = .ok (.if_icmp .eq 8, 3) := by decide +kernel
theorem dX12_triesAs_45 : decode cX12_triesAs 45 = .ok (.iload_n 0, 1) := by decide +kernel
theorem dX12_triesAs_46 : decode cX12_triesAs 46 = .ok (.iconst 5, 1) := by decide +kernel
theorem dX12_triesAs_47 : decode cX12_triesAs 47 = .ok (.if_icmp .ne 7, 3) := by decide +kernel
theorem dX12_triesAs_50 : decode cX12_triesAs 50 = .ok (.iload_n 3, 1) := by decide +kernel
theorem dX12_triesAs_51 : decode cX12_triesAs 51 = .ok (.ifCond .eq 7, 3) := by decide +kernel
theorem dX12_triesAs_54 : decode cX12_triesAs 54 = .ok (.iconst 1, 1) := by decide +kernel
theorem dX12_triesAs_55 : decode cX12_triesAs 55 = .ok (.goto 4, 3) := by decide +kernel
theorem dX12_triesAs_58 : decode cX12_triesAs 58 = .ok (.iconst 0, 1) := by decide +kernel
theorem dX12_triesAs_59 : decode cX12_triesAs 59 = .ok (.ireturn, 1) := by decide +kernel
theorem dX12_goodAs_0 : decode cX12_goodAs 0 = .ok (.iload_n 0, 1) := by decide +kernel
theorem dX12_goodAs_1 : decode cX12_goodAs 1 = .ok (.tableswitch 63 3 5 #[27, 31, 46], 27) := by decide +kernel
theorem dX12_goodAs_28 : decode cX12_goodAs 28 = .ok (.iload_n 1, 1) := by decide +kernel
theorem dX12_goodAs_29 : decode cX12_goodAs 29 = .ok (.iconst 1, 1) := by decide +kernel
theorem dX12_goodAs_30 : decode cX12_goodAs 30 = .ok (.iadd, 1) := by decide +kernel
theorem dX12_goodAs_31 : decode cX12_goodAs 31 = .ok (.ireturn, 1) := by decide +kernel
theorem dX12_goodAs_32 : decode cX12_goodAs 32 = .ok (.iload_n 2, 1) := by decide +kernel
theorem dX12_goodAs_33 : decode cX12_goodAs 33 = .ok (.iconst 2, 1) := by decide +kernel
theorem dX12_goodAs_34 : decode cX12_goodAs 34 = .ok (.irem, 1) := by decide +kernel
theorem dX12_goodAs_35 : decode cX12_goodAs 35 = .ok (.iconst 1, 1) := by decide +kernel
theorem dX12_goodAs_36 : decode cX12_goodAs 36 = .ok (.if_icmp .ne 9, 3) := by decide +kernel
theorem dX12_goodAs_39 : decode cX12_goodAs 39 = .ok (.iconst 2, 1) := by decide +kernel
theorem dX12_goodAs_40 : decode cX12_goodAs 40 = .ok (.iload_n 1, 1) := by decide +kernel
theorem dX12_goodAs_41 : decode cX12_goodAs 41 = .ok (.imul, 1) := by decide +kernel
theorem dX12_goodAs_42 : decode cX12_goodAs 42 = .ok (.goto 4, 3) := by decide +kernel
theorem dX12_goodAs_45 : decode cX12_goodAs 45 = .ok (.iconst 0, 1) := by decide +kernel
theorem dX12_goodAs_46 : decode cX12_goodAs 46 = .ok (.ireturn, 1) := by decide +kernel
theorem dX12_goodAs_47 : decode cX12_goodAs 47 = .ok (.iload_n 1, 1) := by decide +kernel
theorem dX12_goodAs_48 : decode cX12_goodAs 48 = .ok (.iload_n 2, 1) := by decide +kernel
theorem dX12_goodAs_49 : decode cX12_goodAs 49 = .ok (.iconst 2, 1) := by decide +kernel
theorem dX12_goodAs_50 : decode cX12_goodAs 50 = .ok (.idiv, 1) := by decide +kernel
theorem dX12_goodAs_51 : decode cX12_goodAs 51 = .ok (.if_icmp .le 11, 3) := by decide +kernel
theorem dX12_goodAs_54 : decode cX12_goodAs 54 = .ok (.iload_n 1, 1) := by decide +kernel
theorem dX12_goodAs_55 : decode cX12_goodAs 55 = .ok (.iload_n 2, 1) := by decide +kernel
theorem dX12_goodAs_56 : decode cX12_goodAs 56 = .ok (.iconst 2, 1) := by decide +kernel
theorem dX12_goodAs_57 : decode cX12_goodAs 57 = .ok (.idiv, 1) := by decide +kernel
theorem dX12_goodAs_58 : decode cX12_goodAs 58 = .ok (.isub, 1) := by decide +kernel
theorem dX12_goodAs_59 : decode cX12_goodAs 59 = .ok (.goto 4, 3) := by decide +kernel
theorem dX12_goodAs_62 : decode cX12_goodAs 62 = .ok (.iconst 0, 1) := by decide +kernel
theorem dX12_goodAs_63 : decode cX12_goodAs 63 = .ok (.ireturn, 1) := by decide +kernel
theorem dX12_goodAs_64 : decode cX12_goodAs 64 = .ok (.iload_n 1, 1) := by decide +kernel
theorem dX12_goodAs_65 : decode cX12_goodAs 65 = .ok (.ireturn, 1) := by decide +kernel
theorem dX12_isBarredBy_0 : decode cX12_isBarredBy 0 = .ok (.iload_n 1, 1) := by decide +kernel
theorem dX12_isBarredBy_1 : decode cX12_isBarredBy 1 = .ok (.iload_n 0, 1) := by decide +kernel
theorem dX12_isBarredBy_2 : decode cX12_isBarredBy 2 = .ok (.iconst 2, 1) := by decide +kernel
theorem dX12_isBarredBy_3 : decode cX12_isBarredBy 3 = .ok (.if_icmp .ne 7, 3) := by decide +kernel
theorem dX12_isBarredBy_6 : decode cX12_isBarredBy 6 = .ok (.iconst 2, 1) := by decide +kernel
theorem dX12_isBarredBy_7 : decode cX12_isBarredBy 7 = .ok (.goto 4, 3) := by decide +kernel
theorem dX12_isBarredBy_10 : decode cX12_isBarredBy 10 = .ok (.iconst 1, 1) := by decide +kernel
theorem dX12_isBarredBy_11 : decode cX12_isBarredBy 11 = .ok (.if_icmp .lt 7, 3) := by decide +kernel
theorem dX12_isBarredBy_14 : decode cX12_isBarredBy 14 = .ok (.iconst 1, 1) := by decide +kernel
theorem dX12_isBarredBy_15 : decode cX12_isBarredBy 15 = .ok (.goto 4, 3) := by decide +kernel
theorem dX12_isBarredBy_18 : decode cX12_isBarredBy 18 = .ok (.iconst 0, 1) := by decide +kernel
theorem dX12_isBarredBy_19 : decode cX12_isBarredBy 19 = .ok (.ireturn, 1) := by decide +kernel
theorem dX12_goodOf_0 : decode cX12_goodOf 0 = .ok (.aload_n 0, 1) := by decide +kernel
theorem dX12_goodOf_1 : decode cX12_goodOf 1 = .ok (.getfield 7, 3) := by decide +kernel
theorem dX12_goodOf_4 : decode cX12_goodOf 4 = .ok (.bipush 17, 2) := by decide +kernel
theorem dX12_goodOf_6 : decode cX12_goodOf 6 = .ok (.iload_n 1, 1) := by decide +kernel
theorem dX12_goodOf_7 : decode cX12_goodOf 7 = .ok (.iadd, 1) := by decide +kernel
theorem dX12_goodOf_8 : decode cX12_goodOf 8 = .ok (.iaload, 1) := by decide +kernel
theorem dX12_goodOf_9 : decode cX12_goodOf 9 = .ok (.aload_n 0, 1) := by decide +kernel
theorem dX12_goodOf_10 : decode cX12_goodOf 10 = .ok (.getfield 7, 3) := by decide +kernel
theorem dX12_goodOf_13 : decode cX12_goodOf 13 = .ok (.bipush 23, 2) := by decide +kernel
