theorem dX0_init_0 : decode cX0_init 0 = .ok (.aload_n 0, 1) := by decide +kernel
theorem dX0_init_1 : decode cX0_init 1 = .ok (.invokespecial 3, 3) := by decide +kernel
theorem dX0_init_4 : decode cX0_init 4 = .ok (.aload_n 0, 1) := by decide +kernel
theorem dX0_init_5 : decode cX0_init 5 = .ok (.bipush 6, 2) := by decide +kernel
theorem dX0_init_7 : decode cX0_init 7 = .ok (.anewarray 9, 3) := by decide +kernel
theorem dX0_init_10 : decode cX0_init 10 = .ok (.putfield 11, 3) := by decide +kernel
theorem dX0_init_13 : decode cX0_init 13 = .ok (.aload_n 0, 1) := by decide +kernel
theorem dX0_init_14 : decode cX0_init 14 = .ok (.bipush 6, 2) := by decide +kernel
theorem dX0_init_16 : decode cX0_init 16 = .ok (.newarray .int, 2) := by decide +kernel
theorem dX0_init_18 : decode cX0_init 18 = .ok (.putfield 17, 3) := by decide +kernel
theorem dX0_init_21 : decode cX0_init 21 = .ok (.aload_n 0, 1) := by decide +kernel
theorem dX0_init_22 : decode cX0_init 22 = .ok (.getfield 11, 3) := by decide +kernel
theorem dX0_init_25 : decode cX0_init 25 = .ok (.iconst 0, 1) := by decide +kernel
theorem dX0_init_26 : decode cX0_init 26 = .ok (.new 9, 3) := by decide +kernel
theorem dX0_init_29 : decode cX0_init 29 = .ok (.dup, 1) := by decide +kernel
theorem dX0_init_30 : decode cX0_init 30 = .ok (.invokespecial 21, 3) := by decide +kernel
theorem dX0_init_33 : decode cX0_init 33 = .ok (.aastore, 1) := by decide +kernel
theorem dX0_init_34 : decode cX0_init 34 = .ok (.aload_n 0, 1) := by decide +kernel
theorem dX0_init_35 : decode cX0_init 35 = .ok (.getfield 11, 3) := by decide +kernel
theorem dX0_init_38 : decode cX0_init 38 = .ok (.iconst 1, 1) := by decide +kernel
theorem dX0_init_39 : decode cX0_init 39 = .ok (.new 22, 3) := by decide +kernel
theorem dX0_init_42 : decode cX0_init 42 = .ok (.dup, 1) := by decide +kernel
theorem dX0_init_43 : decode cX0_init 43 = .ok (.invokespecial 24, 3) := by decide +kernel
theorem dX0_init_46 : decode cX0_init 46 = .ok (.aastore, 1) := by decide +kernel
theorem dX0_init_47 : decode cX0_init 47 = .ok (.aload_n 0, 1) := by decide +kernel
theorem dX0_init_48 : decode cX0_init 48 = .ok (.getfield 11, 3) := by decide +kernel
theorem dX0_init_51 : decode cX0_init 51 = .ok (.iconst 2, 1) := by decide +kernel
theorem dX0_init_52 : decode cX0_init 52 = .ok (.new 25, 3) := by decide +kernel
theorem dX0_init_55 : decode cX0_init 55 = .ok (.dup, 1) := by decide +kernel
theorem dX0_init_56 : decode cX0_init 56 = .ok (.invokespecial 27, 3) := by decide +kernel
theorem dX0_init_59 : decode cX0_init 59 = .ok (.aastore, 1) := by decide +kernel
theorem dX0_init_60 : decode cX0_init 60 = .ok (.aload_n 0, 1) := by decide +kernel
theorem dX0_init_61 : decode cX0_init 61 = .ok (.getfield 11, 3) := by decide +kernel
theorem dX0_init_64 : decode cX0_init 64 = .ok (.iconst 3, 1) := by decide +kernel
theorem dX0_init_65 : decode cX0_init 65 = .ok (.new 28, 3) := by decide +kernel
theorem dX0_init_68 : decode cX0_init 68 = .ok (.dup, 1) := by decide +kernel
theorem dX0_init_69 : decode cX0_init 69 = .ok (.invokespecial 30, 3) := by decide +kernel
theorem dX0_init_72 : decode cX0_init 72 = .ok (.aastore, 1) := by decide +kernel
theorem dX0_init_73 : decode cX0_init 73 = .ok (.aload_n 0, 1) := by decide +kernel
theorem dX0_init_74 : decode cX0_init 74 = .ok (.getfield 11, 3) := by decide +kernel
theorem dX0_init_77 : decode cX0_init 77 = .ok (.iconst 4, 1) := by decide +kernel
theorem dX0_init_78 : decode cX0_init 78 = .ok (.new 31, 3) := by decide +kernel
theorem dX0_init_81 : decode cX0_init 81 = .ok (.dup, 1) := by decide +kernel
theorem dX0_init_82 : decode cX0_init 82 = .ok (.invokespecial 33, 3) := by decide +kernel
theorem dX0_init_85 : decode cX0_init 85 = .ok (.aastore, 1) := by decide +kernel
theorem dX0_init_86 : decode cX0_init 86 = .ok (.aload_n 0, 1) := by decide +kernel
theorem dX0_init_87 : decode cX0_init 87 = .ok (.getfield 11, 3) := by decide +kernel
theorem dX0_init_90 : decode cX0_init 90 = .ok (.iconst 5, 1) := by decide +kernel
theorem dX0_init_91 : decode cX0_init 91 = .ok (.new 34, 3) := by decide +kernel
theorem dX0_init_94 : decode cX0_init 94 = .ok (.dup, 1) := by decide +kernel
theorem dX0_init_95 : decode cX0_init 95 = .ok (.invokespecial 36, 3) := by decide +kernel
theorem dX0_init_98 : decode cX0_init 98 = .ok (.aastore, 1) := by decide +kernel
theorem dX0_init_99 : decode cX0_init 99 = .ok (.aload_n 0, 1) := by decide +kernel
theorem dX0_init_100 : decode cX0_init 100 = .ok (.invokevirtual 37, 3) := by decide +kernel
theorem dX0_init_103 : decode cX0_init 103 = .ok (.return_, 1) := by decide +kernel
theorem dX0_allByKind_0 : decode cX0_allByKind 0 = .ok (.aload_n 0, 1) := by decide +kernel
theorem dX0_allByKind_1 : decode cX0_allByKind 1 = .ok (.getfield 17, 3) := by decide +kernel
theorem dX0_allByKind_4 : decode cX0_allByKind 4 = .ok (.iconst (-1), 1) := by decide +kernel
theorem dX0_allByKind_5 : decode cX0_allByKind 5 = .ok (.invokestatic 40, 3) := by decide +kernel
theorem dX0_allByKind_8 : decode cX0_allByKind 8 = .ok (.return_, 1) := by decide +kernel
theorem dX0_choose_0 : decode cX0_choose 0 = .ok (.iload_n 1, 1) := by decide +kernel
theorem dX0_choose_1 : decode cX0_choose 1 = .ok (.iconst 0, 1) := by decide +kernel
theorem dX0_choose_2 : decode cX0_choose 2 = .ok (.iconst 5, 1) := by decide +kernel
theorem dX0_choose_3 : decode cX0_choose 3 = .ok (.invokestatic 46, 3) := by decide +kernel
theorem dX0_choose_6 : decode cX0_choose 6 = .ok (.ifCond .eq 10, 3) := by decide +kernel
theorem dX0_choose_9 : decode cX0_choose 9 = .ok (.aload_n 0, 1) := by decide +kernel
theorem dX0_choose_10 : decode cX0_choose 10 = .ok (.getfield 17, 3) := by decide +kernel
theorem dX0_choose_13 : decode cX0_choose 13 = .ok (.iload_n 1, 1) := by decide +kernel
theorem dX0_choose_14 : decode cX0_choose 14 = .ok (.iload_n 2, 1) := by decide +kernel
theorem dX0_choose_15 : decode cX0_choose 15 = .ok (.iastore, 1) := by decide +kernel
theorem dX0_choose_16 : decode cX0_choose 16 = .ok (.return_, 1) := by decide +kernel
theorem dX0_skillBy_0 : decode cX0_skillBy 0 = .ok (.iload_n 1, 1) := by decide +kernel
theorem dX0_skillBy_1 : decode cX0_skillBy 1 = .ok (.iconst 0, 1) := by decide +kernel
theorem dX0_skillBy_2 : decode cX0_skillBy 2 = .ok (.iconst 5, 1) := by decide +kernel
theorem dX0_skillBy_3 : decode cX0_skillBy 3 = .ok (.invokestatic 46, 3) := by decide +kernel
theorem dX0_skillBy_6 : decode cX0_skillBy 6 = .ok (.ifCond .eq 17, 3) := by decide +kernel
theorem dX0_skillBy_9 : decode cX0_skillBy 9 = .ok (.aload_n 0, 1) := by decide +kernel
theorem dX0_skillBy_10 : decode cX0_skillBy 10 = .ok (.getfield 11, 3) := by decide +kernel
theorem dX0_skillBy_13 : decode cX0_skillBy 13 = .ok (.iload_n 1, 1) := by decide +kernel
theorem dX0_skillBy_14 : decode cX0_skillBy 14 = .ok (.aaload, 1) := by decide +kernel
theorem dX0_skillBy_15 : decode cX0_skillBy 15 = .ok (.iload_n 2, 1) := by decide +kernel
theorem dX0_skillBy_16 : decode cX0_skillBy 16 = .ok (.iload_n 3, 1) := by decide +kernel
theorem dX0_skillBy_17 : decode cX0_skillBy 17 = .ok (.invokevirtual 50, 3) := by decide +kernel
theorem dX0_skillBy_20 : decode cX0_skillBy 20 = .ok (.goto 4, 3) := by decide +kernel
theorem dX0_skillBy_23 : decode cX0_skillBy 23 = .ok (.iconst 0, 1) := by decide +kernel
theorem dX0_skillBy_24 : decode cX0_skillBy 24 = .ok (.ireturn, 1) := by decide +kernel
theorem dX0_isBarred_0 : decode cX0_isBarred 0 = .ok (.aload_n 1, 1) := by decide +kernel
theorem dX0_isBarred_1 : decode cX0_isBarred 1 = .ok (.getfield 54, 3) := by decide +kernel
theorem dX0_isBarred_4 : decode cX0_isBarred 4 = .ok (.iload_n 2, 1) := by decide +kernel
theorem dX0_isBarred_5 : decode cX0_isBarred 5 = .ok (.iaload, 1) := by decide +kernel
theorem dX0_isBarred_6 : decode cX0_isBarred 6 = .ok (.istore_n 3, 1) := by decide +kernel
theorem dX0_isBarred_7 : decode cX0_isBarred 7 = .ok (.iload_n 3, 1) := by decide +kernel
theorem dX0_isBarred_8 : decode cX0_isBarred 8 = .ok (.iconst 0, 1) := by decide +kernel
theorem dX0_isBarred_9 : decode cX0_isBarred 9 = .ok (.iconst 5, 1) := by decide +kernel
theorem dX0_isBarred_10 : decode cX0_isBarred 10 = .ok (.invokestatic 46, 3) := by decide +kernel
theorem dX0_isBarred_13 : decode cX0_isBarred 13 = .ok (.ifCond .eq 28, 3) := by decide +kernel
theorem dX0_isBarred_16 : decode cX0_isBarred 16 = .ok (.aload_n 0, 1) := by decide +kernel
theorem dX0_isBarred_17 : decode cX0_isBarred 17 = .ok (.getfield 11, 3) := by decide +kernel
theorem dX0_isBarred_20 : decode cX0_isBarred 20 = .ok (.iload_n 3, 1) := by decide +kernel
theorem dX0_isBarred_21 : decode cX0_isBarred 21 = .ok (.aaload, 1) := by decide +kernel
theorem dX0_isBarred_22 : decode cX0_isBarred 22 = .ok (.aload_n 1, 1) := by decide +kernel
theorem dX0_isBarred_23 : decode cX0_isBarred 23 = .ok (.getfield 59, 3) := by decide +kernel
theorem dX0_isBarred_26 : decode cX0_isBarred 26 = .ok (.iload_n 2, 1) := by decide +kernel
theorem dX0_isBarred_27 : decode cX0_isBarred 27 = .ok (.iaload, 1) := by decide +kernel
theorem dX0_isBarred_28 : decode cX0_isBarred 28 = .ok (.invokestatic 62, 3) := by decide +kernel
theorem dX0_isBarred_31 : decode cX0_isBarred 31 = .ok (.invokevirtual 68, 3) := by decide +kernel
theorem dX0_isBarred_34 : decode cX0_isBarred 34 = .ok (.ifCond .eq 7, 3) := by decide +kernel
theorem dX0_isBarred_37 : decode cX0_isBarred 37 = .ok (.iconst 1, 1) := by decide +kernel
theorem dX0_isBarred_38 : decode cX0_isBarred 38 = .ok (.goto 4, 3) := by decide +kernel
theorem dX0_isBarred_41 : decode cX0_isBarred 41 = .ok (.iconst 0, 1) := by decide +kernel
theorem dX0_isBarred_42 : decode cX0_isBarred 42 = .ok (.ireturn, 1) := by decide +kernel
theorem dX0_strength_0 : decode cX0_strength 0 = .ok (.iload_n 2, 1) := by decide +kernel
theorem dX0_strength_1 : decode cX0_strength 1 = .ok (.iconst 0, 1) := by decide +kernel
theorem dX0_strength_2 : decode cX0_strength 2 = .ok (.aload_n 1, 1) := by decide +kernel
theorem dX0_strength_3 : decode cX0_strength 3 = .ok (.getfield 72, 3) := by decide +kernel
theorem dX0_strength_6 : decode cX0_strength 6 = .ok (.iconst 1, 1) := by decide +kernel
theorem dX0_strength_7 : decode cX0_strength 7 = .ok (.isub, 1) := by decide +kernel
theorem dX0_strength_8 : decode cX0_strength 8 = .ok (.invokestatic 46, 3) := by decide +kernel
theorem dX0_strength_11 : decode cX0_strength 11 = .ok (.ifCond .eq 23, 3) := by decide +kernel
theorem dX0_strength_14 : decode cX0_strength 14 = .ok (.iload_n 3, 1) := by decide +kernel
theorem dX0_strength_15 : decode cX0_strength 15 = .ok (.iconst 0, 1) := by decide +kernel
theorem dX0_strength_16 : decode cX0_strength 16 = .ok (.bipush 7, 2) := by decide +kernel
theorem dX0_strength_18 : decode cX0_strength 18 = .ok (.invokestatic 46, 3) := by decide +kernel
theorem dX0_strength_21 : decode cX0_strength 21 = .ok (.ifCond .eq 13, 3) := by decide +kernel
theorem dX0_strength_24 : decode cX0_strength 24 = .ok (.aload_n 1, 1) := by decide +kernel
theorem dX0_strength_25 : decode cX0_strength 25 = .ok (.getfield 76, 3) := by decide +kernel
theorem dX0_strength_28 : decode cX0_strength 28 = .ok (.iload_n 3, 1) := by decide +kernel
theorem dX0_strength_29 : decode cX0_strength 29 = .ok (.iaload, 1) := by decide +kernel
theorem dX0_strength_30 : decode cX0_strength 30 = .ok (.iconst (-1), 1) := by decide +kernel
theorem dX0_strength_31 : decode cX0_strength 31 = .ok (.if_icmp .ne 5, 3) := by decide +kernel
theorem dX0_strength_34 : decode cX0_strength 34 = .ok (.iconst 0, 1) := by decide +kernel
theorem dX0_strength_35 : decode cX0_strength 35 = .ok (.ireturn, 1) := by decide +kernel
theorem dX0_strength_36 : decode cX0_strength 36 = .ok (.aload_n 1, 1) := by decide +kernel
theorem dX0_strength_37 : decode cX0_strength 37 = .ok (.getfield 54, 3) := by decide +kernel
theorem dX0_strength_40 : decode cX0_strength 40 = .ok (.iload_n 2, 1) := by decide +kernel
theorem dX0_strength_41 : decode cX0_strength 41 = .ok (.iaload, 1) := by decide +kernel
theorem dX0_strength_42 : decode cX0_strength 42 = .ok (.istore 4, 2) := by decide +kernel
theorem dX0_strength_44 : decode cX0_strength 44 = .ok (.iload 4, 2) := by decide +kernel
theorem dX0_strength_46 : decode cX0_strength 46 = .ok (.iconst 0, 1) := by decide +kernel
theorem dX0_strength_47 : decode cX0_strength 47 = .ok (.iconst 5, 1) := by decide +kernel
theorem dX0_strength_48 : decode cX0_strength 48 = .ok (.invokestatic 46, 3) := by decide +kernel
theorem dX0_strength_51 : decode cX0_strength 51 = .ok (.ifCond .eq 12, 3) := by decide +kernel
theorem dX0_strength_54 : decode cX0_strength 54 = .ok (.aload_n 0, 1) := by decide +kernel
theorem dX0_strength_55 : decode cX0_strength 55 = .ok (.aload_n 1, 1) := by decide +kernel
theorem dX0_strength_56 : decode cX0_strength 56 = .ok (.iload_n 2, 1) := by decide +kernel
theorem dX0_strength_57 : decode cX0_strength 57 = .ok (.invokevirtual 79, 3) := by decide +kernel
theorem dX0_strength_60 : decode cX0_strength 60 = .ok (.ifCond .eq 5, 3) := by decide +kernel
theorem dX0_strength_63 : decode cX0_strength 63 = .ok (.iconst 0, 1) := by decide +kernel
theorem dX0_strength_64 : decode cX0_strength 64 = .ok (.ireturn, 1) := by decide +kernel
theorem dX0_strength_65 : decode cX0_strength 65 = .ok (.aload_n 0, 1) := by decide +kernel
theorem dX0_strength_66 : decode cX0_strength 66 = .ok (.getfield 17, 3) := by decide +kernel
theorem dX0_strength_69 : decode cX0_strength 69 = .ok (.iload_n 2, 1) := by decide +kernel
theorem dX0_strength_70 : decode cX0_strength 70 = .ok (.iaload, 1) := by decide +kernel
theorem dX0_strength_71 : decode cX0_strength 71 = .ok (.iconst (-1), 1) := by decide +kernel
theorem dX0_strength_72 : decode cX0_strength 72 = .ok (.if_icmp .ne 7, 3) := by decide +kernel
theorem dX0_strength_75 : decode cX0_strength 75 = .ok (.iconst 1, 1) := by decide +kernel
theorem dX0_strength_76 : decode cX0_strength 76 = .ok (.goto 4, 3) := by decide +kernel
theorem dX0_strength_79 : decode cX0_strength 79 = .ok (.iconst 0, 1) := by decide +kernel
theorem dX0_strength_80 : decode cX0_strength 80 = .ok (.istore 5, 2) := by decide +kernel
theorem dX0_strength_82 : decode cX0_strength 82 = .ok (.iload 5, 2) := by decide +kernel
theorem dX0_strength_84 : decode cX0_strength 84 = .ok (.ifCond .eq 26, 3) := by decide +kernel
theorem dX0_strength_87 : decode cX0_strength 87 = .ok (.aload_n 0, 1) := by decide +kernel
theorem dX0_strength_88 : decode cX0_strength 88 = .ok (.getfield 11, 3) := by decide +kernel
theorem dX0_strength_91 : decode cX0_strength 91 = .ok (.iload 4, 2) := by decide +kernel
theorem dX0_strength_93 : decode cX0_strength 93 = .ok (.aaload, 1) := by decide +kernel
theorem dX0_strength_94 : decode cX0_strength 94 = .ok (.aload_n 1, 1) := by decide +kernel
theorem dX0_strength_95 : decode cX0_strength 95 = .ok (.getfield 83, 3) := by decide +kernel
theorem dX0_strength_98 : decode cX0_strength 98 = .ok (.iload_n 3, 1) := by decide +kernel
theorem dX0_strength_99 : decode cX0_strength 99 = .ok (.iaload, 1) := by decide +kernel
theorem dX0_strength_100 : decode cX0_strength 100 = .ok (.bipush 7, 2) := by decide +kernel
theorem dX0_strength_102 : decode cX0_strength 102 = .ok (.iload_n 3, 1) := by decide +kernel
theorem dX0_strength_103 : decode cX0_strength 103 = .ok (.isub, 1) := by decide +kernel
theorem dX0_strength_104 : decode cX0_strength 104 = .ok (.invokevirtual 86, 3) := by decide +kernel
theorem dX0_strength_107 : decode cX0_strength 107 = .ok (.goto 18, 3) := by decide +kernel
theorem dX0_strength_110 : decode cX0_strength 110 = .ok (.aload_n 0, 1) := by decide +kernel
theorem dX0_strength_111 : decode cX0_strength 111 = .ok (.getfield 17, 3) := by decide +kernel
theorem dX0_strength_114 : decode cX0_strength 114 = .ok (.iload_n 2, 1) := by decide +kernel
theorem dX0_strength_115 : decode cX0_strength 115 = .ok (.iaload, 1) := by decide +kernel
theorem dX0_strength_116 : decode cX0_strength 116 = .ok (.iload_n 3, 1) := by decide +kernel
theorem dX0_strength_117 : decode cX0_strength 117 = .ok (.if_icmp .ne 7, 3) := by decide +kernel
theorem dX0_strength_120 : decode cX0_strength 120 = .ok (.iconst 1, 1) := by decide +kernel
theorem dX0_strength_121 : decode cX0_strength 121 = .ok (.goto 4, 3) := by decide +kernel
theorem dX0_strength_124 : decode cX0_strength 124 = .ok (.iconst 0, 1) := by decide +kernel
theorem dX0_strength_125 : decode cX0_strength 125 = .ok (.istore 6, 2) := by decide +kernel
theorem dX0_strength_127 : decode cX0_strength 127 = .ok (.iload 6, 2) := by decide +kernel
theorem dX0_strength_129 : decode cX0_strength 129 = .ok (.ifCond .eq 32, 3) := by decide +kernel
theorem dX0_strength_132 : decode cX0_strength 132 = .ok (.aload_n 0, 1) := by decide +kernel
theorem dX0_strength_133 : decode cX0_strength 133 = .ok (.getfield 11, 3) := by decide +kernel
theorem dX0_strength_136 : decode cX0_strength 136 = .ok (.iload 4, 2) := by decide +kernel
theorem dX0_strength_138 : decode cX0_strength 138 = .ok (.aaload, 1) := by decide +kernel
theorem dX0_strength_139 : decode cX0_strength 139 = .ok (.aload_n 1, 1) := by decide +kernel
theorem dX0_strength_140 : decode cX0_strength 140 = .ok (.getfield 90, 3) := by decide +kernel
theorem dX0_strength_143 : decode cX0_strength 143 = .ok (.iload_n 2, 1) := by decide +kernel
theorem dX0_strength_144 : decode cX0_strength 144 = .ok (.iconst 3, 1) := by decide +kernel
theorem dX0_strength_145 : decode cX0_strength 145 = .ok (.imul, 1) := by decide +kernel
theorem dX0_strength_146 : decode cX0_strength 146 = .ok (.aload_n 1, 1) := by decide +kernel
theorem dX0_strength_147 : decode cX0_strength 147 = .ok (.getfield 76, 3) := by decide +kernel
theorem dX0_strength_150 : decode cX0_strength 150 = .ok (.iload_n 3, 1) := by decide +kernel
theorem dX0_strength_151 : decode cX0_strength 151 = .ok (.iaload, 1) := by decide +kernel
theorem dX0_strength_152 : decode cX0_strength 152 = .ok (.iadd, 1) := by decide +kernel
theorem dX0_strength_153 : decode cX0_strength 153 = .ok (.iaload, 1) := by decide +kernel
theorem dX0_strength_154 : decode cX0_strength 154 = .ok (.iload_n 3, 1) := by decide +kernel
theorem dX0_strength_155 : decode cX0_strength 155 = .ok (.invokevirtual 50, 3) := by decide +kernel
theorem dX0_strength_158 : decode cX0_strength 158 = .ok (.goto 4, 3) := by decide +kernel
theorem dX0_strength_161 : decode cX0_strength 161 = .ok (.iconst 0, 1) := by decide +kernel
theorem dX0_strength_162 : decode cX0_strength 162 = .ok (.ireturn, 1) := by decide +kernel
theorem dX0_strengthOfAll_0 : decode cX0_strengthOfAll 0 = .ok (.iconst 0, 1) := by decide +kernel
theorem dX0_strengthOfAll_1 : decode cX0_strengthOfAll 1 = .ok (.istore_n 3, 1) := by decide +kernel
theorem dX0_strengthOfAll_2 : decode cX0_strengthOfAll 2 = .ok (.iconst 0, 1) := by decide +kernel
theorem dX0_strengthOfAll_3 : decode cX0_strengthOfAll 3 = .ok (.istore 4, 2) := by decide +kernel
theorem dX0_strengthOfAll_5 : decode cX0_strengthOfAll 5 = .ok (.iload 4, 2) := by decide +kernel
theorem dX0_strengthOfAll_7 : decode cX0_strengthOfAll 7 = .ok (.aload_n 1, 1) := by decide +kernel
theorem dX0_strengthOfAll_8 : decode cX0_strengthOfAll 8 = .ok (.getfield 72, 3) := by decide +kernel
theorem dX0_strengthOfAll_11 : decode cX0_strengthOfAll 11 = .ok (.if_icmp .ge 20, 3) := by decide +kernel
theorem dX0_strengthOfAll_14 : decode cX0_strengthOfAll 14 = .ok (.iload_n 3, 1) := by decide +kernel
theorem dX0_strengthOfAll_15 : decode cX0_strengthOfAll 15 = .ok (.aload_n 0, 1) := by decide +kernel
theorem dX0_strengthOfAll_16 : decode cX0_strengthOfAll 16 = .ok (.aload_n 1, 1) := by decide +kernel
theorem dX0_strengthOfAll_17 : decode cX0_strengthOfAll 17 = .ok (.iload 4, 2) := by decide +kernel
theorem dX0_strengthOfAll_19 : decode cX0_strengthOfAll 19 = .ok (.iload_n 2, 1) := by decide +kernel
theorem dX0_strengthOfAll_20 : decode cX0_strengthOfAll 20 = .ok (.invokevirtual 93, 3) := by decide +kernel
theorem dX0_strengthOfAll_23 : decode cX0_strengthOfAll 23 = .ok (.iadd, 1) := by decide +kernel
theorem dX0_strengthOfAll_24 : decode cX0_strengthOfAll 24 = .ok (.istore_n 3, 1) := by decide +kernel
theorem dX0_strengthOfAll_25 : decode cX0_strengthOfAll 25 = .ok (.iinc 4 1, 3) := by decide +kernel
theorem dX0_strengthOfAll_28 : decode cX0_strengthOfAll 28 = .ok (.goto (-23), 3) := by decide +kernel
theorem dX0_strengthOfAll_31 : decode cX0_strengthOfAll 31 = .ok (.iload_n 3, 1) := by decide +kernel
theorem dX0_strengthOfAll_32 : decode cX0_strengthOfAll 32 = .ok (.ireturn, 1) := by decide +kernel
theorem dX0_hold_0 : decode cX0_hold 0 = .ok (.aload_n 0, 1) := by decide +kernel
theorem dX0_hold_1 : decode cX0_hold 1 = .ok (.iconst 0, 1) := by decide +kernel
theorem dX0_hold_2 : decode cX0_hold 2 = .ok (.putfield 97, 3) := by decide +kernel
theorem dX0_hold_5 : decode cX0_hold 5 = .ok (.aload_n 0, 1) := by decide +kernel
theorem dX0_hold_6 : decode cX0_hold 6 = .ok (.iconst (-1), 1) := by decide +kernel
theorem dX0_hold_7 : decode cX0_hold 7 = .ok (.putfield 100, 3) := by decide +kernel
theorem dX0_hold_10 : decode cX0_hold 10 = .ok (.aload_n 0, 1) := by decide +kernel
theorem dX0_hold_11 : decode cX0_hold 11 = .ok (.iconst (-1), 1) := by decide +kernel
theorem dX0_hold_12 : decode cX0_hold 12 = .ok (.putfield 103, 3) := by decide +kernel
theorem dX0_hold_15 : decode cX0_hold 15 = .ok (.iconst 0, 1) := by decide +kernel
theorem dX0_hold_16 : decode cX0_hold 16 = .ok (.istore_n 3, 1) := by decide +kernel
theorem dX0_hold_17 : decode cX0_hold 17 = .ok (.iconst 0, 1) := by decide +kernel
theorem dX0_hold_18 : decode cX0_hold 18 = .ok (.istore 4, 2) := by decide +kernel
theorem dX0_hold_20 : decode cX0_hold 20 = .ok (.iconst 0, 1) := by decide +kernel
theorem dX0_hold_21 : decode cX0_hold 21 = .ok (.istore 5, 2) := by decide +kernel
theorem dX0_hold_23 : decode cX0_hold 23 = .ok (.iload 5, 2) := by decide +kernel
theorem dX0_hold_25 : decode cX0_hold 25 = .ok (.aload_n 1, 1) := by decide +kernel
theorem dX0_hold_26 : decode cX0_hold 26 = .ok (.getfield 72, 3) := by decide +kernel
theorem dX0_hold_29 : decode cX0_hold 29 = .ok (.if_icmp .ge 83, 3) := by decide +kernel
theorem dX0_hold_32 : decode cX0_hold 32 = .ok (.aload_n 0, 1) := by decide +kernel
theorem dX0_hold_33 : decode cX0_hold 33 = .ok (.aload_n 1, 1) := by decide +kernel
theorem dX0_hold_34 : decode cX0_hold 34 = .ok (.iload 5, 2) := by decide +kernel
theorem dX0_hold_36 : decode cX0_hold 36 = .ok (.iload_n 2, 1) := by decide +kernel
theorem dX0_hold_37 : decode cX0_hold 37 = .ok (.invokevirtual 93, 3) := by decide +kernel
theorem dX0_hold_40 : decode cX0_hold 40 = .ok (.istore 6, 2) := by decide +kernel
theorem dX0_hold_42 : decode cX0_hold 42 = .ok (.iload 6, 2) := by decide +kernel
theorem dX0_hold_44 : decode cX0_hold 44 = .ok (.ifCond .le 16, 3) := by decide +kernel
theorem dX0_hold_47 : decode cX0_hold 47 = .ok (.aload_n 0, 1) := by decide +kernel
theorem dX0_hold_48 : decode cX0_hold 48 = .ok (.dup, 1) := by decide +kernel
theorem dX0_hold_49 : decode cX0_hold 49 = .ok (.getfield 97, 3) := by decide +kernel
theorem dX0_hold_52 : decode cX0_hold 52 = .ok (.iconst 1, 1) := by decide +kernel
theorem dX0_hold_53 : decode cX0_hold 53 = .ok (.iload 5, 2) := by decide +kernel
theorem dX0_hold_55 : decode cX0_hold 55 = .ok (.ishl, 1) := by decide +kernel
theorem dX0_hold_56 : decode cX0_hold 56 = .ok (.ior, 1) := by decide +kernel
theorem dX0_hold_57 : decode cX0_hold 57 = .ok (.putfield 97, 3) := by decide +kernel
theorem dX0_hold_60 : decode cX0_hold 60 = .ok (.iload 6, 2) := by decide +kernel
theorem dX0_hold_62 : decode cX0_hold 62 = .ok (.iload_n 3, 1) := by decide +kernel
theorem dX0_hold_63 : decode cX0_hold 63 = .ok (.if_icmp .le 26, 3) := by decide +kernel
theorem dX0_hold_66 : decode cX0_hold 66 = .ok (.aload_n 0, 1) := by decide +kernel
theorem dX0_hold_67 : decode cX0_hold 67 = .ok (.aload_n 0, 1) := by decide +kernel
theorem dX0_hold_68 : decode cX0_hold 68 = .ok (.getfield 100, 3) := by decide +kernel
theorem dX0_hold_71 : decode cX0_hold 71 = .ok (.putfield 103, 3) := by decide +kernel
theorem dX0_hold_74 : decode cX0_hold 74 = .ok (.iload_n 3, 1) := by decide +kernel
theorem dX0_hold_75 : decode cX0_hold 75 = .ok (.istore 4, 2) := by decide +kernel
theorem dX0_hold_77 : decode cX0_hold 77 = .ok (.aload_n 0, 1) := by decide +kernel
theorem dX0_hold_78 : decode cX0_hold 78 = .ok (.iload 5, 2) := by decide +kernel
theorem dX0_hold_80 : decode cX0_hold 80 = .ok (.putfield 100, 3) := by decide +kernel
theorem dX0_hold_83 : decode cX0_hold 83 = .ok (.iload 6, 2) := by decide +kernel
theorem dX0_hold_85 : decode cX0_hold 85 = .ok (.istore_n 3, 1) := by decide +kernel
theorem dX0_hold_86 : decode cX0_hold 86 = .ok (.goto 20, 3) := by decide +kernel
theorem dX0_hold_89 : decode cX0_hold 89 = .ok (.iload 6, 2) := by decide +kernel
theorem dX0_hold_91 : decode cX0_hold 91 = .ok (.iload 4, 2) := by decide +kernel
theorem dX0_hold_93 : decode cX0_hold 93 = .ok (.if_icmp .le 13, 3) := by decide +kernel
theorem dX0_hold_96 : decode cX0_hold 96 = .ok (.aload_n 0, 1) := by decide +kernel
theorem dX0_hold_97 : decode cX0_hold 97 = .ok (.iload 5, 2) := by decide +kernel
theorem dX0_hold_99 : decode cX0_hold 99 = .ok (.putfield 103, 3) := by decide +kernel
theorem dX0_hold_102 : decode cX0_hold 102 = .ok (.iload 6, 2) := by decide +kernel
theorem dX0_hold_104 : decode cX0_hold 104 = .ok (.istore 4, 2) := by decide +kernel
theorem dX0_hold_106 : decode cX0_hold 106 = .ok (.iinc 5 1, 3) := by decide +kernel
theorem dX0_hold_109 : decode cX0_hold 109 = .ok (.goto (-86), 3) := by decide +kernel
theorem dX0_hold_112 : decode cX0_hold 112 = .ok (.return_, 1) := by decide +kernel
theorem dX0_handicapOf_0 : decode cX0_handicapOf 0 = .ok (.aload_n 1, 1) := by decide +kernel
theorem dX0_handicapOf_1 : decode cX0_handicapOf 1 = .ok (.getfield 106, 3) := by decide +kernel
theorem dX0_handicapOf_4 : decode cX0_handicapOf 4 = .ok (.istore_n 3, 1) := by decide +kernel
theorem dX0_handicapOf_5 : decode cX0_handicapOf 5 = .ok (.iload_n 3, 1) := by decide +kernel
theorem dX0_handicapOf_6 : decode cX0_handicapOf 6 = .ok (.iconst 0, 1) := by decide +kernel
theorem dX0_handicapOf_7 : decode cX0_handicapOf 7 = .ok (.bipush 7, 2) := by decide +kernel
theorem dX0_handicapOf_9 : decode cX0_handicapOf 9 = .ok (.invokestatic 46, 3) := by decide +kernel
theorem dX0_handicapOf_12 : decode cX0_handicapOf 12 = .ok (.ifCond .eq 22, 3) := by decide +kernel
theorem dX0_handicapOf_15 : decode cX0_handicapOf 15 = .ok (.aload_n 1, 1) := by decide +kernel
theorem dX0_handicapOf_16 : decode cX0_handicapOf 16 = .ok (.getfield 76, 3) := by decide +kernel
theorem dX0_handicapOf_19 : decode cX0_handicapOf 19 = .ok (.iload_n 3, 1) := by decide +kernel
theorem dX0_handicapOf_20 : decode cX0_handicapOf 20 = .ok (.iaload, 1) := by decide +kernel
theorem dX0_handicapOf_21 : decode cX0_handicapOf 21 = .ok (.iconst (-1), 1) := by decide +kernel
theorem dX0_handicapOf_22 : decode cX0_handicapOf 22 = .ok (.if_icmp .eq 12, 3) := by decide +kernel
theorem dX0_handicapOf_25 : decode cX0_handicapOf 25 = .ok (.aload_n 0, 1) := by decide +kernel
theorem dX0_handicapOf_26 : decode cX0_handicapOf 26 = .ok (.aload_n 1, 1) := by decide +kernel
theorem dX0_handicapOf_27 : decode cX0_handicapOf 27 = .ok (.iload_n 2, 1) := by decide +kernel
theorem dX0_handicapOf_28 : decode cX0_handicapOf 28 = .ok (.invokevirtual 79, 3) := by decide +kernel
theorem dX0_handicapOf_31 : decode cX0_handicapOf 31 = .ok (.ifCond .eq 5, 3) := by decide +kernel
theorem dX0_handicapOf_34 : decode cX0_handicapOf 34 = .ok (.iconst (-1), 1) := by decide +kernel
theorem dX0_handicapOf_35 : decode cX0_handicapOf 35 = .ok (.ireturn, 1) := by decide +kernel
theorem dX0_handicapOf_36 : decode cX0_handicapOf 36 = .ok (.aload_n 0, 1) := by decide +kernel
theorem dX0_handicapOf_37 : decode cX0_handicapOf 37 = .ok (.aload_n 1, 1) := by decide +kernel
theorem dX0_handicapOf_38 : decode cX0_handicapOf 38 = .ok (.getfield 54, 3) := by decide +kernel
theorem dX0_handicapOf_41 : decode cX0_handicapOf 41 = .ok (.iload_n 2, 1) := by decide +kernel
theorem dX0_handicapOf_42 : decode cX0_handicapOf 42 = .ok (.iaload, 1) := by decide +kernel
theorem dX0_handicapOf_43 : decode cX0_handicapOf 43 = .ok (.aload_n 1, 1) := by decide +kernel
theorem dX0_handicapOf_44 : decode cX0_handicapOf 44 = .ok (.getfield 90, 3) := by decide +kernel
theorem dX0_handicapOf_47 : decode cX0_handicapOf 47 = .ok (.iload_n 2, 1) := by decide +kernel
theorem dX0_handicapOf_48 : decode cX0_handicapOf 48 = .ok (.iconst 3, 1) := by decide +kernel
theorem dX0_handicapOf_49 : decode cX0_handicapOf 49 = .ok (.imul, 1) := by decide +kernel
theorem dX0_handicapOf_50 : decode cX0_handicapOf 50 = .ok (.aload_n 1, 1) := by decide +kernel
theorem dX0_handicapOf_51 : decode cX0_handicapOf 51 = .ok (.getfield 76, 3) := by decide +kernel
theorem dX0_handicapOf_54 : decode cX0_handicapOf 54 = .ok (.iload_n 3, 1) := by decide +kernel
theorem dX0_handicapOf_55 : decode cX0_handicapOf 55 = .ok (.iaload, 1) := by decide +kernel
theorem dX0_handicapOf_56 : decode cX0_handicapOf 56 = .ok (.iadd, 1) := by decide +kernel
theorem dX0_handicapOf_57 : decode cX0_handicapOf 57 = .ok (.iaload, 1) := by decide +kernel
theorem dX0_handicapOf_58 : decode cX0_handicapOf 58 = .ok (.iload_n 3, 1) := by decide +kernel
theorem dX0_handicapOf_59 : decode cX0_handicapOf 59 = .ok (.invokevirtual 109, 3) := by decide +kernel
theorem dX0_handicapOf_62 : decode cX0_handicapOf 62 = .ok (.istore 4, 2) := by decide +kernel
theorem dX0_handicapOf_64 : decode cX0_handicapOf 64 = .ok (.iload 4, 2) := by decide +kernel
theorem dX0_handicapOf_66 : decode cX0_handicapOf 66 = .ok (.iconst 1, 1) := by decide +kernel
theorem dX0_handicapOf_67 : decode cX0_handicapOf 67 = .ok (.if_icmp .ge 5, 3) := by decide +kernel
theorem dX0_handicapOf_70 : decode cX0_handicapOf 70 = .ok (.iconst (-1), 1) := by decide +kernel
theorem dX0_handicapOf_71 : decode cX0_handicapOf 71 = .ok (.ireturn, 1) := by decide +kernel
theorem dX0_handicapOf_72 : decode cX0_handicapOf 72 = .ok (.iconst 0, 1) := by decide +kernel
theorem dX0_handicapOf_73 : decode cX0_handicapOf 73 = .ok (.istore 5, 2) := by decide +kernel
theorem dX0_handicapOf_75 : decode cX0_handicapOf 75 = .ok (.iconst 0, 1) := by decide +kernel
theorem dX0_handicapOf_76 : decode cX0_handicapOf 76 = .ok (.istore 6, 2) := by decide +kernel
theorem dX0_handicapOf_78 : decode cX0_handicapOf 78 = .ok (.iload 6, 2) := by decide +kernel
theorem dX0_handicapOf_80 : decode cX0_handicapOf 80 = .ok (.aload_n 1, 1) := by decide +kernel
theorem dX0_handicapOf_81 : decode cX0_handicapOf 81 = .ok (.getfield 72, 3) := by decide +kernel
theorem dX0_handicapOf_84 : decode cX0_handicapOf 84 = .ok (.if_icmp .ge 52, 3) := by decide +kernel
theorem dX0_handicapOf_87 : decode cX0_handicapOf 87 = .ok (.iload 6, 2) := by decide +kernel
theorem dX0_handicapOf_89 : decode cX0_handicapOf 89 = .ok (.iload_n 2, 1) := by decide +kernel
theorem dX0_handicapOf_90 : decode cX0_handicapOf 90 = .ok (.if_icmp .eq 40, 3) := by decide +kernel
theorem dX0_handicapOf_93 : decode cX0_handicapOf 93 = .ok (.iload 6, 2) := by decide +kernel
theorem dX0_handicapOf_95 : decode cX0_handicapOf 95 = .ok (.iload_n 2, 1) := by decide +kernel
theorem dX0_handicapOf_96 : decode cX0_handicapOf 96 = .ok (.if_icmp .ge 10, 3) := by decide +kernel
theorem dX0_handicapOf_99 : decode cX0_handicapOf 99 = .ok (.iload 4, 2) := by decide +kernel
theorem dX0_handicapOf_101 : decode cX0_handicapOf 101 = .ok (.iconst 1, 1) := by decide +kernel
theorem dX0_handicapOf_102 : decode cX0_handicapOf 102 = .ok (.isub, 1) := by decide +kernel
theorem dX0_handicapOf_103 : decode cX0_handicapOf 103 = .ok (.goto 5, 3) := by decide +kernel
theorem dX0_handicapOf_106 : decode cX0_handicapOf 106 = .ok (.iload 4, 2) := by decide +kernel
theorem dX0_handicapOf_108 : decode cX0_handicapOf 108 = .ok (.istore 7, 2) := by decide +kernel
theorem dX0_handicapOf_110 : decode cX0_handicapOf 110 = .ok (.iload 5, 2) := by decide +kernel
theorem dX0_handicapOf_112 : decode cX0_handicapOf 112 = .ok (.iconst 0, 1) := by decide +kernel
theorem dX0_handicapOf_113 : decode cX0_handicapOf 113 = .ok (.aload_n 0, 1) := by decide +kernel
theorem dX0_handicapOf_114 : decode cX0_handicapOf 114 = .ok (.aload_n 1, 1) := by decide +kernel
theorem dX0_handicapOf_115 : decode cX0_handicapOf 115 = .ok (.iload 6, 2) := by decide +kernel
theorem dX0_handicapOf_117 : decode cX0_handicapOf 117 = .ok (.iload_n 3, 1) := by decide +kernel
theorem dX0_handicapOf_118 : decode cX0_handicapOf 118 = .ok (.invokevirtual 93, 3) := by decide +kernel
theorem dX0_handicapOf_121 : decode cX0_handicapOf 121 = .ok (.iload 7, 2) := by decide +kernel
theorem dX0_handicapOf_123 : decode cX0_handicapOf 123 = .ok (.isub, 1) := by decide +kernel
theorem dX0_handicapOf_124 : decode cX0_handicapOf 124 = .ok (.invokestatic 113, 3) := by decide +kernel
theorem dX0_handicapOf_127 : decode cX0_handicapOf 127 = .ok (.iadd, 1) := by decide +kernel
theorem dX0_handicapOf_128 : decode cX0_handicapOf 128 = .ok (.istore 5, 2) := by decide +kernel
theorem dX0_handicapOf_130 : decode cX0_handicapOf 130 = .ok (.iinc 6 1, 3) := by decide +kernel
theorem dX0_handicapOf_133 : decode cX0_handicapOf 133 = .ok (.goto (-55), 3) := by decide +kernel
theorem dX0_handicapOf_136 : decode cX0_handicapOf 136 = .ok (.iload 5, 2) := by decide +kernel
theorem dX0_handicapOf_138 : decode cX0_handicapOf 138 = .ok (.ireturn, 1) := by decide +kernel
theorem dX0_kindsThatFit_0 : decode cX0_kindsThatFit 0 = .ok (.iconst 0, 1) := by decide +kernel
theorem dX0_kindsThatFit_1 : decode cX0_kindsThatFit 1 = .ok (.istore_n 3, 1) := by decide +kernel
theorem dX0_kindsThatFit_2 : decode cX0_kindsThatFit 2 = .ok (.iconst 0, 1) := by decide +kernel
theorem dX0_kindsThatFit_3 : decode cX0_kindsThatFit 3 = .ok (.istore 4, 2) := by decide +kernel
theorem dX0_kindsThatFit_5 : decode cX0_kindsThatFit 5 = .ok (.iload 4, 2) := by decide +kernel
theorem dX0_kindsThatFit_7 : decode cX0_kindsThatFit 7 = .ok (.bipush 6, 2) := by decide +kernel
theorem dX0_kindsThatFit_9 : decode cX0_kindsThatFit 9 = .ok (.if_icmp .ge 27, 3) := by decide +kernel
theorem dX0_kindsThatFit_12 : decode cX0_kindsThatFit 12 = .ok (.aload_n 0, 1) := by decide +kernel
theorem dX0_kindsThatFit_13 : decode cX0_kindsThatFit 13 = .ok (.aload_n 1, 1) := by decide +kernel
theorem dX0_kindsThatFit_14 : decode cX0_kindsThatFit 14 = .ok (.iload_n 2, 1) := by decide +kernel
theorem dX0_kindsThatFit_15 : decode cX0_kindsThatFit 15 = .ok (.iload 4, 2) := by decide +kernel
theorem dX0_kindsThatFit_17 : decode cX0_kindsThatFit 17 = .ok (.invokevirtual 118, 3) := by decide +kernel
theorem dX0_kindsThatFit_20 : decode cX0_kindsThatFit 20 = .ok (.ifCond .eq 10, 3) := by decide +kernel
theorem dX0_kindsThatFit_23 : decode cX0_kindsThatFit 23 = .ok (.iload_n 3, 1) := by decide +kernel
theorem dX0_kindsThatFit_24 : decode cX0_kindsThatFit 24 = .ok (.iconst 1, 1) := by decide +kernel
theorem dX0_kindsThatFit_25 : decode cX0_kindsThatFit 25 = .ok (.iload 4, 2) := by decide +kernel
theorem dX0_kindsThatFit_27 : decode cX0_kindsThatFit 27 = .ok (.ishl, 1) := by decide +kernel
theorem dX0_kindsThatFit_28 : decode cX0_kindsThatFit 28 = .ok (.ior, 1) := by decide +kernel
theorem dX0_kindsThatFit_29 : decode cX0_kindsThatFit 29 = .ok (.istore_n 3, 1) := by decide +kernel
theorem dX0_kindsThatFit_30 : decode cX0_kindsThatFit 30 = .ok (.iinc 4 1, 3) := by decide +kernel
theorem dX0_kindsThatFit_33 : decode cX0_kindsThatFit 33 = .ok (.goto (-28), 3) := by decide +kernel
theorem dX0_kindsThatFit_36 : decode cX0_kindsThatFit 36 = .ok (.iload_n 3, 1) := by decide +kernel
theorem dX0_kindsThatFit_37 : decode cX0_kindsThatFit 37 = .ok (.ireturn, 1) := by decide +kernel
theorem dX0_kindFits_0 : decode cX0_kindFits 0 = .ok (.iconst 0, 1) := by decide +kernel
theorem dX0_kindFits_1 : decode cX0_kindFits 1 = .ok (.istore 4, 2) := by decide +kernel
theorem dX0_kindFits_3 : decode cX0_kindFits 3 = .ok (.iload 4, 2) := by decide +kernel
theorem dX0_kindFits_5 : decode cX0_kindFits 5 = .ok (.aload_n 1, 1) := by decide +kernel
theorem dX0_kindFits_6 : decode cX0_kindFits 6 = .ok (.getfield 122, 3) := by decide +kernel
theorem dX0_kindFits_9 : decode cX0_kindFits 9 = .ok (.if_icmp .ge 68, 3) := by decide +kernel
theorem dX0_kindFits_12 : decode cX0_kindFits 12 = .ok (.aload_n 1, 1) := by decide +kernel
theorem dX0_kindFits_13 : decode cX0_kindFits 13 = .ok (.iload 4, 2) := by decide +kernel
theorem dX0_kindFits_15 : decode cX0_kindFits 15 = .ok (.iconst 3, 1) := by decide +kernel
theorem dX0_kindFits_16 : decode cX0_kindFits 16 = .ok (.invokevirtual 127, 3) := by decide +kernel
theorem dX0_kindFits_19 : decode cX0_kindFits 19 = .ok (.iconst 1, 1) := by decide +kernel
theorem dX0_kindFits_20 : decode cX0_kindFits 20 = .ok (.if_icmp .ne 7, 3) := by decide +kernel
theorem dX0_kindFits_23 : decode cX0_kindFits 23 = .ok (.iconst 1, 1) := by decide +kernel
theorem dX0_kindFits_24 : decode cX0_kindFits 24 = .ok (.goto 4, 3) := by decide +kernel
theorem dX0_kindFits_27 : decode cX0_kindFits 27 = .ok (.iconst 0, 1) := by decide +kernel
theorem dX0_kindFits_28 : decode cX0_kindFits 28 = .ok (.istore 5, 2) := by decide +kernel
theorem dX0_kindFits_30 : decode cX0_kindFits 30 = .ok (.aload_n 1, 1) := by decide +kernel
theorem dX0_kindFits_31 : decode cX0_kindFits 31 = .ok (.iload 4, 2) := by decide +kernel
theorem dX0_kindFits_33 : decode cX0_kindFits 33 = .ok (.iconst 0, 1) := by decide +kernel
theorem dX0_kindFits_34 : decode cX0_kindFits 34 = .ok (.invokevirtual 127, 3) := by decide +kernel
theorem dX0_kindFits_37 : decode cX0_kindFits 37 = .ok (.iload_n 2, 1) := by decide +kernel
theorem dX0_kindFits_38 : decode cX0_kindFits 38 = .ok (.if_icmp .ne 33, 3) := by decide +kernel
theorem dX0_kindFits_41 : decode cX0_kindFits 41 = .ok (.aload_n 0, 1) := by decide +kernel
theorem dX0_kindFits_42 : decode cX0_kindFits 42 = .ok (.getfield 11, 3) := by decide +kernel
theorem dX0_kindFits_45 : decode cX0_kindFits 45 = .ok (.iload_n 3, 1) := by decide +kernel
theorem dX0_kindFits_46 : decode cX0_kindFits 46 = .ok (.aaload, 1) := by decide +kernel
theorem dX0_kindFits_47 : decode cX0_kindFits 47 = .ok (.aload_n 1, 1) := by decide +kernel
theorem dX0_kindFits_48 : decode cX0_kindFits 48 = .ok (.iload 4, 2) := by decide +kernel
theorem dX0_kindFits_50 : decode cX0_kindFits 50 = .ok (.iconst 1, 1) := by decide +kernel
theorem dX0_kindFits_51 : decode cX0_kindFits 51 = .ok (.invokevirtual 127, 3) := by decide +kernel
theorem dX0_kindFits_54 : decode cX0_kindFits 54 = .ok (.aload_n 1, 1) := by decide +kernel
theorem dX0_kindFits_55 : decode cX0_kindFits 55 = .ok (.iload 4, 2) := by decide +kernel
theorem dX0_kindFits_57 : decode cX0_kindFits 57 = .ok (.iconst 2, 1) := by decide +kernel
theorem dX0_kindFits_58 : decode cX0_kindFits 58 = .ok (.invokevirtual 127, 3) := by decide +kernel
theorem dX0_kindFits_61 : decode cX0_kindFits 61 = .ok (.invokevirtual 86, 3) := by decide +kernel
theorem dX0_kindFits_64 : decode cX0_kindFits 64 = .ok (.iload 5, 2) := by decide +kernel
theorem dX0_kindFits_66 : decode cX0_kindFits 66 = .ok (.if_icmp .eq 5, 3) := by decide +kernel
theorem dX0_kindFits_69 : decode cX0_kindFits 69 = .ok (.iconst 0, 1) := by decide +kernel
theorem dX0_kindFits_70 : decode cX0_kindFits 70 = .ok (.ireturn, 1) := by decide +kernel
theorem dX0_kindFits_71 : decode cX0_kindFits 71 = .ok (.iinc 4 1, 3) := by decide +kernel
theorem dX0_kindFits_74 : decode cX0_kindFits 74 = .ok (.goto (-71), 3) := by decide +kernel
theorem dX0_kindFits_77 : decode cX0_kindFits 77 = .ok (.iconst 1, 1) := by decide +kernel
theorem dX0_kindFits_78 : decode cX0_kindFits 78 = .ok (.ireturn, 1) := by decide +kernel
theorem dX0_tellingWorth_0 : decode cX0_tellingWorth 0 = .ok (.iload_n 1, 1) := by decide +kernel
theorem dX0_tellingWorth_1 : decode cX0_tellingWorth 1 = .ok (.invokestatic 62, 3) := by decide +kernel
theorem dX0_tellingWorth_4 : decode cX0_tellingWorth 4 = .ok (.istore_n 3, 1) := by decide +kernel
theorem dX0_tellingWorth_5 : decode cX0_tellingWorth 5 = .ok (.iload_n 3, 1) := by decide +kernel
theorem dX0_tellingWorth_6 : decode cX0_tellingWorth 6 = .ok (.ifCond .ne 5, 3) := by decide +kernel
theorem dX0_tellingWorth_9 : decode cX0_tellingWorth 9 = .ok (.iconst (-1), 1) := by decide +kernel
theorem dX0_tellingWorth_10 : decode cX0_tellingWorth 10 = .ok (.ireturn, 1) := by decide +kernel
theorem dX0_tellingWorth_11 : decode cX0_tellingWorth 11 = .ok (.bipush 7, 2) := by decide +kernel
theorem dX0_tellingWorth_13 : decode cX0_tellingWorth 13 = .ok (.istore 4, 2) := by decide +kernel
theorem dX0_tellingWorth_15 : decode cX0_tellingWorth 15 = .ok (.iconst (-1), 1) := by decide +kernel
theorem dX0_tellingWorth_16 : decode cX0_tellingWorth 16 = .ok (.istore 5, 2) := by decide +kernel
theorem dX0_tellingWorth_18 : decode cX0_tellingWorth 18 = .ok (.iconst 1, 1) := by decide +kernel
theorem dX0_tellingWorth_19 : decode cX0_tellingWorth 19 = .ok (.istore 6, 2) := by decide +kernel
theorem dX0_tellingWorth_21 : decode cX0_tellingWorth 21 = .ok (.iload 6, 2) := by decide +kernel
theorem dX0_tellingWorth_23 : decode cX0_tellingWorth 23 = .ok (.bipush 30, 2) := by decide +kernel
theorem dX0_tellingWorth_25 : decode cX0_tellingWorth 25 = .ok (.if_icmp .gt 83, 3) := by decide +kernel
theorem dX0_tellingWorth_28 : decode cX0_tellingWorth 28 = .ok (.iconst 0, 1) := by decide +kernel
theorem dX0_tellingWorth_29 : decode cX0_tellingWorth 29 = .ok (.istore 7, 2) := by decide +kernel
theorem dX0_tellingWorth_31 : decode cX0_tellingWorth 31 = .ok (.iconst 0, 1) := by decide +kernel
theorem dX0_tellingWorth_32 : decode cX0_tellingWorth 32 = .ok (.istore 8, 2) := by decide +kernel
theorem dX0_tellingWorth_34 : decode cX0_tellingWorth 34 = .ok (.iload 8, 2) := by decide +kernel
theorem dX0_tellingWorth_36 : decode cX0_tellingWorth 36 = .ok (.bipush 6, 2) := by decide +kernel
theorem dX0_tellingWorth_38 : decode cX0_tellingWorth 38 = .ok (.if_icmp .ge 38, 3) := by decide +kernel
theorem dX0_tellingWorth_41 : decode cX0_tellingWorth 41 = .ok (.iload_n 1, 1) := by decide +kernel
theorem dX0_tellingWorth_42 : decode cX0_tellingWorth 42 = .ok (.iload 8, 2) := by decide +kernel
theorem dX0_tellingWorth_44 : decode cX0_tellingWorth 44 = .ok (.ishr, 1) := by decide +kernel
theorem dX0_tellingWorth_45 : decode cX0_tellingWorth 45 = .ok (.iconst 1, 1) := by decide +kernel
theorem dX0_tellingWorth_46 : decode cX0_tellingWorth 46 = .ok (.iand, 1) := by decide +kernel
theorem dX0_tellingWorth_47 : decode cX0_tellingWorth 47 = .ok (.iconst 1, 1) := by decide +kernel
theorem dX0_tellingWorth_48 : decode cX0_tellingWorth 48 = .ok (.if_icmp .ne 22, 3) := by decide +kernel
theorem dX0_tellingWorth_51 : decode cX0_tellingWorth 51 = .ok (.aload_n 0, 1) := by decide +kernel
theorem dX0_tellingWorth_52 : decode cX0_tellingWorth 52 = .ok (.getfield 11, 3) := by decide +kernel
theorem dX0_tellingWorth_55 : decode cX0_tellingWorth 55 = .ok (.iload 8, 2) := by decide +kernel
theorem dX0_tellingWorth_57 : decode cX0_tellingWorth 57 = .ok (.aaload, 1) := by decide +kernel
theorem dX0_tellingWorth_58 : decode cX0_tellingWorth 58 = .ok (.iload 6, 2) := by decide +kernel
theorem dX0_tellingWorth_60 : decode cX0_tellingWorth 60 = .ok (.iload_n 2, 1) := by decide +kernel
theorem dX0_tellingWorth_61 : decode cX0_tellingWorth 61 = .ok (.invokevirtual 86, 3) := by decide +kernel
theorem dX0_tellingWorth_64 : decode cX0_tellingWorth 64 = .ok (.ifCond .eq 6, 3) := by decide +kernel
theorem dX0_tellingWorth_67 : decode cX0_tellingWorth 67 = .ok (.iinc 7 1, 3) := by decide +kernel
theorem dX0_tellingWorth_70 : decode cX0_tellingWorth 70 = .ok (.iinc 8 1, 3) := by decide +kernel
theorem dX0_tellingWorth_73 : decode cX0_tellingWorth 73 = .ok (.goto (-39), 3) := by decide +kernel
theorem dX0_tellingWorth_76 : decode cX0_tellingWorth 76 = .ok (.iload 7, 2) := by decide +kernel
theorem dX0_tellingWorth_78 : decode cX0_tellingWorth 78 = .ok (.iload_n 3, 1) := by decide +kernel
theorem dX0_tellingWorth_79 : decode cX0_tellingWorth 79 = .ok (.iload 7, 2) := by decide +kernel
theorem dX0_tellingWorth_81 : decode cX0_tellingWorth 81 = .ok (.isub, 1) := by decide +kernel
theorem dX0_tellingWorth_82 : decode cX0_tellingWorth 82 = .ok (.invokestatic 113, 3) := by decide +kernel
theorem dX0_tellingWorth_85 : decode cX0_tellingWorth 85 = .ok (.istore 8, 2) := by decide +kernel
theorem dX0_tellingWorth_87 : decode cX0_tellingWorth 87 = .ok (.iload 8, 2) := by decide +kernel
theorem dX0_tellingWorth_89 : decode cX0_tellingWorth 89 = .ok (.iload 4, 2) := by decide +kernel
theorem dX0_tellingWorth_91 : decode cX0_tellingWorth 91 = .ok (.if_icmp .ge 11, 3) := by decide +kernel
theorem dX0_tellingWorth_94 : decode cX0_tellingWorth 94 = .ok (.iload 8, 2) := by decide +kernel
theorem dX0_tellingWorth_96 : decode cX0_tellingWorth 96 = .ok (.istore 4, 2) := by decide +kernel
theorem dX0_tellingWorth_98 : decode cX0_tellingWorth 98 = .ok (.iload 6, 2) := by decide +kernel
theorem dX0_tellingWorth_100 : decode cX0_tellingWorth 100 = .ok (.istore 5, 2) := by decide +kernel
theorem dX0_tellingWorth_102 : decode cX0_tellingWorth 102 = .ok (.iinc 6 1, 3) := by decide +kernel
theorem dX0_tellingWorth_105 : decode cX0_tellingWorth 105 = .ok (.goto (-84), 3) := by decide +kernel
theorem dX0_tellingWorth_108 : decode cX0_tellingWorth 108 = .ok (.iload 5, 2) := by decide +kernel
theorem dX0_tellingWorth_110 : decode cX0_tellingWorth 110 = .ok (.ireturn, 1) := by decide +kernel
theorem dX0_isSo_0 : decode cX0_isSo 0 = .ok (.aload_n 0, 1) := by decide +kernel
theorem dX0_isSo_1 : decode cX0_isSo 1 = .ok (.aload_n 1, 1) := by decide +kernel
theorem dX0_isSo_2 : decode cX0_isSo 2 = .ok (.iload_n 2, 1) := by decide +kernel
theorem dX0_isSo_3 : decode cX0_isSo 3 = .ok (.iconst (-1), 1) := by decide +kernel
theorem dX0_isSo_4 : decode cX0_isSo 4 = .ok (.iconst 0, 1) := by decide +kernel
theorem dX0_isSo_5 : decode cX0_isSo 5 = .ok (.invokevirtual 130, 3) := by decide +kernel
theorem dX0_isSo_8 : decode cX0_isSo 8 = .ok (.ireturn, 1) := by decide +kernel
theorem dX0_isSoWith_0 : decode cX0_isSoWith 0 = .ok (.aload_n 1, 1) := by decide +kernel
theorem dX0_isSoWith_1 : decode cX0_isSoWith 1 = .ok (.getfield 134, 3) := by decide +kernel
theorem dX0_isSoWith_4 : decode cX0_isSoWith 4 = .ok (.iload_n 2, 1) := by decide +kernel
theorem dX0_isSoWith_5 : decode cX0_isSoWith 5 = .ok (.iconst 0, 1) := by decide +kernel
theorem dX0_isSoWith_6 : decode cX0_isSoWith 6 = .ok (.invokevirtual 127, 3) := by decide +kernel
theorem dX0_isSoWith_9 : decode cX0_isSoWith 9 = .ok (.istore 5, 2) := by decide +kernel
theorem dX0_isSoWith_11 : decode cX0_isSoWith 11 = .ok (.aload_n 1, 1) := by decide +kernel
theorem dX0_isSoWith_12 : decode cX0_isSoWith 12 = .ok (.getfield 134, 3) := by decide +kernel
theorem dX0_isSoWith_15 : decode cX0_isSoWith 15 = .ok (.iload_n 2, 1) := by decide +kernel
theorem dX0_isSoWith_16 : decode cX0_isSoWith 16 = .ok (.iconst 1, 1) := by decide +kernel
theorem dX0_isSoWith_17 : decode cX0_isSoWith 17 = .ok (.invokevirtual 127, 3) := by decide +kernel
theorem dX0_isSoWith_20 : decode cX0_isSoWith 20 = .ok (.istore 6, 2) := by decide +kernel
theorem dX0_isSoWith_22 : decode cX0_isSoWith 22 = .ok (.aload_n 1, 1) := by decide +kernel
theorem dX0_isSoWith_23 : decode cX0_isSoWith 23 = .ok (.getfield 134, 3) := by decide +kernel
theorem dX0_isSoWith_26 : decode cX0_isSoWith 26 = .ok (.iload_n 2, 1) := by decide +kernel
theorem dX0_isSoWith_27 : decode cX0_isSoWith 27 = .ok (.iconst 2, 1) := by decide +kernel
theorem dX0_isSoWith_28 : decode cX0_isSoWith 28 = .ok (.invokevirtual 127, 3) := by decide +kernel
theorem dX0_isSoWith_31 : decode cX0_isSoWith 31 = .ok (.istore 7, 2) := by decide +kernel
theorem dX0_isSoWith_33 : decode cX0_isSoWith 33 = .ok (.aload_n 1, 1) := by decide +kernel
theorem dX0_isSoWith_34 : decode cX0_isSoWith 34 = .ok (.getfield 134, 3) := by decide +kernel
theorem dX0_isSoWith_37 : decode cX0_isSoWith 37 = .ok (.iload_n 2, 1) := by decide +kernel
theorem dX0_isSoWith_38 : decode cX0_isSoWith 38 = .ok (.iconst 3, 1) := by decide +kernel
theorem dX0_isSoWith_39 : decode cX0_isSoWith 39 = .ok (.invokevirtual 127, 3) := by decide +kernel
theorem dX0_isSoWith_42 : decode cX0_isSoWith 42 = .ok (.istore 8, 2) := by decide +kernel
theorem dX0_isSoWith_44 : decode cX0_isSoWith 44 = .ok (.iload 5, 2) := by decide +kernel
theorem dX0_isSoWith_46 : decode cX0_isSoWith 46 = .ok (.iconst 0, 1) := by decide +kernel
theorem dX0_isSoWith_47 : decode cX0_isSoWith 47 = .ok (.aload_n 1, 1) := by decide +kernel
theorem dX0_isSoWith_48 : decode cX0_isSoWith 48 = .ok (.getfield 72, 3) := by decide +kernel
theorem dX0_isSoWith_51 : decode cX0_isSoWith 51 = .ok (.iconst 1, 1) := by decide +kernel
theorem dX0_isSoWith_52 : decode cX0_isSoWith 52 = .ok (.isub, 1) := by decide +kernel
theorem dX0_isSoWith_53 : decode cX0_isSoWith 53 = .ok (.invokestatic 46, 3) := by decide +kernel
theorem dX0_isSoWith_56 : decode cX0_isSoWith 56 = .ok (.ifCond .eq 28, 3) := by decide +kernel
theorem dX0_isSoWith_59 : decode cX0_isSoWith 59 = .ok (.iload 6, 2) := by decide +kernel
theorem dX0_isSoWith_61 : decode cX0_isSoWith 61 = .ok (.iconst 0, 1) := by decide +kernel
theorem dX0_isSoWith_62 : decode cX0_isSoWith 62 = .ok (.aload_n 1, 1) := by decide +kernel
theorem dX0_isSoWith_63 : decode cX0_isSoWith 63 = .ok (.getfield 72, 3) := by decide +kernel
theorem dX0_isSoWith_66 : decode cX0_isSoWith 66 = .ok (.iconst 1, 1) := by decide +kernel
theorem dX0_isSoWith_67 : decode cX0_isSoWith 67 = .ok (.isub, 1) := by decide +kernel
theorem dX0_isSoWith_68 : decode cX0_isSoWith 68 = .ok (.invokestatic 46, 3) := by decide +kernel
theorem dX0_isSoWith_71 : decode cX0_isSoWith 71 = .ok (.ifCond .eq 13, 3) := by decide +kernel
theorem dX0_isSoWith_74 : decode cX0_isSoWith 74 = .ok (.iload 7, 2) := by decide +kernel
theorem dX0_isSoWith_76 : decode cX0_isSoWith 76 = .ok (.iconst 0, 1) := by decide +kernel
theorem dX0_isSoWith_77 : decode cX0_isSoWith 77 = .ok (.iconst 2, 1) := by decide +kernel
theorem dX0_isSoWith_78 : decode cX0_isSoWith 78 = .ok (.invokestatic 46, 3) := by decide +kernel
theorem dX0_isSoWith_81 : decode cX0_isSoWith 81 = .ok (.ifCond .ne 5, 3) := by decide +kernel
theorem dX0_isSoWith_84 : decode cX0_isSoWith 84 = .ok (.iconst 0, 1) := by decide +kernel
theorem dX0_isSoWith_85 : decode cX0_isSoWith 85 = .ok (.ireturn, 1) := by decide +kernel
theorem dX0_isSoWith_86 : decode cX0_isSoWith 86 = .ok (.iload 5, 2) := by decide +kernel
theorem dX0_isSoWith_88 : decode cX0_isSoWith 88 = .ok (.iload_n 3, 1) := by decide +kernel
theorem dX0_isSoWith_89 : decode cX0_isSoWith 89 = .ok (.if_icmp .ne 8, 3) := by decide +kernel
theorem dX0_isSoWith_92 : decode cX0_isSoWith 92 = .ok (.iload 4, 2) := by decide +kernel
theorem dX0_isSoWith_94 : decode cX0_isSoWith 94 = .ok (.goto 15, 3) := by decide +kernel
theorem dX0_isSoWith_97 : decode cX0_isSoWith 97 = .ok (.aload_n 1, 1) := by decide +kernel
theorem dX0_isSoWith_98 : decode cX0_isSoWith 98 = .ok (.getfield 90, 3) := by decide +kernel
theorem dX0_isSoWith_101 : decode cX0_isSoWith 101 = .ok (.iload 5, 2) := by decide +kernel
theorem dX0_isSoWith_103 : decode cX0_isSoWith 103 = .ok (.iconst 3, 1) := by decide +kernel
theorem dX0_isSoWith_104 : decode cX0_isSoWith 104 = .ok (.imul, 1) := by decide +kernel
theorem dX0_isSoWith_105 : decode cX0_isSoWith 105 = .ok (.iload 7, 2) := by decide +kernel
theorem dX0_isSoWith_107 : decode cX0_isSoWith 107 = .ok (.iadd, 1) := by decide +kernel
theorem dX0_isSoWith_108 : decode cX0_isSoWith 108 = .ok (.iaload, 1) := by decide +kernel
theorem dX0_isSoWith_109 : decode cX0_isSoWith 109 = .ok (.istore 9, 2) := by decide +kernel
theorem dX0_isSoWith_111 : decode cX0_isSoWith 111 = .ok (.iload 6, 2) := by decide +kernel
theorem dX0_isSoWith_113 : decode cX0_isSoWith 113 = .ok (.iload_n 3, 1) := by decide +kernel
theorem dX0_isSoWith_114 : decode cX0_isSoWith 114 = .ok (.if_icmp .ne 8, 3) := by decide +kernel
theorem dX0_isSoWith_117 : decode cX0_isSoWith 117 = .ok (.iload 4, 2) := by decide +kernel
theorem dX0_isSoWith_119 : decode cX0_isSoWith 119 = .ok (.goto 15, 3) := by decide +kernel
theorem dX0_isSoWith_122 : decode cX0_isSoWith 122 = .ok (.aload_n 1, 1) := by decide +kernel
theorem dX0_isSoWith_123 : decode cX0_isSoWith 123 = .ok (.getfield 90, 3) := by decide +kernel
theorem dX0_isSoWith_126 : decode cX0_isSoWith 126 = .ok (.iload 6, 2) := by decide +kernel
theorem dX0_isSoWith_128 : decode cX0_isSoWith 128 = .ok (.iconst 3, 1) := by decide +kernel
theorem dX0_isSoWith_129 : decode cX0_isSoWith 129 = .ok (.imul, 1) := by decide +kernel
theorem dX0_isSoWith_130 : decode cX0_isSoWith 130 = .ok (.iload 7, 2) := by decide +kernel
theorem dX0_isSoWith_132 : decode cX0_isSoWith 132 = .ok (.iadd, 1) := by decide +kernel
theorem dX0_isSoWith_133 : decode cX0_isSoWith 133 = .ok (.iaload, 1) := by decide +kernel
theorem dX0_isSoWith_134 : decode cX0_isSoWith 134 = .ok (.istore 10, 2) := by decide +kernel
theorem dX0_isSoWith_136 : decode cX0_isSoWith 136 = .ok (.aload_n 0, 1) := by decide +kernel
theorem dX0_isSoWith_137 : decode cX0_isSoWith 137 = .ok (.aload_n 1, 1) := by decide +kernel
theorem dX0_isSoWith_138 : decode cX0_isSoWith 138 = .ok (.getfield 54, 3) := by decide +kernel
theorem dX0_isSoWith_141 : decode cX0_isSoWith 141 = .ok (.iload 5, 2) := by decide +kernel
theorem dX0_isSoWith_143 : decode cX0_isSoWith 143 = .ok (.iaload, 1) := by decide +kernel
theorem dX0_isSoWith_144 : decode cX0_isSoWith 144 = .ok (.iload 9, 2) := by decide +kernel
theorem dX0_isSoWith_146 : decode cX0_isSoWith 146 = .ok (.iload 8, 2) := by decide +kernel
theorem dX0_isSoWith_148 : decode cX0_isSoWith 148 = .ok (.invokevirtual 109, 3) := by decide +kernel
theorem dX0_isSoWith_151 : decode cX0_isSoWith 151 = .ok (.aload_n 0, 1) := by decide +kernel
theorem dX0_isSoWith_152 : decode cX0_isSoWith 152 = .ok (.aload_n 1, 1) := by decide +kernel
theorem dX0_isSoWith_153 : decode cX0_isSoWith 153 = .ok (.getfield 54, 3) := by decide +kernel
theorem dX0_isSoWith_156 : decode cX0_isSoWith 156 = .ok (.iload 6, 2) := by decide +kernel
theorem dX0_isSoWith_158 : decode cX0_isSoWith 158 = .ok (.iaload, 1) := by decide +kernel
theorem dX0_isSoWith_159 : decode cX0_isSoWith 159 = .ok (.iload 10, 2) := by decide +kernel
theorem dX0_isSoWith_161 : decode cX0_isSoWith 161 = .ok (.iload 8, 2) := by decide +kernel
theorem dX0_isSoWith_163 : decode cX0_isSoWith 163 = .ok (.invokevirtual 109, 3) := by decide +kernel
theorem dX0_isSoWith_166 : decode cX0_isSoWith 166 = .ok (.if_icmp .le 7, 3) := by decide +kernel
theorem dX0_isSoWith_169 : decode cX0_isSoWith 169 = .ok (.iconst 1, 1) := by decide +kernel
theorem dX0_isSoWith_170 : decode cX0_isSoWith 170 = .ok (.goto 4, 3) := by decide +kernel
theorem dX0_isSoWith_173 : decode cX0_isSoWith 173 = .ok (.iconst 0, 1) := by decide +kernel
theorem dX0_isSoWith_174 : decode cX0_isSoWith 174 = .ok (.ireturn, 1) := by decide +kernel
theorem dX0_artFits_0 : decode cX0_artFits 0 = .ok (.aload_n 1, 1) := by decide +kernel
theorem dX0_artFits_1 : decode cX0_artFits 1 = .ok (.getfield 134, 3) := by decide +kernel
theorem dX0_artFits_4 : decode cX0_artFits 4 = .ok (.astore 5, 2) := by decide +kernel
theorem dX0_artFits_6 : decode cX0_artFits 6 = .ok (.iconst 0, 1) := by decide +kernel
theorem dX0_artFits_7 : decode cX0_artFits 7 = .ok (.istore 6, 2) := by decide +kernel
theorem dX0_artFits_9 : decode cX0_artFits 9 = .ok (.iload 6, 2) := by decide +kernel
theorem dX0_artFits_11 : decode cX0_artFits 11 = .ok (.aload 5, 2) := by decide +kernel
theorem dX0_artFits_13 : decode cX0_artFits 13 = .ok (.getfield 122, 3) := by decide +kernel
theorem dX0_artFits_16 : decode cX0_artFits 16 = .ok (.if_icmp .ge 72, 3) := by decide +kernel
theorem dX0_artFits_19 : decode cX0_artFits 19 = .ok (.aload 5, 2) := by decide +kernel
theorem dX0_artFits_21 : decode cX0_artFits 21 = .ok (.iload 6, 2) := by decide +kernel
theorem dX0_artFits_23 : decode cX0_artFits 23 = .ok (.iconst 0, 1) := by decide +kernel
theorem dX0_artFits_24 : decode cX0_artFits 24 = .ok (.invokevirtual 127, 3) := by decide +kernel
theorem dX0_artFits_27 : decode cX0_artFits 27 = .ok (.iload_n 2, 1) := by decide +kernel
theorem dX0_artFits_28 : decode cX0_artFits 28 = .ok (.if_icmp .eq 15, 3) := by decide +kernel
theorem dX0_artFits_31 : decode cX0_artFits 31 = .ok (.aload 5, 2) := by decide +kernel
theorem dX0_artFits_33 : decode cX0_artFits 33 = .ok (.iload 6, 2) := by decide +kernel
theorem dX0_artFits_35 : decode cX0_artFits 35 = .ok (.iconst 1, 1) := by decide +kernel
theorem dX0_artFits_36 : decode cX0_artFits 36 = .ok (.invokevirtual 127, 3) := by decide +kernel
theorem dX0_artFits_39 : decode cX0_artFits 39 = .ok (.iload_n 2, 1) := by decide +kernel
theorem dX0_artFits_40 : decode cX0_artFits 40 = .ok (.if_icmp .ne 7, 3) := by decide +kernel
theorem dX0_artFits_43 : decode cX0_artFits 43 = .ok (.iconst 1, 1) := by decide +kernel
theorem dX0_artFits_44 : decode cX0_artFits 44 = .ok (.goto 4, 3) := by decide +kernel
theorem dX0_artFits_47 : decode cX0_artFits 47 = .ok (.iconst 0, 1) := by decide +kernel
theorem dX0_artFits_48 : decode cX0_artFits 48 = .ok (.istore 7, 2) := by decide +kernel
theorem dX0_artFits_50 : decode cX0_artFits 50 = .ok (.iload 7, 2) := by decide +kernel
theorem dX0_artFits_52 : decode cX0_artFits 52 = .ok (.ifCond .eq 30, 3) := by decide +kernel
theorem dX0_artFits_55 : decode cX0_artFits 55 = .ok (.aload 5, 2) := by decide +kernel
theorem dX0_artFits_57 : decode cX0_artFits 57 = .ok (.iload 6, 2) := by decide +kernel
theorem dX0_artFits_59 : decode cX0_artFits 59 = .ok (.iconst 2, 1) := by decide +kernel
theorem dX0_artFits_60 : decode cX0_artFits 60 = .ok (.invokevirtual 127, 3) := by decide +kernel
theorem dX0_artFits_63 : decode cX0_artFits 63 = .ok (.iload_n 3, 1) := by decide +kernel
theorem dX0_artFits_64 : decode cX0_artFits 64 = .ok (.if_icmp .ne 18, 3) := by decide +kernel
theorem dX0_artFits_67 : decode cX0_artFits 67 = .ok (.aload_n 0, 1) := by decide +kernel
theorem dX0_artFits_68 : decode cX0_artFits 68 = .ok (.aload_n 1, 1) := by decide +kernel
theorem dX0_artFits_69 : decode cX0_artFits 69 = .ok (.iload 6, 2) := by decide +kernel
theorem dX0_artFits_71 : decode cX0_artFits 71 = .ok (.iload_n 2, 1) := by decide +kernel
theorem dX0_artFits_72 : decode cX0_artFits 72 = .ok (.iload 4, 2) := by decide +kernel
theorem dX0_artFits_74 : decode cX0_artFits 74 = .ok (.invokevirtual 130, 3) := by decide +kernel
theorem dX0_artFits_77 : decode cX0_artFits 77 = .ok (.ifCond .ne 5, 3) := by decide +kernel
theorem dX0_artFits_80 : decode cX0_artFits 80 = .ok (.iconst 0, 1) := by decide +kernel
theorem dX0_artFits_81 : decode cX0_artFits 81 = .ok (.ireturn, 1) := by decide +kernel
theorem dX0_artFits_82 : decode cX0_artFits 82 = .ok (.iinc 6 1, 3) := by decide +kernel
theorem dX0_artFits_85 : decode cX0_artFits 85 = .ok (.goto (-76), 3) := by decide +kernel
theorem dX0_artFits_88 : decode cX0_artFits 88 = .ok (.iconst 1, 1) := by decide +kernel
theorem dX0_artFits_89 : decode cX0_artFits 89 = .ok (.ireturn, 1) := by decide +kernel
theorem dX1_init_0 : decode cX1_init 0 = .ok (.aload_n 0, 1) := by decide +kernel
theorem dX1_init_1 : decode cX1_init 1 = .ok (.invokespecial 1, 3) := by decide +kernel
theorem dX1_init_4 : decode cX1_init 4 = .ok (.return_, 1) := by decide +kernel
theorem dX1_skill_0 : decode cX1_skill 0 = .ok (.iload_n 2, 1) := by decide +kernel
theorem dX1_skill_1 : decode cX1_skill 1 = .ok (.iconst 2, 1) := by decide +kernel
theorem dX1_skill_2 : decode cX1_skill 2 = .ok (.irem, 1) := by decide +kernel
theorem dX1_skill_3 : decode cX1_skill 3 = .ok (.iconst 1, 1) := by decide +kernel
theorem dX1_skill_4 : decode cX1_skill 4 = .ok (.if_icmp .ne 14, 3) := by decide +kernel
theorem dX1_skill_7 : decode cX1_skill 7 = .ok (.iconst 2, 1) := by decide +kernel
theorem dX1_skill_8 : decode cX1_skill 8 = .ok (.aload_n 0, 1) := by decide +kernel
theorem dX1_skill_9 : decode cX1_skill 9 = .ok (.iload_n 1, 1) := by decide +kernel
theorem dX1_skill_10 : decode cX1_skill 10 = .ok (.iload_n 2, 1) := by decide +kernel
theorem dX1_skill_11 : decode cX1_skill 11 = .ok (.invokespecial 7, 3) := by decide +kernel
theorem dX1_skill_14 : decode cX1_skill 14 = .ok (.imul, 1) := by decide +kernel
theorem dX1_skill_15 : decode cX1_skill 15 = .ok (.goto 4, 3) := by decide +kernel
theorem dX1_skill_18 : decode cX1_skill 18 = .ok (.iconst 0, 1) := by decide +kernel
theorem dX1_skill_19 : decode cX1_skill 19 = .ok (.ireturn, 1) := by decide +kernel
theorem dX2_init_0 : decode cX2_init 0 = .ok (.aload_n 0, 1) := by decide +kernel
theorem dX2_init_1 : decode cX2_init 1 = .ok (.invokespecial 3, 3) := by decide +kernel
theorem dX2_init_4 : decode cX2_init 4 = .ok (.aload_n 0, 1) := by decide +kernel
theorem dX2_init_5 : decode cX2_init 5 = .ok (.new 9, 3) := by decide +kernel
theorem dX2_init_8 : decode cX2_init 8 = .ok (.dup, 1) := by decide +kernel
theorem dX2_init_9 : decode cX2_init 9 = .ok (.invokespecial 11, 3) := by decide +kernel
theorem dX2_init_12 : decode cX2_init 12 = .ok (.putfield 12, 3) := by decide +kernel
theorem dX2_init_15 : decode cX2_init 15 = .ok (.aload_n 0, 1) := by decide +kernel
theorem dX2_init_16 : decode cX2_init 16 = .ok (.bipush 64, 2) := by decide +kernel
theorem dX2_init_18 : decode cX2_init 18 = .ok (.newarray .int, 2) := by decide +kernel
theorem dX2_init_20 : decode cX2_init 20 = .ok (.putfield 18, 3) := by decide +kernel
theorem dX2_init_23 : decode cX2_init 23 = .ok (.aload_n 0, 1) := by decide +kernel
theorem dX2_init_24 : decode cX2_init 24 = .ok (.bipush 64, 2) := by decide +kernel
theorem dX2_init_26 : decode cX2_init 26 = .ok (.newarray .int, 2) := by decide +kernel
theorem dX2_init_28 : decode cX2_init 28 = .ok (.putfield 22, 3) := by decide +kernel
theorem dX2_init_31 : decode cX2_init 31 = .ok (.aload_n 0, 1) := by decide +kernel
theorem dX2_init_32 : decode cX2_init 32 = .ok (.aload_n 1, 1) := by decide +kernel
theorem dX2_init_33 : decode cX2_init 33 = .ok (.putfield 25, 3) := by decide +kernel
theorem dX2_init_36 : decode cX2_init 36 = .ok (.return_, 1) := by decide +kernel
theorem dX2_begin_0 : decode cX2_begin 0 = .ok (.aload_n 0, 1) := by decide +kernel
theorem dX2_begin_1 : decode cX2_begin 1 = .ok (.getfield 12, 3) := by decide +kernel
theorem dX2_begin_4 : decode cX2_begin 4 = .ok (.aload_n 1, 1) := by decide +kernel
theorem dX2_begin_5 : decode cX2_begin 5 = .ok (.invokevirtual 29, 3) := by decide +kernel
theorem dX2_begin_8 : decode cX2_begin 8 = .ok (.aload_n 0, 1) := by decide +kernel
theorem dX2_begin_9 : decode cX2_begin 9 = .ok (.getfield 25, 3) := by decide +kernel
theorem dX2_begin_12 : decode cX2_begin 12 = .ok (.invokevirtual 33, 3) := by decide +kernel
theorem dX2_begin_15 : decode cX2_begin 15 = .ok (.return_, 1) := by decide +kernel
theorem dX2_runTo_0 : decode cX2_runTo 0 = .ok (.aload_n 0, 1) := by decide +kernel
theorem dX2_runTo_1 : decode cX2_runTo 1 = .ok (.getfield 12, 3) := by decide +kernel
theorem dX2_runTo_4 : decode cX2_runTo 4 = .ok (.getfield 38, 3) := by decide +kernel
theorem dX2_runTo_7 : decode cX2_runTo 7 = .ok (.istore_n 2, 1) := by decide +kernel
theorem dX2_runTo_8 : decode cX2_runTo 8 = .ok (.iload_n 2, 1) := by decide +kernel
theorem dX2_runTo_9 : decode cX2_runTo 9 = .ok (.iload_n 1, 1) := by decide +kernel
theorem dX2_runTo_10 : decode cX2_runTo 10 = .ok (.if_icmp .ge 48, 3) := by decide +kernel
theorem dX2_runTo_13 : decode cX2_runTo 13 = .ok (.iload_n 2, 1) := by decide +kernel
theorem dX2_runTo_14 : decode cX2_runTo 14 = .ok (.bipush 8, 2) := by decide +kernel
theorem dX2_runTo_16 : decode cX2_runTo 16 = .ok (.if_icmp .ge 42, 3) := by decide +kernel
theorem dX2_runTo_19 : decode cX2_runTo 19 = .ok (.aload_n 0, 1) := by decide +kernel
theorem dX2_runTo_20 : decode cX2_runTo 20 = .ok (.getfield 25, 3) := by decide +kernel
theorem dX2_runTo_23 : decode cX2_runTo 23 = .ok (.aload_n 0, 1) := by decide +kernel
theorem dX2_runTo_24 : decode cX2_runTo 24 = .ok (.getfield 12, 3) := by decide +kernel
theorem dX2_runTo_27 : decode cX2_runTo 27 = .ok (.iload_n 2, 1) := by decide +kernel
theorem dX2_runTo_28 : decode cX2_runTo 28 = .ok (.invokevirtual 42, 3) := by decide +kernel
theorem dX2_runTo_31 : decode cX2_runTo 31 = .ok (.aload_n 0, 1) := by decide +kernel
theorem dX2_runTo_32 : decode cX2_runTo 32 = .ok (.getfield 12, 3) := by decide +kernel
theorem dX2_runTo_35 : decode cX2_runTo 35 = .ok (.aload_n 0, 1) := by decide +kernel
theorem dX2_runTo_36 : decode cX2_runTo 36 = .ok (.getfield 25, 3) := by decide +kernel
theorem dX2_runTo_39 : decode cX2_runTo 39 = .ok (.getfield 46, 3) := by decide +kernel
theorem dX2_runTo_42 : decode cX2_runTo 42 = .ok (.aload_n 0, 1) := by decide +kernel
theorem dX2_runTo_43 : decode cX2_runTo 43 = .ok (.getfield 25, 3) := by decide +kernel
theorem dX2_runTo_46 : decode cX2_runTo 46 = .ok (.getfield 49, 3) := by decide +kernel
theorem dX2_runTo_49 : decode cX2_runTo 49 = .ok (.invokevirtual 52, 3) := by decide +kernel
theorem dX2_runTo_52 : decode cX2_runTo 52 = .ok (.iinc 2 1, 3) := by decide +kernel
theorem dX2_runTo_55 : decode cX2_runTo 55 = .ok (.goto (-47), 3) := by decide +kernel
theorem dX2_runTo_58 : decode cX2_runTo 58 = .ok (.return_, 1) := by decide +kernel
theorem dX2_contestOf_0 : decode cX2_contestOf 0 = .ok (.aload_n 0, 1) := by decide +kernel
theorem dX2_contestOf_1 : decode cX2_contestOf 1 = .ok (.aload_n 1, 1) := by decide +kernel
theorem dX2_contestOf_2 : decode cX2_contestOf 2 = .ok (.invokevirtual 56, 3) := by decide +kernel
theorem dX2_contestOf_5 : decode cX2_contestOf 5 = .ok (.aload_n 0, 1) := by decide +kernel
theorem dX2_contestOf_6 : decode cX2_contestOf 6 = .ok (.iload_n 2, 1) := by decide +kernel
theorem dX2_contestOf_7 : decode cX2_contestOf 7 = .ok (.invokevirtual 59, 3) := by decide +kernel
theorem dX2_contestOf_10 : decode cX2_contestOf 10 = .ok (.aload_n 0, 1) := by decide +kernel
theorem dX2_contestOf_11 : decode cX2_contestOf 11 = .ok (.getfield 25, 3) := by decide +kernel
theorem dX2_contestOf_14 : decode cX2_contestOf 14 = .ok (.aload_n 0, 1) := by decide +kernel
theorem dX2_contestOf_15 : decode cX2_contestOf 15 = .ok (.getfield 12, 3) := by decide +kernel
theorem dX2_contestOf_18 : decode cX2_contestOf 18 = .ok (.iload_n 2, 1) := by decide +kernel
theorem dX2_contestOf_19 : decode cX2_contestOf 19 = .ok (.invokevirtual 42, 3) := by decide +kernel
theorem dX2_contestOf_22 : decode cX2_contestOf 22 = .ok (.return_, 1) := by decide +kernel
theorem dX2_untaken_0 : decode cX2_untaken 0 = .ok (.aload_n 0, 1) := by decide +kernel
theorem dX2_untaken_1 : decode cX2_untaken 1 = .ok (.aload_n 1, 1) := by decide +kernel
theorem dX2_untaken_2 : decode cX2_untaken 2 = .ok (.invokevirtual 56, 3) := by decide +kernel
theorem dX2_untaken_5 : decode cX2_untaken 5 = .ok (.aload_n 0, 1) := by decide +kernel
theorem dX2_untaken_6 : decode cX2_untaken 6 = .ok (.bipush 8, 2) := by decide +kernel
theorem dX2_untaken_8 : decode cX2_untaken 8 = .ok (.invokevirtual 59, 3) := by decide +kernel
theorem dX2_untaken_11 : decode cX2_untaken 11 = .ok (.iconst 0, 1) := by decide +kernel
theorem dX2_untaken_12 : decode cX2_untaken 12 = .ok (.istore_n 2, 1) := by decide +kernel
theorem dX2_untaken_13 : decode cX2_untaken 13 = .ok (.iconst 0, 1) := by decide +kernel
theorem dX2_untaken_14 : decode cX2_untaken 14 = .ok (.istore_n 3, 1) := by decide +kernel
theorem dX2_untaken_15 : decode cX2_untaken 15 = .ok (.iload_n 3, 1) := by decide +kernel
theorem dX2_untaken_16 : decode cX2_untaken 16 = .ok (.aload_n 0, 1) := by decide +kernel
theorem dX2_untaken_17 : decode cX2_untaken 17 = .ok (.getfield 12, 3) := by decide +kernel
theorem dX2_untaken_20 : decode cX2_untaken 20 = .ok (.getfield 63, 3) := by decide +kernel
theorem dX2_untaken_23 : decode cX2_untaken 23 = .ok (.if_icmp .ge 21, 3) := by decide +kernel
theorem dX2_untaken_26 : decode cX2_untaken 26 = .ok (.iload_n 2, 1) := by decide +kernel
theorem dX2_untaken_27 : decode cX2_untaken 27 = .ok (.aload_n 0, 1) := by decide +kernel
theorem dX2_untaken_28 : decode cX2_untaken 28 = .ok (.getfield 12, 3) := by decide +kernel
theorem dX2_untaken_31 : decode cX2_untaken 31 = .ok (.getfield 66, 3) := by decide +kernel
theorem dX2_untaken_34 : decode cX2_untaken 34 = .ok (.iload_n 3, 1) := by decide +kernel
theorem dX2_untaken_35 : decode cX2_untaken 35 = .ok (.iaload, 1) := by decide +kernel
theorem dX2_untaken_36 : decode cX2_untaken 36 = .ok (.ior, 1) := by decide +kernel
theorem dX2_untaken_37 : decode cX2_untaken 37 = .ok (.istore_n 2, 1) := by decide +kernel
theorem dX2_untaken_38 : decode cX2_untaken 38 = .ok (.iinc 3 1, 3) := by decide +kernel
theorem dX2_untaken_41 : decode cX2_untaken 41 = .ok (.goto (-26), 3) := by decide +kernel
theorem dX2_untaken_44 : decode cX2_untaken 44 = .ok (.iconst 0, 1) := by decide +kernel
theorem dX2_untaken_45 : decode cX2_untaken 45 = .ok (.istore_n 3, 1) := by decide +kernel
theorem dX2_untaken_46 : decode cX2_untaken 46 = .ok (.aload_n 1, 1) := by decide +kernel
theorem dX2_untaken_47 : decode cX2_untaken 47 = .ok (.getfield 38, 3) := by decide +kernel
theorem dX2_untaken_50 : decode cX2_untaken 50 = .ok (.istore 4, 2) := by decide +kernel
theorem dX2_untaken_52 : decode cX2_untaken 52 = .ok (.iload 4, 2) := by decide +kernel
theorem dX2_untaken_54 : decode cX2_untaken 54 = .ok (.bipush 8, 2) := by decide +kernel
theorem dX2_untaken_56 : decode cX2_untaken 56 = .ok (.if_icmp .ge 36, 3) := by decide +kernel
theorem dX2_untaken_59 : decode cX2_untaken 59 = .ok (.aload_n 1, 1) := by decide +kernel
theorem dX2_untaken_60 : decode cX2_untaken 60 = .ok (.getfield 69, 3) := by decide +kernel
theorem dX2_untaken_63 : decode cX2_untaken 63 = .ok (.iload 4, 2) := by decide +kernel
theorem dX2_untaken_65 : decode cX2_untaken 65 = .ok (.iaload, 1) := by decide +kernel
theorem dX2_untaken_66 : decode cX2_untaken 66 = .ok (.iconst (-1), 1) := by decide +kernel
theorem dX2_untaken_67 : decode cX2_untaken 67 = .ok (.if_icmp .eq 19, 3) := by decide +kernel
theorem dX2_untaken_70 : decode cX2_untaken 70 = .ok (.iload_n 2, 1) := by decide +kernel
theorem dX2_untaken_71 : decode cX2_untaken 71 = .ok (.iload 4, 2) := by decide +kernel
theorem dX2_untaken_73 : decode cX2_untaken 73 = .ok (.ishr, 1) := by decide +kernel
theorem dX2_untaken_74 : decode cX2_untaken 74 = .ok (.iconst 1, 1) := by decide +kernel
theorem dX2_untaken_75 : decode cX2_untaken 75 = .ok (.iand, 1) := by decide +kernel
theorem dX2_untaken_76 : decode cX2_untaken 76 = .ok (.ifCond .ne 10, 3) := by decide +kernel
theorem dX2_untaken_79 : decode cX2_untaken 79 = .ok (.iload_n 3, 1) := by decide +kernel
theorem dX2_untaken_80 : decode cX2_untaken 80 = .ok (.iconst 1, 1) := by decide +kernel
theorem dX2_untaken_81 : decode cX2_untaken 81 = .ok (.iload 4, 2) := by decide +kernel
theorem dX2_untaken_83 : decode cX2_untaken 83 = .ok (.ishl, 1) := by decide +kernel
theorem dX2_untaken_84 : decode cX2_untaken 84 = .ok (.ior, 1) := by decide +kernel
theorem dX2_untaken_85 : decode cX2_untaken 85 = .ok (.istore_n 3, 1) := by decide +kernel
theorem dX2_untaken_86 : decode cX2_untaken 86 = .ok (.iinc 4 1, 3) := by decide +kernel
theorem dX2_untaken_89 : decode cX2_untaken 89 = .ok (.goto (-37), 3) := by decide +kernel
theorem dX2_untaken_92 : decode cX2_untaken 92 = .ok (.iload_n 3, 1) := by decide +kernel
theorem dX2_untaken_93 : decode cX2_untaken 93 = .ok (.ireturn, 1) := by decide +kernel
theorem dX2_bestYear_0 : decode cX2_bestYear 0 = .ok (.iconst 0, 1) := by decide +kernel
theorem dX2_bestYear_1 : decode cX2_bestYear 1 = .ok (.istore_n 3, 1) := by decide +kernel
theorem dX2_bestYear_2 : decode cX2_bestYear 2 = .ok (.iconst (-1), 1) := by decide +kernel
theorem dX2_bestYear_3 : decode cX2_bestYear 3 = .ok (.istore 4, 2) := by decide +kernel
theorem dX2_bestYear_5 : decode cX2_bestYear 5 = .ok (.aload_n 1, 1) := by decide +kernel
theorem dX2_bestYear_6 : decode cX2_bestYear 6 = .ok (.getfield 38, 3) := by decide +kernel
theorem dX2_bestYear_9 : decode cX2_bestYear 9 = .ok (.istore 5, 2) := by decide +kernel
theorem dX2_bestYear_11 : decode cX2_bestYear 11 = .ok (.iload 5, 2) := by decide +kernel
theorem dX2_bestYear_13 : decode cX2_bestYear 13 = .ok (.bipush 8, 2) := by decide +kernel
theorem dX2_bestYear_15 : decode cX2_bestYear 15 = .ok (.if_icmp .ge 61, 3) := by decide +kernel
theorem dX2_bestYear_18 : decode cX2_bestYear 18 = .ok (.aload_n 0, 1) := by decide +kernel
theorem dX2_bestYear_19 : decode cX2_bestYear 19 = .ok (.aload_n 1, 1) := by decide +kernel
theorem dX2_bestYear_20 : decode cX2_bestYear 20 = .ok (.invokevirtual 56, 3) := by decide +kernel
theorem dX2_bestYear_23 : decode cX2_bestYear 23 = .ok (.aload_n 0, 1) := by decide +kernel
theorem dX2_bestYear_24 : decode cX2_bestYear 24 = .ok (.getfield 25, 3) := by decide +kernel
theorem dX2_bestYear_27 : decode cX2_bestYear 27 = .ok (.iload_n 2, 1) := by decide +kernel
theorem dX2_bestYear_28 : decode cX2_bestYear 28 = .ok (.iload 5, 2) := by decide +kernel
theorem dX2_bestYear_30 : decode cX2_bestYear 30 = .ok (.invokevirtual 72, 3) := by decide +kernel
theorem dX2_bestYear_33 : decode cX2_bestYear 33 = .ok (.aload_n 0, 1) := by decide +kernel
theorem dX2_bestYear_34 : decode cX2_bestYear 34 = .ok (.iload 5, 2) := by decide +kernel
theorem dX2_bestYear_36 : decode cX2_bestYear 36 = .ok (.iconst 1, 1) := by decide +kernel
theorem dX2_bestYear_37 : decode cX2_bestYear 37 = .ok (.iadd, 1) := by decide +kernel
theorem dX2_bestYear_38 : decode cX2_bestYear 38 = .ok (.invokevirtual 59, 3) := by decide +kernel
theorem dX2_bestYear_41 : decode cX2_bestYear 41 = .ok (.aload_n 0, 1) := by decide +kernel
theorem dX2_bestYear_42 : decode cX2_bestYear 42 = .ok (.getfield 12, 3) := by decide +kernel
theorem dX2_bestYear_45 : decode cX2_bestYear 45 = .ok (.iload_n 2, 1) := by decide +kernel
theorem dX2_bestYear_46 : decode cX2_bestYear 46 = .ok (.iload 5, 2) := by decide +kernel
theorem dX2_bestYear_48 : decode cX2_bestYear 48 = .ok (.invokevirtual 75, 3) := by decide +kernel
theorem dX2_bestYear_51 : decode cX2_bestYear 51 = .ok (.iload_n 3, 1) := by decide +kernel
theorem dX2_bestYear_52 : decode cX2_bestYear 52 = .ok (.if_icmp .le 18, 3) := by decide +kernel
theorem dX2_bestYear_55 : decode cX2_bestYear 55 = .ok (.aload_n 0, 1) := by decide +kernel
theorem dX2_bestYear_56 : decode cX2_bestYear 56 = .ok (.getfield 12, 3) := by decide +kernel
theorem dX2_bestYear_59 : decode cX2_bestYear 59 = .ok (.iload_n 2, 1) := by decide +kernel
theorem dX2_bestYear_60 : decode cX2_bestYear 60 = .ok (.iload 5, 2) := by decide +kernel
theorem dX2_bestYear_62 : decode cX2_bestYear 62 = .ok (.invokevirtual 75, 3) := by decide +kernel
theorem dX2_bestYear_65 : decode cX2_bestYear 65 = .ok (.istore_n 3, 1) := by decide +kernel
theorem dX2_bestYear_66 : decode cX2_bestYear 66 = .ok (.iload 5, 2) := by decide +kernel
theorem dX2_bestYear_68 : decode cX2_bestYear 68 = .ok (.istore 4, 2) := by decide +kernel
theorem dX2_bestYear_70 : decode cX2_bestYear 70 = .ok (.iinc 5 1, 3) := by decide +kernel
theorem dX2_bestYear_73 : decode cX2_bestYear 73 = .ok (.goto (-62), 3) := by decide +kernel
theorem dX2_bestYear_76 : decode cX2_bestYear 76 = .ok (.iload 4, 2) := by decide +kernel
theorem dX2_bestYear_78 : decode cX2_bestYear 78 = .ok (.ireturn, 1) := by decide +kernel
theorem dX2_weighRivals_0 : decode cX2_weighRivals 0 = .ok (.aload_n 1, 1) := by decide +kernel
theorem dX2_weighRivals_1 : decode cX2_weighRivals 1 = .ok (.getfield 38, 3) := by decide +kernel
theorem dX2_weighRivals_4 : decode cX2_weighRivals 4 = .ok (.istore 4, 2) := by decide +kernel
theorem dX2_weighRivals_6 : decode cX2_weighRivals 6 = .ok (.iload 4, 2) := by decide +kernel
theorem dX2_weighRivals_8 : decode cX2_weighRivals 8 = .ok (.bipush 8, 2) := by decide +kernel
theorem dX2_weighRivals_10 : decode cX2_weighRivals 10 = .ok (.if_icmp .ge 112, 3) := by decide +kernel
theorem dX2_weighRivals_13 : decode cX2_weighRivals 13 = .ok (.aload_n 1, 1) := by decide +kernel
theorem dX2_weighRivals_14 : decode cX2_weighRivals 14 = .ok (.getfield 38, 3) := by decide +kernel
theorem dX2_weighRivals_17 : decode cX2_weighRivals 17 = .ok (.istore 5, 2) := by decide +kernel
theorem dX2_weighRivals_19 : decode cX2_weighRivals 19 = .ok (.iload 5, 2) := by decide +kernel
theorem dX2_weighRivals_21 : decode cX2_weighRivals 21 = .ok (.bipush 8, 2) := by decide +kernel
theorem dX2_weighRivals_23 : decode cX2_weighRivals 23 = .ok (.if_icmp .ge 93, 3) := by decide +kernel
theorem dX2_weighRivals_26 : decode cX2_weighRivals 26 = .ok (.aload_n 0, 1) := by decide +kernel
theorem dX2_weighRivals_27 : decode cX2_weighRivals 27 = .ok (.aload_n 1, 1) := by decide +kernel
theorem dX2_weighRivals_28 : decode cX2_weighRivals 28 = .ok (.invokevirtual 56, 3) := by decide +kernel
theorem dX2_weighRivals_31 : decode cX2_weighRivals 31 = .ok (.aload_n 0, 1) := by decide +kernel
theorem dX2_weighRivals_32 : decode cX2_weighRivals 32 = .ok (.getfield 25, 3) := by decide +kernel
theorem dX2_weighRivals_35 : decode cX2_weighRivals 35 = .ok (.iload_n 2, 1) := by decide +kernel
theorem dX2_weighRivals_36 : decode cX2_weighRivals 36 = .ok (.iload 4, 2) := by decide +kernel
theorem dX2_weighRivals_38 : decode cX2_weighRivals 38 = .ok (.invokevirtual 72, 3) := by decide +kernel
theorem dX2_weighRivals_41 : decode cX2_weighRivals 41 = .ok (.aload_n 0, 1) := by decide +kernel
theorem dX2_weighRivals_42 : decode cX2_weighRivals 42 = .ok (.getfield 25, 3) := by decide +kernel
theorem dX2_weighRivals_45 : decode cX2_weighRivals 45 = .ok (.iload_n 3, 1) := by decide +kernel
theorem dX2_weighRivals_46 : decode cX2_weighRivals 46 = .ok (.iload 5, 2) := by decide +kernel
theorem dX2_weighRivals_48 : decode cX2_weighRivals 48 = .ok (.invokevirtual 72, 3) := by decide +kernel
theorem dX2_weighRivals_51 : decode cX2_weighRivals 51 = .ok (.aload_n 0, 1) := by decide +kernel
theorem dX2_weighRivals_52 : decode cX2_weighRivals 52 = .ok (.iload 4, 2) := by decide +kernel
theorem dX2_weighRivals_54 : decode cX2_weighRivals 54 = .ok (.iload 5, 2) := by decide +kernel
theorem dX2_weighRivals_56 : decode cX2_weighRivals 56 = .ok (.invokestatic 79, 3) := by decide +kernel
theorem dX2_weighRivals_59 : decode cX2_weighRivals 59 = .ok (.iconst 1, 1) := by decide +kernel
theorem dX2_weighRivals_60 : decode cX2_weighRivals 60 = .ok (.iadd, 1) := by decide +kernel
theorem dX2_weighRivals_61 : decode cX2_weighRivals 61 = .ok (.invokevirtual 59, 3) := by decide +kernel
theorem dX2_weighRivals_64 : decode cX2_weighRivals 64 = .ok (.aload_n 0, 1) := by decide +kernel
theorem dX2_weighRivals_65 : decode cX2_weighRivals 65 = .ok (.getfield 18, 3) := by decide +kernel
theorem dX2_weighRivals_68 : decode cX2_weighRivals 68 = .ok (.iload 4, 2) := by decide +kernel
theorem dX2_weighRivals_70 : decode cX2_weighRivals 70 = .ok (.bipush 8, 2) := by decide +kernel
theorem dX2_weighRivals_72 : decode cX2_weighRivals 72 = .ok (.imul, 1) := by decide +kernel
theorem dX2_weighRivals_73 : decode cX2_weighRivals 73 = .ok (.iload 5, 2) := by decide +kernel
theorem dX2_weighRivals_75 : decode cX2_weighRivals 75 = .ok (.iadd, 1) := by decide +kernel
theorem dX2_weighRivals_76 : decode cX2_weighRivals 76 = .ok (.aload_n 0, 1) := by decide +kernel
theorem dX2_weighRivals_77 : decode cX2_weighRivals 77 = .ok (.getfield 12, 3) := by decide +kernel
theorem dX2_weighRivals_80 : decode cX2_weighRivals 80 = .ok (.iload_n 2, 1) := by decide +kernel
theorem dX2_weighRivals_81 : decode cX2_weighRivals 81 = .ok (.iload 4, 2) := by decide +kernel
theorem dX2_weighRivals_83 : decode cX2_weighRivals 83 = .ok (.invokevirtual 75, 3) := by decide +kernel
theorem dX2_weighRivals_86 : decode cX2_weighRivals 86 = .ok (.iastore, 1) := by decide +kernel
theorem dX2_weighRivals_87 : decode cX2_weighRivals 87 = .ok (.aload_n 0, 1) := by decide +kernel
theorem dX2_weighRivals_88 : decode cX2_weighRivals 88 = .ok (.getfield 22, 3) := by decide +kernel
theorem dX2_weighRivals_91 : decode cX2_weighRivals 91 = .ok (.iload 4, 2) := by decide +kernel
theorem dX2_weighRivals_93 : decode cX2_weighRivals 93 = .ok (.bipush 8, 2) := by decide +kernel
theorem dX2_weighRivals_95 : decode cX2_weighRivals 95 = .ok (.imul, 1) := by decide +kernel
theorem dX2_weighRivals_96 : decode cX2_weighRivals 96 = .ok (.iload 5, 2) := by decide +kernel
theorem dX2_weighRivals_98 : decode cX2_weighRivals 98 = .ok (.iadd, 1) := by decide +kernel
theorem dX2_weighRivals_99 : decode cX2_weighRivals 99 = .ok (.aload_n 0, 1) := by decide +kernel
theorem dX2_weighRivals_100 : decode cX2_weighRivals 100 = .ok (.getfield 12, 3) := by decide +kernel
theorem dX2_weighRivals_103 : decode cX2_weighRivals 103 = .ok (.iload_n 3, 1) := by decide +kernel
theorem dX2_weighRivals_104 : decode cX2_weighRivals 104 = .ok (.iload 5, 2) := by decide +kernel
theorem dX2_weighRivals_106 : decode cX2_weighRivals 106 = .ok (.invokevirtual 75, 3) := by decide +kernel
theorem dX2_weighRivals_109 : decode cX2_weighRivals 109 = .ok (.iastore, 1) := by decide +kernel
theorem dX2_weighRivals_110 : decode cX2_weighRivals 110 = .ok (.iinc 5 1, 3) := by decide +kernel
theorem dX2_weighRivals_113 : decode cX2_weighRivals 113 = .ok (.goto (-94), 3) := by decide +kernel
theorem dX2_weighRivals_116 : decode cX2_weighRivals 116 = .ok (.iinc 4 1, 3) := by decide +kernel
theorem dX2_weighRivals_119 : decode cX2_weighRivals 119 = .ok (.goto (-113), 3) := by decide +kernel
theorem dX2_weighRivals_122 : decode cX2_weighRivals 122 = .ok (.return_, 1) := by decide +kernel
theorem dX2_resting_0 : decode cX2_resting 0 = .ok (.iconst 0, 1) := by decide +kernel
theorem dX2_resting_1 : decode cX2_resting 1 = .ok (.istore_n 3, 1) := by decide +kernel
theorem dX2_resting_2 : decode cX2_resting 2 = .ok (.iload_n 1, 1) := by decide +kernel
theorem dX2_resting_3 : decode cX2_resting 3 = .ok (.istore 4, 2) := by decide +kernel
theorem dX2_resting_5 : decode cX2_resting 5 = .ok (.iload 4, 2) := by decide +kernel
theorem dX2_resting_7 : decode cX2_resting 7 = .ok (.bipush 8, 2) := by decide +kernel
theorem dX2_resting_9 : decode cX2_resting 9 = .ok (.if_icmp .ge 57, 3) := by decide +kernel
theorem dX2_resting_12 : decode cX2_resting 12 = .ok (.iload_n 1, 1) := by decide +kernel
theorem dX2_resting_13 : decode cX2_resting 13 = .ok (.istore 5, 2) := by decide +kernel
theorem dX2_resting_15 : decode cX2_resting 15 = .ok (.iload 5, 2) := by decide +kernel
theorem dX2_resting_17 : decode cX2_resting 17 = .ok (.bipush 8, 2) := by decide +kernel
theorem dX2_resting_19 : decode cX2_resting 19 = .ok (.if_icmp .ge 41, 3) := by decide +kernel
theorem dX2_resting_22 : decode cX2_resting 22 = .ok (.aload_n 0, 1) := by decide +kernel
theorem dX2_resting_23 : decode cX2_resting 23 = .ok (.iload_n 1, 1) := by decide +kernel
theorem dX2_resting_24 : decode cX2_resting 24 = .ok (.iload 4, 2) := by decide +kernel
theorem dX2_resting_26 : decode cX2_resting 26 = .ok (.iload 5, 2) := by decide +kernel
theorem dX2_resting_28 : decode cX2_resting 28 = .ok (.invokevirtual 84, 3) := by decide +kernel
theorem dX2_resting_31 : decode cX2_resting 31 = .ok (.ifCond .ne 6, 3) := by decide +kernel
theorem dX2_resting_34 : decode cX2_resting 34 = .ok (.goto 20, 3) := by decide +kernel
theorem dX2_resting_37 : decode cX2_resting 37 = .ok (.iload_n 3, 1) := by decide +kernel
theorem dX2_resting_38 : decode cX2_resting 38 = .ok (.iload_n 2, 1) := by decide +kernel
theorem dX2_resting_39 : decode cX2_resting 39 = .ok (.if_icmp .ne 12, 3) := by decide +kernel
theorem dX2_resting_42 : decode cX2_resting 42 = .ok (.iload 4, 2) := by decide +kernel
theorem dX2_resting_44 : decode cX2_resting 44 = .ok (.bipush 8, 2) := by decide +kernel
theorem dX2_resting_46 : decode cX2_resting 46 = .ok (.imul, 1) := by decide +kernel
theorem dX2_resting_47 : decode cX2_resting 47 = .ok (.iload 5, 2) := by decide +kernel
theorem dX2_resting_49 : decode cX2_resting 49 = .ok (.iadd, 1) := by decide +kernel
theorem dX2_resting_50 : decode cX2_resting 50 = .ok (.ireturn, 1) := by decide +kernel
theorem dX2_resting_51 : decode cX2_resting 51 = .ok (.iinc 3 1, 3) := by decide +kernel
theorem dX2_resting_54 : decode cX2_resting 54 = .ok (.iinc 5 1, 3) := by decide +kernel
theorem dX2_resting_57 : decode cX2_resting 57 = .ok (.goto (-42), 3) := by decide +kernel
theorem dX2_resting_60 : decode cX2_resting 60 = .ok (.iinc 4 1, 3) := by decide +kernel
theorem dX2_resting_63 : decode cX2_resting 63 = .ok (.goto (-58), 3) := by decide +kernel
theorem dX2_resting_66 : decode cX2_resting 66 = .ok (.iload_n 2, 1) := by decide +kernel
theorem dX2_resting_67 : decode cX2_resting 67 = .ok (.iconst (-1), 1) := by decide +kernel
theorem dX2_resting_68 : decode cX2_resting 68 = .ok (.if_icmp .ne 7, 3) := by decide +kernel
theorem dX2_resting_71 : decode cX2_resting 71 = .ok (.iload_n 3, 1) := by decide +kernel
theorem dX2_resting_72 : decode cX2_resting 72 = .ok (.goto 5, 3) := by decide +kernel
theorem dX2_resting_75 : decode cX2_resting 75 = .ok (.bipush (-5), 2) := by decide +kernel
theorem dX2_resting_77 : decode cX2_resting 77 = .ok (.ireturn, 1) := by decide +kernel
theorem dX2_rests_0 : decode cX2_rests 0 = .ok (.iload_n 2, 1) := by decide +kernel
theorem dX2_rests_1 : decode cX2_rests 1 = .ok (.bipush 8, 2) := by decide +kernel
theorem dX2_rests_3 : decode cX2_rests 3 = .ok (.imul, 1) := by decide +kernel
theorem dX2_rests_4 : decode cX2_rests 4 = .ok (.iload_n 3, 1) := by decide +kernel
theorem dX2_rests_5 : decode cX2_rests 5 = .ok (.iadd, 1) := by decide +kernel
theorem dX2_rests_6 : decode cX2_rests 6 = .ok (.istore 4, 2) := by decide +kernel
theorem dX2_rests_8 : decode cX2_rests 8 = .ok (.iload_n 1, 1) := by decide +kernel
theorem dX2_rests_9 : decode cX2_rests 9 = .ok (.istore 5, 2) := by decide +kernel
theorem dX2_rests_11 : decode cX2_rests 11 = .ok (.iload 5, 2) := by decide +kernel
theorem dX2_rests_13 : decode cX2_rests 13 = .ok (.bipush 8, 2) := by decide +kernel
theorem dX2_rests_15 : decode cX2_rests 15 = .ok (.if_icmp .ge 55, 3) := by decide +kernel
theorem dX2_rests_18 : decode cX2_rests 18 = .ok (.aload_n 0, 1) := by decide +kernel
theorem dX2_rests_19 : decode cX2_rests 19 = .ok (.getfield 18, 3) := by decide +kernel
theorem dX2_rests_22 : decode cX2_rests 22 = .ok (.iload 5, 2) := by decide +kernel
theorem dX2_rests_24 : decode cX2_rests 24 = .ok (.bipush 8, 2) := by decide +kernel
theorem dX2_rests_26 : decode cX2_rests 26 = .ok (.imul, 1) := by decide +kernel
theorem dX2_rests_27 : decode cX2_rests 27 = .ok (.iload_n 3, 1) := by decide +kernel
theorem dX2_rests_28 : decode cX2_rests 28 = .ok (.iadd, 1) := by decide +kernel
theorem dX2_rests_29 : decode cX2_rests 29 = .ok (.iaload, 1) := by decide +kernel
theorem dX2_rests_30 : decode cX2_rests 30 = .ok (.aload_n 0, 1) := by decide +kernel
theorem dX2_rests_31 : decode cX2_rests 31 = .ok (.getfield 18, 3) := by decide +kernel
theorem dX2_rests_34 : decode cX2_rests 34 = .ok (.iload 4, 2) := by decide +kernel
theorem dX2_rests_36 : decode cX2_rests 36 = .ok (.iaload, 1) := by decide +kernel
theorem dX2_rests_37 : decode cX2_rests 37 = .ok (.if_icmp .gt 25, 3) := by decide +kernel
theorem dX2_rests_40 : decode cX2_rests 40 = .ok (.aload_n 0, 1) := by decide +kernel
theorem dX2_rests_41 : decode cX2_rests 41 = .ok (.getfield 22, 3) := by decide +kernel
theorem dX2_rests_44 : decode cX2_rests 44 = .ok (.iload_n 2, 1) := by decide +kernel
theorem dX2_rests_45 : decode cX2_rests 45 = .ok (.bipush 8, 2) := by decide +kernel
theorem dX2_rests_47 : decode cX2_rests 47 = .ok (.imul, 1) := by decide +kernel
theorem dX2_rests_48 : decode cX2_rests 48 = .ok (.iload 5, 2) := by decide +kernel
theorem dX2_rests_50 : decode cX2_rests 50 = .ok (.iadd, 1) := by decide +kernel
theorem dX2_rests_51 : decode cX2_rests 51 = .ok (.iaload, 1) := by decide +kernel
theorem dX2_rests_52 : decode cX2_rests 52 = .ok (.aload_n 0, 1) := by decide +kernel
theorem dX2_rests_53 : decode cX2_rests 53 = .ok (.getfield 22, 3) := by decide +kernel
theorem dX2_rests_56 : decode cX2_rests 56 = .ok (.iload 4, 2) := by decide +kernel
theorem dX2_rests_58 : decode cX2_rests 58 = .ok (.iaload, 1) := by decide +kernel
theorem dX2_rests_59 : decode cX2_rests 59 = .ok (.if_icmp .le 5, 3) := by decide +kernel
theorem dX2_rests_62 : decode cX2_rests 62 = .ok (.iconst 0, 1) := by decide +kernel
theorem dX2_rests_63 : decode cX2_rests 63 = .ok (.ireturn, 1) := by decide +kernel
theorem dX2_rests_64 : decode cX2_rests 64 = .ok (.iinc 5 1, 3) := by decide +kernel
theorem dX2_rests_67 : decode cX2_rests 67 = .ok (.goto (-56), 3) := by decide +kernel
theorem dX2_rests_70 : decode cX2_rests 70 = .ok (.iconst 1, 1) := by decide +kernel
theorem dX2_rests_71 : decode cX2_rests 71 = .ok (.ireturn, 1) := by decide +kernel
theorem dX2_bestSwap_0 : decode cX2_bestSwap 0 = .ok (.aload_n 0, 1) := by decide +kernel
theorem dX2_bestSwap_1 : decode cX2_bestSwap 1 = .ok (.aload_n 1, 1) := by decide +kernel
theorem dX2_bestSwap_2 : decode cX2_bestSwap 2 = .ok (.invokevirtual 56, 3) := by decide +kernel
theorem dX2_bestSwap_5 : decode cX2_bestSwap 5 = .ok (.aload_n 0, 1) := by decide +kernel
theorem dX2_bestSwap_6 : decode cX2_bestSwap 6 = .ok (.bipush 8, 2) := by decide +kernel
theorem dX2_bestSwap_8 : decode cX2_bestSwap 8 = .ok (.invokevirtual 59, 3) := by decide +kernel
theorem dX2_bestSwap_11 : decode cX2_bestSwap 11 = .ok (.aload_n 0, 1) := by decide +kernel
theorem dX2_bestSwap_12 : decode cX2_bestSwap 12 = .ok (.getfield 12, 3) := by decide +kernel
theorem dX2_bestSwap_15 : decode cX2_bestSwap 15 = .ok (.iload_n 2, 1) := by decide +kernel
theorem dX2_bestSwap_16 : decode cX2_bestSwap 16 = .ok (.invokevirtual 88, 3) := by decide +kernel
theorem dX2_bestSwap_19 : decode cX2_bestSwap 19 = .ok (.istore_n 3, 1) := by decide +kernel
theorem dX2_bestSwap_20 : decode cX2_bestSwap 20 = .ok (.iconst (-1), 1) := by decide +kernel
theorem dX2_bestSwap_21 : decode cX2_bestSwap 21 = .ok (.istore 4, 2) := by decide +kernel
theorem dX2_bestSwap_23 : decode cX2_bestSwap 23 = .ok (.aload_n 1, 1) := by decide +kernel
theorem dX2_bestSwap_24 : decode cX2_bestSwap 24 = .ok (.getfield 38, 3) := by decide +kernel
theorem dX2_bestSwap_27 : decode cX2_bestSwap 27 = .ok (.istore 5, 2) := by decide +kernel
theorem dX2_bestSwap_29 : decode cX2_bestSwap 29 = .ok (.iload 5, 2) := by decide +kernel
theorem dX2_bestSwap_31 : decode cX2_bestSwap 31 = .ok (.bipush 8, 2) := by decide +kernel
theorem dX2_bestSwap_33 : decode cX2_bestSwap 33 = .ok (.if_icmp .ge 81, 3) := by decide +kernel
theorem dX2_bestSwap_36 : decode cX2_bestSwap 36 = .ok (.iload 5, 2) := by decide +kernel
theorem dX2_bestSwap_38 : decode cX2_bestSwap 38 = .ok (.iconst 1, 1) := by decide +kernel
theorem dX2_bestSwap_39 : decode cX2_bestSwap 39 = .ok (.iadd, 1) := by decide +kernel
theorem dX2_bestSwap_40 : decode cX2_bestSwap 40 = .ok (.istore 6, 2) := by decide +kernel
theorem dX2_bestSwap_42 : decode cX2_bestSwap 42 = .ok (.iload 6, 2) := by decide +kernel
theorem dX2_bestSwap_44 : decode cX2_bestSwap 44 = .ok (.bipush 8, 2) := by decide +kernel
theorem dX2_bestSwap_46 : decode cX2_bestSwap 46 = .ok (.if_icmp .ge 62, 3) := by decide +kernel
theorem dX2_bestSwap_49 : decode cX2_bestSwap 49 = .ok (.aload_n 0, 1) := by decide +kernel
theorem dX2_bestSwap_50 : decode cX2_bestSwap 50 = .ok (.aload_n 1, 1) := by decide +kernel
theorem dX2_bestSwap_51 : decode cX2_bestSwap 51 = .ok (.invokevirtual 56, 3) := by decide +kernel
theorem dX2_bestSwap_54 : decode cX2_bestSwap 54 = .ok (.aload_n 0, 1) := by decide +kernel
theorem dX2_bestSwap_55 : decode cX2_bestSwap 55 = .ok (.getfield 12, 3) := by decide +kernel
theorem dX2_bestSwap_58 : decode cX2_bestSwap 58 = .ok (.iload 5, 2) := by decide +kernel
theorem dX2_bestSwap_60 : decode cX2_bestSwap 60 = .ok (.iload 6, 2) := by decide +kernel
theorem dX2_bestSwap_62 : decode cX2_bestSwap 62 = .ok (.invokevirtual 92, 3) := by decide +kernel
theorem dX2_bestSwap_65 : decode cX2_bestSwap 65 = .ok (.aload_n 0, 1) := by decide +kernel
theorem dX2_bestSwap_66 : decode cX2_bestSwap 66 = .ok (.bipush 8, 2) := by decide +kernel
theorem dX2_bestSwap_68 : decode cX2_bestSwap 68 = .ok (.invokevirtual 59, 3) := by decide +kernel
theorem dX2_bestSwap_71 : decode cX2_bestSwap 71 = .ok (.aload_n 0, 1) := by decide +kernel
theorem dX2_bestSwap_72 : decode cX2_bestSwap 72 = .ok (.getfield 12, 3) := by decide +kernel
theorem dX2_bestSwap_75 : decode cX2_bestSwap 75 = .ok (.iload_n 2, 1) := by decide +kernel
theorem dX2_bestSwap_76 : decode cX2_bestSwap 76 = .ok (.invokevirtual 88, 3) := by decide +kernel
theorem dX2_bestSwap_79 : decode cX2_bestSwap 79 = .ok (.iload_n 3, 1) := by decide +kernel
theorem dX2_bestSwap_80 : decode cX2_bestSwap 80 = .ok (.if_icmp .le 22, 3) := by decide +kernel
theorem dX2_bestSwap_83 : decode cX2_bestSwap 83 = .ok (.aload_n 0, 1) := by decide +kernel
theorem dX2_bestSwap_84 : decode cX2_bestSwap 84 = .ok (.getfield 12, 3) := by decide +kernel
theorem dX2_bestSwap_87 : decode cX2_bestSwap 87 = .ok (.iload_n 2, 1) := by decide +kernel
theorem dX2_bestSwap_88 : decode cX2_bestSwap 88 = .ok (.invokevirtual 88, 3) := by decide +kernel
theorem dX2_bestSwap_91 : decode cX2_bestSwap 91 = .ok (.istore_n 3, 1) := by decide +kernel
theorem dX2_bestSwap_92 : decode cX2_bestSwap 92 = .ok (.bipush 10, 2) := by decide +kernel
theorem dX2_bestSwap_94 : decode cX2_bestSwap 94 = .ok (.iload 5, 2) := by decide +kernel
theorem dX2_bestSwap_96 : decode cX2_bestSwap 96 = .ok (.imul, 1) := by decide +kernel
theorem dX2_bestSwap_97 : decode cX2_bestSwap 97 = .ok (.iload 6, 2) := by decide +kernel
theorem dX2_bestSwap_99 : decode cX2_bestSwap 99 = .ok (.iadd, 1) := by decide +kernel
theorem dX2_bestSwap_100 : decode cX2_bestSwap 100 = .ok (.istore 4, 2) := by decide +kernel
theorem dX2_bestSwap_102 : decode cX2_bestSwap 102 = .ok (.iinc 6 1, 3) := by decide +kernel
theorem dX2_bestSwap_105 : decode cX2_bestSwap 105 = .ok (.goto (-63), 3) := by decide +kernel
theorem dX2_bestSwap_108 : decode cX2_bestSwap 108 = .ok (.iinc 5 1, 3) := by decide +kernel
theorem dX2_bestSwap_111 : decode cX2_bestSwap 111 = .ok (.goto (-82), 3) := by decide +kernel
theorem dX2_bestSwap_114 : decode cX2_bestSwap 114 = .ok (.iload 4, 2) := by decide +kernel
theorem dX2_bestSwap_116 : decode cX2_bestSwap 116 = .ok (.ireturn, 1) := by decide +kernel
theorem dX2_worthInValleys_0 : decode cX2_worthInValleys 0 = .ok (.iload_n 2, 1) := by decide +kernel
theorem dX2_worthInValleys_1 : decode cX2_worthInValleys 1 = .ok (.i2l, 1) := by decide +kernel
theorem dX2_worthInValleys_2 : decode cX2_worthInValleys 2 = .ok (.lstore 4, 2) := by decide +kernel
theorem dX2_worthInValleys_4 : decode cX2_worthInValleys 4 = .ok (.iconst 0, 1) := by decide +kernel
theorem dX2_worthInValleys_5 : decode cX2_worthInValleys 5 = .ok (.istore 6, 2) := by decide +kernel
theorem dX2_worthInValleys_7 : decode cX2_worthInValleys 7 = .ok (.iconst 0, 1) := by decide +kernel
theorem dX2_worthInValleys_8 : decode cX2_worthInValleys 8 = .ok (.istore 7, 2) := by decide +kernel
theorem dX2_worthInValleys_10 : decode cX2_worthInValleys 10 = .ok (.iload 7, 2) := by decide +kernel
theorem dX2_worthInValleys_12 : decode cX2_worthInValleys 12 = .ok (.iload_n 3, 1) := by decide +kernel
theorem dX2_worthInValleys_13 : decode cX2_worthInValleys 13 = .ok (.if_icmp .ge 146, 3) := by decide +kernel
theorem dX2_worthInValleys_16 : decode cX2_worthInValleys 16 = .ok (.aload_n 0, 1) := by decide +kernel
theorem dX2_worthInValleys_17 : decode cX2_worthInValleys 17 = .ok (.aload_n 1, 1) := by decide +kernel
theorem dX2_worthInValleys_18 : decode cX2_worthInValleys 18 = .ok (.invokevirtual 56, 3) := by decide +kernel
theorem dX2_worthInValleys_21 : decode cX2_worthInValleys 21 = .ok (.aload_n 1, 1) := by decide +kernel
theorem dX2_worthInValleys_22 : decode cX2_worthInValleys 22 = .ok (.getfield 38, 3) := by decide +kernel
theorem dX2_worthInValleys_25 : decode cX2_worthInValleys 25 = .ok (.istore 8, 2) := by decide +kernel
theorem dX2_worthInValleys_27 : decode cX2_worthInValleys 27 = .ok (.iload 8, 2) := by decide +kernel
theorem dX2_worthInValleys_29 : decode cX2_worthInValleys 29 = .ok (.bipush 8, 2) := by decide +kernel
theorem dX2_worthInValleys_31 : decode cX2_worthInValleys 31 = .ok (.if_icmp .ge 122, 3) := by decide +kernel
theorem dX2_worthInValleys_34 : decode cX2_worthInValleys 34 = .ok (.lload 4, 2) := by decide +kernel
theorem dX2_worthInValleys_36 : decode cX2_worthInValleys 36 = .ok (.ldc2_w 95, 3) := by decide +kernel
theorem dX2_worthInValleys_39 : decode cX2_worthInValleys 39 = .ok (.lmul, 1) := by decide +kernel
theorem dX2_worthInValleys_40 : decode cX2_worthInValleys 40 = .ok (.ldc2_w 97, 3) := by decide +kernel
theorem dX2_worthInValleys_43 : decode cX2_worthInValleys 43 = .ok (.ladd, 1) := by decide +kernel
theorem dX2_worthInValleys_44 : decode cX2_worthInValleys 44 = .ok (.ldc2_w 99, 3) := by decide +kernel
theorem dX2_worthInValleys_47 : decode cX2_worthInValleys 47 = .ok (.lrem, 1) := by decide +kernel
theorem dX2_worthInValleys_48 : decode cX2_worthInValleys 48 = .ok (.lstore 4, 2) := by decide +kernel
theorem dX2_worthInValleys_50 : decode cX2_worthInValleys 50 = .ok (.aload_n 0, 1) := by decide +kernel
theorem dX2_worthInValleys_51 : decode cX2_worthInValleys 51 = .ok (.getfield 12, 3) := by decide +kernel
theorem dX2_worthInValleys_54 : decode cX2_worthInValleys 54 = .ok (.iload 8, 2) := by decide +kernel
theorem dX2_worthInValleys_56 : decode cX2_worthInValleys 56 = .ok (.lload 4, 2) := by decide +kernel
theorem dX2_worthInValleys_58 : decode cX2_worthInValleys 58 = .ok (.ldc2_w 101, 3) := by decide +kernel
theorem dX2_worthInValleys_61 : decode cX2_worthInValleys 61 = .ok (.ldiv, 1) := by decide +kernel
theorem dX2_worthInValleys_62 : decode cX2_worthInValleys 62 = .ok (.ldc2_w 103, 3) := by decide +kernel
theorem dX2_worthInValleys_65 : decode cX2_worthInValleys 65 = .ok (.lrem, 1) := by decide +kernel
theorem dX2_worthInValleys_66 : decode cX2_worthInValleys 66 = .ok (.l2i, 1) := by decide +kernel
theorem dX2_worthInValleys_67 : decode cX2_worthInValleys 67 = .ok (.lload 4, 2) := by decide +kernel
theorem dX2_worthInValleys_69 : decode cX2_worthInValleys 69 = .ok (.ldc2_w 105, 3) := by decide +kernel
theorem dX2_worthInValleys_72 : decode cX2_worthInValleys 72 = .ok (.ldiv, 1) := by decide +kernel
theorem dX2_worthInValleys_73 : decode cX2_worthInValleys 73 = .ok (.ldc2_w 107, 3) := by decide +kernel
theorem dX2_worthInValleys_76 : decode cX2_worthInValleys 76 = .ok (.lrem, 1) := by decide +kernel
theorem dX2_worthInValleys_77 : decode cX2_worthInValleys 77 = .ok (.l2i, 1) := by decide +kernel
theorem dX2_worthInValleys_78 : decode cX2_worthInValleys 78 = .ok (.iconst 1, 1) := by decide +kernel
theorem dX2_worthInValleys_79 : decode cX2_worthInValleys 79 = .ok (.iadd, 1) := by decide +kernel
theorem dX2_worthInValleys_80 : decode cX2_worthInValleys 80 = .ok (.invokevirtual 109, 3) := by decide +kernel
theorem dX2_worthInValleys_83 : decode cX2_worthInValleys 83 = .ok (.aload_n 0, 1) := by decide +kernel
theorem dX2_worthInValleys_84 : decode cX2_worthInValleys 84 = .ok (.getfield 25, 3) := by decide +kernel
theorem dX2_worthInValleys_87 : decode cX2_worthInValleys 87 = .ok (.aload_n 0, 1) := by decide +kernel
theorem dX2_worthInValleys_88 : decode cX2_worthInValleys 88 = .ok (.getfield 12, 3) := by decide +kernel
theorem dX2_worthInValleys_91 : decode cX2_worthInValleys 91 = .ok (.iload 8, 2) := by decide +kernel
theorem dX2_worthInValleys_93 : decode cX2_worthInValleys 93 = .ok (.invokevirtual 42, 3) := by decide +kernel
theorem dX2_worthInValleys_96 : decode cX2_worthInValleys 96 = .ok (.aload_n 0, 1) := by decide +kernel
theorem dX2_worthInValleys_97 : decode cX2_worthInValleys 97 = .ok (.getfield 12, 3) := by decide +kernel
theorem dX2_worthInValleys_100 : decode cX2_worthInValleys 100 = .ok (.aload_n 0, 1) := by decide +kernel
theorem dX2_worthInValleys_101 : decode cX2_worthInValleys 101 = .ok (.getfield 25, 3) := by decide +kernel
theorem dX2_worthInValleys_104 : decode cX2_worthInValleys 104 = .ok (.getfield 46, 3) := by decide +kernel
theorem dX2_worthInValleys_107 : decode cX2_worthInValleys 107 = .ok (.aload_n 0, 1) := by decide +kernel
theorem dX2_worthInValleys_108 : decode cX2_worthInValleys 108 = .ok (.getfield 25, 3) := by decide +kernel
theorem dX2_worthInValleys_111 : decode cX2_worthInValleys 111 = .ok (.getfield 49, 3) := by decide +kernel
theorem dX2_worthInValleys_114 : decode cX2_worthInValleys 114 = .ok (.invokevirtual 52, 3) := by decide +kernel
theorem dX2_worthInValleys_117 : decode cX2_worthInValleys 117 = .ok (.iload 6, 2) := by decide +kernel
theorem dX2_worthInValleys_119 : decode cX2_worthInValleys 119 = .ok (.aload_n 0, 1) := by decide +kernel
theorem dX2_worthInValleys_120 : decode cX2_worthInValleys 120 = .ok (.getfield 25, 3) := by decide +kernel
theorem dX2_worthInValleys_123 : decode cX2_worthInValleys 123 = .ok (.getfield 46, 3) := by decide +kernel
theorem dX2_worthInValleys_126 : decode cX2_worthInValleys 126 = .ok (.iconst (-1), 1) := by decide +kernel
theorem dX2_worthInValleys_127 : decode cX2_worthInValleys 127 = .ok (.if_icmp .ne 7, 3) := by decide +kernel
theorem dX2_worthInValleys_130 : decode cX2_worthInValleys 130 = .ok (.iconst 0, 1) := by decide +kernel
theorem dX2_worthInValleys_131 : decode cX2_worthInValleys 131 = .ok (.goto 13, 3) := by decide +kernel
theorem dX2_worthInValleys_134 : decode cX2_worthInValleys 134 = .ok (.aload_n 0, 1) := by decide +kernel
theorem dX2_worthInValleys_135 : decode cX2_worthInValleys 135 = .ok (.getfield 12, 3) := by decide +kernel
theorem dX2_worthInValleys_138 : decode cX2_worthInValleys 138 = .ok (.getfield 113, 3) := by decide +kernel
theorem dX2_worthInValleys_141 : decode cX2_worthInValleys 141 = .ok (.iload 8, 2) := by decide +kernel
theorem dX2_worthInValleys_143 : decode cX2_worthInValleys 143 = .ok (.iaload, 1) := by decide +kernel
theorem dX2_worthInValleys_144 : decode cX2_worthInValleys 144 = .ok (.iadd, 1) := by decide +kernel
theorem dX2_worthInValleys_145 : decode cX2_worthInValleys 145 = .ok (.istore 6, 2) := by decide +kernel
theorem dX2_worthInValleys_147 : decode cX2_worthInValleys 147 = .ok (.iinc 8 1, 3) := by decide +kernel
theorem dX2_worthInValleys_150 : decode cX2_worthInValleys 150 = .ok (.goto (-123), 3) := by decide +kernel
theorem dX2_worthInValleys_153 : decode cX2_worthInValleys 153 = .ok (.iinc 7 1, 3) := by decide +kernel
theorem dX2_worthInValleys_156 : decode cX2_worthInValleys 156 = .ok (.goto (-146), 3) := by decide +kernel
theorem dX2_worthInValleys_159 : decode cX2_worthInValleys 159 = .ok (.iload 6, 2) := by decide +kernel
theorem dX2_worthInValleys_161 : decode cX2_worthInValleys 161 = .ok (.ireturn, 1) := by decide +kernel
theorem dX3_init_0 : decode cX3_init 0 = .ok (.aload_n 0, 1) := by decide +kernel
theorem dX3_init_1 : decode cX3_init 1 = .ok (.invokespecial 1, 3) := by decide +kernel
theorem dX3_init_4 : decode cX3_init 4 = .ok (.return_, 1) := by decide +kernel
theorem dX3_barredBy_0 : decode cX3_barredBy 0 = .ok (.iload_n 1, 1) := by decide +kernel
theorem dX3_barredBy_1 : decode cX3_barredBy 1 = .ok (.iconst 2, 1) := by decide +kernel
theorem dX3_barredBy_2 : decode cX3_barredBy 2 = .ok (.if_icmp .lt 7, 3) := by decide +kernel
theorem dX3_barredBy_5 : decode cX3_barredBy 5 = .ok (.iconst 1, 1) := by decide +kernel
theorem dX3_barredBy_6 : decode cX3_barredBy 6 = .ok (.goto 4, 3) := by decide +kernel
theorem dX3_barredBy_9 : decode cX3_barredBy 9 = .ok (.iconst 0, 1) := by decide +kernel
theorem dX3_barredBy_10 : decode cX3_barredBy 10 = .ok (.ireturn, 1) := by decide +kernel
theorem dX4_init_0 : decode cX4_init 0 = .ok (.aload_n 0, 1) := by decide +kernel
theorem dX4_init_1 : decode cX4_init 1 = .ok (.invokespecial 1, 3) := by decide +kernel
theorem dX4_init_4 : decode cX4_init 4 = .ok (.return_, 1) := by decide +kernel
theorem dX4_skill_0 : decode cX4_skill 0 = .ok (.iconst 0, 1) := by decide +kernel
theorem dX4_skill_1 : decode cX4_skill 1 = .ok (.aload_n 0, 1) := by decide +kernel
theorem dX4_skill_2 : decode cX4_skill 2 = .ok (.iload_n 1, 1) := by decide +kernel
theorem dX4_skill_3 : decode cX4_skill 3 = .ok (.iload_n 2, 1) := by decide +kernel
theorem dX4_skill_4 : decode cX4_skill 4 = .ok (.invokespecial 7, 3) := by decide +kernel
theorem dX4_skill_7 : decode cX4_skill 7 = .ok (.iload_n 2, 1) := by decide +kernel
theorem dX4_skill_8 : decode cX4_skill 8 = .ok (.iconst 2, 1) := by decide +kernel
theorem dX4_skill_9 : decode cX4_skill 9 = .ok (.idiv, 1) := by decide +kernel
theorem dX4_skill_10 : decode cX4_skill 10 = .ok (.isub, 1) := by decide +kernel
theorem dX4_skill_11 : decode cX4_skill 11 = .ok (.invokestatic 11, 3) := by decide +kernel
theorem dX4_skill_14 : decode cX4_skill 14 = .ok (.ireturn, 1) := by decide +kernel
theorem dX5_init_0 : decode cX5_init 0 = .ok (.aload_n 0, 1) := by decide +kernel
theorem dX5_init_1 : decode cX5_init 1 = .ok (.invokespecial 1, 3) := by decide +kernel
theorem dX5_init_4 : decode cX5_init 4 = .ok (.return_, 1) := by decide +kernel
theorem dX5_wants_0 : decode cX5_wants 0 = .ok (.iconst 1, 1) := by decide +kernel
theorem dX5_wants_1 : decode cX5_wants 1 = .ok (.ireturn, 1) := by decide +kernel
theorem dX5_skill_0 : decode cX5_skill 0 = .ok (.iload_n 1, 1) := by decide +kernel
theorem dX5_skill_1 : decode cX5_skill 1 = .ok (.ireturn, 1) := by decide +kernel
theorem dX5_barredBy_0 : decode cX5_barredBy 0 = .ok (.iload_n 1, 1) := by decide +kernel
theorem dX5_barredBy_1 : decode cX5_barredBy 1 = .ok (.iconst 1, 1) := by decide +kernel
theorem dX5_barredBy_2 : decode cX5_barredBy 2 = .ok (.if_icmp .lt 7, 3) := by decide +kernel
theorem dX5_barredBy_5 : decode cX5_barredBy 5 = .ok (.iconst 1, 1) := by decide +kernel
theorem dX5_barredBy_6 : decode cX5_barredBy 6 = .ok (.goto 4, 3) := by decide +kernel
theorem dX5_barredBy_9 : decode cX5_barredBy 9 = .ok (.iconst 0, 1) := by decide +kernel
theorem dX5_barredBy_10 : decode cX5_barredBy 10 = .ok (.ireturn, 1) := by decide +kernel
theorem dX6_init_0 : decode cX6_init 0 = .ok (.aload_n 0, 1) := by decide +kernel
theorem dX6_init_1 : decode cX6_init 1 = .ok (.invokespecial 1, 3) := by decide +kernel
theorem dX6_init_4 : decode cX6_init 4 = .ok (.return_, 1) := by decide +kernel
theorem dX6_wants_0 : decode cX6_wants 0 = .ok (.aload_n 0, 1) := by decide +kernel
theorem dX6_wants_1 : decode cX6_wants 1 = .ok (.iload_n 1, 1) := by decide +kernel
theorem dX6_wants_2 : decode cX6_wants 2 = .ok (.iload_n 2, 1) := by decide +kernel
theorem dX6_wants_3 : decode cX6_wants 3 = .ok (.invokespecial 7, 3) := by decide +kernel
theorem dX6_wants_6 : decode cX6_wants 6 = .ok (.ifCond .eq 13, 3) := by decide +kernel
theorem dX6_wants_9 : decode cX6_wants 9 = .ok (.iload_n 1, 1) := by decide +kernel
theorem dX6_wants_10 : decode cX6_wants 10 = .ok (.bipush 8, 2) := by decide +kernel
theorem dX6_wants_12 : decode cX6_wants 12 = .ok (.if_icmp .lt 7, 3) := by decide +kernel
theorem dX6_wants_15 : decode cX6_wants 15 = .ok (.iconst 1, 1) := by decide +kernel
theorem dX6_wants_16 : decode cX6_wants 16 = .ok (.goto 4, 3) := by decide +kernel
theorem dX6_wants_19 : decode cX6_wants 19 = .ok (.iconst 0, 1) := by decide +kernel
theorem dX6_wants_20 : decode cX6_wants 20 = .ok (.ireturn, 1) := by decide +kernel
theorem dX6_skill_0 : decode cX6_skill 0 = .ok (.aload_n 0, 1) := by decide +kernel
theorem dX6_skill_1 : decode cX6_skill 1 = .ok (.iload_n 1, 1) := by decide +kernel
theorem dX6_skill_2 : decode cX6_skill 2 = .ok (.iload_n 2, 1) := by decide +kernel
theorem dX6_skill_3 : decode cX6_skill 3 = .ok (.invokespecial 11, 3) := by decide +kernel
theorem dX6_skill_6 : decode cX6_skill 6 = .ok (.iconst 1, 1) := by decide +kernel
theorem dX6_skill_7 : decode cX6_skill 7 = .ok (.iadd, 1) := by decide +kernel
theorem dX6_skill_8 : decode cX6_skill 8 = .ok (.ireturn, 1) := by decide +kernel
theorem dX7_init_0 : decode cX7_init 0 = .ok (.aload_n 0, 1) := by decide +kernel
theorem dX7_init_1 : decode cX7_init 1 = .ok (.invokespecial 1, 3) := by decide +kernel
theorem dX7_init_4 : decode cX7_init 4 = .ok (.return_, 1) := by decide +kernel
theorem dX7_wants_0 : decode cX7_wants 0 = .ok (.iload_n 1, 1) := by decide +kernel
theorem dX7_wants_1 : decode cX7_wants 1 = .ok (.bipush 15, 2) := by decide +kernel
theorem dX7_wants_3 : decode cX7_wants 3 = .ok (.if_icmp .ge 8, 3) := by decide +kernel
theorem dX7_wants_6 : decode cX7_wants 6 = .ok (.iload_n 2, 1) := by decide +kernel
theorem dX7_wants_7 : decode cX7_wants 7 = .ok (.iconst 1, 1) := by decide +kernel
theorem dX7_wants_8 : decode cX7_wants 8 = .ok (.if_icmp .gt 7, 3) := by decide +kernel
theorem dX7_wants_11 : decode cX7_wants 11 = .ok (.iconst 1, 1) := by decide +kernel
theorem dX7_wants_12 : decode cX7_wants 12 = .ok (.goto 4, 3) := by decide +kernel
theorem dX7_wants_15 : decode cX7_wants 15 = .ok (.iconst 0, 1) := by decide +kernel
theorem dX7_wants_16 : decode cX7_wants 16 = .ok (.ireturn, 1) := by decide +kernel
theorem dX8_init_0 : decode cX8_init 0 = .ok (.aload_n 0, 1) := by decide +kernel
theorem dX8_init_1 : decode cX8_init 1 = .ok (.invokespecial 3, 3) := by decide +kernel
theorem dX8_init_4 : decode cX8_init 4 = .ok (.aload_n 0, 1) := by decide +kernel
theorem dX8_init_5 : decode cX8_init 5 = .ok (.sipush 150, 3) := by decide +kernel
theorem dX8_init_8 : decode cX8_init 8 = .ok (.newarray .int, 2) := by decide +kernel
theorem dX8_init_10 : decode cX8_init 10 = .ok (.putfield 9, 3) := by decide +kernel
theorem dX8_init_13 : decode cX8_init 13 = .ok (.return_, 1) := by decide +kernel
theorem dX8_append_0 : decode cX8_append 0 = .ok (.aload_n 0, 1) := by decide +kernel
theorem dX8_append_1 : decode cX8_append 1 = .ok (.getfield 15, 3) := by decide +kernel
theorem dX8_append_4 : decode cX8_append 4 = .ok (.sipush 150, 3) := by decide +kernel
theorem dX8_append_7 : decode cX8_append 7 = .ok (.if_icmp .ge 23, 3) := by decide +kernel
theorem dX8_append_10 : decode cX8_append 10 = .ok (.aload_n 0, 1) := by decide +kernel
theorem dX8_append_11 : decode cX8_append 11 = .ok (.getfield 9, 3) := by decide +kernel
theorem dX8_append_14 : decode cX8_append 14 = .ok (.aload_n 0, 1) := by decide +kernel
theorem dX8_append_15 : decode cX8_append 15 = .ok (.getfield 15, 3) := by decide +kernel
theorem dX8_append_18 : decode cX8_append 18 = .ok (.iload_n 1, 1) := by decide +kernel
theorem dX8_append_19 : decode cX8_append 19 = .ok (.iastore, 1) := by decide +kernel
theorem dX8_append_20 : decode cX8_append 20 = .ok (.aload_n 0, 1) := by decide +kernel
theorem dX8_append_21 : decode cX8_append 21 = .ok (.dup, 1) := by decide +kernel
theorem dX8_append_22 : decode cX8_append 22 = .ok (.getfield 15, 3) := by decide +kernel
theorem dX8_append_25 : decode cX8_append 25 = .ok (.iconst 1, 1) := by decide +kernel
theorem dX8_append_26 : decode cX8_append 26 = .ok (.iadd, 1) := by decide +kernel
theorem dX8_append_27 : decode cX8_append 27 = .ok (.putfield 15, 3) := by decide +kernel
theorem dX8_append_30 : decode cX8_append 30 = .ok (.return_, 1) := by decide +kernel
theorem dX8_tellInto_0 : decode cX8_tellInto 0 = .ok (.aload_n 1, 1) := by decide +kernel
theorem dX8_tellInto_1 : decode cX8_tellInto 1 = .ok (.invokevirtual 19, 3) := by decide +kernel
theorem dX8_tellInto_4 : decode cX8_tellInto 4 = .ok (.aload_n 0, 1) := by decide +kernel
theorem dX8_tellInto_5 : decode cX8_tellInto 5 = .ok (.iconst 0, 1) := by decide +kernel
theorem dX8_tellInto_6 : decode cX8_tellInto 6 = .ok (.putfield 24, 3) := by decide +kernel
theorem dX8_tellInto_9 : decode cX8_tellInto 9 = .ok (.aload_n 0, 1) := by decide +kernel
theorem dX8_tellInto_10 : decode cX8_tellInto 10 = .ok (.invokevirtual 27, 3) := by decide +kernel
theorem dX8_tellInto_13 : decode cX8_tellInto 13 = .ok (.aload_n 0, 1) := by decide +kernel
theorem dX8_tellInto_14 : decode cX8_tellInto 14 = .ok (.ldc 30, 2) := by decide +kernel
theorem dX8_tellInto_16 : decode cX8_tellInto 16 = .ok (.invokevirtual 32, 3) := by decide +kernel
theorem dX8_tellInto_19 : decode cX8_tellInto 19 = .ok (.ifCond .eq 10, 3) := by decide +kernel
theorem dX8_tellInto_22 : decode cX8_tellInto 22 = .ok (.aload_n 0, 1) := by decide +kernel
theorem dX8_tellInto_23 : decode cX8_tellInto 23 = .ok (.invokevirtual 36, 3) := by decide +kernel
theorem dX8_tellInto_26 : decode cX8_tellInto 26 = .ok (.ifCond .ne 11, 3) := by decide +kernel
theorem dX8_tellInto_29 : decode cX8_tellInto 29 = .ok (.bipush (-10), 2) := by decide +kernel
theorem dX8_tellInto_31 : decode cX8_tellInto 31 = .ok (.aload_n 0, 1) := by decide +kernel
theorem dX8_tellInto_32 : decode cX8_tellInto 32 = .ok (.getfield 40, 3) := by decide +kernel
theorem dX8_tellInto_35 : decode cX8_tellInto 35 = .ok (.isub, 1) := by decide +kernel
theorem dX8_tellInto_36 : decode cX8_tellInto 36 = .ok (.ireturn, 1) := by decide +kernel
theorem dX8_tellInto_37 : decode cX8_tellInto 37 = .ok (.iconst 1, 1) := by decide +kernel
theorem dX8_tellInto_38 : decode cX8_tellInto 38 = .ok (.istore_n 2, 1) := by decide +kernel
theorem dX8_tellInto_39 : decode cX8_tellInto 39 = .ok (.iconst 0, 1) := by decide +kernel
theorem dX8_tellInto_40 : decode cX8_tellInto 40 = .ok (.istore_n 3, 1) := by decide +kernel
theorem dX8_tellInto_41 : decode cX8_tellInto 41 = .ok (.iload_n 3, 1) := by decide +kernel
theorem dX8_tellInto_42 : decode cX8_tellInto 42 = .ok (.sipush 150, 3) := by decide +kernel
theorem dX8_tellInto_45 : decode cX8_tellInto 45 = .ok (.if_icmp .ge 86, 3) := by decide +kernel
theorem dX8_tellInto_48 : decode cX8_tellInto 48 = .ok (.aload_n 0, 1) := by decide +kernel
theorem dX8_tellInto_49 : decode cX8_tellInto 49 = .ok (.invokevirtual 27, 3) := by decide +kernel
theorem dX8_tellInto_52 : decode cX8_tellInto 52 = .ok (.aload_n 0, 1) := by decide +kernel
theorem dX8_tellInto_53 : decode cX8_tellInto 53 = .ok (.getfield 43, 3) := by decide +kernel
theorem dX8_tellInto_56 : decode cX8_tellInto 56 = .ok (.ifCond .ne 5, 3) := by decide +kernel
theorem dX8_tellInto_59 : decode cX8_tellInto 59 = .ok (.iload_n 2, 1) := by decide +kernel
theorem dX8_tellInto_60 : decode cX8_tellInto 60 = .ok (.ireturn, 1) := by decide +kernel
theorem dX8_tellInto_61 : decode cX8_tellInto 61 = .ok (.aload_n 0, 1) := by decide +kernel
theorem dX8_tellInto_62 : decode cX8_tellInto 62 = .ok (.ldc 46, 2) := by decide +kernel
theorem dX8_tellInto_64 : decode cX8_tellInto 64 = .ok (.invokevirtual 32, 3) := by decide +kernel
theorem dX8_tellInto_67 : decode cX8_tellInto 67 = .ok (.ifCond .eq 11, 3) := by decide +kernel
theorem dX8_tellInto_70 : decode cX8_tellInto 70 = .ok (.aload_n 0, 1) := by decide +kernel
theorem dX8_tellInto_71 : decode cX8_tellInto 71 = .ok (.aload_n 1, 1) := by decide +kernel
theorem dX8_tellInto_72 : decode cX8_tellInto 72 = .ok (.invokevirtual 48, 3) := by decide +kernel
theorem dX8_tellInto_75 : decode cX8_tellInto 75 = .ok (.goto 25, 3) := by decide +kernel
theorem dX8_tellInto_78 : decode cX8_tellInto 78 = .ok (.aload_n 0, 1) := by decide +kernel
theorem dX8_tellInto_79 : decode cX8_tellInto 79 = .ok (.ldc 52, 2) := by decide +kernel
theorem dX8_tellInto_81 : decode cX8_tellInto 81 = .ok (.invokevirtual 32, 3) := by decide +kernel
theorem dX8_tellInto_84 : decode cX8_tellInto 84 = .ok (.ifCond .eq 15, 3) := by decide +kernel
theorem dX8_tellInto_87 : decode cX8_tellInto 87 = .ok (.aload_n 0, 1) := by decide +kernel
theorem dX8_tellInto_88 : decode cX8_tellInto 88 = .ok (.aload_n 1, 1) := by decide +kernel
theorem dX8_tellInto_89 : decode cX8_tellInto 89 = .ok (.invokevirtual 54, 3) := by decide +kernel
theorem dX8_tellInto_92 : decode cX8_tellInto 92 = .ok (.ifCond .eq 7, 3) := by decide +kernel
theorem dX8_tellInto_95 : decode cX8_tellInto 95 = .ok (.iconst 1, 1) := by decide +kernel
theorem dX8_tellInto_96 : decode cX8_tellInto 96 = .ok (.goto 4, 3) := by decide +kernel
theorem dX8_tellInto_99 : decode cX8_tellInto 99 = .ok (.iconst 0, 1) := by decide +kernel
theorem dX8_tellInto_100 : decode cX8_tellInto 100 = .ok (.istore 4, 2) := by decide +kernel
theorem dX8_tellInto_102 : decode cX8_tellInto 102 = .ok (.iload 4, 2) := by decide +kernel
theorem dX8_tellInto_104 : decode cX8_tellInto 104 = .ok (.ifCond .eq 10, 3) := by decide +kernel
theorem dX8_tellInto_107 : decode cX8_tellInto 107 = .ok (.aload_n 0, 1) := by decide +kernel
theorem dX8_tellInto_108 : decode cX8_tellInto 108 = .ok (.invokevirtual 36, 3) := by decide +kernel
theorem dX8_tellInto_111 : decode cX8_tellInto 111 = .ok (.ifCond .ne 11, 3) := by decide +kernel
theorem dX8_tellInto_114 : decode cX8_tellInto 114 = .ok (.bipush (-10), 2) := by decide +kernel
theorem dX8_tellInto_116 : decode cX8_tellInto 116 = .ok (.aload_n 0, 1) := by decide +kernel
theorem dX8_tellInto_117 : decode cX8_tellInto 117 = .ok (.getfield 40, 3) := by decide +kernel
theorem dX8_tellInto_120 : decode cX8_tellInto 120 = .ok (.isub, 1) := by decide +kernel
theorem dX8_tellInto_121 : decode cX8_tellInto 121 = .ok (.ireturn, 1) := by decide +kernel
theorem dX8_tellInto_122 : decode cX8_tellInto 122 = .ok (.iinc 2 1, 3) := by decide +kernel
theorem dX8_tellInto_125 : decode cX8_tellInto 125 = .ok (.iinc 3 1, 3) := by decide +kernel
theorem dX8_tellInto_128 : decode cX8_tellInto 128 = .ok (.goto (-87), 3) := by decide +kernel
theorem dX8_tellInto_131 : decode cX8_tellInto 131 = .ok (.iload_n 2, 1) := by decide +kernel
theorem dX8_tellInto_132 : decode cX8_tellInto 132 = .ok (.ireturn, 1) := by decide +kernel
theorem dX8_tellPrize_0 : decode cX8_tellPrize 0 = .ok (.aload_n 0, 1) := by decide +kernel
theorem dX8_tellPrize_1 : decode cX8_tellPrize 1 = .ok (.iconst 0, 1) := by decide +kernel
theorem dX8_tellPrize_2 : decode cX8_tellPrize 2 = .ok (.bipush 7, 2) := by decide +kernel
theorem dX8_tellPrize_4 : decode cX8_tellPrize 4 = .ok (.invokevirtual 57, 3) := by decide +kernel
theorem dX8_tellPrize_7 : decode cX8_tellPrize 7 = .ok (.ifCond .ne 5, 3) := by decide +kernel
theorem dX8_tellPrize_10 : decode cX8_tellPrize 10 = .ok (.iconst 0, 1) := by decide +kernel
theorem dX8_tellPrize_11 : decode cX8_tellPrize 11 = .ok (.ireturn, 1) := by decide +kernel
theorem dX8_tellPrize_12 : decode cX8_tellPrize 12 = .ok (.aload_n 0, 1) := by decide +kernel
theorem dX8_tellPrize_13 : decode cX8_tellPrize 13 = .ok (.getfield 61, 3) := by decide +kernel
theorem dX8_tellPrize_16 : decode cX8_tellPrize 16 = .ok (.istore_n 2, 1) := by decide +kernel
theorem dX8_tellPrize_17 : decode cX8_tellPrize 17 = .ok (.aload_n 0, 1) := by decide +kernel
theorem dX8_tellPrize_18 : decode cX8_tellPrize 18 = .ok (.iconst 0, 1) := by decide +kernel
theorem dX8_tellPrize_19 : decode cX8_tellPrize 19 = .ok (.iconst 2, 1) := by decide +kernel
theorem dX8_tellPrize_20 : decode cX8_tellPrize 20 = .ok (.invokevirtual 57, 3) := by decide +kernel
theorem dX8_tellPrize_23 : decode cX8_tellPrize 23 = .ok (.ifCond .ne 5, 3) := by decide +kernel
theorem dX8_tellPrize_26 : decode cX8_tellPrize 26 = .ok (.iconst 0, 1) := by decide +kernel
theorem dX8_tellPrize_27 : decode cX8_tellPrize 27 = .ok (.ireturn, 1) := by decide +kernel
theorem dX8_tellPrize_28 : decode cX8_tellPrize 28 = .ok (.aload_n 0, 1) := by decide +kernel
theorem dX8_tellPrize_29 : decode cX8_tellPrize 29 = .ok (.getfield 61, 3) := by decide +kernel
theorem dX8_tellPrize_32 : decode cX8_tellPrize 32 = .ok (.istore_n 3, 1) := by decide +kernel
theorem dX8_tellPrize_33 : decode cX8_tellPrize 33 = .ok (.aload_n 0, 1) := by decide +kernel
theorem dX8_tellPrize_34 : decode cX8_tellPrize 34 = .ok (.iconst 1, 1) := by decide +kernel
theorem dX8_tellPrize_35 : decode cX8_tellPrize 35 = .ok (.bipush 30, 2) := by decide +kernel
theorem dX8_tellPrize_37 : decode cX8_tellPrize 37 = .ok (.invokevirtual 57, 3) := by decide +kernel
theorem dX8_tellPrize_40 : decode cX8_tellPrize 40 = .ok (.ifCond .ne 5, 3) := by decide +kernel
theorem dX8_tellPrize_43 : decode cX8_tellPrize 43 = .ok (.iconst 0, 1) := by decide +kernel
theorem dX8_tellPrize_44 : decode cX8_tellPrize 44 = .ok (.ireturn, 1) := by decide +kernel
theorem dX8_tellPrize_45 : decode cX8_tellPrize 45 = .ok (.aload_n 1, 1) := by decide +kernel
theorem dX8_tellPrize_46 : decode cX8_tellPrize 46 = .ok (.iload_n 2, 1) := by decide +kernel
theorem dX8_tellPrize_47 : decode cX8_tellPrize 47 = .ok (.iload_n 3, 1) := by decide +kernel
theorem dX8_tellPrize_48 : decode cX8_tellPrize 48 = .ok (.aload_n 0, 1) := by decide +kernel
theorem dX8_tellPrize_49 : decode cX8_tellPrize 49 = .ok (.getfield 61, 3) := by decide +kernel
theorem dX8_tellPrize_52 : decode cX8_tellPrize 52 = .ok (.invokevirtual 64, 3) := by decide +kernel
theorem dX8_tellPrize_55 : decode cX8_tellPrize 55 = .ok (.iconst 1, 1) := by decide +kernel
theorem dX8_tellPrize_56 : decode cX8_tellPrize 56 = .ok (.ireturn, 1) := by decide +kernel
theorem dX8_tellOne_0 : decode cX8_tellOne 0 = .ok (.aload_n 1, 1) := by decide +kernel
theorem dX8_tellOne_1 : decode cX8_tellOne 1 = .ok (.getfield 68, 3) := by decide +kernel
theorem dX8_tellOne_4 : decode cX8_tellOne 4 = .ok (.bipush 6, 2) := by decide +kernel
theorem dX8_tellOne_6 : decode cX8_tellOne 6 = .ok (.if_icmp .ge 12, 3) := by decide +kernel
theorem dX8_tellOne_9 : decode cX8_tellOne 9 = .ok (.aload_n 0, 1) := by decide +kernel
theorem dX8_tellOne_10 : decode cX8_tellOne 10 = .ok (.iconst 0, 1) := by decide +kernel
theorem dX8_tellOne_11 : decode cX8_tellOne 11 = .ok (.iconst 5, 1) := by decide +kernel
theorem dX8_tellOne_12 : decode cX8_tellOne 12 = .ok (.invokevirtual 57, 3) := by decide +kernel
theorem dX8_tellOne_15 : decode cX8_tellOne 15 = .ok (.ifCond .ne 5, 3) := by decide +kernel
theorem dX8_tellOne_18 : decode cX8_tellOne 18 = .ok (.iconst 0, 1) := by decide +kernel
theorem dX8_tellOne_19 : decode cX8_tellOne 19 = .ok (.ireturn, 1) := by decide +kernel
theorem dX8_tellOne_20 : decode cX8_tellOne 20 = .ok (.aload_n 0, 1) := by decide +kernel
theorem dX8_tellOne_21 : decode cX8_tellOne 21 = .ok (.getfield 61, 3) := by decide +kernel
theorem dX8_tellOne_24 : decode cX8_tellOne 24 = .ok (.istore_n 2, 1) := by decide +kernel
theorem dX8_tellOne_25 : decode cX8_tellOne 25 = .ok (.aload_n 0, 1) := by decide +kernel
theorem dX8_tellOne_26 : decode cX8_tellOne 26 = .ok (.iconst 0, 1) := by decide +kernel
theorem dX8_tellOne_27 : decode cX8_tellOne 27 = .ok (.bipush 9, 2) := by decide +kernel
theorem dX8_tellOne_29 : decode cX8_tellOne 29 = .ok (.invokevirtual 57, 3) := by decide +kernel
theorem dX8_tellOne_32 : decode cX8_tellOne 32 = .ok (.ifCond .ne 5, 3) := by decide +kernel
theorem dX8_tellOne_35 : decode cX8_tellOne 35 = .ok (.iconst 0, 1) := by decide +kernel
theorem dX8_tellOne_36 : decode cX8_tellOne 36 = .ok (.ireturn, 1) := by decide +kernel
theorem dX8_tellOne_37 : decode cX8_tellOne 37 = .ok (.aload_n 0, 1) := by decide +kernel
theorem dX8_tellOne_38 : decode cX8_tellOne 38 = .ok (.getfield 61, 3) := by decide +kernel
theorem dX8_tellOne_41 : decode cX8_tellOne 41 = .ok (.istore_n 3, 1) := by decide +kernel
theorem dX8_tellOne_42 : decode cX8_tellOne 42 = .ok (.aload_n 0, 1) := by decide +kernel
theorem dX8_tellOne_43 : decode cX8_tellOne 43 = .ok (.iconst 0, 1) := by decide +kernel
theorem dX8_tellOne_44 : decode cX8_tellOne 44 = .ok (.bipush 9, 2) := by decide +kernel
theorem dX8_tellOne_46 : decode cX8_tellOne 46 = .ok (.invokevirtual 57, 3) := by decide +kernel
theorem dX8_tellOne_49 : decode cX8_tellOne 49 = .ok (.ifCond .ne 5, 3) := by decide +kernel
theorem dX8_tellOne_52 : decode cX8_tellOne 52 = .ok (.iconst 0, 1) := by decide +kernel
theorem dX8_tellOne_53 : decode cX8_tellOne 53 = .ok (.ireturn, 1) := by decide +kernel
theorem dX8_tellOne_54 : decode cX8_tellOne 54 = .ok (.aload_n 0, 1) := by decide +kernel
theorem dX8_tellOne_55 : decode cX8_tellOne 55 = .ok (.getfield 61, 3) := by decide +kernel
theorem dX8_tellOne_58 : decode cX8_tellOne 58 = .ok (.istore 4, 2) := by decide +kernel
theorem dX8_tellOne_60 : decode cX8_tellOne 60 = .ok (.aload_n 0, 1) := by decide +kernel
theorem dX8_tellOne_61 : decode cX8_tellOne 61 = .ok (.iconst 0, 1) := by decide +kernel
theorem dX8_tellOne_62 : decode cX8_tellOne 62 = .ok (.bipush 9, 2) := by decide +kernel
theorem dX8_tellOne_64 : decode cX8_tellOne 64 = .ok (.invokevirtual 57, 3) := by decide +kernel
theorem dX8_tellOne_67 : decode cX8_tellOne 67 = .ok (.ifCond .ne 5, 3) := by decide +kernel
theorem dX8_tellOne_70 : decode cX8_tellOne 70 = .ok (.iconst 0, 1) := by decide +kernel
theorem dX8_tellOne_71 : decode cX8_tellOne 71 = .ok (.ireturn, 1) := by decide +kernel
theorem dX8_tellOne_72 : decode cX8_tellOne 72 = .ok (.aload_n 1, 1) := by decide +kernel
theorem dX8_tellOne_73 : decode cX8_tellOne 73 = .ok (.iload_n 2, 1) := by decide +kernel
theorem dX8_tellOne_74 : decode cX8_tellOne 74 = .ok (.iload_n 3, 1) := by decide +kernel
theorem dX8_tellOne_75 : decode cX8_tellOne 75 = .ok (.iload 4, 2) := by decide +kernel
theorem dX8_tellOne_77 : decode cX8_tellOne 77 = .ok (.aload_n 0, 1) := by decide +kernel
theorem dX8_tellOne_78 : decode cX8_tellOne 78 = .ok (.getfield 61, 3) := by decide +kernel
theorem dX8_tellOne_81 : decode cX8_tellOne 81 = .ok (.invokevirtual 71, 3) := by decide +kernel
theorem dX8_tellOne_84 : decode cX8_tellOne 84 = .ok (.iconst 1, 1) := by decide +kernel
theorem dX8_tellOne_85 : decode cX8_tellOne 85 = .ok (.ireturn, 1) := by decide +kernel
theorem dX8_hasNumber_0 : decode cX8_hasNumber 0 = .ok (.aload_n 0, 1) := by decide +kernel
theorem dX8_hasNumber_1 : decode cX8_hasNumber 1 = .ok (.invokevirtual 27, 3) := by decide +kernel
theorem dX8_hasNumber_4 : decode cX8_hasNumber 4 = .ok (.aload_n 0, 1) := by decide +kernel
theorem dX8_hasNumber_5 : decode cX8_hasNumber 5 = .ok (.getfield 43, 3) := by decide +kernel
theorem dX8_hasNumber_8 : decode cX8_hasNumber 8 = .ok (.iconst 2, 1) := by decide +kernel
theorem dX8_hasNumber_9 : decode cX8_hasNumber 9 = .ok (.if_icmp .ne 19, 3) := by decide +kernel
theorem dX8_hasNumber_12 : decode cX8_hasNumber 12 = .ok (.aload_n 0, 1) := by decide +kernel
theorem dX8_hasNumber_13 : decode cX8_hasNumber 13 = .ok (.getfield 61, 3) := by decide +kernel
theorem dX8_hasNumber_16 : decode cX8_hasNumber 16 = .ok (.iload_n 1, 1) := by decide +kernel
theorem dX8_hasNumber_17 : decode cX8_hasNumber 17 = .ok (.iload_n 2, 1) := by decide +kernel
theorem dX8_hasNumber_18 : decode cX8_hasNumber 18 = .ok (.invokestatic 75, 3) := by decide +kernel
theorem dX8_hasNumber_21 : decode cX8_hasNumber 21 = .ok (.ifCond .eq 7, 3) := by decide +kernel
theorem dX8_hasNumber_24 : decode cX8_hasNumber 24 = .ok (.iconst 1, 1) := by decide +kernel
theorem dX8_hasNumber_25 : decode cX8_hasNumber 25 = .ok (.goto 4, 3) := by decide +kernel
theorem dX8_hasNumber_28 : decode cX8_hasNumber 28 = .ok (.iconst 0, 1) := by decide +kernel
theorem dX8_hasNumber_29 : decode cX8_hasNumber 29 = .ok (.ireturn, 1) := by decide +kernel
theorem dX8_endsItem_0 : decode cX8_endsItem 0 = .ok (.aload_n 0, 1) := by decide +kernel
theorem dX8_endsItem_1 : decode cX8_endsItem 1 = .ok (.invokevirtual 27, 3) := by decide +kernel
theorem dX8_endsItem_4 : decode cX8_endsItem 4 = .ok (.aload_n 0, 1) := by decide +kernel
theorem dX8_endsItem_5 : decode cX8_endsItem 5 = .ok (.getfield 43, 3) := by decide +kernel
theorem dX8_endsItem_8 : decode cX8_endsItem 8 = .ok (.iconst 3, 1) := by decide +kernel
theorem dX8_endsItem_9 : decode cX8_endsItem 9 = .ok (.if_icmp .ne 7, 3) := by decide +kernel
theorem dX8_endsItem_12 : decode cX8_endsItem 12 = .ok (.iconst 1, 1) := by decide +kernel
theorem dX8_endsItem_13 : decode cX8_endsItem 13 = .ok (.goto 4, 3) := by decide +kernel
theorem dX8_endsItem_16 : decode cX8_endsItem 16 = .ok (.iconst 0, 1) := by decide +kernel
theorem dX8_endsItem_17 : decode cX8_endsItem 17 = .ok (.ireturn, 1) := by decide +kernel
theorem dX8_isWord_0 : decode cX8_isWord 0 = .ok (.aload_n 0, 1) := by decide +kernel
theorem dX8_isWord_1 : decode cX8_isWord 1 = .ok (.getfield 43, 3) := by decide +kernel
theorem dX8_isWord_4 : decode cX8_isWord 4 = .ok (.iconst 1, 1) := by decide +kernel
theorem dX8_isWord_5 : decode cX8_isWord 5 = .ok (.if_icmp .ne 19, 3) := by decide +kernel
theorem dX8_isWord_8 : decode cX8_isWord 8 = .ok (.aload_n 0, 1) := by decide +kernel
theorem dX8_isWord_9 : decode cX8_isWord 9 = .ok (.getfield 24, 3) := by decide +kernel
theorem dX8_isWord_12 : decode cX8_isWord 12 = .ok (.aload_n 0, 1) := by decide +kernel
theorem dX8_isWord_13 : decode cX8_isWord 13 = .ok (.getfield 40, 3) := by decide +kernel
theorem dX8_isWord_16 : decode cX8_isWord 16 = .ok (.isub, 1) := by decide +kernel
theorem dX8_isWord_17 : decode cX8_isWord 17 = .ok (.aload_n 1, 1) := by decide +kernel
theorem dX8_isWord_18 : decode cX8_isWord 18 = .ok (.invokevirtual 79, 3) := by decide +kernel
theorem dX8_isWord_21 : decode cX8_isWord 21 = .ok (.if_icmp .eq 5, 3) := by decide +kernel
theorem dX8_isWord_24 : decode cX8_isWord 24 = .ok (.iconst 0, 1) := by decide +kernel
theorem dX8_isWord_25 : decode cX8_isWord 25 = .ok (.ireturn, 1) := by decide +kernel
theorem dX8_isWord_26 : decode cX8_isWord 26 = .ok (.iconst 0, 1) := by decide +kernel
theorem dX8_isWord_27 : decode cX8_isWord 27 = .ok (.istore_n 2, 1) := by decide +kernel
theorem dX8_isWord_28 : decode cX8_isWord 28 = .ok (.iload_n 2, 1) := by decide +kernel
theorem dX8_isWord_29 : decode cX8_isWord 29 = .ok (.aload_n 1, 1) := by decide +kernel
theorem dX8_isWord_30 : decode cX8_isWord 30 = .ok (.invokevirtual 79, 3) := by decide +kernel
theorem dX8_isWord_33 : decode cX8_isWord 33 = .ok (.if_icmp .ge 30, 3) := by decide +kernel
theorem dX8_isWord_36 : decode cX8_isWord 36 = .ok (.aload_n 0, 1) := by decide +kernel
theorem dX8_isWord_37 : decode cX8_isWord 37 = .ok (.getfield 9, 3) := by decide +kernel
theorem dX8_isWord_40 : decode cX8_isWord 40 = .ok (.aload_n 0, 1) := by decide +kernel
theorem dX8_isWord_41 : decode cX8_isWord 41 = .ok (.getfield 40, 3) := by decide +kernel
theorem dX8_isWord_44 : decode cX8_isWord 44 = .ok (.iload_n 2, 1) := by decide +kernel
theorem dX8_isWord_45 : decode cX8_isWord 45 = .ok (.iadd, 1) := by decide +kernel
theorem dX8_isWord_46 : decode cX8_isWord 46 = .ok (.iaload, 1) := by decide +kernel
theorem dX8_isWord_47 : decode cX8_isWord 47 = .ok (.aload_n 1, 1) := by decide +kernel
theorem dX8_isWord_48 : decode cX8_isWord 48 = .ok (.iload_n 2, 1) := by decide +kernel
theorem dX8_isWord_49 : decode cX8_isWord 49 = .ok (.invokevirtual 84, 3) := by decide +kernel
theorem dX8_isWord_52 : decode cX8_isWord 52 = .ok (.if_icmp .eq 5, 3) := by decide +kernel
theorem dX8_isWord_55 : decode cX8_isWord 55 = .ok (.iconst 0, 1) := by decide +kernel
theorem dX8_isWord_56 : decode cX8_isWord 56 = .ok (.ireturn, 1) := by decide +kernel
theorem dX8_isWord_57 : decode cX8_isWord 57 = .ok (.iinc 2 1, 3) := by decide +kernel
theorem dX8_isWord_60 : decode cX8_isWord 60 = .ok (.goto (-32), 3) := by decide +kernel
theorem dX8_isWord_63 : decode cX8_isWord 63 = .ok (.iconst 1, 1) := by decide +kernel
theorem dX8_isWord_64 : decode cX8_isWord 64 = .ok (.ireturn, 1) := by decide +kernel
theorem dX8_advance_0 : decode cX8_advance 0 = .ok (.aload_n 0, 1) := by decide +kernel
theorem dX8_advance_1 : decode cX8_advance 1 = .ok (.aload_n 0, 1) := by decide +kernel
theorem dX8_advance_2 : decode cX8_advance 2 = .ok (.getfield 24, 3) := by decide +kernel
theorem dX8_advance_5 : decode cX8_advance 5 = .ok (.putfield 40, 3) := by decide +kernel
theorem dX8_advance_8 : decode cX8_advance 8 = .ok (.aload_n 0, 1) := by decide +kernel
theorem dX8_advance_9 : decode cX8_advance 9 = .ok (.getfield 40, 3) := by decide +kernel
theorem dX8_advance_12 : decode cX8_advance 12 = .ok (.aload_n 0, 1) := by decide +kernel
theorem dX8_advance_13 : decode cX8_advance 13 = .ok (.getfield 15, 3) := by decide +kernel
theorem dX8_advance_16 : decode cX8_advance 16 = .ok (.if_icmp .ge 30, 3) := by decide +kernel
theorem dX8_advance_19 : decode cX8_advance 19 = .ok (.aload_n 0, 1) := by decide +kernel
theorem dX8_advance_20 : decode cX8_advance 20 = .ok (.getfield 9, 3) := by decide +kernel
theorem dX8_advance_23 : decode cX8_advance 23 = .ok (.aload_n 0, 1) := by decide +kernel
theorem dX8_advance_24 : decode cX8_advance 24 = .ok (.getfield 40, 3) := by decide +kernel
theorem dX8_advance_27 : decode cX8_advance 27 = .ok (.iaload, 1) := by decide +kernel
theorem dX8_advance_28 : decode cX8_advance 28 = .ok (.bipush 32, 2) := by decide +kernel
theorem dX8_advance_30 : decode cX8_advance 30 = .ok (.if_icmp .ne 16, 3) := by decide +kernel
theorem dX8_advance_33 : decode cX8_advance 33 = .ok (.aload_n 0, 1) := by decide +kernel
theorem dX8_advance_34 : decode cX8_advance 34 = .ok (.dup, 1) := by decide +kernel
theorem dX8_advance_35 : decode cX8_advance 35 = .ok (.getfield 40, 3) := by decide +kernel
theorem dX8_advance_38 : decode cX8_advance 38 = .ok (.iconst 1, 1) := by decide +kernel
theorem dX8_advance_39 : decode cX8_advance 39 = .ok (.iadd, 1) := by decide +kernel
theorem dX8_advance_40 : decode cX8_advance 40 = .ok (.putfield 40, 3) := by decide +kernel
theorem dX8_advance_43 : decode cX8_advance 43 = .ok (.goto (-35), 3) := by decide +kernel
theorem dX8_advance_46 : decode cX8_advance 46 = .ok (.aload_n 0, 1) := by decide +kernel
theorem dX8_advance_47 : decode cX8_advance 47 = .ok (.aload_n 0, 1) := by decide +kernel
theorem dX8_advance_48 : decode cX8_advance 48 = .ok (.getfield 40, 3) := by decide +kernel
theorem dX8_advance_51 : decode cX8_advance 51 = .ok (.putfield 24, 3) := by decide +kernel
theorem dX8_advance_54 : decode cX8_advance 54 = .ok (.aload_n 0, 1) := by decide +kernel
theorem dX8_advance_55 : decode cX8_advance 55 = .ok (.getfield 40, 3) := by decide +kernel
theorem dX8_advance_58 : decode cX8_advance 58 = .ok (.aload_n 0, 1) := by decide +kernel
theorem dX8_advance_59 : decode cX8_advance 59 = .ok (.getfield 15, 3) := by decide +kernel
theorem dX8_advance_62 : decode cX8_advance 62 = .ok (.if_icmp .lt 11, 3) := by decide +kernel
theorem dX8_advance_65 : decode cX8_advance 65 = .ok (.aload_n 0, 1) := by decide +kernel
theorem dX8_advance_66 : decode cX8_advance 66 = .ok (.iconst 0, 1) := by decide +kernel
theorem dX8_advance_67 : decode cX8_advance 67 = .ok (.putfield 43, 3) := by decide +kernel
theorem dX8_advance_70 : decode cX8_advance 70 = .ok (.goto 117, 3) := by decide +kernel
theorem dX8_advance_73 : decode cX8_advance 73 = .ok (.aload_n 0, 1) := by decide +kernel
theorem dX8_advance_74 : decode cX8_advance 74 = .ok (.getfield 9, 3) := by decide +kernel
theorem dX8_advance_77 : decode cX8_advance 77 = .ok (.aload_n 0, 1) := by decide +kernel
theorem dX8_advance_78 : decode cX8_advance 78 = .ok (.getfield 40, 3) := by decide +kernel
theorem dX8_advance_81 : decode cX8_advance 81 = .ok (.iaload, 1) := by decide +kernel
theorem dX8_advance_82 : decode cX8_advance 82 = .ok (.invokestatic 88, 3) := by decide +kernel
theorem dX8_advance_85 : decode cX8_advance 85 = .ok (.ifCond .eq 47, 3) := by decide +kernel
theorem dX8_advance_88 : decode cX8_advance 88 = .ok (.aload_n 0, 1) := by decide +kernel
theorem dX8_advance_89 : decode cX8_advance 89 = .ok (.iconst 1, 1) := by decide +kernel
theorem dX8_advance_90 : decode cX8_advance 90 = .ok (.putfield 43, 3) := by decide +kernel
theorem dX8_advance_93 : decode cX8_advance 93 = .ok (.aload_n 0, 1) := by decide +kernel
theorem dX8_advance_94 : decode cX8_advance 94 = .ok (.getfield 24, 3) := by decide +kernel
theorem dX8_advance_97 : decode cX8_advance 97 = .ok (.aload_n 0, 1) := by decide +kernel
theorem dX8_advance_98 : decode cX8_advance 98 = .ok (.getfield 15, 3) := by decide +kernel
theorem dX8_advance_101 : decode cX8_advance 101 = .ok (.if_icmp .ge 86, 3) := by decide +kernel
theorem dX8_advance_104 : decode cX8_advance 104 = .ok (.aload_n 0, 1) := by decide +kernel
theorem dX8_advance_105 : decode cX8_advance 105 = .ok (.getfield 9, 3) := by decide +kernel
theorem dX8_advance_108 : decode cX8_advance 108 = .ok (.aload_n 0, 1) := by decide +kernel
theorem dX8_advance_109 : decode cX8_advance 109 = .ok (.getfield 24, 3) := by decide +kernel
theorem dX8_advance_112 : decode cX8_advance 112 = .ok (.iaload, 1) := by decide +kernel
theorem dX8_advance_113 : decode cX8_advance 113 = .ok (.invokestatic 88, 3) := by decide +kernel
theorem dX8_advance_116 : decode cX8_advance 116 = .ok (.ifCond .eq 71, 3) := by decide +kernel
theorem dX8_advance_119 : decode cX8_advance 119 = .ok (.aload_n 0, 1) := by decide +kernel
theorem dX8_advance_120 : decode cX8_advance 120 = .ok (.dup, 1) := by decide +kernel
theorem dX8_advance_121 : decode cX8_advance 121 = .ok (.getfield 24, 3) := by decide +kernel
theorem dX8_advance_124 : decode cX8_advance 124 = .ok (.iconst 1, 1) := by decide +kernel
theorem dX8_advance_125 : decode cX8_advance 125 = .ok (.iadd, 1) := by decide +kernel
theorem dX8_advance_126 : decode cX8_advance 126 = .ok (.putfield 24, 3) := by decide +kernel
theorem dX8_advance_129 : decode cX8_advance 129 = .ok (.goto (-36), 3) := by decide +kernel
theorem dX8_advance_132 : decode cX8_advance 132 = .ok (.aload_n 0, 1) := by decide +kernel
theorem dX8_advance_133 : decode cX8_advance 133 = .ok (.getfield 9, 3) := by decide +kernel
theorem dX8_advance_136 : decode cX8_advance 136 = .ok (.aload_n 0, 1) := by decide +kernel
theorem dX8_advance_137 : decode cX8_advance 137 = .ok (.getfield 40, 3) := by decide +kernel
theorem dX8_advance_140 : decode cX8_advance 140 = .ok (.iaload, 1) := by decide +kernel
theorem dX8_advance_141 : decode cX8_advance 141 = .ok (.invokestatic 92, 3) := by decide +kernel
theorem dX8_advance_144 : decode cX8_advance 144 = .ok (.ifCond .eq 10, 3) := by decide +kernel
theorem dX8_advance_147 : decode cX8_advance 147 = .ok (.aload_n 0, 1) := by decide +kernel
theorem dX8_advance_148 : decode cX8_advance 148 = .ok (.invokevirtual 95, 3) := by decide +kernel
theorem dX8_advance_151 : decode cX8_advance 151 = .ok (.goto 36, 3) := by decide +kernel
theorem dX8_advance_154 : decode cX8_advance 154 = .ok (.aload_n 0, 1) := by decide +kernel
theorem dX8_advance_155 : decode cX8_advance 155 = .ok (.aload_n 0, 1) := by decide +kernel
theorem dX8_advance_156 : decode cX8_advance 156 = .ok (.getfield 9, 3) := by decide +kernel
theorem dX8_advance_159 : decode cX8_advance 159 = .ok (.aload_n 0, 1) := by decide +kernel
theorem dX8_advance_160 : decode cX8_advance 160 = .ok (.getfield 40, 3) := by decide +kernel
theorem dX8_advance_163 : decode cX8_advance 163 = .ok (.iaload, 1) := by decide +kernel
theorem dX8_advance_164 : decode cX8_advance 164 = .ok (.bipush 59, 2) := by decide +kernel
theorem dX8_advance_166 : decode cX8_advance 166 = .ok (.if_icmp .ne 7, 3) := by decide +kernel
theorem dX8_advance_169 : decode cX8_advance 169 = .ok (.iconst 3, 1) := by decide +kernel
theorem dX8_advance_170 : decode cX8_advance 170 = .ok (.goto 4, 3) := by decide +kernel
theorem dX8_advance_173 : decode cX8_advance 173 = .ok (.iconst 4, 1) := by decide +kernel
theorem dX8_advance_174 : decode cX8_advance 174 = .ok (.putfield 43, 3) := by decide +kernel
theorem dX8_advance_177 : decode cX8_advance 177 = .ok (.aload_n 0, 1) := by decide +kernel
theorem dX8_advance_178 : decode cX8_advance 178 = .ok (.aload_n 0, 1) := by decide +kernel
theorem dX8_advance_179 : decode cX8_advance 179 = .ok (.getfield 40, 3) := by decide +kernel
theorem dX8_advance_182 : decode cX8_advance 182 = .ok (.iconst 1, 1) := by decide +kernel
theorem dX8_advance_183 : decode cX8_advance 183 = .ok (.iadd, 1) := by decide +kernel
theorem dX8_advance_184 : decode cX8_advance 184 = .ok (.putfield 24, 3) := by decide +kernel
theorem dX8_advance_187 : decode cX8_advance 187 = .ok (.return_, 1) := by decide +kernel
theorem dX8_takeFigures_0 : decode cX8_takeFigures 0 = .ok (.aload_n 0, 1) := by decide +kernel
theorem dX8_takeFigures_1 : decode cX8_takeFigures 1 = .ok (.iconst 0, 1) := by decide +kernel
theorem dX8_takeFigures_2 : decode cX8_takeFigures 2 = .ok (.putfield 61, 3) := by decide +kernel
theorem dX8_takeFigures_5 : decode cX8_takeFigures 5 = .ok (.aload_n 0, 1) := by decide +kernel
theorem dX8_takeFigures_6 : decode cX8_takeFigures 6 = .ok (.getfield 24, 3) := by decide +kernel
theorem dX8_takeFigures_9 : decode cX8_takeFigures 9 = .ok (.aload_n 0, 1) := by decide +kernel
theorem dX8_takeFigures_10 : decode cX8_takeFigures 10 = .ok (.getfield 15, 3) := by decide +kernel
theorem dX8_takeFigures_13 : decode cX8_takeFigures 13 = .ok (.if_icmp .ge 68, 3) := by decide +kernel
theorem dX8_takeFigures_16 : decode cX8_takeFigures 16 = .ok (.aload_n 0, 1) := by decide +kernel
theorem dX8_takeFigures_17 : decode cX8_takeFigures 17 = .ok (.getfield 9, 3) := by decide +kernel
theorem dX8_takeFigures_20 : decode cX8_takeFigures 20 = .ok (.aload_n 0, 1) := by decide +kernel
theorem dX8_takeFigures_21 : decode cX8_takeFigures 21 = .ok (.getfield 24, 3) := by decide +kernel
theorem dX8_takeFigures_24 : decode cX8_takeFigures 24 = .ok (.iaload, 1) := by decide +kernel
theorem dX8_takeFigures_25 : decode cX8_takeFigures 25 = .ok (.invokestatic 92, 3) := by decide +kernel
theorem dX8_takeFigures_28 : decode cX8_takeFigures 28 = .ok (.ifCond .eq 53, 3) := by decide +kernel
theorem dX8_takeFigures_31 : decode cX8_takeFigures 31 = .ok (.aload_n 0, 1) := by decide +kernel
theorem dX8_takeFigures_32 : decode cX8_takeFigures 32 = .ok (.getfield 24, 3) := by decide +kernel
theorem dX8_takeFigures_35 : decode cX8_takeFigures 35 = .ok (.aload_n 0, 1) := by decide +kernel
theorem dX8_takeFigures_36 : decode cX8_takeFigures 36 = .ok (.getfield 40, 3) := by decide +kernel
theorem dX8_takeFigures_39 : decode cX8_takeFigures 39 = .ok (.isub, 1) := by decide +kernel
theorem dX8_takeFigures_40 : decode cX8_takeFigures 40 = .ok (.iconst 2, 1) := by decide +kernel
theorem dX8_takeFigures_41 : decode cX8_takeFigures 41 = .ok (.if_icmp .ge 27, 3) := by decide +kernel
theorem dX8_takeFigures_44 : decode cX8_takeFigures 44 = .ok (.aload_n 0, 1) := by decide +kernel
theorem dX8_takeFigures_45 : decode cX8_takeFigures 45 = .ok (.bipush 10, 2) := by decide +kernel
theorem dX8_takeFigures_47 : decode cX8_takeFigures 47 = .ok (.aload_n 0, 1) := by decide +kernel
theorem dX8_takeFigures_48 : decode cX8_takeFigures 48 = .ok (.getfield 61, 3) := by decide +kernel
theorem dX8_takeFigures_51 : decode cX8_takeFigures 51 = .ok (.imul, 1) := by decide +kernel
theorem dX8_takeFigures_52 : decode cX8_takeFigures 52 = .ok (.aload_n 0, 1) := by decide +kernel
theorem dX8_takeFigures_53 : decode cX8_takeFigures 53 = .ok (.getfield 9, 3) := by decide +kernel
theorem dX8_takeFigures_56 : decode cX8_takeFigures 56 = .ok (.aload_n 0, 1) := by decide +kernel
theorem dX8_takeFigures_57 : decode cX8_takeFigures 57 = .ok (.getfield 24, 3) := by decide +kernel
theorem dX8_takeFigures_60 : decode cX8_takeFigures 60 = .ok (.iaload, 1) := by decide +kernel
theorem dX8_takeFigures_61 : decode cX8_takeFigures 61 = .ok (.iadd, 1) := by decide +kernel
theorem dX8_takeFigures_62 : decode cX8_takeFigures 62 = .ok (.bipush 48, 2) := by decide +kernel
theorem dX8_takeFigures_64 : decode cX8_takeFigures 64 = .ok (.isub, 1) := by decide +kernel
theorem dX8_takeFigures_65 : decode cX8_takeFigures 65 = .ok (.putfield 61, 3) := by decide +kernel
theorem dX8_takeFigures_68 : decode cX8_takeFigures 68 = .ok (.aload_n 0, 1) := by decide +kernel
theorem dX8_takeFigures_69 : decode cX8_takeFigures 69 = .ok (.dup, 1) := by decide +kernel
theorem dX8_takeFigures_70 : decode cX8_takeFigures 70 = .ok (.getfield 24, 3) := by decide +kernel
theorem dX8_takeFigures_73 : decode cX8_takeFigures 73 = .ok (.iconst 1, 1) := by decide +kernel
theorem dX8_takeFigures_74 : decode cX8_takeFigures 74 = .ok (.iadd, 1) := by decide +kernel
theorem dX8_takeFigures_75 : decode cX8_takeFigures 75 = .ok (.putfield 24, 3) := by decide +kernel
theorem dX8_takeFigures_78 : decode cX8_takeFigures 78 = .ok (.goto (-73), 3) := by decide +kernel
theorem dX8_takeFigures_81 : decode cX8_takeFigures 81 = .ok (.aload_n 0, 1) := by decide +kernel
theorem dX8_takeFigures_82 : decode cX8_takeFigures 82 = .ok (.aload_n 0, 1) := by decide +kernel
theorem dX8_takeFigures_83 : decode cX8_takeFigures 83 = .ok (.getfield 24, 3) := by decide +kernel
theorem dX8_takeFigures_86 : decode cX8_takeFigures 86 = .ok (.aload_n 0, 1) := by decide +kernel
theorem dX8_takeFigures_87 : decode cX8_takeFigures 87 = .ok (.getfield 40, 3) := by decide +kernel
theorem dX8_takeFigures_90 : decode cX8_takeFigures 90 = .ok (.isub, 1) := by decide +kernel
theorem dX8_takeFigures_91 : decode cX8_takeFigures 91 = .ok (.iconst 2, 1) := by decide +kernel
theorem dX8_takeFigures_92 : decode cX8_takeFigures 92 = .ok (.if_icmp .gt 7, 3) := by decide +kernel
theorem dX8_takeFigures_95 : decode cX8_takeFigures 95 = .ok (.iconst 2, 1) := by decide +kernel
theorem dX8_takeFigures_96 : decode cX8_takeFigures 96 = .ok (.goto 4, 3) := by decide +kernel
theorem dX8_takeFigures_99 : decode cX8_takeFigures 99 = .ok (.iconst 4, 1) := by decide +kernel
theorem dX8_takeFigures_100 : decode cX8_takeFigures 100 = .ok (.putfield 43, 3) := by decide +kernel
theorem dX8_takeFigures_103 : decode cX8_takeFigures 103 = .ok (.return_, 1) := by decide +kernel
theorem dX8_isLetter_0 : decode cX8_isLetter 0 = .ok (.iload_n 0, 1) := by decide +kernel
theorem dX8_isLetter_1 : decode cX8_isLetter 1 = .ok (.bipush 97, 2) := by decide +kernel
theorem dX8_isLetter_3 : decode cX8_isLetter 3 = .ok (.if_icmp .lt 13, 3) := by decide +kernel
theorem dX8_isLetter_6 : decode cX8_isLetter 6 = .ok (.iload_n 0, 1) := by decide +kernel
theorem dX8_isLetter_7 : decode cX8_isLetter 7 = .ok (.bipush 122, 2) := by decide +kernel
theorem dX8_isLetter_9 : decode cX8_isLetter 9 = .ok (.if_icmp .gt 7, 3) := by decide +kernel
theorem dX8_isLetter_12 : decode cX8_isLetter 12 = .ok (.iconst 1, 1) := by decide +kernel
theorem dX8_isLetter_13 : decode cX8_isLetter 13 = .ok (.goto 4, 3) := by decide +kernel
theorem dX8_isLetter_16 : decode cX8_isLetter 16 = .ok (.iconst 0, 1) := by decide +kernel
theorem dX8_isLetter_17 : decode cX8_isLetter 17 = .ok (.ireturn, 1) := by decide +kernel
theorem dX8_isFigure_0 : decode cX8_isFigure 0 = .ok (.iload_n 0, 1) := by decide +kernel
theorem dX8_isFigure_1 : decode cX8_isFigure 1 = .ok (.bipush 48, 2) := by decide +kernel
theorem dX8_isFigure_3 : decode cX8_isFigure 3 = .ok (.if_icmp .lt 13, 3) := by decide +kernel
theorem dX8_isFigure_6 : decode cX8_isFigure 6 = .ok (.iload_n 0, 1) := by decide +kernel
theorem dX8_isFigure_7 : decode cX8_isFigure 7 = .ok (.bipush 57, 2) := by decide +kernel
theorem dX8_isFigure_9 : decode cX8_isFigure 9 = .ok (.if_icmp .gt 7, 3) := by decide +kernel
theorem dX8_isFigure_12 : decode cX8_isFigure 12 = .ok (.iconst 1, 1) := by decide +kernel
theorem dX8_isFigure_13 : decode cX8_isFigure 13 = .ok (.goto 4, 3) := by decide +kernel
theorem dX8_isFigure_16 : decode cX8_isFigure 16 = .ok (.iconst 0, 1) := by decide +kernel
theorem dX8_isFigure_17 : decode cX8_isFigure 17 = .ok (.ireturn, 1) := by decide +kernel
theorem dX9_init_0 : decode cX9_init 0 = .ok (.aload_n 0, 1) := by decide +kernel
theorem dX9_init_1 : decode cX9_init 1 = .ok (.invokespecial 3, 3) := by decide +kernel
theorem dX9_init_4 : decode cX9_init 4 = .ok (.aload_n 0, 1) := by decide +kernel
theorem dX9_init_5 : decode cX9_init 5 = .ok (.bipush 24, 2) := by decide +kernel
theorem dX9_init_7 : decode cX9_init 7 = .ok (.newarray .int, 2) := by decide +kernel
theorem dX9_init_9 : decode cX9_init 9 = .ok (.putfield 9, 3) := by decide +kernel
theorem dX9_init_12 : decode cX9_init 12 = .ok (.return_, 1) := by decide +kernel
theorem dX9_add_0 : decode cX9_add 0 = .ok (.aload_n 0, 1) := by decide +kernel
theorem dX9_add_1 : decode cX9_add 1 = .ok (.getfield 15, 3) := by decide +kernel
theorem dX9_add_4 : decode cX9_add 4 = .ok (.bipush 6, 2) := by decide +kernel
theorem dX9_add_6 : decode cX9_add 6 = .ok (.if_icmp .lt 4, 3) := by decide +kernel
theorem dX9_add_9 : decode cX9_add 9 = .ok (.return_, 1) := by decide +kernel
theorem dX9_add_10 : decode cX9_add 10 = .ok (.aload_n 0, 1) := by decide +kernel
theorem dX9_add_11 : decode cX9_add 11 = .ok (.getfield 15, 3) := by decide +kernel
theorem dX9_add_14 : decode cX9_add 14 = .ok (.iconst 4, 1) := by decide +kernel
theorem dX9_add_15 : decode cX9_add 15 = .ok (.imul, 1) := by decide +kernel
theorem dX9_add_16 : decode cX9_add 16 = .ok (.istore 5, 2) := by decide +kernel
theorem dX9_add_18 : decode cX9_add 18 = .ok (.aload_n 0, 1) := by decide +kernel
theorem dX9_add_19 : decode cX9_add 19 = .ok (.getfield 9, 3) := by decide +kernel
theorem dX9_add_22 : decode cX9_add 22 = .ok (.iload 5, 2) := by decide +kernel
theorem dX9_add_24 : decode cX9_add 24 = .ok (.iload_n 1, 1) := by decide +kernel
theorem dX9_add_25 : decode cX9_add 25 = .ok (.iastore, 1) := by decide +kernel
theorem dX9_add_26 : decode cX9_add 26 = .ok (.aload_n 0, 1) := by decide +kernel
theorem dX9_add_27 : decode cX9_add 27 = .ok (.getfield 9, 3) := by decide +kernel
theorem dX9_add_30 : decode cX9_add 30 = .ok (.iload 5, 2) := by decide +kernel
theorem dX9_add_32 : decode cX9_add 32 = .ok (.iconst 1, 1) := by decide +kernel
theorem dX9_add_33 : decode cX9_add 33 = .ok (.iadd, 1) := by decide +kernel
theorem dX9_add_34 : decode cX9_add 34 = .ok (.iload_n 2, 1) := by decide +kernel
theorem dX9_add_35 : decode cX9_add 35 = .ok (.iastore, 1) := by decide +kernel
theorem dX9_add_36 : decode cX9_add 36 = .ok (.aload_n 0, 1) := by decide +kernel
theorem dX9_add_37 : decode cX9_add 37 = .ok (.getfield 9, 3) := by decide +kernel
theorem dX9_add_40 : decode cX9_add 40 = .ok (.iload 5, 2) := by decide +kernel
theorem dX9_add_42 : decode cX9_add 42 = .ok (.iconst 2, 1) := by decide +kernel
theorem dX9_add_43 : decode cX9_add 43 = .ok (.iadd, 1) := by decide +kernel
theorem dX9_add_44 : decode cX9_add 44 = .ok (.iload_n 3, 1) := by decide +kernel
theorem dX9_add_45 : decode cX9_add 45 = .ok (.iastore, 1) := by decide +kernel
theorem dX9_add_46 : decode cX9_add 46 = .ok (.aload_n 0, 1) := by decide +kernel
theorem dX9_add_47 : decode cX9_add 47 = .ok (.getfield 9, 3) := by decide +kernel
theorem dX9_add_50 : decode cX9_add 50 = .ok (.iload 5, 2) := by decide +kernel
theorem dX9_add_52 : decode cX9_add 52 = .ok (.iconst 3, 1) := by decide +kernel
theorem dX9_add_53 : decode cX9_add 53 = .ok (.iadd, 1) := by decide +kernel
theorem dX9_add_54 : decode cX9_add 54 = .ok (.iload 4, 2) := by decide +kernel
theorem dX9_add_56 : decode cX9_add 56 = .ok (.iastore, 1) := by decide +kernel
theorem dX9_add_57 : decode cX9_add 57 = .ok (.aload_n 0, 1) := by decide +kernel
theorem dX9_add_58 : decode cX9_add 58 = .ok (.dup, 1) := by decide +kernel
theorem dX9_add_59 : decode cX9_add 59 = .ok (.getfield 15, 3) := by decide +kernel
theorem dX9_add_62 : decode cX9_add 62 = .ok (.iconst 1, 1) := by decide +kernel
theorem dX9_add_63 : decode cX9_add 63 = .ok (.iadd, 1) := by decide +kernel
theorem dX9_add_64 : decode cX9_add 64 = .ok (.putfield 15, 3) := by decide +kernel
theorem dX9_add_67 : decode cX9_add 67 = .ok (.return_, 1) := by decide +kernel
theorem dX9_cell_0 : decode cX9_cell 0 = .ok (.iload_n 1, 1) := by decide +kernel
theorem dX9_cell_1 : decode cX9_cell 1 = .ok (.ifCond .lt 20, 3) := by decide +kernel
theorem dX9_cell_4 : decode cX9_cell 4 = .ok (.iload_n 1, 1) := by decide +kernel
theorem dX9_cell_5 : decode cX9_cell 5 = .ok (.aload_n 0, 1) := by decide +kernel
theorem dX9_cell_6 : decode cX9_cell 6 = .ok (.getfield 15, 3) := by decide +kernel
theorem dX9_cell_9 : decode cX9_cell 9 = .ok (.if_icmp .ge 12, 3) := by decide +kernel
theorem dX9_cell_12 : decode cX9_cell 12 = .ok (.iload_n 2, 1) := by decide +kernel
theorem dX9_cell_13 : decode cX9_cell 13 = .ok (.ifCond .lt 8, 3) := by decide +kernel
theorem dX9_cell_16 : decode cX9_cell 16 = .ok (.iload_n 2, 1) := by decide +kernel
theorem dX9_cell_17 : decode cX9_cell 17 = .ok (.iconst 4, 1) := by decide +kernel
theorem dX9_cell_18 : decode cX9_cell 18 = .ok (.if_icmp .lt 5, 3) := by decide +kernel
theorem dX9_cell_21 : decode cX9_cell 21 = .ok (.iconst (-1), 1) := by decide +kernel
theorem dX9_cell_22 : decode cX9_cell 22 = .ok (.ireturn, 1) := by decide +kernel
theorem dX9_cell_23 : decode cX9_cell 23 = .ok (.aload_n 0, 1) := by decide +kernel
theorem dX9_cell_24 : decode cX9_cell 24 = .ok (.getfield 9, 3) := by decide +kernel
theorem dX9_cell_27 : decode cX9_cell 27 = .ok (.iload_n 1, 1) := by decide +kernel
theorem dX9_cell_28 : decode cX9_cell 28 = .ok (.iconst 4, 1) := by decide +kernel
theorem dX9_cell_29 : decode cX9_cell 29 = .ok (.imul, 1) := by decide +kernel
theorem dX9_cell_30 : decode cX9_cell 30 = .ok (.iload_n 2, 1) := by decide +kernel
theorem dX9_cell_31 : decode cX9_cell 31 = .ok (.iadd, 1) := by decide +kernel
theorem dX9_cell_32 : decode cX9_cell 32 = .ok (.iaload, 1) := by decide +kernel
theorem dX9_cell_33 : decode cX9_cell 33 = .ok (.ireturn, 1) := by decide +kernel
theorem dX9_takeRows_0 : decode cX9_takeRows 0 = .ok (.aload_n 1, 1) := by decide +kernel
theorem dX9_takeRows_1 : decode cX9_takeRows 1 = .ok (.getfield 9, 3) := by decide +kernel
theorem dX9_takeRows_4 : decode cX9_takeRows 4 = .ok (.iconst 0, 1) := by decide +kernel
theorem dX9_takeRows_5 : decode cX9_takeRows 5 = .ok (.aload_n 0, 1) := by decide +kernel
theorem dX9_takeRows_6 : decode cX9_takeRows 6 = .ok (.getfield 9, 3) := by decide +kernel
theorem dX9_takeRows_9 : decode cX9_takeRows 9 = .ok (.iconst 0, 1) := by decide +kernel
theorem dX9_takeRows_10 : decode cX9_takeRows 10 = .ok (.aload_n 0, 1) := by decide +kernel
theorem dX9_takeRows_11 : decode cX9_takeRows 11 = .ok (.getfield 9, 3) := by decide +kernel
theorem dX9_takeRows_14 : decode cX9_takeRows 14 = .ok (.arraylength, 1) := by decide +kernel
theorem dX9_takeRows_15 : decode cX9_takeRows 15 = .ok (.invokestatic 19, 3) := by decide +kernel
theorem dX9_takeRows_18 : decode cX9_takeRows 18 = .ok (.aload_n 0, 1) := by decide +kernel
theorem dX9_takeRows_19 : decode cX9_takeRows 19 = .ok (.aload_n 1, 1) := by decide +kernel
theorem dX9_takeRows_20 : decode cX9_takeRows 20 = .ok (.getfield 15, 3) := by decide +kernel
theorem dX9_takeRows_23 : decode cX9_takeRows 23 = .ok (.putfield 15, 3) := by decide +kernel
theorem dX9_takeRows_26 : decode cX9_takeRows 26 = .ok (.return_, 1) := by decide +kernel
theorem dX9_mixedInto_0 : decode cX9_mixedInto 0 = .ok (.iconst 0, 1) := by decide +kernel
theorem dX9_mixedInto_1 : decode cX9_mixedInto 1 = .ok (.istore_n 3, 1) := by decide +kernel
theorem dX9_mixedInto_2 : decode cX9_mixedInto 2 = .ok (.iload_n 3, 1) := by decide +kernel
theorem dX9_mixedInto_3 : decode cX9_mixedInto 3 = .ok (.aload_n 0, 1) := by decide +kernel
theorem dX9_mixedInto_4 : decode cX9_mixedInto 4 = .ok (.getfield 15, 3) := by decide +kernel
theorem dX9_mixedInto_7 : decode cX9_mixedInto 7 = .ok (.iconst 4, 1) := by decide +kernel
theorem dX9_mixedInto_8 : decode cX9_mixedInto 8 = .ok (.imul, 1) := by decide +kernel
theorem dX9_mixedInto_9 : decode cX9_mixedInto 9 = .ok (.if_icmp .ge 23, 3) := by decide +kernel
theorem dX9_mixedInto_12 : decode cX9_mixedInto 12 = .ok (.ldc2_w 25, 3) := by decide +kernel
theorem dX9_mixedInto_15 : decode cX9_mixedInto 15 = .ok (.lload_n 1, 1) := by decide +kernel
theorem dX9_mixedInto_16 : decode cX9_mixedInto 16 = .ok (.lmul, 1) := by decide +kernel
theorem dX9_mixedInto_17 : decode cX9_mixedInto 17 = .ok (.aload_n 0, 1) := by decide +kernel
theorem dX9_mixedInto_18 : decode cX9_mixedInto 18 = .ok (.getfield 9, 3) := by decide +kernel
theorem dX9_mixedInto_21 : decode cX9_mixedInto 21 = .ok (.iload_n 3, 1) := by decide +kernel
theorem dX9_mixedInto_22 : decode cX9_mixedInto 22 = .ok (.iaload, 1) := by decide +kernel
theorem dX9_mixedInto_23 : decode cX9_mixedInto 23 = .ok (.i2l, 1) := by decide +kernel
theorem dX9_mixedInto_24 : decode cX9_mixedInto 24 = .ok (.ladd, 1) := by decide +kernel
theorem dX9_mixedInto_25 : decode cX9_mixedInto 25 = .ok (.lstore_n 1, 1) := by decide +kernel
theorem dX9_mixedInto_26 : decode cX9_mixedInto 26 = .ok (.iinc 3 1, 3) := by decide +kernel
theorem dX9_mixedInto_29 : decode cX9_mixedInto 29 = .ok (.goto (-27), 3) := by decide +kernel
theorem dX9_mixedInto_32 : decode cX9_mixedInto 32 = .ok (.lload_n 1, 1) := by decide +kernel
theorem dX9_mixedInto_33 : decode cX9_mixedInto 33 = .ok (.lreturn, 1) := by decide +kernel
theorem dX10_init_0 : decode cX10_init 0 = .ok (.aload_n 0, 1) := by decide +kernel
theorem dX10_init_1 : decode cX10_init 1 = .ok (.invokespecial 3, 3) := by decide +kernel
theorem dX10_init_4 : decode cX10_init 4 = .ok (.aload_n 0, 1) := by decide +kernel
theorem dX10_init_5 : decode cX10_init 5 = .ok (.bipush 8, 2) := by decide +kernel
theorem dX10_init_7 : decode cX10_init 7 = .ok (.newarray .int, 2) := by decide +kernel
theorem dX10_init_9 : decode cX10_init 9 = .ok (.putfield 9, 3) := by decide +kernel
theorem dX10_init_12 : decode cX10_init 12 = .ok (.aload_n 0, 1) := by decide +kernel
theorem dX10_init_13 : decode cX10_init 13 = .ok (.bipush 8, 2) := by decide +kernel
theorem dX10_init_15 : decode cX10_init 15 = .ok (.newarray .int, 2) := by decide +kernel
theorem dX10_init_17 : decode cX10_init 17 = .ok (.putfield 15, 3) := by decide +kernel
theorem dX10_init_20 : decode cX10_init 20 = .ok (.aload_n 0, 1) := by decide +kernel
theorem dX10_init_21 : decode cX10_init 21 = .ok (.bipush 6, 2) := by decide +kernel
theorem dX10_init_23 : decode cX10_init 23 = .ok (.newarray .int, 2) := by decide +kernel
theorem dX10_init_25 : decode cX10_init 25 = .ok (.putfield 18, 3) := by decide +kernel
theorem dX10_init_28 : decode cX10_init 28 = .ok (.aload_n 0, 1) := by decide +kernel
theorem dX10_init_29 : decode cX10_init 29 = .ok (.bipush 18, 2) := by decide +kernel
theorem dX10_init_31 : decode cX10_init 31 = .ok (.newarray .int, 2) := by decide +kernel
theorem dX10_init_33 : decode cX10_init 33 = .ok (.putfield 21, 3) := by decide +kernel
theorem dX10_init_36 : decode cX10_init 36 = .ok (.aload_n 0, 1) := by decide +kernel
theorem dX10_init_37 : decode cX10_init 37 = .ok (.bipush 6, 2) := by decide +kernel
theorem dX10_init_39 : decode cX10_init 39 = .ok (.newarray .int, 2) := by decide +kernel
theorem dX10_init_41 : decode cX10_init 41 = .ok (.putfield 24, 3) := by decide +kernel
theorem dX10_init_44 : decode cX10_init 44 = .ok (.aload_n 0, 1) := by decide +kernel
theorem dX10_init_45 : decode cX10_init 45 = .ok (.bipush 6, 2) := by decide +kernel
theorem dX10_init_47 : decode cX10_init 47 = .ok (.newarray .int, 2) := by decide +kernel
theorem dX10_init_49 : decode cX10_init 49 = .ok (.putfield 27, 3) := by decide +kernel
theorem dX10_init_52 : decode cX10_init 52 = .ok (.aload_n 0, 1) := by decide +kernel
theorem dX10_init_53 : decode cX10_init 53 = .ok (.bipush 8, 2) := by decide +kernel
theorem dX10_init_55 : decode cX10_init 55 = .ok (.newarray .int, 2) := by decide +kernel
theorem dX10_init_57 : decode cX10_init 57 = .ok (.putfield 30, 3) := by decide +kernel
theorem dX10_init_60 : decode cX10_init 60 = .ok (.aload_n 0, 1) := by decide +kernel
theorem dX10_init_61 : decode cX10_init 61 = .ok (.bipush 8, 2) := by decide +kernel
theorem dX10_init_63 : decode cX10_init 63 = .ok (.newarray .int, 2) := by decide +kernel
theorem dX10_init_65 : decode cX10_init 65 = .ok (.putfield 33, 3) := by decide +kernel
theorem dX10_init_68 : decode cX10_init 68 = .ok (.aload_n 0, 1) := by decide +kernel
theorem dX10_init_69 : decode cX10_init 69 = .ok (.new 36, 3) := by decide +kernel
theorem dX10_init_72 : decode cX10_init 72 = .ok (.dup, 1) := by decide +kernel
theorem dX10_init_73 : decode cX10_init 73 = .ok (.invokespecial 38, 3) := by decide +kernel
theorem dX10_init_76 : decode cX10_init 76 = .ok (.putfield 39, 3) := by decide +kernel
theorem dX10_init_79 : decode cX10_init 79 = .ok (.aload_n 0, 1) := by decide +kernel
theorem dX10_init_80 : decode cX10_init 80 = .ok (.new 36, 3) := by decide +kernel
theorem dX10_init_83 : decode cX10_init 83 = .ok (.dup, 1) := by decide +kernel
theorem dX10_init_84 : decode cX10_init 84 = .ok (.invokespecial 38, 3) := by decide +kernel
theorem dX10_init_87 : decode cX10_init 87 = .ok (.putfield 43, 3) := by decide +kernel
theorem dX10_init_90 : decode cX10_init 90 = .ok (.aload_n 0, 1) := by decide +kernel
theorem dX10_init_91 : decode cX10_init 91 = .ok (.invokevirtual 46, 3) := by decide +kernel
theorem dX10_init_94 : decode cX10_init 94 = .ok (.return_, 1) := by decide +kernel
theorem dX10_empty_0 : decode cX10_empty 0 = .ok (.aload_n 0, 1) := by decide +kernel
theorem dX10_empty_1 : decode cX10_empty 1 = .ok (.getfield 9, 3) := by decide +kernel
theorem dX10_empty_4 : decode cX10_empty 4 = .ok (.iconst (-1), 1) := by decide +kernel
theorem dX10_empty_5 : decode cX10_empty 5 = .ok (.invokestatic 49, 3) := by decide +kernel
theorem dX10_empty_8 : decode cX10_empty 8 = .ok (.aload_n 0, 1) := by decide +kernel
theorem dX10_empty_9 : decode cX10_empty 9 = .ok (.getfield 15, 3) := by decide +kernel
theorem dX10_empty_12 : decode cX10_empty 12 = .ok (.iconst 0, 1) := by decide +kernel
theorem dX10_empty_13 : decode cX10_empty 13 = .ok (.invokestatic 49, 3) := by decide +kernel
theorem dX10_empty_16 : decode cX10_empty 16 = .ok (.aload_n 0, 1) := by decide +kernel
theorem dX10_empty_17 : decode cX10_empty 17 = .ok (.iconst 0, 1) := by decide +kernel
theorem dX10_empty_18 : decode cX10_empty 18 = .ok (.putfield 55, 3) := by decide +kernel
theorem dX10_empty_21 : decode cX10_empty 21 = .ok (.aload_n 0, 1) := by decide +kernel
theorem dX10_empty_22 : decode cX10_empty 22 = .ok (.iconst 0, 1) := by decide +kernel
theorem dX10_empty_23 : decode cX10_empty 23 = .ok (.putfield 59, 3) := by decide +kernel
theorem dX10_empty_26 : decode cX10_empty 26 = .ok (.aload_n 0, 1) := by decide +kernel
theorem dX10_empty_27 : decode cX10_empty 27 = .ok (.iconst 0, 1) := by decide +kernel
theorem dX10_empty_28 : decode cX10_empty 28 = .ok (.putfield 62, 3) := by decide +kernel
theorem dX10_empty_31 : decode cX10_empty 31 = .ok (.aload_n 0, 1) := by decide +kernel
theorem dX10_empty_32 : decode cX10_empty 32 = .ok (.getfield 39, 3) := by decide +kernel
theorem dX10_empty_35 : decode cX10_empty 35 = .ok (.iconst 0, 1) := by decide +kernel
theorem dX10_empty_36 : decode cX10_empty 36 = .ok (.putfield 65, 3) := by decide +kernel
theorem dX10_empty_39 : decode cX10_empty 39 = .ok (.aload_n 0, 1) := by decide +kernel
theorem dX10_empty_40 : decode cX10_empty 40 = .ok (.getfield 43, 3) := by decide +kernel
theorem dX10_empty_43 : decode cX10_empty 43 = .ok (.iconst 0, 1) := by decide +kernel
theorem dX10_empty_44 : decode cX10_empty 44 = .ok (.putfield 65, 3) := by decide +kernel
theorem dX10_empty_47 : decode cX10_empty 47 = .ok (.return_, 1) := by decide +kernel
theorem dX10_setPrize_0 : decode cX10_setPrize 0 = .ok (.aload_n 0, 1) := by decide +kernel
theorem dX10_setPrize_1 : decode cX10_setPrize 1 = .ok (.getfield 9, 3) := by decide +kernel
theorem dX10_setPrize_4 : decode cX10_setPrize 4 = .ok (.iload_n 1, 1) := by decide +kernel
theorem dX10_setPrize_5 : decode cX10_setPrize 5 = .ok (.iload_n 2, 1) := by decide +kernel
theorem dX10_setPrize_6 : decode cX10_setPrize 6 = .ok (.iastore, 1) := by decide +kernel
theorem dX10_setPrize_7 : decode cX10_setPrize 7 = .ok (.aload_n 0, 1) := by decide +kernel
theorem dX10_setPrize_8 : decode cX10_setPrize 8 = .ok (.getfield 15, 3) := by decide +kernel
theorem dX10_setPrize_11 : decode cX10_setPrize 11 = .ok (.iload_n 1, 1) := by decide +kernel
theorem dX10_setPrize_12 : decode cX10_setPrize 12 = .ok (.iload_n 3, 1) := by decide +kernel
theorem dX10_setPrize_13 : decode cX10_setPrize 13 = .ok (.iastore, 1) := by decide +kernel
theorem dX10_setPrize_14 : decode cX10_setPrize 14 = .ok (.return_, 1) := by decide +kernel
theorem dX10_addOne_0 : decode cX10_addOne 0 = .ok (.aload_n 0, 1) := by decide +kernel
theorem dX10_addOne_1 : decode cX10_addOne 1 = .ok (.getfield 55, 3) := by decide +kernel
theorem dX10_addOne_4 : decode cX10_addOne 4 = .ok (.bipush 6, 2) := by decide +kernel
theorem dX10_addOne_6 : decode cX10_addOne 6 = .ok (.if_icmp .lt 4, 3) := by decide +kernel
theorem dX10_addOne_9 : decode cX10_addOne 9 = .ok (.return_, 1) := by decide +kernel
theorem dX10_addOne_10 : decode cX10_addOne 10 = .ok (.aload_n 0, 1) := by decide +kernel
theorem dX10_addOne_11 : decode cX10_addOne 11 = .ok (.getfield 18, 3) := by decide +kernel
theorem dX10_addOne_14 : decode cX10_addOne 14 = .ok (.aload_n 0, 1) := by decide +kernel
theorem dX10_addOne_15 : decode cX10_addOne 15 = .ok (.getfield 55, 3) := by decide +kernel
theorem dX10_addOne_18 : decode cX10_addOne 18 = .ok (.iload_n 1, 1) := by decide +kernel
theorem dX10_addOne_19 : decode cX10_addOne 19 = .ok (.iastore, 1) := by decide +kernel
theorem dX10_addOne_20 : decode cX10_addOne 20 = .ok (.aload_n 0, 1) := by decide +kernel
theorem dX10_addOne_21 : decode cX10_addOne 21 = .ok (.getfield 21, 3) := by decide +kernel
theorem dX10_addOne_24 : decode cX10_addOne 24 = .ok (.aload_n 0, 1) := by decide +kernel
theorem dX10_addOne_25 : decode cX10_addOne 25 = .ok (.getfield 55, 3) := by decide +kernel
theorem dX10_addOne_28 : decode cX10_addOne 28 = .ok (.iconst 3, 1) := by decide +kernel
theorem dX10_addOne_29 : decode cX10_addOne 29 = .ok (.imul, 1) := by decide +kernel
theorem dX10_addOne_30 : decode cX10_addOne 30 = .ok (.iload_n 2, 1) := by decide +kernel
theorem dX10_addOne_31 : decode cX10_addOne 31 = .ok (.iastore, 1) := by decide +kernel
theorem dX10_addOne_32 : decode cX10_addOne 32 = .ok (.aload_n 0, 1) := by decide +kernel
theorem dX10_addOne_33 : decode cX10_addOne 33 = .ok (.getfield 21, 3) := by decide +kernel
theorem dX10_addOne_36 : decode cX10_addOne 36 = .ok (.aload_n 0, 1) := by decide +kernel
theorem dX10_addOne_37 : decode cX10_addOne 37 = .ok (.getfield 55, 3) := by decide +kernel
theorem dX10_addOne_40 : decode cX10_addOne 40 = .ok (.iconst 3, 1) := by decide +kernel
theorem dX10_addOne_41 : decode cX10_addOne 41 = .ok (.imul, 1) := by decide +kernel
theorem dX10_addOne_42 : decode cX10_addOne 42 = .ok (.iconst 1, 1) := by decide +kernel
theorem dX10_addOne_43 : decode cX10_addOne 43 = .ok (.iadd, 1) := by decide +kernel
theorem dX10_addOne_44 : decode cX10_addOne 44 = .ok (.iload_n 3, 1) := by decide +kernel
theorem dX10_addOne_45 : decode cX10_addOne 45 = .ok (.iastore, 1) := by decide +kernel
theorem dX10_addOne_46 : decode cX10_addOne 46 = .ok (.aload_n 0, 1) := by decide +kernel
theorem dX10_addOne_47 : decode cX10_addOne 47 = .ok (.getfield 21, 3) := by decide +kernel
theorem dX10_addOne_50 : decode cX10_addOne 50 = .ok (.aload_n 0, 1) := by decide +kernel
theorem dX10_addOne_51 : decode cX10_addOne 51 = .ok (.getfield 55, 3) := by decide +kernel
theorem dX10_addOne_54 : decode cX10_addOne 54 = .ok (.iconst 3, 1) := by decide +kernel
theorem dX10_addOne_55 : decode cX10_addOne 55 = .ok (.imul, 1) := by decide +kernel
theorem dX10_addOne_56 : decode cX10_addOne 56 = .ok (.iconst 2, 1) := by decide +kernel
theorem dX10_addOne_57 : decode cX10_addOne 57 = .ok (.iadd, 1) := by decide +kernel
theorem dX10_addOne_58 : decode cX10_addOne 58 = .ok (.iload 4, 2) := by decide +kernel
theorem dX10_addOne_60 : decode cX10_addOne 60 = .ok (.iastore, 1) := by decide +kernel
theorem dX10_addOne_61 : decode cX10_addOne 61 = .ok (.aload_n 0, 1) := by decide +kernel
theorem dX10_addOne_62 : decode cX10_addOne 62 = .ok (.getfield 24, 3) := by decide +kernel
theorem dX10_addOne_65 : decode cX10_addOne 65 = .ok (.aload_n 0, 1) := by decide +kernel
theorem dX10_addOne_66 : decode cX10_addOne 66 = .ok (.getfield 55, 3) := by decide +kernel
theorem dX10_addOne_69 : decode cX10_addOne 69 = .ok (.iconst 0, 1) := by decide +kernel
theorem dX10_addOne_70 : decode cX10_addOne 70 = .ok (.iastore, 1) := by decide +kernel
theorem dX10_addOne_71 : decode cX10_addOne 71 = .ok (.aload_n 0, 1) := by decide +kernel
theorem dX10_addOne_72 : decode cX10_addOne 72 = .ok (.getfield 27, 3) := by decide +kernel
theorem dX10_addOne_75 : decode cX10_addOne 75 = .ok (.aload_n 0, 1) := by decide +kernel
theorem dX10_addOne_76 : decode cX10_addOne 76 = .ok (.getfield 55, 3) := by decide +kernel
theorem dX10_addOne_79 : decode cX10_addOne 79 = .ok (.iconst 0, 1) := by decide +kernel
theorem dX10_addOne_80 : decode cX10_addOne 80 = .ok (.iastore, 1) := by decide +kernel
theorem dX10_addOne_81 : decode cX10_addOne 81 = .ok (.aload_n 0, 1) := by decide +kernel
theorem dX10_addOne_82 : decode cX10_addOne 82 = .ok (.dup, 1) := by decide +kernel
theorem dX10_addOne_83 : decode cX10_addOne 83 = .ok (.getfield 55, 3) := by decide +kernel
theorem dX10_addOne_86 : decode cX10_addOne 86 = .ok (.iconst 1, 1) := by decide +kernel
theorem dX10_addOne_87 : decode cX10_addOne 87 = .ok (.iadd, 1) := by decide +kernel
theorem dX10_addOne_88 : decode cX10_addOne 88 = .ok (.putfield 55, 3) := by decide +kernel
theorem dX10_addOne_91 : decode cX10_addOne 91 = .ok (.return_, 1) := by decide +kernel
theorem dX10_takeCourse_0 : decode cX10_takeCourse 0 = .ok (.aload_n 1, 1) := by decide +kernel
theorem dX10_takeCourse_1 : decode cX10_takeCourse 1 = .ok (.getfield 9, 3) := by decide +kernel
theorem dX10_takeCourse_4 : decode cX10_takeCourse 4 = .ok (.iconst 0, 1) := by decide +kernel
theorem dX10_takeCourse_5 : decode cX10_takeCourse 5 = .ok (.aload_n 0, 1) := by decide +kernel
theorem dX10_takeCourse_6 : decode cX10_takeCourse 6 = .ok (.getfield 9, 3) := by decide +kernel
theorem dX10_takeCourse_9 : decode cX10_takeCourse 9 = .ok (.iconst 0, 1) := by decide +kernel
theorem dX10_takeCourse_10 : decode cX10_takeCourse 10 = .ok (.bipush 8, 2) := by decide +kernel
theorem dX10_takeCourse_12 : decode cX10_takeCourse 12 = .ok (.invokestatic 68, 3) := by decide +kernel
theorem dX10_takeCourse_15 : decode cX10_takeCourse 15 = .ok (.aload_n 1, 1) := by decide +kernel
theorem dX10_takeCourse_16 : decode cX10_takeCourse 16 = .ok (.getfield 15, 3) := by decide +kernel
theorem dX10_takeCourse_19 : decode cX10_takeCourse 19 = .ok (.iconst 0, 1) := by decide +kernel
theorem dX10_takeCourse_20 : decode cX10_takeCourse 20 = .ok (.aload_n 0, 1) := by decide +kernel
theorem dX10_takeCourse_21 : decode cX10_takeCourse 21 = .ok (.getfield 15, 3) := by decide +kernel
theorem dX10_takeCourse_24 : decode cX10_takeCourse 24 = .ok (.iconst 0, 1) := by decide +kernel
theorem dX10_takeCourse_25 : decode cX10_takeCourse 25 = .ok (.bipush 8, 2) := by decide +kernel
theorem dX10_takeCourse_27 : decode cX10_takeCourse 27 = .ok (.invokestatic 68, 3) := by decide +kernel
theorem dX10_takeCourse_30 : decode cX10_takeCourse 30 = .ok (.aload_n 1, 1) := by decide +kernel
theorem dX10_takeCourse_31 : decode cX10_takeCourse 31 = .ok (.getfield 18, 3) := by decide +kernel
theorem dX10_takeCourse_34 : decode cX10_takeCourse 34 = .ok (.iconst 0, 1) := by decide +kernel
theorem dX10_takeCourse_35 : decode cX10_takeCourse 35 = .ok (.aload_n 0, 1) := by decide +kernel
theorem dX10_takeCourse_36 : decode cX10_takeCourse 36 = .ok (.getfield 18, 3) := by decide +kernel
theorem dX10_takeCourse_39 : decode cX10_takeCourse 39 = .ok (.iconst 0, 1) := by decide +kernel
theorem dX10_takeCourse_40 : decode cX10_takeCourse 40 = .ok (.bipush 6, 2) := by decide +kernel
theorem dX10_takeCourse_42 : decode cX10_takeCourse 42 = .ok (.invokestatic 68, 3) := by decide +kernel
theorem dX10_takeCourse_45 : decode cX10_takeCourse 45 = .ok (.aload_n 1, 1) := by decide +kernel
theorem dX10_takeCourse_46 : decode cX10_takeCourse 46 = .ok (.getfield 21, 3) := by decide +kernel
theorem dX10_takeCourse_49 : decode cX10_takeCourse 49 = .ok (.iconst 0, 1) := by decide +kernel
theorem dX10_takeCourse_50 : decode cX10_takeCourse 50 = .ok (.aload_n 0, 1) := by decide +kernel
theorem dX10_takeCourse_51 : decode cX10_takeCourse 51 = .ok (.getfield 21, 3) := by decide +kernel
theorem dX10_takeCourse_54 : decode cX10_takeCourse 54 = .ok (.iconst 0, 1) := by decide +kernel
theorem dX10_takeCourse_55 : decode cX10_takeCourse 55 = .ok (.bipush 18, 2) := by decide +kernel
theorem dX10_takeCourse_57 : decode cX10_takeCourse 57 = .ok (.invokestatic 68, 3) := by decide +kernel
theorem dX10_takeCourse_60 : decode cX10_takeCourse 60 = .ok (.aload_n 1, 1) := by decide +kernel
theorem dX10_takeCourse_61 : decode cX10_takeCourse 61 = .ok (.getfield 24, 3) := by decide +kernel
theorem dX10_takeCourse_64 : decode cX10_takeCourse 64 = .ok (.iconst 0, 1) := by decide +kernel
theorem dX10_takeCourse_65 : decode cX10_takeCourse 65 = .ok (.aload_n 0, 1) := by decide +kernel
theorem dX10_takeCourse_66 : decode cX10_takeCourse 66 = .ok (.getfield 24, 3) := by decide +kernel
theorem dX10_takeCourse_69 : decode cX10_takeCourse 69 = .ok (.iconst 0, 1) := by decide +kernel
theorem dX10_takeCourse_70 : decode cX10_takeCourse 70 = .ok (.bipush 6, 2) := by decide +kernel
theorem dX10_takeCourse_72 : decode cX10_takeCourse 72 = .ok (.invokestatic 68, 3) := by decide +kernel
theorem dX10_takeCourse_75 : decode cX10_takeCourse 75 = .ok (.aload_n 1, 1) := by decide +kernel
theorem dX10_takeCourse_76 : decode cX10_takeCourse 76 = .ok (.getfield 27, 3) := by decide +kernel
theorem dX10_takeCourse_79 : decode cX10_takeCourse 79 = .ok (.iconst 0, 1) := by decide +kernel
theorem dX10_takeCourse_80 : decode cX10_takeCourse 80 = .ok (.aload_n 0, 1) := by decide +kernel
theorem dX10_takeCourse_81 : decode cX10_takeCourse 81 = .ok (.getfield 27, 3) := by decide +kernel
theorem dX10_takeCourse_84 : decode cX10_takeCourse 84 = .ok (.iconst 0, 1) := by decide +kernel
theorem dX10_takeCourse_85 : decode cX10_takeCourse 85 = .ok (.bipush 6, 2) := by decide +kernel
theorem dX10_takeCourse_87 : decode cX10_takeCourse 87 = .ok (.invokestatic 68, 3) := by decide +kernel
theorem dX10_takeCourse_90 : decode cX10_takeCourse 90 = .ok (.aload_n 0, 1) := by decide +kernel
theorem dX10_takeCourse_91 : decode cX10_takeCourse 91 = .ok (.aload_n 1, 1) := by decide +kernel
theorem dX10_takeCourse_92 : decode cX10_takeCourse 92 = .ok (.getfield 55, 3) := by decide +kernel
theorem dX10_takeCourse_95 : decode cX10_takeCourse 95 = .ok (.putfield 55, 3) := by decide +kernel
theorem dX10_takeCourse_98 : decode cX10_takeCourse 98 = .ok (.aload_n 0, 1) := by decide +kernel
theorem dX10_takeCourse_99 : decode cX10_takeCourse 99 = .ok (.aload_n 1, 1) := by decide +kernel
theorem dX10_takeCourse_100 : decode cX10_takeCourse 100 = .ok (.getfield 59, 3) := by decide +kernel
theorem dX10_takeCourse_103 : decode cX10_takeCourse 103 = .ok (.putfield 59, 3) := by decide +kernel
