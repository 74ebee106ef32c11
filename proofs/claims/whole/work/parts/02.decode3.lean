theorem dX12_goodOf_15 : decode cX12_goodOf 15 = .ok (.iconst 3, 1) := by decide +kernel
theorem dX12_goodOf_16 : decode cX12_goodOf 16 = .ok (.iload_n 1, 1) := by decide +kernel
theorem dX12_goodOf_17 : decode cX12_goodOf 17 = .ok (.imul, 1) := by decide +kernel
theorem dX12_goodOf_18 : decode cX12_goodOf 18 = .ok (.iadd, 1) := by decide +kernel
theorem dX12_goodOf_19 : decode cX12_goodOf 19 = .ok (.iload_n 2, 1) := by decide +kernel
theorem dX12_goodOf_20 : decode cX12_goodOf 20 = .ok (.iadd, 1) := by decide +kernel
theorem dX12_goodOf_21 : decode cX12_goodOf 21 = .ok (.iaload, 1) := by decide +kernel
theorem dX12_goodOf_22 : decode cX12_goodOf 22 = .ok (.iload_n 3, 1) := by decide +kernel
theorem dX12_goodOf_23 : decode cX12_goodOf 23 = .ok (.invokestatic 97, 3) := by decide +kernel
theorem dX12_goodOf_26 : decode cX12_goodOf 26 = .ok (.ireturn, 1) := by decide +kernel
theorem dX12_layHand_0 : decode cX12_layHand 0 = .ok (.iconst 0, 1) := by decide +kernel
theorem dX12_layHand_1 : decode cX12_layHand 1 = .ok (.istore_n 1, 1) := by decide +kernel
theorem dX12_layHand_2 : decode cX12_layHand 2 = .ok (.iload_n 1, 1) := by decide +kernel
theorem dX12_layHand_3 : decode cX12_layHand 3 = .ok (.aload_n 0, 1) := by decide +kernel
theorem dX12_layHand_4 : decode cX12_layHand 4 = .ok (.invokevirtual 61, 3) := by decide +kernel
theorem dX12_layHand_7 : decode cX12_layHand 7 = .ok (.if_icmp .ge 46, 3) := by decide +kernel
theorem dX12_layHand_10 : decode cX12_layHand 10 = .ok (.aload_n 0, 1) := by decide +kernel
theorem dX12_layHand_11 : decode cX12_layHand 11 = .ok (.getfield 27, 3) := by decide +kernel
theorem dX12_layHand_14 : decode cX12_layHand 14 = .ok (.iload_n 1, 1) := by decide +kernel
theorem dX12_layHand_15 : decode cX12_layHand 15 = .ok (.aload_n 0, 1) := by decide +kernel
theorem dX12_layHand_16 : decode cX12_layHand 16 = .ok (.getfield 7, 3) := by decide +kernel
theorem dX12_layHand_19 : decode cX12_layHand 19 = .ok (.iconst 5, 1) := by decide +kernel
theorem dX12_layHand_20 : decode cX12_layHand 20 = .ok (.iload_n 1, 1) := by decide +kernel
theorem dX12_layHand_21 : decode cX12_layHand 21 = .ok (.iadd, 1) := by decide +kernel
theorem dX12_layHand_22 : decode cX12_layHand 22 = .ok (.iaload, 1) := by decide +kernel
theorem dX12_layHand_23 : decode cX12_layHand 23 = .ok (.iastore, 1) := by decide +kernel
theorem dX12_layHand_24 : decode cX12_layHand 24 = .ok (.aload_n 0, 1) := by decide +kernel
theorem dX12_layHand_25 : decode cX12_layHand 25 = .ok (.getfield 30, 3) := by decide +kernel
theorem dX12_layHand_28 : decode cX12_layHand 28 = .ok (.iload_n 1, 1) := by decide +kernel
theorem dX12_layHand_29 : decode cX12_layHand 29 = .ok (.aload_n 0, 1) := by decide +kernel
theorem dX12_layHand_30 : decode cX12_layHand 30 = .ok (.getfield 7, 3) := by decide +kernel
theorem dX12_layHand_33 : decode cX12_layHand 33 = .ok (.bipush 11, 2) := by decide +kernel
theorem dX12_layHand_35 : decode cX12_layHand 35 = .ok (.iload_n 1, 1) := by decide +kernel
theorem dX12_layHand_36 : decode cX12_layHand 36 = .ok (.iadd, 1) := by decide +kernel
theorem dX12_layHand_37 : decode cX12_layHand 37 = .ok (.iaload, 1) := by decide +kernel
theorem dX12_layHand_38 : decode cX12_layHand 38 = .ok (.iastore, 1) := by decide +kernel
theorem dX12_layHand_39 : decode cX12_layHand 39 = .ok (.aload_n 0, 1) := by decide +kernel
theorem dX12_layHand_40 : decode cX12_layHand 40 = .ok (.getfield 39, 3) := by decide +kernel
theorem dX12_layHand_43 : decode cX12_layHand 43 = .ok (.iload_n 1, 1) := by decide +kernel
theorem dX12_layHand_44 : decode cX12_layHand 44 = .ok (.bipush (-2), 2) := by decide +kernel
theorem dX12_layHand_46 : decode cX12_layHand 46 = .ok (.iastore, 1) := by decide +kernel
theorem dX12_layHand_47 : decode cX12_layHand 47 = .ok (.iinc 1 1, 3) := by decide +kernel
theorem dX12_layHand_50 : decode cX12_layHand 50 = .ok (.goto (-48), 3) := by decide +kernel
theorem dX12_layHand_53 : decode cX12_layHand 53 = .ok (.iconst 0, 1) := by decide +kernel
theorem dX12_layHand_54 : decode cX12_layHand 54 = .ok (.istore_n 1, 1) := by decide +kernel
theorem dX12_layHand_55 : decode cX12_layHand 55 = .ok (.iload_n 1, 1) := by decide +kernel
theorem dX12_layHand_56 : decode cX12_layHand 56 = .ok (.bipush 8, 2) := by decide +kernel
theorem dX12_layHand_58 : decode cX12_layHand 58 = .ok (.if_icmp .ge 39, 3) := by decide +kernel
theorem dX12_layHand_61 : decode cX12_layHand 61 = .ok (.aload_n 0, 1) := by decide +kernel
theorem dX12_layHand_62 : decode cX12_layHand 62 = .ok (.getfield 33, 3) := by decide +kernel
theorem dX12_layHand_65 : decode cX12_layHand 65 = .ok (.iload_n 1, 1) := by decide +kernel
theorem dX12_layHand_66 : decode cX12_layHand 66 = .ok (.aload_n 0, 1) := by decide +kernel
theorem dX12_layHand_67 : decode cX12_layHand 67 = .ok (.getfield 7, 3) := by decide +kernel
theorem dX12_layHand_70 : decode cX12_layHand 70 = .ok (.bipush 41, 2) := by decide +kernel
theorem dX12_layHand_72 : decode cX12_layHand 72 = .ok (.iload_n 1, 1) := by decide +kernel
theorem dX12_layHand_73 : decode cX12_layHand 73 = .ok (.iadd, 1) := by decide +kernel
theorem dX12_layHand_74 : decode cX12_layHand 74 = .ok (.iaload, 1) := by decide +kernel
theorem dX12_layHand_75 : decode cX12_layHand 75 = .ok (.iastore, 1) := by decide +kernel
theorem dX12_layHand_76 : decode cX12_layHand 76 = .ok (.aload_n 0, 1) := by decide +kernel
theorem dX12_layHand_77 : decode cX12_layHand 77 = .ok (.getfield 36, 3) := by decide +kernel
theorem dX12_layHand_80 : decode cX12_layHand 80 = .ok (.iload_n 1, 1) := by decide +kernel
theorem dX12_layHand_81 : decode cX12_layHand 81 = .ok (.aload_n 0, 1) := by decide +kernel
theorem dX12_layHand_82 : decode cX12_layHand 82 = .ok (.getfield 7, 3) := by decide +kernel
theorem dX12_layHand_85 : decode cX12_layHand 85 = .ok (.bipush 49, 2) := by decide +kernel
theorem dX12_layHand_87 : decode cX12_layHand 87 = .ok (.iload_n 1, 1) := by decide +kernel
theorem dX12_layHand_88 : decode cX12_layHand 88 = .ok (.iadd, 1) := by decide +kernel
theorem dX12_layHand_89 : decode cX12_layHand 89 = .ok (.iaload, 1) := by decide +kernel
theorem dX12_layHand_90 : decode cX12_layHand 90 = .ok (.iastore, 1) := by decide +kernel
theorem dX12_layHand_91 : decode cX12_layHand 91 = .ok (.iinc 1 1, 3) := by decide +kernel
theorem dX12_layHand_94 : decode cX12_layHand 94 = .ok (.goto (-39), 3) := by decide +kernel
theorem dX12_layHand_97 : decode cX12_layHand 97 = .ok (.return_, 1) := by decide +kernel
theorem dX12_tries_0 : decode cX12_tries 0 = .ok (.aload_n 0, 1) := by decide +kernel
theorem dX12_tries_1 : decode cX12_tries 1 = .ok (.getfield 39, 3) := by decide +kernel
theorem dX12_tries_4 : decode cX12_tries 4 = .ok (.iload_n 1, 1) := by decide +kernel
theorem dX12_tries_5 : decode cX12_tries 5 = .ok (.iaload, 1) := by decide +kernel
theorem dX12_tries_6 : decode cX12_tries 6 = .ok (.bipush (-2), 2) := by decide +kernel
theorem dX12_tries_8 : decode cX12_tries 8 = .ok (.if_icmp .ne 28, 3) := by decide +kernel
theorem dX12_tries_11 : decode cX12_tries 11 = .ok (.aload_n 0, 1) := by decide +kernel
theorem dX12_tries_12 : decode cX12_tries 12 = .ok (.getfield 7, 3) := by decide +kernel
theorem dX12_tries_15 : decode cX12_tries 15 = .ok (.bipush 17, 2) := by decide +kernel
theorem dX12_tries_17 : decode cX12_tries 17 = .ok (.iload_n 1, 1) := by decide +kernel
theorem dX12_tries_18 : decode cX12_tries 18 = .ok (.iadd, 1) := by decide +kernel
theorem dX12_tries_19 : decode cX12_tries 19 = .ok (.iaload, 1) := by decide +kernel
theorem dX12_tries_20 : decode cX12_tries 20 = .ok (.aload_n 0, 1) := by decide +kernel
theorem dX12_tries_21 : decode cX12_tries 21 = .ok (.getfield 36, 3) := by decide +kernel
theorem dX12_tries_24 : decode cX12_tries 24 = .ok (.iload_n 2, 1) := by decide +kernel
theorem dX12_tries_25 : decode cX12_tries 25 = .ok (.iaload, 1) := by decide +kernel
theorem dX12_tries_26 : decode cX12_tries 26 = .ok (.bipush 7, 2) := by decide +kernel
theorem dX12_tries_28 : decode cX12_tries 28 = .ok (.iload_n 2, 1) := by decide +kernel
theorem dX12_tries_29 : decode cX12_tries 29 = .ok (.isub, 1) := by decide +kernel
theorem dX12_tries_30 : decode cX12_tries 30 = .ok (.invokestatic 101, 3) := by decide +kernel
theorem dX12_tries_33 : decode cX12_tries 33 = .ok (.goto 18, 3) := by decide +kernel
theorem dX12_tries_36 : decode cX12_tries 36 = .ok (.aload_n 0, 1) := by decide +kernel
theorem dX12_tries_37 : decode cX12_tries 37 = .ok (.getfield 39, 3) := by decide +kernel
theorem dX12_tries_40 : decode cX12_tries 40 = .ok (.iload_n 1, 1) := by decide +kernel
theorem dX12_tries_41 : decode cX12_tries 41 = .ok (.iaload, 1) := by decide +kernel
theorem dX12_tries_42 : decode cX12_tries 42 = .ok (.iload_n 2, 1) := by decide +kernel
theorem dX12_tries_43 : decode cX12_tries 43 = .ok (.if_icmp .ne 7, 3) := by decide +kernel
theorem dX12_tries_46 : decode cX12_tries 46 = .ok (.iconst 1, 1) := by decide +kernel
theorem dX12_tries_47 : decode cX12_tries 47 = .ok (.goto 4, 3) := by decide +kernel
theorem dX12_tries_50 : decode cX12_tries 50 = .ok (.iconst 0, 1) := by decide +kernel
theorem dX12_tries_51 : decode cX12_tries 51 = .ok (.ireturn, 1) := by decide +kernel
theorem dX12_isBarred_0 : decode cX12_isBarred 0 = .ok (.aload_n 0, 1) := by decide +kernel
theorem dX12_isBarred_1 : decode cX12_isBarred 1 = .ok (.getfield 7, 3) := by decide +kernel
theorem dX12_isBarred_4 : decode cX12_isBarred 4 = .ok (.bipush 17, 2) := by decide +kernel
theorem dX12_isBarred_6 : decode cX12_isBarred 6 = .ok (.iload_n 1, 1) := by decide +kernel
theorem dX12_isBarred_7 : decode cX12_isBarred 7 = .ok (.iadd, 1) := by decide +kernel
theorem dX12_isBarred_8 : decode cX12_isBarred 8 = .ok (.iaload, 1) := by decide +kernel
theorem dX12_isBarred_9 : decode cX12_isBarred 9 = .ok (.aload_n 0, 1) := by decide +kernel
theorem dX12_isBarred_10 : decode cX12_isBarred 10 = .ok (.getfield 27, 3) := by decide +kernel
theorem dX12_isBarred_13 : decode cX12_isBarred 13 = .ok (.iload_n 1, 1) := by decide +kernel
theorem dX12_isBarred_14 : decode cX12_isBarred 14 = .ok (.iaload, 1) := by decide +kernel
theorem dX12_isBarred_15 : decode cX12_isBarred 15 = .ok (.invokestatic 105, 3) := by decide +kernel
theorem dX12_isBarred_18 : decode cX12_isBarred 18 = .ok (.invokestatic 108, 3) := by decide +kernel
theorem dX12_isBarred_21 : decode cX12_isBarred 21 = .ok (.ireturn, 1) := by decide +kernel
theorem dX12_enters_0 : decode cX12_enters 0 = .ok (.aload_n 0, 1) := by decide +kernel
theorem dX12_enters_1 : decode cX12_enters 1 = .ok (.getfield 33, 3) := by decide +kernel
theorem dX12_enters_4 : decode cX12_enters 4 = .ok (.iload_n 2, 1) := by decide +kernel
theorem dX12_enters_5 : decode cX12_enters 5 = .ok (.iaload, 1) := by decide +kernel
theorem dX12_enters_6 : decode cX12_enters 6 = .ok (.iconst (-1), 1) := by decide +kernel
theorem dX12_enters_7 : decode cX12_enters 7 = .ok (.if_icmp .eq 40, 3) := by decide +kernel
theorem dX12_enters_10 : decode cX12_enters 10 = .ok (.aload_n 0, 1) := by decide +kernel
theorem dX12_enters_11 : decode cX12_enters 11 = .ok (.iload_n 1, 1) := by decide +kernel
theorem dX12_enters_12 : decode cX12_enters 12 = .ok (.invokevirtual 112, 3) := by decide +kernel
theorem dX12_enters_15 : decode cX12_enters 15 = .ok (.ifCond .ne 32, 3) := by decide +kernel
theorem dX12_enters_18 : decode cX12_enters 18 = .ok (.aload_n 0, 1) := by decide +kernel
theorem dX12_enters_19 : decode cX12_enters 19 = .ok (.iload_n 1, 1) := by decide +kernel
theorem dX12_enters_20 : decode cX12_enters 20 = .ok (.iload_n 2, 1) := by decide +kernel
theorem dX12_enters_21 : decode cX12_enters 21 = .ok (.invokevirtual 115, 3) := by decide +kernel
theorem dX12_enters_24 : decode cX12_enters 24 = .ok (.ifCond .eq 23, 3) := by decide +kernel
theorem dX12_enters_27 : decode cX12_enters 27 = .ok (.aload_n 0, 1) := by decide +kernel
theorem dX12_enters_28 : decode cX12_enters 28 = .ok (.iload_n 1, 1) := by decide +kernel
theorem dX12_enters_29 : decode cX12_enters 29 = .ok (.aload_n 0, 1) := by decide +kernel
theorem dX12_enters_30 : decode cX12_enters 30 = .ok (.getfield 33, 3) := by decide +kernel
theorem dX12_enters_33 : decode cX12_enters 33 = .ok (.iload_n 2, 1) := by decide +kernel
theorem dX12_enters_34 : decode cX12_enters 34 = .ok (.iaload, 1) := by decide +kernel
theorem dX12_enters_35 : decode cX12_enters 35 = .ok (.iload_n 2, 1) := by decide +kernel
theorem dX12_enters_36 : decode cX12_enters 36 = .ok (.invokevirtual 118, 3) := by decide +kernel
theorem dX12_enters_39 : decode cX12_enters 39 = .ok (.iconst 1, 1) := by decide +kernel
theorem dX12_enters_40 : decode cX12_enters 40 = .ok (.if_icmp .lt 7, 3) := by decide +kernel
theorem dX12_enters_43 : decode cX12_enters 43 = .ok (.iconst 1, 1) := by decide +kernel
theorem dX12_enters_44 : decode cX12_enters 44 = .ok (.goto 4, 3) := by decide +kernel
theorem dX12_enters_47 : decode cX12_enters 47 = .ok (.iconst 0, 1) := by decide +kernel
theorem dX12_enters_48 : decode cX12_enters 48 = .ok (.ireturn, 1) := by decide +kernel
theorem dX12_bestIn_0 : decode cX12_bestIn 0 = .ok (.iconst (-1), 1) := by decide +kernel
theorem dX12_bestIn_1 : decode cX12_bestIn 1 = .ok (.istore_n 3, 1) := by decide +kernel
theorem dX12_bestIn_2 : decode cX12_bestIn 2 = .ok (.iconst 0, 1) := by decide +kernel
theorem dX12_bestIn_3 : decode cX12_bestIn 3 = .ok (.istore 4, 2) := by decide +kernel
theorem dX12_bestIn_5 : decode cX12_bestIn 5 = .ok (.iconst 0, 1) := by decide +kernel
theorem dX12_bestIn_6 : decode cX12_bestIn 6 = .ok (.istore 5, 2) := by decide +kernel
theorem dX12_bestIn_8 : decode cX12_bestIn 8 = .ok (.iload 5, 2) := by decide +kernel
theorem dX12_bestIn_10 : decode cX12_bestIn 10 = .ok (.aload_n 0, 1) := by decide +kernel
theorem dX12_bestIn_11 : decode cX12_bestIn 11 = .ok (.invokevirtual 61, 3) := by decide +kernel
theorem dX12_bestIn_14 : decode cX12_bestIn 14 = .ok (.if_icmp .ge 61, 3) := by decide +kernel
theorem dX12_bestIn_17 : decode cX12_bestIn 17 = .ok (.iload 5, 2) := by decide +kernel
theorem dX12_bestIn_19 : decode cX12_bestIn 19 = .ok (.iload_n 2, 1) := by decide +kernel
theorem dX12_bestIn_20 : decode cX12_bestIn 20 = .ok (.if_icmp .eq 49, 3) := by decide +kernel
theorem dX12_bestIn_23 : decode cX12_bestIn 23 = .ok (.aload_n 0, 1) := by decide +kernel
theorem dX12_bestIn_24 : decode cX12_bestIn 24 = .ok (.iload 5, 2) := by decide +kernel
theorem dX12_bestIn_26 : decode cX12_bestIn 26 = .ok (.iload_n 1, 1) := by decide +kernel
theorem dX12_bestIn_27 : decode cX12_bestIn 27 = .ok (.invokevirtual 121, 3) := by decide +kernel
theorem dX12_bestIn_30 : decode cX12_bestIn 30 = .ok (.ifCond .eq 39, 3) := by decide +kernel
theorem dX12_bestIn_33 : decode cX12_bestIn 33 = .ok (.aload_n 0, 1) := by decide +kernel
theorem dX12_bestIn_34 : decode cX12_bestIn 34 = .ok (.iload 5, 2) := by decide +kernel
theorem dX12_bestIn_36 : decode cX12_bestIn 36 = .ok (.aload_n 0, 1) := by decide +kernel
theorem dX12_bestIn_37 : decode cX12_bestIn 37 = .ok (.getfield 33, 3) := by decide +kernel
theorem dX12_bestIn_40 : decode cX12_bestIn 40 = .ok (.iload_n 1, 1) := by decide +kernel
theorem dX12_bestIn_41 : decode cX12_bestIn 41 = .ok (.iaload, 1) := by decide +kernel
theorem dX12_bestIn_42 : decode cX12_bestIn 42 = .ok (.iload_n 1, 1) := by decide +kernel
theorem dX12_bestIn_43 : decode cX12_bestIn 43 = .ok (.invokevirtual 118, 3) := by decide +kernel
theorem dX12_bestIn_46 : decode cX12_bestIn 46 = .ok (.iload 4, 2) := by decide +kernel
theorem dX12_bestIn_48 : decode cX12_bestIn 48 = .ok (.if_icmp .le 21, 3) := by decide +kernel
theorem dX12_bestIn_51 : decode cX12_bestIn 51 = .ok (.iload 5, 2) := by decide +kernel
theorem dX12_bestIn_53 : decode cX12_bestIn 53 = .ok (.istore_n 3, 1) := by decide +kernel
theorem dX12_bestIn_54 : decode cX12_bestIn 54 = .ok (.aload_n 0, 1) := by decide +kernel
theorem dX12_bestIn_55 : decode cX12_bestIn 55 = .ok (.iload 5, 2) := by decide +kernel
theorem dX12_bestIn_57 : decode cX12_bestIn 57 = .ok (.aload_n 0, 1) := by decide +kernel
theorem dX12_bestIn_58 : decode cX12_bestIn 58 = .ok (.getfield 33, 3) := by decide +kernel
theorem dX12_bestIn_61 : decode cX12_bestIn 61 = .ok (.iload_n 1, 1) := by decide +kernel
theorem dX12_bestIn_62 : decode cX12_bestIn 62 = .ok (.iaload, 1) := by decide +kernel
theorem dX12_bestIn_63 : decode cX12_bestIn 63 = .ok (.iload_n 1, 1) := by decide +kernel
theorem dX12_bestIn_64 : decode cX12_bestIn 64 = .ok (.invokevirtual 118, 3) := by decide +kernel
theorem dX12_bestIn_67 : decode cX12_bestIn 67 = .ok (.istore 4, 2) := by decide +kernel
theorem dX12_bestIn_69 : decode cX12_bestIn 69 = .ok (.iinc 5 1, 3) := by decide +kernel
theorem dX12_bestIn_72 : decode cX12_bestIn 72 = .ok (.goto (-64), 3) := by decide +kernel
theorem dX12_bestIn_75 : decode cX12_bestIn 75 = .ok (.iload_n 3, 1) := by decide +kernel
theorem dX12_bestIn_76 : decode cX12_bestIn 76 = .ok (.ireturn, 1) := by decide +kernel
theorem dX12_goYear_0 : decode cX12_goYear 0 = .ok (.aload_n 0, 1) := by decide +kernel
theorem dX12_goYear_1 : decode cX12_goYear 1 = .ok (.iload_n 1, 1) := by decide +kernel
theorem dX12_goYear_2 : decode cX12_goYear 2 = .ok (.iconst (-1), 1) := by decide +kernel
theorem dX12_goYear_3 : decode cX12_goYear 3 = .ok (.invokevirtual 124, 3) := by decide +kernel
theorem dX12_goYear_6 : decode cX12_goYear 6 = .ok (.istore_n 2, 1) := by decide +kernel
theorem dX12_goYear_7 : decode cX12_goYear 7 = .ok (.iload_n 2, 1) := by decide +kernel
theorem dX12_goYear_8 : decode cX12_goYear 8 = .ok (.iconst (-1), 1) := by decide +kernel
theorem dX12_goYear_9 : decode cX12_goYear 9 = .ok (.if_icmp .ne 7, 3) := by decide +kernel
theorem dX12_goYear_12 : decode cX12_goYear 12 = .ok (.iconst (-1), 1) := by decide +kernel
theorem dX12_goYear_13 : decode cX12_goYear 13 = .ok (.goto 9, 3) := by decide +kernel
theorem dX12_goYear_16 : decode cX12_goYear 16 = .ok (.aload_n 0, 1) := by decide +kernel
theorem dX12_goYear_17 : decode cX12_goYear 17 = .ok (.iload_n 1, 1) := by decide +kernel
theorem dX12_goYear_18 : decode cX12_goYear 18 = .ok (.iload_n 2, 1) := by decide +kernel
theorem dX12_goYear_19 : decode cX12_goYear 19 = .ok (.invokevirtual 124, 3) := by decide +kernel
theorem dX12_goYear_22 : decode cX12_goYear 22 = .ok (.istore_n 3, 1) := by decide +kernel
theorem dX12_goYear_23 : decode cX12_goYear 23 = .ok (.iload_n 2, 1) := by decide +kernel
theorem dX12_goYear_24 : decode cX12_goYear 24 = .ok (.iconst (-1), 1) := by decide +kernel
theorem dX12_goYear_25 : decode cX12_goYear 25 = .ok (.if_icmp .eq 15, 3) := by decide +kernel
theorem dX12_goYear_28 : decode cX12_goYear 28 = .ok (.aload_n 0, 1) := by decide +kernel
theorem dX12_goYear_29 : decode cX12_goYear 29 = .ok (.getfield 27, 3) := by decide +kernel
theorem dX12_goYear_32 : decode cX12_goYear 32 = .ok (.iload_n 2, 1) := by decide +kernel
theorem dX12_goYear_33 : decode cX12_goYear 33 = .ok (.dup2, 1) := by decide +kernel
theorem dX12_goYear_34 : decode cX12_goYear 34 = .ok (.iaload, 1) := by decide +kernel
theorem dX12_goYear_35 : decode cX12_goYear 35 = .ok (.iconst 1, 1) := by decide +kernel
theorem dX12_goYear_36 : decode cX12_goYear 36 = .ok (.iload_n 1, 1) := by decide +kernel
theorem dX12_goYear_37 : decode cX12_goYear 37 = .ok (.ishl, 1) := by decide +kernel
theorem dX12_goYear_38 : decode cX12_goYear 38 = .ok (.ior, 1) := by decide +kernel
theorem dX12_goYear_39 : decode cX12_goYear 39 = .ok (.iastore, 1) := by decide +kernel
theorem dX12_goYear_40 : decode cX12_goYear 40 = .ok (.iload_n 3, 1) := by decide +kernel
theorem dX12_goYear_41 : decode cX12_goYear 41 = .ok (.iconst (-1), 1) := by decide +kernel
theorem dX12_goYear_42 : decode cX12_goYear 42 = .ok (.if_icmp .eq 13, 3) := by decide +kernel
theorem dX12_goYear_45 : decode cX12_goYear 45 = .ok (.aload_n 0, 1) := by decide +kernel
theorem dX12_goYear_46 : decode cX12_goYear 46 = .ok (.getfield 30, 3) := by decide +kernel
theorem dX12_goYear_49 : decode cX12_goYear 49 = .ok (.iload_n 3, 1) := by decide +kernel
theorem dX12_goYear_50 : decode cX12_goYear 50 = .ok (.dup2, 1) := by decide +kernel
theorem dX12_goYear_51 : decode cX12_goYear 51 = .ok (.iaload, 1) := by decide +kernel
theorem dX12_goYear_52 : decode cX12_goYear 52 = .ok (.iconst 1, 1) := by decide +kernel
theorem dX12_goYear_53 : decode cX12_goYear 53 = .ok (.iadd, 1) := by decide +kernel
theorem dX12_goYear_54 : decode cX12_goYear 54 = .ok (.iastore, 1) := by decide +kernel
theorem dX12_goYear_55 : decode cX12_goYear 55 = .ok (.iload_n 2, 1) := by decide +kernel
theorem dX12_goYear_56 : decode cX12_goYear 56 = .ok (.ireturn, 1) := by decide +kernel
theorem dX12_goTill_0 : decode cX12_goTill 0 = .ok (.aload_n 0, 1) := by decide +kernel
theorem dX12_goTill_1 : decode cX12_goTill 1 = .ok (.getfield 7, 3) := by decide +kernel
theorem dX12_goTill_4 : decode cX12_goTill 4 = .ok (.iconst 4, 1) := by decide +kernel
theorem dX12_goTill_5 : decode cX12_goTill 5 = .ok (.iaload, 1) := by decide +kernel
theorem dX12_goTill_6 : decode cX12_goTill 6 = .ok (.istore_n 2, 1) := by decide +kernel
theorem dX12_goTill_7 : decode cX12_goTill 7 = .ok (.iload_n 2, 1) := by decide +kernel
theorem dX12_goTill_8 : decode cX12_goTill 8 = .ok (.iload_n 1, 1) := by decide +kernel
theorem dX12_goTill_9 : decode cX12_goTill 9 = .ok (.if_icmp .ge 15, 3) := by decide +kernel
theorem dX12_goTill_12 : decode cX12_goTill 12 = .ok (.aload_n 0, 1) := by decide +kernel
theorem dX12_goTill_13 : decode cX12_goTill 13 = .ok (.iload_n 2, 1) := by decide +kernel
theorem dX12_goTill_14 : decode cX12_goTill 14 = .ok (.invokevirtual 128, 3) := by decide +kernel
theorem dX12_goTill_17 : decode cX12_goTill 17 = .ok (.istore_n 3, 1) := by decide +kernel
theorem dX12_goTill_18 : decode cX12_goTill 18 = .ok (.iinc 2 1, 3) := by decide +kernel
theorem dX12_goTill_21 : decode cX12_goTill 21 = .ok (.goto (-14), 3) := by decide +kernel
theorem dX12_goTill_24 : decode cX12_goTill 24 = .ok (.return_, 1) := by decide +kernel
theorem dX12_worthOf_0 : decode cX12_worthOf 0 = .ok (.iconst 0, 1) := by decide +kernel
theorem dX12_worthOf_1 : decode cX12_worthOf 1 = .ok (.istore_n 2, 1) := by decide +kernel
theorem dX12_worthOf_2 : decode cX12_worthOf 2 = .ok (.iconst 0, 1) := by decide +kernel
theorem dX12_worthOf_3 : decode cX12_worthOf 3 = .ok (.istore_n 3, 1) := by decide +kernel
theorem dX12_worthOf_4 : decode cX12_worthOf 4 = .ok (.iload_n 3, 1) := by decide +kernel
theorem dX12_worthOf_5 : decode cX12_worthOf 5 = .ok (.bipush 8, 2) := by decide +kernel
theorem dX12_worthOf_7 : decode cX12_worthOf 7 = .ok (.if_icmp .ge 35, 3) := by decide +kernel
theorem dX12_worthOf_10 : decode cX12_worthOf 10 = .ok (.iload_n 2, 1) := by decide +kernel
theorem dX12_worthOf_11 : decode cX12_worthOf 11 = .ok (.aload_n 0, 1) := by decide +kernel
theorem dX12_worthOf_12 : decode cX12_worthOf 12 = .ok (.getfield 27, 3) := by decide +kernel
theorem dX12_worthOf_15 : decode cX12_worthOf 15 = .ok (.iload_n 1, 1) := by decide +kernel
theorem dX12_worthOf_16 : decode cX12_worthOf 16 = .ok (.iaload, 1) := by decide +kernel
theorem dX12_worthOf_17 : decode cX12_worthOf 17 = .ok (.iload_n 3, 1) := by decide +kernel
theorem dX12_worthOf_18 : decode cX12_worthOf 18 = .ok (.invokestatic 131, 3) := by decide +kernel
theorem dX12_worthOf_21 : decode cX12_worthOf 21 = .ok (.ifCond .eq 12, 3) := by decide +kernel
theorem dX12_worthOf_24 : decode cX12_worthOf 24 = .ok (.aload_n 0, 1) := by decide +kernel
theorem dX12_worthOf_25 : decode cX12_worthOf 25 = .ok (.getfield 36, 3) := by decide +kernel
theorem dX12_worthOf_28 : decode cX12_worthOf 28 = .ok (.iload_n 3, 1) := by decide +kernel
theorem dX12_worthOf_29 : decode cX12_worthOf 29 = .ok (.iaload, 1) := by decide +kernel
theorem dX12_worthOf_30 : decode cX12_worthOf 30 = .ok (.goto 4, 3) := by decide +kernel
theorem dX12_worthOf_33 : decode cX12_worthOf 33 = .ok (.iconst 0, 1) := by decide +kernel
theorem dX12_worthOf_34 : decode cX12_worthOf 34 = .ok (.iadd, 1) := by decide +kernel
theorem dX12_worthOf_35 : decode cX12_worthOf 35 = .ok (.istore_n 2, 1) := by decide +kernel
theorem dX12_worthOf_36 : decode cX12_worthOf 36 = .ok (.iinc 3 1, 3) := by decide +kernel
theorem dX12_worthOf_39 : decode cX12_worthOf 39 = .ok (.goto (-35), 3) := by decide +kernel
theorem dX12_worthOf_42 : decode cX12_worthOf 42 = .ok (.iload_n 2, 1) := by decide +kernel
theorem dX12_worthOf_43 : decode cX12_worthOf 43 = .ok (.ireturn, 1) := by decide +kernel
theorem dX12_keep_0 : decode cX12_keep 0 = .ok (.aload_n 0, 1) := by decide +kernel
theorem dX12_keep_1 : decode cX12_keep 1 = .ok (.getfield 7, 3) := by decide +kernel
theorem dX12_keep_4 : decode cX12_keep 4 = .ok (.iconst 3, 1) := by decide +kernel
theorem dX12_keep_5 : decode cX12_keep 5 = .ok (.iaload, 1) := by decide +kernel
theorem dX12_keep_6 : decode cX12_keep 6 = .ok (.bipush 8, 2) := by decide +kernel
theorem dX12_keep_8 : decode cX12_keep 8 = .ok (.if_icmp .ne 43, 3) := by decide +kernel
theorem dX12_keep_11 : decode cX12_keep 11 = .ok (.iconst 0, 1) := by decide +kernel
theorem dX12_keep_12 : decode cX12_keep 12 = .ok (.istore_n 1, 1) := by decide +kernel
theorem dX12_keep_13 : decode cX12_keep 13 = .ok (.iload_n 1, 1) := by decide +kernel
theorem dX12_keep_14 : decode cX12_keep 14 = .ok (.bipush 91, 2) := by decide +kernel
theorem dX12_keep_16 : decode cX12_keep 16 = .ok (.if_icmp .ge 27, 3) := by decide +kernel
theorem dX12_keep_19 : decode cX12_keep 19 = .ok (.aload_n 0, 1) := by decide +kernel
theorem dX12_keep_20 : decode cX12_keep 20 = .ok (.getfield 7, 3) := by decide +kernel
theorem dX12_keep_23 : decode cX12_keep 23 = .ok (.bipush 105, 2) := by decide +kernel
theorem dX12_keep_25 : decode cX12_keep 25 = .ok (.iload_n 1, 1) := by decide +kernel
theorem dX12_keep_26 : decode cX12_keep 26 = .ok (.iadd, 1) := by decide +kernel
theorem dX12_keep_27 : decode cX12_keep 27 = .ok (.aload_n 0, 1) := by decide +kernel
theorem dX12_keep_28 : decode cX12_keep 28 = .ok (.getfield 7, 3) := by decide +kernel
theorem dX12_keep_31 : decode cX12_keep 31 = .ok (.bipush 118, 2) := by decide +kernel
theorem dX12_keep_33 : decode cX12_keep 33 = .ok (.iload_n 1, 1) := by decide +kernel
theorem dX12_keep_34 : decode cX12_keep 34 = .ok (.iadd, 1) := by decide +kernel
theorem dX12_keep_35 : decode cX12_keep 35 = .ok (.iaload, 1) := by decide +kernel
theorem dX12_keep_36 : decode cX12_keep 36 = .ok (.iastore, 1) := by decide +kernel
theorem dX12_keep_37 : decode cX12_keep 37 = .ok (.iinc 1 1, 3) := by decide +kernel
theorem dX12_keep_40 : decode cX12_keep 40 = .ok (.goto (-27), 3) := by decide +kernel
theorem dX12_keep_43 : decode cX12_keep 43 = .ok (.aload_n 0, 1) := by decide +kernel
theorem dX12_keep_44 : decode cX12_keep 44 = .ok (.getfield 7, 3) := by decide +kernel
theorem dX12_keep_47 : decode cX12_keep 47 = .ok (.iconst 3, 1) := by decide +kernel
theorem dX12_keep_48 : decode cX12_keep 48 = .ok (.bipush 7, 2) := by decide +kernel
theorem dX12_keep_50 : decode cX12_keep 50 = .ok (.iastore, 1) := by decide +kernel
theorem dX12_keep_51 : decode cX12_keep 51 = .ok (.iconst 0, 1) := by decide +kernel
theorem dX12_keep_52 : decode cX12_keep 52 = .ok (.istore_n 1, 1) := by decide +kernel
theorem dX12_keep_53 : decode cX12_keep 53 = .ok (.iload_n 1, 1) := by decide +kernel
theorem dX12_keep_54 : decode cX12_keep 54 = .ok (.bipush 13, 2) := by decide +kernel
theorem dX12_keep_56 : decode cX12_keep 56 = .ok (.if_icmp .ge 36, 3) := by decide +kernel
theorem dX12_keep_59 : decode cX12_keep 59 = .ok (.aload_n 0, 1) := by decide +kernel
theorem dX12_keep_60 : decode cX12_keep 60 = .ok (.getfield 7, 3) := by decide +kernel
theorem dX12_keep_63 : decode cX12_keep 63 = .ok (.bipush 105, 2) := by decide +kernel
theorem dX12_keep_65 : decode cX12_keep 65 = .ok (.bipush 13, 2) := by decide +kernel
theorem dX12_keep_67 : decode cX12_keep 67 = .ok (.aload_n 0, 1) := by decide +kernel
theorem dX12_keep_68 : decode cX12_keep 68 = .ok (.getfield 7, 3) := by decide +kernel
theorem dX12_keep_71 : decode cX12_keep 71 = .ok (.iconst 3, 1) := by decide +kernel
theorem dX12_keep_72 : decode cX12_keep 72 = .ok (.iaload, 1) := by decide +kernel
theorem dX12_keep_73 : decode cX12_keep 73 = .ok (.imul, 1) := by decide +kernel
theorem dX12_keep_74 : decode cX12_keep 74 = .ok (.iadd, 1) := by decide +kernel
theorem dX12_keep_75 : decode cX12_keep 75 = .ok (.iload_n 1, 1) := by decide +kernel
theorem dX12_keep_76 : decode cX12_keep 76 = .ok (.iadd, 1) := by decide +kernel
theorem dX12_keep_77 : decode cX12_keep 77 = .ok (.aload_n 0, 1) := by decide +kernel
theorem dX12_keep_78 : decode cX12_keep 78 = .ok (.getfield 7, 3) := by decide +kernel
theorem dX12_keep_81 : decode cX12_keep 81 = .ok (.iconst 4, 1) := by decide +kernel
theorem dX12_keep_82 : decode cX12_keep 82 = .ok (.iload_n 1, 1) := by decide +kernel
theorem dX12_keep_83 : decode cX12_keep 83 = .ok (.iadd, 1) := by decide +kernel
theorem dX12_keep_84 : decode cX12_keep 84 = .ok (.iaload, 1) := by decide +kernel
theorem dX12_keep_85 : decode cX12_keep 85 = .ok (.iastore, 1) := by decide +kernel
theorem dX12_keep_86 : decode cX12_keep 86 = .ok (.iinc 1 1, 3) := by decide +kernel
theorem dX12_keep_89 : decode cX12_keep 89 = .ok (.goto (-36), 3) := by decide +kernel
theorem dX12_keep_92 : decode cX12_keep 92 = .ok (.aload_n 0, 1) := by decide +kernel
theorem dX12_keep_93 : decode cX12_keep 93 = .ok (.getfield 7, 3) := by decide +kernel
theorem dX12_keep_96 : decode cX12_keep 96 = .ok (.iconst 3, 1) := by decide +kernel
theorem dX12_keep_97 : decode cX12_keep 97 = .ok (.dup2, 1) := by decide +kernel
theorem dX12_keep_98 : decode cX12_keep 98 = .ok (.iaload, 1) := by decide +kernel
theorem dX12_keep_99 : decode cX12_keep 99 = .ok (.iconst 1, 1) := by decide +kernel
theorem dX12_keep_100 : decode cX12_keep 100 = .ok (.iadd, 1) := by decide +kernel
theorem dX12_keep_101 : decode cX12_keep 101 = .ok (.iastore, 1) := by decide +kernel
theorem dX12_keep_102 : decode cX12_keep 102 = .ok (.return_, 1) := by decide +kernel
theorem dX12_year_0 : decode cX12_year 0 = .ok (.aload_n 0, 1) := by decide +kernel
theorem dX12_year_1 : decode cX12_year 1 = .ok (.getfield 7, 3) := by decide +kernel
theorem dX12_year_4 : decode cX12_year 4 = .ok (.iconst 4, 1) := by decide +kernel
theorem dX12_year_5 : decode cX12_year 5 = .ok (.iaload, 1) := by decide +kernel
theorem dX12_year_6 : decode cX12_year 6 = .ok (.bipush 8, 2) := by decide +kernel
theorem dX12_year_8 : decode cX12_year 8 = .ok (.if_icmp .ne 8, 3) := by decide +kernel
theorem dX12_year_11 : decode cX12_year 11 = .ok (.aload_n 0, 1) := by decide +kernel
theorem dX12_year_12 : decode cX12_year 12 = .ok (.invokevirtual 134, 3) := by decide +kernel
theorem dX12_year_15 : decode cX12_year 15 = .ok (.ireturn, 1) := by decide +kernel
theorem dX12_year_16 : decode cX12_year 16 = .ok (.aload_n 0, 1) := by decide +kernel
theorem dX12_year_17 : decode cX12_year 17 = .ok (.invokevirtual 137, 3) := by decide +kernel
theorem dX12_year_20 : decode cX12_year 20 = .ok (.aload_n 0, 1) := by decide +kernel
theorem dX12_year_21 : decode cX12_year 21 = .ok (.invokevirtual 140, 3) := by decide +kernel
theorem dX12_year_24 : decode cX12_year 24 = .ok (.aload_n 0, 1) := by decide +kernel
theorem dX12_year_25 : decode cX12_year 25 = .ok (.aload_n 0, 1) := by decide +kernel
theorem dX12_year_26 : decode cX12_year 26 = .ok (.getfield 7, 3) := by decide +kernel
theorem dX12_year_29 : decode cX12_year 29 = .ok (.iconst 4, 1) := by decide +kernel
theorem dX12_year_30 : decode cX12_year 30 = .ok (.iaload, 1) := by decide +kernel
theorem dX12_year_31 : decode cX12_year 31 = .ok (.invokevirtual 128, 3) := by decide +kernel
theorem dX12_year_34 : decode cX12_year 34 = .ok (.istore_n 1, 1) := by decide +kernel
theorem dX12_year_35 : decode cX12_year 35 = .ok (.iconst 0, 1) := by decide +kernel
theorem dX12_year_36 : decode cX12_year 36 = .ok (.istore_n 2, 1) := by decide +kernel
theorem dX12_year_37 : decode cX12_year 37 = .ok (.iload_n 2, 1) := by decide +kernel
theorem dX12_year_38 : decode cX12_year 38 = .ok (.aload_n 0, 1) := by decide +kernel
theorem dX12_year_39 : decode cX12_year 39 = .ok (.invokevirtual 61, 3) := by decide +kernel
theorem dX12_year_42 : decode cX12_year 42 = .ok (.if_icmp .ge 38, 3) := by decide +kernel
theorem dX12_year_45 : decode cX12_year 45 = .ok (.aload_n 0, 1) := by decide +kernel
theorem dX12_year_46 : decode cX12_year 46 = .ok (.getfield 7, 3) := by decide +kernel
theorem dX12_year_49 : decode cX12_year 49 = .ok (.iconst 5, 1) := by decide +kernel
theorem dX12_year_50 : decode cX12_year 50 = .ok (.iload_n 2, 1) := by decide +kernel
theorem dX12_year_51 : decode cX12_year 51 = .ok (.iadd, 1) := by decide +kernel
theorem dX12_year_52 : decode cX12_year 52 = .ok (.aload_n 0, 1) := by decide +kernel
theorem dX12_year_53 : decode cX12_year 53 = .ok (.getfield 27, 3) := by decide +kernel
theorem dX12_year_56 : decode cX12_year 56 = .ok (.iload_n 2, 1) := by decide +kernel
theorem dX12_year_57 : decode cX12_year 57 = .ok (.iaload, 1) := by decide +kernel
theorem dX12_year_58 : decode cX12_year 58 = .ok (.iastore, 1) := by decide +kernel
theorem dX12_year_59 : decode cX12_year 59 = .ok (.aload_n 0, 1) := by decide +kernel
theorem dX12_year_60 : decode cX12_year 60 = .ok (.getfield 7, 3) := by decide +kernel
theorem dX12_year_63 : decode cX12_year 63 = .ok (.bipush 11, 2) := by decide +kernel
theorem dX12_year_65 : decode cX12_year 65 = .ok (.iload_n 2, 1) := by decide +kernel
theorem dX12_year_66 : decode cX12_year 66 = .ok (.iadd, 1) := by decide +kernel
theorem dX12_year_67 : decode cX12_year 67 = .ok (.aload_n 0, 1) := by decide +kernel
theorem dX12_year_68 : decode cX12_year 68 = .ok (.getfield 30, 3) := by decide +kernel
theorem dX12_year_71 : decode cX12_year 71 = .ok (.iload_n 2, 1) := by decide +kernel
theorem dX12_year_72 : decode cX12_year 72 = .ok (.iaload, 1) := by decide +kernel
theorem dX12_year_73 : decode cX12_year 73 = .ok (.iastore, 1) := by decide +kernel
theorem dX12_year_74 : decode cX12_year 74 = .ok (.iinc 2 1, 3) := by decide +kernel
theorem dX12_year_77 : decode cX12_year 77 = .ok (.goto (-40), 3) := by decide +kernel
theorem dX12_year_80 : decode cX12_year 80 = .ok (.aload_n 0, 1) := by decide +kernel
theorem dX12_year_81 : decode cX12_year 81 = .ok (.getfield 7, 3) := by decide +kernel
theorem dX12_year_84 : decode cX12_year 84 = .ok (.iconst 4, 1) := by decide +kernel
theorem dX12_year_85 : decode cX12_year 85 = .ok (.dup2, 1) := by decide +kernel
theorem dX12_year_86 : decode cX12_year 86 = .ok (.iaload, 1) := by decide +kernel
theorem dX12_year_87 : decode cX12_year 87 = .ok (.iconst 1, 1) := by decide +kernel
theorem dX12_year_88 : decode cX12_year 88 = .ok (.iadd, 1) := by decide +kernel
theorem dX12_year_89 : decode cX12_year 89 = .ok (.iastore, 1) := by decide +kernel
theorem dX12_year_90 : decode cX12_year 90 = .ok (.iload_n 1, 1) := by decide +kernel
theorem dX12_year_91 : decode cX12_year 91 = .ok (.ireturn, 1) := by decide +kernel
theorem dX12_undo_0 : decode cX12_undo 0 = .ok (.aload_n 0, 1) := by decide +kernel
theorem dX12_undo_1 : decode cX12_undo 1 = .ok (.getfield 7, 3) := by decide +kernel
theorem dX12_undo_4 : decode cX12_undo 4 = .ok (.iconst 3, 1) := by decide +kernel
theorem dX12_undo_5 : decode cX12_undo 5 = .ok (.iaload, 1) := by decide +kernel
theorem dX12_undo_6 : decode cX12_undo 6 = .ok (.ifCond .ne 8, 3) := by decide +kernel
theorem dX12_undo_9 : decode cX12_undo 9 = .ok (.aload_n 0, 1) := by decide +kernel
theorem dX12_undo_10 : decode cX12_undo 10 = .ok (.invokevirtual 134, 3) := by decide +kernel
theorem dX12_undo_13 : decode cX12_undo 13 = .ok (.ireturn, 1) := by decide +kernel
theorem dX12_undo_14 : decode cX12_undo 14 = .ok (.aload_n 0, 1) := by decide +kernel
theorem dX12_undo_15 : decode cX12_undo 15 = .ok (.getfield 7, 3) := by decide +kernel
theorem dX12_undo_18 : decode cX12_undo 18 = .ok (.iconst 3, 1) := by decide +kernel
theorem dX12_undo_19 : decode cX12_undo 19 = .ok (.dup2, 1) := by decide +kernel
theorem dX12_undo_20 : decode cX12_undo 20 = .ok (.iaload, 1) := by decide +kernel
theorem dX12_undo_21 : decode cX12_undo 21 = .ok (.iconst 1, 1) := by decide +kernel
theorem dX12_undo_22 : decode cX12_undo 22 = .ok (.isub, 1) := by decide +kernel
theorem dX12_undo_23 : decode cX12_undo 23 = .ok (.iastore, 1) := by decide +kernel
theorem dX12_undo_24 : decode cX12_undo 24 = .ok (.iconst 0, 1) := by decide +kernel
theorem dX12_undo_25 : decode cX12_undo 25 = .ok (.istore_n 1, 1) := by decide +kernel
theorem dX12_undo_26 : decode cX12_undo 26 = .ok (.iload_n 1, 1) := by decide +kernel
theorem dX12_undo_27 : decode cX12_undo 27 = .ok (.bipush 13, 2) := by decide +kernel
theorem dX12_undo_29 : decode cX12_undo 29 = .ok (.if_icmp .ge 36, 3) := by decide +kernel
theorem dX12_undo_32 : decode cX12_undo 32 = .ok (.aload_n 0, 1) := by decide +kernel
theorem dX12_undo_33 : decode cX12_undo 33 = .ok (.getfield 7, 3) := by decide +kernel
theorem dX12_undo_36 : decode cX12_undo 36 = .ok (.iconst 4, 1) := by decide +kernel
theorem dX12_undo_37 : decode cX12_undo 37 = .ok (.iload_n 1, 1) := by decide +kernel
theorem dX12_undo_38 : decode cX12_undo 38 = .ok (.iadd, 1) := by decide +kernel
theorem dX12_undo_39 : decode cX12_undo 39 = .ok (.aload_n 0, 1) := by decide +kernel
theorem dX12_undo_40 : decode cX12_undo 40 = .ok (.getfield 7, 3) := by decide +kernel
theorem dX12_undo_43 : decode cX12_undo 43 = .ok (.bipush 105, 2) := by decide +kernel
theorem dX12_undo_45 : decode cX12_undo 45 = .ok (.bipush 13, 2) := by decide +kernel
theorem dX12_undo_47 : decode cX12_undo 47 = .ok (.aload_n 0, 1) := by decide +kernel
theorem dX12_undo_48 : decode cX12_undo 48 = .ok (.getfield 7, 3) := by decide +kernel
theorem dX12_undo_51 : decode cX12_undo 51 = .ok (.iconst 3, 1) := by decide +kernel
theorem dX12_undo_52 : decode cX12_undo 52 = .ok (.iaload, 1) := by decide +kernel
theorem dX12_undo_53 : decode cX12_undo 53 = .ok (.imul, 1) := by decide +kernel
theorem dX12_undo_54 : decode cX12_undo 54 = .ok (.iadd, 1) := by decide +kernel
theorem dX12_undo_55 : decode cX12_undo 55 = .ok (.iload_n 1, 1) := by decide +kernel
theorem dX12_undo_56 : decode cX12_undo 56 = .ok (.iadd, 1) := by decide +kernel
theorem dX12_undo_57 : decode cX12_undo 57 = .ok (.iaload, 1) := by decide +kernel
theorem dX12_undo_58 : decode cX12_undo 58 = .ok (.iastore, 1) := by decide +kernel
theorem dX12_undo_59 : decode cX12_undo 59 = .ok (.iinc 1 1, 3) := by decide +kernel
theorem dX12_undo_62 : decode cX12_undo 62 = .ok (.goto (-36), 3) := by decide +kernel
theorem dX12_undo_65 : decode cX12_undo 65 = .ok (.aload_n 0, 1) := by decide +kernel
theorem dX12_undo_66 : decode cX12_undo 66 = .ok (.getfield 7, 3) := by decide +kernel
theorem dX12_undo_69 : decode cX12_undo 69 = .ok (.iconst 4, 1) := by decide +kernel
theorem dX12_undo_70 : decode cX12_undo 70 = .ok (.iaload, 1) := by decide +kernel
theorem dX12_undo_71 : decode cX12_undo 71 = .ok (.ireturn, 1) := by decide +kernel
theorem dX12_of_0 : decode cX12_of 0 = .ok (.aload_n 0, 1) := by decide +kernel
theorem dX12_of_1 : decode cX12_of 1 = .ok (.iload_n 1, 1) := by decide +kernel
theorem dX12_of_2 : decode cX12_of 2 = .ok (.invokevirtual 143, 3) := by decide +kernel
theorem dX12_of_5 : decode cX12_of 5 = .ok (.ifCond .eq 15, 3) := by decide +kernel
theorem dX12_of_8 : decode cX12_of 8 = .ok (.iload_n 2, 1) := by decide +kernel
theorem dX12_of_9 : decode cX12_of 9 = .ok (.i2l, 1) := by decide +kernel
theorem dX12_of_10 : decode cX12_of 10 = .ok (.lconst 0, 1) := by decide +kernel
theorem dX12_of_11 : decode cX12_of 11 = .ok (.ldc2_w 146, 3) := by decide +kernel
theorem dX12_of_14 : decode cX12_of 14 = .ok (.invokestatic 65, 3) := by decide +kernel
theorem dX12_of_17 : decode cX12_of 17 = .ok (.ifCond .ne 10, 3) := by decide +kernel
theorem dX12_of_20 : decode cX12_of 20 = .ok (.aload_n 0, 1) := by decide +kernel
theorem dX12_of_21 : decode cX12_of 21 = .ok (.bipush (-2), 2) := by decide +kernel
theorem dX12_of_23 : decode cX12_of 23 = .ok (.invokevirtual 82, 3) := by decide +kernel
theorem dX12_of_26 : decode cX12_of 26 = .ok (.ireturn, 1) := by decide +kernel
theorem dX12_of_27 : decode cX12_of 27 = .ok (.aload_n 0, 1) := by decide +kernel
theorem dX12_of_28 : decode cX12_of 28 = .ok (.invokevirtual 140, 3) := by decide +kernel
theorem dX12_of_31 : decode cX12_of 31 = .ok (.iload_n 2, 1) := by decide +kernel
theorem dX12_of_32 : decode cX12_of 32 = .ok (.tableswitch 82 0 6 #[44, 82, 82, 82, 54, 61, 68], 44) := by decide +kernel
theorem dX12_of_76 : decode cX12_of 76 = .ok (.aload_n 0, 1) := by decide +kernel
theorem dX12_of_77 : decode cX12_of 77 = .ok (.getfield 7, 3) := by decide +kernel
theorem dX12_of_80 : decode cX12_of 80 = .ok (.bipush 17, 2) := by decide +kernel
theorem dX12_of_82 : decode cX12_of 82 = .ok (.iload_n 1, 1) := by decide +kernel
theorem dX12_of_83 : decode cX12_of 83 = .ok (.iadd, 1) := by decide +kernel
theorem dX12_of_84 : decode cX12_of 84 = .ok (.iaload, 1) := by decide +kernel
theorem dX12_of_85 : decode cX12_of 85 = .ok (.ireturn, 1) := by decide +kernel
theorem dX12_of_86 : decode cX12_of 86 = .ok (.aload_n 0, 1) := by decide +kernel
theorem dX12_of_87 : decode cX12_of 87 = .ok (.getfield 27, 3) := by decide +kernel
theorem dX12_of_90 : decode cX12_of 90 = .ok (.iload_n 1, 1) := by decide +kernel
theorem dX12_of_91 : decode cX12_of 91 = .ok (.iaload, 1) := by decide +kernel
theorem dX12_of_92 : decode cX12_of 92 = .ok (.ireturn, 1) := by decide +kernel
theorem dX12_of_93 : decode cX12_of 93 = .ok (.aload_n 0, 1) := by decide +kernel
theorem dX12_of_94 : decode cX12_of 94 = .ok (.getfield 30, 3) := by decide +kernel
theorem dX12_of_97 : decode cX12_of 97 = .ok (.iload_n 1, 1) := by decide +kernel
theorem dX12_of_98 : decode cX12_of 98 = .ok (.iaload, 1) := by decide +kernel
theorem dX12_of_99 : decode cX12_of 99 = .ok (.ireturn, 1) := by decide +kernel
theorem dX12_of_100 : decode cX12_of 100 = .ok (.aload_n 0, 1) := by decide +kernel
theorem dX12_of_101 : decode cX12_of 101 = .ok (.iload_n 1, 1) := by decide +kernel
theorem dX12_of_102 : decode cX12_of 102 = .ok (.invokevirtual 112, 3) := by decide +kernel
theorem dX12_of_105 : decode cX12_of 105 = .ok (.ifCond .eq 7, 3) := by decide +kernel
theorem dX12_of_108 : decode cX12_of 108 = .ok (.iconst 1, 1) := by decide +kernel
theorem dX12_of_109 : decode cX12_of 109 = .ok (.goto 4, 3) := by decide +kernel
theorem dX12_of_112 : decode cX12_of 112 = .ok (.iconst 0, 1) := by decide +kernel
theorem dX12_of_113 : decode cX12_of 113 = .ok (.ireturn, 1) := by decide +kernel
theorem dX12_of_114 : decode cX12_of 114 = .ok (.aload_n 0, 1) := by decide +kernel
theorem dX12_of_115 : decode cX12_of 115 = .ok (.getfield 7, 3) := by decide +kernel
theorem dX12_of_118 : decode cX12_of 118 = .ok (.bipush 23, 2) := by decide +kernel
theorem dX12_of_120 : decode cX12_of 120 = .ok (.iconst 3, 1) := by decide +kernel
theorem dX12_of_121 : decode cX12_of 121 = .ok (.iload_n 1, 1) := by decide +kernel
theorem dX12_of_122 : decode cX12_of 122 = .ok (.imul, 1) := by decide +kernel
theorem dX12_of_123 : decode cX12_of 123 = .ok (.iadd, 1) := by decide +kernel
theorem dX12_of_124 : decode cX12_of 124 = .ok (.iload_n 2, 1) := by decide +kernel
theorem dX12_of_125 : decode cX12_of 125 = .ok (.iadd, 1) := by decide +kernel
theorem dX12_of_126 : decode cX12_of 126 = .ok (.iconst 1, 1) := by decide +kernel
theorem dX12_of_127 : decode cX12_of 127 = .ok (.isub, 1) := by decide +kernel
theorem dX12_of_128 : decode cX12_of 128 = .ok (.iaload, 1) := by decide +kernel
theorem dX12_of_129 : decode cX12_of 129 = .ok (.ireturn, 1) := by decide +kernel
theorem dX12_about_0 : decode cX12_about 0 = .ok (.iload_n 1, 1) := by decide +kernel
theorem dX12_about_1 : decode cX12_about 1 = .ok (.invokestatic 73, 3) := by decide +kernel
theorem dX12_about_4 : decode cX12_about 4 = .ok (.ifCond .eq 34, 3) := by decide +kernel
theorem dX12_about_7 : decode cX12_about 7 = .ok (.iload_n 2, 1) := by decide +kernel
theorem dX12_about_8 : decode cX12_about 8 = .ok (.i2l, 1) := by decide +kernel
theorem dX12_about_9 : decode cX12_about 9 = .ok (.lconst 0, 1) := by decide +kernel
theorem dX12_about_10 : decode cX12_about 10 = .ok (.lconst 1, 1) := by decide +kernel
theorem dX12_about_11 : decode cX12_about 11 = .ok (.invokestatic 65, 3) := by decide +kernel
theorem dX12_about_14 : decode cX12_about 14 = .ok (.ifCond .eq 24, 3) := by decide +kernel
theorem dX12_about_17 : decode cX12_about 17 = .ok (.aload_n 0, 1) := by decide +kernel
theorem dX12_about_18 : decode cX12_about 18 = .ok (.getfield 7, 3) := by decide +kernel
theorem dX12_about_21 : decode cX12_about 21 = .ok (.iload_n 2, 1) := by decide +kernel
theorem dX12_about_22 : decode cX12_about 22 = .ok (.ifCond .ne 8, 3) := by decide +kernel
theorem dX12_about_25 : decode cX12_about 25 = .ok (.bipush 41, 2) := by decide +kernel
theorem dX12_about_27 : decode cX12_about 27 = .ok (.goto 5, 3) := by decide +kernel
theorem dX12_about_30 : decode cX12_about 30 = .ok (.bipush 49, 2) := by decide +kernel
theorem dX12_about_32 : decode cX12_about 32 = .ok (.iload_n 1, 1) := by decide +kernel
theorem dX12_about_33 : decode cX12_about 33 = .ok (.iadd, 1) := by decide +kernel
theorem dX12_about_34 : decode cX12_about 34 = .ok (.iaload, 1) := by decide +kernel
theorem dX12_about_35 : decode cX12_about 35 = .ok (.goto 9, 3) := by decide +kernel
theorem dX12_about_38 : decode cX12_about 38 = .ok (.aload_n 0, 1) := by decide +kernel
theorem dX12_about_39 : decode cX12_about 39 = .ok (.bipush (-10), 2) := by decide +kernel
theorem dX12_about_41 : decode cX12_about 41 = .ok (.invokevirtual 82, 3) := by decide +kernel
theorem dX12_about_44 : decode cX12_about 44 = .ok (.ireturn, 1) := by decide +kernel
theorem dX12_good_0 : decode cX12_good 0 = .ok (.aload_n 0, 1) := by decide +kernel
theorem dX12_good_1 : decode cX12_good 1 = .ok (.iload_n 1, 1) := by decide +kernel
theorem dX12_good_2 : decode cX12_good 2 = .ok (.invokevirtual 143, 3) := by decide +kernel
theorem dX12_good_5 : decode cX12_good 5 = .ok (.ifCond .eq 27, 3) := by decide +kernel
theorem dX12_good_8 : decode cX12_good 8 = .ok (.iload_n 2, 1) := by decide +kernel
theorem dX12_good_9 : decode cX12_good 9 = .ok (.invokestatic 77, 3) := by decide +kernel
theorem dX12_good_12 : decode cX12_good 12 = .ok (.ifCond .eq 20, 3) := by decide +kernel
theorem dX12_good_15 : decode cX12_good 15 = .ok (.iload_n 3, 1) := by decide +kernel
theorem dX12_good_16 : decode cX12_good 16 = .ok (.invokestatic 73, 3) := by decide +kernel
theorem dX12_good_19 : decode cX12_good 19 = .ok (.ifCond .eq 13, 3) := by decide +kernel
theorem dX12_good_22 : decode cX12_good 22 = .ok (.aload_n 0, 1) := by decide +kernel
theorem dX12_good_23 : decode cX12_good 23 = .ok (.iload_n 1, 1) := by decide +kernel
theorem dX12_good_24 : decode cX12_good 24 = .ok (.iload_n 2, 1) := by decide +kernel
theorem dX12_good_25 : decode cX12_good 25 = .ok (.iload_n 3, 1) := by decide +kernel
theorem dX12_good_26 : decode cX12_good 26 = .ok (.invokevirtual 118, 3) := by decide +kernel
theorem dX12_good_29 : decode cX12_good 29 = .ok (.goto 9, 3) := by decide +kernel
theorem dX12_good_32 : decode cX12_good 32 = .ok (.aload_n 0, 1) := by decide +kernel
theorem dX12_good_33 : decode cX12_good 33 = .ok (.bipush (-2), 2) := by decide +kernel
theorem dX12_good_35 : decode cX12_good 35 = .ok (.invokevirtual 82, 3) := by decide +kernel
theorem dX12_good_38 : decode cX12_good 38 = .ok (.ireturn, 1) := by decide +kernel
theorem dX12_enter_0 : decode cX12_enter 0 = .ok (.aload_n 0, 1) := by decide +kernel
theorem dX12_enter_1 : decode cX12_enter 1 = .ok (.iload_n 1, 1) := by decide +kernel
theorem dX12_enter_2 : decode cX12_enter 2 = .ok (.invokevirtual 148, 3) := by decide +kernel
theorem dX12_enter_5 : decode cX12_enter 5 = .ok (.ifCond .ne 10, 3) := by decide +kernel
theorem dX12_enter_8 : decode cX12_enter 8 = .ok (.aload_n 0, 1) := by decide +kernel
theorem dX12_enter_9 : decode cX12_enter 9 = .ok (.bipush (-2), 2) := by decide +kernel
theorem dX12_enter_11 : decode cX12_enter 11 = .ok (.invokevirtual 82, 3) := by decide +kernel
theorem dX12_enter_14 : decode cX12_enter 14 = .ok (.ireturn, 1) := by decide +kernel
theorem dX12_enter_15 : decode cX12_enter 15 = .ok (.iconst 0, 1) := by decide +kernel
theorem dX12_enter_16 : decode cX12_enter 16 = .ok (.istore_n 2, 1) := by decide +kernel
theorem dX12_enter_17 : decode cX12_enter 17 = .ok (.aload_n 0, 1) := by decide +kernel
theorem dX12_enter_18 : decode cX12_enter 18 = .ok (.invokevirtual 140, 3) := by decide +kernel
theorem dX12_enter_21 : decode cX12_enter 21 = .ok (.aload_n 0, 1) := by decide +kernel
theorem dX12_enter_22 : decode cX12_enter 22 = .ok (.iload_n 1, 1) := by decide +kernel
theorem dX12_enter_23 : decode cX12_enter 23 = .ok (.invokevirtual 151, 3) := by decide +kernel
theorem dX12_enter_26 : decode cX12_enter 26 = .ok (.iconst 0, 1) := by decide +kernel
theorem dX12_enter_27 : decode cX12_enter 27 = .ok (.istore_n 3, 1) := by decide +kernel
theorem dX12_enter_28 : decode cX12_enter 28 = .ok (.iload_n 3, 1) := by decide +kernel
theorem dX12_enter_29 : decode cX12_enter 29 = .ok (.aload_n 0, 1) := by decide +kernel
theorem dX12_enter_30 : decode cX12_enter 30 = .ok (.invokevirtual 61, 3) := by decide +kernel
theorem dX12_enter_33 : decode cX12_enter 33 = .ok (.if_icmp .ge 28, 3) := by decide +kernel
theorem dX12_enter_36 : decode cX12_enter 36 = .ok (.iload_n 2, 1) := by decide +kernel
theorem dX12_enter_37 : decode cX12_enter 37 = .ok (.aload_n 0, 1) := by decide +kernel
theorem dX12_enter_38 : decode cX12_enter 38 = .ok (.iload_n 3, 1) := by decide +kernel
theorem dX12_enter_39 : decode cX12_enter 39 = .ok (.iload_n 1, 1) := by decide +kernel
theorem dX12_enter_40 : decode cX12_enter 40 = .ok (.invokevirtual 121, 3) := by decide +kernel
theorem dX12_enter_43 : decode cX12_enter 43 = .ok (.ifCond .eq 9, 3) := by decide +kernel
theorem dX12_enter_46 : decode cX12_enter 46 = .ok (.iconst 1, 1) := by decide +kernel
theorem dX12_enter_47 : decode cX12_enter 47 = .ok (.iload_n 3, 1) := by decide +kernel
theorem dX12_enter_48 : decode cX12_enter 48 = .ok (.ishl, 1) := by decide +kernel
theorem dX12_enter_49 : decode cX12_enter 49 = .ok (.goto 4, 3) := by decide +kernel
theorem dX12_enter_52 : decode cX12_enter 52 = .ok (.iconst 0, 1) := by decide +kernel
theorem dX12_enter_53 : decode cX12_enter 53 = .ok (.ior, 1) := by decide +kernel
theorem dX12_enter_54 : decode cX12_enter 54 = .ok (.istore_n 2, 1) := by decide +kernel
theorem dX12_enter_55 : decode cX12_enter 55 = .ok (.iinc 3 1, 3) := by decide +kernel
theorem dX12_enter_58 : decode cX12_enter 58 = .ok (.goto (-30), 3) := by decide +kernel
theorem dX12_enter_61 : decode cX12_enter 61 = .ok (.iload_n 2, 1) := by decide +kernel
theorem dX12_enter_62 : decode cX12_enter 62 = .ok (.ireturn, 1) := by decide +kernel
theorem dX12_winner_0 : decode cX12_winner 0 = .ok (.aload_n 0, 1) := by decide +kernel
theorem dX12_winner_1 : decode cX12_winner 1 = .ok (.iload_n 1, 1) := by decide +kernel
theorem dX12_winner_2 : decode cX12_winner 2 = .ok (.invokevirtual 148, 3) := by decide +kernel
theorem dX12_winner_5 : decode cX12_winner 5 = .ok (.ifCond .eq 13, 3) := by decide +kernel
theorem dX12_winner_8 : decode cX12_winner 8 = .ok (.iload_n 2, 1) := by decide +kernel
theorem dX12_winner_9 : decode cX12_winner 9 = .ok (.i2l, 1) := by decide +kernel
theorem dX12_winner_10 : decode cX12_winner 10 = .ok (.lconst 0, 1) := by decide +kernel
theorem dX12_winner_11 : decode cX12_winner 11 = .ok (.lconst 1, 1) := by decide +kernel
theorem dX12_winner_12 : decode cX12_winner 12 = .ok (.invokestatic 65, 3) := by decide +kernel
theorem dX12_winner_15 : decode cX12_winner 15 = .ok (.ifCond .ne 10, 3) := by decide +kernel
theorem dX12_winner_18 : decode cX12_winner 18 = .ok (.aload_n 0, 1) := by decide +kernel
theorem dX12_winner_19 : decode cX12_winner 19 = .ok (.bipush (-2), 2) := by decide +kernel
theorem dX12_winner_21 : decode cX12_winner 21 = .ok (.invokevirtual 82, 3) := by decide +kernel
theorem dX12_winner_24 : decode cX12_winner 24 = .ok (.ireturn, 1) := by decide +kernel
theorem dX12_winner_25 : decode cX12_winner 25 = .ok (.aload_n 0, 1) := by decide +kernel
theorem dX12_winner_26 : decode cX12_winner 26 = .ok (.invokevirtual 140, 3) := by decide +kernel
theorem dX12_winner_29 : decode cX12_winner 29 = .ok (.aload_n 0, 1) := by decide +kernel
theorem dX12_winner_30 : decode cX12_winner 30 = .ok (.iload_n 1, 1) := by decide +kernel
theorem dX12_winner_31 : decode cX12_winner 31 = .ok (.invokevirtual 151, 3) := by decide +kernel
theorem dX12_winner_34 : decode cX12_winner 34 = .ok (.aload_n 0, 1) := by decide +kernel
theorem dX12_winner_35 : decode cX12_winner 35 = .ok (.iload_n 1, 1) := by decide +kernel
theorem dX12_winner_36 : decode cX12_winner 36 = .ok (.iconst (-1), 1) := by decide +kernel
theorem dX12_winner_37 : decode cX12_winner 37 = .ok (.invokevirtual 124, 3) := by decide +kernel
theorem dX12_winner_40 : decode cX12_winner 40 = .ok (.istore_n 3, 1) := by decide +kernel
theorem dX12_winner_41 : decode cX12_winner 41 = .ok (.iload_n 2, 1) := by decide +kernel
theorem dX12_winner_42 : decode cX12_winner 42 = .ok (.ifCond .eq 8, 3) := by decide +kernel
theorem dX12_winner_45 : decode cX12_winner 45 = .ok (.iload_n 3, 1) := by decide +kernel
theorem dX12_winner_46 : decode cX12_winner 46 = .ok (.iconst (-1), 1) := by decide +kernel
theorem dX12_winner_47 : decode cX12_winner 47 = .ok (.if_icmp .ne 7, 3) := by decide +kernel
theorem dX12_winner_50 : decode cX12_winner 50 = .ok (.iload_n 3, 1) := by decide +kernel
theorem dX12_winner_51 : decode cX12_winner 51 = .ok (.goto 9, 3) := by decide +kernel
theorem dX12_winner_54 : decode cX12_winner 54 = .ok (.aload_n 0, 1) := by decide +kernel
theorem dX12_winner_55 : decode cX12_winner 55 = .ok (.iload_n 1, 1) := by decide +kernel
theorem dX12_winner_56 : decode cX12_winner 56 = .ok (.iload_n 3, 1) := by decide +kernel
theorem dX12_winner_57 : decode cX12_winner 57 = .ok (.invokevirtual 124, 3) := by decide +kernel
theorem dX12_winner_60 : decode cX12_winner 60 = .ok (.ireturn, 1) := by decide +kernel
theorem dX12_end_0 : decode cX12_end 0 = .ok (.aload_n 0, 1) := by decide +kernel
theorem dX12_end_1 : decode cX12_end 1 = .ok (.iload_n 1, 1) := by decide +kernel
theorem dX12_end_2 : decode cX12_end 2 = .ok (.invokevirtual 143, 3) := by decide +kernel
theorem dX12_end_5 : decode cX12_end 5 = .ok (.ifCond .eq 13, 3) := by decide +kernel
theorem dX12_end_8 : decode cX12_end 8 = .ok (.iload_n 2, 1) := by decide +kernel
theorem dX12_end_9 : decode cX12_end 9 = .ok (.i2l, 1) := by decide +kernel
theorem dX12_end_10 : decode cX12_end 10 = .ok (.lconst 0, 1) := by decide +kernel
theorem dX12_end_11 : decode cX12_end 11 = .ok (.lconst 1, 1) := by decide +kernel
theorem dX12_end_12 : decode cX12_end 12 = .ok (.invokestatic 65, 3) := by decide +kernel
theorem dX12_end_15 : decode cX12_end 15 = .ok (.ifCond .ne 10, 3) := by decide +kernel
theorem dX12_end_18 : decode cX12_end 18 = .ok (.aload_n 0, 1) := by decide +kernel
theorem dX12_end_19 : decode cX12_end 19 = .ok (.bipush (-2), 2) := by decide +kernel
theorem dX12_end_21 : decode cX12_end 21 = .ok (.invokevirtual 82, 3) := by decide +kernel
theorem dX12_end_24 : decode cX12_end 24 = .ok (.ireturn, 1) := by decide +kernel
theorem dX12_end_25 : decode cX12_end 25 = .ok (.aload_n 0, 1) := by decide +kernel
theorem dX12_end_26 : decode cX12_end 26 = .ok (.invokevirtual 140, 3) := by decide +kernel
theorem dX12_end_29 : decode cX12_end 29 = .ok (.aload_n 0, 1) := by decide +kernel
theorem dX12_end_30 : decode cX12_end 30 = .ok (.bipush 8, 2) := by decide +kernel
theorem dX12_end_32 : decode cX12_end 32 = .ok (.invokevirtual 151, 3) := by decide +kernel
theorem dX12_end_35 : decode cX12_end 35 = .ok (.iload_n 2, 1) := by decide +kernel
theorem dX12_end_36 : decode cX12_end 36 = .ok (.ifCond .ne 11, 3) := by decide +kernel
theorem dX12_end_39 : decode cX12_end 39 = .ok (.aload_n 0, 1) := by decide +kernel
theorem dX12_end_40 : decode cX12_end 40 = .ok (.iload_n 1, 1) := by decide +kernel
theorem dX12_end_41 : decode cX12_end 41 = .ok (.invokevirtual 155, 3) := by decide +kernel
theorem dX12_end_44 : decode cX12_end 44 = .ok (.goto 9, 3) := by decide +kernel
theorem dX12_end_47 : decode cX12_end 47 = .ok (.aload_n 0, 1) := by decide +kernel
theorem dX12_end_48 : decode cX12_end 48 = .ok (.getfield 30, 3) := by decide +kernel
theorem dX12_end_51 : decode cX12_end 51 = .ok (.iload_n 1, 1) := by decide +kernel
theorem dX12_end_52 : decode cX12_end 52 = .ok (.iaload, 1) := by decide +kernel
theorem dX12_end_53 : decode cX12_end 53 = .ok (.ireturn, 1) := by decide +kernel
theorem dX12_left_0 : decode cX12_left 0 = .ok (.iconst 0, 1) := by decide +kernel
theorem dX12_left_1 : decode cX12_left 1 = .ok (.istore_n 1, 1) := by decide +kernel
theorem dX12_left_2 : decode cX12_left 2 = .ok (.aload_n 0, 1) := by decide +kernel
theorem dX12_left_3 : decode cX12_left 3 = .ok (.invokevirtual 140, 3) := by decide +kernel
theorem dX12_left_6 : decode cX12_left 6 = .ok (.aload_n 0, 1) := by decide +kernel
theorem dX12_left_7 : decode cX12_left 7 = .ok (.getfield 7, 3) := by decide +kernel
theorem dX12_left_10 : decode cX12_left 10 = .ok (.iconst 4, 1) := by decide +kernel
theorem dX12_left_11 : decode cX12_left 11 = .ok (.iaload, 1) := by decide +kernel
theorem dX12_left_12 : decode cX12_left 12 = .ok (.istore_n 2, 1) := by decide +kernel
theorem dX12_left_13 : decode cX12_left 13 = .ok (.iload_n 2, 1) := by decide +kernel
theorem dX12_left_14 : decode cX12_left 14 = .ok (.bipush 8, 2) := by decide +kernel
theorem dX12_left_16 : decode cX12_left 16 = .ok (.if_icmp .ge 38, 3) := by decide +kernel
theorem dX12_left_19 : decode cX12_left 19 = .ok (.iload_n 1, 1) := by decide +kernel
theorem dX12_left_20 : decode cX12_left 20 = .ok (.aload_n 0, 1) := by decide +kernel
theorem dX12_left_21 : decode cX12_left 21 = .ok (.iload_n 2, 1) := by decide +kernel
theorem dX12_left_22 : decode cX12_left 22 = .ok (.invokevirtual 128, 3) := by decide +kernel
theorem dX12_left_25 : decode cX12_left 25 = .ok (.iconst (-1), 1) := by decide +kernel
theorem dX12_left_26 : decode cX12_left 26 = .ok (.if_icmp .ne 19, 3) := by decide +kernel
theorem dX12_left_29 : decode cX12_left 29 = .ok (.aload_n 0, 1) := by decide +kernel
theorem dX12_left_30 : decode cX12_left 30 = .ok (.getfield 33, 3) := by decide +kernel
theorem dX12_left_33 : decode cX12_left 33 = .ok (.iload_n 2, 1) := by decide +kernel
theorem dX12_left_34 : decode cX12_left 34 = .ok (.iaload, 1) := by decide +kernel
theorem dX12_left_35 : decode cX12_left 35 = .ok (.iconst (-1), 1) := by decide +kernel
theorem dX12_left_36 : decode cX12_left 36 = .ok (.if_icmp .eq 9, 3) := by decide +kernel
theorem dX12_left_39 : decode cX12_left 39 = .ok (.iconst 1, 1) := by decide +kernel
theorem dX12_left_40 : decode cX12_left 40 = .ok (.iload_n 2, 1) := by decide +kernel
theorem dX12_left_41 : decode cX12_left 41 = .ok (.ishl, 1) := by decide +kernel
theorem dX12_left_42 : decode cX12_left 42 = .ok (.goto 4, 3) := by decide +kernel
theorem dX12_left_45 : decode cX12_left 45 = .ok (.iconst 0, 1) := by decide +kernel
theorem dX12_left_46 : decode cX12_left 46 = .ok (.ior, 1) := by decide +kernel
theorem dX12_left_47 : decode cX12_left 47 = .ok (.istore_n 1, 1) := by decide +kernel
theorem dX12_left_48 : decode cX12_left 48 = .ok (.iinc 2 1, 3) := by decide +kernel
theorem dX12_left_51 : decode cX12_left 51 = .ok (.goto (-38), 3) := by decide +kernel
theorem dX12_left_54 : decode cX12_left 54 = .ok (.iload_n 1, 1) := by decide +kernel
theorem dX12_left_55 : decode cX12_left 55 = .ok (.ireturn, 1) := by decide +kernel
theorem dX12_winsBy_0 : decode cX12_winsBy 0 = .ok (.aload_n 0, 1) := by decide +kernel
theorem dX12_winsBy_1 : decode cX12_winsBy 1 = .ok (.invokevirtual 140, 3) := by decide +kernel
theorem dX12_winsBy_4 : decode cX12_winsBy 4 = .ok (.aload_n 0, 1) := by decide +kernel
theorem dX12_winsBy_5 : decode cX12_winsBy 5 = .ok (.iload_n 1, 1) := by decide +kernel
theorem dX12_winsBy_6 : decode cX12_winsBy 6 = .ok (.invokevirtual 155, 3) := by decide +kernel
theorem dX12_winsBy_9 : decode cX12_winsBy 9 = .ok (.istore_n 3, 1) := by decide +kernel
theorem dX12_winsBy_10 : decode cX12_winsBy 10 = .ok (.aload_n 0, 1) := by decide +kernel
theorem dX12_winsBy_11 : decode cX12_winsBy 11 = .ok (.getfield 39, 3) := by decide +kernel
theorem dX12_winsBy_14 : decode cX12_winsBy 14 = .ok (.iload_n 1, 1) := by decide +kernel
theorem dX12_winsBy_15 : decode cX12_winsBy 15 = .ok (.iload_n 2, 1) := by decide +kernel
theorem dX12_winsBy_16 : decode cX12_winsBy 16 = .ok (.iastore, 1) := by decide +kernel
theorem dX12_winsBy_17 : decode cX12_winsBy 17 = .ok (.aload_n 0, 1) := by decide +kernel
theorem dX12_winsBy_18 : decode cX12_winsBy 18 = .ok (.bipush 8, 2) := by decide +kernel
theorem dX12_winsBy_20 : decode cX12_winsBy 20 = .ok (.invokevirtual 151, 3) := by decide +kernel
theorem dX12_winsBy_23 : decode cX12_winsBy 23 = .ok (.aload_n 0, 1) := by decide +kernel
theorem dX12_winsBy_24 : decode cX12_winsBy 24 = .ok (.iload_n 1, 1) := by decide +kernel
theorem dX12_winsBy_25 : decode cX12_winsBy 25 = .ok (.invokevirtual 155, 3) := by decide +kernel
theorem dX12_winsBy_28 : decode cX12_winsBy 28 = .ok (.iload_n 3, 1) := by decide +kernel
theorem dX12_winsBy_29 : decode cX12_winsBy 29 = .ok (.isub, 1) := by decide +kernel
theorem dX12_winsBy_30 : decode cX12_winsBy 30 = .ok (.ireturn, 1) := by decide +kernel
theorem dX12_best_0 : decode cX12_best 0 = .ok (.aload_n 0, 1) := by decide +kernel
theorem dX12_best_1 : decode cX12_best 1 = .ok (.iload_n 1, 1) := by decide +kernel
theorem dX12_best_2 : decode cX12_best 2 = .ok (.invokevirtual 143, 3) := by decide +kernel
theorem dX12_best_5 : decode cX12_best 5 = .ok (.ifCond .eq 13, 3) := by decide +kernel
theorem dX12_best_8 : decode cX12_best 8 = .ok (.iload_n 2, 1) := by decide +kernel
theorem dX12_best_9 : decode cX12_best 9 = .ok (.i2l, 1) := by decide +kernel
theorem dX12_best_10 : decode cX12_best 10 = .ok (.lconst 0, 1) := by decide +kernel
theorem dX12_best_11 : decode cX12_best 11 = .ok (.lconst 1, 1) := by decide +kernel
theorem dX12_best_12 : decode cX12_best 12 = .ok (.invokestatic 65, 3) := by decide +kernel
theorem dX12_best_15 : decode cX12_best 15 = .ok (.ifCond .ne 10, 3) := by decide +kernel
theorem dX12_best_18 : decode cX12_best 18 = .ok (.aload_n 0, 1) := by decide +kernel
theorem dX12_best_19 : decode cX12_best 19 = .ok (.bipush (-2), 2) := by decide +kernel
theorem dX12_best_21 : decode cX12_best 21 = .ok (.invokevirtual 82, 3) := by decide +kernel
theorem dX12_best_24 : decode cX12_best 24 = .ok (.ireturn, 1) := by decide +kernel
theorem dX12_best_25 : decode cX12_best 25 = .ok (.iconst (-1), 1) := by decide +kernel
theorem dX12_best_26 : decode cX12_best 26 = .ok (.istore_n 3, 1) := by decide +kernel
theorem dX12_best_27 : decode cX12_best 27 = .ok (.iconst 0, 1) := by decide +kernel
theorem dX12_best_28 : decode cX12_best 28 = .ok (.istore 4, 2) := by decide +kernel
theorem dX12_best_30 : decode cX12_best 30 = .ok (.aload_n 0, 1) := by decide +kernel
theorem dX12_best_31 : decode cX12_best 31 = .ok (.getfield 7, 3) := by decide +kernel
theorem dX12_best_34 : decode cX12_best 34 = .ok (.iconst 4, 1) := by decide +kernel
theorem dX12_best_35 : decode cX12_best 35 = .ok (.iaload, 1) := by decide +kernel
theorem dX12_best_36 : decode cX12_best 36 = .ok (.istore 5, 2) := by decide +kernel
theorem dX12_best_38 : decode cX12_best 38 = .ok (.iload 5, 2) := by decide +kernel
theorem dX12_best_40 : decode cX12_best 40 = .ok (.bipush 8, 2) := by decide +kernel
theorem dX12_best_42 : decode cX12_best 42 = .ok (.if_icmp .ge 48, 3) := by decide +kernel
theorem dX12_best_45 : decode cX12_best 45 = .ok (.aload_n 0, 1) := by decide +kernel
theorem dX12_best_46 : decode cX12_best 46 = .ok (.iload_n 1, 1) := by decide +kernel
theorem dX12_best_47 : decode cX12_best 47 = .ok (.iload 5, 2) := by decide +kernel
theorem dX12_best_49 : decode cX12_best 49 = .ok (.invokevirtual 158, 3) := by decide +kernel
theorem dX12_best_52 : decode cX12_best 52 = .ok (.istore 6, 2) := by decide +kernel
theorem dX12_best_54 : decode cX12_best 54 = .ok (.iload 6, 2) := by decide +kernel
theorem dX12_best_56 : decode cX12_best 56 = .ok (.iload 4, 2) := by decide +kernel
theorem dX12_best_58 : decode cX12_best 58 = .ok (.if_icmp .le 8, 3) := by decide +kernel
theorem dX12_best_61 : decode cX12_best 61 = .ok (.iload 5, 2) := by decide +kernel
theorem dX12_best_63 : decode cX12_best 63 = .ok (.goto 4, 3) := by decide +kernel
theorem dX12_best_66 : decode cX12_best 66 = .ok (.iload_n 3, 1) := by decide +kernel
theorem dX12_best_67 : decode cX12_best 67 = .ok (.istore_n 3, 1) := by decide +kernel
theorem dX12_best_68 : decode cX12_best 68 = .ok (.iload 6, 2) := by decide +kernel
theorem dX12_best_70 : decode cX12_best 70 = .ok (.iload 4, 2) := by decide +kernel
theorem dX12_best_72 : decode cX12_best 72 = .ok (.if_icmp .le 8, 3) := by decide +kernel
theorem dX12_best_75 : decode cX12_best 75 = .ok (.iload 6, 2) := by decide +kernel
theorem dX12_best_77 : decode cX12_best 77 = .ok (.goto 5, 3) := by decide +kernel
theorem dX12_best_80 : decode cX12_best 80 = .ok (.iload 4, 2) := by decide +kernel
theorem dX12_best_82 : decode cX12_best 82 = .ok (.istore 4, 2) := by decide +kernel
theorem dX12_best_84 : decode cX12_best 84 = .ok (.iinc 5 1, 3) := by decide +kernel
theorem dX12_best_87 : decode cX12_best 87 = .ok (.goto (-49), 3) := by decide +kernel
theorem dX12_best_90 : decode cX12_best 90 = .ok (.iload_n 2, 1) := by decide +kernel
theorem dX12_best_91 : decode cX12_best 91 = .ok (.ifCond .eq 8, 3) := by decide +kernel
theorem dX12_best_94 : decode cX12_best 94 = .ok (.iload_n 3, 1) := by decide +kernel
theorem dX12_best_95 : decode cX12_best 95 = .ok (.iconst (-1), 1) := by decide +kernel
theorem dX12_best_96 : decode cX12_best 96 = .ok (.if_icmp .ne 7, 3) := by decide +kernel
theorem dX12_best_99 : decode cX12_best 99 = .ok (.iload_n 3, 1) := by decide +kernel
theorem dX12_best_100 : decode cX12_best 100 = .ok (.goto 5, 3) := by decide +kernel
theorem dX12_best_103 : decode cX12_best 103 = .ok (.iload 4, 2) := by decide +kernel
theorem dX12_best_105 : decode cX12_best 105 = .ok (.ireturn, 1) := by decide +kernel
theorem dX12_rests_0 : decode cX12_rests 0 = .ok (.iconst 1, 1) := by decide +kernel
theorem dX12_rests_1 : decode cX12_rests 1 = .ok (.istore_n 3, 1) := by decide +kernel
theorem dX12_rests_2 : decode cX12_rests 2 = .ok (.aload_n 0, 1) := by decide +kernel
theorem dX12_rests_3 : decode cX12_rests 3 = .ok (.getfield 7, 3) := by decide +kernel
theorem dX12_rests_6 : decode cX12_rests 6 = .ok (.iconst 4, 1) := by decide +kernel
theorem dX12_rests_7 : decode cX12_rests 7 = .ok (.iaload, 1) := by decide +kernel
theorem dX12_rests_8 : decode cX12_rests 8 = .ok (.istore 4, 2) := by decide +kernel
theorem dX12_rests_10 : decode cX12_rests 10 = .ok (.iload 4, 2) := by decide +kernel
theorem dX12_rests_12 : decode cX12_rests 12 = .ok (.bipush 8, 2) := by decide +kernel
theorem dX12_rests_14 : decode cX12_rests 14 = .ok (.if_icmp .ge 71, 3) := by decide +kernel
theorem dX12_rests_17 : decode cX12_rests 17 = .ok (.iload_n 3, 1) := by decide +kernel
theorem dX12_rests_18 : decode cX12_rests 18 = .ok (.ifCond .eq 59, 3) := by decide +kernel
theorem dX12_rests_21 : decode cX12_rests 21 = .ok (.aload_n 0, 1) := by decide +kernel
theorem dX12_rests_22 : decode cX12_rests 22 = .ok (.getfield 42, 3) := by decide +kernel
theorem dX12_rests_25 : decode cX12_rests 25 = .ok (.bipush 8, 2) := by decide +kernel
theorem dX12_rests_27 : decode cX12_rests 27 = .ok (.iload 4, 2) := by decide +kernel
theorem dX12_rests_29 : decode cX12_rests 29 = .ok (.imul, 1) := by decide +kernel
theorem dX12_rests_30 : decode cX12_rests 30 = .ok (.iload_n 2, 1) := by decide +kernel
theorem dX12_rests_31 : decode cX12_rests 31 = .ok (.iadd, 1) := by decide +kernel
theorem dX12_rests_32 : decode cX12_rests 32 = .ok (.iaload, 1) := by decide +kernel
theorem dX12_rests_33 : decode cX12_rests 33 = .ok (.aload_n 0, 1) := by decide +kernel
theorem dX12_rests_34 : decode cX12_rests 34 = .ok (.getfield 42, 3) := by decide +kernel
theorem dX12_rests_37 : decode cX12_rests 37 = .ok (.bipush 8, 2) := by decide +kernel
theorem dX12_rests_39 : decode cX12_rests 39 = .ok (.iload_n 1, 1) := by decide +kernel
theorem dX12_rests_40 : decode cX12_rests 40 = .ok (.imul, 1) := by decide +kernel
theorem dX12_rests_41 : decode cX12_rests 41 = .ok (.iload_n 2, 1) := by decide +kernel
theorem dX12_rests_42 : decode cX12_rests 42 = .ok (.iadd, 1) := by decide +kernel
theorem dX12_rests_43 : decode cX12_rests 43 = .ok (.iaload, 1) := by decide +kernel
theorem dX12_rests_44 : decode cX12_rests 44 = .ok (.if_icmp .gt 33, 3) := by decide +kernel
theorem dX12_rests_47 : decode cX12_rests 47 = .ok (.aload_n 0, 1) := by decide +kernel
theorem dX12_rests_48 : decode cX12_rests 48 = .ok (.getfield 45, 3) := by decide +kernel
theorem dX12_rests_51 : decode cX12_rests 51 = .ok (.bipush 8, 2) := by decide +kernel
theorem dX12_rests_53 : decode cX12_rests 53 = .ok (.iload_n 1, 1) := by decide +kernel
theorem dX12_rests_54 : decode cX12_rests 54 = .ok (.imul, 1) := by decide +kernel
theorem dX12_rests_55 : decode cX12_rests 55 = .ok (.iload 4, 2) := by decide +kernel
theorem dX12_rests_57 : decode cX12_rests 57 = .ok (.iadd, 1) := by decide +kernel
theorem dX12_rests_58 : decode cX12_rests 58 = .ok (.iaload, 1) := by decide +kernel
theorem dX12_rests_59 : decode cX12_rests 59 = .ok (.aload_n 0, 1) := by decide +kernel
theorem dX12_rests_60 : decode cX12_rests 60 = .ok (.getfield 45, 3) := by decide +kernel
theorem dX12_rests_63 : decode cX12_rests 63 = .ok (.bipush 8, 2) := by decide +kernel
theorem dX12_rests_65 : decode cX12_rests 65 = .ok (.iload_n 1, 1) := by decide +kernel
theorem dX12_rests_66 : decode cX12_rests 66 = .ok (.imul, 1) := by decide +kernel
theorem dX12_rests_67 : decode cX12_rests 67 = .ok (.iload_n 2, 1) := by decide +kernel
theorem dX12_rests_68 : decode cX12_rests 68 = .ok (.iadd, 1) := by decide +kernel
theorem dX12_rests_69 : decode cX12_rests 69 = .ok (.iaload, 1) := by decide +kernel
theorem dX12_rests_70 : decode cX12_rests 70 = .ok (.if_icmp .gt 7, 3) := by decide +kernel
theorem dX12_rests_73 : decode cX12_rests 73 = .ok (.iconst 1, 1) := by decide +kernel
theorem dX12_rests_74 : decode cX12_rests 74 = .ok (.goto 4, 3) := by decide +kernel
theorem dX12_rests_77 : decode cX12_rests 77 = .ok (.iconst 0, 1) := by decide +kernel
theorem dX12_rests_78 : decode cX12_rests 78 = .ok (.istore_n 3, 1) := by decide +kernel
theorem dX12_rests_79 : decode cX12_rests 79 = .ok (.iinc 4 1, 3) := by decide +kernel
theorem dX12_rests_82 : decode cX12_rests 82 = .ok (.goto (-72), 3) := by decide +kernel
theorem dX12_rests_85 : decode cX12_rests 85 = .ok (.iload_n 3, 1) := by decide +kernel
theorem dX12_rests_86 : decode cX12_rests 86 = .ok (.ireturn, 1) := by decide +kernel
theorem dX12_rivals_0 : decode cX12_rivals 0 = .ok (.aload_n 0, 1) := by decide +kernel
theorem dX12_rivals_1 : decode cX12_rivals 1 = .ok (.iload_n 1, 1) := by decide +kernel
theorem dX12_rivals_2 : decode cX12_rivals 2 = .ok (.invokevirtual 143, 3) := by decide +kernel
theorem dX12_rivals_5 : decode cX12_rivals 5 = .ok (.ifCond .eq 21, 3) := by decide +kernel
theorem dX12_rivals_8 : decode cX12_rivals 8 = .ok (.aload_n 0, 1) := by decide +kernel
theorem dX12_rivals_9 : decode cX12_rivals 9 = .ok (.iload_n 2, 1) := by decide +kernel
theorem dX12_rivals_10 : decode cX12_rivals 10 = .ok (.invokevirtual 143, 3) := by decide +kernel
theorem dX12_rivals_13 : decode cX12_rivals 13 = .ok (.ifCond .eq 13, 3) := by decide +kernel
theorem dX12_rivals_16 : decode cX12_rivals 16 = .ok (.iload_n 1, 1) := by decide +kernel
theorem dX12_rivals_17 : decode cX12_rivals 17 = .ok (.iload_n 2, 1) := by decide +kernel
theorem dX12_rivals_18 : decode cX12_rivals 18 = .ok (.if_icmp .eq 8, 3) := by decide +kernel
theorem dX12_rivals_21 : decode cX12_rivals 21 = .ok (.iload_n 3, 1) := by decide +kernel
theorem dX12_rivals_22 : decode cX12_rivals 22 = .ok (.iconst (-1), 1) := by decide +kernel
theorem dX12_rivals_23 : decode cX12_rivals 23 = .ok (.if_icmp .ge 10, 3) := by decide +kernel
theorem dX12_rivals_26 : decode cX12_rivals 26 = .ok (.aload_n 0, 1) := by decide +kernel
theorem dX12_rivals_27 : decode cX12_rivals 27 = .ok (.bipush (-10), 2) := by decide +kernel
theorem dX12_rivals_29 : decode cX12_rivals 29 = .ok (.invokevirtual 82, 3) := by decide +kernel
theorem dX12_rivals_32 : decode cX12_rivals 32 = .ok (.ireturn, 1) := by decide +kernel
theorem dX12_rivals_33 : decode cX12_rivals 33 = .ok (.aload_n 0, 1) := by decide +kernel
theorem dX12_rivals_34 : decode cX12_rivals 34 = .ok (.getfield 7, 3) := by decide +kernel
theorem dX12_rivals_37 : decode cX12_rivals 37 = .ok (.iconst 4, 1) := by decide +kernel
theorem dX12_rivals_38 : decode cX12_rivals 38 = .ok (.iaload, 1) := by decide +kernel
theorem dX12_rivals_39 : decode cX12_rivals 39 = .ok (.istore 4, 2) := by decide +kernel
theorem dX12_rivals_41 : decode cX12_rivals 41 = .ok (.iload 4, 2) := by decide +kernel
theorem dX12_rivals_43 : decode cX12_rivals 43 = .ok (.bipush 8, 2) := by decide +kernel
theorem dX12_rivals_45 : decode cX12_rivals 45 = .ok (.if_icmp .ge 136, 3) := by decide +kernel
theorem dX12_rivals_48 : decode cX12_rivals 48 = .ok (.aload_n 0, 1) := by decide +kernel
theorem dX12_rivals_49 : decode cX12_rivals 49 = .ok (.getfield 7, 3) := by decide +kernel
theorem dX12_rivals_52 : decode cX12_rivals 52 = .ok (.iconst 4, 1) := by decide +kernel
theorem dX12_rivals_53 : decode cX12_rivals 53 = .ok (.iaload, 1) := by decide +kernel
theorem dX12_rivals_54 : decode cX12_rivals 54 = .ok (.istore 5, 2) := by decide +kernel
theorem dX12_rivals_56 : decode cX12_rivals 56 = .ok (.iload 5, 2) := by decide +kernel
theorem dX12_rivals_58 : decode cX12_rivals 58 = .ok (.bipush 8, 2) := by decide +kernel
theorem dX12_rivals_60 : decode cX12_rivals 60 = .ok (.if_icmp .ge 115, 3) := by decide +kernel
theorem dX12_rivals_63 : decode cX12_rivals 63 = .ok (.aload_n 0, 1) := by decide +kernel
theorem dX12_rivals_64 : decode cX12_rivals 64 = .ok (.invokevirtual 140, 3) := by decide +kernel
theorem dX12_rivals_67 : decode cX12_rivals 67 = .ok (.aload_n 0, 1) := by decide +kernel
theorem dX12_rivals_68 : decode cX12_rivals 68 = .ok (.getfield 42, 3) := by decide +kernel
theorem dX12_rivals_71 : decode cX12_rivals 71 = .ok (.bipush 8, 2) := by decide +kernel
theorem dX12_rivals_73 : decode cX12_rivals 73 = .ok (.iload 4, 2) := by decide +kernel
theorem dX12_rivals_75 : decode cX12_rivals 75 = .ok (.imul, 1) := by decide +kernel
theorem dX12_rivals_76 : decode cX12_rivals 76 = .ok (.iload 5, 2) := by decide +kernel
theorem dX12_rivals_78 : decode cX12_rivals 78 = .ok (.iadd, 1) := by decide +kernel
theorem dX12_rivals_79 : decode cX12_rivals 79 = .ok (.aload_n 0, 1) := by decide +kernel
theorem dX12_rivals_80 : decode cX12_rivals 80 = .ok (.iload_n 1, 1) := by decide +kernel
theorem dX12_rivals_81 : decode cX12_rivals 81 = .ok (.invokevirtual 155, 3) := by decide +kernel
theorem dX12_rivals_84 : decode cX12_rivals 84 = .ok (.ineg, 1) := by decide +kernel
theorem dX12_rivals_85 : decode cX12_rivals 85 = .ok (.iastore, 1) := by decide +kernel
theorem dX12_rivals_86 : decode cX12_rivals 86 = .ok (.aload_n 0, 1) := by decide +kernel
theorem dX12_rivals_87 : decode cX12_rivals 87 = .ok (.getfield 45, 3) := by decide +kernel
theorem dX12_rivals_90 : decode cX12_rivals 90 = .ok (.bipush 8, 2) := by decide +kernel
theorem dX12_rivals_92 : decode cX12_rivals 92 = .ok (.iload 4, 2) := by decide +kernel
theorem dX12_rivals_94 : decode cX12_rivals 94 = .ok (.imul, 1) := by decide +kernel
theorem dX12_rivals_95 : decode cX12_rivals 95 = .ok (.iload 5, 2) := by decide +kernel
theorem dX12_rivals_97 : decode cX12_rivals 97 = .ok (.iadd, 1) := by decide +kernel
theorem dX12_rivals_98 : decode cX12_rivals 98 = .ok (.aload_n 0, 1) := by decide +kernel
theorem dX12_rivals_99 : decode cX12_rivals 99 = .ok (.iload_n 2, 1) := by decide +kernel
theorem dX12_rivals_100 : decode cX12_rivals 100 = .ok (.invokevirtual 155, 3) := by decide +kernel
theorem dX12_rivals_103 : decode cX12_rivals 103 = .ok (.ineg, 1) := by decide +kernel
theorem dX12_rivals_104 : decode cX12_rivals 104 = .ok (.iastore, 1) := by decide +kernel
theorem dX12_rivals_105 : decode cX12_rivals 105 = .ok (.aload_n 0, 1) := by decide +kernel
theorem dX12_rivals_106 : decode cX12_rivals 106 = .ok (.getfield 39, 3) := by decide +kernel
theorem dX12_rivals_109 : decode cX12_rivals 109 = .ok (.iload_n 1, 1) := by decide +kernel
theorem dX12_rivals_110 : decode cX12_rivals 110 = .ok (.iload 4, 2) := by decide +kernel
theorem dX12_rivals_112 : decode cX12_rivals 112 = .ok (.iastore, 1) := by decide +kernel
theorem dX12_rivals_113 : decode cX12_rivals 113 = .ok (.aload_n 0, 1) := by decide +kernel
theorem dX12_rivals_114 : decode cX12_rivals 114 = .ok (.getfield 39, 3) := by decide +kernel
theorem dX12_rivals_117 : decode cX12_rivals 117 = .ok (.iload_n 2, 1) := by decide +kernel
theorem dX12_rivals_118 : decode cX12_rivals 118 = .ok (.iload 5, 2) := by decide +kernel
theorem dX12_rivals_120 : decode cX12_rivals 120 = .ok (.iastore, 1) := by decide +kernel
theorem dX12_rivals_121 : decode cX12_rivals 121 = .ok (.aload_n 0, 1) := by decide +kernel
theorem dX12_rivals_122 : decode cX12_rivals 122 = .ok (.bipush 8, 2) := by decide +kernel
theorem dX12_rivals_124 : decode cX12_rivals 124 = .ok (.invokevirtual 151, 3) := by decide +kernel
theorem dX12_rivals_127 : decode cX12_rivals 127 = .ok (.aload_n 0, 1) := by decide +kernel
theorem dX12_rivals_128 : decode cX12_rivals 128 = .ok (.getfield 42, 3) := by decide +kernel
theorem dX12_rivals_131 : decode cX12_rivals 131 = .ok (.bipush 8, 2) := by decide +kernel
theorem dX12_rivals_133 : decode cX12_rivals 133 = .ok (.iload 4, 2) := by decide +kernel
theorem dX12_rivals_135 : decode cX12_rivals 135 = .ok (.imul, 1) := by decide +kernel
theorem dX12_rivals_136 : decode cX12_rivals 136 = .ok (.iload 5, 2) := by decide +kernel
theorem dX12_rivals_138 : decode cX12_rivals 138 = .ok (.iadd, 1) := by decide +kernel
theorem dX12_rivals_139 : decode cX12_rivals 139 = .ok (.dup2, 1) := by decide +kernel
theorem dX12_rivals_140 : decode cX12_rivals 140 = .ok (.iaload, 1) := by decide +kernel
theorem dX12_rivals_141 : decode cX12_rivals 141 = .ok (.aload_n 0, 1) := by decide +kernel
theorem dX12_rivals_142 : decode cX12_rivals 142 = .ok (.iload_n 1, 1) := by decide +kernel
theorem dX12_rivals_143 : decode cX12_rivals 143 = .ok (.invokevirtual 155, 3) := by decide +kernel
theorem dX12_rivals_146 : decode cX12_rivals 146 = .ok (.iadd, 1) := by decide +kernel
theorem dX12_rivals_147 : decode cX12_rivals 147 = .ok (.iastore, 1) := by decide +kernel
theorem dX12_rivals_148 : decode cX12_rivals 148 = .ok (.aload_n 0, 1) := by decide +kernel
theorem dX12_rivals_149 : decode cX12_rivals 149 = .ok (.getfield 45, 3) := by decide +kernel
theorem dX12_rivals_152 : decode cX12_rivals 152 = .ok (.bipush 8, 2) := by decide +kernel
theorem dX12_rivals_154 : decode cX12_rivals 154 = .ok (.iload 4, 2) := by decide +kernel
theorem dX12_rivals_156 : decode cX12_rivals 156 = .ok (.imul, 1) := by decide +kernel
theorem dX12_rivals_157 : decode cX12_rivals 157 = .ok (.iload 5, 2) := by decide +kernel
theorem dX12_rivals_159 : decode cX12_rivals 159 = .ok (.iadd, 1) := by decide +kernel
theorem dX12_rivals_160 : decode cX12_rivals 160 = .ok (.dup2, 1) := by decide +kernel
theorem dX12_rivals_161 : decode cX12_rivals 161 = .ok (.iaload, 1) := by decide +kernel
theorem dX12_rivals_162 : decode cX12_rivals 162 = .ok (.aload_n 0, 1) := by decide +kernel
theorem dX12_rivals_163 : decode cX12_rivals 163 = .ok (.iload_n 2, 1) := by decide +kernel
theorem dX12_rivals_164 : decode cX12_rivals 164 = .ok (.invokevirtual 155, 3) := by decide +kernel
theorem dX12_rivals_167 : decode cX12_rivals 167 = .ok (.iadd, 1) := by decide +kernel
theorem dX12_rivals_168 : decode cX12_rivals 168 = .ok (.iastore, 1) := by decide +kernel
theorem dX12_rivals_169 : decode cX12_rivals 169 = .ok (.iinc 5 1, 3) := by decide +kernel
theorem dX12_rivals_172 : decode cX12_rivals 172 = .ok (.goto (-116), 3) := by decide +kernel
theorem dX12_rivals_175 : decode cX12_rivals 175 = .ok (.iinc 4 1, 3) := by decide +kernel
theorem dX12_rivals_178 : decode cX12_rivals 178 = .ok (.goto (-137), 3) := by decide +kernel
theorem dX12_rivals_181 : decode cX12_rivals 181 = .ok (.iconst 0, 1) := by decide +kernel
theorem dX12_rivals_182 : decode cX12_rivals 182 = .ok (.istore 4, 2) := by decide +kernel
theorem dX12_rivals_184 : decode cX12_rivals 184 = .ok (.bipush (-5), 2) := by decide +kernel
theorem dX12_rivals_186 : decode cX12_rivals 186 = .ok (.istore 5, 2) := by decide +kernel
theorem dX12_rivals_188 : decode cX12_rivals 188 = .ok (.aload_n 0, 1) := by decide +kernel
theorem dX12_rivals_189 : decode cX12_rivals 189 = .ok (.getfield 7, 3) := by decide +kernel
theorem dX12_rivals_192 : decode cX12_rivals 192 = .ok (.iconst 4, 1) := by decide +kernel
theorem dX12_rivals_193 : decode cX12_rivals 193 = .ok (.iaload, 1) := by decide +kernel
theorem dX12_rivals_194 : decode cX12_rivals 194 = .ok (.istore 6, 2) := by decide +kernel
theorem dX12_rivals_196 : decode cX12_rivals 196 = .ok (.iload 6, 2) := by decide +kernel
theorem dX12_rivals_198 : decode cX12_rivals 198 = .ok (.bipush 8, 2) := by decide +kernel
theorem dX12_rivals_200 : decode cX12_rivals 200 = .ok (.if_icmp .ge 65, 3) := by decide +kernel
theorem dX12_rivals_203 : decode cX12_rivals 203 = .ok (.aload_n 0, 1) := by decide +kernel
theorem dX12_rivals_204 : decode cX12_rivals 204 = .ok (.getfield 7, 3) := by decide +kernel
theorem dX12_rivals_207 : decode cX12_rivals 207 = .ok (.iconst 4, 1) := by decide +kernel
theorem dX12_rivals_208 : decode cX12_rivals 208 = .ok (.iaload, 1) := by decide +kernel
theorem dX12_rivals_209 : decode cX12_rivals 209 = .ok (.istore 7, 2) := by decide +kernel
theorem dX12_rivals_211 : decode cX12_rivals 211 = .ok (.iload 7, 2) := by decide +kernel
theorem dX12_rivals_213 : decode cX12_rivals 213 = .ok (.bipush 8, 2) := by decide +kernel
theorem dX12_rivals_215 : decode cX12_rivals 215 = .ok (.if_icmp .ge 44, 3) := by decide +kernel
theorem dX12_rivals_218 : decode cX12_rivals 218 = .ok (.aload_n 0, 1) := by decide +kernel
theorem dX12_rivals_219 : decode cX12_rivals 219 = .ok (.iload 6, 2) := by decide +kernel
theorem dX12_rivals_221 : decode cX12_rivals 221 = .ok (.iload 7, 2) := by decide +kernel
theorem dX12_rivals_223 : decode cX12_rivals 223 = .ok (.invokevirtual 161, 3) := by decide +kernel
theorem dX12_rivals_226 : decode cX12_rivals 226 = .ok (.ifCond .eq 27, 3) := by decide +kernel
theorem dX12_rivals_229 : decode cX12_rivals 229 = .ok (.iload 4, 2) := by decide +kernel
theorem dX12_rivals_231 : decode cX12_rivals 231 = .ok (.iload_n 3, 1) := by decide +kernel
theorem dX12_rivals_232 : decode cX12_rivals 232 = .ok (.if_icmp .ne 14, 3) := by decide +kernel
theorem dX12_rivals_235 : decode cX12_rivals 235 = .ok (.bipush 8, 2) := by decide +kernel
theorem dX12_rivals_237 : decode cX12_rivals 237 = .ok (.iload 6, 2) := by decide +kernel
theorem dX12_rivals_239 : decode cX12_rivals 239 = .ok (.imul, 1) := by decide +kernel
theorem dX12_rivals_240 : decode cX12_rivals 240 = .ok (.iload 7, 2) := by decide +kernel
theorem dX12_rivals_242 : decode cX12_rivals 242 = .ok (.iadd, 1) := by decide +kernel
theorem dX12_rivals_243 : decode cX12_rivals 243 = .ok (.goto 5, 3) := by decide +kernel
theorem dX12_rivals_246 : decode cX12_rivals 246 = .ok (.iload 5, 2) := by decide +kernel
theorem dX12_rivals_248 : decode cX12_rivals 248 = .ok (.istore 5, 2) := by decide +kernel
theorem dX12_rivals_250 : decode cX12_rivals 250 = .ok (.iinc 4 1, 3) := by decide +kernel
theorem dX12_rivals_253 : decode cX12_rivals 253 = .ok (.iinc 7 1, 3) := by decide +kernel
theorem dX12_rivals_256 : decode cX12_rivals 256 = .ok (.goto (-45), 3) := by decide +kernel
theorem dX12_rivals_259 : decode cX12_rivals 259 = .ok (.iinc 6 1, 3) := by decide +kernel
theorem dX12_rivals_262 : decode cX12_rivals 262 = .ok (.goto (-66), 3) := by decide +kernel
theorem dX12_rivals_265 : decode cX12_rivals 265 = .ok (.iload_n 3, 1) := by decide +kernel
theorem dX12_rivals_266 : decode cX12_rivals 266 = .ok (.iconst (-1), 1) := by decide +kernel
theorem dX12_rivals_267 : decode cX12_rivals 267 = .ok (.if_icmp .ne 8, 3) := by decide +kernel
theorem dX12_rivals_270 : decode cX12_rivals 270 = .ok (.iload 4, 2) := by decide +kernel
theorem dX12_rivals_272 : decode cX12_rivals 272 = .ok (.goto 5, 3) := by decide +kernel
theorem dX12_rivals_275 : decode cX12_rivals 275 = .ok (.iload 5, 2) := by decide +kernel
theorem dX12_rivals_277 : decode cX12_rivals 277 = .ok (.ireturn, 1) := by decide +kernel
theorem dX12_handicap_0 : decode cX12_handicap 0 = .ok (.aload_n 0, 1) := by decide +kernel
theorem dX12_handicap_1 : decode cX12_handicap 1 = .ok (.iload_n 1, 1) := by decide +kernel
theorem dX12_handicap_2 : decode cX12_handicap 2 = .ok (.invokevirtual 143, 3) := by decide +kernel
theorem dX12_handicap_5 : decode cX12_handicap 5 = .ok (.ifCond .ne 10, 3) := by decide +kernel
theorem dX12_handicap_8 : decode cX12_handicap 8 = .ok (.aload_n 0, 1) := by decide +kernel
theorem dX12_handicap_9 : decode cX12_handicap 9 = .ok (.bipush (-2), 2) := by decide +kernel
theorem dX12_handicap_11 : decode cX12_handicap 11 = .ok (.invokevirtual 82, 3) := by decide +kernel
theorem dX12_handicap_14 : decode cX12_handicap 14 = .ok (.ireturn, 1) := by decide +kernel
theorem dX12_handicap_15 : decode cX12_handicap 15 = .ok (.aload_n 0, 1) := by decide +kernel
theorem dX12_handicap_16 : decode cX12_handicap 16 = .ok (.getfield 7, 3) := by decide +kernel
theorem dX12_handicap_19 : decode cX12_handicap 19 = .ok (.iconst 4, 1) := by decide +kernel
theorem dX12_handicap_20 : decode cX12_handicap 20 = .ok (.iaload, 1) := by decide +kernel
theorem dX12_handicap_21 : decode cX12_handicap 21 = .ok (.istore_n 2, 1) := by decide +kernel
theorem dX12_handicap_22 : decode cX12_handicap 22 = .ok (.aload_n 0, 1) := by decide +kernel
theorem dX12_handicap_23 : decode cX12_handicap 23 = .ok (.invokevirtual 140, 3) := by decide +kernel
theorem dX12_handicap_26 : decode cX12_handicap 26 = .ok (.iload_n 2, 1) := by decide +kernel
theorem dX12_handicap_27 : decode cX12_handicap 27 = .ok (.bipush 8, 2) := by decide +kernel
theorem dX12_handicap_29 : decode cX12_handicap 29 = .ok (.if_icmp .eq 36, 3) := by decide +kernel
theorem dX12_handicap_32 : decode cX12_handicap 32 = .ok (.aload_n 0, 1) := by decide +kernel
theorem dX12_handicap_33 : decode cX12_handicap 33 = .ok (.getfield 33, 3) := by decide +kernel
theorem dX12_handicap_36 : decode cX12_handicap 36 = .ok (.iload_n 2, 1) := by decide +kernel
theorem dX12_handicap_37 : decode cX12_handicap 37 = .ok (.iaload, 1) := by decide +kernel
theorem dX12_handicap_38 : decode cX12_handicap 38 = .ok (.iconst (-1), 1) := by decide +kernel
theorem dX12_handicap_39 : decode cX12_handicap 39 = .ok (.if_icmp .eq 26, 3) := by decide +kernel
theorem dX12_handicap_42 : decode cX12_handicap 42 = .ok (.aload_n 0, 1) := by decide +kernel
theorem dX12_handicap_43 : decode cX12_handicap 43 = .ok (.iload_n 1, 1) := by decide +kernel
theorem dX12_handicap_44 : decode cX12_handicap 44 = .ok (.invokevirtual 112, 3) := by decide +kernel
theorem dX12_handicap_47 : decode cX12_handicap 47 = .ok (.ifCond .ne 18, 3) := by decide +kernel
theorem dX12_handicap_50 : decode cX12_handicap 50 = .ok (.aload_n 0, 1) := by decide +kernel
theorem dX12_handicap_51 : decode cX12_handicap 51 = .ok (.iload_n 1, 1) := by decide +kernel
theorem dX12_handicap_52 : decode cX12_handicap 52 = .ok (.aload_n 0, 1) := by decide +kernel
theorem dX12_handicap_53 : decode cX12_handicap 53 = .ok (.getfield 33, 3) := by decide +kernel
theorem dX12_handicap_56 : decode cX12_handicap 56 = .ok (.iload_n 2, 1) := by decide +kernel
theorem dX12_handicap_57 : decode cX12_handicap 57 = .ok (.iaload, 1) := by decide +kernel
theorem dX12_handicap_58 : decode cX12_handicap 58 = .ok (.iload_n 2, 1) := by decide +kernel
theorem dX12_handicap_59 : decode cX12_handicap 59 = .ok (.invokevirtual 118, 3) := by decide +kernel
theorem dX12_handicap_62 : decode cX12_handicap 62 = .ok (.ifCond .ne 5, 3) := by decide +kernel
theorem dX12_handicap_65 : decode cX12_handicap 65 = .ok (.iconst (-1), 1) := by decide +kernel
theorem dX12_handicap_66 : decode cX12_handicap 66 = .ok (.ireturn, 1) := by decide +kernel
theorem dX12_handicap_67 : decode cX12_handicap 67 = .ok (.aload_n 0, 1) := by decide +kernel
theorem dX12_handicap_68 : decode cX12_handicap 68 = .ok (.iload_n 1, 1) := by decide +kernel
theorem dX12_handicap_69 : decode cX12_handicap 69 = .ok (.aload_n 0, 1) := by decide +kernel
theorem dX12_handicap_70 : decode cX12_handicap 70 = .ok (.getfield 33, 3) := by decide +kernel
theorem dX12_handicap_73 : decode cX12_handicap 73 = .ok (.iload_n 2, 1) := by decide +kernel
theorem dX12_handicap_74 : decode cX12_handicap 74 = .ok (.iaload, 1) := by decide +kernel
theorem dX12_handicap_75 : decode cX12_handicap 75 = .ok (.iload_n 2, 1) := by decide +kernel
theorem dX12_handicap_76 : decode cX12_handicap 76 = .ok (.invokevirtual 118, 3) := by decide +kernel
theorem dX12_handicap_79 : decode cX12_handicap 79 = .ok (.istore_n 3, 1) := by decide +kernel
theorem dX12_handicap_80 : decode cX12_handicap 80 = .ok (.iconst 0, 1) := by decide +kernel
theorem dX12_handicap_81 : decode cX12_handicap 81 = .ok (.istore 4, 2) := by decide +kernel
theorem dX12_handicap_83 : decode cX12_handicap 83 = .ok (.iconst 0, 1) := by decide +kernel
theorem dX12_handicap_84 : decode cX12_handicap 84 = .ok (.istore 5, 2) := by decide +kernel
theorem dX12_handicap_86 : decode cX12_handicap 86 = .ok (.iload 5, 2) := by decide +kernel
theorem dX12_handicap_88 : decode cX12_handicap 88 = .ok (.aload_n 0, 1) := by decide +kernel
theorem dX12_handicap_89 : decode cX12_handicap 89 = .ok (.invokevirtual 61, 3) := by decide +kernel
theorem dX12_handicap_92 : decode cX12_handicap 92 = .ok (.if_icmp .ge 80, 3) := by decide +kernel
theorem dX12_handicap_95 : decode cX12_handicap 95 = .ok (.iload 5, 2) := by decide +kernel
theorem dX12_handicap_97 : decode cX12_handicap 97 = .ok (.iload_n 1, 1) := by decide +kernel
theorem dX12_handicap_98 : decode cX12_handicap 98 = .ok (.if_icmp .ge 9, 3) := by decide +kernel
theorem dX12_handicap_101 : decode cX12_handicap 101 = .ok (.iload_n 3, 1) := by decide +kernel
theorem dX12_handicap_102 : decode cX12_handicap 102 = .ok (.iconst 1, 1) := by decide +kernel
theorem dX12_handicap_103 : decode cX12_handicap 103 = .ok (.isub, 1) := by decide +kernel
theorem dX12_handicap_104 : decode cX12_handicap 104 = .ok (.goto 4, 3) := by decide +kernel
theorem dX12_handicap_107 : decode cX12_handicap 107 = .ok (.iload_n 3, 1) := by decide +kernel
theorem dX12_handicap_108 : decode cX12_handicap 108 = .ok (.istore 6, 2) := by decide +kernel
theorem dX12_handicap_110 : decode cX12_handicap 110 = .ok (.iload 5, 2) := by decide +kernel
theorem dX12_handicap_112 : decode cX12_handicap 112 = .ok (.iload_n 1, 1) := by decide +kernel
theorem dX12_handicap_113 : decode cX12_handicap 113 = .ok (.if_icmp .eq 29, 3) := by decide +kernel
theorem dX12_handicap_116 : decode cX12_handicap 116 = .ok (.aload_n 0, 1) := by decide +kernel
theorem dX12_handicap_117 : decode cX12_handicap 117 = .ok (.iload 5, 2) := by decide +kernel
theorem dX12_handicap_119 : decode cX12_handicap 119 = .ok (.iload_n 2, 1) := by decide +kernel
theorem dX12_handicap_120 : decode cX12_handicap 120 = .ok (.invokevirtual 121, 3) := by decide +kernel
theorem dX12_handicap_123 : decode cX12_handicap 123 = .ok (.ifCond .eq 19, 3) := by decide +kernel
theorem dX12_handicap_126 : decode cX12_handicap 126 = .ok (.aload_n 0, 1) := by decide +kernel
theorem dX12_handicap_127 : decode cX12_handicap 127 = .ok (.iload 5, 2) := by decide +kernel
theorem dX12_handicap_129 : decode cX12_handicap 129 = .ok (.aload_n 0, 1) := by decide +kernel
theorem dX12_handicap_130 : decode cX12_handicap 130 = .ok (.getfield 33, 3) := by decide +kernel
theorem dX12_handicap_133 : decode cX12_handicap 133 = .ok (.iload_n 2, 1) := by decide +kernel
theorem dX12_handicap_134 : decode cX12_handicap 134 = .ok (.iaload, 1) := by decide +kernel
theorem dX12_handicap_135 : decode cX12_handicap 135 = .ok (.iload_n 2, 1) := by decide +kernel
theorem dX12_handicap_136 : decode cX12_handicap 136 = .ok (.invokevirtual 118, 3) := by decide +kernel
theorem dX12_handicap_139 : decode cX12_handicap 139 = .ok (.goto 4, 3) := by decide +kernel
theorem dX12_handicap_142 : decode cX12_handicap 142 = .ok (.iconst 0, 1) := by decide +kernel
theorem dX12_handicap_143 : decode cX12_handicap 143 = .ok (.istore 7, 2) := by decide +kernel
theorem dX12_handicap_145 : decode cX12_handicap 145 = .ok (.iload 4, 2) := by decide +kernel
theorem dX12_handicap_147 : decode cX12_handicap 147 = .ok (.iload 7, 2) := by decide +kernel
theorem dX12_handicap_149 : decode cX12_handicap 149 = .ok (.iload 6, 2) := by decide +kernel
theorem dX12_handicap_151 : decode cX12_handicap 151 = .ok (.if_icmp .le 11, 3) := by decide +kernel
theorem dX12_handicap_154 : decode cX12_handicap 154 = .ok (.iload 7, 2) := by decide +kernel
theorem dX12_handicap_156 : decode cX12_handicap 156 = .ok (.iload 6, 2) := by decide +kernel
theorem dX12_handicap_158 : decode cX12_handicap 158 = .ok (.isub, 1) := by decide +kernel
theorem dX12_handicap_159 : decode cX12_handicap 159 = .ok (.goto 4, 3) := by decide +kernel
theorem dX12_handicap_162 : decode cX12_handicap 162 = .ok (.iconst 0, 1) := by decide +kernel
theorem dX12_handicap_163 : decode cX12_handicap 163 = .ok (.iadd, 1) := by decide +kernel
theorem dX12_handicap_164 : decode cX12_handicap 164 = .ok (.istore 4, 2) := by decide +kernel
theorem dX12_handicap_166 : decode cX12_handicap 166 = .ok (.iinc 5 1, 3) := by decide +kernel
theorem dX12_handicap_169 : decode cX12_handicap 169 = .ok (.goto (-83), 3) := by decide +kernel
theorem dX12_handicap_172 : decode cX12_handicap 172 = .ok (.iload 4, 2) := by decide +kernel
theorem dX12_handicap_174 : decode cX12_handicap 174 = .ok (.ireturn, 1) := by decide +kernel
theorem dX12_order_0 : decode cX12_order 0 = .ok (.aload_n 0, 1) := by decide +kernel
theorem dX12_order_1 : decode cX12_order 1 = .ok (.iload_n 1, 1) := by decide +kernel
theorem dX12_order_2 : decode cX12_order 2 = .ok (.invokevirtual 143, 3) := by decide +kernel
theorem dX12_order_5 : decode cX12_order 5 = .ok (.ifCond .ne 10, 3) := by decide +kernel
theorem dX12_order_8 : decode cX12_order 8 = .ok (.aload_n 0, 1) := by decide +kernel
theorem dX12_order_9 : decode cX12_order 9 = .ok (.bipush (-2), 2) := by decide +kernel
theorem dX12_order_11 : decode cX12_order 11 = .ok (.invokevirtual 82, 3) := by decide +kernel
theorem dX12_order_14 : decode cX12_order 14 = .ok (.ireturn, 1) := by decide +kernel
theorem dX12_order_15 : decode cX12_order 15 = .ok (.aload_n 0, 1) := by decide +kernel
theorem dX12_order_16 : decode cX12_order 16 = .ok (.invokevirtual 140, 3) := by decide +kernel
theorem dX12_order_19 : decode cX12_order 19 = .ok (.aload_n 0, 1) := by decide +kernel
theorem dX12_order_20 : decode cX12_order 20 = .ok (.bipush 8, 2) := by decide +kernel
theorem dX12_order_22 : decode cX12_order 22 = .ok (.invokevirtual 151, 3) := by decide +kernel
theorem dX12_order_25 : decode cX12_order 25 = .ok (.iconst (-1), 1) := by decide +kernel
theorem dX12_order_26 : decode cX12_order 26 = .ok (.istore_n 2, 1) := by decide +kernel
theorem dX12_order_27 : decode cX12_order 27 = .ok (.aload_n 0, 1) := by decide +kernel
theorem dX12_order_28 : decode cX12_order 28 = .ok (.iload_n 1, 1) := by decide +kernel
theorem dX12_order_29 : decode cX12_order 29 = .ok (.invokevirtual 155, 3) := by decide +kernel
theorem dX12_order_32 : decode cX12_order 32 = .ok (.istore_n 3, 1) := by decide +kernel
theorem dX12_order_33 : decode cX12_order 33 = .ok (.aload_n 0, 1) := by decide +kernel
theorem dX12_order_34 : decode cX12_order 34 = .ok (.getfield 7, 3) := by decide +kernel
theorem dX12_order_37 : decode cX12_order 37 = .ok (.iconst 4, 1) := by decide +kernel
theorem dX12_order_38 : decode cX12_order 38 = .ok (.iaload, 1) := by decide +kernel
theorem dX12_order_39 : decode cX12_order 39 = .ok (.istore 4, 2) := by decide +kernel
theorem dX12_order_41 : decode cX12_order 41 = .ok (.iload 4, 2) := by decide +kernel
theorem dX12_order_43 : decode cX12_order 43 = .ok (.bipush 8, 2) := by decide +kernel
theorem dX12_order_45 : decode cX12_order 45 = .ok (.if_icmp .ge 147, 3) := by decide +kernel
theorem dX12_order_48 : decode cX12_order 48 = .ok (.iload 4, 2) := by decide +kernel
theorem dX12_order_50 : decode cX12_order 50 = .ok (.iconst 1, 1) := by decide +kernel
theorem dX12_order_51 : decode cX12_order 51 = .ok (.iadd, 1) := by decide +kernel
theorem dX12_order_52 : decode cX12_order 52 = .ok (.istore 5, 2) := by decide +kernel
theorem dX12_order_54 : decode cX12_order 54 = .ok (.iload 5, 2) := by decide +kernel
theorem dX12_order_56 : decode cX12_order 56 = .ok (.bipush 8, 2) := by decide +kernel
theorem dX12_order_58 : decode cX12_order 58 = .ok (.if_icmp .ge 128, 3) := by decide +kernel
theorem dX12_order_61 : decode cX12_order 61 = .ok (.aload_n 0, 1) := by decide +kernel
theorem dX12_order_62 : decode cX12_order 62 = .ok (.invokevirtual 140, 3) := by decide +kernel
theorem dX12_order_65 : decode cX12_order 65 = .ok (.aload_n 0, 1) := by decide +kernel
theorem dX12_order_66 : decode cX12_order 66 = .ok (.getfield 33, 3) := by decide +kernel
theorem dX12_order_69 : decode cX12_order 69 = .ok (.iload 4, 2) := by decide +kernel
theorem dX12_order_71 : decode cX12_order 71 = .ok (.aload_n 0, 1) := by decide +kernel
theorem dX12_order_72 : decode cX12_order 72 = .ok (.getfield 7, 3) := by decide +kernel
theorem dX12_order_75 : decode cX12_order 75 = .ok (.bipush 41, 2) := by decide +kernel
theorem dX12_order_77 : decode cX12_order 77 = .ok (.iload 5, 2) := by decide +kernel
theorem dX12_order_79 : decode cX12_order 79 = .ok (.iadd, 1) := by decide +kernel
theorem dX12_order_80 : decode cX12_order 80 = .ok (.iaload, 1) := by decide +kernel
theorem dX12_order_81 : decode cX12_order 81 = .ok (.iastore, 1) := by decide +kernel
theorem dX12_order_82 : decode cX12_order 82 = .ok (.aload_n 0, 1) := by decide +kernel
theorem dX12_order_83 : decode cX12_order 83 = .ok (.getfield 36, 3) := by decide +kernel
theorem dX12_order_86 : decode cX12_order 86 = .ok (.iload 4, 2) := by decide +kernel
theorem dX12_order_88 : decode cX12_order 88 = .ok (.aload_n 0, 1) := by decide +kernel
theorem dX12_order_89 : decode cX12_order 89 = .ok (.getfield 7, 3) := by decide +kernel
theorem dX12_order_92 : decode cX12_order 92 = .ok (.bipush 49, 2) := by decide +kernel
theorem dX12_order_94 : decode cX12_order 94 = .ok (.iload 5, 2) := by decide +kernel
theorem dX12_order_96 : decode cX12_order 96 = .ok (.iadd, 1) := by decide +kernel
theorem dX12_order_97 : decode cX12_order 97 = .ok (.iaload, 1) := by decide +kernel
theorem dX12_order_98 : decode cX12_order 98 = .ok (.iastore, 1) := by decide +kernel
theorem dX12_order_99 : decode cX12_order 99 = .ok (.aload_n 0, 1) := by decide +kernel
theorem dX12_order_100 : decode cX12_order 100 = .ok (.getfield 33, 3) := by decide +kernel
theorem dX12_order_103 : decode cX12_order 103 = .ok (.iload 5, 2) := by decide +kernel
theorem dX12_order_105 : decode cX12_order 105 = .ok (.aload_n 0, 1) := by decide +kernel
theorem dX12_order_106 : decode cX12_order 106 = .ok (.getfield 7, 3) := by decide +kernel
theorem dX12_order_109 : decode cX12_order 109 = .ok (.bipush 41, 2) := by decide +kernel
theorem dX12_order_111 : decode cX12_order 111 = .ok (.iload 4, 2) := by decide +kernel
theorem dX12_order_113 : decode cX12_order 113 = .ok (.iadd, 1) := by decide +kernel
theorem dX12_order_114 : decode cX12_order 114 = .ok (.iaload, 1) := by decide +kernel
theorem dX12_order_115 : decode cX12_order 115 = .ok (.iastore, 1) := by decide +kernel
theorem dX12_order_116 : decode cX12_order 116 = .ok (.aload_n 0, 1) := by decide +kernel
theorem dX12_order_117 : decode cX12_order 117 = .ok (.getfield 36, 3) := by decide +kernel
theorem dX12_order_120 : decode cX12_order 120 = .ok (.iload 5, 2) := by decide +kernel
theorem dX12_order_122 : decode cX12_order 122 = .ok (.aload_n 0, 1) := by decide +kernel
theorem dX12_order_123 : decode cX12_order 123 = .ok (.getfield 7, 3) := by decide +kernel
theorem dX12_order_126 : decode cX12_order 126 = .ok (.bipush 49, 2) := by decide +kernel
theorem dX12_order_128 : decode cX12_order 128 = .ok (.iload 4, 2) := by decide +kernel
theorem dX12_order_130 : decode cX12_order 130 = .ok (.iadd, 1) := by decide +kernel
theorem dX12_order_131 : decode cX12_order 131 = .ok (.iaload, 1) := by decide +kernel
theorem dX12_order_132 : decode cX12_order 132 = .ok (.iastore, 1) := by decide +kernel
theorem dX12_order_133 : decode cX12_order 133 = .ok (.aload_n 0, 1) := by decide +kernel
theorem dX12_order_134 : decode cX12_order 134 = .ok (.bipush 8, 2) := by decide +kernel
theorem dX12_order_136 : decode cX12_order 136 = .ok (.invokevirtual 151, 3) := by decide +kernel
theorem dX12_order_139 : decode cX12_order 139 = .ok (.aload_n 0, 1) := by decide +kernel
theorem dX12_order_140 : decode cX12_order 140 = .ok (.iload_n 1, 1) := by decide +kernel
theorem dX12_order_141 : decode cX12_order 141 = .ok (.invokevirtual 155, 3) := by decide +kernel
theorem dX12_order_144 : decode cX12_order 144 = .ok (.iload_n 3, 1) := by decide +kernel
theorem dX12_order_145 : decode cX12_order 145 = .ok (.if_icmp .le 14, 3) := by decide +kernel
theorem dX12_order_148 : decode cX12_order 148 = .ok (.bipush 10, 2) := by decide +kernel
theorem dX12_order_150 : decode cX12_order 150 = .ok (.iload 4, 2) := by decide +kernel
theorem dX12_order_152 : decode cX12_order 152 = .ok (.imul, 1) := by decide +kernel
theorem dX12_order_153 : decode cX12_order 153 = .ok (.iload 5, 2) := by decide +kernel
theorem dX12_order_155 : decode cX12_order 155 = .ok (.iadd, 1) := by decide +kernel
theorem dX12_order_156 : decode cX12_order 156 = .ok (.goto 4, 3) := by decide +kernel
theorem dX12_order_159 : decode cX12_order 159 = .ok (.iload_n 2, 1) := by decide +kernel
theorem dX12_order_160 : decode cX12_order 160 = .ok (.istore_n 2, 1) := by decide +kernel
theorem dX12_order_161 : decode cX12_order 161 = .ok (.aload_n 0, 1) := by decide +kernel
theorem dX12_order_162 : decode cX12_order 162 = .ok (.iload_n 1, 1) := by decide +kernel
theorem dX12_order_163 : decode cX12_order 163 = .ok (.invokevirtual 155, 3) := by decide +kernel
theorem dX12_order_166 : decode cX12_order 166 = .ok (.iload_n 3, 1) := by decide +kernel
theorem dX12_order_167 : decode cX12_order 167 = .ok (.if_icmp .le 11, 3) := by decide +kernel
theorem dX12_order_170 : decode cX12_order 170 = .ok (.aload_n 0, 1) := by decide +kernel
theorem dX12_order_171 : decode cX12_order 171 = .ok (.iload_n 1, 1) := by decide +kernel
theorem dX12_order_172 : decode cX12_order 172 = .ok (.invokevirtual 155, 3) := by decide +kernel
theorem dX12_order_175 : decode cX12_order 175 = .ok (.goto 4, 3) := by decide +kernel
theorem dX12_order_178 : decode cX12_order 178 = .ok (.iload_n 3, 1) := by decide +kernel
theorem dX12_order_179 : decode cX12_order 179 = .ok (.istore_n 3, 1) := by decide +kernel
theorem dX12_order_180 : decode cX12_order 180 = .ok (.iinc 5 1, 3) := by decide +kernel
theorem dX12_order_183 : decode cX12_order 183 = .ok (.goto (-129), 3) := by decide +kernel
theorem dX12_order_186 : decode cX12_order 186 = .ok (.iinc 4 1, 3) := by decide +kernel
theorem dX12_order_189 : decode cX12_order 189 = .ok (.goto (-148), 3) := by decide +kernel
theorem dX12_order_192 : decode cX12_order 192 = .ok (.iload_n 2, 1) := by decide +kernel
theorem dX12_order_193 : decode cX12_order 193 = .ok (.ireturn, 1) := by decide +kernel
theorem dX12_note_0 : decode cX12_note 0 = .ok (.aload_n 0, 1) := by decide +kernel
theorem dX12_note_1 : decode cX12_note 1 = .ok (.iload_n 1, 1) := by decide +kernel
theorem dX12_note_2 : decode cX12_note 2 = .ok (.invokevirtual 143, 3) := by decide +kernel
theorem dX12_note_5 : decode cX12_note 5 = .ok (.ifCond .eq 38, 3) := by decide +kernel
theorem dX12_note_8 : decode cX12_note 8 = .ok (.iload_n 2, 1) := by decide +kernel
theorem dX12_note_9 : decode cX12_note 9 = .ok (.i2l, 1) := by decide +kernel
theorem dX12_note_10 : decode cX12_note 10 = .ok (.lconst 1, 1) := by decide +kernel
theorem dX12_note_11 : decode cX12_note 11 = .ok (.ldc2_w 80, 3) := by decide +kernel
theorem dX12_note_14 : decode cX12_note 14 = .ok (.invokestatic 65, 3) := by decide +kernel
theorem dX12_note_17 : decode cX12_note 17 = .ok (.ifCond .eq 26, 3) := by decide +kernel
theorem dX12_note_20 : decode cX12_note 20 = .ok (.iload_n 3, 1) := by decide +kernel
theorem dX12_note_21 : decode cX12_note 21 = .ok (.i2l, 1) := by decide +kernel
theorem dX12_note_22 : decode cX12_note 22 = .ok (.lconst 0, 1) := by decide +kernel
theorem dX12_note_23 : decode cX12_note 23 = .ok (.ldc2_w 69, 3) := by decide +kernel
theorem dX12_note_26 : decode cX12_note 26 = .ok (.invokestatic 65, 3) := by decide +kernel
theorem dX12_note_29 : decode cX12_note 29 = .ok (.ifCond .eq 14, 3) := by decide +kernel
theorem dX12_note_32 : decode cX12_note 32 = .ok (.iload 4, 2) := by decide +kernel
theorem dX12_note_34 : decode cX12_note 34 = .ok (.i2l, 1) := by decide +kernel
theorem dX12_note_35 : decode cX12_note 35 = .ok (.lconst 0, 1) := by decide +kernel
theorem dX12_note_36 : decode cX12_note 36 = .ok (.lconst 1, 1) := by decide +kernel
theorem dX12_note_37 : decode cX12_note 37 = .ok (.invokestatic 65, 3) := by decide +kernel
theorem dX12_note_40 : decode cX12_note 40 = .ok (.ifCond .ne 10, 3) := by decide +kernel
theorem dX12_note_43 : decode cX12_note 43 = .ok (.aload_n 0, 1) := by decide +kernel
theorem dX12_note_44 : decode cX12_note 44 = .ok (.bipush (-2), 2) := by decide +kernel
theorem dX12_note_46 : decode cX12_note 46 = .ok (.invokevirtual 82, 3) := by decide +kernel
theorem dX12_note_49 : decode cX12_note 49 = .ok (.ireturn, 1) := by decide +kernel
theorem dX12_note_50 : decode cX12_note 50 = .ok (.aload_n 0, 1) := by decide +kernel
theorem dX12_note_51 : decode cX12_note 51 = .ok (.getfield 7, 3) := by decide +kernel
theorem dX12_note_54 : decode cX12_note 54 = .ok (.iconst 1, 1) := by decide +kernel
theorem dX12_note_55 : decode cX12_note 55 = .ok (.iaload, 1) := by decide +kernel
theorem dX12_note_56 : decode cX12_note 56 = .ok (.bipush 6, 2) := by decide +kernel
theorem dX12_note_58 : decode cX12_note 58 = .ok (.if_icmp .ne 8, 3) := by decide +kernel
theorem dX12_note_61 : decode cX12_note 61 = .ok (.aload_n 0, 1) := by decide +kernel
theorem dX12_note_62 : decode cX12_note 62 = .ok (.invokevirtual 90, 3) := by decide +kernel
theorem dX12_note_65 : decode cX12_note 65 = .ok (.ireturn, 1) := by decide +kernel
theorem dX12_note_66 : decode cX12_note 66 = .ok (.bipush 57, 2) := by decide +kernel
theorem dX12_note_68 : decode cX12_note 68 = .ok (.iconst 4, 1) := by decide +kernel
theorem dX12_note_69 : decode cX12_note 69 = .ok (.aload_n 0, 1) := by decide +kernel
theorem dX12_note_70 : decode cX12_note 70 = .ok (.getfield 7, 3) := by decide +kernel
theorem dX12_note_73 : decode cX12_note 73 = .ok (.iconst 1, 1) := by decide +kernel
theorem dX12_note_74 : decode cX12_note 74 = .ok (.iaload, 1) := by decide +kernel
theorem dX12_note_75 : decode cX12_note 75 = .ok (.imul, 1) := by decide +kernel
theorem dX12_note_76 : decode cX12_note 76 = .ok (.iadd, 1) := by decide +kernel
theorem dX12_note_77 : decode cX12_note 77 = .ok (.istore 5, 2) := by decide +kernel
theorem dX12_note_79 : decode cX12_note 79 = .ok (.aload_n 0, 1) := by decide +kernel
theorem dX12_note_80 : decode cX12_note 80 = .ok (.getfield 7, 3) := by decide +kernel
theorem dX12_note_83 : decode cX12_note 83 = .ok (.iload 5, 2) := by decide +kernel
theorem dX12_note_85 : decode cX12_note 85 = .ok (.iload_n 1, 1) := by decide +kernel
theorem dX12_note_86 : decode cX12_note 86 = .ok (.iastore, 1) := by decide +kernel
theorem dX12_note_87 : decode cX12_note 87 = .ok (.aload_n 0, 1) := by decide +kernel
theorem dX12_note_88 : decode cX12_note 88 = .ok (.getfield 7, 3) := by decide +kernel
theorem dX12_note_91 : decode cX12_note 91 = .ok (.iload 5, 2) := by decide +kernel
theorem dX12_note_93 : decode cX12_note 93 = .ok (.iconst 1, 1) := by decide +kernel
theorem dX12_note_94 : decode cX12_note 94 = .ok (.iadd, 1) := by decide +kernel
theorem dX12_note_95 : decode cX12_note 95 = .ok (.iload_n 2, 1) := by decide +kernel
theorem dX12_note_96 : decode cX12_note 96 = .ok (.iastore, 1) := by decide +kernel
theorem dX12_note_97 : decode cX12_note 97 = .ok (.aload_n 0, 1) := by decide +kernel
theorem dX12_note_98 : decode cX12_note 98 = .ok (.getfield 7, 3) := by decide +kernel
theorem dX12_note_101 : decode cX12_note 101 = .ok (.iload 5, 2) := by decide +kernel
theorem dX12_note_103 : decode cX12_note 103 = .ok (.iconst 2, 1) := by decide +kernel
theorem dX12_note_104 : decode cX12_note 104 = .ok (.iadd, 1) := by decide +kernel
theorem dX12_note_105 : decode cX12_note 105 = .ok (.iload_n 3, 1) := by decide +kernel
theorem dX12_note_106 : decode cX12_note 106 = .ok (.iastore, 1) := by decide +kernel
theorem dX12_note_107 : decode cX12_note 107 = .ok (.aload_n 0, 1) := by decide +kernel
theorem dX12_note_108 : decode cX12_note 108 = .ok (.getfield 7, 3) := by decide +kernel
theorem dX12_note_111 : decode cX12_note 111 = .ok (.iload 5, 2) := by decide +kernel
theorem dX12_note_113 : decode cX12_note 113 = .ok (.iconst 3, 1) := by decide +kernel
theorem dX12_note_114 : decode cX12_note 114 = .ok (.iadd, 1) := by decide +kernel
theorem dX12_note_115 : decode cX12_note 115 = .ok (.iload 4, 2) := by decide +kernel
theorem dX12_note_117 : decode cX12_note 117 = .ok (.iastore, 1) := by decide +kernel
theorem dX12_note_118 : decode cX12_note 118 = .ok (.aload_n 0, 1) := by decide +kernel
theorem dX12_note_119 : decode cX12_note 119 = .ok (.getfield 7, 3) := by decide +kernel
theorem dX12_note_122 : decode cX12_note 122 = .ok (.iconst 1, 1) := by decide +kernel
theorem dX12_note_123 : decode cX12_note 123 = .ok (.dup2, 1) := by decide +kernel
theorem dX12_note_124 : decode cX12_note 124 = .ok (.iaload, 1) := by decide +kernel
theorem dX12_note_125 : decode cX12_note 125 = .ok (.iconst 1, 1) := by decide +kernel
theorem dX12_note_126 : decode cX12_note 126 = .ok (.iadd, 1) := by decide +kernel
theorem dX12_note_127 : decode cX12_note 127 = .ok (.iastore, 1) := by decide +kernel
theorem dX12_note_128 : decode cX12_note 128 = .ok (.aload_n 0, 1) := by decide +kernel
theorem dX12_note_129 : decode cX12_note 129 = .ok (.getfield 7, 3) := by decide +kernel
theorem dX12_note_132 : decode cX12_note 132 = .ok (.iconst 1, 1) := by decide +kernel
theorem dX12_note_133 : decode cX12_note 133 = .ok (.iaload, 1) := by decide +kernel
theorem dX12_note_134 : decode cX12_note 134 = .ok (.ireturn, 1) := by decide +kernel
theorem dX12_beaten_0 : decode cX12_beaten 0 = .ok (.aload_n 0, 1) := by decide +kernel
theorem dX12_beaten_1 : decode cX12_beaten 1 = .ok (.iload_n 1, 1) := by decide +kernel
theorem dX12_beaten_2 : decode cX12_beaten 2 = .ok (.invokevirtual 143, 3) := by decide +kernel
theorem dX12_beaten_5 : decode cX12_beaten 5 = .ok (.ifCond .eq 31, 3) := by decide +kernel
theorem dX12_beaten_8 : decode cX12_beaten 8 = .ok (.aload_n 0, 1) := by decide +kernel
theorem dX12_beaten_9 : decode cX12_beaten 9 = .ok (.iload_n 2, 1) := by decide +kernel
theorem dX12_beaten_10 : decode cX12_beaten 10 = .ok (.invokevirtual 143, 3) := by decide +kernel
theorem dX12_beaten_13 : decode cX12_beaten 13 = .ok (.ifCond .eq 23, 3) := by decide +kernel
theorem dX12_beaten_16 : decode cX12_beaten 16 = .ok (.iload_n 1, 1) := by decide +kernel
theorem dX12_beaten_17 : decode cX12_beaten 17 = .ok (.iload_n 2, 1) := by decide +kernel
theorem dX12_beaten_18 : decode cX12_beaten 18 = .ok (.if_icmp .eq 18, 3) := by decide +kernel
theorem dX12_beaten_21 : decode cX12_beaten 21 = .ok (.iload_n 3, 1) := by decide +kernel
theorem dX12_beaten_22 : decode cX12_beaten 22 = .ok (.invokestatic 77, 3) := by decide +kernel
theorem dX12_beaten_25 : decode cX12_beaten 25 = .ok (.ifCond .eq 11, 3) := by decide +kernel
theorem dX12_beaten_28 : decode cX12_beaten 28 = .ok (.iload 4, 2) := by decide +kernel
theorem dX12_beaten_30 : decode cX12_beaten 30 = .ok (.invokestatic 73, 3) := by decide +kernel
theorem dX12_beaten_33 : decode cX12_beaten 33 = .ok (.ifCond .ne 10, 3) := by decide +kernel
theorem dX12_beaten_36 : decode cX12_beaten 36 = .ok (.aload_n 0, 1) := by decide +kernel
theorem dX12_beaten_37 : decode cX12_beaten 37 = .ok (.bipush (-2), 2) := by decide +kernel
theorem dX12_beaten_39 : decode cX12_beaten 39 = .ok (.invokevirtual 82, 3) := by decide +kernel
theorem dX12_beaten_42 : decode cX12_beaten 42 = .ok (.ireturn, 1) := by decide +kernel
theorem dX12_beaten_43 : decode cX12_beaten 43 = .ok (.aload_n 0, 1) := by decide +kernel
theorem dX12_beaten_44 : decode cX12_beaten 44 = .ok (.getfield 7, 3) := by decide +kernel
theorem dX12_beaten_47 : decode cX12_beaten 47 = .ok (.iconst 2, 1) := by decide +kernel
theorem dX12_beaten_48 : decode cX12_beaten 48 = .ok (.iaload, 1) := by decide +kernel
theorem dX12_beaten_49 : decode cX12_beaten 49 = .ok (.bipush 6, 2) := by decide +kernel
theorem dX12_beaten_51 : decode cX12_beaten 51 = .ok (.if_icmp .ne 8, 3) := by decide +kernel
theorem dX12_beaten_54 : decode cX12_beaten 54 = .ok (.aload_n 0, 1) := by decide +kernel
theorem dX12_beaten_55 : decode cX12_beaten 55 = .ok (.invokevirtual 90, 3) := by decide +kernel
theorem dX12_beaten_58 : decode cX12_beaten 58 = .ok (.ireturn, 1) := by decide +kernel
theorem dX12_beaten_59 : decode cX12_beaten 59 = .ok (.bipush 81, 2) := by decide +kernel
theorem dX12_beaten_61 : decode cX12_beaten 61 = .ok (.iconst 4, 1) := by decide +kernel
theorem dX12_beaten_62 : decode cX12_beaten 62 = .ok (.aload_n 0, 1) := by decide +kernel
theorem dX12_beaten_63 : decode cX12_beaten 63 = .ok (.getfield 7, 3) := by decide +kernel
theorem dX12_beaten_66 : decode cX12_beaten 66 = .ok (.iconst 2, 1) := by decide +kernel
theorem dX12_beaten_67 : decode cX12_beaten 67 = .ok (.iaload, 1) := by decide +kernel
theorem dX12_beaten_68 : decode cX12_beaten 68 = .ok (.imul, 1) := by decide +kernel
theorem dX12_beaten_69 : decode cX12_beaten 69 = .ok (.iadd, 1) := by decide +kernel
theorem dX12_beaten_70 : decode cX12_beaten 70 = .ok (.istore 5, 2) := by decide +kernel
theorem dX12_beaten_72 : decode cX12_beaten 72 = .ok (.aload_n 0, 1) := by decide +kernel
theorem dX12_beaten_73 : decode cX12_beaten 73 = .ok (.getfield 7, 3) := by decide +kernel
theorem dX12_beaten_76 : decode cX12_beaten 76 = .ok (.iload 5, 2) := by decide +kernel
theorem dX12_beaten_78 : decode cX12_beaten 78 = .ok (.iload_n 1, 1) := by decide +kernel
theorem dX12_beaten_79 : decode cX12_beaten 79 = .ok (.iastore, 1) := by decide +kernel
theorem dX12_beaten_80 : decode cX12_beaten 80 = .ok (.aload_n 0, 1) := by decide +kernel
theorem dX12_beaten_81 : decode cX12_beaten 81 = .ok (.getfield 7, 3) := by decide +kernel
theorem dX12_beaten_84 : decode cX12_beaten 84 = .ok (.iload 5, 2) := by decide +kernel
theorem dX12_beaten_86 : decode cX12_beaten 86 = .ok (.iconst 1, 1) := by decide +kernel
theorem dX12_beaten_87 : decode cX12_beaten 87 = .ok (.iadd, 1) := by decide +kernel
theorem dX12_beaten_88 : decode cX12_beaten 88 = .ok (.iload_n 2, 1) := by decide +kernel
theorem dX12_beaten_89 : decode cX12_beaten 89 = .ok (.iastore, 1) := by decide +kernel
theorem dX12_beaten_90 : decode cX12_beaten 90 = .ok (.aload_n 0, 1) := by decide +kernel
theorem dX12_beaten_91 : decode cX12_beaten 91 = .ok (.getfield 7, 3) := by decide +kernel
theorem dX12_beaten_94 : decode cX12_beaten 94 = .ok (.iload 5, 2) := by decide +kernel
theorem dX12_beaten_96 : decode cX12_beaten 96 = .ok (.iconst 2, 1) := by decide +kernel
theorem dX12_beaten_97 : decode cX12_beaten 97 = .ok (.iadd, 1) := by decide +kernel
theorem dX12_beaten_98 : decode cX12_beaten 98 = .ok (.iload_n 3, 1) := by decide +kernel
theorem dX12_beaten_99 : decode cX12_beaten 99 = .ok (.iastore, 1) := by decide +kernel
theorem dX12_beaten_100 : decode cX12_beaten 100 = .ok (.aload_n 0, 1) := by decide +kernel
theorem dX12_beaten_101 : decode cX12_beaten 101 = .ok (.getfield 7, 3) := by decide +kernel
theorem dX12_beaten_104 : decode cX12_beaten 104 = .ok (.iload 5, 2) := by decide +kernel
theorem dX12_beaten_106 : decode cX12_beaten 106 = .ok (.iconst 3, 1) := by decide +kernel
theorem dX12_beaten_107 : decode cX12_beaten 107 = .ok (.iadd, 1) := by decide +kernel
theorem dX12_beaten_108 : decode cX12_beaten 108 = .ok (.iload 4, 2) := by decide +kernel
theorem dX12_beaten_110 : decode cX12_beaten 110 = .ok (.iastore, 1) := by decide +kernel
theorem dX12_beaten_111 : decode cX12_beaten 111 = .ok (.aload_n 0, 1) := by decide +kernel
theorem dX12_beaten_112 : decode cX12_beaten 112 = .ok (.getfield 7, 3) := by decide +kernel
theorem dX12_beaten_115 : decode cX12_beaten 115 = .ok (.iconst 2, 1) := by decide +kernel
theorem dX12_beaten_116 : decode cX12_beaten 116 = .ok (.dup2, 1) := by decide +kernel
theorem dX12_beaten_117 : decode cX12_beaten 117 = .ok (.iaload, 1) := by decide +kernel
theorem dX12_beaten_118 : decode cX12_beaten 118 = .ok (.iconst 1, 1) := by decide +kernel
theorem dX12_beaten_119 : decode cX12_beaten 119 = .ok (.iadd, 1) := by decide +kernel
theorem dX12_beaten_120 : decode cX12_beaten 120 = .ok (.iastore, 1) := by decide +kernel
theorem dX12_beaten_121 : decode cX12_beaten 121 = .ok (.aload_n 0, 1) := by decide +kernel
theorem dX12_beaten_122 : decode cX12_beaten 122 = .ok (.getfield 7, 3) := by decide +kernel
theorem dX12_beaten_125 : decode cX12_beaten 125 = .ok (.iconst 2, 1) := by decide +kernel
theorem dX12_beaten_126 : decode cX12_beaten 126 = .ok (.iaload, 1) := by decide +kernel
theorem dX12_beaten_127 : decode cX12_beaten 127 = .ok (.ireturn, 1) := by decide +kernel
theorem dX12_forget_0 : decode cX12_forget 0 = .ok (.iload_n 1, 1) := by decide +kernel
theorem dX12_forget_1 : decode cX12_forget 1 = .ok (.i2l, 1) := by decide +kernel
theorem dX12_forget_2 : decode cX12_forget 2 = .ok (.lconst 0, 1) := by decide +kernel
theorem dX12_forget_3 : decode cX12_forget 3 = .ok (.lconst 1, 1) := by decide +kernel
theorem dX12_forget_4 : decode cX12_forget 4 = .ok (.invokestatic 65, 3) := by decide +kernel
theorem dX12_forget_7 : decode cX12_forget 7 = .ok (.ifCond .ne 10, 3) := by decide +kernel
theorem dX12_forget_10 : decode cX12_forget 10 = .ok (.aload_n 0, 1) := by decide +kernel
theorem dX12_forget_11 : decode cX12_forget 11 = .ok (.bipush (-2), 2) := by decide +kernel
theorem dX12_forget_13 : decode cX12_forget 13 = .ok (.invokevirtual 82, 3) := by decide +kernel
theorem dX12_forget_16 : decode cX12_forget 16 = .ok (.ireturn, 1) := by decide +kernel
theorem dX12_forget_17 : decode cX12_forget 17 = .ok (.aload_n 0, 1) := by decide +kernel
theorem dX12_forget_18 : decode cX12_forget 18 = .ok (.getfield 7, 3) := by decide +kernel
theorem dX12_forget_21 : decode cX12_forget 21 = .ok (.iconst 1, 1) := by decide +kernel
theorem dX12_forget_22 : decode cX12_forget 22 = .ok (.iload_n 1, 1) := by decide +kernel
theorem dX12_forget_23 : decode cX12_forget 23 = .ok (.iadd, 1) := by decide +kernel
theorem dX12_forget_24 : decode cX12_forget 24 = .ok (.iaload, 1) := by decide +kernel
theorem dX12_forget_25 : decode cX12_forget 25 = .ok (.istore_n 2, 1) := by decide +kernel
theorem dX12_forget_26 : decode cX12_forget 26 = .ok (.aload_n 0, 1) := by decide +kernel
theorem dX12_forget_27 : decode cX12_forget 27 = .ok (.getfield 7, 3) := by decide +kernel
theorem dX12_forget_30 : decode cX12_forget 30 = .ok (.iconst 1, 1) := by decide +kernel
theorem dX12_forget_31 : decode cX12_forget 31 = .ok (.iload_n 1, 1) := by decide +kernel
theorem dX12_forget_32 : decode cX12_forget 32 = .ok (.iadd, 1) := by decide +kernel
theorem dX12_forget_33 : decode cX12_forget 33 = .ok (.iconst 0, 1) := by decide +kernel
theorem dX12_forget_34 : decode cX12_forget 34 = .ok (.iastore, 1) := by decide +kernel
theorem dX12_forget_35 : decode cX12_forget 35 = .ok (.iload_n 2, 1) := by decide +kernel
theorem dX12_forget_36 : decode cX12_forget 36 = .ok (.ireturn, 1) := by decide +kernel
theorem dX12_kindsOf_0 : decode cX12_kindsOf 0 = .ok (.iconst 0, 1) := by decide +kernel
theorem dX12_kindsOf_1 : decode cX12_kindsOf 1 = .ok (.istore_n 2, 1) := by decide +kernel
theorem dX12_kindsOf_2 : decode cX12_kindsOf 2 = .ok (.iconst 0, 1) := by decide +kernel
theorem dX12_kindsOf_3 : decode cX12_kindsOf 3 = .ok (.istore_n 3, 1) := by decide +kernel
theorem dX12_kindsOf_4 : decode cX12_kindsOf 4 = .ok (.iload_n 3, 1) := by decide +kernel
theorem dX12_kindsOf_5 : decode cX12_kindsOf 5 = .ok (.bipush 6, 2) := by decide +kernel
theorem dX12_kindsOf_7 : decode cX12_kindsOf 7 = .ok (.if_icmp .ge 122, 3) := by decide +kernel
theorem dX12_kindsOf_10 : decode cX12_kindsOf 10 = .ok (.iconst 1, 1) := by decide +kernel
theorem dX12_kindsOf_11 : decode cX12_kindsOf 11 = .ok (.istore 4, 2) := by decide +kernel
theorem dX12_kindsOf_13 : decode cX12_kindsOf 13 = .ok (.iconst 0, 1) := by decide +kernel
theorem dX12_kindsOf_14 : decode cX12_kindsOf 14 = .ok (.istore 5, 2) := by decide +kernel
theorem dX12_kindsOf_16 : decode cX12_kindsOf 16 = .ok (.iload 5, 2) := by decide +kernel
theorem dX12_kindsOf_18 : decode cX12_kindsOf 18 = .ok (.aload_n 0, 1) := by decide +kernel
theorem dX12_kindsOf_19 : decode cX12_kindsOf 19 = .ok (.getfield 7, 3) := by decide +kernel
theorem dX12_kindsOf_22 : decode cX12_kindsOf 22 = .ok (.iconst 1, 1) := by decide +kernel
theorem dX12_kindsOf_23 : decode cX12_kindsOf 23 = .ok (.iaload, 1) := by decide +kernel
theorem dX12_kindsOf_24 : decode cX12_kindsOf 24 = .ok (.if_icmp .ge 84, 3) := by decide +kernel
theorem dX12_kindsOf_27 : decode cX12_kindsOf 27 = .ok (.bipush 57, 2) := by decide +kernel
theorem dX12_kindsOf_29 : decode cX12_kindsOf 29 = .ok (.iconst 4, 1) := by decide +kernel
theorem dX12_kindsOf_30 : decode cX12_kindsOf 30 = .ok (.iload 5, 2) := by decide +kernel
theorem dX12_kindsOf_32 : decode cX12_kindsOf 32 = .ok (.imul, 1) := by decide +kernel
theorem dX12_kindsOf_33 : decode cX12_kindsOf 33 = .ok (.iadd, 1) := by decide +kernel
theorem dX12_kindsOf_34 : decode cX12_kindsOf 34 = .ok (.istore 6, 2) := by decide +kernel
theorem dX12_kindsOf_36 : decode cX12_kindsOf 36 = .ok (.iload 4, 2) := by decide +kernel
theorem dX12_kindsOf_38 : decode cX12_kindsOf 38 = .ok (.ifCond .eq 61, 3) := by decide +kernel
theorem dX12_kindsOf_41 : decode cX12_kindsOf 41 = .ok (.aload_n 0, 1) := by decide +kernel
theorem dX12_kindsOf_42 : decode cX12_kindsOf 42 = .ok (.getfield 7, 3) := by decide +kernel
theorem dX12_kindsOf_45 : decode cX12_kindsOf 45 = .ok (.iload 6, 2) := by decide +kernel
theorem dX12_kindsOf_47 : decode cX12_kindsOf 47 = .ok (.iaload, 1) := by decide +kernel
theorem dX12_kindsOf_48 : decode cX12_kindsOf 48 = .ok (.iload_n 1, 1) := by decide +kernel
theorem dX12_kindsOf_49 : decode cX12_kindsOf 49 = .ok (.if_icmp .ne 46, 3) := by decide +kernel
theorem dX12_kindsOf_52 : decode cX12_kindsOf 52 = .ok (.iload_n 3, 1) := by decide +kernel
theorem dX12_kindsOf_53 : decode cX12_kindsOf 53 = .ok (.aload_n 0, 1) := by decide +kernel
theorem dX12_kindsOf_54 : decode cX12_kindsOf 54 = .ok (.getfield 7, 3) := by decide +kernel
theorem dX12_kindsOf_57 : decode cX12_kindsOf 57 = .ok (.iload 6, 2) := by decide +kernel
theorem dX12_kindsOf_59 : decode cX12_kindsOf 59 = .ok (.iconst 1, 1) := by decide +kernel
theorem dX12_kindsOf_60 : decode cX12_kindsOf 60 = .ok (.iadd, 1) := by decide +kernel
theorem dX12_kindsOf_61 : decode cX12_kindsOf 61 = .ok (.iaload, 1) := by decide +kernel
theorem dX12_kindsOf_62 : decode cX12_kindsOf 62 = .ok (.aload_n 0, 1) := by decide +kernel
theorem dX12_kindsOf_63 : decode cX12_kindsOf 63 = .ok (.getfield 7, 3) := by decide +kernel
theorem dX12_kindsOf_66 : decode cX12_kindsOf 66 = .ok (.iload 6, 2) := by decide +kernel
theorem dX12_kindsOf_68 : decode cX12_kindsOf 68 = .ok (.iconst 2, 1) := by decide +kernel
theorem dX12_kindsOf_69 : decode cX12_kindsOf 69 = .ok (.iadd, 1) := by decide +kernel
theorem dX12_kindsOf_70 : decode cX12_kindsOf 70 = .ok (.iaload, 1) := by decide +kernel
theorem dX12_kindsOf_71 : decode cX12_kindsOf 71 = .ok (.invokestatic 101, 3) := by decide +kernel
theorem dX12_kindsOf_74 : decode cX12_kindsOf 74 = .ok (.aload_n 0, 1) := by decide +kernel
theorem dX12_kindsOf_75 : decode cX12_kindsOf 75 = .ok (.getfield 7, 3) := by decide +kernel
theorem dX12_kindsOf_78 : decode cX12_kindsOf 78 = .ok (.iload 6, 2) := by decide +kernel
theorem dX12_kindsOf_80 : decode cX12_kindsOf 80 = .ok (.iconst 3, 1) := by decide +kernel
theorem dX12_kindsOf_81 : decode cX12_kindsOf 81 = .ok (.iadd, 1) := by decide +kernel
theorem dX12_kindsOf_82 : decode cX12_kindsOf 82 = .ok (.iaload, 1) := by decide +kernel
theorem dX12_kindsOf_83 : decode cX12_kindsOf 83 = .ok (.iconst 1, 1) := by decide +kernel
theorem dX12_kindsOf_84 : decode cX12_kindsOf 84 = .ok (.if_icmp .ne 7, 3) := by decide +kernel
theorem dX12_kindsOf_87 : decode cX12_kindsOf 87 = .ok (.iconst 1, 1) := by decide +kernel
theorem dX12_kindsOf_88 : decode cX12_kindsOf 88 = .ok (.goto 4, 3) := by decide +kernel
theorem dX12_kindsOf_91 : decode cX12_kindsOf 91 = .ok (.iconst 0, 1) := by decide +kernel
theorem dX12_kindsOf_92 : decode cX12_kindsOf 92 = .ok (.if_icmp .ne 7, 3) := by decide +kernel
theorem dX12_kindsOf_95 : decode cX12_kindsOf 95 = .ok (.iconst 1, 1) := by decide +kernel
theorem dX12_kindsOf_96 : decode cX12_kindsOf 96 = .ok (.goto 4, 3) := by decide +kernel
theorem dX12_kindsOf_99 : decode cX12_kindsOf 99 = .ok (.iconst 0, 1) := by decide +kernel
theorem dX12_kindsOf_100 : decode cX12_kindsOf 100 = .ok (.istore 4, 2) := by decide +kernel
theorem dX12_kindsOf_102 : decode cX12_kindsOf 102 = .ok (.iinc 5 1, 3) := by decide +kernel
theorem dX12_kindsOf_105 : decode cX12_kindsOf 105 = .ok (.goto (-89), 3) := by decide +kernel
theorem dX12_kindsOf_108 : decode cX12_kindsOf 108 = .ok (.iload_n 2, 1) := by decide +kernel
theorem dX12_kindsOf_109 : decode cX12_kindsOf 109 = .ok (.iload 4, 2) := by decide +kernel
theorem dX12_kindsOf_111 : decode cX12_kindsOf 111 = .ok (.ifCond .eq 9, 3) := by decide +kernel
theorem dX12_kindsOf_114 : decode cX12_kindsOf 114 = .ok (.iconst 1, 1) := by decide +kernel
theorem dX12_kindsOf_115 : decode cX12_kindsOf 115 = .ok (.iload_n 3, 1) := by decide +kernel
theorem dX12_kindsOf_116 : decode cX12_kindsOf 116 = .ok (.ishl, 1) := by decide +kernel
theorem dX12_kindsOf_117 : decode cX12_kindsOf 117 = .ok (.goto 4, 3) := by decide +kernel
theorem dX12_kindsOf_120 : decode cX12_kindsOf 120 = .ok (.iconst 0, 1) := by decide +kernel
theorem dX12_kindsOf_121 : decode cX12_kindsOf 121 = .ok (.ior, 1) := by decide +kernel
theorem dX12_kindsOf_122 : decode cX12_kindsOf 122 = .ok (.istore_n 2, 1) := by decide +kernel
theorem dX12_kindsOf_123 : decode cX12_kindsOf 123 = .ok (.iinc 3 1, 3) := by decide +kernel
theorem dX12_kindsOf_126 : decode cX12_kindsOf 126 = .ok (.goto (-122), 3) := by decide +kernel
theorem dX12_kindsOf_129 : decode cX12_kindsOf 129 = .ok (.iload_n 2, 1) := by decide +kernel
theorem dX12_kindsOf_130 : decode cX12_kindsOf 130 = .ok (.ireturn, 1) := by decide +kernel
theorem dX12_is_0 : decode cX12_is 0 = .ok (.aload_n 0, 1) := by decide +kernel
theorem dX12_is_1 : decode cX12_is 1 = .ok (.iload_n 1, 1) := by decide +kernel
theorem dX12_is_2 : decode cX12_is 2 = .ok (.invokevirtual 143, 3) := by decide +kernel
theorem dX12_is_5 : decode cX12_is 5 = .ok (.ifCond .eq 11, 3) := by decide +kernel
theorem dX12_is_8 : decode cX12_is 8 = .ok (.aload_n 0, 1) := by decide +kernel
theorem dX12_is_9 : decode cX12_is 9 = .ok (.iload_n 1, 1) := by decide +kernel
theorem dX12_is_10 : decode cX12_is 10 = .ok (.invokevirtual 164, 3) := by decide +kernel
theorem dX12_is_13 : decode cX12_is 13 = .ok (.goto 9, 3) := by decide +kernel
theorem dX12_is_16 : decode cX12_is 16 = .ok (.aload_n 0, 1) := by decide +kernel
theorem dX12_is_17 : decode cX12_is 17 = .ok (.bipush (-2), 2) := by decide +kernel
theorem dX12_is_19 : decode cX12_is 19 = .ok (.invokevirtual 82, 3) := by decide +kernel
theorem dX12_is_22 : decode cX12_is 22 = .ok (.ireturn, 1) := by decide +kernel
theorem dX12_offer_0 : decode cX12_offer 0 = .ok (.aload_n 0, 1) := by decide +kernel
theorem dX12_offer_1 : decode cX12_offer 1 = .ok (.iload_n 1, 1) := by decide +kernel
theorem dX12_offer_2 : decode cX12_offer 2 = .ok (.invokevirtual 143, 3) := by decide +kernel
theorem dX12_offer_5 : decode cX12_offer 5 = .ok (.ifCond .ne 10, 3) := by decide +kernel
theorem dX12_offer_8 : decode cX12_offer 8 = .ok (.aload_n 0, 1) := by decide +kernel
theorem dX12_offer_9 : decode cX12_offer 9 = .ok (.bipush (-2), 2) := by decide +kernel
theorem dX12_offer_11 : decode cX12_offer 11 = .ok (.invokevirtual 82, 3) := by decide +kernel
theorem dX12_offer_14 : decode cX12_offer 14 = .ok (.ireturn, 1) := by decide +kernel
theorem dX12_offer_15 : decode cX12_offer 15 = .ok (.aload_n 0, 1) := by decide +kernel
theorem dX12_offer_16 : decode cX12_offer 16 = .ok (.iload_n 1, 1) := by decide +kernel
theorem dX12_offer_17 : decode cX12_offer 17 = .ok (.invokevirtual 164, 3) := by decide +kernel
theorem dX12_offer_20 : decode cX12_offer 20 = .ok (.istore_n 2, 1) := by decide +kernel
theorem dX12_offer_21 : decode cX12_offer 21 = .ok (.aload_n 0, 1) := by decide +kernel
theorem dX12_offer_22 : decode cX12_offer 22 = .ok (.getfield 7, 3) := by decide +kernel
theorem dX12_offer_25 : decode cX12_offer 25 = .ok (.iconst 4, 1) := by decide +kernel
theorem dX12_offer_26 : decode cX12_offer 26 = .ok (.iaload, 1) := by decide +kernel
theorem dX12_offer_27 : decode cX12_offer 27 = .ok (.bipush 8, 2) := by decide +kernel
theorem dX12_offer_29 : decode cX12_offer 29 = .ok (.if_icmp .ne 7, 3) := by decide +kernel
theorem dX12_offer_32 : decode cX12_offer 32 = .ok (.iconst 0, 1) := by decide +kernel
theorem dX12_offer_33 : decode cX12_offer 33 = .ok (.goto 12, 3) := by decide +kernel
theorem dX12_offer_36 : decode cX12_offer 36 = .ok (.bipush 7, 2) := by decide +kernel
theorem dX12_offer_38 : decode cX12_offer 38 = .ok (.aload_n 0, 1) := by decide +kernel
theorem dX12_offer_39 : decode cX12_offer 39 = .ok (.getfield 7, 3) := by decide +kernel
theorem dX12_offer_42 : decode cX12_offer 42 = .ok (.iconst 4, 1) := by decide +kernel
theorem dX12_offer_43 : decode cX12_offer 43 = .ok (.iaload, 1) := by decide +kernel
theorem dX12_offer_44 : decode cX12_offer 44 = .ok (.isub, 1) := by decide +kernel
theorem dX12_offer_45 : decode cX12_offer 45 = .ok (.istore_n 3, 1) := by decide +kernel
theorem dX12_offer_46 : decode cX12_offer 46 = .ok (.iconst (-1), 1) := by decide +kernel
theorem dX12_offer_47 : decode cX12_offer 47 = .ok (.istore 4, 2) := by decide +kernel
theorem dX12_offer_49 : decode cX12_offer 49 = .ok (.ldc 167, 2) := by decide +kernel
theorem dX12_offer_51 : decode cX12_offer 51 = .ok (.istore 5, 2) := by decide +kernel
theorem dX12_offer_53 : decode cX12_offer 53 = .ok (.iconst 1, 1) := by decide +kernel
theorem dX12_offer_54 : decode cX12_offer 54 = .ok (.istore 6, 2) := by decide +kernel
theorem dX12_offer_56 : decode cX12_offer 56 = .ok (.iload 6, 2) := by decide +kernel
theorem dX12_offer_58 : decode cX12_offer 58 = .ok (.bipush 30, 2) := by decide +kernel
theorem dX12_offer_60 : decode cX12_offer 60 = .ok (.if_icmp .gt 119, 3) := by decide +kernel
theorem dX12_offer_63 : decode cX12_offer 63 = .ok (.iload_n 2, 1) := by decide +kernel
theorem dX12_offer_64 : decode cX12_offer 64 = .ok (.ifCond .le 115, 3) := by decide +kernel
theorem dX12_offer_67 : decode cX12_offer 67 = .ok (.iconst 0, 1) := by decide +kernel
theorem dX12_offer_68 : decode cX12_offer 68 = .ok (.istore 7, 2) := by decide +kernel
theorem dX12_offer_70 : decode cX12_offer 70 = .ok (.iconst 0, 1) := by decide +kernel
theorem dX12_offer_71 : decode cX12_offer 71 = .ok (.istore 8, 2) := by decide +kernel
theorem dX12_offer_73 : decode cX12_offer 73 = .ok (.iload 8, 2) := by decide +kernel
theorem dX12_offer_75 : decode cX12_offer 75 = .ok (.bipush 6, 2) := by decide +kernel
theorem dX12_offer_77 : decode cX12_offer 77 = .ok (.if_icmp .ge 39, 3) := by decide +kernel
theorem dX12_offer_80 : decode cX12_offer 80 = .ok (.iload 7, 2) := by decide +kernel
theorem dX12_offer_82 : decode cX12_offer 82 = .ok (.iload_n 2, 1) := by decide +kernel
theorem dX12_offer_83 : decode cX12_offer 83 = .ok (.iload 8, 2) := by decide +kernel
theorem dX12_offer_85 : decode cX12_offer 85 = .ok (.invokestatic 131, 3) := by decide +kernel
theorem dX12_offer_88 : decode cX12_offer 88 = .ok (.ifCond .eq 18, 3) := by decide +kernel
theorem dX12_offer_91 : decode cX12_offer 91 = .ok (.iload 8, 2) := by decide +kernel
theorem dX12_offer_93 : decode cX12_offer 93 = .ok (.iload 6, 2) := by decide +kernel
theorem dX12_offer_95 : decode cX12_offer 95 = .ok (.iload_n 3, 1) := by decide +kernel
theorem dX12_offer_96 : decode cX12_offer 96 = .ok (.invokestatic 101, 3) := by decide +kernel
theorem dX12_offer_99 : decode cX12_offer 99 = .ok (.ifCond .eq 7, 3) := by decide +kernel
theorem dX12_offer_102 : decode cX12_offer 102 = .ok (.iconst 1, 1) := by decide +kernel
theorem dX12_offer_103 : decode cX12_offer 103 = .ok (.goto 4, 3) := by decide +kernel
theorem dX12_offer_106 : decode cX12_offer 106 = .ok (.iconst 0, 1) := by decide +kernel
theorem dX12_offer_107 : decode cX12_offer 107 = .ok (.iadd, 1) := by decide +kernel
theorem dX12_offer_108 : decode cX12_offer 108 = .ok (.istore 7, 2) := by decide +kernel
theorem dX12_offer_110 : decode cX12_offer 110 = .ok (.iinc 8 1, 3) := by decide +kernel
theorem dX12_offer_113 : decode cX12_offer 113 = .ok (.goto (-40), 3) := by decide +kernel
theorem dX12_offer_116 : decode cX12_offer 116 = .ok (.iconst 2, 1) := by decide +kernel
theorem dX12_offer_117 : decode cX12_offer 117 = .ok (.iload 7, 2) := by decide +kernel
theorem dX12_offer_119 : decode cX12_offer 119 = .ok (.imul, 1) := by decide +kernel
theorem dX12_offer_120 : decode cX12_offer 120 = .ok (.iload_n 2, 1) := by decide +kernel
theorem dX12_offer_121 : decode cX12_offer 121 = .ok (.invokestatic 105, 3) := by decide +kernel
theorem dX12_offer_124 : decode cX12_offer 124 = .ok (.if_icmp .le 8, 3) := by decide +kernel
theorem dX12_offer_127 : decode cX12_offer 127 = .ok (.iload 7, 2) := by decide +kernel
theorem dX12_offer_129 : decode cX12_offer 129 = .ok (.goto 10, 3) := by decide +kernel
theorem dX12_offer_132 : decode cX12_offer 132 = .ok (.iload_n 2, 1) := by decide +kernel
theorem dX12_offer_133 : decode cX12_offer 133 = .ok (.invokestatic 105, 3) := by decide +kernel
theorem dX12_offer_136 : decode cX12_offer 136 = .ok (.iload 7, 2) := by decide +kernel
theorem dX12_offer_138 : decode cX12_offer 138 = .ok (.isub, 1) := by decide +kernel
theorem dX12_offer_139 : decode cX12_offer 139 = .ok (.istore 8, 2) := by decide +kernel
theorem dX12_offer_141 : decode cX12_offer 141 = .ok (.iload 8, 2) := by decide +kernel
theorem dX12_offer_143 : decode cX12_offer 143 = .ok (.iload 5, 2) := by decide +kernel
theorem dX12_offer_145 : decode cX12_offer 145 = .ok (.if_icmp .ge 8, 3) := by decide +kernel
theorem dX12_offer_148 : decode cX12_offer 148 = .ok (.iload 6, 2) := by decide +kernel
theorem dX12_offer_150 : decode cX12_offer 150 = .ok (.goto 5, 3) := by decide +kernel
theorem dX12_offer_153 : decode cX12_offer 153 = .ok (.iload 4, 2) := by decide +kernel
theorem dX12_offer_155 : decode cX12_offer 155 = .ok (.istore 4, 2) := by decide +kernel
theorem dX12_offer_157 : decode cX12_offer 157 = .ok (.iload 8, 2) := by decide +kernel
theorem dX12_offer_159 : decode cX12_offer 159 = .ok (.iload 5, 2) := by decide +kernel
theorem dX12_offer_161 : decode cX12_offer 161 = .ok (.if_icmp .ge 8, 3) := by decide +kernel
theorem dX12_offer_164 : decode cX12_offer 164 = .ok (.iload 8, 2) := by decide +kernel
theorem dX12_offer_166 : decode cX12_offer 166 = .ok (.goto 5, 3) := by decide +kernel
theorem dX12_offer_169 : decode cX12_offer 169 = .ok (.iload 5, 2) := by decide +kernel
theorem dX12_offer_171 : decode cX12_offer 171 = .ok (.istore 5, 2) := by decide +kernel
theorem dX12_offer_173 : decode cX12_offer 173 = .ok (.iinc 6 1, 3) := by decide +kernel
theorem dX12_offer_176 : decode cX12_offer 176 = .ok (.goto (-120), 3) := by decide +kernel
theorem dX12_offer_179 : decode cX12_offer 179 = .ok (.iload 4, 2) := by decide +kernel
theorem dX12_offer_181 : decode cX12_offer 181 = .ok (.ireturn, 1) := by decide +kernel
theorem dX12_goodThen_0 : decode cX12_goodThen 0 = .ok (.aload_n 0, 1) := by decide +kernel
theorem dX12_goodThen_1 : decode cX12_goodThen 1 = .ok (.getfield 7, 3) := by decide +kernel
theorem dX12_goodThen_4 : decode cX12_goodThen 4 = .ok (.bipush 81, 2) := by decide +kernel
theorem dX12_goodThen_6 : decode cX12_goodThen 6 = .ok (.iconst 4, 1) := by decide +kernel
theorem dX12_goodThen_7 : decode cX12_goodThen 7 = .ok (.iload_n 1, 1) := by decide +kernel
theorem dX12_goodThen_8 : decode cX12_goodThen 8 = .ok (.imul, 1) := by decide +kernel
theorem dX12_goodThen_9 : decode cX12_goodThen 9 = .ok (.iadd, 1) := by decide +kernel
theorem dX12_goodThen_10 : decode cX12_goodThen 10 = .ok (.iconst 2, 1) := by decide +kernel
theorem dX12_goodThen_11 : decode cX12_goodThen 11 = .ok (.iadd, 1) := by decide +kernel
theorem dX12_goodThen_12 : decode cX12_goodThen 12 = .ok (.iaload, 1) := by decide +kernel
theorem dX12_goodThen_13 : decode cX12_goodThen 13 = .ok (.istore 5, 2) := by decide +kernel
theorem dX12_goodThen_15 : decode cX12_goodThen 15 = .ok (.aload_n 0, 1) := by decide +kernel
theorem dX12_goodThen_16 : decode cX12_goodThen 16 = .ok (.getfield 7, 3) := by decide +kernel
theorem dX12_goodThen_19 : decode cX12_goodThen 19 = .ok (.bipush 81, 2) := by decide +kernel
theorem dX12_goodThen_21 : decode cX12_goodThen 21 = .ok (.iconst 4, 1) := by decide +kernel
theorem dX12_goodThen_22 : decode cX12_goodThen 22 = .ok (.iload_n 1, 1) := by decide +kernel
theorem dX12_goodThen_23 : decode cX12_goodThen 23 = .ok (.imul, 1) := by decide +kernel
theorem dX12_goodThen_24 : decode cX12_goodThen 24 = .ok (.iadd, 1) := by decide +kernel
theorem dX12_goodThen_25 : decode cX12_goodThen 25 = .ok (.iconst 3, 1) := by decide +kernel
theorem dX12_goodThen_26 : decode cX12_goodThen 26 = .ok (.iadd, 1) := by decide +kernel
theorem dX12_goodThen_27 : decode cX12_goodThen 27 = .ok (.iaload, 1) := by decide +kernel
theorem dX12_goodThen_28 : decode cX12_goodThen 28 = .ok (.istore 6, 2) := by decide +kernel
theorem dX12_goodThen_30 : decode cX12_goodThen 30 = .ok (.iload_n 2, 1) := by decide +kernel
theorem dX12_goodThen_31 : decode cX12_goodThen 31 = .ok (.iload_n 3, 1) := by decide +kernel
theorem dX12_goodThen_32 : decode cX12_goodThen 32 = .ok (.if_icmp .ne 22, 3) := by decide +kernel
theorem dX12_goodThen_35 : decode cX12_goodThen 35 = .ok (.aload_n 0, 1) := by decide +kernel
theorem dX12_goodThen_36 : decode cX12_goodThen 36 = .ok (.getfield 7, 3) := by decide +kernel
theorem dX12_goodThen_39 : decode cX12_goodThen 39 = .ok (.bipush 17, 2) := by decide +kernel
theorem dX12_goodThen_41 : decode cX12_goodThen 41 = .ok (.iload_n 2, 1) := by decide +kernel
theorem dX12_goodThen_42 : decode cX12_goodThen 42 = .ok (.iadd, 1) := by decide +kernel
theorem dX12_goodThen_43 : decode cX12_goodThen 43 = .ok (.iaload, 1) := by decide +kernel
theorem dX12_goodThen_44 : decode cX12_goodThen 44 = .ok (.iload 4, 2) := by decide +kernel
theorem dX12_goodThen_46 : decode cX12_goodThen 46 = .ok (.iload 6, 2) := by decide +kernel
theorem dX12_goodThen_48 : decode cX12_goodThen 48 = .ok (.invokestatic 97, 3) := by decide +kernel
theorem dX12_goodThen_51 : decode cX12_goodThen 51 = .ok (.goto 12, 3) := by decide +kernel
theorem dX12_goodThen_54 : decode cX12_goodThen 54 = .ok (.aload_n 0, 1) := by decide +kernel
theorem dX12_goodThen_55 : decode cX12_goodThen 55 = .ok (.iload_n 2, 1) := by decide +kernel
theorem dX12_goodThen_56 : decode cX12_goodThen 56 = .ok (.iload 5, 2) := by decide +kernel
theorem dX12_goodThen_58 : decode cX12_goodThen 58 = .ok (.iload 6, 2) := by decide +kernel
theorem dX12_goodThen_60 : decode cX12_goodThen 60 = .ok (.invokevirtual 118, 3) := by decide +kernel
theorem dX12_goodThen_63 : decode cX12_goodThen 63 = .ok (.ireturn, 1) := by decide +kernel
theorem dX12_isBeaten_0 : decode cX12_isBeaten 0 = .ok (.aload_n 0, 1) := by decide +kernel
theorem dX12_isBeaten_1 : decode cX12_isBeaten 1 = .ok (.iload_n 1, 1) := by decide +kernel
theorem dX12_isBeaten_2 : decode cX12_isBeaten 2 = .ok (.aload_n 0, 1) := by decide +kernel
theorem dX12_isBeaten_3 : decode cX12_isBeaten 3 = .ok (.getfield 7, 3) := by decide +kernel
theorem dX12_isBeaten_6 : decode cX12_isBeaten 6 = .ok (.bipush 81, 2) := by decide +kernel
theorem dX12_isBeaten_8 : decode cX12_isBeaten 8 = .ok (.iconst 4, 1) := by decide +kernel
theorem dX12_isBeaten_9 : decode cX12_isBeaten 9 = .ok (.iload_n 1, 1) := by decide +kernel
theorem dX12_isBeaten_10 : decode cX12_isBeaten 10 = .ok (.imul, 1) := by decide +kernel
theorem dX12_isBeaten_11 : decode cX12_isBeaten 11 = .ok (.iadd, 1) := by decide +kernel
theorem dX12_isBeaten_12 : decode cX12_isBeaten 12 = .ok (.iaload, 1) := by decide +kernel
theorem dX12_isBeaten_13 : decode cX12_isBeaten 13 = .ok (.iload_n 2, 1) := by decide +kernel
theorem dX12_isBeaten_14 : decode cX12_isBeaten 14 = .ok (.iload_n 3, 1) := by decide +kernel
theorem dX12_isBeaten_15 : decode cX12_isBeaten 15 = .ok (.invokevirtual 168, 3) := by decide +kernel
theorem dX12_isBeaten_18 : decode cX12_isBeaten 18 = .ok (.aload_n 0, 1) := by decide +kernel
theorem dX12_isBeaten_19 : decode cX12_isBeaten 19 = .ok (.iload_n 1, 1) := by decide +kernel
theorem dX12_isBeaten_20 : decode cX12_isBeaten 20 = .ok (.aload_n 0, 1) := by decide +kernel
theorem dX12_isBeaten_21 : decode cX12_isBeaten 21 = .ok (.getfield 7, 3) := by decide +kernel
theorem dX12_isBeaten_24 : decode cX12_isBeaten 24 = .ok (.bipush 81, 2) := by decide +kernel
theorem dX12_isBeaten_26 : decode cX12_isBeaten 26 = .ok (.iconst 4, 1) := by decide +kernel
theorem dX12_isBeaten_27 : decode cX12_isBeaten 27 = .ok (.iload_n 1, 1) := by decide +kernel
theorem dX12_isBeaten_28 : decode cX12_isBeaten 28 = .ok (.imul, 1) := by decide +kernel
theorem dX12_isBeaten_29 : decode cX12_isBeaten 29 = .ok (.iadd, 1) := by decide +kernel
theorem dX12_isBeaten_30 : decode cX12_isBeaten 30 = .ok (.iconst 1, 1) := by decide +kernel
theorem dX12_isBeaten_31 : decode cX12_isBeaten 31 = .ok (.iadd, 1) := by decide +kernel
theorem dX12_isBeaten_32 : decode cX12_isBeaten 32 = .ok (.iaload, 1) := by decide +kernel
theorem dX12_isBeaten_33 : decode cX12_isBeaten 33 = .ok (.iload_n 2, 1) := by decide +kernel
theorem dX12_isBeaten_34 : decode cX12_isBeaten 34 = .ok (.iload_n 3, 1) := by decide +kernel
theorem dX12_isBeaten_35 : decode cX12_isBeaten 35 = .ok (.invokevirtual 168, 3) := by decide +kernel
theorem dX12_isBeaten_38 : decode cX12_isBeaten 38 = .ok (.if_icmp .le 7, 3) := by decide +kernel
theorem dX12_isBeaten_41 : decode cX12_isBeaten 41 = .ok (.iconst 1, 1) := by decide +kernel
theorem dX12_isBeaten_42 : decode cX12_isBeaten 42 = .ok (.goto 4, 3) := by decide +kernel
theorem dX12_isBeaten_45 : decode cX12_isBeaten 45 = .ok (.iconst 0, 1) := by decide +kernel
theorem dX12_isBeaten_46 : decode cX12_isBeaten 46 = .ok (.ireturn, 1) := by decide +kernel
theorem dX12_may_0 : decode cX12_may 0 = .ok (.aload_n 0, 1) := by decide +kernel
theorem dX12_may_1 : decode cX12_may 1 = .ok (.iload_n 1, 1) := by decide +kernel
theorem dX12_may_2 : decode cX12_may 2 = .ok (.invokevirtual 143, 3) := by decide +kernel
theorem dX12_may_5 : decode cX12_may 5 = .ok (.ifCond .eq 10, 3) := by decide +kernel
theorem dX12_may_8 : decode cX12_may 8 = .ok (.iload_n 2, 1) := by decide +kernel
theorem dX12_may_9 : decode cX12_may 9 = .ok (.invokestatic 77, 3) := by decide +kernel
theorem dX12_may_12 : decode cX12_may 12 = .ok (.ifCond .ne 10, 3) := by decide +kernel
theorem dX12_may_15 : decode cX12_may 15 = .ok (.aload_n 0, 1) := by decide +kernel
theorem dX12_may_16 : decode cX12_may 16 = .ok (.bipush (-2), 2) := by decide +kernel
theorem dX12_may_18 : decode cX12_may 18 = .ok (.invokevirtual 82, 3) := by decide +kernel
theorem dX12_may_21 : decode cX12_may 21 = .ok (.ireturn, 1) := by decide +kernel
theorem dX12_may_22 : decode cX12_may 22 = .ok (.iconst 0, 1) := by decide +kernel
theorem dX12_may_23 : decode cX12_may 23 = .ok (.istore_n 3, 1) := by decide +kernel
theorem dX12_may_24 : decode cX12_may 24 = .ok (.iconst 0, 1) := by decide +kernel
theorem dX12_may_25 : decode cX12_may 25 = .ok (.istore 4, 2) := by decide +kernel
theorem dX12_may_27 : decode cX12_may 27 = .ok (.iload 4, 2) := by decide +kernel
theorem dX12_may_29 : decode cX12_may 29 = .ok (.bipush 10, 2) := by decide +kernel
theorem dX12_may_31 : decode cX12_may 31 = .ok (.if_icmp .ge 136, 3) := by decide +kernel
theorem dX12_may_34 : decode cX12_may 34 = .ok (.iconst 1, 1) := by decide +kernel
theorem dX12_may_35 : decode cX12_may 35 = .ok (.istore 5, 2) := by decide +kernel
theorem dX12_may_37 : decode cX12_may 37 = .ok (.iconst 0, 1) := by decide +kernel
theorem dX12_may_38 : decode cX12_may 38 = .ok (.istore 6, 2) := by decide +kernel
theorem dX12_may_40 : decode cX12_may 40 = .ok (.iload 6, 2) := by decide +kernel
theorem dX12_may_42 : decode cX12_may 42 = .ok (.aload_n 0, 1) := by decide +kernel
theorem dX12_may_43 : decode cX12_may 43 = .ok (.getfield 7, 3) := by decide +kernel
theorem dX12_may_46 : decode cX12_may 46 = .ok (.iconst 2, 1) := by decide +kernel
theorem dX12_may_47 : decode cX12_may 47 = .ok (.iaload, 1) := by decide +kernel
theorem dX12_may_48 : decode cX12_may 48 = .ok (.if_icmp .ge 97, 3) := by decide +kernel
theorem dX12_may_51 : decode cX12_may 51 = .ok (.aload_n 0, 1) := by decide +kernel
theorem dX12_may_52 : decode cX12_may 52 = .ok (.getfield 7, 3) := by decide +kernel
theorem dX12_may_55 : decode cX12_may 55 = .ok (.bipush 81, 2) := by decide +kernel
theorem dX12_may_57 : decode cX12_may 57 = .ok (.iconst 4, 1) := by decide +kernel
theorem dX12_may_58 : decode cX12_may 58 = .ok (.iload 6, 2) := by decide +kernel
theorem dX12_may_60 : decode cX12_may 60 = .ok (.imul, 1) := by decide +kernel
theorem dX12_may_61 : decode cX12_may 61 = .ok (.iadd, 1) := by decide +kernel
theorem dX12_may_62 : decode cX12_may 62 = .ok (.iaload, 1) := by decide +kernel
theorem dX12_may_63 : decode cX12_may 63 = .ok (.iload_n 1, 1) := by decide +kernel
theorem dX12_may_64 : decode cX12_may 64 = .ok (.if_icmp .eq 21, 3) := by decide +kernel
theorem dX12_may_67 : decode cX12_may 67 = .ok (.aload_n 0, 1) := by decide +kernel
theorem dX12_may_68 : decode cX12_may 68 = .ok (.getfield 7, 3) := by decide +kernel
theorem dX12_may_71 : decode cX12_may 71 = .ok (.bipush 81, 2) := by decide +kernel
theorem dX12_may_73 : decode cX12_may 73 = .ok (.iconst 4, 1) := by decide +kernel
theorem dX12_may_74 : decode cX12_may 74 = .ok (.iload 6, 2) := by decide +kernel
theorem dX12_may_76 : decode cX12_may 76 = .ok (.imul, 1) := by decide +kernel
theorem dX12_may_77 : decode cX12_may 77 = .ok (.iadd, 1) := by decide +kernel
theorem dX12_may_78 : decode cX12_may 78 = .ok (.iconst 1, 1) := by decide +kernel
theorem dX12_may_79 : decode cX12_may 79 = .ok (.iadd, 1) := by decide +kernel
theorem dX12_may_80 : decode cX12_may 80 = .ok (.iaload, 1) := by decide +kernel
theorem dX12_may_81 : decode cX12_may 81 = .ok (.iload_n 1, 1) := by decide +kernel
theorem dX12_may_82 : decode cX12_may 82 = .ok (.if_icmp .ne 7, 3) := by decide +kernel
theorem dX12_may_85 : decode cX12_may 85 = .ok (.iconst 1, 1) := by decide +kernel
theorem dX12_may_86 : decode cX12_may 86 = .ok (.goto 4, 3) := by decide +kernel
theorem dX12_may_89 : decode cX12_may 89 = .ok (.iconst 0, 1) := by decide +kernel
theorem dX12_may_90 : decode cX12_may 90 = .ok (.istore 7, 2) := by decide +kernel
theorem dX12_may_92 : decode cX12_may 92 = .ok (.iload 5, 2) := by decide +kernel
theorem dX12_may_94 : decode cX12_may 94 = .ok (.ifCond .eq 42, 3) := by decide +kernel
theorem dX12_may_97 : decode cX12_may 97 = .ok (.iload 7, 2) := by decide +kernel
theorem dX12_may_99 : decode cX12_may 99 = .ok (.ifCond .eq 33, 3) := by decide +kernel
theorem dX12_may_102 : decode cX12_may 102 = .ok (.aload_n 0, 1) := by decide +kernel
theorem dX12_may_103 : decode cX12_may 103 = .ok (.getfield 7, 3) := by decide +kernel
theorem dX12_may_106 : decode cX12_may 106 = .ok (.bipush 81, 2) := by decide +kernel
theorem dX12_may_108 : decode cX12_may 108 = .ok (.iconst 4, 1) := by decide +kernel
theorem dX12_may_109 : decode cX12_may 109 = .ok (.iload 6, 2) := by decide +kernel
theorem dX12_may_111 : decode cX12_may 111 = .ok (.imul, 1) := by decide +kernel
theorem dX12_may_112 : decode cX12_may 112 = .ok (.iadd, 1) := by decide +kernel
theorem dX12_may_113 : decode cX12_may 113 = .ok (.iconst 2, 1) := by decide +kernel
theorem dX12_may_114 : decode cX12_may 114 = .ok (.iadd, 1) := by decide +kernel
theorem dX12_may_115 : decode cX12_may 115 = .ok (.iaload, 1) := by decide +kernel
theorem dX12_may_116 : decode cX12_may 116 = .ok (.iload_n 2, 1) := by decide +kernel
theorem dX12_may_117 : decode cX12_may 117 = .ok (.if_icmp .ne 15, 3) := by decide +kernel
theorem dX12_may_120 : decode cX12_may 120 = .ok (.aload_n 0, 1) := by decide +kernel
theorem dX12_may_121 : decode cX12_may 121 = .ok (.iload 6, 2) := by decide +kernel
theorem dX12_may_123 : decode cX12_may 123 = .ok (.iload_n 1, 1) := by decide +kernel
theorem dX12_may_124 : decode cX12_may 124 = .ok (.iload 4, 2) := by decide +kernel
theorem dX12_may_126 : decode cX12_may 126 = .ok (.invokevirtual 172, 3) := by decide +kernel
theorem dX12_may_129 : decode cX12_may 129 = .ok (.ifCond .eq 7, 3) := by decide +kernel
theorem dX12_may_132 : decode cX12_may 132 = .ok (.iconst 1, 1) := by decide +kernel
theorem dX12_may_133 : decode cX12_may 133 = .ok (.goto 4, 3) := by decide +kernel
theorem dX12_may_136 : decode cX12_may 136 = .ok (.iconst 0, 1) := by decide +kernel
theorem dX12_may_137 : decode cX12_may 137 = .ok (.istore 5, 2) := by decide +kernel
theorem dX12_may_139 : decode cX12_may 139 = .ok (.iinc 6 1, 3) := by decide +kernel
theorem dX12_may_142 : decode cX12_may 142 = .ok (.goto (-102), 3) := by decide +kernel
theorem dX12_may_145 : decode cX12_may 145 = .ok (.iload_n 3, 1) := by decide +kernel
theorem dX12_may_146 : decode cX12_may 146 = .ok (.iload 5, 2) := by decide +kernel
theorem dX12_may_148 : decode cX12_may 148 = .ok (.ifCond .eq 10, 3) := by decide +kernel
theorem dX12_may_151 : decode cX12_may 151 = .ok (.iconst 1, 1) := by decide +kernel
theorem dX12_may_152 : decode cX12_may 152 = .ok (.iload 4, 2) := by decide +kernel
theorem dX12_may_154 : decode cX12_may 154 = .ok (.ishl, 1) := by decide +kernel
theorem dX12_may_155 : decode cX12_may 155 = .ok (.goto 4, 3) := by decide +kernel
theorem dX12_may_158 : decode cX12_may 158 = .ok (.iconst 0, 1) := by decide +kernel
theorem dX12_may_159 : decode cX12_may 159 = .ok (.ior, 1) := by decide +kernel
theorem dX12_may_160 : decode cX12_may 160 = .ok (.istore_n 3, 1) := by decide +kernel
theorem dX12_may_161 : decode cX12_may 161 = .ok (.iinc 4 1, 3) := by decide +kernel
theorem dX12_may_164 : decode cX12_may 164 = .ok (.goto (-137), 3) := by decide +kernel
theorem dX12_may_167 : decode cX12_may 167 = .ok (.iload_n 3, 1) := by decide +kernel
theorem dX12_may_168 : decode cX12_may 168 = .ok (.ireturn, 1) := by decide +kernel
theorem dX12_clash_0 : decode cX12_clash 0 = .ok (.iconst 0, 1) := by decide +kernel
theorem dX12_clash_1 : decode cX12_clash 1 = .ok (.istore_n 1, 1) := by decide +kernel
theorem dX12_clash_2 : decode cX12_clash 2 = .ok (.iconst 0, 1) := by decide +kernel
theorem dX12_clash_3 : decode cX12_clash 3 = .ok (.istore_n 2, 1) := by decide +kernel
theorem dX12_clash_4 : decode cX12_clash 4 = .ok (.iload_n 2, 1) := by decide +kernel
theorem dX12_clash_5 : decode cX12_clash 5 = .ok (.aload_n 0, 1) := by decide +kernel
theorem dX12_clash_6 : decode cX12_clash 6 = .ok (.getfield 7, 3) := by decide +kernel
theorem dX12_clash_9 : decode cX12_clash 9 = .ok (.iconst 2, 1) := by decide +kernel
theorem dX12_clash_10 : decode cX12_clash 10 = .ok (.iaload, 1) := by decide +kernel
theorem dX12_clash_11 : decode cX12_clash 11 = .ok (.if_icmp .ge 27, 3) := by decide +kernel
theorem dX12_clash_14 : decode cX12_clash 14 = .ok (.iload_n 1, 1) := by decide +kernel
theorem dX12_clash_15 : decode cX12_clash 15 = .ok (.aload_n 0, 1) := by decide +kernel
theorem dX12_clash_16 : decode cX12_clash 16 = .ok (.iload_n 2, 1) := by decide +kernel
theorem dX12_clash_17 : decode cX12_clash 17 = .ok (.iconst (-1), 1) := by decide +kernel
theorem dX12_clash_18 : decode cX12_clash 18 = .ok (.iconst 0, 1) := by decide +kernel
theorem dX12_clash_19 : decode cX12_clash 19 = .ok (.invokevirtual 172, 3) := by decide +kernel
theorem dX12_clash_22 : decode cX12_clash 22 = .ok (.ifCond .eq 7, 3) := by decide +kernel
theorem dX12_clash_25 : decode cX12_clash 25 = .ok (.iconst 0, 1) := by decide +kernel
theorem dX12_clash_26 : decode cX12_clash 26 = .ok (.goto 4, 3) := by decide +kernel
theorem dX12_clash_29 : decode cX12_clash 29 = .ok (.iconst 1, 1) := by decide +kernel
theorem dX12_clash_30 : decode cX12_clash 30 = .ok (.iadd, 1) := by decide +kernel
theorem dX12_clash_31 : decode cX12_clash 31 = .ok (.istore_n 1, 1) := by decide +kernel
theorem dX12_clash_32 : decode cX12_clash 32 = .ok (.iinc 2 1, 3) := by decide +kernel
theorem dX12_clash_35 : decode cX12_clash 35 = .ok (.goto (-31), 3) := by decide +kernel
theorem dX12_clash_38 : decode cX12_clash 38 = .ok (.iload_n 1, 1) := by decide +kernel
theorem dX12_clash_39 : decode cX12_clash 39 = .ok (.ireturn, 1) := by decide +kernel
theorem dX12_fraction_0 : decode cX12_fraction 0 = .ok (.lload_n 1, 1) := by decide +kernel
theorem dX12_fraction_1 : decode cX12_fraction 1 = .ok (.lstore 5, 2) := by decide +kernel
theorem dX12_fraction_3 : decode cX12_fraction 3 = .ok (.lload_n 3, 1) := by decide +kernel
theorem dX12_fraction_4 : decode cX12_fraction 4 = .ok (.lstore 7, 2) := by decide +kernel
theorem dX12_fraction_6 : decode cX12_fraction 6 = .ok (.lload 7, 2) := by decide +kernel
theorem dX12_fraction_8 : decode cX12_fraction 8 = .ok (.lconst 0, 1) := by decide +kernel
theorem dX12_fraction_9 : decode cX12_fraction 9 = .ok (.lcmp, 1) := by decide +kernel
theorem dX12_fraction_10 : decode cX12_fraction 10 = .ok (.ifCond .eq 21, 3) := by decide +kernel
theorem dX12_fraction_13 : decode cX12_fraction 13 = .ok (.lload 5, 2) := by decide +kernel
theorem dX12_fraction_15 : decode cX12_fraction 15 = .ok (.lload 7, 2) := by decide +kernel
theorem dX12_fraction_17 : decode cX12_fraction 17 = .ok (.lrem, 1) := by decide +kernel
theorem dX12_fraction_18 : decode cX12_fraction 18 = .ok (.lstore 9, 2) := by decide +kernel
theorem dX12_fraction_20 : decode cX12_fraction 20 = .ok (.lload 7, 2) := by decide +kernel
theorem dX12_fraction_22 : decode cX12_fraction 22 = .ok (.lstore 5, 2) := by decide +kernel
theorem dX12_fraction_24 : decode cX12_fraction 24 = .ok (.lload 9, 2) := by decide +kernel
theorem dX12_fraction_26 : decode cX12_fraction 26 = .ok (.lstore 7, 2) := by decide +kernel
theorem dX12_fraction_28 : decode cX12_fraction 28 = .ok (.goto (-22), 3) := by decide +kernel
theorem dX12_fraction_31 : decode cX12_fraction 31 = .ok (.aload_n 0, 1) := by decide +kernel
theorem dX12_fraction_32 : decode cX12_fraction 32 = .ok (.lload_n 1, 1) := by decide +kernel
theorem dX12_fraction_33 : decode cX12_fraction 33 = .ok (.lload 5, 2) := by decide +kernel
theorem dX12_fraction_35 : decode cX12_fraction 35 = .ok (.ldiv, 1) := by decide +kernel
theorem dX12_fraction_36 : decode cX12_fraction 36 = .ok (.putfield 175, 3) := by decide +kernel
theorem dX12_fraction_39 : decode cX12_fraction 39 = .ok (.aload_n 0, 1) := by decide +kernel
theorem dX12_fraction_40 : decode cX12_fraction 40 = .ok (.lload_n 3, 1) := by decide +kernel
theorem dX12_fraction_41 : decode cX12_fraction 41 = .ok (.lload 5, 2) := by decide +kernel
theorem dX12_fraction_43 : decode cX12_fraction 43 = .ok (.ldiv, 1) := by decide +kernel
theorem dX12_fraction_44 : decode cX12_fraction 44 = .ok (.putfield 23, 3) := by decide +kernel
theorem dX12_fraction_47 : decode cX12_fraction 47 = .ok (.return_, 1) := by decide +kernel
theorem dX12_odds_0 : decode cX12_odds 0 = .ok (.aload_n 0, 1) := by decide +kernel
theorem dX12_odds_1 : decode cX12_odds 1 = .ok (.iload_n 1, 1) := by decide +kernel
theorem dX12_odds_2 : decode cX12_odds 2 = .ok (.invokevirtual 143, 3) := by decide +kernel
theorem dX12_odds_5 : decode cX12_odds 5 = .ok (.ifCond .eq 11, 3) := by decide +kernel
theorem dX12_odds_8 : decode cX12_odds 8 = .ok (.aload_n 0, 1) := by decide +kernel
theorem dX12_odds_9 : decode cX12_odds 9 = .ok (.iload_n 2, 1) := by decide +kernel
theorem dX12_odds_10 : decode cX12_odds 10 = .ok (.invokevirtual 148, 3) := by decide +kernel
theorem dX12_odds_13 : decode cX12_odds 13 = .ok (.ifCond .ne 10, 3) := by decide +kernel
theorem dX12_odds_16 : decode cX12_odds 16 = .ok (.aload_n 0, 1) := by decide +kernel
theorem dX12_odds_17 : decode cX12_odds 17 = .ok (.bipush (-2), 2) := by decide +kernel
theorem dX12_odds_19 : decode cX12_odds 19 = .ok (.invokevirtual 82, 3) := by decide +kernel
theorem dX12_odds_22 : decode cX12_odds 22 = .ok (.ireturn, 1) := by decide +kernel
theorem dX12_odds_23 : decode cX12_odds 23 = .ok (.aload_n 0, 1) := by decide +kernel
theorem dX12_odds_24 : decode cX12_odds 24 = .ok (.invokevirtual 140, 3) := by decide +kernel
theorem dX12_odds_27 : decode cX12_odds 27 = .ok (.aload_n 0, 1) := by decide +kernel
theorem dX12_odds_28 : decode cX12_odds 28 = .ok (.iload_n 2, 1) := by decide +kernel
theorem dX12_odds_29 : decode cX12_odds 29 = .ok (.invokevirtual 151, 3) := by decide +kernel
theorem dX12_odds_32 : decode cX12_odds 32 = .ok (.iconst 0, 1) := by decide +kernel
theorem dX12_odds_33 : decode cX12_odds 33 = .ok (.istore_n 3, 1) := by decide +kernel
theorem dX12_odds_34 : decode cX12_odds 34 = .ok (.iconst 0, 1) := by decide +kernel
theorem dX12_odds_35 : decode cX12_odds 35 = .ok (.istore 4, 2) := by decide +kernel
theorem dX12_odds_37 : decode cX12_odds 37 = .ok (.iload 4, 2) := by decide +kernel
theorem dX12_odds_39 : decode cX12_odds 39 = .ok (.aload_n 0, 1) := by decide +kernel
theorem dX12_odds_40 : decode cX12_odds 40 = .ok (.invokevirtual 61, 3) := by decide +kernel
theorem dX12_odds_43 : decode cX12_odds 43 = .ok (.if_icmp .ge 39, 3) := by decide +kernel
theorem dX12_odds_46 : decode cX12_odds 46 = .ok (.iload_n 3, 1) := by decide +kernel
theorem dX12_odds_47 : decode cX12_odds 47 = .ok (.aload_n 0, 1) := by decide +kernel
theorem dX12_odds_48 : decode cX12_odds 48 = .ok (.iload 4, 2) := by decide +kernel
theorem dX12_odds_50 : decode cX12_odds 50 = .ok (.iload_n 2, 1) := by decide +kernel
theorem dX12_odds_51 : decode cX12_odds 51 = .ok (.invokevirtual 121, 3) := by decide +kernel
theorem dX12_odds_54 : decode cX12_odds 54 = .ok (.ifCond .eq 19, 3) := by decide +kernel
theorem dX12_odds_57 : decode cX12_odds 57 = .ok (.aload_n 0, 1) := by decide +kernel
theorem dX12_odds_58 : decode cX12_odds 58 = .ok (.iload 4, 2) := by decide +kernel
theorem dX12_odds_60 : decode cX12_odds 60 = .ok (.aload_n 0, 1) := by decide +kernel
theorem dX12_odds_61 : decode cX12_odds 61 = .ok (.getfield 33, 3) := by decide +kernel
theorem dX12_odds_64 : decode cX12_odds 64 = .ok (.iload_n 2, 1) := by decide +kernel
theorem dX12_odds_65 : decode cX12_odds 65 = .ok (.iaload, 1) := by decide +kernel
theorem dX12_odds_66 : decode cX12_odds 66 = .ok (.iload_n 2, 1) := by decide +kernel
theorem dX12_odds_67 : decode cX12_odds 67 = .ok (.invokevirtual 118, 3) := by decide +kernel
theorem dX12_odds_70 : decode cX12_odds 70 = .ok (.goto 4, 3) := by decide +kernel
theorem dX12_odds_73 : decode cX12_odds 73 = .ok (.iconst 0, 1) := by decide +kernel
theorem dX12_odds_74 : decode cX12_odds 74 = .ok (.iadd, 1) := by decide +kernel
theorem dX12_odds_75 : decode cX12_odds 75 = .ok (.istore_n 3, 1) := by decide +kernel
theorem dX12_odds_76 : decode cX12_odds 76 = .ok (.iinc 4 1, 3) := by decide +kernel
theorem dX12_odds_79 : decode cX12_odds 79 = .ok (.goto (-42), 3) := by decide +kernel
theorem dX12_odds_82 : decode cX12_odds 82 = .ok (.aload_n 0, 1) := by decide +kernel
theorem dX12_odds_83 : decode cX12_odds 83 = .ok (.iload_n 1, 1) := by decide +kernel
theorem dX12_odds_84 : decode cX12_odds 84 = .ok (.iload_n 2, 1) := by decide +kernel
theorem dX12_odds_85 : decode cX12_odds 85 = .ok (.invokevirtual 121, 3) := by decide +kernel
theorem dX12_odds_88 : decode cX12_odds 88 = .ok (.ifCond .eq 25, 3) := by decide +kernel
theorem dX12_odds_91 : decode cX12_odds 91 = .ok (.aload_n 0, 1) := by decide +kernel
theorem dX12_odds_92 : decode cX12_odds 92 = .ok (.aload_n 0, 1) := by decide +kernel
theorem dX12_odds_93 : decode cX12_odds 93 = .ok (.iload_n 1, 1) := by decide +kernel
theorem dX12_odds_94 : decode cX12_odds 94 = .ok (.aload_n 0, 1) := by decide +kernel
theorem dX12_odds_95 : decode cX12_odds 95 = .ok (.getfield 33, 3) := by decide +kernel
theorem dX12_odds_98 : decode cX12_odds 98 = .ok (.iload_n 2, 1) := by decide +kernel
theorem dX12_odds_99 : decode cX12_odds 99 = .ok (.iaload, 1) := by decide +kernel
theorem dX12_odds_100 : decode cX12_odds 100 = .ok (.iload_n 2, 1) := by decide +kernel
theorem dX12_odds_101 : decode cX12_odds 101 = .ok (.invokevirtual 118, 3) := by decide +kernel
theorem dX12_odds_104 : decode cX12_odds 104 = .ok (.i2l, 1) := by decide +kernel
theorem dX12_odds_105 : decode cX12_odds 105 = .ok (.iload_n 3, 1) := by decide +kernel
theorem dX12_odds_106 : decode cX12_odds 106 = .ok (.i2l, 1) := by decide +kernel
theorem dX12_odds_107 : decode cX12_odds 107 = .ok (.invokevirtual 178, 3) := by decide +kernel
theorem dX12_odds_110 : decode cX12_odds 110 = .ok (.goto 9, 3) := by decide +kernel
theorem dX12_odds_113 : decode cX12_odds 113 = .ok (.aload_n 0, 1) := by decide +kernel
theorem dX12_odds_114 : decode cX12_odds 114 = .ok (.lconst 0, 1) := by decide +kernel
theorem dX12_odds_115 : decode cX12_odds 115 = .ok (.lconst 1, 1) := by decide +kernel
theorem dX12_odds_116 : decode cX12_odds 116 = .ok (.invokevirtual 178, 3) := by decide +kernel
theorem dX12_odds_119 : decode cX12_odds 119 = .ok (.iconst 1, 1) := by decide +kernel
theorem dX12_odds_120 : decode cX12_odds 120 = .ok (.ireturn, 1) := by decide +kernel
theorem dX12_valleys_0 : decode cX12_valleys 0 = .ok (.iload_n 1, 1) := by decide +kernel
theorem dX12_valleys_1 : decode cX12_valleys 1 = .ok (.i2l, 1) := by decide +kernel
theorem dX12_valleys_2 : decode cX12_valleys 2 = .ok (.lconst 0, 1) := by decide +kernel
theorem dX12_valleys_3 : decode cX12_valleys 3 = .ok (.ldc2_w 182, 3) := by decide +kernel
theorem dX12_valleys_6 : decode cX12_valleys 6 = .ok (.invokestatic 65, 3) := by decide +kernel
theorem dX12_valleys_9 : decode cX12_valleys 9 = .ok (.ifCond .eq 15, 3) := by decide +kernel
theorem dX12_valleys_12 : decode cX12_valleys 12 = .ok (.iload_n 2, 1) := by decide +kernel
theorem dX12_valleys_13 : decode cX12_valleys 13 = .ok (.i2l, 1) := by decide +kernel
theorem dX12_valleys_14 : decode cX12_valleys 14 = .ok (.lconst 0, 1) := by decide +kernel
theorem dX12_valleys_15 : decode cX12_valleys 15 = .ok (.ldc2_w 184, 3) := by decide +kernel
theorem dX12_valleys_18 : decode cX12_valleys 18 = .ok (.invokestatic 65, 3) := by decide +kernel
theorem dX12_valleys_21 : decode cX12_valleys 21 = .ok (.ifCond .ne 10, 3) := by decide +kernel
theorem dX12_valleys_24 : decode cX12_valleys 24 = .ok (.aload_n 0, 1) := by decide +kernel
theorem dX12_valleys_25 : decode cX12_valleys 25 = .ok (.bipush (-2), 2) := by decide +kernel
theorem dX12_valleys_27 : decode cX12_valleys 27 = .ok (.invokevirtual 82, 3) := by decide +kernel
theorem dX12_valleys_30 : decode cX12_valleys 30 = .ok (.ireturn, 1) := by decide +kernel
theorem dX12_valleys_31 : decode cX12_valleys 31 = .ok (.iload_n 1, 1) := by decide +kernel
theorem dX12_valleys_32 : decode cX12_valleys 32 = .ok (.i2l, 1) := by decide +kernel
theorem dX12_valleys_33 : decode cX12_valleys 33 = .ok (.lstore_n 3, 1) := by decide +kernel
theorem dX12_valleys_34 : decode cX12_valleys 34 = .ok (.iconst 0, 1) := by decide +kernel
theorem dX12_valleys_35 : decode cX12_valleys 35 = .ok (.istore 5, 2) := by decide +kernel
theorem dX12_valleys_37 : decode cX12_valleys 37 = .ok (.iconst 0, 1) := by decide +kernel
theorem dX12_valleys_38 : decode cX12_valleys 38 = .ok (.istore 6, 2) := by decide +kernel
theorem dX12_valleys_40 : decode cX12_valleys 40 = .ok (.iload 6, 2) := by decide +kernel
theorem dX12_valleys_42 : decode cX12_valleys 42 = .ok (.iload_n 2, 1) := by decide +kernel
theorem dX12_valleys_43 : decode cX12_valleys 43 = .ok (.if_icmp .ge 131, 3) := by decide +kernel
theorem dX12_valleys_46 : decode cX12_valleys 46 = .ok (.aload_n 0, 1) := by decide +kernel
theorem dX12_valleys_47 : decode cX12_valleys 47 = .ok (.invokevirtual 140, 3) := by decide +kernel
theorem dX12_valleys_50 : decode cX12_valleys 50 = .ok (.aload_n 0, 1) := by decide +kernel
theorem dX12_valleys_51 : decode cX12_valleys 51 = .ok (.getfield 7, 3) := by decide +kernel
theorem dX12_valleys_54 : decode cX12_valleys 54 = .ok (.iconst 4, 1) := by decide +kernel
theorem dX12_valleys_55 : decode cX12_valleys 55 = .ok (.iaload, 1) := by decide +kernel
theorem dX12_valleys_56 : decode cX12_valleys 56 = .ok (.istore 7, 2) := by decide +kernel
theorem dX12_valleys_58 : decode cX12_valleys 58 = .ok (.iload 7, 2) := by decide +kernel
theorem dX12_valleys_60 : decode cX12_valleys 60 = .ok (.bipush 8, 2) := by decide +kernel
theorem dX12_valleys_62 : decode cX12_valleys 62 = .ok (.if_icmp .ge 59, 3) := by decide +kernel
theorem dX12_valleys_65 : decode cX12_valleys 65 = .ok (.lload_n 3, 1) := by decide +kernel
theorem dX12_valleys_66 : decode cX12_valleys 66 = .ok (.ldc2_w 186, 3) := by decide +kernel
theorem dX12_valleys_69 : decode cX12_valleys 69 = .ok (.lmul, 1) := by decide +kernel
theorem dX12_valleys_70 : decode cX12_valleys 70 = .ok (.ldc2_w 188, 3) := by decide +kernel
theorem dX12_valleys_73 : decode cX12_valleys 73 = .ok (.ladd, 1) := by decide +kernel
theorem dX12_valleys_74 : decode cX12_valleys 74 = .ok (.ldc2_w 190, 3) := by decide +kernel
theorem dX12_valleys_77 : decode cX12_valleys 77 = .ok (.lrem, 1) := by decide +kernel
theorem dX12_valleys_78 : decode cX12_valleys 78 = .ok (.lstore_n 3, 1) := by decide +kernel
theorem dX12_valleys_79 : decode cX12_valleys 79 = .ok (.aload_n 0, 1) := by decide +kernel
theorem dX12_valleys_80 : decode cX12_valleys 80 = .ok (.getfield 33, 3) := by decide +kernel
theorem dX12_valleys_83 : decode cX12_valleys 83 = .ok (.iload 7, 2) := by decide +kernel
theorem dX12_valleys_85 : decode cX12_valleys 85 = .ok (.lload_n 3, 1) := by decide +kernel
theorem dX12_valleys_86 : decode cX12_valleys 86 = .ok (.ldc2_w 192, 3) := by decide +kernel
theorem dX12_valleys_89 : decode cX12_valleys 89 = .ok (.ldiv, 1) := by decide +kernel
theorem dX12_valleys_90 : decode cX12_valleys 90 = .ok (.ldc2_w 194, 3) := by decide +kernel
theorem dX12_valleys_93 : decode cX12_valleys 93 = .ok (.lrem, 1) := by decide +kernel
theorem dX12_valleys_94 : decode cX12_valleys 94 = .ok (.l2i, 1) := by decide +kernel
theorem dX12_valleys_95 : decode cX12_valleys 95 = .ok (.iastore, 1) := by decide +kernel
theorem dX12_valleys_96 : decode cX12_valleys 96 = .ok (.aload_n 0, 1) := by decide +kernel
theorem dX12_valleys_97 : decode cX12_valleys 97 = .ok (.getfield 36, 3) := by decide +kernel
theorem dX12_valleys_100 : decode cX12_valleys 100 = .ok (.iload 7, 2) := by decide +kernel
theorem dX12_valleys_102 : decode cX12_valleys 102 = .ok (.lload_n 3, 1) := by decide +kernel
theorem dX12_valleys_103 : decode cX12_valleys 103 = .ok (.ldc2_w 196, 3) := by decide +kernel
theorem dX12_valleys_106 : decode cX12_valleys 106 = .ok (.ldiv, 1) := by decide +kernel
theorem dX12_valleys_107 : decode cX12_valleys 107 = .ok (.ldc2_w 80, 3) := by decide +kernel
theorem dX12_valleys_110 : decode cX12_valleys 110 = .ok (.lrem, 1) := by decide +kernel
theorem dX12_valleys_111 : decode cX12_valleys 111 = .ok (.l2i, 1) := by decide +kernel
theorem dX12_valleys_112 : decode cX12_valleys 112 = .ok (.iconst 1, 1) := by decide +kernel
theorem dX12_valleys_113 : decode cX12_valleys 113 = .ok (.iadd, 1) := by decide +kernel
theorem dX12_valleys_114 : decode cX12_valleys 114 = .ok (.iastore, 1) := by decide +kernel
theorem dX12_valleys_115 : decode cX12_valleys 115 = .ok (.iinc 7 1, 3) := by decide +kernel
