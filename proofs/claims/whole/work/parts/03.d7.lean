theorem dX9_bestFed_55 : decode cX9_bestFed 55 = .ok (.aload_n 0, 1) := by decide +kernel
theorem dX9_bestFed_56 : decode cX9_bestFed 56 = .ok (.iload 4, 2) := by decide +kernel
theorem dX9_bestFed_58 : decode cX9_bestFed 58 = .ok (.aload_n 0, 1) := by decide +kernel
theorem dX9_bestFed_59 : decode cX9_bestFed 59 = .ok (.getfield 112, 3) := by decide +kernel
theorem dX9_bestFed_62 : decode cX9_bestFed 62 = .ok (.iconst 0, 1) := by decide +kernel
theorem dX9_bestFed_63 : decode cX9_bestFed 63 = .ok (.iaload, 1) := by decide +kernel
theorem dX9_bestFed_64 : decode cX9_bestFed 64 = .ok (.aload_n 0, 1) := by decide +kernel
theorem dX9_bestFed_65 : decode cX9_bestFed 65 = .ok (.getfield 222, 3) := by decide +kernel
theorem dX9_bestFed_68 : decode cX9_bestFed 68 = .ok (.irem, 1) := by decide +kernel
theorem dX9_bestFed_69 : decode cX9_bestFed 69 = .ok (.invokevirtual 511, 3) := by decide +kernel
theorem dX9_bestFed_72 : decode cX9_bestFed 72 = .ok (.goto 4, 3) := by decide +kernel
theorem dX9_bestFed_75 : decode cX9_bestFed 75 = .ok (.iconst (-1), 1) := by decide +kernel
theorem dX9_bestFed_76 : decode cX9_bestFed 76 = .ok (.istore 5, 2) := by decide +kernel
theorem dX9_bestFed_78 : decode cX9_bestFed 78 = .ok (.iload 5, 2) := by decide +kernel
theorem dX9_bestFed_80 : decode cX9_bestFed 80 = .ok (.ifCond .lt 22, 3) := by decide +kernel
theorem dX9_bestFed_83 : decode cX9_bestFed 83 = .ok (.iload_n 2, 1) := by decide +kernel
theorem dX9_bestFed_84 : decode cX9_bestFed 84 = .ok (.ifCond .lt 12, 3) := by decide +kernel
theorem dX9_bestFed_87 : decode cX9_bestFed 87 = .ok (.iload 5, 2) := by decide +kernel
theorem dX9_bestFed_89 : decode cX9_bestFed 89 = .ok (.iload_n 3, 1) := by decide +kernel
theorem dX9_bestFed_90 : decode cX9_bestFed 90 = .ok (.if_icmp .gt 6, 3) := by decide +kernel
theorem dX9_bestFed_93 : decode cX9_bestFed 93 = .ok (.goto 9, 3) := by decide +kernel
theorem dX9_bestFed_96 : decode cX9_bestFed 96 = .ok (.iload 4, 2) := by decide +kernel
theorem dX9_bestFed_98 : decode cX9_bestFed 98 = .ok (.istore_n 2, 1) := by decide +kernel
theorem dX9_bestFed_99 : decode cX9_bestFed 99 = .ok (.iload 5, 2) := by decide +kernel
theorem dX9_bestFed_101 : decode cX9_bestFed 101 = .ok (.istore_n 3, 1) := by decide +kernel
theorem dX9_bestFed_102 : decode cX9_bestFed 102 = .ok (.iinc 4 1, 3) := by decide +kernel
theorem dX9_bestFed_105 : decode cX9_bestFed 105 = .ok (.goto (-76), 3) := by decide +kernel
theorem dX9_bestFed_108 : decode cX9_bestFed 108 = .ok (.iload_n 1, 1) := by decide +kernel
theorem dX9_bestFed_109 : decode cX9_bestFed 109 = .ok (.ifCond .ne 7, 3) := by decide +kernel
theorem dX9_bestFed_112 : decode cX9_bestFed 112 = .ok (.iload_n 2, 1) := by decide +kernel
theorem dX9_bestFed_113 : decode cX9_bestFed 113 = .ok (.goto 4, 3) := by decide +kernel
theorem dX9_bestFed_116 : decode cX9_bestFed 116 = .ok (.iload_n 3, 1) := by decide +kernel
theorem dX9_bestFed_117 : decode cX9_bestFed 117 = .ok (.ireturn, 1) := by decide +kernel
theorem dX9_hasBy_0 : decode cX9_hasBy 0 = .ok (.iload_n 3, 1) := by decide +kernel
theorem dX9_hasBy_1 : decode cX9_hasBy 1 = .ok (.ifCond .ne 26, 3) := by decide +kernel
theorem dX9_hasBy_4 : decode cX9_hasBy 4 = .ok (.iload 4, 2) := by decide +kernel
theorem dX9_hasBy_6 : decode cX9_hasBy 6 = .ok (.ifCond .ne 12, 3) := by decide +kernel
theorem dX9_hasBy_9 : decode cX9_hasBy 9 = .ok (.aload_n 0, 1) := by decide +kernel
theorem dX9_hasBy_10 : decode cX9_hasBy 10 = .ok (.getfield 36, 3) := by decide +kernel
theorem dX9_hasBy_13 : decode cX9_hasBy 13 = .ok (.iload_n 2, 1) := by decide +kernel
theorem dX9_hasBy_14 : decode cX9_hasBy 14 = .ok (.iaload, 1) := by decide +kernel
theorem dX9_hasBy_15 : decode cX9_hasBy 15 = .ok (.goto 11, 3) := by decide +kernel
theorem dX9_hasBy_18 : decode cX9_hasBy 18 = .ok (.aload_n 0, 1) := by decide +kernel
theorem dX9_hasBy_19 : decode cX9_hasBy 19 = .ok (.getfield 36, 3) := by decide +kernel
theorem dX9_hasBy_22 : decode cX9_hasBy 22 = .ok (.iload_n 1, 1) := by decide +kernel
theorem dX9_hasBy_23 : decode cX9_hasBy 23 = .ok (.iaload, 1) := by decide +kernel
theorem dX9_hasBy_24 : decode cX9_hasBy 24 = .ok (.iconst 5, 1) := by decide +kernel
theorem dX9_hasBy_25 : decode cX9_hasBy 25 = .ok (.isub, 1) := by decide +kernel
theorem dX9_hasBy_26 : decode cX9_hasBy 26 = .ok (.ireturn, 1) := by decide +kernel
theorem dX9_hasBy_27 : decode cX9_hasBy 27 = .ok (.iload 4, 2) := by decide +kernel
theorem dX9_hasBy_29 : decode cX9_hasBy 29 = .ok (.ifCond .ne 14, 3) := by decide +kernel
theorem dX9_hasBy_32 : decode cX9_hasBy 32 = .ok (.aload_n 0, 1) := by decide +kernel
theorem dX9_hasBy_33 : decode cX9_hasBy 33 = .ok (.getfield 91, 3) := by decide +kernel
theorem dX9_hasBy_36 : decode cX9_hasBy 36 = .ok (.iload_n 1, 1) := by decide +kernel
theorem dX9_hasBy_37 : decode cX9_hasBy 37 = .ok (.iaload, 1) := by decide +kernel
theorem dX9_hasBy_38 : decode cX9_hasBy 38 = .ok (.iconst 5, 1) := by decide +kernel
theorem dX9_hasBy_39 : decode cX9_hasBy 39 = .ok (.idiv, 1) := by decide +kernel
theorem dX9_hasBy_40 : decode cX9_hasBy 40 = .ok (.goto 13, 3) := by decide +kernel
theorem dX9_hasBy_43 : decode cX9_hasBy 43 = .ok (.aload_n 0, 1) := by decide +kernel
theorem dX9_hasBy_44 : decode cX9_hasBy 44 = .ok (.getfield 88, 3) := by decide +kernel
theorem dX9_hasBy_47 : decode cX9_hasBy 47 = .ok (.iload_n 1, 1) := by decide +kernel
theorem dX9_hasBy_48 : decode cX9_hasBy 48 = .ok (.iaload, 1) := by decide +kernel
theorem dX9_hasBy_49 : decode cX9_hasBy 49 = .ok (.bipush 20, 2) := by decide +kernel
theorem dX9_hasBy_51 : decode cX9_hasBy 51 = .ok (.idiv, 1) := by decide +kernel
theorem dX9_hasBy_52 : decode cX9_hasBy 52 = .ok (.ineg, 1) := by decide +kernel
theorem dX9_hasBy_53 : decode cX9_hasBy 53 = .ok (.ireturn, 1) := by decide +kernel
theorem dX9_restAt_0 : decode cX9_restAt 0 = .ok (.iconst 0, 1) := by decide +kernel
theorem dX9_restAt_1 : decode cX9_restAt 1 = .ok (.istore 4, 2) := by decide +kernel
theorem dX9_restAt_3 : decode cX9_restAt 3 = .ok (.iconst 0, 1) := by decide +kernel
theorem dX9_restAt_4 : decode cX9_restAt 4 = .ok (.istore 5, 2) := by decide +kernel
theorem dX9_restAt_6 : decode cX9_restAt 6 = .ok (.iload 5, 2) := by decide +kernel
theorem dX9_restAt_8 : decode cX9_restAt 8 = .ok (.iconst 4, 1) := by decide +kernel
theorem dX9_restAt_9 : decode cX9_restAt 9 = .ok (.if_icmp .ge 92, 3) := by decide +kernel
theorem dX9_restAt_12 : decode cX9_restAt 12 = .ok (.iload 5, 2) := by decide +kernel
theorem dX9_restAt_14 : decode cX9_restAt 14 = .ok (.iconst 2, 1) := by decide +kernel
theorem dX9_restAt_15 : decode cX9_restAt 15 = .ok (.idiv, 1) := by decide +kernel
theorem dX9_restAt_16 : decode cX9_restAt 16 = .ok (.istore 6, 2) := by decide +kernel
theorem dX9_restAt_18 : decode cX9_restAt 18 = .ok (.iload 5, 2) := by decide +kernel
theorem dX9_restAt_20 : decode cX9_restAt 20 = .ok (.iconst 2, 1) := by decide +kernel
theorem dX9_restAt_21 : decode cX9_restAt 21 = .ok (.irem, 1) := by decide +kernel
theorem dX9_restAt_22 : decode cX9_restAt 22 = .ok (.istore 7, 2) := by decide +kernel
theorem dX9_restAt_24 : decode cX9_restAt 24 = .ok (.aload_n 0, 1) := by decide +kernel
theorem dX9_restAt_25 : decode cX9_restAt 25 = .ok (.iload_n 1, 1) := by decide +kernel
theorem dX9_restAt_26 : decode cX9_restAt 26 = .ok (.iload_n 2, 1) := by decide +kernel
theorem dX9_restAt_27 : decode cX9_restAt 27 = .ok (.iconst 1, 1) := by decide +kernel
theorem dX9_restAt_28 : decode cX9_restAt 28 = .ok (.iload 6, 2) := by decide +kernel
theorem dX9_restAt_30 : decode cX9_restAt 30 = .ok (.isub, 1) := by decide +kernel
theorem dX9_restAt_31 : decode cX9_restAt 31 = .ok (.iload 7, 2) := by decide +kernel
theorem dX9_restAt_33 : decode cX9_restAt 33 = .ok (.invokevirtual 514, 3) := by decide +kernel
theorem dX9_restAt_36 : decode cX9_restAt 36 = .ok (.aload_n 0, 1) := by decide +kernel
theorem dX9_restAt_37 : decode cX9_restAt 37 = .ok (.iload_n 1, 1) := by decide +kernel
theorem dX9_restAt_38 : decode cX9_restAt 38 = .ok (.iload_n 2, 1) := by decide +kernel
theorem dX9_restAt_39 : decode cX9_restAt 39 = .ok (.iload 6, 2) := by decide +kernel
theorem dX9_restAt_41 : decode cX9_restAt 41 = .ok (.iload 7, 2) := by decide +kernel
theorem dX9_restAt_43 : decode cX9_restAt 43 = .ok (.invokevirtual 514, 3) := by decide +kernel
theorem dX9_restAt_46 : decode cX9_restAt 46 = .ok (.if_icmp .gt 49, 3) := by decide +kernel
theorem dX9_restAt_49 : decode cX9_restAt 49 = .ok (.aload_n 0, 1) := by decide +kernel
theorem dX9_restAt_50 : decode cX9_restAt 50 = .ok (.iload_n 2, 1) := by decide +kernel
theorem dX9_restAt_51 : decode cX9_restAt 51 = .ok (.iload_n 1, 1) := by decide +kernel
theorem dX9_restAt_52 : decode cX9_restAt 52 = .ok (.iconst 1, 1) := by decide +kernel
theorem dX9_restAt_53 : decode cX9_restAt 53 = .ok (.iload 7, 2) := by decide +kernel
theorem dX9_restAt_55 : decode cX9_restAt 55 = .ok (.isub, 1) := by decide +kernel
theorem dX9_restAt_56 : decode cX9_restAt 56 = .ok (.iload 6, 2) := by decide +kernel
theorem dX9_restAt_58 : decode cX9_restAt 58 = .ok (.invokevirtual 514, 3) := by decide +kernel
theorem dX9_restAt_61 : decode cX9_restAt 61 = .ok (.aload_n 0, 1) := by decide +kernel
theorem dX9_restAt_62 : decode cX9_restAt 62 = .ok (.iload_n 2, 1) := by decide +kernel
theorem dX9_restAt_63 : decode cX9_restAt 63 = .ok (.iload_n 1, 1) := by decide +kernel
theorem dX9_restAt_64 : decode cX9_restAt 64 = .ok (.iload 7, 2) := by decide +kernel
theorem dX9_restAt_66 : decode cX9_restAt 66 = .ok (.iload 6, 2) := by decide +kernel
theorem dX9_restAt_68 : decode cX9_restAt 68 = .ok (.invokevirtual 514, 3) := by decide +kernel
theorem dX9_restAt_71 : decode cX9_restAt 71 = .ok (.if_icmp .le 6, 3) := by decide +kernel
theorem dX9_restAt_74 : decode cX9_restAt 74 = .ok (.goto 21, 3) := by decide +kernel
theorem dX9_restAt_77 : decode cX9_restAt 77 = .ok (.iload 4, 2) := by decide +kernel
theorem dX9_restAt_79 : decode cX9_restAt 79 = .ok (.iload_n 3, 1) := by decide +kernel
theorem dX9_restAt_80 : decode cX9_restAt 80 = .ok (.if_icmp .ne 12, 3) := by decide +kernel
theorem dX9_restAt_83 : decode cX9_restAt 83 = .ok (.bipush 10, 2) := by decide +kernel
theorem dX9_restAt_85 : decode cX9_restAt 85 = .ok (.iload 6, 2) := by decide +kernel
theorem dX9_restAt_87 : decode cX9_restAt 87 = .ok (.imul, 1) := by decide +kernel
theorem dX9_restAt_88 : decode cX9_restAt 88 = .ok (.iload 7, 2) := by decide +kernel
theorem dX9_restAt_90 : decode cX9_restAt 90 = .ok (.iadd, 1) := by decide +kernel
theorem dX9_restAt_91 : decode cX9_restAt 91 = .ok (.ireturn, 1) := by decide +kernel
theorem dX9_restAt_92 : decode cX9_restAt 92 = .ok (.iinc 4 1, 3) := by decide +kernel
theorem dX9_restAt_95 : decode cX9_restAt 95 = .ok (.iinc 5 1, 3) := by decide +kernel
theorem dX9_restAt_98 : decode cX9_restAt 98 = .ok (.goto (-92), 3) := by decide +kernel
theorem dX9_restAt_101 : decode cX9_restAt 101 = .ok (.iload_n 3, 1) := by decide +kernel
theorem dX9_restAt_102 : decode cX9_restAt 102 = .ok (.ifCond .ge 8, 3) := by decide +kernel
theorem dX9_restAt_105 : decode cX9_restAt 105 = .ok (.iload 4, 2) := by decide +kernel
theorem dX9_restAt_107 : decode cX9_restAt 107 = .ok (.goto 5, 3) := by decide +kernel
theorem dX9_restAt_110 : decode cX9_restAt 110 = .ok (.bipush (-2), 2) := by decide +kernel
theorem dX9_restAt_112 : decode cX9_restAt 112 = .ok (.ireturn, 1) := by decide +kernel
theorem dX9_rests_0 : decode cX9_rests 0 = .ok (.aload_n 0, 1) := by decide +kernel
theorem dX9_rests_1 : decode cX9_rests 1 = .ok (.iconst 0, 1) := by decide +kernel
theorem dX9_rests_2 : decode cX9_rests 2 = .ok (.putfield 142, 3) := by decide +kernel
theorem dX9_rests_5 : decode cX9_rests 5 = .ok (.aload_n 0, 1) := by decide +kernel
theorem dX9_rests_6 : decode cX9_rests 6 = .ok (.iload_n 1, 1) := by decide +kernel
theorem dX9_rests_7 : decode cX9_rests 7 = .ok (.iload_n 2, 1) := by decide +kernel
theorem dX9_rests_8 : decode cX9_rests 8 = .ok (.invokevirtual 469, 3) := by decide +kernel
theorem dX9_rests_11 : decode cX9_rests 11 = .ok (.ifCond .eq 13, 3) := by decide +kernel
theorem dX9_rests_14 : decode cX9_rests 14 = .ok (.aload_n 0, 1) := by decide +kernel
theorem dX9_rests_15 : decode cX9_rests 15 = .ok (.iload_n 1, 1) := by decide +kernel
theorem dX9_rests_16 : decode cX9_rests 16 = .ok (.iload_n 2, 1) := by decide +kernel
theorem dX9_rests_17 : decode cX9_rests 17 = .ok (.iconst (-1), 1) := by decide +kernel
theorem dX9_rests_18 : decode cX9_rests 18 = .ok (.invokevirtual 518, 3) := by decide +kernel
theorem dX9_rests_21 : decode cX9_rests 21 = .ok (.goto 4, 3) := by decide +kernel
theorem dX9_rests_24 : decode cX9_rests 24 = .ok (.iconst (-1), 1) := by decide +kernel
theorem dX9_rests_25 : decode cX9_rests 25 = .ok (.ireturn, 1) := by decide +kernel
theorem dX9_rest_0 : decode cX9_rest 0 = .ok (.aload_n 0, 1) := by decide +kernel
theorem dX9_rest_1 : decode cX9_rest 1 = .ok (.iconst 0, 1) := by decide +kernel
theorem dX9_rest_2 : decode cX9_rest 2 = .ok (.putfield 142, 3) := by decide +kernel
theorem dX9_rest_5 : decode cX9_rest 5 = .ok (.aload_n 0, 1) := by decide +kernel
theorem dX9_rest_6 : decode cX9_rest 6 = .ok (.iload_n 1, 1) := by decide +kernel
theorem dX9_rest_7 : decode cX9_rest 7 = .ok (.iload_n 2, 1) := by decide +kernel
theorem dX9_rest_8 : decode cX9_rest 8 = .ok (.invokevirtual 469, 3) := by decide +kernel
theorem dX9_rest_11 : decode cX9_rest 11 = .ok (.ifCond .eq 17, 3) := by decide +kernel
theorem dX9_rest_14 : decode cX9_rest 14 = .ok (.iload_n 3, 1) := by decide +kernel
theorem dX9_rest_15 : decode cX9_rest 15 = .ok (.ifCond .lt 13, 3) := by decide +kernel
theorem dX9_rest_18 : decode cX9_rest 18 = .ok (.aload_n 0, 1) := by decide +kernel
theorem dX9_rest_19 : decode cX9_rest 19 = .ok (.iload_n 1, 1) := by decide +kernel
theorem dX9_rest_20 : decode cX9_rest 20 = .ok (.iload_n 2, 1) := by decide +kernel
theorem dX9_rest_21 : decode cX9_rest 21 = .ok (.iload_n 3, 1) := by decide +kernel
theorem dX9_rest_22 : decode cX9_rest 22 = .ok (.invokevirtual 518, 3) := by decide +kernel
theorem dX9_rest_25 : decode cX9_rest 25 = .ok (.goto 4, 3) := by decide +kernel
theorem dX9_rest_28 : decode cX9_rest 28 = .ok (.iconst (-1), 1) := by decide +kernel
theorem dX9_rest_29 : decode cX9_rest 29 = .ok (.ireturn, 1) := by decide +kernel
theorem dX9_warm_0 : decode cX9_warm 0 = .ok (.aload_n 0, 1) := by decide +kernel
theorem dX9_warm_1 : decode cX9_warm 1 = .ok (.iconst 0, 1) := by decide +kernel
theorem dX9_warm_2 : decode cX9_warm 2 = .ok (.putfield 142, 3) := by decide +kernel
theorem dX9_warm_5 : decode cX9_warm 5 = .ok (.iload_n 1, 1) := by decide +kernel
theorem dX9_warm_6 : decode cX9_warm 6 = .ok (.iconst 0, 1) := by decide +kernel
theorem dX9_warm_7 : decode cX9_warm 7 = .ok (.bipush 6, 2) := by decide +kernel
theorem dX9_warm_9 : decode cX9_warm 9 = .ok (.invokestatic 187, 3) := by decide +kernel
theorem dX9_warm_12 : decode cX9_warm 12 = .ok (.ifCond .eq 12, 3) := by decide +kernel
theorem dX9_warm_15 : decode cX9_warm 15 = .ok (.iload_n 2, 1) := by decide +kernel
theorem dX9_warm_16 : decode cX9_warm 16 = .ok (.iconst 0, 1) := by decide +kernel
theorem dX9_warm_17 : decode cX9_warm 17 = .ok (.iconst 1, 1) := by decide +kernel
theorem dX9_warm_18 : decode cX9_warm 18 = .ok (.invokestatic 187, 3) := by decide +kernel
theorem dX9_warm_21 : decode cX9_warm 21 = .ok (.ifCond .ne 7, 3) := by decide +kernel
theorem dX9_warm_24 : decode cX9_warm 24 = .ok (.ldc2_w 521, 3) := by decide +kernel
theorem dX9_warm_27 : decode cX9_warm 27 = .ok (.lreturn, 1) := by decide +kernel
theorem dX9_warm_28 : decode cX9_warm 28 = .ok (.lconst 1, 1) := by decide +kernel
theorem dX9_warm_29 : decode cX9_warm 29 = .ok (.lstore_n 3, 1) := by decide +kernel
theorem dX9_warm_30 : decode cX9_warm 30 = .ok (.lconst 1, 1) := by decide +kernel
theorem dX9_warm_31 : decode cX9_warm 31 = .ok (.lstore 5, 2) := by decide +kernel
theorem dX9_warm_33 : decode cX9_warm 33 = .ok (.iconst 0, 1) := by decide +kernel
theorem dX9_warm_34 : decode cX9_warm 34 = .ok (.istore 7, 2) := by decide +kernel
theorem dX9_warm_36 : decode cX9_warm 36 = .ok (.iload 7, 2) := by decide +kernel
theorem dX9_warm_38 : decode cX9_warm 38 = .ok (.iload_n 1, 1) := by decide +kernel
theorem dX9_warm_39 : decode cX9_warm 39 = .ok (.if_icmp .ge 30, 3) := by decide +kernel
theorem dX9_warm_42 : decode cX9_warm 42 = .ok (.lload_n 3, 1) := by decide +kernel
theorem dX9_warm_43 : decode cX9_warm 43 = .ok (.bipush 100, 2) := by decide +kernel
theorem dX9_warm_45 : decode cX9_warm 45 = .ok (.aload_n 0, 1) := by decide +kernel
theorem dX9_warm_46 : decode cX9_warm 46 = .ok (.getfield 24, 3) := by decide +kernel
theorem dX9_warm_49 : decode cX9_warm 49 = .ok (.iconst 1, 1) := by decide +kernel
theorem dX9_warm_50 : decode cX9_warm 50 = .ok (.iaload, 1) := by decide +kernel
theorem dX9_warm_51 : decode cX9_warm 51 = .ok (.isub, 1) := by decide +kernel
theorem dX9_warm_52 : decode cX9_warm 52 = .ok (.i2l, 1) := by decide +kernel
theorem dX9_warm_53 : decode cX9_warm 53 = .ok (.lmul, 1) := by decide +kernel
theorem dX9_warm_54 : decode cX9_warm 54 = .ok (.lstore_n 3, 1) := by decide +kernel
theorem dX9_warm_55 : decode cX9_warm 55 = .ok (.lload 5, 2) := by decide +kernel
theorem dX9_warm_57 : decode cX9_warm 57 = .ok (.ldc2_w 523, 3) := by decide +kernel
theorem dX9_warm_60 : decode cX9_warm 60 = .ok (.lmul, 1) := by decide +kernel
theorem dX9_warm_61 : decode cX9_warm 61 = .ok (.lstore 5, 2) := by decide +kernel
theorem dX9_warm_63 : decode cX9_warm 63 = .ok (.iinc 7 1, 3) := by decide +kernel
theorem dX9_warm_66 : decode cX9_warm 66 = .ok (.goto (-30), 3) := by decide +kernel
theorem dX9_warm_69 : decode cX9_warm 69 = .ok (.lload 5, 2) := by decide +kernel
theorem dX9_warm_71 : decode cX9_warm 71 = .ok (.lstore 7, 2) := by decide +kernel
theorem dX9_warm_73 : decode cX9_warm 73 = .ok (.lload_n 3, 1) := by decide +kernel
theorem dX9_warm_74 : decode cX9_warm 74 = .ok (.lstore 9, 2) := by decide +kernel
theorem dX9_warm_76 : decode cX9_warm 76 = .ok (.lload 9, 2) := by decide +kernel
theorem dX9_warm_78 : decode cX9_warm 78 = .ok (.lconst 0, 1) := by decide +kernel
theorem dX9_warm_79 : decode cX9_warm 79 = .ok (.lcmp, 1) := by decide +kernel
theorem dX9_warm_80 : decode cX9_warm 80 = .ok (.ifCond .eq 21, 3) := by decide +kernel
theorem dX9_warm_83 : decode cX9_warm 83 = .ok (.lload 7, 2) := by decide +kernel
theorem dX9_warm_85 : decode cX9_warm 85 = .ok (.lload 9, 2) := by decide +kernel
theorem dX9_warm_87 : decode cX9_warm 87 = .ok (.lrem, 1) := by decide +kernel
theorem dX9_warm_88 : decode cX9_warm 88 = .ok (.lstore 11, 2) := by decide +kernel
theorem dX9_warm_90 : decode cX9_warm 90 = .ok (.lload 9, 2) := by decide +kernel
theorem dX9_warm_92 : decode cX9_warm 92 = .ok (.lstore 7, 2) := by decide +kernel
theorem dX9_warm_94 : decode cX9_warm 94 = .ok (.lload 11, 2) := by decide +kernel
theorem dX9_warm_96 : decode cX9_warm 96 = .ok (.lstore 9, 2) := by decide +kernel
theorem dX9_warm_98 : decode cX9_warm 98 = .ok (.goto (-22), 3) := by decide +kernel
theorem dX9_warm_101 : decode cX9_warm 101 = .ok (.iload_n 2, 1) := by decide +kernel
theorem dX9_warm_102 : decode cX9_warm 102 = .ok (.ifCond .ne 10, 3) := by decide +kernel
theorem dX9_warm_105 : decode cX9_warm 105 = .ok (.lload_n 3, 1) := by decide +kernel
theorem dX9_warm_106 : decode cX9_warm 106 = .ok (.lload 7, 2) := by decide +kernel
theorem dX9_warm_108 : decode cX9_warm 108 = .ok (.ldiv, 1) := by decide +kernel
theorem dX9_warm_109 : decode cX9_warm 109 = .ok (.goto 8, 3) := by decide +kernel
theorem dX9_warm_112 : decode cX9_warm 112 = .ok (.lload 5, 2) := by decide +kernel
theorem dX9_warm_114 : decode cX9_warm 114 = .ok (.lload 7, 2) := by decide +kernel
theorem dX9_warm_116 : decode cX9_warm 116 = .ok (.ldiv, 1) := by decide +kernel
theorem dX9_warm_117 : decode cX9_warm 117 = .ok (.lreturn, 1) := by decide +kernel
theorem dX9_bowl_0 : decode cX9_bowl 0 = .ok (.aload_n 0, 1) := by decide +kernel
theorem dX9_bowl_1 : decode cX9_bowl 1 = .ok (.iconst 0, 1) := by decide +kernel
theorem dX9_bowl_2 : decode cX9_bowl 2 = .ok (.putfield 142, 3) := by decide +kernel
theorem dX9_bowl_5 : decode cX9_bowl 5 = .ok (.aload_n 0, 1) := by decide +kernel
theorem dX9_bowl_6 : decode cX9_bowl 6 = .ok (.invokevirtual 341, 3) := by decide +kernel
theorem dX9_bowl_9 : decode cX9_bowl 9 = .ok (.aload_n 0, 1) := by decide +kernel
theorem dX9_bowl_10 : decode cX9_bowl 10 = .ok (.getfield 219, 3) := by decide +kernel
theorem dX9_bowl_13 : decode cX9_bowl 13 = .ok (.ifCond .ne 7, 3) := by decide +kernel
theorem dX9_bowl_16 : decode cX9_bowl 16 = .ok (.iconst (-1), 1) := by decide +kernel
theorem dX9_bowl_17 : decode cX9_bowl 17 = .ok (.goto 19, 3) := by decide +kernel
theorem dX9_bowl_20 : decode cX9_bowl 20 = .ok (.aload_n 0, 1) := by decide +kernel
theorem dX9_bowl_21 : decode cX9_bowl 21 = .ok (.iconst 0, 1) := by decide +kernel
theorem dX9_bowl_22 : decode cX9_bowl 22 = .ok (.aload_n 0, 1) := by decide +kernel
theorem dX9_bowl_23 : decode cX9_bowl 23 = .ok (.getfield 112, 3) := by decide +kernel
theorem dX9_bowl_26 : decode cX9_bowl 26 = .ok (.iconst 0, 1) := by decide +kernel
theorem dX9_bowl_27 : decode cX9_bowl 27 = .ok (.iaload, 1) := by decide +kernel
theorem dX9_bowl_28 : decode cX9_bowl 28 = .ok (.aload_n 0, 1) := by decide +kernel
theorem dX9_bowl_29 : decode cX9_bowl 29 = .ok (.getfield 219, 3) := by decide +kernel
theorem dX9_bowl_32 : decode cX9_bowl 32 = .ok (.irem, 1) := by decide +kernel
theorem dX9_bowl_33 : decode cX9_bowl 33 = .ok (.invokevirtual 437, 3) := by decide +kernel
theorem dX9_bowl_36 : decode cX9_bowl 36 = .ok (.istore_n 1, 1) := by decide +kernel
theorem dX9_bowl_37 : decode cX9_bowl 37 = .ok (.iload_n 1, 1) := by decide +kernel
theorem dX9_bowl_38 : decode cX9_bowl 38 = .ok (.ifCond .ge 8, 3) := by decide +kernel
theorem dX9_bowl_41 : decode cX9_bowl 41 = .ok (.bipush (-2), 2) := by decide +kernel
theorem dX9_bowl_43 : decode cX9_bowl 43 = .ok (.goto 4, 3) := by decide +kernel
theorem dX9_bowl_46 : decode cX9_bowl 46 = .ok (.iload_n 1, 1) := by decide +kernel
theorem dX9_bowl_47 : decode cX9_bowl 47 = .ok (.ireturn, 1) := by decide +kernel
theorem dX9_uppermost_0 : decode cX9_uppermost 0 = .ok (.aload_n 0, 1) := by decide +kernel
theorem dX9_uppermost_1 : decode cX9_uppermost 1 = .ok (.iconst 0, 1) := by decide +kernel
theorem dX9_uppermost_2 : decode cX9_uppermost 2 = .ok (.putfield 142, 3) := by decide +kernel
theorem dX9_uppermost_5 : decode cX9_uppermost 5 = .ok (.aload_n 0, 1) := by decide +kernel
theorem dX9_uppermost_6 : decode cX9_uppermost 6 = .ok (.getfield 222, 3) := by decide +kernel
theorem dX9_uppermost_9 : decode cX9_uppermost 9 = .ok (.ifCond .ne 8, 3) := by decide +kernel
theorem dX9_uppermost_12 : decode cX9_uppermost 12 = .ok (.bipush (-2), 2) := by decide +kernel
theorem dX9_uppermost_14 : decode cX9_uppermost 14 = .ok (.goto 14, 3) := by decide +kernel
theorem dX9_uppermost_17 : decode cX9_uppermost 17 = .ok (.aload_n 0, 1) := by decide +kernel
theorem dX9_uppermost_18 : decode cX9_uppermost 18 = .ok (.getfield 112, 3) := by decide +kernel
theorem dX9_uppermost_21 : decode cX9_uppermost 21 = .ok (.iconst 0, 1) := by decide +kernel
theorem dX9_uppermost_22 : decode cX9_uppermost 22 = .ok (.iaload, 1) := by decide +kernel
theorem dX9_uppermost_23 : decode cX9_uppermost 23 = .ok (.aload_n 0, 1) := by decide +kernel
theorem dX9_uppermost_24 : decode cX9_uppermost 24 = .ok (.getfield 222, 3) := by decide +kernel
theorem dX9_uppermost_27 : decode cX9_uppermost 27 = .ok (.irem, 1) := by decide +kernel
theorem dX9_uppermost_28 : decode cX9_uppermost 28 = .ok (.ireturn, 1) := by decide +kernel
theorem dX9_hungriest_0 : decode cX9_hungriest 0 = .ok (.aload_n 0, 1) := by decide +kernel
theorem dX9_hungriest_1 : decode cX9_hungriest 1 = .ok (.iconst 0, 1) := by decide +kernel
theorem dX9_hungriest_2 : decode cX9_hungriest 2 = .ok (.putfield 142, 3) := by decide +kernel
theorem dX9_hungriest_5 : decode cX9_hungriest 5 = .ok (.bipush (-2), 2) := by decide +kernel
theorem dX9_hungriest_7 : decode cX9_hungriest 7 = .ok (.istore_n 1, 1) := by decide +kernel
theorem dX9_hungriest_8 : decode cX9_hungriest 8 = .ok (.iconst 0, 1) := by decide +kernel
theorem dX9_hungriest_9 : decode cX9_hungriest 9 = .ok (.istore_n 2, 1) := by decide +kernel
theorem dX9_hungriest_10 : decode cX9_hungriest 10 = .ok (.iload_n 2, 1) := by decide +kernel
theorem dX9_hungriest_11 : decode cX9_hungriest 11 = .ok (.aload_n 0, 1) := by decide +kernel
theorem dX9_hungriest_12 : decode cX9_hungriest 12 = .ok (.getfield 219, 3) := by decide +kernel
theorem dX9_hungriest_15 : decode cX9_hungriest 15 = .ok (.if_icmp .ge 43, 3) := by decide +kernel
theorem dX9_hungriest_18 : decode cX9_hungriest 18 = .ok (.aload_n 0, 1) := by decide +kernel
theorem dX9_hungriest_19 : decode cX9_hungriest 19 = .ok (.getfield 97, 3) := by decide +kernel
theorem dX9_hungriest_22 : decode cX9_hungriest 22 = .ok (.iload_n 2, 1) := by decide +kernel
theorem dX9_hungriest_23 : decode cX9_hungriest 23 = .ok (.baload, 1) := by decide +kernel
theorem dX9_hungriest_24 : decode cX9_hungriest 24 = .ok (.ifCond .eq 26, 3) := by decide +kernel
theorem dX9_hungriest_27 : decode cX9_hungriest 27 = .ok (.iload_n 1, 1) := by decide +kernel
theorem dX9_hungriest_28 : decode cX9_hungriest 28 = .ok (.ifCond .lt 18, 3) := by decide +kernel
theorem dX9_hungriest_31 : decode cX9_hungriest 31 = .ok (.aload_n 0, 1) := by decide +kernel
theorem dX9_hungriest_32 : decode cX9_hungriest 32 = .ok (.getfield 91, 3) := by decide +kernel
theorem dX9_hungriest_35 : decode cX9_hungriest 35 = .ok (.iload_n 2, 1) := by decide +kernel
theorem dX9_hungriest_36 : decode cX9_hungriest 36 = .ok (.iaload, 1) := by decide +kernel
theorem dX9_hungriest_37 : decode cX9_hungriest 37 = .ok (.aload_n 0, 1) := by decide +kernel
theorem dX9_hungriest_38 : decode cX9_hungriest 38 = .ok (.getfield 91, 3) := by decide +kernel
theorem dX9_hungriest_41 : decode cX9_hungriest 41 = .ok (.iload_n 1, 1) := by decide +kernel
theorem dX9_hungriest_42 : decode cX9_hungriest 42 = .ok (.iaload, 1) := by decide +kernel
theorem dX9_hungriest_43 : decode cX9_hungriest 43 = .ok (.if_icmp .le 7, 3) := by decide +kernel
theorem dX9_hungriest_46 : decode cX9_hungriest 46 = .ok (.iload_n 2, 1) := by decide +kernel
theorem dX9_hungriest_47 : decode cX9_hungriest 47 = .ok (.goto 4, 3) := by decide +kernel
theorem dX9_hungriest_50 : decode cX9_hungriest 50 = .ok (.iload_n 1, 1) := by decide +kernel
theorem dX9_hungriest_51 : decode cX9_hungriest 51 = .ok (.istore_n 1, 1) := by decide +kernel
theorem dX9_hungriest_52 : decode cX9_hungriest 52 = .ok (.iinc 2 1, 3) := by decide +kernel
theorem dX9_hungriest_55 : decode cX9_hungriest 55 = .ok (.goto (-45), 3) := by decide +kernel
theorem dX9_hungriest_58 : decode cX9_hungriest 58 = .ok (.iload_n 1, 1) := by decide +kernel
theorem dX9_hungriest_59 : decode cX9_hungriest 59 = .ok (.ireturn, 1) := by decide +kernel
theorem dX9_rudest_0 : decode cX9_rudest 0 = .ok (.aload_n 0, 1) := by decide +kernel
theorem dX9_rudest_1 : decode cX9_rudest 1 = .ok (.iconst 0, 1) := by decide +kernel
theorem dX9_rudest_2 : decode cX9_rudest 2 = .ok (.putfield 142, 3) := by decide +kernel
theorem dX9_rudest_5 : decode cX9_rudest 5 = .ok (.bipush (-2), 2) := by decide +kernel
theorem dX9_rudest_7 : decode cX9_rudest 7 = .ok (.istore_n 1, 1) := by decide +kernel
theorem dX9_rudest_8 : decode cX9_rudest 8 = .ok (.iconst 0, 1) := by decide +kernel
theorem dX9_rudest_9 : decode cX9_rudest 9 = .ok (.istore_n 2, 1) := by decide +kernel
theorem dX9_rudest_10 : decode cX9_rudest 10 = .ok (.iload_n 2, 1) := by decide +kernel
theorem dX9_rudest_11 : decode cX9_rudest 11 = .ok (.aload_n 0, 1) := by decide +kernel
theorem dX9_rudest_12 : decode cX9_rudest 12 = .ok (.getfield 219, 3) := by decide +kernel
theorem dX9_rudest_15 : decode cX9_rudest 15 = .ok (.if_icmp .ge 43, 3) := by decide +kernel
theorem dX9_rudest_18 : decode cX9_rudest 18 = .ok (.aload_n 0, 1) := by decide +kernel
theorem dX9_rudest_19 : decode cX9_rudest 19 = .ok (.getfield 97, 3) := by decide +kernel
theorem dX9_rudest_22 : decode cX9_rudest 22 = .ok (.iload_n 2, 1) := by decide +kernel
theorem dX9_rudest_23 : decode cX9_rudest 23 = .ok (.baload, 1) := by decide +kernel
theorem dX9_rudest_24 : decode cX9_rudest 24 = .ok (.ifCond .eq 26, 3) := by decide +kernel
theorem dX9_rudest_27 : decode cX9_rudest 27 = .ok (.iload_n 1, 1) := by decide +kernel
theorem dX9_rudest_28 : decode cX9_rudest 28 = .ok (.ifCond .lt 18, 3) := by decide +kernel
theorem dX9_rudest_31 : decode cX9_rudest 31 = .ok (.aload_n 0, 1) := by decide +kernel
theorem dX9_rudest_32 : decode cX9_rudest 32 = .ok (.getfield 88, 3) := by decide +kernel
theorem dX9_rudest_35 : decode cX9_rudest 35 = .ok (.iload_n 2, 1) := by decide +kernel
theorem dX9_rudest_36 : decode cX9_rudest 36 = .ok (.iaload, 1) := by decide +kernel
theorem dX9_rudest_37 : decode cX9_rudest 37 = .ok (.aload_n 0, 1) := by decide +kernel
theorem dX9_rudest_38 : decode cX9_rudest 38 = .ok (.getfield 88, 3) := by decide +kernel
theorem dX9_rudest_41 : decode cX9_rudest 41 = .ok (.iload_n 1, 1) := by decide +kernel
theorem dX9_rudest_42 : decode cX9_rudest 42 = .ok (.iaload, 1) := by decide +kernel
theorem dX9_rudest_43 : decode cX9_rudest 43 = .ok (.if_icmp .ge 7, 3) := by decide +kernel
theorem dX9_rudest_46 : decode cX9_rudest 46 = .ok (.iload_n 2, 1) := by decide +kernel
theorem dX9_rudest_47 : decode cX9_rudest 47 = .ok (.goto 4, 3) := by decide +kernel
theorem dX9_rudest_50 : decode cX9_rudest 50 = .ok (.iload_n 1, 1) := by decide +kernel
theorem dX9_rudest_51 : decode cX9_rudest 51 = .ok (.istore_n 1, 1) := by decide +kernel
theorem dX9_rudest_52 : decode cX9_rudest 52 = .ok (.iinc 2 1, 3) := by decide +kernel
theorem dX9_rudest_55 : decode cX9_rudest 55 = .ok (.goto (-45), 3) := by decide +kernel
theorem dX9_rudest_58 : decode cX9_rudest 58 = .ok (.iload_n 1, 1) := by decide +kernel
theorem dX9_rudest_59 : decode cX9_rudest 59 = .ok (.ireturn, 1) := by decide +kernel
theorem dX9_marked_0 : decode cX9_marked 0 = .ok (.aload_n 0, 1) := by decide +kernel
theorem dX9_marked_1 : decode cX9_marked 1 = .ok (.iconst 0, 1) := by decide +kernel
theorem dX9_marked_2 : decode cX9_marked 2 = .ok (.putfield 142, 3) := by decide +kernel
theorem dX9_marked_5 : decode cX9_marked 5 = .ok (.iconst 0, 1) := by decide +kernel
theorem dX9_marked_6 : decode cX9_marked 6 = .ok (.istore_n 1, 1) := by decide +kernel
theorem dX9_marked_7 : decode cX9_marked 7 = .ok (.iconst 0, 1) := by decide +kernel
theorem dX9_marked_8 : decode cX9_marked 8 = .ok (.istore_n 2, 1) := by decide +kernel
theorem dX9_marked_9 : decode cX9_marked 9 = .ok (.iload_n 2, 1) := by decide +kernel
theorem dX9_marked_10 : decode cX9_marked 10 = .ok (.aload_n 0, 1) := by decide +kernel
theorem dX9_marked_11 : decode cX9_marked 11 = .ok (.getfield 222, 3) := by decide +kernel
theorem dX9_marked_14 : decode cX9_marked 14 = .ok (.if_icmp .ge 28, 3) := by decide +kernel
theorem dX9_marked_17 : decode cX9_marked 17 = .ok (.iload_n 1, 1) := by decide +kernel
theorem dX9_marked_18 : decode cX9_marked 18 = .ok (.aload_n 0, 1) := by decide +kernel
theorem dX9_marked_19 : decode cX9_marked 19 = .ok (.getfield 103, 3) := by decide +kernel
theorem dX9_marked_22 : decode cX9_marked 22 = .ok (.iload_n 2, 1) := by decide +kernel
theorem dX9_marked_23 : decode cX9_marked 23 = .ok (.iaload, 1) := by decide +kernel
theorem dX9_marked_24 : decode cX9_marked 24 = .ok (.ifCond .le 9, 3) := by decide +kernel
theorem dX9_marked_27 : decode cX9_marked 27 = .ok (.iconst 1, 1) := by decide +kernel
theorem dX9_marked_28 : decode cX9_marked 28 = .ok (.iload_n 2, 1) := by decide +kernel
theorem dX9_marked_29 : decode cX9_marked 29 = .ok (.ishl, 1) := by decide +kernel
theorem dX9_marked_30 : decode cX9_marked 30 = .ok (.goto 4, 3) := by decide +kernel
theorem dX9_marked_33 : decode cX9_marked 33 = .ok (.iconst 0, 1) := by decide +kernel
theorem dX9_marked_34 : decode cX9_marked 34 = .ok (.ior, 1) := by decide +kernel
theorem dX9_marked_35 : decode cX9_marked 35 = .ok (.istore_n 1, 1) := by decide +kernel
theorem dX9_marked_36 : decode cX9_marked 36 = .ok (.iinc 2 1, 3) := by decide +kernel
theorem dX9_marked_39 : decode cX9_marked 39 = .ok (.goto (-30), 3) := by decide +kernel
theorem dX9_marked_42 : decode cX9_marked 42 = .ok (.iload_n 1, 1) := by decide +kernel
theorem dX9_marked_43 : decode cX9_marked 43 = .ok (.ireturn, 1) := by decide +kernel
theorem dX9_grace_0 : decode cX9_grace 0 = .ok (.aload_n 0, 1) := by decide +kernel
theorem dX9_grace_1 : decode cX9_grace 1 = .ok (.iconst 0, 1) := by decide +kernel
theorem dX9_grace_2 : decode cX9_grace 2 = .ok (.putfield 142, 3) := by decide +kernel
theorem dX9_grace_5 : decode cX9_grace 5 = .ok (.iload_n 1, 1) := by decide +kernel
theorem dX9_grace_6 : decode cX9_grace 6 = .ok (.iconst 0, 1) := by decide +kernel
theorem dX9_grace_7 : decode cX9_grace 7 = .ok (.sipush 200, 3) := by decide +kernel
theorem dX9_grace_10 : decode cX9_grace 10 = .ok (.invokestatic 187, 3) := by decide +kernel
theorem dX9_grace_13 : decode cX9_grace 13 = .ok (.ifCond .ne 5, 3) := by decide +kernel
theorem dX9_grace_16 : decode cX9_grace 16 = .ok (.iconst (-1), 1) := by decide +kernel
theorem dX9_grace_17 : decode cX9_grace 17 = .ok (.ireturn, 1) := by decide +kernel
theorem dX9_grace_18 : decode cX9_grace 18 = .ok (.aload_n 0, 1) := by decide +kernel
theorem dX9_grace_19 : decode cX9_grace 19 = .ok (.invokevirtual 475, 3) := by decide +kernel
theorem dX9_grace_22 : decode cX9_grace 22 = .ok (.aload_n 0, 1) := by decide +kernel
theorem dX9_grace_23 : decode cX9_grace 23 = .ok (.iload_n 1, 1) := by decide +kernel
theorem dX9_grace_24 : decode cX9_grace 24 = .ok (.invokevirtual 478, 3) := by decide +kernel
theorem dX9_grace_27 : decode cX9_grace 27 = .ok (.iconst 0, 1) := by decide +kernel
theorem dX9_grace_28 : decode cX9_grace 28 = .ok (.istore_n 2, 1) := by decide +kernel
theorem dX9_grace_29 : decode cX9_grace 29 = .ok (.iconst 0, 1) := by decide +kernel
theorem dX9_grace_30 : decode cX9_grace 30 = .ok (.istore_n 3, 1) := by decide +kernel
theorem dX9_grace_31 : decode cX9_grace 31 = .ok (.iload_n 3, 1) := by decide +kernel
theorem dX9_grace_32 : decode cX9_grace 32 = .ok (.aload_n 0, 1) := by decide +kernel
theorem dX9_grace_33 : decode cX9_grace 33 = .ok (.getfield 219, 3) := by decide +kernel
theorem dX9_grace_36 : decode cX9_grace 36 = .ok (.if_icmp .ge 37, 3) := by decide +kernel
theorem dX9_grace_39 : decode cX9_grace 39 = .ok (.iload_n 2, 1) := by decide +kernel
theorem dX9_grace_40 : decode cX9_grace 40 = .ok (.aload_n 0, 1) := by decide +kernel
theorem dX9_grace_41 : decode cX9_grace 41 = .ok (.getfield 97, 3) := by decide +kernel
theorem dX9_grace_44 : decode cX9_grace 44 = .ok (.bipush 6, 2) := by decide +kernel
theorem dX9_grace_46 : decode cX9_grace 46 = .ok (.iload_n 3, 1) := by decide +kernel
theorem dX9_grace_47 : decode cX9_grace 47 = .ok (.iadd, 1) := by decide +kernel
theorem dX9_grace_48 : decode cX9_grace 48 = .ok (.baload, 1) := by decide +kernel
theorem dX9_grace_49 : decode cX9_grace 49 = .ok (.ifCond .eq 15, 3) := by decide +kernel
theorem dX9_grace_52 : decode cX9_grace 52 = .ok (.aload_n 0, 1) := by decide +kernel
theorem dX9_grace_53 : decode cX9_grace 53 = .ok (.getfield 88, 3) := by decide +kernel
theorem dX9_grace_56 : decode cX9_grace 56 = .ok (.bipush 6, 2) := by decide +kernel
theorem dX9_grace_58 : decode cX9_grace 58 = .ok (.iload_n 3, 1) := by decide +kernel
theorem dX9_grace_59 : decode cX9_grace 59 = .ok (.iadd, 1) := by decide +kernel
theorem dX9_grace_60 : decode cX9_grace 60 = .ok (.iaload, 1) := by decide +kernel
theorem dX9_grace_61 : decode cX9_grace 61 = .ok (.goto 4, 3) := by decide +kernel
theorem dX9_grace_64 : decode cX9_grace 64 = .ok (.iconst 0, 1) := by decide +kernel
theorem dX9_grace_65 : decode cX9_grace 65 = .ok (.iadd, 1) := by decide +kernel
theorem dX9_grace_66 : decode cX9_grace 66 = .ok (.istore_n 2, 1) := by decide +kernel
theorem dX9_grace_67 : decode cX9_grace 67 = .ok (.iinc 3 1, 3) := by decide +kernel
theorem dX9_grace_70 : decode cX9_grace 70 = .ok (.goto (-39), 3) := by decide +kernel
theorem dX9_grace_73 : decode cX9_grace 73 = .ok (.iload_n 2, 1) := by decide +kernel
theorem dX9_grace_74 : decode cX9_grace 74 = .ok (.ireturn, 1) := by decide +kernel
theorem dX9_untouched_0 : decode cX9_untouched 0 = .ok (.aload_n 0, 1) := by decide +kernel
theorem dX9_untouched_1 : decode cX9_untouched 1 = .ok (.iconst 0, 1) := by decide +kernel
theorem dX9_untouched_2 : decode cX9_untouched 2 = .ok (.putfield 142, 3) := by decide +kernel
theorem dX9_untouched_5 : decode cX9_untouched 5 = .ok (.iconst 0, 1) := by decide +kernel
theorem dX9_untouched_6 : decode cX9_untouched 6 = .ok (.istore_n 1, 1) := by decide +kernel
theorem dX9_untouched_7 : decode cX9_untouched 7 = .ok (.iconst 0, 1) := by decide +kernel
theorem dX9_untouched_8 : decode cX9_untouched 8 = .ok (.istore_n 2, 1) := by decide +kernel
theorem dX9_untouched_9 : decode cX9_untouched 9 = .ok (.iload_n 2, 1) := by decide +kernel
theorem dX9_untouched_10 : decode cX9_untouched 10 = .ok (.aload_n 0, 1) := by decide +kernel
theorem dX9_untouched_11 : decode cX9_untouched 11 = .ok (.getfield 222, 3) := by decide +kernel
theorem dX9_untouched_14 : decode cX9_untouched 14 = .ok (.if_icmp .ge 37, 3) := by decide +kernel
theorem dX9_untouched_17 : decode cX9_untouched 17 = .ok (.iload_n 1, 1) := by decide +kernel
theorem dX9_untouched_18 : decode cX9_untouched 18 = .ok (.aload_n 0, 1) := by decide +kernel
theorem dX9_untouched_19 : decode cX9_untouched 19 = .ok (.getfield 103, 3) := by decide +kernel
theorem dX9_untouched_22 : decode cX9_untouched 22 = .ok (.iload_n 2, 1) := by decide +kernel
theorem dX9_untouched_23 : decode cX9_untouched 23 = .ok (.iaload, 1) := by decide +kernel
theorem dX9_untouched_24 : decode cX9_untouched 24 = .ok (.ifCond .ne 18, 3) := by decide +kernel
theorem dX9_untouched_27 : decode cX9_untouched 27 = .ok (.aload_n 0, 1) := by decide +kernel
theorem dX9_untouched_28 : decode cX9_untouched 28 = .ok (.getfield 106, 3) := by decide +kernel
theorem dX9_untouched_31 : decode cX9_untouched 31 = .ok (.iload_n 2, 1) := by decide +kernel
theorem dX9_untouched_32 : decode cX9_untouched 32 = .ok (.baload, 1) := by decide +kernel
theorem dX9_untouched_33 : decode cX9_untouched 33 = .ok (.ifCond .ne 9, 3) := by decide +kernel
theorem dX9_untouched_36 : decode cX9_untouched 36 = .ok (.iconst 1, 1) := by decide +kernel
theorem dX9_untouched_37 : decode cX9_untouched 37 = .ok (.iload_n 2, 1) := by decide +kernel
theorem dX9_untouched_38 : decode cX9_untouched 38 = .ok (.ishl, 1) := by decide +kernel
theorem dX9_untouched_39 : decode cX9_untouched 39 = .ok (.goto 4, 3) := by decide +kernel
theorem dX9_untouched_42 : decode cX9_untouched 42 = .ok (.iconst 0, 1) := by decide +kernel
theorem dX9_untouched_43 : decode cX9_untouched 43 = .ok (.ior, 1) := by decide +kernel
theorem dX9_untouched_44 : decode cX9_untouched 44 = .ok (.istore_n 1, 1) := by decide +kernel
theorem dX9_untouched_45 : decode cX9_untouched 45 = .ok (.iinc 2 1, 3) := by decide +kernel
theorem dX9_untouched_48 : decode cX9_untouched 48 = .ok (.goto (-39), 3) := by decide +kernel
theorem dX9_untouched_51 : decode cX9_untouched 51 = .ok (.iload_n 1, 1) := by decide +kernel
theorem dX9_untouched_52 : decode cX9_untouched 52 = .ok (.ireturn, 1) := by decide +kernel
theorem dX9_apart_0 : decode cX9_apart 0 = .ok (.aload_n 0, 1) := by decide +kernel
theorem dX9_apart_1 : decode cX9_apart 1 = .ok (.iconst 0, 1) := by decide +kernel
theorem dX9_apart_2 : decode cX9_apart 2 = .ok (.putfield 142, 3) := by decide +kernel
theorem dX9_apart_5 : decode cX9_apart 5 = .ok (.aload_n 0, 1) := by decide +kernel
theorem dX9_apart_6 : decode cX9_apart 6 = .ok (.iload_n 1, 1) := by decide +kernel
theorem dX9_apart_7 : decode cX9_apart 7 = .ok (.invokevirtual 380, 3) := by decide +kernel
theorem dX9_apart_10 : decode cX9_apart 10 = .ok (.ifCond .eq 21, 3) := by decide +kernel
theorem dX9_apart_13 : decode cX9_apart 13 = .ok (.aload_n 0, 1) := by decide +kernel
theorem dX9_apart_14 : decode cX9_apart 14 = .ok (.iload_n 2, 1) := by decide +kernel
theorem dX9_apart_15 : decode cX9_apart 15 = .ok (.invokevirtual 380, 3) := by decide +kernel
theorem dX9_apart_18 : decode cX9_apart 18 = .ok (.ifCond .eq 13, 3) := by decide +kernel
theorem dX9_apart_21 : decode cX9_apart 21 = .ok (.aload_n 0, 1) := by decide +kernel
theorem dX9_apart_22 : decode cX9_apart 22 = .ok (.iconst 0, 1) := by decide +kernel
theorem dX9_apart_23 : decode cX9_apart 23 = .ok (.iload_n 1, 1) := by decide +kernel
theorem dX9_apart_24 : decode cX9_apart 24 = .ok (.iload_n 2, 1) := by decide +kernel
theorem dX9_apart_25 : decode cX9_apart 25 = .ok (.invokevirtual 410, 3) := by decide +kernel
theorem dX9_apart_28 : decode cX9_apart 28 = .ok (.goto 4, 3) := by decide +kernel
theorem dX9_apart_31 : decode cX9_apart 31 = .ok (.iconst (-1), 1) := by decide +kernel
theorem dX9_apart_32 : decode cX9_apart 32 = .ok (.ireturn, 1) := by decide +kernel
theorem dX9_noted_0 : decode cX9_noted 0 = .ok (.aload_n 0, 1) := by decide +kernel
theorem dX9_noted_1 : decode cX9_noted 1 = .ok (.getfield 121, 3) := by decide +kernel
theorem dX9_noted_4 : decode cX9_noted 4 = .ok (.iconst 4, 1) := by decide +kernel
theorem dX9_noted_5 : decode cX9_noted 5 = .ok (.aload_n 0, 1) := by decide +kernel
theorem dX9_noted_6 : decode cX9_noted 6 = .ok (.getfield 344, 3) := by decide +kernel
theorem dX9_noted_9 : decode cX9_noted 9 = .ok (.imul, 1) := by decide +kernel
theorem dX9_noted_10 : decode cX9_noted 10 = .ok (.iload_n 1, 1) := by decide +kernel
theorem dX9_noted_11 : decode cX9_noted 11 = .ok (.iastore, 1) := by decide +kernel
theorem dX9_noted_12 : decode cX9_noted 12 = .ok (.aload_n 0, 1) := by decide +kernel
theorem dX9_noted_13 : decode cX9_noted 13 = .ok (.getfield 121, 3) := by decide +kernel
theorem dX9_noted_16 : decode cX9_noted 16 = .ok (.iconst 4, 1) := by decide +kernel
theorem dX9_noted_17 : decode cX9_noted 17 = .ok (.aload_n 0, 1) := by decide +kernel
theorem dX9_noted_18 : decode cX9_noted 18 = .ok (.getfield 344, 3) := by decide +kernel
theorem dX9_noted_21 : decode cX9_noted 21 = .ok (.imul, 1) := by decide +kernel
theorem dX9_noted_22 : decode cX9_noted 22 = .ok (.iconst 1, 1) := by decide +kernel
theorem dX9_noted_23 : decode cX9_noted 23 = .ok (.iadd, 1) := by decide +kernel
theorem dX9_noted_24 : decode cX9_noted 24 = .ok (.iload_n 2, 1) := by decide +kernel
theorem dX9_noted_25 : decode cX9_noted 25 = .ok (.iastore, 1) := by decide +kernel
theorem dX9_noted_26 : decode cX9_noted 26 = .ok (.aload_n 0, 1) := by decide +kernel
theorem dX9_noted_27 : decode cX9_noted 27 = .ok (.getfield 121, 3) := by decide +kernel
theorem dX9_noted_30 : decode cX9_noted 30 = .ok (.iconst 4, 1) := by decide +kernel
theorem dX9_noted_31 : decode cX9_noted 31 = .ok (.aload_n 0, 1) := by decide +kernel
theorem dX9_noted_32 : decode cX9_noted 32 = .ok (.getfield 344, 3) := by decide +kernel
theorem dX9_noted_35 : decode cX9_noted 35 = .ok (.imul, 1) := by decide +kernel
theorem dX9_noted_36 : decode cX9_noted 36 = .ok (.iconst 2, 1) := by decide +kernel
theorem dX9_noted_37 : decode cX9_noted 37 = .ok (.iadd, 1) := by decide +kernel
theorem dX9_noted_38 : decode cX9_noted 38 = .ok (.iload_n 3, 1) := by decide +kernel
theorem dX9_noted_39 : decode cX9_noted 39 = .ok (.iastore, 1) := by decide +kernel
theorem dX9_noted_40 : decode cX9_noted 40 = .ok (.aload_n 0, 1) := by decide +kernel
theorem dX9_noted_41 : decode cX9_noted 41 = .ok (.getfield 121, 3) := by decide +kernel
theorem dX9_noted_44 : decode cX9_noted 44 = .ok (.iconst 4, 1) := by decide +kernel
theorem dX9_noted_45 : decode cX9_noted 45 = .ok (.aload_n 0, 1) := by decide +kernel
theorem dX9_noted_46 : decode cX9_noted 46 = .ok (.getfield 344, 3) := by decide +kernel
theorem dX9_noted_49 : decode cX9_noted 49 = .ok (.imul, 1) := by decide +kernel
theorem dX9_noted_50 : decode cX9_noted 50 = .ok (.iconst 3, 1) := by decide +kernel
theorem dX9_noted_51 : decode cX9_noted 51 = .ok (.iadd, 1) := by decide +kernel
theorem dX9_noted_52 : decode cX9_noted 52 = .ok (.iload 4, 2) := by decide +kernel
theorem dX9_noted_54 : decode cX9_noted 54 = .ok (.iastore, 1) := by decide +kernel
theorem dX9_noted_55 : decode cX9_noted 55 = .ok (.aload_n 0, 1) := by decide +kernel
theorem dX9_noted_56 : decode cX9_noted 56 = .ok (.dup, 1) := by decide +kernel
theorem dX9_noted_57 : decode cX9_noted 57 = .ok (.getfield 344, 3) := by decide +kernel
theorem dX9_noted_60 : decode cX9_noted 60 = .ok (.iconst 1, 1) := by decide +kernel
theorem dX9_noted_61 : decode cX9_noted 61 = .ok (.iadd, 1) := by decide +kernel
theorem dX9_noted_62 : decode cX9_noted 62 = .ok (.putfield 344, 3) := by decide +kernel
theorem dX9_noted_65 : decode cX9_noted 65 = .ok (.aload_n 0, 1) := by decide +kernel
theorem dX9_noted_66 : decode cX9_noted 66 = .ok (.getfield 344, 3) := by decide +kernel
theorem dX9_noted_69 : decode cX9_noted 69 = .ok (.iconst 1, 1) := by decide +kernel
theorem dX9_noted_70 : decode cX9_noted 70 = .ok (.isub, 1) := by decide +kernel
theorem dX9_noted_71 : decode cX9_noted 71 = .ok (.ireturn, 1) := by decide +kernel
theorem dX9_see_0 : decode cX9_see 0 = .ok (.aload_n 0, 1) := by decide +kernel
theorem dX9_see_1 : decode cX9_see 1 = .ok (.iconst 0, 1) := by decide +kernel
theorem dX9_see_2 : decode cX9_see 2 = .ok (.putfield 142, 3) := by decide +kernel
theorem dX9_see_5 : decode cX9_see 5 = .ok (.aload_n 0, 1) := by decide +kernel
theorem dX9_see_6 : decode cX9_see 6 = .ok (.getfield 344, 3) := by decide +kernel
theorem dX9_see_9 : decode cX9_see 9 = .ok (.bipush 24, 2) := by decide +kernel
theorem dX9_see_11 : decode cX9_see 11 = .ok (.if_icmp .eq 31, 3) := by decide +kernel
theorem dX9_see_14 : decode cX9_see 14 = .ok (.iload_n 1, 1) := by decide +kernel
theorem dX9_see_15 : decode cX9_see 15 = .ok (.iconst 1, 1) := by decide +kernel
theorem dX9_see_16 : decode cX9_see 16 = .ok (.bipush 99, 2) := by decide +kernel
theorem dX9_see_18 : decode cX9_see 18 = .ok (.invokestatic 187, 3) := by decide +kernel
theorem dX9_see_21 : decode cX9_see 21 = .ok (.ifCond .eq 21, 3) := by decide +kernel
theorem dX9_see_24 : decode cX9_see 24 = .ok (.aload_n 0, 1) := by decide +kernel
theorem dX9_see_25 : decode cX9_see 25 = .ok (.iload_n 2, 1) := by decide +kernel
theorem dX9_see_26 : decode cX9_see 26 = .ok (.invokevirtual 380, 3) := by decide +kernel
theorem dX9_see_29 : decode cX9_see 29 = .ok (.ifCond .eq 13, 3) := by decide +kernel
theorem dX9_see_32 : decode cX9_see 32 = .ok (.iload_n 3, 1) := by decide +kernel
theorem dX9_see_33 : decode cX9_see 33 = .ok (.iconst 0, 1) := by decide +kernel
theorem dX9_see_34 : decode cX9_see 34 = .ok (.bipush 99, 2) := by decide +kernel
theorem dX9_see_36 : decode cX9_see 36 = .ok (.invokestatic 187, 3) := by decide +kernel
theorem dX9_see_39 : decode cX9_see 39 = .ok (.ifCond .ne 7, 3) := by decide +kernel
theorem dX9_see_42 : decode cX9_see 42 = .ok (.iconst (-1), 1) := by decide +kernel
theorem dX9_see_43 : decode cX9_see 43 = .ok (.goto 20, 3) := by decide +kernel
theorem dX9_see_46 : decode cX9_see 46 = .ok (.aload_n 0, 1) := by decide +kernel
theorem dX9_see_47 : decode cX9_see 47 = .ok (.iload_n 1, 1) := by decide +kernel
theorem dX9_see_48 : decode cX9_see 48 = .ok (.iload_n 2, 1) := by decide +kernel
theorem dX9_see_49 : decode cX9_see 49 = .ok (.iload_n 3, 1) := by decide +kernel
theorem dX9_see_50 : decode cX9_see 50 = .ok (.iload 4, 2) := by decide +kernel
theorem dX9_see_52 : decode cX9_see 52 = .ok (.ifCond .eq 7, 3) := by decide +kernel
theorem dX9_see_55 : decode cX9_see 55 = .ok (.iconst 1, 1) := by decide +kernel
theorem dX9_see_56 : decode cX9_see 56 = .ok (.goto 4, 3) := by decide +kernel
theorem dX9_see_59 : decode cX9_see 59 = .ok (.iconst 0, 1) := by decide +kernel
theorem dX9_see_60 : decode cX9_see 60 = .ok (.invokevirtual 525, 3) := by decide +kernel
theorem dX9_see_63 : decode cX9_see 63 = .ok (.ireturn, 1) := by decide +kernel
theorem dX9_strike_0 : decode cX9_strike 0 = .ok (.aload_n 0, 1) := by decide +kernel
theorem dX9_strike_1 : decode cX9_strike 1 = .ok (.iconst 0, 1) := by decide +kernel
theorem dX9_strike_2 : decode cX9_strike 2 = .ok (.putfield 142, 3) := by decide +kernel
theorem dX9_strike_5 : decode cX9_strike 5 = .ok (.aload_n 0, 1) := by decide +kernel
theorem dX9_strike_6 : decode cX9_strike 6 = .ok (.getfield 344, 3) := by decide +kernel
theorem dX9_strike_9 : decode cX9_strike 9 = .ok (.bipush 24, 2) := by decide +kernel
theorem dX9_strike_11 : decode cX9_strike 11 = .ok (.if_icmp .eq 15, 3) := by decide +kernel
theorem dX9_strike_14 : decode cX9_strike 14 = .ok (.iload_n 1, 1) := by decide +kernel
theorem dX9_strike_15 : decode cX9_strike 15 = .ok (.ifCond .lt 11, 3) := by decide +kernel
theorem dX9_strike_18 : decode cX9_strike 18 = .ok (.iload_n 1, 1) := by decide +kernel
theorem dX9_strike_19 : decode cX9_strike 19 = .ok (.aload_n 0, 1) := by decide +kernel
theorem dX9_strike_20 : decode cX9_strike 20 = .ok (.getfield 344, 3) := by decide +kernel
theorem dX9_strike_23 : decode cX9_strike 23 = .ok (.if_icmp .lt 7, 3) := by decide +kernel
theorem dX9_strike_26 : decode cX9_strike 26 = .ok (.iconst (-1), 1) := by decide +kernel
theorem dX9_strike_27 : decode cX9_strike 27 = .ok (.goto 11, 3) := by decide +kernel
theorem dX9_strike_30 : decode cX9_strike 30 = .ok (.aload_n 0, 1) := by decide +kernel
theorem dX9_strike_31 : decode cX9_strike 31 = .ok (.iconst (-1), 1) := by decide +kernel
theorem dX9_strike_32 : decode cX9_strike 32 = .ok (.iload_n 1, 1) := by decide +kernel
theorem dX9_strike_33 : decode cX9_strike 33 = .ok (.iconst 0, 1) := by decide +kernel
theorem dX9_strike_34 : decode cX9_strike 34 = .ok (.iconst 0, 1) := by decide +kernel
theorem dX9_strike_35 : decode cX9_strike 35 = .ok (.invokevirtual 525, 3) := by decide +kernel
theorem dX9_strike_38 : decode cX9_strike 38 = .ok (.ireturn, 1) := by decide +kernel
theorem dX9_known_0 : decode cX9_known 0 = .ok (.aload_n 0, 1) := by decide +kernel
theorem dX9_known_1 : decode cX9_known 1 = .ok (.iconst 0, 1) := by decide +kernel
theorem dX9_known_2 : decode cX9_known 2 = .ok (.putfield 142, 3) := by decide +kernel
theorem dX9_known_5 : decode cX9_known 5 = .ok (.iload_n 1, 1) := by decide +kernel
theorem dX9_known_6 : decode cX9_known 6 = .ok (.iconst (-1), 1) := by decide +kernel
theorem dX9_known_7 : decode cX9_known 7 = .ok (.aload_n 0, 1) := by decide +kernel
theorem dX9_known_8 : decode cX9_known 8 = .ok (.getfield 344, 3) := by decide +kernel
theorem dX9_known_11 : decode cX9_known 11 = .ok (.invokestatic 187, 3) := by decide +kernel
theorem dX9_known_14 : decode cX9_known 14 = .ok (.ifCond .ne 5, 3) := by decide +kernel
theorem dX9_known_17 : decode cX9_known 17 = .ok (.iconst 0, 1) := by decide +kernel
theorem dX9_known_18 : decode cX9_known 18 = .ok (.ireturn, 1) := by decide +kernel
theorem dX9_known_19 : decode cX9_known 19 = .ok (.aload_n 0, 1) := by decide +kernel
theorem dX9_known_20 : decode cX9_known 20 = .ok (.iload_n 1, 1) := by decide +kernel
theorem dX9_known_21 : decode cX9_known 21 = .ok (.putfield 118, 3) := by decide +kernel
theorem dX9_known_24 : decode cX9_known 24 = .ok (.iconst 1, 1) := by decide +kernel
theorem dX9_known_25 : decode cX9_known 25 = .ok (.ireturn, 1) := by decide +kernel
theorem dX9_knownBy_0 : decode cX9_knownBy 0 = .ok (.aload_n 0, 1) := by decide +kernel
theorem dX9_knownBy_1 : decode cX9_knownBy 1 = .ok (.getfield 118, 3) := by decide +kernel
theorem dX9_knownBy_4 : decode cX9_knownBy 4 = .ok (.ifCond .ge 10, 3) := by decide +kernel
theorem dX9_knownBy_7 : decode cX9_knownBy 7 = .ok (.aload_n 0, 1) := by decide +kernel
theorem dX9_knownBy_8 : decode cX9_knownBy 8 = .ok (.getfield 344, 3) := by decide +kernel
theorem dX9_knownBy_11 : decode cX9_knownBy 11 = .ok (.goto 7, 3) := by decide +kernel
theorem dX9_knownBy_14 : decode cX9_knownBy 14 = .ok (.aload_n 0, 1) := by decide +kernel
theorem dX9_knownBy_15 : decode cX9_knownBy 15 = .ok (.getfield 118, 3) := by decide +kernel
theorem dX9_knownBy_18 : decode cX9_knownBy 18 = .ok (.ireturn, 1) := by decide +kernel
theorem dX9_isSo_0 : decode cX9_isSo 0 = .ok (.iconst 0, 1) := by decide +kernel
theorem dX9_isSo_1 : decode cX9_isSo 1 = .ok (.istore_n 2, 1) := by decide +kernel
theorem dX9_isSo_2 : decode cX9_isSo 2 = .ok (.iload_n 2, 1) := by decide +kernel
theorem dX9_isSo_3 : decode cX9_isSo 3 = .ok (.aload_n 0, 1) := by decide +kernel
theorem dX9_isSo_4 : decode cX9_isSo 4 = .ok (.invokevirtual 528, 3) := by decide +kernel
theorem dX9_isSo_7 : decode cX9_isSo 7 = .ok (.if_icmp .ge 93, 3) := by decide +kernel
theorem dX9_isSo_10 : decode cX9_isSo 10 = .ok (.aload_n 0, 1) := by decide +kernel
theorem dX9_isSo_11 : decode cX9_isSo 11 = .ok (.getfield 124, 3) := by decide +kernel
theorem dX9_isSo_14 : decode cX9_isSo 14 = .ok (.iload_n 2, 1) := by decide +kernel
theorem dX9_isSo_15 : decode cX9_isSo 15 = .ok (.baload, 1) := by decide +kernel
theorem dX9_isSo_16 : decode cX9_isSo 16 = .ok (.ifCond .eq 78, 3) := by decide +kernel
theorem dX9_isSo_19 : decode cX9_isSo 19 = .ok (.aload_n 0, 1) := by decide +kernel
theorem dX9_isSo_20 : decode cX9_isSo 20 = .ok (.getfield 121, 3) := by decide +kernel
theorem dX9_isSo_23 : decode cX9_isSo 23 = .ok (.iconst 4, 1) := by decide +kernel
theorem dX9_isSo_24 : decode cX9_isSo 24 = .ok (.iload_n 2, 1) := by decide +kernel
theorem dX9_isSo_25 : decode cX9_isSo 25 = .ok (.imul, 1) := by decide +kernel
theorem dX9_isSo_26 : decode cX9_isSo 26 = .ok (.iaload, 1) := by decide +kernel
theorem dX9_isSo_27 : decode cX9_isSo 27 = .ok (.iload_n 1, 1) := by decide +kernel
theorem dX9_isSo_28 : decode cX9_isSo 28 = .ok (.if_icmp .eq 6, 3) := by decide +kernel
theorem dX9_isSo_31 : decode cX9_isSo 31 = .ok (.goto 63, 3) := by decide +kernel
theorem dX9_isSo_34 : decode cX9_isSo 34 = .ok (.aload_n 0, 1) := by decide +kernel
theorem dX9_isSo_35 : decode cX9_isSo 35 = .ok (.getfield 91, 3) := by decide +kernel
theorem dX9_isSo_38 : decode cX9_isSo 38 = .ok (.bipush 6, 2) := by decide +kernel
theorem dX9_isSo_40 : decode cX9_isSo 40 = .ok (.aload_n 0, 1) := by decide +kernel
theorem dX9_isSo_41 : decode cX9_isSo 41 = .ok (.getfield 121, 3) := by decide +kernel
theorem dX9_isSo_44 : decode cX9_isSo 44 = .ok (.iconst 4, 1) := by decide +kernel
theorem dX9_isSo_45 : decode cX9_isSo 45 = .ok (.iload_n 2, 1) := by decide +kernel
theorem dX9_isSo_46 : decode cX9_isSo 46 = .ok (.imul, 1) := by decide +kernel
theorem dX9_isSo_47 : decode cX9_isSo 47 = .ok (.iconst 1, 1) := by decide +kernel
theorem dX9_isSo_48 : decode cX9_isSo 48 = .ok (.iadd, 1) := by decide +kernel
theorem dX9_isSo_49 : decode cX9_isSo 49 = .ok (.iaload, 1) := by decide +kernel
theorem dX9_isSo_50 : decode cX9_isSo 50 = .ok (.iadd, 1) := by decide +kernel
theorem dX9_isSo_51 : decode cX9_isSo 51 = .ok (.iaload, 1) := by decide +kernel
theorem dX9_isSo_52 : decode cX9_isSo 52 = .ok (.aload_n 0, 1) := by decide +kernel
theorem dX9_isSo_53 : decode cX9_isSo 53 = .ok (.getfield 121, 3) := by decide +kernel
theorem dX9_isSo_56 : decode cX9_isSo 56 = .ok (.iconst 4, 1) := by decide +kernel
theorem dX9_isSo_57 : decode cX9_isSo 57 = .ok (.iload_n 2, 1) := by decide +kernel
theorem dX9_isSo_58 : decode cX9_isSo 58 = .ok (.imul, 1) := by decide +kernel
theorem dX9_isSo_59 : decode cX9_isSo 59 = .ok (.iconst 2, 1) := by decide +kernel
theorem dX9_isSo_60 : decode cX9_isSo 60 = .ok (.iadd, 1) := by decide +kernel
theorem dX9_isSo_61 : decode cX9_isSo 61 = .ok (.iaload, 1) := by decide +kernel
theorem dX9_isSo_62 : decode cX9_isSo 62 = .ok (.if_icmp .lt 7, 3) := by decide +kernel
theorem dX9_isSo_65 : decode cX9_isSo 65 = .ok (.iconst 1, 1) := by decide +kernel
theorem dX9_isSo_66 : decode cX9_isSo 66 = .ok (.goto 4, 3) := by decide +kernel
theorem dX9_isSo_69 : decode cX9_isSo 69 = .ok (.iconst 0, 1) := by decide +kernel
theorem dX9_isSo_70 : decode cX9_isSo 70 = .ok (.aload_n 0, 1) := by decide +kernel
theorem dX9_isSo_71 : decode cX9_isSo 71 = .ok (.getfield 121, 3) := by decide +kernel
theorem dX9_isSo_74 : decode cX9_isSo 74 = .ok (.iconst 4, 1) := by decide +kernel
theorem dX9_isSo_75 : decode cX9_isSo 75 = .ok (.iload_n 2, 1) := by decide +kernel
theorem dX9_isSo_76 : decode cX9_isSo 76 = .ok (.imul, 1) := by decide +kernel
theorem dX9_isSo_77 : decode cX9_isSo 77 = .ok (.iconst 3, 1) := by decide +kernel
theorem dX9_isSo_78 : decode cX9_isSo 78 = .ok (.iadd, 1) := by decide +kernel
theorem dX9_isSo_79 : decode cX9_isSo 79 = .ok (.iaload, 1) := by decide +kernel
theorem dX9_isSo_80 : decode cX9_isSo 80 = .ok (.iconst 1, 1) := by decide +kernel
theorem dX9_isSo_81 : decode cX9_isSo 81 = .ok (.if_icmp .ne 7, 3) := by decide +kernel
theorem dX9_isSo_84 : decode cX9_isSo 84 = .ok (.iconst 1, 1) := by decide +kernel
theorem dX9_isSo_85 : decode cX9_isSo 85 = .ok (.goto 4, 3) := by decide +kernel
theorem dX9_isSo_88 : decode cX9_isSo 88 = .ok (.iconst 0, 1) := by decide +kernel
theorem dX9_isSo_89 : decode cX9_isSo 89 = .ok (.if_icmp .eq 5, 3) := by decide +kernel
theorem dX9_isSo_92 : decode cX9_isSo 92 = .ok (.iconst 0, 1) := by decide +kernel
theorem dX9_isSo_93 : decode cX9_isSo 93 = .ok (.ireturn, 1) := by decide +kernel
theorem dX9_isSo_94 : decode cX9_isSo 94 = .ok (.iinc 2 1, 3) := by decide +kernel
theorem dX9_isSo_97 : decode cX9_isSo 97 = .ok (.goto (-95), 3) := by decide +kernel
theorem dX9_isSo_100 : decode cX9_isSo 100 = .ok (.iconst 1, 1) := by decide +kernel
theorem dX9_isSo_101 : decode cX9_isSo 101 = .ok (.ireturn, 1) := by decide +kernel
theorem dX9_fits_0 : decode cX9_fits 0 = .ok (.aload_n 0, 1) := by decide +kernel
theorem dX9_fits_1 : decode cX9_fits 1 = .ok (.iconst 1, 1) := by decide +kernel
theorem dX9_fits_2 : decode cX9_fits 2 = .ok (.invokevirtual 334, 3) := by decide +kernel
theorem dX9_fits_5 : decode cX9_fits 5 = .ok (.aload_n 0, 1) := by decide +kernel
theorem dX9_fits_6 : decode cX9_fits 6 = .ok (.invokevirtual 341, 3) := by decide +kernel
theorem dX9_fits_9 : decode cX9_fits 9 = .ok (.aload_n 0, 1) := by decide +kernel
theorem dX9_fits_10 : decode cX9_fits 10 = .ok (.iload_n 1, 1) := by decide +kernel
theorem dX9_fits_11 : decode cX9_fits 11 = .ok (.putfield 374, 3) := by decide +kernel
theorem dX9_fits_14 : decode cX9_fits 14 = .ok (.aload_n 0, 1) := by decide +kernel
theorem dX9_fits_15 : decode cX9_fits 15 = .ok (.iload_n 2, 1) := by decide +kernel
theorem dX9_fits_16 : decode cX9_fits 16 = .ok (.putfield 377, 3) := by decide +kernel
theorem dX9_fits_19 : decode cX9_fits 19 = .ok (.iconst 1, 1) := by decide +kernel
theorem dX9_fits_20 : decode cX9_fits 20 = .ok (.istore_n 3, 1) := by decide +kernel
theorem dX9_fits_21 : decode cX9_fits 21 = .ok (.iload_n 3, 1) := by decide +kernel
theorem dX9_fits_22 : decode cX9_fits 22 = .ok (.bipush 99, 2) := by decide +kernel
theorem dX9_fits_24 : decode cX9_fits 24 = .ok (.if_icmp .gt 24, 3) := by decide +kernel
theorem dX9_fits_27 : decode cX9_fits 27 = .ok (.aload_n 0, 1) := by decide +kernel
theorem dX9_fits_28 : decode cX9_fits 28 = .ok (.iconst 1, 1) := by decide +kernel
theorem dX9_fits_29 : decode cX9_fits 29 = .ok (.invokevirtual 455, 3) := by decide +kernel
theorem dX9_fits_32 : decode cX9_fits 32 = .ok (.aload_n 0, 1) := by decide +kernel
theorem dX9_fits_33 : decode cX9_fits 33 = .ok (.iload_n 3, 1) := by decide +kernel
theorem dX9_fits_34 : decode cX9_fits 34 = .ok (.invokevirtual 531, 3) := by decide +kernel
theorem dX9_fits_37 : decode cX9_fits 37 = .ok (.ifCond .ne 5, 3) := by decide +kernel
theorem dX9_fits_40 : decode cX9_fits 40 = .ok (.iconst 0, 1) := by decide +kernel
theorem dX9_fits_41 : decode cX9_fits 41 = .ok (.ireturn, 1) := by decide +kernel
theorem dX9_fits_42 : decode cX9_fits 42 = .ok (.iinc 3 1, 3) := by decide +kernel
theorem dX9_fits_45 : decode cX9_fits 45 = .ok (.goto (-24), 3) := by decide +kernel
theorem dX9_fits_48 : decode cX9_fits 48 = .ok (.iconst 1, 1) := by decide +kernel
theorem dX9_fits_49 : decode cX9_fits 49 = .ok (.ireturn, 1) := by decide +kernel
theorem dX9_sweets_0 : decode cX9_sweets 0 = .ok (.aload_n 0, 1) := by decide +kernel
theorem dX9_sweets_1 : decode cX9_sweets 1 = .ok (.iconst 0, 1) := by decide +kernel
theorem dX9_sweets_2 : decode cX9_sweets 2 = .ok (.putfield 142, 3) := by decide +kernel
theorem dX9_sweets_5 : decode cX9_sweets 5 = .ok (.aload_n 0, 1) := by decide +kernel
theorem dX9_sweets_6 : decode cX9_sweets 6 = .ok (.iload_n 1, 1) := by decide +kernel
theorem dX9_sweets_7 : decode cX9_sweets 7 = .ok (.invokevirtual 464, 3) := by decide +kernel
theorem dX9_sweets_10 : decode cX9_sweets 10 = .ok (.ifCond .ne 5, 3) := by decide +kernel
theorem dX9_sweets_13 : decode cX9_sweets 13 = .ok (.iconst (-1), 1) := by decide +kernel
theorem dX9_sweets_14 : decode cX9_sweets 14 = .ok (.ireturn, 1) := by decide +kernel
theorem dX9_sweets_15 : decode cX9_sweets 15 = .ok (.iconst 0, 1) := by decide +kernel
theorem dX9_sweets_16 : decode cX9_sweets 16 = .ok (.istore_n 2, 1) := by decide +kernel
theorem dX9_sweets_17 : decode cX9_sweets 17 = .ok (.iload_n 2, 1) := by decide +kernel
theorem dX9_sweets_18 : decode cX9_sweets 18 = .ok (.aload_n 0, 1) := by decide +kernel
theorem dX9_sweets_19 : decode cX9_sweets 19 = .ok (.invokevirtual 528, 3) := by decide +kernel
theorem dX9_sweets_22 : decode cX9_sweets 22 = .ok (.if_icmp .ge 16, 3) := by decide +kernel
theorem dX9_sweets_25 : decode cX9_sweets 25 = .ok (.aload_n 0, 1) := by decide +kernel
theorem dX9_sweets_26 : decode cX9_sweets 26 = .ok (.getfield 124, 3) := by decide +kernel
theorem dX9_sweets_29 : decode cX9_sweets 29 = .ok (.iload_n 2, 1) := by decide +kernel
theorem dX9_sweets_30 : decode cX9_sweets 30 = .ok (.iconst 1, 1) := by decide +kernel
theorem dX9_sweets_31 : decode cX9_sweets 31 = .ok (.bastore, 1) := by decide +kernel
theorem dX9_sweets_32 : decode cX9_sweets 32 = .ok (.iinc 2 1, 3) := by decide +kernel
theorem dX9_sweets_35 : decode cX9_sweets 35 = .ok (.goto (-18), 3) := by decide +kernel
theorem dX9_sweets_38 : decode cX9_sweets 38 = .ok (.aload_n 0, 1) := by decide +kernel
theorem dX9_sweets_39 : decode cX9_sweets 39 = .ok (.invokevirtual 528, 3) := by decide +kernel
theorem dX9_sweets_42 : decode cX9_sweets 42 = .ok (.iconst 1, 1) := by decide +kernel
theorem dX9_sweets_43 : decode cX9_sweets 43 = .ok (.isub, 1) := by decide +kernel
theorem dX9_sweets_44 : decode cX9_sweets 44 = .ok (.istore_n 2, 1) := by decide +kernel
theorem dX9_sweets_45 : decode cX9_sweets 45 = .ok (.iload_n 2, 1) := by decide +kernel
theorem dX9_sweets_46 : decode cX9_sweets 46 = .ok (.ifCond .lt 45, 3) := by decide +kernel
theorem dX9_sweets_49 : decode cX9_sweets 49 = .ok (.aload_n 0, 1) := by decide +kernel
theorem dX9_sweets_50 : decode cX9_sweets 50 = .ok (.getfield 124, 3) := by decide +kernel
theorem dX9_sweets_53 : decode cX9_sweets 53 = .ok (.iload_n 2, 1) := by decide +kernel
theorem dX9_sweets_54 : decode cX9_sweets 54 = .ok (.baload, 1) := by decide +kernel
theorem dX9_sweets_55 : decode cX9_sweets 55 = .ok (.ifCond .eq 30, 3) := by decide +kernel
theorem dX9_sweets_58 : decode cX9_sweets 58 = .ok (.aload_n 0, 1) := by decide +kernel
theorem dX9_sweets_59 : decode cX9_sweets 59 = .ok (.getfield 121, 3) := by decide +kernel
theorem dX9_sweets_62 : decode cX9_sweets 62 = .ok (.iconst 4, 1) := by decide +kernel
theorem dX9_sweets_63 : decode cX9_sweets 63 = .ok (.iload_n 2, 1) := by decide +kernel
theorem dX9_sweets_64 : decode cX9_sweets 64 = .ok (.imul, 1) := by decide +kernel
theorem dX9_sweets_65 : decode cX9_sweets 65 = .ok (.iaload, 1) := by decide +kernel
theorem dX9_sweets_66 : decode cX9_sweets 66 = .ok (.ifCond .ge 19, 3) := by decide +kernel
theorem dX9_sweets_69 : decode cX9_sweets 69 = .ok (.aload_n 0, 1) := by decide +kernel
theorem dX9_sweets_70 : decode cX9_sweets 70 = .ok (.getfield 124, 3) := by decide +kernel
theorem dX9_sweets_73 : decode cX9_sweets 73 = .ok (.aload_n 0, 1) := by decide +kernel
theorem dX9_sweets_74 : decode cX9_sweets 74 = .ok (.getfield 121, 3) := by decide +kernel
theorem dX9_sweets_77 : decode cX9_sweets 77 = .ok (.iconst 4, 1) := by decide +kernel
theorem dX9_sweets_78 : decode cX9_sweets 78 = .ok (.iload_n 2, 1) := by decide +kernel
theorem dX9_sweets_79 : decode cX9_sweets 79 = .ok (.imul, 1) := by decide +kernel
theorem dX9_sweets_80 : decode cX9_sweets 80 = .ok (.iconst 1, 1) := by decide +kernel
theorem dX9_sweets_81 : decode cX9_sweets 81 = .ok (.iadd, 1) := by decide +kernel
theorem dX9_sweets_82 : decode cX9_sweets 82 = .ok (.iaload, 1) := by decide +kernel
theorem dX9_sweets_83 : decode cX9_sweets 83 = .ok (.iconst 0, 1) := by decide +kernel
theorem dX9_sweets_84 : decode cX9_sweets 84 = .ok (.bastore, 1) := by decide +kernel
theorem dX9_sweets_85 : decode cX9_sweets 85 = .ok (.iinc 2 (-1), 3) := by decide +kernel
theorem dX9_sweets_88 : decode cX9_sweets 88 = .ok (.goto (-43), 3) := by decide +kernel
theorem dX9_sweets_91 : decode cX9_sweets 91 = .ok (.iconst 0, 1) := by decide +kernel
theorem dX9_sweets_92 : decode cX9_sweets 92 = .ok (.istore_n 2, 1) := by decide +kernel
theorem dX9_sweets_93 : decode cX9_sweets 93 = .ok (.iconst 0, 1) := by decide +kernel
theorem dX9_sweets_94 : decode cX9_sweets 94 = .ok (.istore_n 3, 1) := by decide +kernel
theorem dX9_sweets_95 : decode cX9_sweets 95 = .ok (.iload_n 3, 1) := by decide +kernel
theorem dX9_sweets_96 : decode cX9_sweets 96 = .ok (.bipush 10, 2) := by decide +kernel
theorem dX9_sweets_98 : decode cX9_sweets 98 = .ok (.if_icmp .ge 28, 3) := by decide +kernel
theorem dX9_sweets_101 : decode cX9_sweets 101 = .ok (.iload_n 2, 1) := by decide +kernel
theorem dX9_sweets_102 : decode cX9_sweets 102 = .ok (.aload_n 0, 1) := by decide +kernel
theorem dX9_sweets_103 : decode cX9_sweets 103 = .ok (.iload_n 1, 1) := by decide +kernel
theorem dX9_sweets_104 : decode cX9_sweets 104 = .ok (.iload_n 3, 1) := by decide +kernel
theorem dX9_sweets_105 : decode cX9_sweets 105 = .ok (.invokevirtual 534, 3) := by decide +kernel
theorem dX9_sweets_108 : decode cX9_sweets 108 = .ok (.ifCond .eq 9, 3) := by decide +kernel
theorem dX9_sweets_111 : decode cX9_sweets 111 = .ok (.iconst 1, 1) := by decide +kernel
theorem dX9_sweets_112 : decode cX9_sweets 112 = .ok (.iload_n 3, 1) := by decide +kernel
theorem dX9_sweets_113 : decode cX9_sweets 113 = .ok (.ishl, 1) := by decide +kernel
theorem dX9_sweets_114 : decode cX9_sweets 114 = .ok (.goto 4, 3) := by decide +kernel
theorem dX9_sweets_117 : decode cX9_sweets 117 = .ok (.iconst 0, 1) := by decide +kernel
theorem dX9_sweets_118 : decode cX9_sweets 118 = .ok (.ior, 1) := by decide +kernel
theorem dX9_sweets_119 : decode cX9_sweets 119 = .ok (.istore_n 2, 1) := by decide +kernel
theorem dX9_sweets_120 : decode cX9_sweets 120 = .ok (.iinc 3 1, 3) := by decide +kernel
theorem dX9_sweets_123 : decode cX9_sweets 123 = .ok (.goto (-28), 3) := by decide +kernel
theorem dX9_sweets_126 : decode cX9_sweets 126 = .ok (.aload_n 0, 1) := by decide +kernel
theorem dX9_sweets_127 : decode cX9_sweets 127 = .ok (.invokevirtual 341, 3) := by decide +kernel
theorem dX9_sweets_130 : decode cX9_sweets 130 = .ok (.iload_n 2, 1) := by decide +kernel
theorem dX9_sweets_131 : decode cX9_sweets 131 = .ok (.ireturn, 1) := by decide +kernel
theorem dX9_chance_0 : decode cX9_chance 0 = .ok (.aload_n 0, 1) := by decide +kernel
theorem dX9_chance_1 : decode cX9_chance 1 = .ok (.iconst 0, 1) := by decide +kernel
theorem dX9_chance_2 : decode cX9_chance 2 = .ok (.putfield 142, 3) := by decide +kernel
theorem dX9_chance_5 : decode cX9_chance 5 = .ok (.iload_n 1, 1) := by decide +kernel
theorem dX9_chance_6 : decode cX9_chance 6 = .ok (.ifCond .lt 21, 3) := by decide +kernel
theorem dX9_chance_9 : decode cX9_chance 9 = .ok (.iload_n 2, 1) := by decide +kernel
theorem dX9_chance_10 : decode cX9_chance 10 = .ok (.iconst 1, 1) := by decide +kernel
theorem dX9_chance_11 : decode cX9_chance 11 = .ok (.bipush 99, 2) := by decide +kernel
theorem dX9_chance_13 : decode cX9_chance 13 = .ok (.invokestatic 187, 3) := by decide +kernel
theorem dX9_chance_16 : decode cX9_chance 16 = .ok (.ifCond .eq 11, 3) := by decide +kernel
theorem dX9_chance_19 : decode cX9_chance 19 = .ok (.aload_n 0, 1) := by decide +kernel
theorem dX9_chance_20 : decode cX9_chance 20 = .ok (.iload_n 3, 1) := by decide +kernel
theorem dX9_chance_21 : decode cX9_chance 21 = .ok (.invokevirtual 380, 3) := by decide +kernel
theorem dX9_chance_24 : decode cX9_chance 24 = .ok (.ifCond .ne 5, 3) := by decide +kernel
theorem dX9_chance_27 : decode cX9_chance 27 = .ok (.iconst (-1), 1) := by decide +kernel
theorem dX9_chance_28 : decode cX9_chance 28 = .ok (.ireturn, 1) := by decide +kernel
theorem dX9_chance_29 : decode cX9_chance 29 = .ok (.aload_n 0, 1) := by decide +kernel
theorem dX9_chance_30 : decode cX9_chance 30 = .ok (.getfield 337, 3) := by decide +kernel
theorem dX9_chance_33 : decode cX9_chance 33 = .ok (.lstore 4, 2) := by decide +kernel
theorem dX9_chance_35 : decode cX9_chance 35 = .ok (.aload_n 0, 1) := by decide +kernel
theorem dX9_chance_36 : decode cX9_chance 36 = .ok (.iload_n 1, 1) := by decide +kernel
theorem dX9_chance_37 : decode cX9_chance 37 = .ok (.i2l, 1) := by decide +kernel
theorem dX9_chance_38 : decode cX9_chance 38 = .ok (.putfield 337, 3) := by decide +kernel
theorem dX9_chance_41 : decode cX9_chance 41 = .ok (.iconst 0, 1) := by decide +kernel
theorem dX9_chance_42 : decode cX9_chance 42 = .ok (.istore 6, 2) := by decide +kernel
theorem dX9_chance_44 : decode cX9_chance 44 = .ok (.iconst 0, 1) := by decide +kernel
theorem dX9_chance_45 : decode cX9_chance 45 = .ok (.istore 7, 2) := by decide +kernel
theorem dX9_chance_47 : decode cX9_chance 47 = .ok (.iload 7, 2) := by decide +kernel
theorem dX9_chance_49 : decode cX9_chance 49 = .ok (.bipush 10, 2) := by decide +kernel
theorem dX9_chance_51 : decode cX9_chance 51 = .ok (.if_icmp .ge 45, 3) := by decide +kernel
theorem dX9_chance_54 : decode cX9_chance 54 = .ok (.aload_n 0, 1) := by decide +kernel
theorem dX9_chance_55 : decode cX9_chance 55 = .ok (.invokevirtual 475, 3) := by decide +kernel
theorem dX9_chance_58 : decode cX9_chance 58 = .ok (.aload_n 0, 1) := by decide +kernel
theorem dX9_chance_59 : decode cX9_chance 59 = .ok (.iconst 1, 1) := by decide +kernel
theorem dX9_chance_60 : decode cX9_chance 60 = .ok (.putfield 353, 3) := by decide +kernel
theorem dX9_chance_63 : decode cX9_chance 63 = .ok (.aload_n 0, 1) := by decide +kernel
theorem dX9_chance_64 : decode cX9_chance 64 = .ok (.iload_n 2, 1) := by decide +kernel
theorem dX9_chance_65 : decode cX9_chance 65 = .ok (.invokevirtual 478, 3) := by decide +kernel
theorem dX9_chance_68 : decode cX9_chance 68 = .ok (.iload 6, 2) := by decide +kernel
theorem dX9_chance_70 : decode cX9_chance 70 = .ok (.aload_n 0, 1) := by decide +kernel
theorem dX9_chance_71 : decode cX9_chance 71 = .ok (.getfield 97, 3) := by decide +kernel
theorem dX9_chance_74 : decode cX9_chance 74 = .ok (.bipush 6, 2) := by decide +kernel
theorem dX9_chance_76 : decode cX9_chance 76 = .ok (.iload_n 3, 1) := by decide +kernel
theorem dX9_chance_77 : decode cX9_chance 77 = .ok (.iadd, 1) := by decide +kernel
theorem dX9_chance_78 : decode cX9_chance 78 = .ok (.baload, 1) := by decide +kernel
theorem dX9_chance_79 : decode cX9_chance 79 = .ok (.ifCond .eq 7, 3) := by decide +kernel
theorem dX9_chance_82 : decode cX9_chance 82 = .ok (.iconst 0, 1) := by decide +kernel
theorem dX9_chance_83 : decode cX9_chance 83 = .ok (.goto 4, 3) := by decide +kernel
theorem dX9_chance_86 : decode cX9_chance 86 = .ok (.iconst 1, 1) := by decide +kernel
theorem dX9_chance_87 : decode cX9_chance 87 = .ok (.iadd, 1) := by decide +kernel
theorem dX9_chance_88 : decode cX9_chance 88 = .ok (.istore 6, 2) := by decide +kernel
theorem dX9_chance_90 : decode cX9_chance 90 = .ok (.iinc 7 1, 3) := by decide +kernel
theorem dX9_chance_93 : decode cX9_chance 93 = .ok (.goto (-46), 3) := by decide +kernel
theorem dX9_chance_96 : decode cX9_chance 96 = .ok (.aload_n 0, 1) := by decide +kernel
theorem dX9_chance_97 : decode cX9_chance 97 = .ok (.iconst 0, 1) := by decide +kernel
theorem dX9_chance_98 : decode cX9_chance 98 = .ok (.putfield 353, 3) := by decide +kernel
theorem dX9_chance_101 : decode cX9_chance 101 = .ok (.aload_n 0, 1) := by decide +kernel
theorem dX9_chance_102 : decode cX9_chance 102 = .ok (.lload 4, 2) := by decide +kernel
theorem dX9_chance_104 : decode cX9_chance 104 = .ok (.putfield 337, 3) := by decide +kernel
theorem dX9_chance_107 : decode cX9_chance 107 = .ok (.iload 6, 2) := by decide +kernel
theorem dX9_chance_109 : decode cX9_chance 109 = .ok (.ireturn, 1) := by decide +kernel
theorem dX9_tried_0 : decode cX9_tried 0 = .ok (.aload_n 0, 1) := by decide +kernel
theorem dX9_tried_1 : decode cX9_tried 1 = .ok (.iconst 0, 1) := by decide +kernel
theorem dX9_tried_2 : decode cX9_tried 2 = .ok (.putfield 142, 3) := by decide +kernel
theorem dX9_tried_5 : decode cX9_tried 5 = .ok (.iload_n 1, 1) := by decide +kernel
theorem dX9_tried_6 : decode cX9_tried 6 = .ok (.iconst 0, 1) := by decide +kernel
theorem dX9_tried_7 : decode cX9_tried 7 = .ok (.iconst 4, 1) := by decide +kernel
theorem dX9_tried_8 : decode cX9_tried 8 = .ok (.invokestatic 187, 3) := by decide +kernel
theorem dX9_tried_11 : decode cX9_tried 11 = .ok (.ifCond .eq 34, 3) := by decide +kernel
theorem dX9_tried_14 : decode cX9_tried 14 = .ok (.iload_n 3, 1) := by decide +kernel
theorem dX9_tried_15 : decode cX9_tried 15 = .ok (.iconst 0, 1) := by decide +kernel
theorem dX9_tried_16 : decode cX9_tried 16 = .ok (.sipush 200, 3) := by decide +kernel
theorem dX9_tried_19 : decode cX9_tried 19 = .ok (.invokestatic 187, 3) := by decide +kernel
theorem dX9_tried_22 : decode cX9_tried 22 = .ok (.ifCond .eq 23, 3) := by decide +kernel
theorem dX9_tried_25 : decode cX9_tried 25 = .ok (.iload_n 1, 1) := by decide +kernel
theorem dX9_tried_26 : decode cX9_tried 26 = .ok (.iconst 2, 1) := by decide +kernel
theorem dX9_tried_27 : decode cX9_tried 27 = .ok (.if_icmp .ne 14, 3) := by decide +kernel
theorem dX9_tried_30 : decode cX9_tried 30 = .ok (.aload_n 0, 1) := by decide +kernel
theorem dX9_tried_31 : decode cX9_tried 31 = .ok (.iload_n 2, 1) := by decide +kernel
theorem dX9_tried_32 : decode cX9_tried 32 = .ok (.invokevirtual 380, 3) := by decide +kernel
theorem dX9_tried_35 : decode cX9_tried 35 = .ok (.ifCond .ne 12, 3) := by decide +kernel
theorem dX9_tried_38 : decode cX9_tried 38 = .ok (.goto 7, 3) := by decide +kernel
theorem dX9_tried_41 : decode cX9_tried 41 = .ok (.iload_n 2, 1) := by decide +kernel
theorem dX9_tried_42 : decode cX9_tried 42 = .ok (.ifCond .eq 5, 3) := by decide +kernel
theorem dX9_tried_45 : decode cX9_tried 45 = .ok (.iconst (-1), 1) := by decide +kernel
theorem dX9_tried_46 : decode cX9_tried 46 = .ok (.ireturn, 1) := by decide +kernel
theorem dX9_tried_47 : decode cX9_tried 47 = .ok (.aload_n 0, 1) := by decide +kernel
theorem dX9_tried_48 : decode cX9_tried 48 = .ok (.invokevirtual 475, 3) := by decide +kernel
theorem dX9_tried_51 : decode cX9_tried 51 = .ok (.aload_n 0, 1) := by decide +kernel
theorem dX9_tried_52 : decode cX9_tried 52 = .ok (.iload_n 1, 1) := by decide +kernel
theorem dX9_tried_53 : decode cX9_tried 53 = .ok (.ifCond .ne 7, 3) := by decide +kernel
theorem dX9_tried_56 : decode cX9_tried 56 = .ok (.iconst 1, 1) := by decide +kernel
theorem dX9_tried_57 : decode cX9_tried 57 = .ok (.goto 4, 3) := by decide +kernel
theorem dX9_tried_60 : decode cX9_tried 60 = .ok (.iconst 0, 1) := by decide +kernel
theorem dX9_tried_61 : decode cX9_tried 61 = .ok (.putfield 356, 3) := by decide +kernel
theorem dX9_tried_64 : decode cX9_tried 64 = .ok (.aload_n 0, 1) := by decide +kernel
theorem dX9_tried_65 : decode cX9_tried 65 = .ok (.iload_n 1, 1) := by decide +kernel
theorem dX9_tried_66 : decode cX9_tried 66 = .ok (.iconst 1, 1) := by decide +kernel
theorem dX9_tried_67 : decode cX9_tried 67 = .ok (.if_icmp .ne 7, 3) := by decide +kernel
theorem dX9_tried_70 : decode cX9_tried 70 = .ok (.iconst 1, 1) := by decide +kernel
theorem dX9_tried_71 : decode cX9_tried 71 = .ok (.goto 4, 3) := by decide +kernel
theorem dX9_tried_74 : decode cX9_tried 74 = .ok (.iconst 0, 1) := by decide +kernel
theorem dX9_tried_75 : decode cX9_tried 75 = .ok (.putfield 359, 3) := by decide +kernel
theorem dX9_tried_78 : decode cX9_tried 78 = .ok (.aload_n 0, 1) := by decide +kernel
theorem dX9_tried_79 : decode cX9_tried 79 = .ok (.iload_n 1, 1) := by decide +kernel
theorem dX9_tried_80 : decode cX9_tried 80 = .ok (.iconst 2, 1) := by decide +kernel
theorem dX9_tried_81 : decode cX9_tried 81 = .ok (.if_icmp .ne 7, 3) := by decide +kernel
theorem dX9_tried_84 : decode cX9_tried 84 = .ok (.iload_n 2, 1) := by decide +kernel
theorem dX9_tried_85 : decode cX9_tried 85 = .ok (.goto 4, 3) := by decide +kernel
theorem dX9_tried_88 : decode cX9_tried 88 = .ok (.iconst (-1), 1) := by decide +kernel
theorem dX9_tried_89 : decode cX9_tried 89 = .ok (.putfield 368, 3) := by decide +kernel
theorem dX9_tried_92 : decode cX9_tried 92 = .ok (.aload_n 0, 1) := by decide +kernel
theorem dX9_tried_93 : decode cX9_tried 93 = .ok (.iload_n 1, 1) := by decide +kernel
theorem dX9_tried_94 : decode cX9_tried 94 = .ok (.iconst 3, 1) := by decide +kernel
theorem dX9_tried_95 : decode cX9_tried 95 = .ok (.if_icmp .ne 7, 3) := by decide +kernel
theorem dX9_tried_98 : decode cX9_tried 98 = .ok (.iconst 1, 1) := by decide +kernel
theorem dX9_tried_99 : decode cX9_tried 99 = .ok (.goto 4, 3) := by decide +kernel
theorem dX9_tried_102 : decode cX9_tried 102 = .ok (.iconst 0, 1) := by decide +kernel
theorem dX9_tried_103 : decode cX9_tried 103 = .ok (.putfield 362, 3) := by decide +kernel
theorem dX9_tried_106 : decode cX9_tried 106 = .ok (.aload_n 0, 1) := by decide +kernel
theorem dX9_tried_107 : decode cX9_tried 107 = .ok (.iload_n 1, 1) := by decide +kernel
theorem dX9_tried_108 : decode cX9_tried 108 = .ok (.iconst 4, 1) := by decide +kernel
theorem dX9_tried_109 : decode cX9_tried 109 = .ok (.if_icmp .ne 7, 3) := by decide +kernel
theorem dX9_tried_112 : decode cX9_tried 112 = .ok (.iconst 1, 1) := by decide +kernel
theorem dX9_tried_113 : decode cX9_tried 113 = .ok (.goto 4, 3) := by decide +kernel
theorem dX9_tried_116 : decode cX9_tried 116 = .ok (.iconst 0, 1) := by decide +kernel
theorem dX9_tried_117 : decode cX9_tried 117 = .ok (.putfield 365, 3) := by decide +kernel
theorem dX9_tried_120 : decode cX9_tried 120 = .ok (.aload_n 0, 1) := by decide +kernel
theorem dX9_tried_121 : decode cX9_tried 121 = .ok (.iload_n 3, 1) := by decide +kernel
theorem dX9_tried_122 : decode cX9_tried 122 = .ok (.invokevirtual 478, 3) := by decide +kernel
theorem dX9_tried_125 : decode cX9_tried 125 = .ok (.aload_n 0, 1) := by decide +kernel
theorem dX9_tried_126 : decode cX9_tried 126 = .ok (.invokevirtual 341, 3) := by decide +kernel
theorem dX9_tried_129 : decode cX9_tried 129 = .ok (.aload_n 0, 1) := by decide +kernel
theorem dX9_tried_130 : decode cX9_tried 130 = .ok (.iconst 1, 1) := by decide +kernel
theorem dX9_tried_131 : decode cX9_tried 131 = .ok (.invokevirtual 484, 3) := by decide +kernel
theorem dX9_tried_134 : decode cX9_tried 134 = .ok (.aload_n 0, 1) := by decide +kernel
theorem dX9_tried_135 : decode cX9_tried 135 = .ok (.iconst 0, 1) := by decide +kernel
theorem dX9_tried_136 : decode cX9_tried 136 = .ok (.invokevirtual 484, 3) := by decide +kernel
theorem dX9_tried_139 : decode cX9_tried 139 = .ok (.isub, 1) := by decide +kernel
theorem dX9_tried_140 : decode cX9_tried 140 = .ok (.ireturn, 1) := by decide +kernel
theorem dX9_put_0 : decode cX9_put 0 = .ok (.iconst 0, 1) := by decide +kernel
theorem dX9_put_1 : decode cX9_put 1 = .ok (.istore_n 3, 1) := by decide +kernel
theorem dX9_put_2 : decode cX9_put 2 = .ok (.iload_n 3, 1) := by decide +kernel
theorem dX9_put_3 : decode cX9_put 3 = .ok (.bipush 6, 2) := by decide +kernel
theorem dX9_put_5 : decode cX9_put 5 = .ok (.if_icmp .ge 56, 3) := by decide +kernel
theorem dX9_put_8 : decode cX9_put 8 = .ok (.aload_n 1, 1) := by decide +kernel
theorem dX9_put_9 : decode cX9_put 9 = .ok (.iload_n 2, 1) := by decide +kernel
theorem dX9_put_10 : decode cX9_put 10 = .ok (.iload_n 3, 1) := by decide +kernel
theorem dX9_put_11 : decode cX9_put 11 = .ok (.iadd, 1) := by decide +kernel
theorem dX9_put_12 : decode cX9_put 12 = .ok (.aload_n 0, 1) := by decide +kernel
theorem dX9_put_13 : decode cX9_put 13 = .ok (.getfield 94, 3) := by decide +kernel
theorem dX9_put_16 : decode cX9_put 16 = .ok (.iload_n 3, 1) := by decide +kernel
theorem dX9_put_17 : decode cX9_put 17 = .ok (.iaload, 1) := by decide +kernel
theorem dX9_put_18 : decode cX9_put 18 = .ok (.iastore, 1) := by decide +kernel
theorem dX9_put_19 : decode cX9_put 19 = .ok (.aload_n 1, 1) := by decide +kernel
theorem dX9_put_20 : decode cX9_put 20 = .ok (.iload_n 2, 1) := by decide +kernel
theorem dX9_put_21 : decode cX9_put 21 = .ok (.bipush 6, 2) := by decide +kernel
theorem dX9_put_23 : decode cX9_put 23 = .ok (.iadd, 1) := by decide +kernel
theorem dX9_put_24 : decode cX9_put 24 = .ok (.iload_n 3, 1) := by decide +kernel
theorem dX9_put_25 : decode cX9_put 25 = .ok (.iadd, 1) := by decide +kernel
theorem dX9_put_26 : decode cX9_put 26 = .ok (.aload_n 0, 1) := by decide +kernel
theorem dX9_put_27 : decode cX9_put 27 = .ok (.getfield 91, 3) := by decide +kernel
theorem dX9_put_30 : decode cX9_put 30 = .ok (.iload_n 3, 1) := by decide +kernel
theorem dX9_put_31 : decode cX9_put 31 = .ok (.iaload, 1) := by decide +kernel
theorem dX9_put_32 : decode cX9_put 32 = .ok (.iastore, 1) := by decide +kernel
theorem dX9_put_33 : decode cX9_put 33 = .ok (.aload_n 1, 1) := by decide +kernel
theorem dX9_put_34 : decode cX9_put 34 = .ok (.iload_n 2, 1) := by decide +kernel
theorem dX9_put_35 : decode cX9_put 35 = .ok (.bipush 12, 2) := by decide +kernel
theorem dX9_put_37 : decode cX9_put 37 = .ok (.iadd, 1) := by decide +kernel
theorem dX9_put_38 : decode cX9_put 38 = .ok (.iload_n 3, 1) := by decide +kernel
theorem dX9_put_39 : decode cX9_put 39 = .ok (.iadd, 1) := by decide +kernel
theorem dX9_put_40 : decode cX9_put 40 = .ok (.aload_n 0, 1) := by decide +kernel
theorem dX9_put_41 : decode cX9_put 41 = .ok (.getfield 97, 3) := by decide +kernel
theorem dX9_put_44 : decode cX9_put 44 = .ok (.iload_n 3, 1) := by decide +kernel
theorem dX9_put_45 : decode cX9_put 45 = .ok (.baload, 1) := by decide +kernel
theorem dX9_put_46 : decode cX9_put 46 = .ok (.ifCond .eq 7, 3) := by decide +kernel
theorem dX9_put_49 : decode cX9_put 49 = .ok (.iconst 1, 1) := by decide +kernel
theorem dX9_put_50 : decode cX9_put 50 = .ok (.goto 4, 3) := by decide +kernel
theorem dX9_put_53 : decode cX9_put 53 = .ok (.iconst 0, 1) := by decide +kernel
theorem dX9_put_54 : decode cX9_put 54 = .ok (.iastore, 1) := by decide +kernel
theorem dX9_put_55 : decode cX9_put 55 = .ok (.iinc 3 1, 3) := by decide +kernel
theorem dX9_put_58 : decode cX9_put 58 = .ok (.goto (-56), 3) := by decide +kernel
theorem dX9_put_61 : decode cX9_put 61 = .ok (.return_, 1) := by decide +kernel
theorem dX9_take_0 : decode cX9_take 0 = .ok (.iconst 0, 1) := by decide +kernel
theorem dX9_take_1 : decode cX9_take 1 = .ok (.istore_n 3, 1) := by decide +kernel
theorem dX9_take_2 : decode cX9_take 2 = .ok (.iload_n 3, 1) := by decide +kernel
theorem dX9_take_3 : decode cX9_take 3 = .ok (.bipush 6, 2) := by decide +kernel
theorem dX9_take_5 : decode cX9_take 5 = .ok (.if_icmp .ge 57, 3) := by decide +kernel
theorem dX9_take_8 : decode cX9_take 8 = .ok (.aload_n 0, 1) := by decide +kernel
theorem dX9_take_9 : decode cX9_take 9 = .ok (.getfield 94, 3) := by decide +kernel
theorem dX9_take_12 : decode cX9_take 12 = .ok (.iload_n 3, 1) := by decide +kernel
theorem dX9_take_13 : decode cX9_take 13 = .ok (.aload_n 1, 1) := by decide +kernel
theorem dX9_take_14 : decode cX9_take 14 = .ok (.iload_n 2, 1) := by decide +kernel
theorem dX9_take_15 : decode cX9_take 15 = .ok (.iload_n 3, 1) := by decide +kernel
theorem dX9_take_16 : decode cX9_take 16 = .ok (.iadd, 1) := by decide +kernel
theorem dX9_take_17 : decode cX9_take 17 = .ok (.iaload, 1) := by decide +kernel
theorem dX9_take_18 : decode cX9_take 18 = .ok (.iastore, 1) := by decide +kernel
theorem dX9_take_19 : decode cX9_take 19 = .ok (.aload_n 0, 1) := by decide +kernel
theorem dX9_take_20 : decode cX9_take 20 = .ok (.getfield 91, 3) := by decide +kernel
theorem dX9_take_23 : decode cX9_take 23 = .ok (.iload_n 3, 1) := by decide +kernel
theorem dX9_take_24 : decode cX9_take 24 = .ok (.aload_n 1, 1) := by decide +kernel
theorem dX9_take_25 : decode cX9_take 25 = .ok (.iload_n 2, 1) := by decide +kernel
theorem dX9_take_26 : decode cX9_take 26 = .ok (.bipush 6, 2) := by decide +kernel
theorem dX9_take_28 : decode cX9_take 28 = .ok (.iadd, 1) := by decide +kernel
theorem dX9_take_29 : decode cX9_take 29 = .ok (.iload_n 3, 1) := by decide +kernel
theorem dX9_take_30 : decode cX9_take 30 = .ok (.iadd, 1) := by decide +kernel
theorem dX9_take_31 : decode cX9_take 31 = .ok (.iaload, 1) := by decide +kernel
theorem dX9_take_32 : decode cX9_take 32 = .ok (.iastore, 1) := by decide +kernel
theorem dX9_take_33 : decode cX9_take 33 = .ok (.aload_n 0, 1) := by decide +kernel
theorem dX9_take_34 : decode cX9_take 34 = .ok (.getfield 97, 3) := by decide +kernel
theorem dX9_take_37 : decode cX9_take 37 = .ok (.iload_n 3, 1) := by decide +kernel
theorem dX9_take_38 : decode cX9_take 38 = .ok (.aload_n 1, 1) := by decide +kernel
theorem dX9_take_39 : decode cX9_take 39 = .ok (.iload_n 2, 1) := by decide +kernel
theorem dX9_take_40 : decode cX9_take 40 = .ok (.bipush 12, 2) := by decide +kernel
theorem dX9_take_42 : decode cX9_take 42 = .ok (.iadd, 1) := by decide +kernel
theorem dX9_take_43 : decode cX9_take 43 = .ok (.iload_n 3, 1) := by decide +kernel
theorem dX9_take_44 : decode cX9_take 44 = .ok (.iadd, 1) := by decide +kernel
theorem dX9_take_45 : decode cX9_take 45 = .ok (.iaload, 1) := by decide +kernel
theorem dX9_take_46 : decode cX9_take 46 = .ok (.iconst 1, 1) := by decide +kernel
theorem dX9_take_47 : decode cX9_take 47 = .ok (.if_icmp .ne 7, 3) := by decide +kernel
theorem dX9_take_50 : decode cX9_take 50 = .ok (.iconst 1, 1) := by decide +kernel
theorem dX9_take_51 : decode cX9_take 51 = .ok (.goto 4, 3) := by decide +kernel
theorem dX9_take_54 : decode cX9_take 54 = .ok (.iconst 0, 1) := by decide +kernel
theorem dX9_take_55 : decode cX9_take 55 = .ok (.bastore, 1) := by decide +kernel
theorem dX9_take_56 : decode cX9_take 56 = .ok (.iinc 3 1, 3) := by decide +kernel
theorem dX9_take_59 : decode cX9_take 59 = .ok (.goto (-57), 3) := by decide +kernel
theorem dX9_take_62 : decode cX9_take 62 = .ok (.return_, 1) := by decide +kernel
theorem dX9_remember_0 : decode cX9_remember 0 = .ok (.aload_n 0, 1) := by decide +kernel
theorem dX9_remember_1 : decode cX9_remember 1 = .ok (.getfield 347, 3) := by decide +kernel
theorem dX9_remember_4 : decode cX9_remember 4 = .ok (.bipush 20, 2) := by decide +kernel
theorem dX9_remember_6 : decode cX9_remember 6 = .ok (.if_icmp .ne 43, 3) := by decide +kernel
theorem dX9_remember_9 : decode cX9_remember 9 = .ok (.iconst 0, 1) := by decide +kernel
theorem dX9_remember_10 : decode cX9_remember 10 = .ok (.istore_n 1, 1) := by decide +kernel
theorem dX9_remember_11 : decode cX9_remember 11 = .ok (.iload_n 1, 1) := by decide +kernel
theorem dX9_remember_12 : decode cX9_remember 12 = .ok (.sipush 342, 3) := by decide +kernel
theorem dX9_remember_15 : decode cX9_remember 15 = .ok (.if_icmp .ge 24, 3) := by decide +kernel
theorem dX9_remember_18 : decode cX9_remember 18 = .ok (.aload_n 0, 1) := by decide +kernel
theorem dX9_remember_19 : decode cX9_remember 19 = .ok (.getfield 127, 3) := by decide +kernel
theorem dX9_remember_22 : decode cX9_remember 22 = .ok (.iload_n 1, 1) := by decide +kernel
theorem dX9_remember_23 : decode cX9_remember 23 = .ok (.aload_n 0, 1) := by decide +kernel
theorem dX9_remember_24 : decode cX9_remember 24 = .ok (.getfield 127, 3) := by decide +kernel
theorem dX9_remember_27 : decode cX9_remember 27 = .ok (.iload_n 1, 1) := by decide +kernel
theorem dX9_remember_28 : decode cX9_remember 28 = .ok (.bipush 18, 2) := by decide +kernel
theorem dX9_remember_30 : decode cX9_remember 30 = .ok (.iadd, 1) := by decide +kernel
theorem dX9_remember_31 : decode cX9_remember 31 = .ok (.iaload, 1) := by decide +kernel
theorem dX9_remember_32 : decode cX9_remember 32 = .ok (.iastore, 1) := by decide +kernel
theorem dX9_remember_33 : decode cX9_remember 33 = .ok (.iinc 1 1, 3) := by decide +kernel
theorem dX9_remember_36 : decode cX9_remember 36 = .ok (.goto (-25), 3) := by decide +kernel
theorem dX9_remember_39 : decode cX9_remember 39 = .ok (.aload_n 0, 1) := by decide +kernel
theorem dX9_remember_40 : decode cX9_remember 40 = .ok (.dup, 1) := by decide +kernel
theorem dX9_remember_41 : decode cX9_remember 41 = .ok (.getfield 347, 3) := by decide +kernel
theorem dX9_remember_44 : decode cX9_remember 44 = .ok (.iconst 1, 1) := by decide +kernel
theorem dX9_remember_45 : decode cX9_remember 45 = .ok (.isub, 1) := by decide +kernel
theorem dX9_remember_46 : decode cX9_remember 46 = .ok (.putfield 347, 3) := by decide +kernel
theorem dX9_remember_49 : decode cX9_remember 49 = .ok (.aload_n 0, 1) := by decide +kernel
theorem dX9_remember_50 : decode cX9_remember 50 = .ok (.aload_n 0, 1) := by decide +kernel
theorem dX9_remember_51 : decode cX9_remember 51 = .ok (.getfield 127, 3) := by decide +kernel
theorem dX9_remember_54 : decode cX9_remember 54 = .ok (.bipush 18, 2) := by decide +kernel
theorem dX9_remember_56 : decode cX9_remember 56 = .ok (.aload_n 0, 1) := by decide +kernel
theorem dX9_remember_57 : decode cX9_remember 57 = .ok (.getfield 347, 3) := by decide +kernel
theorem dX9_remember_60 : decode cX9_remember 60 = .ok (.imul, 1) := by decide +kernel
theorem dX9_remember_61 : decode cX9_remember 61 = .ok (.invokevirtual 537, 3) := by decide +kernel
theorem dX9_remember_64 : decode cX9_remember 64 = .ok (.aload_n 0, 1) := by decide +kernel
theorem dX9_remember_65 : decode cX9_remember 65 = .ok (.dup, 1) := by decide +kernel
theorem dX9_remember_66 : decode cX9_remember 66 = .ok (.getfield 347, 3) := by decide +kernel
theorem dX9_remember_69 : decode cX9_remember 69 = .ok (.iconst 1, 1) := by decide +kernel
theorem dX9_remember_70 : decode cX9_remember 70 = .ok (.iadd, 1) := by decide +kernel
theorem dX9_remember_71 : decode cX9_remember 71 = .ok (.putfield 347, 3) := by decide +kernel
theorem dX9_remember_74 : decode cX9_remember 74 = .ok (.return_, 1) := by decide +kernel
theorem dX9_undo_0 : decode cX9_undo 0 = .ok (.aload_n 0, 1) := by decide +kernel
theorem dX9_undo_1 : decode cX9_undo 1 = .ok (.iconst 0, 1) := by decide +kernel
theorem dX9_undo_2 : decode cX9_undo 2 = .ok (.putfield 142, 3) := by decide +kernel
theorem dX9_undo_5 : decode cX9_undo 5 = .ok (.aload_n 0, 1) := by decide +kernel
theorem dX9_undo_6 : decode cX9_undo 6 = .ok (.getfield 347, 3) := by decide +kernel
theorem dX9_undo_9 : decode cX9_undo 9 = .ok (.ifCond .ne 5, 3) := by decide +kernel
theorem dX9_undo_12 : decode cX9_undo 12 = .ok (.iconst (-1), 1) := by decide +kernel
theorem dX9_undo_13 : decode cX9_undo 13 = .ok (.ireturn, 1) := by decide +kernel
theorem dX9_undo_14 : decode cX9_undo 14 = .ok (.aload_n 0, 1) := by decide +kernel
theorem dX9_undo_15 : decode cX9_undo 15 = .ok (.dup, 1) := by decide +kernel
theorem dX9_undo_16 : decode cX9_undo 16 = .ok (.getfield 347, 3) := by decide +kernel
theorem dX9_undo_19 : decode cX9_undo 19 = .ok (.iconst 1, 1) := by decide +kernel
theorem dX9_undo_20 : decode cX9_undo 20 = .ok (.isub, 1) := by decide +kernel
theorem dX9_undo_21 : decode cX9_undo 21 = .ok (.putfield 347, 3) := by decide +kernel
theorem dX9_undo_24 : decode cX9_undo 24 = .ok (.aload_n 0, 1) := by decide +kernel
theorem dX9_undo_25 : decode cX9_undo 25 = .ok (.aload_n 0, 1) := by decide +kernel
theorem dX9_undo_26 : decode cX9_undo 26 = .ok (.getfield 127, 3) := by decide +kernel
theorem dX9_undo_29 : decode cX9_undo 29 = .ok (.bipush 18, 2) := by decide +kernel
theorem dX9_undo_31 : decode cX9_undo 31 = .ok (.aload_n 0, 1) := by decide +kernel
theorem dX9_undo_32 : decode cX9_undo 32 = .ok (.getfield 347, 3) := by decide +kernel
theorem dX9_undo_35 : decode cX9_undo 35 = .ok (.imul, 1) := by decide +kernel
theorem dX9_undo_36 : decode cX9_undo 36 = .ok (.invokevirtual 540, 3) := by decide +kernel
theorem dX9_undo_39 : decode cX9_undo 39 = .ok (.aload_n 0, 1) := by decide +kernel
theorem dX9_undo_40 : decode cX9_undo 40 = .ok (.getfield 347, 3) := by decide +kernel
theorem dX9_undo_43 : decode cX9_undo 43 = .ok (.ireturn, 1) := by decide +kernel
theorem dX9_keep_0 : decode cX9_keep 0 = .ok (.aload_n 0, 1) := by decide +kernel
theorem dX9_keep_1 : decode cX9_keep 1 = .ok (.iconst 0, 1) := by decide +kernel
theorem dX9_keep_2 : decode cX9_keep 2 = .ok (.putfield 142, 3) := by decide +kernel
theorem dX9_keep_5 : decode cX9_keep 5 = .ok (.aload_n 0, 1) := by decide +kernel
theorem dX9_keep_6 : decode cX9_keep 6 = .ok (.iconst 1, 1) := by decide +kernel
theorem dX9_keep_7 : decode cX9_keep 7 = .ok (.putfield 350, 3) := by decide +kernel
theorem dX9_keep_10 : decode cX9_keep 10 = .ok (.aload_n 0, 1) := by decide +kernel
theorem dX9_keep_11 : decode cX9_keep 11 = .ok (.aload_n 0, 1) := by decide +kernel
theorem dX9_keep_12 : decode cX9_keep 12 = .ok (.getfield 130, 3) := by decide +kernel
theorem dX9_keep_15 : decode cX9_keep 15 = .ok (.iconst 0, 1) := by decide +kernel
theorem dX9_keep_16 : decode cX9_keep 16 = .ok (.invokevirtual 537, 3) := by decide +kernel
theorem dX9_keep_19 : decode cX9_keep 19 = .ok (.iconst 0, 1) := by decide +kernel
theorem dX9_keep_20 : decode cX9_keep 20 = .ok (.istore_n 1, 1) := by decide +kernel
theorem dX9_keep_21 : decode cX9_keep 21 = .ok (.iload_n 1, 1) := by decide +kernel
theorem dX9_keep_22 : decode cX9_keep 22 = .ok (.bipush 6, 2) := by decide +kernel
theorem dX9_keep_24 : decode cX9_keep 24 = .ok (.if_icmp .ge 36, 3) := by decide +kernel
theorem dX9_keep_27 : decode cX9_keep 27 = .ok (.aload_n 0, 1) := by decide +kernel
theorem dX9_keep_28 : decode cX9_keep 28 = .ok (.getfield 133, 3) := by decide +kernel
theorem dX9_keep_31 : decode cX9_keep 31 = .ok (.iload_n 1, 1) := by decide +kernel
theorem dX9_keep_32 : decode cX9_keep 32 = .ok (.aload_n 0, 1) := by decide +kernel
theorem dX9_keep_33 : decode cX9_keep 33 = .ok (.getfield 88, 3) := by decide +kernel
theorem dX9_keep_36 : decode cX9_keep 36 = .ok (.iload_n 1, 1) := by decide +kernel
theorem dX9_keep_37 : decode cX9_keep 37 = .ok (.iaload, 1) := by decide +kernel
theorem dX9_keep_38 : decode cX9_keep 38 = .ok (.iastore, 1) := by decide +kernel
theorem dX9_keep_39 : decode cX9_keep 39 = .ok (.aload_n 0, 1) := by decide +kernel
theorem dX9_keep_40 : decode cX9_keep 40 = .ok (.getfield 133, 3) := by decide +kernel
theorem dX9_keep_43 : decode cX9_keep 43 = .ok (.bipush 6, 2) := by decide +kernel
theorem dX9_keep_45 : decode cX9_keep 45 = .ok (.iload_n 1, 1) := by decide +kernel
theorem dX9_keep_46 : decode cX9_keep 46 = .ok (.iadd, 1) := by decide +kernel
theorem dX9_keep_47 : decode cX9_keep 47 = .ok (.aload_n 0, 1) := by decide +kernel
theorem dX9_keep_48 : decode cX9_keep 48 = .ok (.getfield 100, 3) := by decide +kernel
theorem dX9_keep_51 : decode cX9_keep 51 = .ok (.iload_n 1, 1) := by decide +kernel
theorem dX9_keep_52 : decode cX9_keep 52 = .ok (.iaload, 1) := by decide +kernel
theorem dX9_keep_53 : decode cX9_keep 53 = .ok (.iastore, 1) := by decide +kernel
theorem dX9_keep_54 : decode cX9_keep 54 = .ok (.iinc 1 1, 3) := by decide +kernel
theorem dX9_keep_57 : decode cX9_keep 57 = .ok (.goto (-36), 3) := by decide +kernel
theorem dX9_keep_60 : decode cX9_keep 60 = .ok (.iconst 0, 1) := by decide +kernel
theorem dX9_keep_61 : decode cX9_keep 61 = .ok (.istore_n 1, 1) := by decide +kernel
theorem dX9_keep_62 : decode cX9_keep 62 = .ok (.iload_n 1, 1) := by decide +kernel
theorem dX9_keep_63 : decode cX9_keep 63 = .ok (.bipush 8, 2) := by decide +kernel
theorem dX9_keep_65 : decode cX9_keep 65 = .ok (.if_icmp .ge 62, 3) := by decide +kernel
theorem dX9_keep_68 : decode cX9_keep 68 = .ok (.aload_n 0, 1) := by decide +kernel
theorem dX9_keep_69 : decode cX9_keep 69 = .ok (.getfield 133, 3) := by decide +kernel
theorem dX9_keep_72 : decode cX9_keep 72 = .ok (.bipush 12, 2) := by decide +kernel
theorem dX9_keep_74 : decode cX9_keep 74 = .ok (.iload_n 1, 1) := by decide +kernel
theorem dX9_keep_75 : decode cX9_keep 75 = .ok (.iadd, 1) := by decide +kernel
theorem dX9_keep_76 : decode cX9_keep 76 = .ok (.aload_n 0, 1) := by decide +kernel
theorem dX9_keep_77 : decode cX9_keep 77 = .ok (.getfield 103, 3) := by decide +kernel
theorem dX9_keep_80 : decode cX9_keep 80 = .ok (.iload_n 1, 1) := by decide +kernel
theorem dX9_keep_81 : decode cX9_keep 81 = .ok (.iaload, 1) := by decide +kernel
theorem dX9_keep_82 : decode cX9_keep 82 = .ok (.iastore, 1) := by decide +kernel
theorem dX9_keep_83 : decode cX9_keep 83 = .ok (.aload_n 0, 1) := by decide +kernel
theorem dX9_keep_84 : decode cX9_keep 84 = .ok (.getfield 133, 3) := by decide +kernel
theorem dX9_keep_87 : decode cX9_keep 87 = .ok (.bipush 20, 2) := by decide +kernel
theorem dX9_keep_89 : decode cX9_keep 89 = .ok (.iload_n 1, 1) := by decide +kernel
theorem dX9_keep_90 : decode cX9_keep 90 = .ok (.iadd, 1) := by decide +kernel
theorem dX9_keep_91 : decode cX9_keep 91 = .ok (.aload_n 0, 1) := by decide +kernel
theorem dX9_keep_92 : decode cX9_keep 92 = .ok (.getfield 106, 3) := by decide +kernel
theorem dX9_keep_95 : decode cX9_keep 95 = .ok (.iload_n 1, 1) := by decide +kernel
theorem dX9_keep_96 : decode cX9_keep 96 = .ok (.baload, 1) := by decide +kernel
theorem dX9_keep_97 : decode cX9_keep 97 = .ok (.ifCond .eq 7, 3) := by decide +kernel
theorem dX9_keep_100 : decode cX9_keep 100 = .ok (.iconst 1, 1) := by decide +kernel
theorem dX9_keep_101 : decode cX9_keep 101 = .ok (.goto 4, 3) := by decide +kernel
theorem dX9_keep_104 : decode cX9_keep 104 = .ok (.iconst 0, 1) := by decide +kernel
theorem dX9_keep_105 : decode cX9_keep 105 = .ok (.iastore, 1) := by decide +kernel
theorem dX9_keep_106 : decode cX9_keep 106 = .ok (.aload_n 0, 1) := by decide +kernel
theorem dX9_keep_107 : decode cX9_keep 107 = .ok (.getfield 133, 3) := by decide +kernel
theorem dX9_keep_110 : decode cX9_keep 110 = .ok (.bipush 28, 2) := by decide +kernel
theorem dX9_keep_112 : decode cX9_keep 112 = .ok (.iload_n 1, 1) := by decide +kernel
theorem dX9_keep_113 : decode cX9_keep 113 = .ok (.iadd, 1) := by decide +kernel
theorem dX9_keep_114 : decode cX9_keep 114 = .ok (.aload_n 0, 1) := by decide +kernel
theorem dX9_keep_115 : decode cX9_keep 115 = .ok (.getfield 109, 3) := by decide +kernel
theorem dX9_keep_118 : decode cX9_keep 118 = .ok (.iload_n 1, 1) := by decide +kernel
theorem dX9_keep_119 : decode cX9_keep 119 = .ok (.iaload, 1) := by decide +kernel
theorem dX9_keep_120 : decode cX9_keep 120 = .ok (.iastore, 1) := by decide +kernel
theorem dX9_keep_121 : decode cX9_keep 121 = .ok (.iinc 1 1, 3) := by decide +kernel
theorem dX9_keep_124 : decode cX9_keep 124 = .ok (.goto (-62), 3) := by decide +kernel
theorem dX9_keep_127 : decode cX9_keep 127 = .ok (.aload_n 0, 1) := by decide +kernel
theorem dX9_keep_128 : decode cX9_keep 128 = .ok (.getfield 133, 3) := by decide +kernel
theorem dX9_keep_131 : decode cX9_keep 131 = .ok (.bipush 36, 2) := by decide +kernel
theorem dX9_keep_133 : decode cX9_keep 133 = .ok (.aload_n 0, 1) := by decide +kernel
theorem dX9_keep_134 : decode cX9_keep 134 = .ok (.getfield 112, 3) := by decide +kernel
theorem dX9_keep_137 : decode cX9_keep 137 = .ok (.iconst 0, 1) := by decide +kernel
theorem dX9_keep_138 : decode cX9_keep 138 = .ok (.iaload, 1) := by decide +kernel
theorem dX9_keep_139 : decode cX9_keep 139 = .ok (.iastore, 1) := by decide +kernel
theorem dX9_keep_140 : decode cX9_keep 140 = .ok (.aload_n 0, 1) := by decide +kernel
theorem dX9_keep_141 : decode cX9_keep 141 = .ok (.aload_n 0, 1) := by decide +kernel
theorem dX9_keep_142 : decode cX9_keep 142 = .ok (.getfield 337, 3) := by decide +kernel
theorem dX9_keep_145 : decode cX9_keep 145 = .ok (.putfield 543, 3) := by decide +kernel
theorem dX9_keep_148 : decode cX9_keep 148 = .ok (.aload_n 0, 1) := by decide +kernel
theorem dX9_keep_149 : decode cX9_keep 149 = .ok (.getfield 112, 3) := by decide +kernel
theorem dX9_keep_152 : decode cX9_keep 152 = .ok (.iconst 0, 1) := by decide +kernel
theorem dX9_keep_153 : decode cX9_keep 153 = .ok (.iaload, 1) := by decide +kernel
theorem dX9_keep_154 : decode cX9_keep 154 = .ok (.ireturn, 1) := by decide +kernel
theorem dX9_back_0 : decode cX9_back 0 = .ok (.aload_n 0, 1) := by decide +kernel
theorem dX9_back_1 : decode cX9_back 1 = .ok (.iconst 0, 1) := by decide +kernel
theorem dX9_back_2 : decode cX9_back 2 = .ok (.putfield 142, 3) := by decide +kernel
theorem dX9_back_5 : decode cX9_back 5 = .ok (.aload_n 0, 1) := by decide +kernel
theorem dX9_back_6 : decode cX9_back 6 = .ok (.getfield 350, 3) := by decide +kernel
theorem dX9_back_9 : decode cX9_back 9 = .ok (.ifCond .ne 5, 3) := by decide +kernel
theorem dX9_back_12 : decode cX9_back 12 = .ok (.iconst (-1), 1) := by decide +kernel
theorem dX9_back_13 : decode cX9_back 13 = .ok (.ireturn, 1) := by decide +kernel
theorem dX9_back_14 : decode cX9_back 14 = .ok (.aload_n 0, 1) := by decide +kernel
theorem dX9_back_15 : decode cX9_back 15 = .ok (.aload_n 0, 1) := by decide +kernel
theorem dX9_back_16 : decode cX9_back 16 = .ok (.getfield 130, 3) := by decide +kernel
theorem dX9_back_19 : decode cX9_back 19 = .ok (.iconst 0, 1) := by decide +kernel
theorem dX9_back_20 : decode cX9_back 20 = .ok (.invokevirtual 540, 3) := by decide +kernel
theorem dX9_back_23 : decode cX9_back 23 = .ok (.iconst 0, 1) := by decide +kernel
theorem dX9_back_24 : decode cX9_back 24 = .ok (.istore_n 1, 1) := by decide +kernel
theorem dX9_back_25 : decode cX9_back 25 = .ok (.iload_n 1, 1) := by decide +kernel
theorem dX9_back_26 : decode cX9_back 26 = .ok (.bipush 6, 2) := by decide +kernel
theorem dX9_back_28 : decode cX9_back 28 = .ok (.if_icmp .ge 36, 3) := by decide +kernel
theorem dX9_back_31 : decode cX9_back 31 = .ok (.aload_n 0, 1) := by decide +kernel
theorem dX9_back_32 : decode cX9_back 32 = .ok (.getfield 88, 3) := by decide +kernel
theorem dX9_back_35 : decode cX9_back 35 = .ok (.iload_n 1, 1) := by decide +kernel
theorem dX9_back_36 : decode cX9_back 36 = .ok (.aload_n 0, 1) := by decide +kernel
theorem dX9_back_37 : decode cX9_back 37 = .ok (.getfield 133, 3) := by decide +kernel
theorem dX9_back_40 : decode cX9_back 40 = .ok (.iload_n 1, 1) := by decide +kernel
theorem dX9_back_41 : decode cX9_back 41 = .ok (.iaload, 1) := by decide +kernel
theorem dX9_back_42 : decode cX9_back 42 = .ok (.iastore, 1) := by decide +kernel
theorem dX9_back_43 : decode cX9_back 43 = .ok (.aload_n 0, 1) := by decide +kernel
theorem dX9_back_44 : decode cX9_back 44 = .ok (.getfield 100, 3) := by decide +kernel
theorem dX9_back_47 : decode cX9_back 47 = .ok (.iload_n 1, 1) := by decide +kernel
theorem dX9_back_48 : decode cX9_back 48 = .ok (.aload_n 0, 1) := by decide +kernel
theorem dX9_back_49 : decode cX9_back 49 = .ok (.getfield 133, 3) := by decide +kernel
theorem dX9_back_52 : decode cX9_back 52 = .ok (.bipush 6, 2) := by decide +kernel
theorem dX9_back_54 : decode cX9_back 54 = .ok (.iload_n 1, 1) := by decide +kernel
theorem dX9_back_55 : decode cX9_back 55 = .ok (.iadd, 1) := by decide +kernel
theorem dX9_back_56 : decode cX9_back 56 = .ok (.iaload, 1) := by decide +kernel
theorem dX9_back_57 : decode cX9_back 57 = .ok (.iastore, 1) := by decide +kernel
theorem dX9_back_58 : decode cX9_back 58 = .ok (.iinc 1 1, 3) := by decide +kernel
theorem dX9_back_61 : decode cX9_back 61 = .ok (.goto (-36), 3) := by decide +kernel
theorem dX9_back_64 : decode cX9_back 64 = .ok (.iconst 0, 1) := by decide +kernel
theorem dX9_back_65 : decode cX9_back 65 = .ok (.istore_n 1, 1) := by decide +kernel
theorem dX9_back_66 : decode cX9_back 66 = .ok (.iload_n 1, 1) := by decide +kernel
theorem dX9_back_67 : decode cX9_back 67 = .ok (.bipush 8, 2) := by decide +kernel
theorem dX9_back_69 : decode cX9_back 69 = .ok (.if_icmp .ge 63, 3) := by decide +kernel
theorem dX9_back_72 : decode cX9_back 72 = .ok (.aload_n 0, 1) := by decide +kernel
theorem dX9_back_73 : decode cX9_back 73 = .ok (.getfield 103, 3) := by decide +kernel
theorem dX9_back_76 : decode cX9_back 76 = .ok (.iload_n 1, 1) := by decide +kernel
theorem dX9_back_77 : decode cX9_back 77 = .ok (.aload_n 0, 1) := by decide +kernel
theorem dX9_back_78 : decode cX9_back 78 = .ok (.getfield 133, 3) := by decide +kernel
theorem dX9_back_81 : decode cX9_back 81 = .ok (.bipush 12, 2) := by decide +kernel
theorem dX9_back_83 : decode cX9_back 83 = .ok (.iload_n 1, 1) := by decide +kernel
theorem dX9_back_84 : decode cX9_back 84 = .ok (.iadd, 1) := by decide +kernel
theorem dX9_back_85 : decode cX9_back 85 = .ok (.iaload, 1) := by decide +kernel
theorem dX9_back_86 : decode cX9_back 86 = .ok (.iastore, 1) := by decide +kernel
theorem dX9_back_87 : decode cX9_back 87 = .ok (.aload_n 0, 1) := by decide +kernel
theorem dX9_back_88 : decode cX9_back 88 = .ok (.getfield 106, 3) := by decide +kernel
theorem dX9_back_91 : decode cX9_back 91 = .ok (.iload_n 1, 1) := by decide +kernel
theorem dX9_back_92 : decode cX9_back 92 = .ok (.aload_n 0, 1) := by decide +kernel
theorem dX9_back_93 : decode cX9_back 93 = .ok (.getfield 133, 3) := by decide +kernel
theorem dX9_back_96 : decode cX9_back 96 = .ok (.bipush 20, 2) := by decide +kernel
theorem dX9_back_98 : decode cX9_back 98 = .ok (.iload_n 1, 1) := by decide +kernel
theorem dX9_back_99 : decode cX9_back 99 = .ok (.iadd, 1) := by decide +kernel
theorem dX9_back_100 : decode cX9_back 100 = .ok (.iaload, 1) := by decide +kernel
theorem dX9_back_101 : decode cX9_back 101 = .ok (.iconst 1, 1) := by decide +kernel
theorem dX9_back_102 : decode cX9_back 102 = .ok (.if_icmp .ne 7, 3) := by decide +kernel
theorem dX9_back_105 : decode cX9_back 105 = .ok (.iconst 1, 1) := by decide +kernel
theorem dX9_back_106 : decode cX9_back 106 = .ok (.goto 4, 3) := by decide +kernel
theorem dX9_back_109 : decode cX9_back 109 = .ok (.iconst 0, 1) := by decide +kernel
theorem dX9_back_110 : decode cX9_back 110 = .ok (.bastore, 1) := by decide +kernel
theorem dX9_back_111 : decode cX9_back 111 = .ok (.aload_n 0, 1) := by decide +kernel
theorem dX9_back_112 : decode cX9_back 112 = .ok (.getfield 109, 3) := by decide +kernel
theorem dX9_back_115 : decode cX9_back 115 = .ok (.iload_n 1, 1) := by decide +kernel
theorem dX9_back_116 : decode cX9_back 116 = .ok (.aload_n 0, 1) := by decide +kernel
theorem dX9_back_117 : decode cX9_back 117 = .ok (.getfield 133, 3) := by decide +kernel
theorem dX9_back_120 : decode cX9_back 120 = .ok (.bipush 28, 2) := by decide +kernel
theorem dX9_back_122 : decode cX9_back 122 = .ok (.iload_n 1, 1) := by decide +kernel
theorem dX9_back_123 : decode cX9_back 123 = .ok (.iadd, 1) := by decide +kernel
theorem dX9_back_124 : decode cX9_back 124 = .ok (.iaload, 1) := by decide +kernel
theorem dX9_back_125 : decode cX9_back 125 = .ok (.iastore, 1) := by decide +kernel
theorem dX9_back_126 : decode cX9_back 126 = .ok (.iinc 1 1, 3) := by decide +kernel
theorem dX9_back_129 : decode cX9_back 129 = .ok (.goto (-63), 3) := by decide +kernel
theorem dX9_back_132 : decode cX9_back 132 = .ok (.aload_n 0, 1) := by decide +kernel
theorem dX9_back_133 : decode cX9_back 133 = .ok (.getfield 112, 3) := by decide +kernel
theorem dX9_back_136 : decode cX9_back 136 = .ok (.iconst 0, 1) := by decide +kernel
theorem dX9_back_137 : decode cX9_back 137 = .ok (.aload_n 0, 1) := by decide +kernel
theorem dX9_back_138 : decode cX9_back 138 = .ok (.getfield 133, 3) := by decide +kernel
theorem dX9_back_141 : decode cX9_back 141 = .ok (.bipush 36, 2) := by decide +kernel
theorem dX9_back_143 : decode cX9_back 143 = .ok (.iaload, 1) := by decide +kernel
theorem dX9_back_144 : decode cX9_back 144 = .ok (.iastore, 1) := by decide +kernel
theorem dX9_back_145 : decode cX9_back 145 = .ok (.aload_n 0, 1) := by decide +kernel
theorem dX9_back_146 : decode cX9_back 146 = .ok (.aload_n 0, 1) := by decide +kernel
theorem dX9_back_147 : decode cX9_back 147 = .ok (.getfield 543, 3) := by decide +kernel
theorem dX9_back_150 : decode cX9_back 150 = .ok (.putfield 337, 3) := by decide +kernel
theorem dX9_back_153 : decode cX9_back 153 = .ok (.aload_n 0, 1) := by decide +kernel
theorem dX9_back_154 : decode cX9_back 154 = .ok (.iconst 0, 1) := by decide +kernel
theorem dX9_back_155 : decode cX9_back 155 = .ok (.putfield 347, 3) := by decide +kernel
theorem dX9_back_158 : decode cX9_back 158 = .ok (.aload_n 0, 1) := by decide +kernel
theorem dX9_back_159 : decode cX9_back 159 = .ok (.getfield 112, 3) := by decide +kernel
theorem dX9_back_162 : decode cX9_back 162 = .ok (.iconst 0, 1) := by decide +kernel
theorem dX9_back_163 : decode cX9_back 163 = .ok (.iaload, 1) := by decide +kernel
theorem dX9_back_164 : decode cX9_back 164 = .ok (.ireturn, 1) := by decide +kernel
theorem dX9_count_0 : decode cX9_count 0 = .ok (.aload_n 0, 1) := by decide +kernel
theorem dX9_count_1 : decode cX9_count 1 = .ok (.iconst 0, 1) := by decide +kernel
theorem dX9_count_2 : decode cX9_count 2 = .ok (.putfield 142, 3) := by decide +kernel
theorem dX9_count_5 : decode cX9_count 5 = .ok (.iconst 0, 1) := by decide +kernel
theorem dX9_count_6 : decode cX9_count 6 = .ok (.istore_n 2, 1) := by decide +kernel
theorem dX9_count_7 : decode cX9_count 7 = .ok (.iload_n 1, 1) := by decide +kernel
theorem dX9_count_8 : decode cX9_count 8 = .ok (.tableswitch 208 0 12 #[68, 73, 78, 83, 88, 95, 106, 112, 147, 153, 193, 198, 203], 68) := by decide +kernel
theorem dX9_count_76 : decode cX9_count 76 = .ok (.aload_n 0, 1) := by decide +kernel
theorem dX9_count_77 : decode cX9_count 77 = .ok (.getfield 219, 3) := by decide +kernel
theorem dX9_count_80 : decode cX9_count 80 = .ok (.ireturn, 1) := by decide +kernel
theorem dX9_count_81 : decode cX9_count 81 = .ok (.aload_n 0, 1) := by decide +kernel
theorem dX9_count_82 : decode cX9_count 82 = .ok (.getfield 222, 3) := by decide +kernel
theorem dX9_count_85 : decode cX9_count 85 = .ok (.ireturn, 1) := by decide +kernel
theorem dX9_count_86 : decode cX9_count 86 = .ok (.aload_n 0, 1) := by decide +kernel
theorem dX9_count_87 : decode cX9_count 87 = .ok (.getfield 225, 3) := by decide +kernel
theorem dX9_count_90 : decode cX9_count 90 = .ok (.ireturn, 1) := by decide +kernel
theorem dX9_count_91 : decode cX9_count 91 = .ok (.aload_n 0, 1) := by decide +kernel
theorem dX9_count_92 : decode cX9_count 92 = .ok (.getfield 228, 3) := by decide +kernel
theorem dX9_count_95 : decode cX9_count 95 = .ok (.ireturn, 1) := by decide +kernel
theorem dX9_count_96 : decode cX9_count 96 = .ok (.aload_n 0, 1) := by decide +kernel
theorem dX9_count_97 : decode cX9_count 97 = .ok (.getfield 112, 3) := by decide +kernel
theorem dX9_count_100 : decode cX9_count 100 = .ok (.iconst 0, 1) := by decide +kernel
theorem dX9_count_101 : decode cX9_count 101 = .ok (.iaload, 1) := by decide +kernel
theorem dX9_count_102 : decode cX9_count 102 = .ok (.ireturn, 1) := by decide +kernel
theorem dX9_count_103 : decode cX9_count 103 = .ok (.aload_n 0, 1) := by decide +kernel
theorem dX9_count_104 : decode cX9_count 104 = .ok (.getfield 219, 3) := by decide +kernel
theorem dX9_count_107 : decode cX9_count 107 = .ok (.aload_n 0, 1) := by decide +kernel
theorem dX9_count_108 : decode cX9_count 108 = .ok (.iconst 0, 1) := by decide +kernel
theorem dX9_count_109 : decode cX9_count 109 = .ok (.invokevirtual 484, 3) := by decide +kernel
theorem dX9_count_112 : decode cX9_count 112 = .ok (.isub, 1) := by decide +kernel
theorem dX9_count_113 : decode cX9_count 113 = .ok (.ireturn, 1) := by decide +kernel
theorem dX9_count_114 : decode cX9_count 114 = .ok (.aload_n 0, 1) := by decide +kernel
theorem dX9_count_115 : decode cX9_count 115 = .ok (.iconst 0, 1) := by decide +kernel
theorem dX9_count_116 : decode cX9_count 116 = .ok (.invokevirtual 481, 3) := by decide +kernel
theorem dX9_count_119 : decode cX9_count 119 = .ok (.ireturn, 1) := by decide +kernel
theorem dX9_count_120 : decode cX9_count 120 = .ok (.iconst 0, 1) := by decide +kernel
theorem dX9_count_121 : decode cX9_count 121 = .ok (.istore_n 3, 1) := by decide +kernel
theorem dX9_count_122 : decode cX9_count 122 = .ok (.iload_n 3, 1) := by decide +kernel
theorem dX9_count_123 : decode cX9_count 123 = .ok (.aload_n 0, 1) := by decide +kernel
theorem dX9_count_124 : decode cX9_count 124 = .ok (.getfield 222, 3) := by decide +kernel
theorem dX9_count_127 : decode cX9_count 127 = .ok (.if_icmp .ge 26, 3) := by decide +kernel
theorem dX9_count_130 : decode cX9_count 130 = .ok (.iload_n 2, 1) := by decide +kernel
theorem dX9_count_131 : decode cX9_count 131 = .ok (.aload_n 0, 1) := by decide +kernel
theorem dX9_count_132 : decode cX9_count 132 = .ok (.getfield 106, 3) := by decide +kernel
theorem dX9_count_135 : decode cX9_count 135 = .ok (.iload_n 3, 1) := by decide +kernel
theorem dX9_count_136 : decode cX9_count 136 = .ok (.baload, 1) := by decide +kernel
theorem dX9_count_137 : decode cX9_count 137 = .ok (.ifCond .eq 7, 3) := by decide +kernel
theorem dX9_count_140 : decode cX9_count 140 = .ok (.iconst 1, 1) := by decide +kernel
theorem dX9_count_141 : decode cX9_count 141 = .ok (.goto 4, 3) := by decide +kernel
theorem dX9_count_144 : decode cX9_count 144 = .ok (.iconst 0, 1) := by decide +kernel
theorem dX9_count_145 : decode cX9_count 145 = .ok (.iadd, 1) := by decide +kernel
theorem dX9_count_146 : decode cX9_count 146 = .ok (.istore_n 2, 1) := by decide +kernel
theorem dX9_count_147 : decode cX9_count 147 = .ok (.iinc 3 1, 3) := by decide +kernel
theorem dX9_count_150 : decode cX9_count 150 = .ok (.goto (-28), 3) := by decide +kernel
theorem dX9_count_153 : decode cX9_count 153 = .ok (.iload_n 2, 1) := by decide +kernel
theorem dX9_count_154 : decode cX9_count 154 = .ok (.ireturn, 1) := by decide +kernel
theorem dX9_count_155 : decode cX9_count 155 = .ok (.aload_n 0, 1) := by decide +kernel
theorem dX9_count_156 : decode cX9_count 156 = .ok (.iconst 0, 1) := by decide +kernel
theorem dX9_count_157 : decode cX9_count 157 = .ok (.invokevirtual 487, 3) := by decide +kernel
theorem dX9_count_160 : decode cX9_count 160 = .ok (.ireturn, 1) := by decide +kernel
theorem dX9_count_161 : decode cX9_count 161 = .ok (.iconst 0, 1) := by decide +kernel
theorem dX9_count_162 : decode cX9_count 162 = .ok (.istore_n 3, 1) := by decide +kernel
theorem dX9_count_163 : decode cX9_count 163 = .ok (.iload_n 3, 1) := by decide +kernel
theorem dX9_count_164 : decode cX9_count 164 = .ok (.aload_n 0, 1) := by decide +kernel
theorem dX9_count_165 : decode cX9_count 165 = .ok (.getfield 219, 3) := by decide +kernel
theorem dX9_count_168 : decode cX9_count 168 = .ok (.if_icmp .ge 31, 3) := by decide +kernel
theorem dX9_count_171 : decode cX9_count 171 = .ok (.iload_n 2, 1) := by decide +kernel
theorem dX9_count_172 : decode cX9_count 172 = .ok (.aload_n 0, 1) := by decide +kernel
theorem dX9_count_173 : decode cX9_count 173 = .ok (.getfield 97, 3) := by decide +kernel
theorem dX9_count_176 : decode cX9_count 176 = .ok (.iload_n 3, 1) := by decide +kernel
theorem dX9_count_177 : decode cX9_count 177 = .ok (.baload, 1) := by decide +kernel
theorem dX9_count_178 : decode cX9_count 178 = .ok (.ifCond .eq 12, 3) := by decide +kernel
theorem dX9_count_181 : decode cX9_count 181 = .ok (.aload_n 0, 1) := by decide +kernel
theorem dX9_count_182 : decode cX9_count 182 = .ok (.getfield 91, 3) := by decide +kernel
theorem dX9_count_185 : decode cX9_count 185 = .ok (.iload_n 3, 1) := by decide +kernel
theorem dX9_count_186 : decode cX9_count 186 = .ok (.iaload, 1) := by decide +kernel
theorem dX9_count_187 : decode cX9_count 187 = .ok (.goto 4, 3) := by decide +kernel
theorem dX9_count_190 : decode cX9_count 190 = .ok (.iconst 0, 1) := by decide +kernel
theorem dX9_count_191 : decode cX9_count 191 = .ok (.iadd, 1) := by decide +kernel
theorem dX9_count_192 : decode cX9_count 192 = .ok (.istore_n 2, 1) := by decide +kernel
theorem dX9_count_193 : decode cX9_count 193 = .ok (.iinc 3 1, 3) := by decide +kernel
theorem dX9_count_196 : decode cX9_count 196 = .ok (.goto (-33), 3) := by decide +kernel
theorem dX9_count_199 : decode cX9_count 199 = .ok (.iload_n 2, 1) := by decide +kernel
theorem dX9_count_200 : decode cX9_count 200 = .ok (.ireturn, 1) := by decide +kernel
theorem dX9_count_201 : decode cX9_count 201 = .ok (.aload_n 0, 1) := by decide +kernel
theorem dX9_count_202 : decode cX9_count 202 = .ok (.getfield 344, 3) := by decide +kernel
theorem dX9_count_205 : decode cX9_count 205 = .ok (.ireturn, 1) := by decide +kernel
theorem dX9_count_206 : decode cX9_count 206 = .ok (.aload_n 0, 1) := by decide +kernel
theorem dX9_count_207 : decode cX9_count 207 = .ok (.invokevirtual 528, 3) := by decide +kernel
theorem dX9_count_210 : decode cX9_count 210 = .ok (.ireturn, 1) := by decide +kernel
theorem dX9_count_211 : decode cX9_count 211 = .ok (.aload_n 0, 1) := by decide +kernel
theorem dX9_count_212 : decode cX9_count 212 = .ok (.getfield 347, 3) := by decide +kernel
theorem dX9_count_215 : decode cX9_count 215 = .ok (.ireturn, 1) := by decide +kernel
theorem dX9_count_216 : decode cX9_count 216 = .ok (.iconst (-1), 1) := by decide +kernel
theorem dX9_count_217 : decode cX9_count 217 = .ok (.ireturn, 1) := by decide +kernel
