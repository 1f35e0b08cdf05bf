theorem dX9_isDraught_32 : decode cX9_isDraught 32 = .ok (.getfield 353, 3) := by decide +kernel
theorem dX9_isDraught_35 : decode cX9_isDraught 35 = .ok (.ifCond .eq 26, 3) := by decide +kernel
theorem dX9_isDraught_38 : decode cX9_isDraught 38 = .ok (.aload_n 0, 1) := by decide +kernel
theorem dX9_isDraught_39 : decode cX9_isDraught 39 = .ok (.bipush 100, 2) := by decide +kernel
theorem dX9_isDraught_41 : decode cX9_isDraught 41 = .ok (.invokevirtual 422, 3) := by decide +kernel
theorem dX9_isDraught_44 : decode cX9_isDraught 44 = .ok (.aload_n 0, 1) := by decide +kernel
theorem dX9_isDraught_45 : decode cX9_isDraught 45 = .ok (.getfield 24, 3) := by decide +kernel
theorem dX9_isDraught_48 : decode cX9_isDraught 48 = .ok (.iconst 1, 1) := by decide +kernel
theorem dX9_isDraught_49 : decode cX9_isDraught 49 = .ok (.iaload, 1) := by decide +kernel
theorem dX9_isDraught_50 : decode cX9_isDraught 50 = .ok (.if_icmp .ge 7, 3) := by decide +kernel
theorem dX9_isDraught_53 : decode cX9_isDraught 53 = .ok (.iconst 1, 1) := by decide +kernel
theorem dX9_isDraught_54 : decode cX9_isDraught 54 = .ok (.goto 23, 3) := by decide +kernel
theorem dX9_isDraught_57 : decode cX9_isDraught 57 = .ok (.iconst 0, 1) := by decide +kernel
theorem dX9_isDraught_58 : decode cX9_isDraught 58 = .ok (.goto 19, 3) := by decide +kernel
theorem dX9_isDraught_61 : decode cX9_isDraught 61 = .ok (.aload_n 0, 1) := by decide +kernel
theorem dX9_isDraught_62 : decode cX9_isDraught 62 = .ok (.getfield 24, 3) := by decide +kernel
theorem dX9_isDraught_65 : decode cX9_isDraught 65 = .ok (.iconst 1, 1) := by decide +kernel
theorem dX9_isDraught_66 : decode cX9_isDraught 66 = .ok (.iaload, 1) := by decide +kernel
theorem dX9_isDraught_67 : decode cX9_isDraught 67 = .ok (.bipush 50, 2) := by decide +kernel
theorem dX9_isDraught_69 : decode cX9_isDraught 69 = .ok (.if_icmp .lt 7, 3) := by decide +kernel
theorem dX9_isDraught_72 : decode cX9_isDraught 72 = .ok (.iconst 1, 1) := by decide +kernel
theorem dX9_isDraught_73 : decode cX9_isDraught 73 = .ok (.goto 4, 3) := by decide +kernel
theorem dX9_isDraught_76 : decode cX9_isDraught 76 = .ok (.iconst 0, 1) := by decide +kernel
theorem dX9_isDraught_77 : decode cX9_isDraught 77 = .ok (.ireturn, 1) := by decide +kernel
theorem dX9_isTold_0 : decode cX9_isTold 0 = .ok (.iconst 0, 1) := by decide +kernel
theorem dX9_isTold_1 : decode cX9_isTold 1 = .ok (.istore_n 3, 1) := by decide +kernel
theorem dX9_isTold_2 : decode cX9_isTold 2 = .ok (.iload_n 3, 1) := by decide +kernel
theorem dX9_isTold_3 : decode cX9_isTold 3 = .ok (.aload_n 0, 1) := by decide +kernel
theorem dX9_isTold_4 : decode cX9_isTold 4 = .ok (.getfield 225, 3) := by decide +kernel
theorem dX9_isTold_7 : decode cX9_isTold 7 = .ok (.if_icmp .ge 31, 3) := by decide +kernel
theorem dX9_isTold_10 : decode cX9_isTold 10 = .ok (.aload_n 0, 1) := by decide +kernel
theorem dX9_isTold_11 : decode cX9_isTold 11 = .ok (.getfield 48, 3) := by decide +kernel
theorem dX9_isTold_14 : decode cX9_isTold 14 = .ok (.iload_n 3, 1) := by decide +kernel
theorem dX9_isTold_15 : decode cX9_isTold 15 = .ok (.iaload, 1) := by decide +kernel
theorem dX9_isTold_16 : decode cX9_isTold 16 = .ok (.iload_n 1, 1) := by decide +kernel
theorem dX9_isTold_17 : decode cX9_isTold 17 = .ok (.if_icmp .ne 15, 3) := by decide +kernel
theorem dX9_isTold_20 : decode cX9_isTold 20 = .ok (.aload_n 0, 1) := by decide +kernel
theorem dX9_isTold_21 : decode cX9_isTold 21 = .ok (.getfield 51, 3) := by decide +kernel
theorem dX9_isTold_24 : decode cX9_isTold 24 = .ok (.iload_n 3, 1) := by decide +kernel
theorem dX9_isTold_25 : decode cX9_isTold 25 = .ok (.iaload, 1) := by decide +kernel
theorem dX9_isTold_26 : decode cX9_isTold 26 = .ok (.iload_n 2, 1) := by decide +kernel
theorem dX9_isTold_27 : decode cX9_isTold 27 = .ok (.if_icmp .ne 5, 3) := by decide +kernel
theorem dX9_isTold_30 : decode cX9_isTold 30 = .ok (.iconst 1, 1) := by decide +kernel
theorem dX9_isTold_31 : decode cX9_isTold 31 = .ok (.ireturn, 1) := by decide +kernel
theorem dX9_isTold_32 : decode cX9_isTold 32 = .ok (.iinc 3 1, 3) := by decide +kernel
theorem dX9_isTold_35 : decode cX9_isTold 35 = .ok (.goto (-33), 3) := by decide +kernel
theorem dX9_isTold_38 : decode cX9_isTold 38 = .ok (.iconst 0, 1) := by decide +kernel
theorem dX9_isTold_39 : decode cX9_isTold 39 = .ok (.ireturn, 1) := by decide +kernel
theorem dX9_sitsAt_0 : decode cX9_sitsAt 0 = .ok (.iconst 0, 1) := by decide +kernel
theorem dX9_sitsAt_1 : decode cX9_sitsAt 1 = .ok (.istore_n 3, 1) := by decide +kernel
theorem dX9_sitsAt_2 : decode cX9_sitsAt 2 = .ok (.iload_n 3, 1) := by decide +kernel
theorem dX9_sitsAt_3 : decode cX9_sitsAt 3 = .ok (.aload_n 0, 1) := by decide +kernel
theorem dX9_sitsAt_4 : decode cX9_sitsAt 4 = .ok (.getfield 219, 3) := by decide +kernel
theorem dX9_sitsAt_7 : decode cX9_sitsAt 7 = .ok (.if_icmp .ge 35, 3) := by decide +kernel
theorem dX9_sitsAt_10 : decode cX9_sitsAt 10 = .ok (.aload_n 0, 1) := by decide +kernel
theorem dX9_sitsAt_11 : decode cX9_sitsAt 11 = .ok (.getfield 94, 3) := by decide +kernel
theorem dX9_sitsAt_14 : decode cX9_sitsAt 14 = .ok (.bipush 6, 2) := by decide +kernel
theorem dX9_sitsAt_16 : decode cX9_sitsAt 16 = .ok (.iload_n 1, 1) := by decide +kernel
theorem dX9_sitsAt_17 : decode cX9_sitsAt 17 = .ok (.imul, 1) := by decide +kernel
theorem dX9_sitsAt_18 : decode cX9_sitsAt 18 = .ok (.iload_n 3, 1) := by decide +kernel
theorem dX9_sitsAt_19 : decode cX9_sitsAt 19 = .ok (.iadd, 1) := by decide +kernel
theorem dX9_sitsAt_20 : decode cX9_sitsAt 20 = .ok (.iaload, 1) := by decide +kernel
theorem dX9_sitsAt_21 : decode cX9_sitsAt 21 = .ok (.iload_n 2, 1) := by decide +kernel
theorem dX9_sitsAt_22 : decode cX9_sitsAt 22 = .ok (.if_icmp .ne 14, 3) := by decide +kernel
theorem dX9_sitsAt_25 : decode cX9_sitsAt 25 = .ok (.aload_n 0, 1) := by decide +kernel
theorem dX9_sitsAt_26 : decode cX9_sitsAt 26 = .ok (.iload_n 1, 1) := by decide +kernel
theorem dX9_sitsAt_27 : decode cX9_sitsAt 27 = .ok (.iload_n 3, 1) := by decide +kernel
theorem dX9_sitsAt_28 : decode cX9_sitsAt 28 = .ok (.invokevirtual 386, 3) := by decide +kernel
theorem dX9_sitsAt_31 : decode cX9_sitsAt 31 = .ok (.ifCond .eq 5, 3) := by decide +kernel
theorem dX9_sitsAt_34 : decode cX9_sitsAt 34 = .ok (.iload_n 3, 1) := by decide +kernel
theorem dX9_sitsAt_35 : decode cX9_sitsAt 35 = .ok (.ireturn, 1) := by decide +kernel
theorem dX9_sitsAt_36 : decode cX9_sitsAt 36 = .ok (.iinc 3 1, 3) := by decide +kernel
theorem dX9_sitsAt_39 : decode cX9_sitsAt 39 = .ok (.goto (-37), 3) := by decide +kernel
theorem dX9_sitsAt_42 : decode cX9_sitsAt 42 = .ok (.iconst (-1), 1) := by decide +kernel
theorem dX9_sitsAt_43 : decode cX9_sitsAt 43 = .ok (.ireturn, 1) := by decide +kernel
theorem dX9_bites_0 : decode cX9_bites 0 = .ok (.aload_n 0, 1) := by decide +kernel
theorem dX9_bites_1 : decode cX9_bites 1 = .ok (.getfield 103, 3) := by decide +kernel
theorem dX9_bites_4 : decode cX9_bites 4 = .ok (.bipush 8, 2) := by decide +kernel
theorem dX9_bites_6 : decode cX9_bites 6 = .ok (.iload_n 1, 1) := by decide +kernel
theorem dX9_bites_7 : decode cX9_bites 7 = .ok (.imul, 1) := by decide +kernel
theorem dX9_bites_8 : decode cX9_bites 8 = .ok (.iload_n 3, 1) := by decide +kernel
theorem dX9_bites_9 : decode cX9_bites 9 = .ok (.iadd, 1) := by decide +kernel
theorem dX9_bites_10 : decode cX9_bites 10 = .ok (.dup2, 1) := by decide +kernel
theorem dX9_bites_11 : decode cX9_bites 11 = .ok (.iaload, 1) := by decide +kernel
theorem dX9_bites_12 : decode cX9_bites 12 = .ok (.iconst 1, 1) := by decide +kernel
theorem dX9_bites_13 : decode cX9_bites 13 = .ok (.iadd, 1) := by decide +kernel
theorem dX9_bites_14 : decode cX9_bites 14 = .ok (.iastore, 1) := by decide +kernel
theorem dX9_bites_15 : decode cX9_bites 15 = .ok (.aload_n 0, 1) := by decide +kernel
theorem dX9_bites_16 : decode cX9_bites 16 = .ok (.getfield 100, 3) := by decide +kernel
theorem dX9_bites_19 : decode cX9_bites 19 = .ok (.bipush 6, 2) := by decide +kernel
theorem dX9_bites_21 : decode cX9_bites 21 = .ok (.iload_n 1, 1) := by decide +kernel
theorem dX9_bites_22 : decode cX9_bites 22 = .ok (.imul, 1) := by decide +kernel
theorem dX9_bites_23 : decode cX9_bites 23 = .ok (.iload_n 2, 1) := by decide +kernel
theorem dX9_bites_24 : decode cX9_bites 24 = .ok (.iadd, 1) := by decide +kernel
theorem dX9_bites_25 : decode cX9_bites 25 = .ok (.dup2, 1) := by decide +kernel
theorem dX9_bites_26 : decode cX9_bites 26 = .ok (.iaload, 1) := by decide +kernel
theorem dX9_bites_27 : decode cX9_bites 27 = .ok (.iconst 1, 1) := by decide +kernel
theorem dX9_bites_28 : decode cX9_bites 28 = .ok (.iadd, 1) := by decide +kernel
theorem dX9_bites_29 : decode cX9_bites 29 = .ok (.iastore, 1) := by decide +kernel
theorem dX9_bites_30 : decode cX9_bites 30 = .ok (.aload_n 0, 1) := by decide +kernel
theorem dX9_bites_31 : decode cX9_bites 31 = .ok (.iload_n 2, 1) := by decide +kernel
theorem dX9_bites_32 : decode cX9_bites 32 = .ok (.putfield 425, 3) := by decide +kernel
theorem dX9_bites_35 : decode cX9_bites 35 = .ok (.aload_n 0, 1) := by decide +kernel
theorem dX9_bites_36 : decode cX9_bites 36 = .ok (.iload_n 3, 1) := by decide +kernel
theorem dX9_bites_37 : decode cX9_bites 37 = .ok (.invokevirtual 428, 3) := by decide +kernel
theorem dX9_bites_40 : decode cX9_bites 40 = .ok (.ifCond .eq 41, 3) := by decide +kernel
theorem dX9_bites_43 : decode cX9_bites 43 = .ok (.aload_n 0, 1) := by decide +kernel
theorem dX9_bites_44 : decode cX9_bites 44 = .ok (.getfield 106, 3) := by decide +kernel
theorem dX9_bites_47 : decode cX9_bites 47 = .ok (.bipush 8, 2) := by decide +kernel
theorem dX9_bites_49 : decode cX9_bites 49 = .ok (.iload_n 1, 1) := by decide +kernel
theorem dX9_bites_50 : decode cX9_bites 50 = .ok (.imul, 1) := by decide +kernel
theorem dX9_bites_51 : decode cX9_bites 51 = .ok (.iload_n 3, 1) := by decide +kernel
theorem dX9_bites_52 : decode cX9_bites 52 = .ok (.iadd, 1) := by decide +kernel
theorem dX9_bites_53 : decode cX9_bites 53 = .ok (.baload, 1) := by decide +kernel
theorem dX9_bites_54 : decode cX9_bites 54 = .ok (.ifCond .ne 27, 3) := by decide +kernel
theorem dX9_bites_57 : decode cX9_bites 57 = .ok (.aload_n 0, 1) := by decide +kernel
theorem dX9_bites_58 : decode cX9_bites 58 = .ok (.getfield 106, 3) := by decide +kernel
theorem dX9_bites_61 : decode cX9_bites 61 = .ok (.bipush 8, 2) := by decide +kernel
theorem dX9_bites_63 : decode cX9_bites 63 = .ok (.iload_n 1, 1) := by decide +kernel
theorem dX9_bites_64 : decode cX9_bites 64 = .ok (.imul, 1) := by decide +kernel
theorem dX9_bites_65 : decode cX9_bites 65 = .ok (.iload_n 3, 1) := by decide +kernel
theorem dX9_bites_66 : decode cX9_bites 66 = .ok (.iadd, 1) := by decide +kernel
theorem dX9_bites_67 : decode cX9_bites 67 = .ok (.iconst 1, 1) := by decide +kernel
theorem dX9_bites_68 : decode cX9_bites 68 = .ok (.bastore, 1) := by decide +kernel
theorem dX9_bites_69 : decode cX9_bites 69 = .ok (.aload_n 0, 1) := by decide +kernel
theorem dX9_bites_70 : decode cX9_bites 70 = .ok (.getfield 91, 3) := by decide +kernel
theorem dX9_bites_73 : decode cX9_bites 73 = .ok (.bipush 6, 2) := by decide +kernel
theorem dX9_bites_75 : decode cX9_bites 75 = .ok (.iload_n 1, 1) := by decide +kernel
theorem dX9_bites_76 : decode cX9_bites 76 = .ok (.imul, 1) := by decide +kernel
theorem dX9_bites_77 : decode cX9_bites 77 = .ok (.iload_n 2, 1) := by decide +kernel
theorem dX9_bites_78 : decode cX9_bites 78 = .ok (.iadd, 1) := by decide +kernel
theorem dX9_bites_79 : decode cX9_bites 79 = .ok (.iconst 0, 1) := by decide +kernel
theorem dX9_bites_80 : decode cX9_bites 80 = .ok (.iastore, 1) := by decide +kernel
theorem dX9_bites_81 : decode cX9_bites 81 = .ok (.iconst 0, 1) := by decide +kernel
theorem dX9_bites_82 : decode cX9_bites 82 = .ok (.istore 4, 2) := by decide +kernel
theorem dX9_bites_84 : decode cX9_bites 84 = .ok (.iload 4, 2) := by decide +kernel
theorem dX9_bites_86 : decode cX9_bites 86 = .ok (.aload_n 0, 1) := by decide +kernel
theorem dX9_bites_87 : decode cX9_bites 87 = .ok (.getfield 219, 3) := by decide +kernel
theorem dX9_bites_90 : decode cX9_bites 90 = .ok (.if_icmp .ge 76, 3) := by decide +kernel
theorem dX9_bites_93 : decode cX9_bites 93 = .ok (.aload_n 0, 1) := by decide +kernel
theorem dX9_bites_94 : decode cX9_bites 94 = .ok (.iload_n 1, 1) := by decide +kernel
theorem dX9_bites_95 : decode cX9_bites 95 = .ok (.iload 4, 2) := by decide +kernel
theorem dX9_bites_97 : decode cX9_bites 97 = .ok (.iload_n 2, 1) := by decide +kernel
theorem dX9_bites_98 : decode cX9_bites 98 = .ok (.invokevirtual 431, 3) := by decide +kernel
theorem dX9_bites_101 : decode cX9_bites 101 = .ok (.ifCond .ne 6, 3) := by decide +kernel
theorem dX9_bites_104 : decode cX9_bites 104 = .ok (.goto 56, 3) := by decide +kernel
theorem dX9_bites_107 : decode cX9_bites 107 = .ok (.aload_n 0, 1) := by decide +kernel
theorem dX9_bites_108 : decode cX9_bites 108 = .ok (.iload_n 1, 1) := by decide +kernel
theorem dX9_bites_109 : decode cX9_bites 109 = .ok (.iload 4, 2) := by decide +kernel
theorem dX9_bites_111 : decode cX9_bites 111 = .ok (.iload_n 3, 1) := by decide +kernel
theorem dX9_bites_112 : decode cX9_bites 112 = .ok (.invokevirtual 404, 3) := by decide +kernel
theorem dX9_bites_115 : decode cX9_bites 115 = .ok (.aload_n 0, 1) := by decide +kernel
theorem dX9_bites_116 : decode cX9_bites 116 = .ok (.getfield 88, 3) := by decide +kernel
theorem dX9_bites_119 : decode cX9_bites 119 = .ok (.bipush 6, 2) := by decide +kernel
theorem dX9_bites_121 : decode cX9_bites 121 = .ok (.iload_n 1, 1) := by decide +kernel
theorem dX9_bites_122 : decode cX9_bites 122 = .ok (.imul, 1) := by decide +kernel
theorem dX9_bites_123 : decode cX9_bites 123 = .ok (.iload 4, 2) := by decide +kernel
theorem dX9_bites_125 : decode cX9_bites 125 = .ok (.iadd, 1) := by decide +kernel
theorem dX9_bites_126 : decode cX9_bites 126 = .ok (.iaload, 1) := by decide +kernel
theorem dX9_bites_127 : decode cX9_bites 127 = .ok (.aload_n 0, 1) := by decide +kernel
theorem dX9_bites_128 : decode cX9_bites 128 = .ok (.iconst 2, 1) := by decide +kernel
theorem dX9_bites_129 : decode cX9_bites 129 = .ok (.bipush 10, 2) := by decide +kernel
theorem dX9_bites_131 : decode cX9_bites 131 = .ok (.invokevirtual 407, 3) := by decide +kernel
theorem dX9_bites_134 : decode cX9_bites 134 = .ok (.isub, 1) := by decide +kernel
theorem dX9_bites_135 : decode cX9_bites 135 = .ok (.istore 5, 2) := by decide +kernel
theorem dX9_bites_137 : decode cX9_bites 137 = .ok (.aload_n 0, 1) := by decide +kernel
theorem dX9_bites_138 : decode cX9_bites 138 = .ok (.getfield 88, 3) := by decide +kernel
theorem dX9_bites_141 : decode cX9_bites 141 = .ok (.bipush 6, 2) := by decide +kernel
theorem dX9_bites_143 : decode cX9_bites 143 = .ok (.iload_n 1, 1) := by decide +kernel
theorem dX9_bites_144 : decode cX9_bites 144 = .ok (.imul, 1) := by decide +kernel
theorem dX9_bites_145 : decode cX9_bites 145 = .ok (.iload 4, 2) := by decide +kernel
theorem dX9_bites_147 : decode cX9_bites 147 = .ok (.iadd, 1) := by decide +kernel
theorem dX9_bites_148 : decode cX9_bites 148 = .ok (.iload 5, 2) := by decide +kernel
theorem dX9_bites_150 : decode cX9_bites 150 = .ok (.ifCond .ge 7, 3) := by decide +kernel
theorem dX9_bites_153 : decode cX9_bites 153 = .ok (.iconst 0, 1) := by decide +kernel
theorem dX9_bites_154 : decode cX9_bites 154 = .ok (.goto 5, 3) := by decide +kernel
theorem dX9_bites_157 : decode cX9_bites 157 = .ok (.iload 5, 2) := by decide +kernel
theorem dX9_bites_159 : decode cX9_bites 159 = .ok (.iastore, 1) := by decide +kernel
theorem dX9_bites_160 : decode cX9_bites 160 = .ok (.iinc 4 1, 3) := by decide +kernel
theorem dX9_bites_163 : decode cX9_bites 163 = .ok (.goto (-79), 3) := by decide +kernel
theorem dX9_bites_166 : decode cX9_bites 166 = .ok (.return_, 1) := by decide +kernel
theorem dX9_praises_0 : decode cX9_praises 0 = .ok (.aload_n 0, 1) := by decide +kernel
theorem dX9_praises_1 : decode cX9_praises 1 = .ok (.iload_n 1, 1) := by decide +kernel
theorem dX9_praises_2 : decode cX9_praises 2 = .ok (.iload_n 2, 1) := by decide +kernel
theorem dX9_praises_3 : decode cX9_praises 3 = .ok (.iload_n 3, 1) := by decide +kernel
theorem dX9_praises_4 : decode cX9_praises 4 = .ok (.invokevirtual 434, 3) := by decide +kernel
theorem dX9_praises_7 : decode cX9_praises 7 = .ok (.istore 4, 2) := by decide +kernel
theorem dX9_praises_9 : decode cX9_praises 9 = .ok (.iconst 0, 1) := by decide +kernel
theorem dX9_praises_10 : decode cX9_praises 10 = .ok (.istore 5, 2) := by decide +kernel
theorem dX9_praises_12 : decode cX9_praises 12 = .ok (.iload 5, 2) := by decide +kernel
theorem dX9_praises_14 : decode cX9_praises 14 = .ok (.aload_n 0, 1) := by decide +kernel
theorem dX9_praises_15 : decode cX9_praises 15 = .ok (.getfield 219, 3) := by decide +kernel
theorem dX9_praises_18 : decode cX9_praises 18 = .ok (.if_icmp .ge 92, 3) := by decide +kernel
theorem dX9_praises_21 : decode cX9_praises 21 = .ok (.aload_n 0, 1) := by decide +kernel
theorem dX9_praises_22 : decode cX9_praises 22 = .ok (.iload_n 1, 1) := by decide +kernel
theorem dX9_praises_23 : decode cX9_praises 23 = .ok (.iload 5, 2) := by decide +kernel
theorem dX9_praises_25 : decode cX9_praises 25 = .ok (.iload_n 2, 1) := by decide +kernel
theorem dX9_praises_26 : decode cX9_praises 26 = .ok (.invokevirtual 431, 3) := by decide +kernel
theorem dX9_praises_29 : decode cX9_praises 29 = .ok (.ifCond .ne 6, 3) := by decide +kernel
theorem dX9_praises_32 : decode cX9_praises 32 = .ok (.goto 72, 3) := by decide +kernel
theorem dX9_praises_35 : decode cX9_praises 35 = .ok (.iload 4, 2) := by decide +kernel
theorem dX9_praises_37 : decode cX9_praises 37 = .ok (.aload_n 0, 1) := by decide +kernel
theorem dX9_praises_38 : decode cX9_praises 38 = .ok (.getfield 91, 3) := by decide +kernel
theorem dX9_praises_41 : decode cX9_praises 41 = .ok (.bipush 6, 2) := by decide +kernel
theorem dX9_praises_43 : decode cX9_praises 43 = .ok (.iload_n 1, 1) := by decide +kernel
theorem dX9_praises_44 : decode cX9_praises 44 = .ok (.imul, 1) := by decide +kernel
theorem dX9_praises_45 : decode cX9_praises 45 = .ok (.iload 5, 2) := by decide +kernel
theorem dX9_praises_47 : decode cX9_praises 47 = .ok (.iadd, 1) := by decide +kernel
theorem dX9_praises_48 : decode cX9_praises 48 = .ok (.iaload, 1) := by decide +kernel
theorem dX9_praises_49 : decode cX9_praises 49 = .ok (.if_icmp .ge 8, 3) := by decide +kernel
theorem dX9_praises_52 : decode cX9_praises 52 = .ok (.iload 4, 2) := by decide +kernel
theorem dX9_praises_54 : decode cX9_praises 54 = .ok (.goto 15, 3) := by decide +kernel
theorem dX9_praises_57 : decode cX9_praises 57 = .ok (.aload_n 0, 1) := by decide +kernel
theorem dX9_praises_58 : decode cX9_praises 58 = .ok (.getfield 91, 3) := by decide +kernel
theorem dX9_praises_61 : decode cX9_praises 61 = .ok (.bipush 6, 2) := by decide +kernel
theorem dX9_praises_63 : decode cX9_praises 63 = .ok (.iload_n 1, 1) := by decide +kernel
theorem dX9_praises_64 : decode cX9_praises 64 = .ok (.imul, 1) := by decide +kernel
theorem dX9_praises_65 : decode cX9_praises 65 = .ok (.iload 5, 2) := by decide +kernel
theorem dX9_praises_67 : decode cX9_praises 67 = .ok (.iadd, 1) := by decide +kernel
theorem dX9_praises_68 : decode cX9_praises 68 = .ok (.iaload, 1) := by decide +kernel
theorem dX9_praises_69 : decode cX9_praises 69 = .ok (.istore 6, 2) := by decide +kernel
theorem dX9_praises_71 : decode cX9_praises 71 = .ok (.aload_n 0, 1) := by decide +kernel
theorem dX9_praises_72 : decode cX9_praises 72 = .ok (.getfield 91, 3) := by decide +kernel
theorem dX9_praises_75 : decode cX9_praises 75 = .ok (.bipush 6, 2) := by decide +kernel
theorem dX9_praises_77 : decode cX9_praises 77 = .ok (.iload_n 1, 1) := by decide +kernel
theorem dX9_praises_78 : decode cX9_praises 78 = .ok (.imul, 1) := by decide +kernel
theorem dX9_praises_79 : decode cX9_praises 79 = .ok (.iload 5, 2) := by decide +kernel
theorem dX9_praises_81 : decode cX9_praises 81 = .ok (.iadd, 1) := by decide +kernel
theorem dX9_praises_82 : decode cX9_praises 82 = .ok (.dup2, 1) := by decide +kernel
theorem dX9_praises_83 : decode cX9_praises 83 = .ok (.iaload, 1) := by decide +kernel
theorem dX9_praises_84 : decode cX9_praises 84 = .ok (.iload 6, 2) := by decide +kernel
theorem dX9_praises_86 : decode cX9_praises 86 = .ok (.isub, 1) := by decide +kernel
theorem dX9_praises_87 : decode cX9_praises 87 = .ok (.iastore, 1) := by decide +kernel
theorem dX9_praises_88 : decode cX9_praises 88 = .ok (.aload_n 0, 1) := by decide +kernel
theorem dX9_praises_89 : decode cX9_praises 89 = .ok (.getfield 109, 3) := by decide +kernel
theorem dX9_praises_92 : decode cX9_praises 92 = .ok (.bipush 8, 2) := by decide +kernel
theorem dX9_praises_94 : decode cX9_praises 94 = .ok (.iload_n 1, 1) := by decide +kernel
theorem dX9_praises_95 : decode cX9_praises 95 = .ok (.imul, 1) := by decide +kernel
theorem dX9_praises_96 : decode cX9_praises 96 = .ok (.iload_n 3, 1) := by decide +kernel
theorem dX9_praises_97 : decode cX9_praises 97 = .ok (.iadd, 1) := by decide +kernel
theorem dX9_praises_98 : decode cX9_praises 98 = .ok (.dup2, 1) := by decide +kernel
theorem dX9_praises_99 : decode cX9_praises 99 = .ok (.iaload, 1) := by decide +kernel
theorem dX9_praises_100 : decode cX9_praises 100 = .ok (.iload 6, 2) := by decide +kernel
theorem dX9_praises_102 : decode cX9_praises 102 = .ok (.iadd, 1) := by decide +kernel
theorem dX9_praises_103 : decode cX9_praises 103 = .ok (.iastore, 1) := by decide +kernel
theorem dX9_praises_104 : decode cX9_praises 104 = .ok (.iinc 5 1, 3) := by decide +kernel
theorem dX9_praises_107 : decode cX9_praises 107 = .ok (.goto (-95), 3) := by decide +kernel
theorem dX9_praises_110 : decode cX9_praises 110 = .ok (.return_, 1) := by decide +kernel
theorem dX9_stepGoes_0 : decode cX9_stepGoes 0 = .ok (.aload_n 0, 1) := by decide +kernel
theorem dX9_stepGoes_1 : decode cX9_stepGoes 1 = .ok (.iconst (-1), 1) := by decide +kernel
theorem dX9_stepGoes_2 : decode cX9_stepGoes 2 = .ok (.putfield 425, 3) := by decide +kernel
theorem dX9_stepGoes_5 : decode cX9_stepGoes 5 = .ok (.aload_n 0, 1) := by decide +kernel
theorem dX9_stepGoes_6 : decode cX9_stepGoes 6 = .ok (.getfield 219, 3) := by decide +kernel
theorem dX9_stepGoes_9 : decode cX9_stepGoes 9 = .ok (.ifCond .ne 7, 3) := by decide +kernel
theorem dX9_stepGoes_12 : decode cX9_stepGoes 12 = .ok (.iconst (-1), 1) := by decide +kernel
theorem dX9_stepGoes_13 : decode cX9_stepGoes 13 = .ok (.goto 19, 3) := by decide +kernel
theorem dX9_stepGoes_16 : decode cX9_stepGoes 16 = .ok (.aload_n 0, 1) := by decide +kernel
theorem dX9_stepGoes_17 : decode cX9_stepGoes 17 = .ok (.iload_n 1, 1) := by decide +kernel
theorem dX9_stepGoes_18 : decode cX9_stepGoes 18 = .ok (.aload_n 0, 1) := by decide +kernel
theorem dX9_stepGoes_19 : decode cX9_stepGoes 19 = .ok (.getfield 112, 3) := by decide +kernel
theorem dX9_stepGoes_22 : decode cX9_stepGoes 22 = .ok (.iload_n 1, 1) := by decide +kernel
theorem dX9_stepGoes_23 : decode cX9_stepGoes 23 = .ok (.iaload, 1) := by decide +kernel
theorem dX9_stepGoes_24 : decode cX9_stepGoes 24 = .ok (.aload_n 0, 1) := by decide +kernel
theorem dX9_stepGoes_25 : decode cX9_stepGoes 25 = .ok (.getfield 219, 3) := by decide +kernel
theorem dX9_stepGoes_28 : decode cX9_stepGoes 28 = .ok (.irem, 1) := by decide +kernel
theorem dX9_stepGoes_29 : decode cX9_stepGoes 29 = .ok (.invokevirtual 437, 3) := by decide +kernel
theorem dX9_stepGoes_32 : decode cX9_stepGoes 32 = .ok (.istore_n 2, 1) := by decide +kernel
theorem dX9_stepGoes_33 : decode cX9_stepGoes 33 = .ok (.iload_n 2, 1) := by decide +kernel
theorem dX9_stepGoes_34 : decode cX9_stepGoes 34 = .ok (.ifCond .lt 78, 3) := by decide +kernel
theorem dX9_stepGoes_37 : decode cX9_stepGoes 37 = .ok (.aload_n 0, 1) := by decide +kernel
theorem dX9_stepGoes_38 : decode cX9_stepGoes 38 = .ok (.getfield 222, 3) := by decide +kernel
theorem dX9_stepGoes_41 : decode cX9_stepGoes 41 = .ok (.ifCond .le 71, 3) := by decide +kernel
theorem dX9_stepGoes_44 : decode cX9_stepGoes 44 = .ok (.aload_n 0, 1) := by decide +kernel
theorem dX9_stepGoes_45 : decode cX9_stepGoes 45 = .ok (.getfield 112, 3) := by decide +kernel
theorem dX9_stepGoes_48 : decode cX9_stepGoes 48 = .ok (.iload_n 1, 1) := by decide +kernel
theorem dX9_stepGoes_49 : decode cX9_stepGoes 49 = .ok (.iaload, 1) := by decide +kernel
theorem dX9_stepGoes_50 : decode cX9_stepGoes 50 = .ok (.aload_n 0, 1) := by decide +kernel
theorem dX9_stepGoes_51 : decode cX9_stepGoes 51 = .ok (.getfield 222, 3) := by decide +kernel
theorem dX9_stepGoes_54 : decode cX9_stepGoes 54 = .ok (.irem, 1) := by decide +kernel
theorem dX9_stepGoes_55 : decode cX9_stepGoes 55 = .ok (.istore_n 3, 1) := by decide +kernel
theorem dX9_stepGoes_56 : decode cX9_stepGoes 56 = .ok (.aload_n 0, 1) := by decide +kernel
theorem dX9_stepGoes_57 : decode cX9_stepGoes 57 = .ok (.getfield 359, 3) := by decide +kernel
theorem dX9_stepGoes_60 : decode cX9_stepGoes 60 = .ok (.ifCond .ne 37, 3) := by decide +kernel
theorem dX9_stepGoes_63 : decode cX9_stepGoes 63 = .ok (.aload_n 0, 1) := by decide +kernel
theorem dX9_stepGoes_64 : decode cX9_stepGoes 64 = .ok (.iload_n 2, 1) := by decide +kernel
theorem dX9_stepGoes_65 : decode cX9_stepGoes 65 = .ok (.aload_n 0, 1) := by decide +kernel
theorem dX9_stepGoes_66 : decode cX9_stepGoes 66 = .ok (.getfield 112, 3) := by decide +kernel
theorem dX9_stepGoes_69 : decode cX9_stepGoes 69 = .ok (.iload_n 1, 1) := by decide +kernel
theorem dX9_stepGoes_70 : decode cX9_stepGoes 70 = .ok (.iaload, 1) := by decide +kernel
theorem dX9_stepGoes_71 : decode cX9_stepGoes 71 = .ok (.invokevirtual 440, 3) := by decide +kernel
theorem dX9_stepGoes_74 : decode cX9_stepGoes 74 = .ok (.ifCond .ne 13, 3) := by decide +kernel
theorem dX9_stepGoes_77 : decode cX9_stepGoes 77 = .ok (.aload_n 0, 1) := by decide +kernel
theorem dX9_stepGoes_78 : decode cX9_stepGoes 78 = .ok (.iload_n 1, 1) := by decide +kernel
theorem dX9_stepGoes_79 : decode cX9_stepGoes 79 = .ok (.iload_n 2, 1) := by decide +kernel
theorem dX9_stepGoes_80 : decode cX9_stepGoes 80 = .ok (.iload_n 3, 1) := by decide +kernel
theorem dX9_stepGoes_81 : decode cX9_stepGoes 81 = .ok (.invokevirtual 443, 3) := by decide +kernel
theorem dX9_stepGoes_84 : decode cX9_stepGoes 84 = .ok (.ifCond .eq 13, 3) := by decide +kernel
theorem dX9_stepGoes_87 : decode cX9_stepGoes 87 = .ok (.aload_n 0, 1) := by decide +kernel
theorem dX9_stepGoes_88 : decode cX9_stepGoes 88 = .ok (.iload_n 1, 1) := by decide +kernel
theorem dX9_stepGoes_89 : decode cX9_stepGoes 89 = .ok (.iload_n 2, 1) := by decide +kernel
theorem dX9_stepGoes_90 : decode cX9_stepGoes 90 = .ok (.iload_n 3, 1) := by decide +kernel
theorem dX9_stepGoes_91 : decode cX9_stepGoes 91 = .ok (.invokevirtual 446, 3) := by decide +kernel
theorem dX9_stepGoes_94 : decode cX9_stepGoes 94 = .ok (.goto 18, 3) := by decide +kernel
theorem dX9_stepGoes_97 : decode cX9_stepGoes 97 = .ok (.iload_n 2, 1) := by decide +kernel
theorem dX9_stepGoes_98 : decode cX9_stepGoes 98 = .ok (.aload_n 0, 1) := by decide +kernel
theorem dX9_stepGoes_99 : decode cX9_stepGoes 99 = .ok (.getfield 368, 3) := by decide +kernel
theorem dX9_stepGoes_102 : decode cX9_stepGoes 102 = .ok (.if_icmp .eq 10, 3) := by decide +kernel
theorem dX9_stepGoes_105 : decode cX9_stepGoes 105 = .ok (.aload_n 0, 1) := by decide +kernel
theorem dX9_stepGoes_106 : decode cX9_stepGoes 106 = .ok (.iload_n 1, 1) := by decide +kernel
theorem dX9_stepGoes_107 : decode cX9_stepGoes 107 = .ok (.iload_n 2, 1) := by decide +kernel
theorem dX9_stepGoes_108 : decode cX9_stepGoes 108 = .ok (.iload_n 3, 1) := by decide +kernel
theorem dX9_stepGoes_109 : decode cX9_stepGoes 109 = .ok (.invokevirtual 449, 3) := by decide +kernel
theorem dX9_stepGoes_112 : decode cX9_stepGoes 112 = .ok (.iconst 0, 1) := by decide +kernel
theorem dX9_stepGoes_113 : decode cX9_stepGoes 113 = .ok (.istore_n 3, 1) := by decide +kernel
theorem dX9_stepGoes_114 : decode cX9_stepGoes 114 = .ok (.iload_n 3, 1) := by decide +kernel
theorem dX9_stepGoes_115 : decode cX9_stepGoes 115 = .ok (.aload_n 0, 1) := by decide +kernel
theorem dX9_stepGoes_116 : decode cX9_stepGoes 116 = .ok (.getfield 219, 3) := by decide +kernel
theorem dX9_stepGoes_119 : decode cX9_stepGoes 119 = .ok (.if_icmp .ge 44, 3) := by decide +kernel
theorem dX9_stepGoes_122 : decode cX9_stepGoes 122 = .ok (.aload_n 0, 1) := by decide +kernel
theorem dX9_stepGoes_123 : decode cX9_stepGoes 123 = .ok (.iload_n 1, 1) := by decide +kernel
theorem dX9_stepGoes_124 : decode cX9_stepGoes 124 = .ok (.iload_n 3, 1) := by decide +kernel
theorem dX9_stepGoes_125 : decode cX9_stepGoes 125 = .ok (.invokevirtual 386, 3) := by decide +kernel
theorem dX9_stepGoes_128 : decode cX9_stepGoes 128 = .ok (.ifCond .eq 29, 3) := by decide +kernel
theorem dX9_stepGoes_131 : decode cX9_stepGoes 131 = .ok (.aload_n 0, 1) := by decide +kernel
theorem dX9_stepGoes_132 : decode cX9_stepGoes 132 = .ok (.getfield 91, 3) := by decide +kernel
theorem dX9_stepGoes_135 : decode cX9_stepGoes 135 = .ok (.bipush 6, 2) := by decide +kernel
theorem dX9_stepGoes_137 : decode cX9_stepGoes 137 = .ok (.iload_n 1, 1) := by decide +kernel
theorem dX9_stepGoes_138 : decode cX9_stepGoes 138 = .ok (.imul, 1) := by decide +kernel
theorem dX9_stepGoes_139 : decode cX9_stepGoes 139 = .ok (.iload_n 3, 1) := by decide +kernel
theorem dX9_stepGoes_140 : decode cX9_stepGoes 140 = .ok (.iadd, 1) := by decide +kernel
theorem dX9_stepGoes_141 : decode cX9_stepGoes 141 = .ok (.dup2, 1) := by decide +kernel
theorem dX9_stepGoes_142 : decode cX9_stepGoes 142 = .ok (.iaload, 1) := by decide +kernel
theorem dX9_stepGoes_143 : decode cX9_stepGoes 143 = .ok (.aload_n 0, 1) := by decide +kernel
theorem dX9_stepGoes_144 : decode cX9_stepGoes 144 = .ok (.invokevirtual 452, 3) := by decide +kernel
theorem dX9_stepGoes_147 : decode cX9_stepGoes 147 = .ok (.ifCond .eq 7, 3) := by decide +kernel
theorem dX9_stepGoes_150 : decode cX9_stepGoes 150 = .ok (.iconst 3, 1) := by decide +kernel
theorem dX9_stepGoes_151 : decode cX9_stepGoes 151 = .ok (.goto 4, 3) := by decide +kernel
theorem dX9_stepGoes_154 : decode cX9_stepGoes 154 = .ok (.iconst 1, 1) := by decide +kernel
theorem dX9_stepGoes_155 : decode cX9_stepGoes 155 = .ok (.iadd, 1) := by decide +kernel
theorem dX9_stepGoes_156 : decode cX9_stepGoes 156 = .ok (.iastore, 1) := by decide +kernel
theorem dX9_stepGoes_157 : decode cX9_stepGoes 157 = .ok (.iinc 3 1, 3) := by decide +kernel
theorem dX9_stepGoes_160 : decode cX9_stepGoes 160 = .ok (.goto (-46), 3) := by decide +kernel
theorem dX9_stepGoes_163 : decode cX9_stepGoes 163 = .ok (.iconst 0, 1) := by decide +kernel
theorem dX9_stepGoes_164 : decode cX9_stepGoes 164 = .ok (.istore_n 3, 1) := by decide +kernel
theorem dX9_stepGoes_165 : decode cX9_stepGoes 165 = .ok (.iload_n 3, 1) := by decide +kernel
theorem dX9_stepGoes_166 : decode cX9_stepGoes 166 = .ok (.aload_n 0, 1) := by decide +kernel
theorem dX9_stepGoes_167 : decode cX9_stepGoes 167 = .ok (.getfield 219, 3) := by decide +kernel
theorem dX9_stepGoes_170 : decode cX9_stepGoes 170 = .ok (.if_icmp .ge 46, 3) := by decide +kernel
theorem dX9_stepGoes_173 : decode cX9_stepGoes 173 = .ok (.aload_n 0, 1) := by decide +kernel
theorem dX9_stepGoes_174 : decode cX9_stepGoes 174 = .ok (.iload_n 1, 1) := by decide +kernel
theorem dX9_stepGoes_175 : decode cX9_stepGoes 175 = .ok (.iload_n 3, 1) := by decide +kernel
theorem dX9_stepGoes_176 : decode cX9_stepGoes 176 = .ok (.invokevirtual 386, 3) := by decide +kernel
theorem dX9_stepGoes_179 : decode cX9_stepGoes 179 = .ok (.ifCond .eq 31, 3) := by decide +kernel
theorem dX9_stepGoes_182 : decode cX9_stepGoes 182 = .ok (.aload_n 0, 1) := by decide +kernel
theorem dX9_stepGoes_183 : decode cX9_stepGoes 183 = .ok (.getfield 91, 3) := by decide +kernel
theorem dX9_stepGoes_186 : decode cX9_stepGoes 186 = .ok (.bipush 6, 2) := by decide +kernel
theorem dX9_stepGoes_188 : decode cX9_stepGoes 188 = .ok (.iload_n 1, 1) := by decide +kernel
theorem dX9_stepGoes_189 : decode cX9_stepGoes 189 = .ok (.imul, 1) := by decide +kernel
theorem dX9_stepGoes_190 : decode cX9_stepGoes 190 = .ok (.iload_n 3, 1) := by decide +kernel
theorem dX9_stepGoes_191 : decode cX9_stepGoes 191 = .ok (.iadd, 1) := by decide +kernel
theorem dX9_stepGoes_192 : decode cX9_stepGoes 192 = .ok (.iaload, 1) := by decide +kernel
theorem dX9_stepGoes_193 : decode cX9_stepGoes 193 = .ok (.bipush 99, 2) := by decide +kernel
theorem dX9_stepGoes_195 : decode cX9_stepGoes 195 = .ok (.if_icmp .lt 15, 3) := by decide +kernel
theorem dX9_stepGoes_198 : decode cX9_stepGoes 198 = .ok (.aload_n 0, 1) := by decide +kernel
theorem dX9_stepGoes_199 : decode cX9_stepGoes 199 = .ok (.getfield 97, 3) := by decide +kernel
theorem dX9_stepGoes_202 : decode cX9_stepGoes 202 = .ok (.bipush 6, 2) := by decide +kernel
theorem dX9_stepGoes_204 : decode cX9_stepGoes 204 = .ok (.iload_n 1, 1) := by decide +kernel
theorem dX9_stepGoes_205 : decode cX9_stepGoes 205 = .ok (.imul, 1) := by decide +kernel
theorem dX9_stepGoes_206 : decode cX9_stepGoes 206 = .ok (.iload_n 3, 1) := by decide +kernel
theorem dX9_stepGoes_207 : decode cX9_stepGoes 207 = .ok (.iadd, 1) := by decide +kernel
theorem dX9_stepGoes_208 : decode cX9_stepGoes 208 = .ok (.iconst 0, 1) := by decide +kernel
theorem dX9_stepGoes_209 : decode cX9_stepGoes 209 = .ok (.bastore, 1) := by decide +kernel
theorem dX9_stepGoes_210 : decode cX9_stepGoes 210 = .ok (.iinc 3 1, 3) := by decide +kernel
theorem dX9_stepGoes_213 : decode cX9_stepGoes 213 = .ok (.goto (-48), 3) := by decide +kernel
theorem dX9_stepGoes_216 : decode cX9_stepGoes 216 = .ok (.aload_n 0, 1) := by decide +kernel
theorem dX9_stepGoes_217 : decode cX9_stepGoes 217 = .ok (.getfield 112, 3) := by decide +kernel
theorem dX9_stepGoes_220 : decode cX9_stepGoes 220 = .ok (.iload_n 1, 1) := by decide +kernel
theorem dX9_stepGoes_221 : decode cX9_stepGoes 221 = .ok (.dup2, 1) := by decide +kernel
theorem dX9_stepGoes_222 : decode cX9_stepGoes 222 = .ok (.iaload, 1) := by decide +kernel
theorem dX9_stepGoes_223 : decode cX9_stepGoes 223 = .ok (.iconst 1, 1) := by decide +kernel
theorem dX9_stepGoes_224 : decode cX9_stepGoes 224 = .ok (.iadd, 1) := by decide +kernel
theorem dX9_stepGoes_225 : decode cX9_stepGoes 225 = .ok (.iastore, 1) := by decide +kernel
theorem dX9_stepGoes_226 : decode cX9_stepGoes 226 = .ok (.return_, 1) := by decide +kernel
theorem dX9_goMany_0 : decode cX9_goMany 0 = .ok (.iconst 0, 1) := by decide +kernel
theorem dX9_goMany_1 : decode cX9_goMany 1 = .ok (.istore_n 2, 1) := by decide +kernel
theorem dX9_goMany_2 : decode cX9_goMany 2 = .ok (.iload_n 2, 1) := by decide +kernel
theorem dX9_goMany_3 : decode cX9_goMany 3 = .ok (.iload_n 1, 1) := by decide +kernel
theorem dX9_goMany_4 : decode cX9_goMany 4 = .ok (.if_icmp .ge 14, 3) := by decide +kernel
theorem dX9_goMany_7 : decode cX9_goMany 7 = .ok (.aload_n 0, 1) := by decide +kernel
theorem dX9_goMany_8 : decode cX9_goMany 8 = .ok (.iconst 1, 1) := by decide +kernel
theorem dX9_goMany_9 : decode cX9_goMany 9 = .ok (.invokevirtual 455, 3) := by decide +kernel
theorem dX9_goMany_12 : decode cX9_goMany 12 = .ok (.iinc 2 1, 3) := by decide +kernel
theorem dX9_goMany_15 : decode cX9_goMany 15 = .ok (.goto (-13), 3) := by decide +kernel
theorem dX9_goMany_18 : decode cX9_goMany 18 = .ok (.return_, 1) := by decide +kernel
theorem dX9_bitesAll_0 : decode cX9_bitesAll 0 = .ok (.iconst 0, 1) := by decide +kernel
theorem dX9_bitesAll_1 : decode cX9_bitesAll 1 = .ok (.istore_n 2, 1) := by decide +kernel
theorem dX9_bitesAll_2 : decode cX9_bitesAll 2 = .ok (.iconst 0, 1) := by decide +kernel
theorem dX9_bitesAll_3 : decode cX9_bitesAll 3 = .ok (.istore_n 3, 1) := by decide +kernel
theorem dX9_bitesAll_4 : decode cX9_bitesAll 4 = .ok (.iload_n 3, 1) := by decide +kernel
theorem dX9_bitesAll_5 : decode cX9_bitesAll 5 = .ok (.aload_n 0, 1) := by decide +kernel
theorem dX9_bitesAll_6 : decode cX9_bitesAll 6 = .ok (.getfield 219, 3) := by decide +kernel
theorem dX9_bitesAll_9 : decode cX9_bitesAll 9 = .ok (.if_icmp .ge 23, 3) := by decide +kernel
theorem dX9_bitesAll_12 : decode cX9_bitesAll 12 = .ok (.iload_n 2, 1) := by decide +kernel
theorem dX9_bitesAll_13 : decode cX9_bitesAll 13 = .ok (.aload_n 0, 1) := by decide +kernel
theorem dX9_bitesAll_14 : decode cX9_bitesAll 14 = .ok (.getfield 100, 3) := by decide +kernel
theorem dX9_bitesAll_17 : decode cX9_bitesAll 17 = .ok (.bipush 6, 2) := by decide +kernel
theorem dX9_bitesAll_19 : decode cX9_bitesAll 19 = .ok (.iload_n 1, 1) := by decide +kernel
theorem dX9_bitesAll_20 : decode cX9_bitesAll 20 = .ok (.imul, 1) := by decide +kernel
theorem dX9_bitesAll_21 : decode cX9_bitesAll 21 = .ok (.iload_n 3, 1) := by decide +kernel
theorem dX9_bitesAll_22 : decode cX9_bitesAll 22 = .ok (.iadd, 1) := by decide +kernel
theorem dX9_bitesAll_23 : decode cX9_bitesAll 23 = .ok (.iaload, 1) := by decide +kernel
theorem dX9_bitesAll_24 : decode cX9_bitesAll 24 = .ok (.iadd, 1) := by decide +kernel
theorem dX9_bitesAll_25 : decode cX9_bitesAll 25 = .ok (.istore_n 2, 1) := by decide +kernel
theorem dX9_bitesAll_26 : decode cX9_bitesAll 26 = .ok (.iinc 3 1, 3) := by decide +kernel
theorem dX9_bitesAll_29 : decode cX9_bitesAll 29 = .ok (.goto (-25), 3) := by decide +kernel
theorem dX9_bitesAll_32 : decode cX9_bitesAll 32 = .ok (.iload_n 2, 1) := by decide +kernel
theorem dX9_bitesAll_33 : decode cX9_bitesAll 33 = .ok (.ireturn, 1) := by decide +kernel
theorem dX9_fainted_0 : decode cX9_fainted 0 = .ok (.iconst 0, 1) := by decide +kernel
theorem dX9_fainted_1 : decode cX9_fainted 1 = .ok (.istore_n 2, 1) := by decide +kernel
theorem dX9_fainted_2 : decode cX9_fainted 2 = .ok (.iconst 0, 1) := by decide +kernel
theorem dX9_fainted_3 : decode cX9_fainted 3 = .ok (.istore_n 3, 1) := by decide +kernel
theorem dX9_fainted_4 : decode cX9_fainted 4 = .ok (.iload_n 3, 1) := by decide +kernel
theorem dX9_fainted_5 : decode cX9_fainted 5 = .ok (.aload_n 0, 1) := by decide +kernel
theorem dX9_fainted_6 : decode cX9_fainted 6 = .ok (.getfield 219, 3) := by decide +kernel
theorem dX9_fainted_9 : decode cX9_fainted 9 = .ok (.if_icmp .ge 31, 3) := by decide +kernel
theorem dX9_fainted_12 : decode cX9_fainted 12 = .ok (.iload_n 2, 1) := by decide +kernel
theorem dX9_fainted_13 : decode cX9_fainted 13 = .ok (.aload_n 0, 1) := by decide +kernel
theorem dX9_fainted_14 : decode cX9_fainted 14 = .ok (.getfield 97, 3) := by decide +kernel
theorem dX9_fainted_17 : decode cX9_fainted 17 = .ok (.bipush 6, 2) := by decide +kernel
theorem dX9_fainted_19 : decode cX9_fainted 19 = .ok (.iload_n 1, 1) := by decide +kernel
theorem dX9_fainted_20 : decode cX9_fainted 20 = .ok (.imul, 1) := by decide +kernel
theorem dX9_fainted_21 : decode cX9_fainted 21 = .ok (.iload_n 3, 1) := by decide +kernel
theorem dX9_fainted_22 : decode cX9_fainted 22 = .ok (.iadd, 1) := by decide +kernel
theorem dX9_fainted_23 : decode cX9_fainted 23 = .ok (.baload, 1) := by decide +kernel
theorem dX9_fainted_24 : decode cX9_fainted 24 = .ok (.ifCond .eq 7, 3) := by decide +kernel
theorem dX9_fainted_27 : decode cX9_fainted 27 = .ok (.iconst 0, 1) := by decide +kernel
theorem dX9_fainted_28 : decode cX9_fainted 28 = .ok (.goto 4, 3) := by decide +kernel
theorem dX9_fainted_31 : decode cX9_fainted 31 = .ok (.iconst 1, 1) := by decide +kernel
theorem dX9_fainted_32 : decode cX9_fainted 32 = .ok (.iadd, 1) := by decide +kernel
theorem dX9_fainted_33 : decode cX9_fainted 33 = .ok (.istore_n 2, 1) := by decide +kernel
theorem dX9_fainted_34 : decode cX9_fainted 34 = .ok (.iinc 3 1, 3) := by decide +kernel
theorem dX9_fainted_37 : decode cX9_fainted 37 = .ok (.goto (-33), 3) := by decide +kernel
theorem dX9_fainted_40 : decode cX9_fainted 40 = .ok (.iload_n 2, 1) := by decide +kernel
theorem dX9_fainted_41 : decode cX9_fainted 41 = .ok (.ireturn, 1) := by decide +kernel
theorem dX9_fedAll_0 : decode cX9_fedAll 0 = .ok (.iconst 0, 1) := by decide +kernel
theorem dX9_fedAll_1 : decode cX9_fedAll 1 = .ok (.istore_n 2, 1) := by decide +kernel
theorem dX9_fedAll_2 : decode cX9_fedAll 2 = .ok (.iconst 0, 1) := by decide +kernel
theorem dX9_fedAll_3 : decode cX9_fedAll 3 = .ok (.istore_n 3, 1) := by decide +kernel
theorem dX9_fedAll_4 : decode cX9_fedAll 4 = .ok (.iload_n 3, 1) := by decide +kernel
theorem dX9_fedAll_5 : decode cX9_fedAll 5 = .ok (.aload_n 0, 1) := by decide +kernel
theorem dX9_fedAll_6 : decode cX9_fedAll 6 = .ok (.getfield 222, 3) := by decide +kernel
theorem dX9_fedAll_9 : decode cX9_fedAll 9 = .ok (.if_icmp .ge 23, 3) := by decide +kernel
theorem dX9_fedAll_12 : decode cX9_fedAll 12 = .ok (.iload_n 2, 1) := by decide +kernel
theorem dX9_fedAll_13 : decode cX9_fedAll 13 = .ok (.aload_n 0, 1) := by decide +kernel
theorem dX9_fedAll_14 : decode cX9_fedAll 14 = .ok (.getfield 109, 3) := by decide +kernel
theorem dX9_fedAll_17 : decode cX9_fedAll 17 = .ok (.bipush 8, 2) := by decide +kernel
theorem dX9_fedAll_19 : decode cX9_fedAll 19 = .ok (.iload_n 1, 1) := by decide +kernel
theorem dX9_fedAll_20 : decode cX9_fedAll 20 = .ok (.imul, 1) := by decide +kernel
theorem dX9_fedAll_21 : decode cX9_fedAll 21 = .ok (.iload_n 3, 1) := by decide +kernel
theorem dX9_fedAll_22 : decode cX9_fedAll 22 = .ok (.iadd, 1) := by decide +kernel
theorem dX9_fedAll_23 : decode cX9_fedAll 23 = .ok (.iaload, 1) := by decide +kernel
theorem dX9_fedAll_24 : decode cX9_fedAll 24 = .ok (.iadd, 1) := by decide +kernel
theorem dX9_fedAll_25 : decode cX9_fedAll 25 = .ok (.istore_n 2, 1) := by decide +kernel
theorem dX9_fedAll_26 : decode cX9_fedAll 26 = .ok (.iinc 3 1, 3) := by decide +kernel
theorem dX9_fedAll_29 : decode cX9_fedAll 29 = .ok (.goto (-25), 3) := by decide +kernel
theorem dX9_fedAll_32 : decode cX9_fedAll 32 = .ok (.iload_n 2, 1) := by decide +kernel
theorem dX9_fedAll_33 : decode cX9_fedAll 33 = .ok (.ireturn, 1) := by decide +kernel
theorem dX9_fails_0 : decode cX9_fails 0 = .ok (.aload_n 0, 1) := by decide +kernel
theorem dX9_fails_1 : decode cX9_fails 1 = .ok (.iload_n 1, 1) := by decide +kernel
theorem dX9_fails_2 : decode cX9_fails 2 = .ok (.putfield 142, 3) := by decide +kernel
theorem dX9_fails_5 : decode cX9_fails 5 = .ok (.iconst 0, 1) := by decide +kernel
theorem dX9_fails_6 : decode cX9_fails 6 = .ok (.ireturn, 1) := by decide +kernel
theorem dX9_hearing_0 : decode cX9_hearing 0 = .ok (.iconst 0, 1) := by decide +kernel
theorem dX9_hearing_1 : decode cX9_hearing 1 = .ok (.istore_n 3, 1) := by decide +kernel
theorem dX9_hearing_2 : decode cX9_hearing 2 = .ok (.iconst 0, 1) := by decide +kernel
theorem dX9_hearing_3 : decode cX9_hearing 3 = .ok (.istore 4, 2) := by decide +kernel
theorem dX9_hearing_5 : decode cX9_hearing 5 = .ok (.iload 4, 2) := by decide +kernel
theorem dX9_hearing_7 : decode cX9_hearing 7 = .ok (.aload_n 0, 1) := by decide +kernel
theorem dX9_hearing_8 : decode cX9_hearing 8 = .ok (.getfield 219, 3) := by decide +kernel
theorem dX9_hearing_11 : decode cX9_hearing 11 = .ok (.if_icmp .ge 31, 3) := by decide +kernel
theorem dX9_hearing_14 : decode cX9_hearing 14 = .ok (.iload_n 3, 1) := by decide +kernel
theorem dX9_hearing_15 : decode cX9_hearing 15 = .ok (.aload_n 0, 1) := by decide +kernel
theorem dX9_hearing_16 : decode cX9_hearing 16 = .ok (.iload_n 1, 1) := by decide +kernel
theorem dX9_hearing_17 : decode cX9_hearing 17 = .ok (.iload 4, 2) := by decide +kernel
theorem dX9_hearing_19 : decode cX9_hearing 19 = .ok (.iload_n 2, 1) := by decide +kernel
theorem dX9_hearing_20 : decode cX9_hearing 20 = .ok (.invokevirtual 431, 3) := by decide +kernel
theorem dX9_hearing_23 : decode cX9_hearing 23 = .ok (.ifCond .eq 10, 3) := by decide +kernel
theorem dX9_hearing_26 : decode cX9_hearing 26 = .ok (.iconst 1, 1) := by decide +kernel
theorem dX9_hearing_27 : decode cX9_hearing 27 = .ok (.iload 4, 2) := by decide +kernel
theorem dX9_hearing_29 : decode cX9_hearing 29 = .ok (.ishl, 1) := by decide +kernel
theorem dX9_hearing_30 : decode cX9_hearing 30 = .ok (.goto 4, 3) := by decide +kernel
theorem dX9_hearing_33 : decode cX9_hearing 33 = .ok (.iconst 0, 1) := by decide +kernel
theorem dX9_hearing_34 : decode cX9_hearing 34 = .ok (.ior, 1) := by decide +kernel
theorem dX9_hearing_35 : decode cX9_hearing 35 = .ok (.istore_n 3, 1) := by decide +kernel
theorem dX9_hearing_36 : decode cX9_hearing 36 = .ok (.iinc 4 1, 3) := by decide +kernel
theorem dX9_hearing_39 : decode cX9_hearing 39 = .ok (.goto (-34), 3) := by decide +kernel
theorem dX9_hearing_42 : decode cX9_hearing 42 = .ok (.iload_n 3, 1) := by decide +kernel
theorem dX9_hearing_43 : decode cX9_hearing 43 = .ok (.ireturn, 1) := by decide +kernel
theorem dX9_guest_0 : decode cX9_guest 0 = .ok (.aload_n 0, 1) := by decide +kernel
theorem dX9_guest_1 : decode cX9_guest 1 = .ok (.iconst 0, 1) := by decide +kernel
theorem dX9_guest_2 : decode cX9_guest 2 = .ok (.putfield 142, 3) := by decide +kernel
theorem dX9_guest_5 : decode cX9_guest 5 = .ok (.aload_n 0, 1) := by decide +kernel
theorem dX9_guest_6 : decode cX9_guest 6 = .ok (.iload_n 1, 1) := by decide +kernel
theorem dX9_guest_7 : decode cX9_guest 7 = .ok (.invokevirtual 380, 3) := by decide +kernel
theorem dX9_guest_10 : decode cX9_guest 10 = .ok (.ifCond .ne 9, 3) := by decide +kernel
theorem dX9_guest_13 : decode cX9_guest 13 = .ok (.aload_n 0, 1) := by decide +kernel
theorem dX9_guest_14 : decode cX9_guest 14 = .ok (.iconst 1, 1) := by decide +kernel
theorem dX9_guest_15 : decode cX9_guest 15 = .ok (.invokevirtual 458, 3) := by decide +kernel
theorem dX9_guest_18 : decode cX9_guest 18 = .ok (.ireturn, 1) := by decide +kernel
theorem dX9_guest_19 : decode cX9_guest 19 = .ok (.aload_n 0, 1) := by decide +kernel
theorem dX9_guest_20 : decode cX9_guest 20 = .ok (.invokevirtual 341, 3) := by decide +kernel
theorem dX9_guest_23 : decode cX9_guest 23 = .ok (.iload_n 2, 1) := by decide +kernel
theorem dX9_guest_24 : decode cX9_guest 24 = .ok (.tableswitch 101 0 6 #[44, 51, 58, 65, 72, 87, 94], 44) := by decide +kernel
theorem dX9_guest_68 : decode cX9_guest 68 = .ok (.aload_n 0, 1) := by decide +kernel
theorem dX9_guest_69 : decode cX9_guest 69 = .ok (.getfield 88, 3) := by decide +kernel
theorem dX9_guest_72 : decode cX9_guest 72 = .ok (.iload_n 1, 1) := by decide +kernel
theorem dX9_guest_73 : decode cX9_guest 73 = .ok (.iaload, 1) := by decide +kernel
theorem dX9_guest_74 : decode cX9_guest 74 = .ok (.ireturn, 1) := by decide +kernel
theorem dX9_guest_75 : decode cX9_guest 75 = .ok (.aload_n 0, 1) := by decide +kernel
theorem dX9_guest_76 : decode cX9_guest 76 = .ok (.getfield 91, 3) := by decide +kernel
theorem dX9_guest_79 : decode cX9_guest 79 = .ok (.iload_n 1, 1) := by decide +kernel
theorem dX9_guest_80 : decode cX9_guest 80 = .ok (.iaload, 1) := by decide +kernel
theorem dX9_guest_81 : decode cX9_guest 81 = .ok (.ireturn, 1) := by decide +kernel
theorem dX9_guest_82 : decode cX9_guest 82 = .ok (.aload_n 0, 1) := by decide +kernel
theorem dX9_guest_83 : decode cX9_guest 83 = .ok (.getfield 36, 3) := by decide +kernel
theorem dX9_guest_86 : decode cX9_guest 86 = .ok (.iload_n 1, 1) := by decide +kernel
theorem dX9_guest_87 : decode cX9_guest 87 = .ok (.iaload, 1) := by decide +kernel
theorem dX9_guest_88 : decode cX9_guest 88 = .ok (.ireturn, 1) := by decide +kernel
theorem dX9_guest_89 : decode cX9_guest 89 = .ok (.aload_n 0, 1) := by decide +kernel
theorem dX9_guest_90 : decode cX9_guest 90 = .ok (.getfield 94, 3) := by decide +kernel
theorem dX9_guest_93 : decode cX9_guest 93 = .ok (.iload_n 1, 1) := by decide +kernel
theorem dX9_guest_94 : decode cX9_guest 94 = .ok (.iaload, 1) := by decide +kernel
theorem dX9_guest_95 : decode cX9_guest 95 = .ok (.ireturn, 1) := by decide +kernel
theorem dX9_guest_96 : decode cX9_guest 96 = .ok (.aload_n 0, 1) := by decide +kernel
theorem dX9_guest_97 : decode cX9_guest 97 = .ok (.getfield 97, 3) := by decide +kernel
theorem dX9_guest_100 : decode cX9_guest 100 = .ok (.iload_n 1, 1) := by decide +kernel
theorem dX9_guest_101 : decode cX9_guest 101 = .ok (.baload, 1) := by decide +kernel
theorem dX9_guest_102 : decode cX9_guest 102 = .ok (.ifCond .eq 7, 3) := by decide +kernel
theorem dX9_guest_105 : decode cX9_guest 105 = .ok (.iconst 1, 1) := by decide +kernel
theorem dX9_guest_106 : decode cX9_guest 106 = .ok (.goto 4, 3) := by decide +kernel
theorem dX9_guest_109 : decode cX9_guest 109 = .ok (.iconst 0, 1) := by decide +kernel
theorem dX9_guest_110 : decode cX9_guest 110 = .ok (.ireturn, 1) := by decide +kernel
theorem dX9_guest_111 : decode cX9_guest 111 = .ok (.aload_n 0, 1) := by decide +kernel
theorem dX9_guest_112 : decode cX9_guest 112 = .ok (.iconst 0, 1) := by decide +kernel
theorem dX9_guest_113 : decode cX9_guest 113 = .ok (.iload_n 1, 1) := by decide +kernel
theorem dX9_guest_114 : decode cX9_guest 114 = .ok (.invokevirtual 461, 3) := by decide +kernel
theorem dX9_guest_117 : decode cX9_guest 117 = .ok (.ireturn, 1) := by decide +kernel
theorem dX9_guest_118 : decode cX9_guest 118 = .ok (.aload_n 0, 1) := by decide +kernel
theorem dX9_guest_119 : decode cX9_guest 119 = .ok (.getfield 100, 3) := by decide +kernel
theorem dX9_guest_122 : decode cX9_guest 122 = .ok (.iload_n 1, 1) := by decide +kernel
theorem dX9_guest_123 : decode cX9_guest 123 = .ok (.iaload, 1) := by decide +kernel
theorem dX9_guest_124 : decode cX9_guest 124 = .ok (.ireturn, 1) := by decide +kernel
theorem dX9_guest_125 : decode cX9_guest 125 = .ok (.aload_n 0, 1) := by decide +kernel
theorem dX9_guest_126 : decode cX9_guest 126 = .ok (.iconst 2, 1) := by decide +kernel
theorem dX9_guest_127 : decode cX9_guest 127 = .ok (.invokevirtual 458, 3) := by decide +kernel
theorem dX9_guest_130 : decode cX9_guest 130 = .ok (.ireturn, 1) := by decide +kernel
theorem dX9_fruit_0 : decode cX9_fruit 0 = .ok (.aload_n 0, 1) := by decide +kernel
theorem dX9_fruit_1 : decode cX9_fruit 1 = .ok (.iconst 0, 1) := by decide +kernel
theorem dX9_fruit_2 : decode cX9_fruit 2 = .ok (.putfield 142, 3) := by decide +kernel
theorem dX9_fruit_5 : decode cX9_fruit 5 = .ok (.aload_n 0, 1) := by decide +kernel
theorem dX9_fruit_6 : decode cX9_fruit 6 = .ok (.iload_n 1, 1) := by decide +kernel
theorem dX9_fruit_7 : decode cX9_fruit 7 = .ok (.invokevirtual 464, 3) := by decide +kernel
theorem dX9_fruit_10 : decode cX9_fruit 10 = .ok (.ifCond .ne 5, 3) := by decide +kernel
theorem dX9_fruit_13 : decode cX9_fruit 13 = .ok (.iconst (-1), 1) := by decide +kernel
theorem dX9_fruit_14 : decode cX9_fruit 14 = .ok (.ireturn, 1) := by decide +kernel
theorem dX9_fruit_15 : decode cX9_fruit 15 = .ok (.iload_n 2, 1) := by decide +kernel
theorem dX9_fruit_16 : decode cX9_fruit 16 = .ok (.tableswitch 79 0 4 #[36, 43, 50, 65, 72], 36) := by decide +kernel
theorem dX9_fruit_52 : decode cX9_fruit 52 = .ok (.aload_n 0, 1) := by decide +kernel
theorem dX9_fruit_53 : decode cX9_fruit 53 = .ok (.getfield 42, 3) := by decide +kernel
theorem dX9_fruit_56 : decode cX9_fruit 56 = .ok (.iload_n 1, 1) := by decide +kernel
theorem dX9_fruit_57 : decode cX9_fruit 57 = .ok (.iaload, 1) := by decide +kernel
theorem dX9_fruit_58 : decode cX9_fruit 58 = .ok (.ireturn, 1) := by decide +kernel
theorem dX9_fruit_59 : decode cX9_fruit 59 = .ok (.aload_n 0, 1) := by decide +kernel
theorem dX9_fruit_60 : decode cX9_fruit 60 = .ok (.getfield 45, 3) := by decide +kernel
theorem dX9_fruit_63 : decode cX9_fruit 63 = .ok (.iload_n 1, 1) := by decide +kernel
theorem dX9_fruit_64 : decode cX9_fruit 64 = .ok (.iaload, 1) := by decide +kernel
theorem dX9_fruit_65 : decode cX9_fruit 65 = .ok (.ireturn, 1) := by decide +kernel
theorem dX9_fruit_66 : decode cX9_fruit 66 = .ok (.aload_n 0, 1) := by decide +kernel
theorem dX9_fruit_67 : decode cX9_fruit 67 = .ok (.getfield 106, 3) := by decide +kernel
theorem dX9_fruit_70 : decode cX9_fruit 70 = .ok (.iload_n 1, 1) := by decide +kernel
theorem dX9_fruit_71 : decode cX9_fruit 71 = .ok (.baload, 1) := by decide +kernel
theorem dX9_fruit_72 : decode cX9_fruit 72 = .ok (.ifCond .eq 7, 3) := by decide +kernel
theorem dX9_fruit_75 : decode cX9_fruit 75 = .ok (.iconst 1, 1) := by decide +kernel
theorem dX9_fruit_76 : decode cX9_fruit 76 = .ok (.goto 4, 3) := by decide +kernel
theorem dX9_fruit_79 : decode cX9_fruit 79 = .ok (.iconst 0, 1) := by decide +kernel
theorem dX9_fruit_80 : decode cX9_fruit 80 = .ok (.ireturn, 1) := by decide +kernel
theorem dX9_fruit_81 : decode cX9_fruit 81 = .ok (.aload_n 0, 1) := by decide +kernel
theorem dX9_fruit_82 : decode cX9_fruit 82 = .ok (.getfield 103, 3) := by decide +kernel
theorem dX9_fruit_85 : decode cX9_fruit 85 = .ok (.iload_n 1, 1) := by decide +kernel
theorem dX9_fruit_86 : decode cX9_fruit 86 = .ok (.iaload, 1) := by decide +kernel
theorem dX9_fruit_87 : decode cX9_fruit 87 = .ok (.ireturn, 1) := by decide +kernel
theorem dX9_fruit_88 : decode cX9_fruit 88 = .ok (.aload_n 0, 1) := by decide +kernel
theorem dX9_fruit_89 : decode cX9_fruit 89 = .ok (.getfield 109, 3) := by decide +kernel
theorem dX9_fruit_92 : decode cX9_fruit 92 = .ok (.iload_n 1, 1) := by decide +kernel
theorem dX9_fruit_93 : decode cX9_fruit 93 = .ok (.iaload, 1) := by decide +kernel
theorem dX9_fruit_94 : decode cX9_fruit 94 = .ok (.ireturn, 1) := by decide +kernel
theorem dX9_fruit_95 : decode cX9_fruit 95 = .ok (.iconst (-1), 1) := by decide +kernel
theorem dX9_fruit_96 : decode cX9_fruit 96 = .ok (.ireturn, 1) := by decide +kernel
theorem dX9_law_0 : decode cX9_law 0 = .ok (.aload_n 0, 1) := by decide +kernel
theorem dX9_law_1 : decode cX9_law 1 = .ok (.iconst 0, 1) := by decide +kernel
theorem dX9_law_2 : decode cX9_law 2 = .ok (.putfield 142, 3) := by decide +kernel
theorem dX9_law_5 : decode cX9_law 5 = .ok (.iload_n 1, 1) := by decide +kernel
theorem dX9_law_6 : decode cX9_law 6 = .ok (.iconst 0, 1) := by decide +kernel
theorem dX9_law_7 : decode cX9_law 7 = .ok (.iconst 2, 1) := by decide +kernel
theorem dX9_law_8 : decode cX9_law 8 = .ok (.invokestatic 187, 3) := by decide +kernel
theorem dX9_law_11 : decode cX9_law 11 = .ok (.ifCond .eq 28, 3) := by decide +kernel
theorem dX9_law_14 : decode cX9_law 14 = .ok (.aload_n 0, 1) := by decide +kernel
theorem dX9_law_15 : decode cX9_law 15 = .ok (.getfield 54, 3) := by decide +kernel
theorem dX9_law_18 : decode cX9_law 18 = .ok (.iload_n 1, 1) := by decide +kernel
theorem dX9_law_19 : decode cX9_law 19 = .ok (.baload, 1) := by decide +kernel
theorem dX9_law_20 : decode cX9_law 20 = .ok (.ifCond .eq 19, 3) := by decide +kernel
theorem dX9_law_23 : decode cX9_law 23 = .ok (.aload_n 0, 1) := by decide +kernel
theorem dX9_law_24 : decode cX9_law 24 = .ok (.iload_n 2, 1) := by decide +kernel
theorem dX9_law_25 : decode cX9_law 25 = .ok (.invokevirtual 380, 3) := by decide +kernel
theorem dX9_law_28 : decode cX9_law 28 = .ok (.ifCond .eq 11, 3) := by decide +kernel
theorem dX9_law_31 : decode cX9_law 31 = .ok (.aload_n 0, 1) := by decide +kernel
theorem dX9_law_32 : decode cX9_law 32 = .ok (.iload_n 3, 1) := by decide +kernel
theorem dX9_law_33 : decode cX9_law 33 = .ok (.invokevirtual 464, 3) := by decide +kernel
theorem dX9_law_36 : decode cX9_law 36 = .ok (.ifCond .ne 7, 3) := by decide +kernel
theorem dX9_law_39 : decode cX9_law 39 = .ok (.ldc2_w 467, 3) := by decide +kernel
theorem dX9_law_42 : decode cX9_law 42 = .ok (.lreturn, 1) := by decide +kernel
theorem dX9_law_43 : decode cX9_law 43 = .ok (.aload_n 0, 1) := by decide +kernel
theorem dX9_law_44 : decode cX9_law 44 = .ok (.invokevirtual 341, 3) := by decide +kernel
theorem dX9_law_47 : decode cX9_law 47 = .ok (.aload_n 0, 1) := by decide +kernel
theorem dX9_law_48 : decode cX9_law 48 = .ok (.iconst 0, 1) := by decide +kernel
theorem dX9_law_49 : decode cX9_law 49 = .ok (.iload_n 2, 1) := by decide +kernel
theorem dX9_law_50 : decode cX9_law 50 = .ok (.iload_n 3, 1) := by decide +kernel
theorem dX9_law_51 : decode cX9_law 51 = .ok (.invokevirtual 404, 3) := by decide +kernel
theorem dX9_law_54 : decode cX9_law 54 = .ok (.aload_n 0, 1) := by decide +kernel
theorem dX9_law_55 : decode cX9_law 55 = .ok (.iload_n 1, 1) := by decide +kernel
theorem dX9_law_56 : decode cX9_law 56 = .ok (.invokevirtual 399, 3) := by decide +kernel
theorem dX9_law_59 : decode cX9_law 59 = .ok (.lstore 4, 2) := by decide +kernel
theorem dX9_law_61 : decode cX9_law 61 = .ok (.aload_n 0, 1) := by decide +kernel
theorem dX9_law_62 : decode cX9_law 62 = .ok (.getfield 315, 3) := by decide +kernel
theorem dX9_law_65 : decode cX9_law 65 = .ok (.ifCond .eq 9, 3) := by decide +kernel
theorem dX9_law_68 : decode cX9_law 68 = .ok (.ldc2_w 467, 3) := by decide +kernel
theorem dX9_law_71 : decode cX9_law 71 = .ok (.goto 5, 3) := by decide +kernel
theorem dX9_law_74 : decode cX9_law 74 = .ok (.lload 4, 2) := by decide +kernel
theorem dX9_law_76 : decode cX9_law 76 = .ok (.lreturn, 1) := by decide +kernel
theorem dX9_areTwo_0 : decode cX9_areTwo 0 = .ok (.aload_n 0, 1) := by decide +kernel
theorem dX9_areTwo_1 : decode cX9_areTwo 1 = .ok (.iload_n 1, 1) := by decide +kernel
theorem dX9_areTwo_2 : decode cX9_areTwo 2 = .ok (.invokevirtual 380, 3) := by decide +kernel
theorem dX9_areTwo_5 : decode cX9_areTwo 5 = .ok (.ifCond .eq 20, 3) := by decide +kernel
theorem dX9_areTwo_8 : decode cX9_areTwo 8 = .ok (.aload_n 0, 1) := by decide +kernel
theorem dX9_areTwo_9 : decode cX9_areTwo 9 = .ok (.iload_n 2, 1) := by decide +kernel
theorem dX9_areTwo_10 : decode cX9_areTwo 10 = .ok (.invokevirtual 380, 3) := by decide +kernel
theorem dX9_areTwo_13 : decode cX9_areTwo 13 = .ok (.ifCond .eq 12, 3) := by decide +kernel
theorem dX9_areTwo_16 : decode cX9_areTwo 16 = .ok (.iload_n 1, 1) := by decide +kernel
theorem dX9_areTwo_17 : decode cX9_areTwo 17 = .ok (.iload_n 2, 1) := by decide +kernel
theorem dX9_areTwo_18 : decode cX9_areTwo 18 = .ok (.if_icmp .eq 7, 3) := by decide +kernel
theorem dX9_areTwo_21 : decode cX9_areTwo 21 = .ok (.iconst 1, 1) := by decide +kernel
theorem dX9_areTwo_22 : decode cX9_areTwo 22 = .ok (.goto 4, 3) := by decide +kernel
theorem dX9_areTwo_25 : decode cX9_areTwo 25 = .ok (.iconst 0, 1) := by decide +kernel
theorem dX9_areTwo_26 : decode cX9_areTwo 26 = .ok (.ireturn, 1) := by decide +kernel
theorem dX9_seat_0 : decode cX9_seat 0 = .ok (.aload_n 0, 1) := by decide +kernel
theorem dX9_seat_1 : decode cX9_seat 1 = .ok (.iconst 0, 1) := by decide +kernel
theorem dX9_seat_2 : decode cX9_seat 2 = .ok (.putfield 142, 3) := by decide +kernel
theorem dX9_seat_5 : decode cX9_seat 5 = .ok (.aload_n 0, 1) := by decide +kernel
theorem dX9_seat_6 : decode cX9_seat 6 = .ok (.iload_n 1, 1) := by decide +kernel
theorem dX9_seat_7 : decode cX9_seat 7 = .ok (.iload_n 2, 1) := by decide +kernel
theorem dX9_seat_8 : decode cX9_seat 8 = .ok (.invokevirtual 469, 3) := by decide +kernel
theorem dX9_seat_11 : decode cX9_seat 11 = .ok (.ifCond .ne 5, 3) := by decide +kernel
theorem dX9_seat_14 : decode cX9_seat 14 = .ok (.iconst 0, 1) := by decide +kernel
theorem dX9_seat_15 : decode cX9_seat 15 = .ok (.ireturn, 1) := by decide +kernel
theorem dX9_seat_16 : decode cX9_seat 16 = .ok (.aload_n 0, 1) := by decide +kernel
theorem dX9_seat_17 : decode cX9_seat 17 = .ok (.invokevirtual 472, 3) := by decide +kernel
theorem dX9_seat_20 : decode cX9_seat 20 = .ok (.aload_n 0, 1) := by decide +kernel
theorem dX9_seat_21 : decode cX9_seat 21 = .ok (.getfield 94, 3) := by decide +kernel
theorem dX9_seat_24 : decode cX9_seat 24 = .ok (.iload_n 1, 1) := by decide +kernel
theorem dX9_seat_25 : decode cX9_seat 25 = .ok (.iaload, 1) := by decide +kernel
theorem dX9_seat_26 : decode cX9_seat 26 = .ok (.istore_n 3, 1) := by decide +kernel
theorem dX9_seat_27 : decode cX9_seat 27 = .ok (.aload_n 0, 1) := by decide +kernel
theorem dX9_seat_28 : decode cX9_seat 28 = .ok (.getfield 94, 3) := by decide +kernel
theorem dX9_seat_31 : decode cX9_seat 31 = .ok (.iload_n 1, 1) := by decide +kernel
theorem dX9_seat_32 : decode cX9_seat 32 = .ok (.aload_n 0, 1) := by decide +kernel
theorem dX9_seat_33 : decode cX9_seat 33 = .ok (.getfield 94, 3) := by decide +kernel
theorem dX9_seat_36 : decode cX9_seat 36 = .ok (.iload_n 2, 1) := by decide +kernel
theorem dX9_seat_37 : decode cX9_seat 37 = .ok (.iaload, 1) := by decide +kernel
theorem dX9_seat_38 : decode cX9_seat 38 = .ok (.iastore, 1) := by decide +kernel
theorem dX9_seat_39 : decode cX9_seat 39 = .ok (.aload_n 0, 1) := by decide +kernel
theorem dX9_seat_40 : decode cX9_seat 40 = .ok (.getfield 94, 3) := by decide +kernel
theorem dX9_seat_43 : decode cX9_seat 43 = .ok (.iload_n 2, 1) := by decide +kernel
theorem dX9_seat_44 : decode cX9_seat 44 = .ok (.iload_n 3, 1) := by decide +kernel
theorem dX9_seat_45 : decode cX9_seat 45 = .ok (.iastore, 1) := by decide +kernel
theorem dX9_seat_46 : decode cX9_seat 46 = .ok (.iconst 1, 1) := by decide +kernel
theorem dX9_seat_47 : decode cX9_seat 47 = .ok (.ireturn, 1) := by decide +kernel
theorem dX9_bread_0 : decode cX9_bread 0 = .ok (.aload_n 0, 1) := by decide +kernel
theorem dX9_bread_1 : decode cX9_bread 1 = .ok (.iconst 0, 1) := by decide +kernel
theorem dX9_bread_2 : decode cX9_bread 2 = .ok (.putfield 142, 3) := by decide +kernel
theorem dX9_bread_5 : decode cX9_bread 5 = .ok (.aload_n 0, 1) := by decide +kernel
theorem dX9_bread_6 : decode cX9_bread 6 = .ok (.iload_n 1, 1) := by decide +kernel
theorem dX9_bread_7 : decode cX9_bread 7 = .ok (.invokevirtual 380, 3) := by decide +kernel
theorem dX9_bread_10 : decode cX9_bread 10 = .ok (.ifCond .eq 22, 3) := by decide +kernel
theorem dX9_bread_13 : decode cX9_bread 13 = .ok (.aload_n 0, 1) := by decide +kernel
theorem dX9_bread_14 : decode cX9_bread 14 = .ok (.getfield 97, 3) := by decide +kernel
theorem dX9_bread_17 : decode cX9_bread 17 = .ok (.iload_n 1, 1) := by decide +kernel
theorem dX9_bread_18 : decode cX9_bread 18 = .ok (.baload, 1) := by decide +kernel
theorem dX9_bread_19 : decode cX9_bread 19 = .ok (.ifCond .eq 13, 3) := by decide +kernel
theorem dX9_bread_22 : decode cX9_bread 22 = .ok (.iload_n 2, 1) := by decide +kernel
theorem dX9_bread_23 : decode cX9_bread 23 = .ok (.iconst 1, 1) := by decide +kernel
theorem dX9_bread_24 : decode cX9_bread 24 = .ok (.bipush 99, 2) := by decide +kernel
theorem dX9_bread_26 : decode cX9_bread 26 = .ok (.invokestatic 187, 3) := by decide +kernel
theorem dX9_bread_29 : decode cX9_bread 29 = .ok (.ifCond .ne 5, 3) := by decide +kernel
theorem dX9_bread_32 : decode cX9_bread 32 = .ok (.iconst (-1), 1) := by decide +kernel
theorem dX9_bread_33 : decode cX9_bread 33 = .ok (.ireturn, 1) := by decide +kernel
theorem dX9_bread_34 : decode cX9_bread 34 = .ok (.aload_n 0, 1) := by decide +kernel
theorem dX9_bread_35 : decode cX9_bread 35 = .ok (.invokevirtual 472, 3) := by decide +kernel
theorem dX9_bread_38 : decode cX9_bread 38 = .ok (.aload_n 0, 1) := by decide +kernel
theorem dX9_bread_39 : decode cX9_bread 39 = .ok (.getfield 91, 3) := by decide +kernel
theorem dX9_bread_42 : decode cX9_bread 42 = .ok (.iload_n 1, 1) := by decide +kernel
theorem dX9_bread_43 : decode cX9_bread 43 = .ok (.aload_n 0, 1) := by decide +kernel
theorem dX9_bread_44 : decode cX9_bread 44 = .ok (.getfield 91, 3) := by decide +kernel
theorem dX9_bread_47 : decode cX9_bread 47 = .ok (.iload_n 1, 1) := by decide +kernel
theorem dX9_bread_48 : decode cX9_bread 48 = .ok (.iaload, 1) := by decide +kernel
theorem dX9_bread_49 : decode cX9_bread 49 = .ok (.iload_n 2, 1) := by decide +kernel
theorem dX9_bread_50 : decode cX9_bread 50 = .ok (.if_icmp .le 14, 3) := by decide +kernel
theorem dX9_bread_53 : decode cX9_bread 53 = .ok (.aload_n 0, 1) := by decide +kernel
theorem dX9_bread_54 : decode cX9_bread 54 = .ok (.getfield 91, 3) := by decide +kernel
theorem dX9_bread_57 : decode cX9_bread 57 = .ok (.iload_n 1, 1) := by decide +kernel
theorem dX9_bread_58 : decode cX9_bread 58 = .ok (.iaload, 1) := by decide +kernel
theorem dX9_bread_59 : decode cX9_bread 59 = .ok (.iload_n 2, 1) := by decide +kernel
theorem dX9_bread_60 : decode cX9_bread 60 = .ok (.isub, 1) := by decide +kernel
theorem dX9_bread_61 : decode cX9_bread 61 = .ok (.goto 4, 3) := by decide +kernel
theorem dX9_bread_64 : decode cX9_bread 64 = .ok (.iconst 0, 1) := by decide +kernel
theorem dX9_bread_65 : decode cX9_bread 65 = .ok (.iastore, 1) := by decide +kernel
theorem dX9_bread_66 : decode cX9_bread 66 = .ok (.aload_n 0, 1) := by decide +kernel
theorem dX9_bread_67 : decode cX9_bread 67 = .ok (.getfield 91, 3) := by decide +kernel
theorem dX9_bread_70 : decode cX9_bread 70 = .ok (.iload_n 1, 1) := by decide +kernel
theorem dX9_bread_71 : decode cX9_bread 71 = .ok (.iaload, 1) := by decide +kernel
theorem dX9_bread_72 : decode cX9_bread 72 = .ok (.ireturn, 1) := by decide +kernel
theorem dX9_wake_0 : decode cX9_wake 0 = .ok (.aload_n 0, 1) := by decide +kernel
theorem dX9_wake_1 : decode cX9_wake 1 = .ok (.iconst 0, 1) := by decide +kernel
theorem dX9_wake_2 : decode cX9_wake 2 = .ok (.putfield 142, 3) := by decide +kernel
theorem dX9_wake_5 : decode cX9_wake 5 = .ok (.aload_n 0, 1) := by decide +kernel
theorem dX9_wake_6 : decode cX9_wake 6 = .ok (.iload_n 1, 1) := by decide +kernel
theorem dX9_wake_7 : decode cX9_wake 7 = .ok (.invokevirtual 380, 3) := by decide +kernel
theorem dX9_wake_10 : decode cX9_wake 10 = .ok (.ifCond .eq 12, 3) := by decide +kernel
theorem dX9_wake_13 : decode cX9_wake 13 = .ok (.aload_n 0, 1) := by decide +kernel
theorem dX9_wake_14 : decode cX9_wake 14 = .ok (.getfield 97, 3) := by decide +kernel
theorem dX9_wake_17 : decode cX9_wake 17 = .ok (.iload_n 1, 1) := by decide +kernel
theorem dX9_wake_18 : decode cX9_wake 18 = .ok (.baload, 1) := by decide +kernel
theorem dX9_wake_19 : decode cX9_wake 19 = .ok (.ifCond .eq 5, 3) := by decide +kernel
theorem dX9_wake_22 : decode cX9_wake 22 = .ok (.iconst 0, 1) := by decide +kernel
theorem dX9_wake_23 : decode cX9_wake 23 = .ok (.ireturn, 1) := by decide +kernel
theorem dX9_wake_24 : decode cX9_wake 24 = .ok (.aload_n 0, 1) := by decide +kernel
theorem dX9_wake_25 : decode cX9_wake 25 = .ok (.invokevirtual 472, 3) := by decide +kernel
theorem dX9_wake_28 : decode cX9_wake 28 = .ok (.aload_n 0, 1) := by decide +kernel
theorem dX9_wake_29 : decode cX9_wake 29 = .ok (.getfield 97, 3) := by decide +kernel
theorem dX9_wake_32 : decode cX9_wake 32 = .ok (.iload_n 1, 1) := by decide +kernel
theorem dX9_wake_33 : decode cX9_wake 33 = .ok (.iconst 1, 1) := by decide +kernel
theorem dX9_wake_34 : decode cX9_wake 34 = .ok (.bastore, 1) := by decide +kernel
theorem dX9_wake_35 : decode cX9_wake 35 = .ok (.aload_n 0, 1) := by decide +kernel
theorem dX9_wake_36 : decode cX9_wake 36 = .ok (.getfield 91, 3) := by decide +kernel
theorem dX9_wake_39 : decode cX9_wake 39 = .ok (.iload_n 1, 1) := by decide +kernel
theorem dX9_wake_40 : decode cX9_wake 40 = .ok (.bipush 50, 2) := by decide +kernel
theorem dX9_wake_42 : decode cX9_wake 42 = .ok (.iastore, 1) := by decide +kernel
theorem dX9_wake_43 : decode cX9_wake 43 = .ok (.iconst 1, 1) := by decide +kernel
theorem dX9_wake_44 : decode cX9_wake 44 = .ok (.ireturn, 1) := by decide +kernel
theorem dX9_go_0 : decode cX9_go 0 = .ok (.aload_n 0, 1) := by decide +kernel
theorem dX9_go_1 : decode cX9_go 1 = .ok (.iconst 0, 1) := by decide +kernel
theorem dX9_go_2 : decode cX9_go 2 = .ok (.putfield 142, 3) := by decide +kernel
theorem dX9_go_5 : decode cX9_go 5 = .ok (.iload_n 1, 1) := by decide +kernel
theorem dX9_go_6 : decode cX9_go 6 = .ok (.iconst 0, 1) := by decide +kernel
theorem dX9_go_7 : decode cX9_go 7 = .ok (.sipush 200, 3) := by decide +kernel
theorem dX9_go_10 : decode cX9_go 10 = .ok (.invokestatic 187, 3) := by decide +kernel
theorem dX9_go_13 : decode cX9_go 13 = .ok (.ifCond .eq 17, 3) := by decide +kernel
theorem dX9_go_16 : decode cX9_go 16 = .ok (.aload_n 0, 1) := by decide +kernel
theorem dX9_go_17 : decode cX9_go 17 = .ok (.getfield 112, 3) := by decide +kernel
theorem dX9_go_20 : decode cX9_go 20 = .ok (.iconst 0, 1) := by decide +kernel
theorem dX9_go_21 : decode cX9_go 21 = .ok (.iaload, 1) := by decide +kernel
theorem dX9_go_22 : decode cX9_go 22 = .ok (.iload_n 1, 1) := by decide +kernel
theorem dX9_go_23 : decode cX9_go 23 = .ok (.iadd, 1) := by decide +kernel
theorem dX9_go_24 : decode cX9_go 24 = .ok (.sipush 9000, 3) := by decide +kernel
theorem dX9_go_27 : decode cX9_go 27 = .ok (.if_icmp .le 5, 3) := by decide +kernel
theorem dX9_go_30 : decode cX9_go 30 = .ok (.iconst (-1), 1) := by decide +kernel
theorem dX9_go_31 : decode cX9_go 31 = .ok (.ireturn, 1) := by decide +kernel
theorem dX9_go_32 : decode cX9_go 32 = .ok (.aload_n 0, 1) := by decide +kernel
theorem dX9_go_33 : decode cX9_go 33 = .ok (.invokevirtual 341, 3) := by decide +kernel
theorem dX9_go_36 : decode cX9_go 36 = .ok (.aload_n 0, 1) := by decide +kernel
theorem dX9_go_37 : decode cX9_go 37 = .ok (.iconst 1, 1) := by decide +kernel
theorem dX9_go_38 : decode cX9_go 38 = .ok (.putfield 353, 3) := by decide +kernel
theorem dX9_go_41 : decode cX9_go 41 = .ok (.iconst 0, 1) := by decide +kernel
theorem dX9_go_42 : decode cX9_go 42 = .ok (.istore_n 2, 1) := by decide +kernel
theorem dX9_go_43 : decode cX9_go 43 = .ok (.iload_n 2, 1) := by decide +kernel
theorem dX9_go_44 : decode cX9_go 44 = .ok (.iload_n 1, 1) := by decide +kernel
theorem dX9_go_45 : decode cX9_go 45 = .ok (.if_icmp .ge 14, 3) := by decide +kernel
theorem dX9_go_48 : decode cX9_go 48 = .ok (.aload_n 0, 1) := by decide +kernel
theorem dX9_go_49 : decode cX9_go 49 = .ok (.iconst 0, 1) := by decide +kernel
theorem dX9_go_50 : decode cX9_go 50 = .ok (.invokevirtual 455, 3) := by decide +kernel
theorem dX9_go_53 : decode cX9_go 53 = .ok (.iinc 2 1, 3) := by decide +kernel
theorem dX9_go_56 : decode cX9_go 56 = .ok (.goto (-13), 3) := by decide +kernel
theorem dX9_go_59 : decode cX9_go 59 = .ok (.aload_n 0, 1) := by decide +kernel
theorem dX9_go_60 : decode cX9_go 60 = .ok (.iconst 0, 1) := by decide +kernel
theorem dX9_go_61 : decode cX9_go 61 = .ok (.putfield 353, 3) := by decide +kernel
theorem dX9_go_64 : decode cX9_go 64 = .ok (.aload_n 0, 1) := by decide +kernel
theorem dX9_go_65 : decode cX9_go 65 = .ok (.iload_n 1, 1) := by decide +kernel
theorem dX9_go_66 : decode cX9_go 66 = .ok (.ifCond .le 7, 3) := by decide +kernel
theorem dX9_go_69 : decode cX9_go 69 = .ok (.iconst 0, 1) := by decide +kernel
theorem dX9_go_70 : decode cX9_go 70 = .ok (.goto 7, 3) := by decide +kernel
theorem dX9_go_73 : decode cX9_go 73 = .ok (.aload_n 0, 1) := by decide +kernel
theorem dX9_go_74 : decode cX9_go 74 = .ok (.getfield 347, 3) := by decide +kernel
theorem dX9_go_77 : decode cX9_go 77 = .ok (.putfield 347, 3) := by decide +kernel
theorem dX9_go_80 : decode cX9_go 80 = .ok (.aload_n 0, 1) := by decide +kernel
theorem dX9_go_81 : decode cX9_go 81 = .ok (.getfield 112, 3) := by decide +kernel
theorem dX9_go_84 : decode cX9_go 84 = .ok (.iconst 0, 1) := by decide +kernel
theorem dX9_go_85 : decode cX9_go 85 = .ok (.iaload, 1) := by decide +kernel
theorem dX9_go_86 : decode cX9_go 86 = .ok (.ireturn, 1) := by decide +kernel
theorem dX9_ahead_0 : decode cX9_ahead 0 = .ok (.aload_n 0, 1) := by decide +kernel
theorem dX9_ahead_1 : decode cX9_ahead 1 = .ok (.iconst 0, 1) := by decide +kernel
theorem dX9_ahead_2 : decode cX9_ahead 2 = .ok (.putfield 142, 3) := by decide +kernel
theorem dX9_ahead_5 : decode cX9_ahead 5 = .ok (.iload_n 1, 1) := by decide +kernel
theorem dX9_ahead_6 : decode cX9_ahead 6 = .ok (.iconst 0, 1) := by decide +kernel
theorem dX9_ahead_7 : decode cX9_ahead 7 = .ok (.sipush 200, 3) := by decide +kernel
theorem dX9_ahead_10 : decode cX9_ahead 10 = .ok (.invokestatic 187, 3) := by decide +kernel
theorem dX9_ahead_13 : decode cX9_ahead 13 = .ok (.ifCond .eq 30, 3) := by decide +kernel
theorem dX9_ahead_16 : decode cX9_ahead 16 = .ok (.iload_n 2, 1) := by decide +kernel
theorem dX9_ahead_17 : decode cX9_ahead 17 = .ok (.iconst 0, 1) := by decide +kernel
theorem dX9_ahead_18 : decode cX9_ahead 18 = .ok (.iconst 4, 1) := by decide +kernel
theorem dX9_ahead_19 : decode cX9_ahead 19 = .ok (.invokestatic 187, 3) := by decide +kernel
theorem dX9_ahead_22 : decode cX9_ahead 22 = .ok (.ifCond .eq 21, 3) := by decide +kernel
theorem dX9_ahead_25 : decode cX9_ahead 25 = .ok (.iload_n 2, 1) := by decide +kernel
theorem dX9_ahead_26 : decode cX9_ahead 26 = .ok (.iconst 2, 1) := by decide +kernel
theorem dX9_ahead_27 : decode cX9_ahead 27 = .ok (.if_icmp .eq 8, 3) := by decide +kernel
theorem dX9_ahead_30 : decode cX9_ahead 30 = .ok (.iload_n 2, 1) := by decide +kernel
theorem dX9_ahead_31 : decode cX9_ahead 31 = .ok (.iconst 3, 1) := by decide +kernel
theorem dX9_ahead_32 : decode cX9_ahead 32 = .ok (.if_icmp .ne 13, 3) := by decide +kernel
theorem dX9_ahead_35 : decode cX9_ahead 35 = .ok (.aload_n 0, 1) := by decide +kernel
theorem dX9_ahead_36 : decode cX9_ahead 36 = .ok (.iload_n 3, 1) := by decide +kernel
theorem dX9_ahead_37 : decode cX9_ahead 37 = .ok (.invokevirtual 380, 3) := by decide +kernel
theorem dX9_ahead_40 : decode cX9_ahead 40 = .ok (.ifCond .ne 5, 3) := by decide +kernel
theorem dX9_ahead_43 : decode cX9_ahead 43 = .ok (.iconst (-1), 1) := by decide +kernel
theorem dX9_ahead_44 : decode cX9_ahead 44 = .ok (.ireturn, 1) := by decide +kernel
theorem dX9_ahead_45 : decode cX9_ahead 45 = .ok (.aload_n 0, 1) := by decide +kernel
theorem dX9_ahead_46 : decode cX9_ahead 46 = .ok (.invokevirtual 475, 3) := by decide +kernel
theorem dX9_ahead_49 : decode cX9_ahead 49 = .ok (.aload_n 0, 1) := by decide +kernel
theorem dX9_ahead_50 : decode cX9_ahead 50 = .ok (.iload_n 1, 1) := by decide +kernel
theorem dX9_ahead_51 : decode cX9_ahead 51 = .ok (.invokevirtual 478, 3) := by decide +kernel
theorem dX9_ahead_54 : decode cX9_ahead 54 = .ok (.iload_n 2, 1) := by decide +kernel
theorem dX9_ahead_55 : decode cX9_ahead 55 = .ok (.tableswitch 73 0 3 #[29, 41, 53, 63], 29) := by decide +kernel
theorem dX9_ahead_84 : decode cX9_ahead 84 = .ok (.aload_n 0, 1) := by decide +kernel
theorem dX9_ahead_85 : decode cX9_ahead 85 = .ok (.iconst 1, 1) := by decide +kernel
theorem dX9_ahead_86 : decode cX9_ahead 86 = .ok (.invokevirtual 481, 3) := by decide +kernel
theorem dX9_ahead_89 : decode cX9_ahead 89 = .ok (.aload_n 0, 1) := by decide +kernel
theorem dX9_ahead_90 : decode cX9_ahead 90 = .ok (.iconst 0, 1) := by decide +kernel
theorem dX9_ahead_91 : decode cX9_ahead 91 = .ok (.invokevirtual 481, 3) := by decide +kernel
theorem dX9_ahead_94 : decode cX9_ahead 94 = .ok (.isub, 1) := by decide +kernel
theorem dX9_ahead_95 : decode cX9_ahead 95 = .ok (.ireturn, 1) := by decide +kernel
theorem dX9_ahead_96 : decode cX9_ahead 96 = .ok (.aload_n 0, 1) := by decide +kernel
theorem dX9_ahead_97 : decode cX9_ahead 97 = .ok (.iconst 1, 1) := by decide +kernel
theorem dX9_ahead_98 : decode cX9_ahead 98 = .ok (.invokevirtual 484, 3) := by decide +kernel
theorem dX9_ahead_101 : decode cX9_ahead 101 = .ok (.aload_n 0, 1) := by decide +kernel
theorem dX9_ahead_102 : decode cX9_ahead 102 = .ok (.iconst 0, 1) := by decide +kernel
theorem dX9_ahead_103 : decode cX9_ahead 103 = .ok (.invokevirtual 484, 3) := by decide +kernel
theorem dX9_ahead_106 : decode cX9_ahead 106 = .ok (.isub, 1) := by decide +kernel
theorem dX9_ahead_107 : decode cX9_ahead 107 = .ok (.ireturn, 1) := by decide +kernel
theorem dX9_ahead_108 : decode cX9_ahead 108 = .ok (.aload_n 0, 1) := by decide +kernel
theorem dX9_ahead_109 : decode cX9_ahead 109 = .ok (.getfield 91, 3) := by decide +kernel
theorem dX9_ahead_112 : decode cX9_ahead 112 = .ok (.bipush 6, 2) := by decide +kernel
theorem dX9_ahead_114 : decode cX9_ahead 114 = .ok (.iload_n 3, 1) := by decide +kernel
theorem dX9_ahead_115 : decode cX9_ahead 115 = .ok (.iadd, 1) := by decide +kernel
theorem dX9_ahead_116 : decode cX9_ahead 116 = .ok (.iaload, 1) := by decide +kernel
theorem dX9_ahead_117 : decode cX9_ahead 117 = .ok (.ireturn, 1) := by decide +kernel
theorem dX9_ahead_118 : decode cX9_ahead 118 = .ok (.aload_n 0, 1) := by decide +kernel
theorem dX9_ahead_119 : decode cX9_ahead 119 = .ok (.getfield 88, 3) := by decide +kernel
theorem dX9_ahead_122 : decode cX9_ahead 122 = .ok (.bipush 6, 2) := by decide +kernel
theorem dX9_ahead_124 : decode cX9_ahead 124 = .ok (.iload_n 3, 1) := by decide +kernel
theorem dX9_ahead_125 : decode cX9_ahead 125 = .ok (.iadd, 1) := by decide +kernel
theorem dX9_ahead_126 : decode cX9_ahead 126 = .ok (.iaload, 1) := by decide +kernel
theorem dX9_ahead_127 : decode cX9_ahead 127 = .ok (.ireturn, 1) := by decide +kernel
theorem dX9_ahead_128 : decode cX9_ahead 128 = .ok (.aload_n 0, 1) := by decide +kernel
theorem dX9_ahead_129 : decode cX9_ahead 129 = .ok (.iconst 1, 1) := by decide +kernel
theorem dX9_ahead_130 : decode cX9_ahead 130 = .ok (.invokevirtual 487, 3) := by decide +kernel
theorem dX9_ahead_133 : decode cX9_ahead 133 = .ok (.aload_n 0, 1) := by decide +kernel
theorem dX9_ahead_134 : decode cX9_ahead 134 = .ok (.iconst 0, 1) := by decide +kernel
theorem dX9_ahead_135 : decode cX9_ahead 135 = .ok (.invokevirtual 487, 3) := by decide +kernel
theorem dX9_ahead_138 : decode cX9_ahead 138 = .ok (.isub, 1) := by decide +kernel
theorem dX9_ahead_139 : decode cX9_ahead 139 = .ok (.ireturn, 1) := by decide +kernel
theorem dX9_swoon_0 : decode cX9_swoon 0 = .ok (.aload_n 0, 1) := by decide +kernel
theorem dX9_swoon_1 : decode cX9_swoon 1 = .ok (.iconst 0, 1) := by decide +kernel
theorem dX9_swoon_2 : decode cX9_swoon 2 = .ok (.putfield 142, 3) := by decide +kernel
theorem dX9_swoon_5 : decode cX9_swoon 5 = .ok (.aload_n 0, 1) := by decide +kernel
theorem dX9_swoon_6 : decode cX9_swoon 6 = .ok (.iload_n 1, 1) := by decide +kernel
theorem dX9_swoon_7 : decode cX9_swoon 7 = .ok (.invokevirtual 380, 3) := by decide +kernel
theorem dX9_swoon_10 : decode cX9_swoon 10 = .ok (.ifCond .ne 5, 3) := by decide +kernel
theorem dX9_swoon_13 : decode cX9_swoon 13 = .ok (.iconst (-1), 1) := by decide +kernel
theorem dX9_swoon_14 : decode cX9_swoon 14 = .ok (.ireturn, 1) := by decide +kernel
theorem dX9_swoon_15 : decode cX9_swoon 15 = .ok (.aload_n 0, 1) := by decide +kernel
theorem dX9_swoon_16 : decode cX9_swoon 16 = .ok (.invokevirtual 475, 3) := by decide +kernel
theorem dX9_swoon_19 : decode cX9_swoon 19 = .ok (.iconst 0, 1) := by decide +kernel
theorem dX9_swoon_20 : decode cX9_swoon 20 = .ok (.istore_n 2, 1) := by decide +kernel
theorem dX9_swoon_21 : decode cX9_swoon 21 = .ok (.iload_n 2, 1) := by decide +kernel
theorem dX9_swoon_22 : decode cX9_swoon 22 = .ok (.sipush 200, 3) := by decide +kernel
theorem dX9_swoon_25 : decode cX9_swoon 25 = .ok (.if_icmp .ge 28, 3) := by decide +kernel
theorem dX9_swoon_28 : decode cX9_swoon 28 = .ok (.aload_n 0, 1) := by decide +kernel
theorem dX9_swoon_29 : decode cX9_swoon 29 = .ok (.getfield 97, 3) := by decide +kernel
theorem dX9_swoon_32 : decode cX9_swoon 32 = .ok (.bipush 6, 2) := by decide +kernel
theorem dX9_swoon_34 : decode cX9_swoon 34 = .ok (.iload_n 1, 1) := by decide +kernel
theorem dX9_swoon_35 : decode cX9_swoon 35 = .ok (.iadd, 1) := by decide +kernel
theorem dX9_swoon_36 : decode cX9_swoon 36 = .ok (.baload, 1) := by decide +kernel
theorem dX9_swoon_37 : decode cX9_swoon 37 = .ok (.ifCond .ne 5, 3) := by decide +kernel
theorem dX9_swoon_40 : decode cX9_swoon 40 = .ok (.iload_n 2, 1) := by decide +kernel
theorem dX9_swoon_41 : decode cX9_swoon 41 = .ok (.ireturn, 1) := by decide +kernel
theorem dX9_swoon_42 : decode cX9_swoon 42 = .ok (.aload_n 0, 1) := by decide +kernel
theorem dX9_swoon_43 : decode cX9_swoon 43 = .ok (.iconst 1, 1) := by decide +kernel
theorem dX9_swoon_44 : decode cX9_swoon 44 = .ok (.invokevirtual 455, 3) := by decide +kernel
theorem dX9_swoon_47 : decode cX9_swoon 47 = .ok (.iinc 2 1, 3) := by decide +kernel
theorem dX9_swoon_50 : decode cX9_swoon 50 = .ok (.goto (-29), 3) := by decide +kernel
theorem dX9_swoon_53 : decode cX9_swoon 53 = .ok (.bipush (-2), 2) := by decide +kernel
theorem dX9_swoon_55 : decode cX9_swoon 55 = .ok (.ireturn, 1) := by decide +kernel
theorem dX9_nextBite_0 : decode cX9_nextBite 0 = .ok (.aload_n 0, 1) := by decide +kernel
theorem dX9_nextBite_1 : decode cX9_nextBite 1 = .ok (.iconst 0, 1) := by decide +kernel
theorem dX9_nextBite_2 : decode cX9_nextBite 2 = .ok (.putfield 142, 3) := by decide +kernel
theorem dX9_nextBite_5 : decode cX9_nextBite 5 = .ok (.iload_n 1, 1) := by decide +kernel
theorem dX9_nextBite_6 : decode cX9_nextBite 6 = .ok (.iconst 0, 1) := by decide +kernel
theorem dX9_nextBite_7 : decode cX9_nextBite 7 = .ok (.iconst 1, 1) := by decide +kernel
theorem dX9_nextBite_8 : decode cX9_nextBite 8 = .ok (.invokestatic 187, 3) := by decide +kernel
theorem dX9_nextBite_11 : decode cX9_nextBite 11 = .ok (.ifCond .ne 5, 3) := by decide +kernel
theorem dX9_nextBite_14 : decode cX9_nextBite 14 = .ok (.iconst (-1), 1) := by decide +kernel
theorem dX9_nextBite_15 : decode cX9_nextBite 15 = .ok (.ireturn, 1) := by decide +kernel
theorem dX9_nextBite_16 : decode cX9_nextBite 16 = .ok (.aload_n 0, 1) := by decide +kernel
theorem dX9_nextBite_17 : decode cX9_nextBite 17 = .ok (.invokevirtual 475, 3) := by decide +kernel
theorem dX9_nextBite_20 : decode cX9_nextBite 20 = .ok (.iconst 1, 1) := by decide +kernel
theorem dX9_nextBite_21 : decode cX9_nextBite 21 = .ok (.istore_n 2, 1) := by decide +kernel
theorem dX9_nextBite_22 : decode cX9_nextBite 22 = .ok (.iload_n 2, 1) := by decide +kernel
theorem dX9_nextBite_23 : decode cX9_nextBite 23 = .ok (.sipush 200, 3) := by decide +kernel
theorem dX9_nextBite_26 : decode cX9_nextBite 26 = .ok (.if_icmp .ge 34, 3) := by decide +kernel
theorem dX9_nextBite_29 : decode cX9_nextBite 29 = .ok (.aload_n 0, 1) := by decide +kernel
theorem dX9_nextBite_30 : decode cX9_nextBite 30 = .ok (.iconst 1, 1) := by decide +kernel
theorem dX9_nextBite_31 : decode cX9_nextBite 31 = .ok (.invokevirtual 455, 3) := by decide +kernel
theorem dX9_nextBite_34 : decode cX9_nextBite 34 = .ok (.aload_n 0, 1) := by decide +kernel
theorem dX9_nextBite_35 : decode cX9_nextBite 35 = .ok (.getfield 425, 3) := by decide +kernel
theorem dX9_nextBite_38 : decode cX9_nextBite 38 = .ok (.ifCond .lt 16, 3) := by decide +kernel
theorem dX9_nextBite_41 : decode cX9_nextBite 41 = .ok (.iload_n 1, 1) := by decide +kernel
theorem dX9_nextBite_42 : decode cX9_nextBite 42 = .ok (.ifCond .ne 7, 3) := by decide +kernel
theorem dX9_nextBite_45 : decode cX9_nextBite 45 = .ok (.iload_n 2, 1) := by decide +kernel
theorem dX9_nextBite_46 : decode cX9_nextBite 46 = .ok (.goto 7, 3) := by decide +kernel
theorem dX9_nextBite_49 : decode cX9_nextBite 49 = .ok (.aload_n 0, 1) := by decide +kernel
theorem dX9_nextBite_50 : decode cX9_nextBite 50 = .ok (.getfield 425, 3) := by decide +kernel
theorem dX9_nextBite_53 : decode cX9_nextBite 53 = .ok (.ireturn, 1) := by decide +kernel
theorem dX9_nextBite_54 : decode cX9_nextBite 54 = .ok (.iinc 2 1, 3) := by decide +kernel
theorem dX9_nextBite_57 : decode cX9_nextBite 57 = .ok (.goto (-35), 3) := by decide +kernel
theorem dX9_nextBite_60 : decode cX9_nextBite 60 = .ok (.bipush (-2), 2) := by decide +kernel
theorem dX9_nextBite_62 : decode cX9_nextBite 62 = .ok (.ireturn, 1) := by decide +kernel
theorem dX9_eatenIn_0 : decode cX9_eatenIn 0 = .ok (.aload_n 0, 1) := by decide +kernel
theorem dX9_eatenIn_1 : decode cX9_eatenIn 1 = .ok (.iconst 0, 1) := by decide +kernel
theorem dX9_eatenIn_2 : decode cX9_eatenIn 2 = .ok (.putfield 142, 3) := by decide +kernel
theorem dX9_eatenIn_5 : decode cX9_eatenIn 5 = .ok (.aload_n 0, 1) := by decide +kernel
theorem dX9_eatenIn_6 : decode cX9_eatenIn 6 = .ok (.iload_n 1, 1) := by decide +kernel
theorem dX9_eatenIn_7 : decode cX9_eatenIn 7 = .ok (.invokevirtual 464, 3) := by decide +kernel
theorem dX9_eatenIn_10 : decode cX9_eatenIn 10 = .ok (.ifCond .ne 5, 3) := by decide +kernel
theorem dX9_eatenIn_13 : decode cX9_eatenIn 13 = .ok (.iconst (-1), 1) := by decide +kernel
theorem dX9_eatenIn_14 : decode cX9_eatenIn 14 = .ok (.ireturn, 1) := by decide +kernel
theorem dX9_eatenIn_15 : decode cX9_eatenIn 15 = .ok (.aload_n 0, 1) := by decide +kernel
theorem dX9_eatenIn_16 : decode cX9_eatenIn 16 = .ok (.invokevirtual 475, 3) := by decide +kernel
theorem dX9_eatenIn_19 : decode cX9_eatenIn 19 = .ok (.iconst 0, 1) := by decide +kernel
theorem dX9_eatenIn_20 : decode cX9_eatenIn 20 = .ok (.istore_n 2, 1) := by decide +kernel
theorem dX9_eatenIn_21 : decode cX9_eatenIn 21 = .ok (.iload_n 2, 1) := by decide +kernel
theorem dX9_eatenIn_22 : decode cX9_eatenIn 22 = .ok (.sipush 200, 3) := by decide +kernel
theorem dX9_eatenIn_25 : decode cX9_eatenIn 25 = .ok (.if_icmp .ge 28, 3) := by decide +kernel
theorem dX9_eatenIn_28 : decode cX9_eatenIn 28 = .ok (.aload_n 0, 1) := by decide +kernel
theorem dX9_eatenIn_29 : decode cX9_eatenIn 29 = .ok (.getfield 106, 3) := by decide +kernel
theorem dX9_eatenIn_32 : decode cX9_eatenIn 32 = .ok (.bipush 8, 2) := by decide +kernel
theorem dX9_eatenIn_34 : decode cX9_eatenIn 34 = .ok (.iload_n 1, 1) := by decide +kernel
theorem dX9_eatenIn_35 : decode cX9_eatenIn 35 = .ok (.iadd, 1) := by decide +kernel
theorem dX9_eatenIn_36 : decode cX9_eatenIn 36 = .ok (.baload, 1) := by decide +kernel
theorem dX9_eatenIn_37 : decode cX9_eatenIn 37 = .ok (.ifCond .eq 5, 3) := by decide +kernel
theorem dX9_eatenIn_40 : decode cX9_eatenIn 40 = .ok (.iload_n 2, 1) := by decide +kernel
theorem dX9_eatenIn_41 : decode cX9_eatenIn 41 = .ok (.ireturn, 1) := by decide +kernel
theorem dX9_eatenIn_42 : decode cX9_eatenIn 42 = .ok (.aload_n 0, 1) := by decide +kernel
theorem dX9_eatenIn_43 : decode cX9_eatenIn 43 = .ok (.iconst 1, 1) := by decide +kernel
theorem dX9_eatenIn_44 : decode cX9_eatenIn 44 = .ok (.invokevirtual 455, 3) := by decide +kernel
theorem dX9_eatenIn_47 : decode cX9_eatenIn 47 = .ok (.iinc 2 1, 3) := by decide +kernel
theorem dX9_eatenIn_50 : decode cX9_eatenIn 50 = .ok (.goto (-29), 3) := by decide +kernel
theorem dX9_eatenIn_53 : decode cX9_eatenIn 53 = .ok (.bipush (-2), 2) := by decide +kernel
theorem dX9_eatenIn_55 : decode cX9_eatenIn 55 = .ok (.ireturn, 1) := by decide +kernel
theorem dX9_hold_0 : decode cX9_hold 0 = .ok (.aload_n 0, 1) := by decide +kernel
theorem dX9_hold_1 : decode cX9_hold 1 = .ok (.iconst 0, 1) := by decide +kernel
theorem dX9_hold_2 : decode cX9_hold 2 = .ok (.putfield 142, 3) := by decide +kernel
theorem dX9_hold_5 : decode cX9_hold 5 = .ok (.aload_n 0, 1) := by decide +kernel
theorem dX9_hold_6 : decode cX9_hold 6 = .ok (.invokevirtual 475, 3) := by decide +kernel
theorem dX9_hold_9 : decode cX9_hold 9 = .ok (.iconst 0, 1) := by decide +kernel
theorem dX9_hold_10 : decode cX9_hold 10 = .ok (.istore_n 1, 1) := by decide +kernel
theorem dX9_hold_11 : decode cX9_hold 11 = .ok (.iload_n 1, 1) := by decide +kernel
theorem dX9_hold_12 : decode cX9_hold 12 = .ok (.sipush 999, 3) := by decide +kernel
theorem dX9_hold_15 : decode cX9_hold 15 = .ok (.if_icmp .gt 24, 3) := by decide +kernel
theorem dX9_hold_18 : decode cX9_hold 18 = .ok (.aload_n 0, 1) := by decide +kernel
theorem dX9_hold_19 : decode cX9_hold 19 = .ok (.iconst 1, 1) := by decide +kernel
theorem dX9_hold_20 : decode cX9_hold 20 = .ok (.invokevirtual 392, 3) := by decide +kernel
theorem dX9_hold_23 : decode cX9_hold 23 = .ok (.ifCond .ne 5, 3) := by decide +kernel
theorem dX9_hold_26 : decode cX9_hold 26 = .ok (.iload_n 1, 1) := by decide +kernel
theorem dX9_hold_27 : decode cX9_hold 27 = .ok (.ireturn, 1) := by decide +kernel
theorem dX9_hold_28 : decode cX9_hold 28 = .ok (.aload_n 0, 1) := by decide +kernel
theorem dX9_hold_29 : decode cX9_hold 29 = .ok (.iconst 1, 1) := by decide +kernel
theorem dX9_hold_30 : decode cX9_hold 30 = .ok (.invokevirtual 455, 3) := by decide +kernel
theorem dX9_hold_33 : decode cX9_hold 33 = .ok (.iinc 1 1, 3) := by decide +kernel
theorem dX9_hold_36 : decode cX9_hold 36 = .ok (.goto (-25), 3) := by decide +kernel
theorem dX9_hold_39 : decode cX9_hold 39 = .ok (.bipush (-2), 2) := by decide +kernel
theorem dX9_hold_41 : decode cX9_hold 41 = .ok (.ireturn, 1) := by decide +kernel
theorem dX9_rowsOf_0 : decode cX9_rowsOf 0 = .ok (.iconst 1, 1) := by decide +kernel
theorem dX9_rowsOf_1 : decode cX9_rowsOf 1 = .ok (.istore_n 1, 1) := by decide +kernel
theorem dX9_rowsOf_2 : decode cX9_rowsOf 2 = .ok (.iconst 2, 1) := by decide +kernel
theorem dX9_rowsOf_3 : decode cX9_rowsOf 3 = .ok (.istore_n 2, 1) := by decide +kernel
theorem dX9_rowsOf_4 : decode cX9_rowsOf 4 = .ok (.iload_n 2, 1) := by decide +kernel
theorem dX9_rowsOf_5 : decode cX9_rowsOf 5 = .ok (.iload_n 0, 1) := by decide +kernel
theorem dX9_rowsOf_6 : decode cX9_rowsOf 6 = .ok (.if_icmp .gt 13, 3) := by decide +kernel
theorem dX9_rowsOf_9 : decode cX9_rowsOf 9 = .ok (.iload_n 1, 1) := by decide +kernel
theorem dX9_rowsOf_10 : decode cX9_rowsOf 10 = .ok (.iload_n 2, 1) := by decide +kernel
theorem dX9_rowsOf_11 : decode cX9_rowsOf 11 = .ok (.imul, 1) := by decide +kernel
theorem dX9_rowsOf_12 : decode cX9_rowsOf 12 = .ok (.istore_n 1, 1) := by decide +kernel
theorem dX9_rowsOf_13 : decode cX9_rowsOf 13 = .ok (.iinc 2 1, 3) := by decide +kernel
theorem dX9_rowsOf_16 : decode cX9_rowsOf 16 = .ok (.goto (-12), 3) := by decide +kernel
theorem dX9_rowsOf_19 : decode cX9_rowsOf 19 = .ok (.iload_n 1, 1) := by decide +kernel
theorem dX9_rowsOf_20 : decode cX9_rowsOf 20 = .ok (.ireturn, 1) := by decide +kernel
theorem dX9_layRow_0 : decode cX9_layRow 0 = .ok (.iload_n 3, 1) := by decide +kernel
theorem dX9_layRow_1 : decode cX9_layRow 1 = .ok (.istore 4, 2) := by decide +kernel
theorem dX9_layRow_3 : decode cX9_layRow 3 = .ok (.iload_n 1, 1) := by decide +kernel
theorem dX9_layRow_4 : decode cX9_layRow 4 = .ok (.istore 5, 2) := by decide +kernel
theorem dX9_layRow_6 : decode cX9_layRow 6 = .ok (.iconst 0, 1) := by decide +kernel
theorem dX9_layRow_7 : decode cX9_layRow 7 = .ok (.istore 6, 2) := by decide +kernel
theorem dX9_layRow_9 : decode cX9_layRow 9 = .ok (.iload 6, 2) := by decide +kernel
theorem dX9_layRow_11 : decode cX9_layRow 11 = .ok (.iload_n 2, 1) := by decide +kernel
theorem dX9_layRow_12 : decode cX9_layRow 12 = .ok (.if_icmp .ge 96, 3) := by decide +kernel
theorem dX9_layRow_15 : decode cX9_layRow 15 = .ok (.iload_n 2, 1) := by decide +kernel
theorem dX9_layRow_16 : decode cX9_layRow 16 = .ok (.iconst 1, 1) := by decide +kernel
theorem dX9_layRow_17 : decode cX9_layRow 17 = .ok (.isub, 1) := by decide +kernel
theorem dX9_layRow_18 : decode cX9_layRow 18 = .ok (.iload 6, 2) := by decide +kernel
theorem dX9_layRow_20 : decode cX9_layRow 20 = .ok (.isub, 1) := by decide +kernel
theorem dX9_layRow_21 : decode cX9_layRow 21 = .ok (.invokestatic 490, 3) := by decide +kernel
theorem dX9_layRow_24 : decode cX9_layRow 24 = .ok (.istore 7, 2) := by decide +kernel
theorem dX9_layRow_26 : decode cX9_layRow 26 = .ok (.iload 5, 2) := by decide +kernel
theorem dX9_layRow_28 : decode cX9_layRow 28 = .ok (.iload 7, 2) := by decide +kernel
theorem dX9_layRow_30 : decode cX9_layRow 30 = .ok (.idiv, 1) := by decide +kernel
theorem dX9_layRow_31 : decode cX9_layRow 31 = .ok (.istore 8, 2) := by decide +kernel
theorem dX9_layRow_33 : decode cX9_layRow 33 = .ok (.iload 5, 2) := by decide +kernel
theorem dX9_layRow_35 : decode cX9_layRow 35 = .ok (.iload 7, 2) := by decide +kernel
theorem dX9_layRow_37 : decode cX9_layRow 37 = .ok (.irem, 1) := by decide +kernel
theorem dX9_layRow_38 : decode cX9_layRow 38 = .ok (.istore 5, 2) := by decide +kernel
theorem dX9_layRow_40 : decode cX9_layRow 40 = .ok (.iconst 0, 1) := by decide +kernel
theorem dX9_layRow_41 : decode cX9_layRow 41 = .ok (.istore 9, 2) := by decide +kernel
theorem dX9_layRow_43 : decode cX9_layRow 43 = .ok (.iload 4, 2) := by decide +kernel
theorem dX9_layRow_45 : decode cX9_layRow 45 = .ok (.iload 9, 2) := by decide +kernel
theorem dX9_layRow_47 : decode cX9_layRow 47 = .ok (.invokestatic 383, 3) := by decide +kernel
theorem dX9_layRow_50 : decode cX9_layRow 50 = .ok (.ifCond .ne 8, 3) := by decide +kernel
theorem dX9_layRow_53 : decode cX9_layRow 53 = .ok (.iload 8, 2) := by decide +kernel
theorem dX9_layRow_55 : decode cX9_layRow 55 = .ok (.ifCond .le 29, 3) := by decide +kernel
theorem dX9_layRow_58 : decode cX9_layRow 58 = .ok (.iload 8, 2) := by decide +kernel
theorem dX9_layRow_60 : decode cX9_layRow 60 = .ok (.iload 4, 2) := by decide +kernel
theorem dX9_layRow_62 : decode cX9_layRow 62 = .ok (.iload 9, 2) := by decide +kernel
theorem dX9_layRow_64 : decode cX9_layRow 64 = .ok (.invokestatic 383, 3) := by decide +kernel
theorem dX9_layRow_67 : decode cX9_layRow 67 = .ok (.ifCond .eq 7, 3) := by decide +kernel
theorem dX9_layRow_70 : decode cX9_layRow 70 = .ok (.iconst 0, 1) := by decide +kernel
theorem dX9_layRow_71 : decode cX9_layRow 71 = .ok (.goto 4, 3) := by decide +kernel
theorem dX9_layRow_74 : decode cX9_layRow 74 = .ok (.iconst 1, 1) := by decide +kernel
theorem dX9_layRow_75 : decode cX9_layRow 75 = .ok (.isub, 1) := by decide +kernel
theorem dX9_layRow_76 : decode cX9_layRow 76 = .ok (.istore 8, 2) := by decide +kernel
theorem dX9_layRow_78 : decode cX9_layRow 78 = .ok (.iinc 9 1, 3) := by decide +kernel
theorem dX9_layRow_81 : decode cX9_layRow 81 = .ok (.goto (-38), 3) := by decide +kernel
theorem dX9_layRow_84 : decode cX9_layRow 84 = .ok (.aload_n 0, 1) := by decide +kernel
theorem dX9_layRow_85 : decode cX9_layRow 85 = .ok (.getfield 115, 3) := by decide +kernel
theorem dX9_layRow_88 : decode cX9_layRow 88 = .ok (.iload 6, 2) := by decide +kernel
theorem dX9_layRow_90 : decode cX9_layRow 90 = .ok (.iload 9, 2) := by decide +kernel
theorem dX9_layRow_92 : decode cX9_layRow 92 = .ok (.iastore, 1) := by decide +kernel
theorem dX9_layRow_93 : decode cX9_layRow 93 = .ok (.iload 4, 2) := by decide +kernel
theorem dX9_layRow_95 : decode cX9_layRow 95 = .ok (.iconst 1, 1) := by decide +kernel
theorem dX9_layRow_96 : decode cX9_layRow 96 = .ok (.iload 9, 2) := by decide +kernel
theorem dX9_layRow_98 : decode cX9_layRow 98 = .ok (.ishl, 1) := by decide +kernel
theorem dX9_layRow_99 : decode cX9_layRow 99 = .ok (.ior, 1) := by decide +kernel
theorem dX9_layRow_100 : decode cX9_layRow 100 = .ok (.istore 4, 2) := by decide +kernel
theorem dX9_layRow_102 : decode cX9_layRow 102 = .ok (.iinc 6 1, 3) := by decide +kernel
theorem dX9_layRow_105 : decode cX9_layRow 105 = .ok (.goto (-96), 3) := by decide +kernel
theorem dX9_layRow_108 : decode cX9_layRow 108 = .ok (.return_, 1) := by decide +kernel
theorem dX9_table_0 : decode cX9_table 0 = .ok (.aload_n 0, 1) := by decide +kernel
theorem dX9_table_1 : decode cX9_table 1 = .ok (.iconst 0, 1) := by decide +kernel
theorem dX9_table_2 : decode cX9_table 2 = .ok (.putfield 142, 3) := by decide +kernel
theorem dX9_table_5 : decode cX9_table 5 = .ok (.iload_n 1, 1) := by decide +kernel
theorem dX9_table_6 : decode cX9_table 6 = .ok (.iconst 0, 1) := by decide +kernel
theorem dX9_table_7 : decode cX9_table 7 = .ok (.bipush 6, 2) := by decide +kernel
theorem dX9_table_9 : decode cX9_table 9 = .ok (.invokestatic 187, 3) := by decide +kernel
theorem dX9_table_12 : decode cX9_table 12 = .ok (.ifCond .ne 5, 3) := by decide +kernel
theorem dX9_table_15 : decode cX9_table 15 = .ok (.iconst (-1), 1) := by decide +kernel
theorem dX9_table_16 : decode cX9_table 16 = .ok (.ireturn, 1) := by decide +kernel
theorem dX9_table_17 : decode cX9_table 17 = .ok (.iload_n 1, 1) := by decide +kernel
theorem dX9_table_18 : decode cX9_table 18 = .ok (.bipush 6, 2) := by decide +kernel
theorem dX9_table_20 : decode cX9_table 20 = .ok (.if_icmp .ge 14, 3) := by decide +kernel
theorem dX9_table_23 : decode cX9_table 23 = .ok (.iload_n 1, 1) := by decide +kernel
theorem dX9_table_24 : decode cX9_table 24 = .ok (.aload_n 0, 1) := by decide +kernel
theorem dX9_table_25 : decode cX9_table 25 = .ok (.getfield 219, 3) := by decide +kernel
theorem dX9_table_28 : decode cX9_table 28 = .ok (.if_icmp .lt 6, 3) := by decide +kernel
theorem dX9_table_31 : decode cX9_table 31 = .ok (.bipush (-2), 2) := by decide +kernel
theorem dX9_table_33 : decode cX9_table 33 = .ok (.ireturn, 1) := by decide +kernel
theorem dX9_table_34 : decode cX9_table 34 = .ok (.aload_n 0, 1) := by decide +kernel
theorem dX9_table_35 : decode cX9_table 35 = .ok (.getfield 219, 3) := by decide +kernel
theorem dX9_table_38 : decode cX9_table 38 = .ok (.ifCond .ne 5, 3) := by decide +kernel
theorem dX9_table_41 : decode cX9_table 41 = .ok (.iconst 0, 1) := by decide +kernel
theorem dX9_table_42 : decode cX9_table 42 = .ok (.ireturn, 1) := by decide +kernel
theorem dX9_table_43 : decode cX9_table 43 = .ok (.iconst 0, 1) := by decide +kernel
theorem dX9_table_44 : decode cX9_table 44 = .ok (.istore_n 2, 1) := by decide +kernel
theorem dX9_table_45 : decode cX9_table 45 = .ok (.iconst 0, 1) := by decide +kernel
theorem dX9_table_46 : decode cX9_table 46 = .ok (.istore_n 3, 1) := by decide +kernel
theorem dX9_table_47 : decode cX9_table 47 = .ok (.iload_n 3, 1) := by decide +kernel
theorem dX9_table_48 : decode cX9_table 48 = .ok (.aload_n 0, 1) := by decide +kernel
theorem dX9_table_49 : decode cX9_table 49 = .ok (.getfield 219, 3) := by decide +kernel
theorem dX9_table_52 : decode cX9_table 52 = .ok (.if_icmp .ge 24, 3) := by decide +kernel
theorem dX9_table_55 : decode cX9_table 55 = .ok (.aload_n 0, 1) := by decide +kernel
theorem dX9_table_56 : decode cX9_table 56 = .ok (.getfield 94, 3) := by decide +kernel
theorem dX9_table_59 : decode cX9_table 59 = .ok (.iload_n 3, 1) := by decide +kernel
theorem dX9_table_60 : decode cX9_table 60 = .ok (.iaload, 1) := by decide +kernel
theorem dX9_table_61 : decode cX9_table 61 = .ok (.ifCond .ne 7, 3) := by decide +kernel
theorem dX9_table_64 : decode cX9_table 64 = .ok (.iload_n 3, 1) := by decide +kernel
theorem dX9_table_65 : decode cX9_table 65 = .ok (.goto 4, 3) := by decide +kernel
theorem dX9_table_68 : decode cX9_table 68 = .ok (.iload_n 2, 1) := by decide +kernel
theorem dX9_table_69 : decode cX9_table 69 = .ok (.istore_n 2, 1) := by decide +kernel
theorem dX9_table_70 : decode cX9_table 70 = .ok (.iinc 3 1, 3) := by decide +kernel
theorem dX9_table_73 : decode cX9_table 73 = .ok (.goto (-26), 3) := by decide +kernel
theorem dX9_table_76 : decode cX9_table 76 = .ok (.iconst (-1), 1) := by decide +kernel
theorem dX9_table_77 : decode cX9_table 77 = .ok (.istore_n 3, 1) := by decide +kernel
theorem dX9_table_78 : decode cX9_table 78 = .ok (.iconst 0, 1) := by decide +kernel
theorem dX9_table_79 : decode cX9_table 79 = .ok (.istore 4, 2) := by decide +kernel
theorem dX9_table_81 : decode cX9_table 81 = .ok (.iconst 0, 1) := by decide +kernel
theorem dX9_table_82 : decode cX9_table 82 = .ok (.istore 5, 2) := by decide +kernel
theorem dX9_table_84 : decode cX9_table 84 = .ok (.iload 5, 2) := by decide +kernel
theorem dX9_table_86 : decode cX9_table 86 = .ok (.aload_n 0, 1) := by decide +kernel
theorem dX9_table_87 : decode cX9_table 87 = .ok (.getfield 219, 3) := by decide +kernel
theorem dX9_table_90 : decode cX9_table 90 = .ok (.iconst 1, 1) := by decide +kernel
theorem dX9_table_91 : decode cX9_table 91 = .ok (.isub, 1) := by decide +kernel
theorem dX9_table_92 : decode cX9_table 92 = .ok (.invokestatic 490, 3) := by decide +kernel
theorem dX9_table_95 : decode cX9_table 95 = .ok (.if_icmp .ge 105, 3) := by decide +kernel
theorem dX9_table_98 : decode cX9_table 98 = .ok (.aload_n 0, 1) := by decide +kernel
theorem dX9_table_99 : decode cX9_table 99 = .ok (.invokevirtual 475, 3) := by decide +kernel
theorem dX9_table_102 : decode cX9_table 102 = .ok (.aload_n 0, 1) := by decide +kernel
theorem dX9_table_103 : decode cX9_table 103 = .ok (.iload 5, 2) := by decide +kernel
theorem dX9_table_105 : decode cX9_table 105 = .ok (.aload_n 0, 1) := by decide +kernel
theorem dX9_table_106 : decode cX9_table 106 = .ok (.getfield 219, 3) := by decide +kernel
theorem dX9_table_109 : decode cX9_table 109 = .ok (.iconst 1, 1) := by decide +kernel
theorem dX9_table_110 : decode cX9_table 110 = .ok (.isub, 1) := by decide +kernel
theorem dX9_table_111 : decode cX9_table 111 = .ok (.iconst 1, 1) := by decide +kernel
theorem dX9_table_112 : decode cX9_table 112 = .ok (.iload_n 2, 1) := by decide +kernel
theorem dX9_table_113 : decode cX9_table 113 = .ok (.ishl, 1) := by decide +kernel
theorem dX9_table_114 : decode cX9_table 114 = .ok (.invokevirtual 493, 3) := by decide +kernel
theorem dX9_table_117 : decode cX9_table 117 = .ok (.iconst 1, 1) := by decide +kernel
theorem dX9_table_118 : decode cX9_table 118 = .ok (.istore 6, 2) := by decide +kernel
theorem dX9_table_120 : decode cX9_table 120 = .ok (.iload 6, 2) := by decide +kernel
theorem dX9_table_122 : decode cX9_table 122 = .ok (.aload_n 0, 1) := by decide +kernel
theorem dX9_table_123 : decode cX9_table 123 = .ok (.getfield 219, 3) := by decide +kernel
theorem dX9_table_126 : decode cX9_table 126 = .ok (.if_icmp .ge 28, 3) := by decide +kernel
theorem dX9_table_129 : decode cX9_table 129 = .ok (.aload_n 0, 1) := by decide +kernel
theorem dX9_table_130 : decode cX9_table 130 = .ok (.getfield 94, 3) := by decide +kernel
theorem dX9_table_133 : decode cX9_table 133 = .ok (.bipush 6, 2) := by decide +kernel
theorem dX9_table_135 : decode cX9_table 135 = .ok (.aload_n 0, 1) := by decide +kernel
theorem dX9_table_136 : decode cX9_table 136 = .ok (.getfield 115, 3) := by decide +kernel
theorem dX9_table_139 : decode cX9_table 139 = .ok (.iload 6, 2) := by decide +kernel
theorem dX9_table_141 : decode cX9_table 141 = .ok (.iconst 1, 1) := by decide +kernel
theorem dX9_table_142 : decode cX9_table 142 = .ok (.isub, 1) := by decide +kernel
theorem dX9_table_143 : decode cX9_table 143 = .ok (.iaload, 1) := by decide +kernel
theorem dX9_table_144 : decode cX9_table 144 = .ok (.iadd, 1) := by decide +kernel
theorem dX9_table_145 : decode cX9_table 145 = .ok (.iload 6, 2) := by decide +kernel
theorem dX9_table_147 : decode cX9_table 147 = .ok (.iastore, 1) := by decide +kernel
theorem dX9_table_148 : decode cX9_table 148 = .ok (.iinc 6 1, 3) := by decide +kernel
theorem dX9_table_151 : decode cX9_table 151 = .ok (.goto (-31), 3) := by decide +kernel
theorem dX9_table_154 : decode cX9_table 154 = .ok (.aload_n 0, 1) := by decide +kernel
theorem dX9_table_155 : decode cX9_table 155 = .ok (.bipush 40, 2) := by decide +kernel
theorem dX9_table_157 : decode cX9_table 157 = .ok (.invokevirtual 478, 3) := by decide +kernel
theorem dX9_table_160 : decode cX9_table 160 = .ok (.aload_n 0, 1) := by decide +kernel
theorem dX9_table_161 : decode cX9_table 161 = .ok (.iconst 1, 1) := by decide +kernel
theorem dX9_table_162 : decode cX9_table 162 = .ok (.invokevirtual 484, 3) := by decide +kernel
theorem dX9_table_165 : decode cX9_table 165 = .ok (.aload_n 0, 1) := by decide +kernel
theorem dX9_table_166 : decode cX9_table 166 = .ok (.iconst 0, 1) := by decide +kernel
theorem dX9_table_167 : decode cX9_table 167 = .ok (.invokevirtual 484, 3) := by decide +kernel
theorem dX9_table_170 : decode cX9_table 170 = .ok (.isub, 1) := by decide +kernel
theorem dX9_table_171 : decode cX9_table 171 = .ok (.istore 6, 2) := by decide +kernel
theorem dX9_table_173 : decode cX9_table 173 = .ok (.iload_n 3, 1) := by decide +kernel
theorem dX9_table_174 : decode cX9_table 174 = .ok (.ifCond .lt 13, 3) := by decide +kernel
theorem dX9_table_177 : decode cX9_table 177 = .ok (.iload 6, 2) := by decide +kernel
theorem dX9_table_179 : decode cX9_table 179 = .ok (.iload 4, 2) := by decide +kernel
theorem dX9_table_181 : decode cX9_table 181 = .ok (.if_icmp .lt 6, 3) := by decide +kernel
theorem dX9_table_184 : decode cX9_table 184 = .ok (.goto 10, 3) := by decide +kernel
theorem dX9_table_187 : decode cX9_table 187 = .ok (.iload 5, 2) := by decide +kernel
theorem dX9_table_189 : decode cX9_table 189 = .ok (.istore_n 3, 1) := by decide +kernel
theorem dX9_table_190 : decode cX9_table 190 = .ok (.iload 6, 2) := by decide +kernel
theorem dX9_table_192 : decode cX9_table 192 = .ok (.istore 4, 2) := by decide +kernel
theorem dX9_table_194 : decode cX9_table 194 = .ok (.iinc 5 1, 3) := by decide +kernel
theorem dX9_table_197 : decode cX9_table 197 = .ok (.goto (-113), 3) := by decide +kernel
theorem dX9_table_200 : decode cX9_table 200 = .ok (.aload_n 0, 1) := by decide +kernel
theorem dX9_table_201 : decode cX9_table 201 = .ok (.iload_n 3, 1) := by decide +kernel
theorem dX9_table_202 : decode cX9_table 202 = .ok (.aload_n 0, 1) := by decide +kernel
theorem dX9_table_203 : decode cX9_table 203 = .ok (.getfield 219, 3) := by decide +kernel
theorem dX9_table_206 : decode cX9_table 206 = .ok (.iconst 1, 1) := by decide +kernel
theorem dX9_table_207 : decode cX9_table 207 = .ok (.isub, 1) := by decide +kernel
theorem dX9_table_208 : decode cX9_table 208 = .ok (.iconst 1, 1) := by decide +kernel
theorem dX9_table_209 : decode cX9_table 209 = .ok (.iload_n 2, 1) := by decide +kernel
theorem dX9_table_210 : decode cX9_table 210 = .ok (.ishl, 1) := by decide +kernel
theorem dX9_table_211 : decode cX9_table 211 = .ok (.invokevirtual 493, 3) := by decide +kernel
theorem dX9_table_214 : decode cX9_table 214 = .ok (.iload_n 1, 1) := by decide +kernel
theorem dX9_table_215 : decode cX9_table 215 = .ok (.bipush 6, 2) := by decide +kernel
theorem dX9_table_217 : decode cX9_table 217 = .ok (.if_icmp .ne 8, 3) := by decide +kernel
theorem dX9_table_220 : decode cX9_table 220 = .ok (.iload 4, 2) := by decide +kernel
theorem dX9_table_222 : decode cX9_table 222 = .ok (.goto 19, 3) := by decide +kernel
theorem dX9_table_225 : decode cX9_table 225 = .ok (.iload_n 1, 1) := by decide +kernel
theorem dX9_table_226 : decode cX9_table 226 = .ok (.ifCond .ne 7, 3) := by decide +kernel
theorem dX9_table_229 : decode cX9_table 229 = .ok (.iload_n 2, 1) := by decide +kernel
theorem dX9_table_230 : decode cX9_table 230 = .ok (.goto 11, 3) := by decide +kernel
theorem dX9_table_233 : decode cX9_table 233 = .ok (.aload_n 0, 1) := by decide +kernel
theorem dX9_table_234 : decode cX9_table 234 = .ok (.getfield 115, 3) := by decide +kernel
theorem dX9_table_237 : decode cX9_table 237 = .ok (.iload_n 1, 1) := by decide +kernel
theorem dX9_table_238 : decode cX9_table 238 = .ok (.iconst 1, 1) := by decide +kernel
theorem dX9_table_239 : decode cX9_table 239 = .ok (.isub, 1) := by decide +kernel
theorem dX9_table_240 : decode cX9_table 240 = .ok (.iaload, 1) := by decide +kernel
theorem dX9_table_241 : decode cX9_table 241 = .ok (.ireturn, 1) := by decide +kernel
theorem dX9_manyOf_0 : decode cX9_manyOf 0 = .ok (.iconst 0, 1) := by decide +kernel
theorem dX9_manyOf_1 : decode cX9_manyOf 1 = .ok (.istore_n 1, 1) := by decide +kernel
theorem dX9_manyOf_2 : decode cX9_manyOf 2 = .ok (.iconst 0, 1) := by decide +kernel
theorem dX9_manyOf_3 : decode cX9_manyOf 3 = .ok (.istore_n 2, 1) := by decide +kernel
theorem dX9_manyOf_4 : decode cX9_manyOf 4 = .ok (.iload_n 2, 1) := by decide +kernel
theorem dX9_manyOf_5 : decode cX9_manyOf 5 = .ok (.bipush 6, 2) := by decide +kernel
theorem dX9_manyOf_7 : decode cX9_manyOf 7 = .ok (.if_icmp .ge 17, 3) := by decide +kernel
theorem dX9_manyOf_10 : decode cX9_manyOf 10 = .ok (.iload_n 1, 1) := by decide +kernel
theorem dX9_manyOf_11 : decode cX9_manyOf 11 = .ok (.iload_n 0, 1) := by decide +kernel
theorem dX9_manyOf_12 : decode cX9_manyOf 12 = .ok (.iload_n 2, 1) := by decide +kernel
theorem dX9_manyOf_13 : decode cX9_manyOf 13 = .ok (.ishr, 1) := by decide +kernel
theorem dX9_manyOf_14 : decode cX9_manyOf 14 = .ok (.iconst 1, 1) := by decide +kernel
theorem dX9_manyOf_15 : decode cX9_manyOf 15 = .ok (.iand, 1) := by decide +kernel
theorem dX9_manyOf_16 : decode cX9_manyOf 16 = .ok (.iadd, 1) := by decide +kernel
theorem dX9_manyOf_17 : decode cX9_manyOf 17 = .ok (.istore_n 1, 1) := by decide +kernel
theorem dX9_manyOf_18 : decode cX9_manyOf 18 = .ok (.iinc 2 1, 3) := by decide +kernel
theorem dX9_manyOf_21 : decode cX9_manyOf 21 = .ok (.goto (-17), 3) := by decide +kernel
theorem dX9_manyOf_24 : decode cX9_manyOf 24 = .ok (.iload_n 1, 1) := by decide +kernel
theorem dX9_manyOf_25 : decode cX9_manyOf 25 = .ok (.ireturn, 1) := by decide +kernel
theorem dX9_thereBits_0 : decode cX9_thereBits 0 = .ok (.iconst 0, 1) := by decide +kernel
theorem dX9_thereBits_1 : decode cX9_thereBits 1 = .ok (.istore_n 1, 1) := by decide +kernel
theorem dX9_thereBits_2 : decode cX9_thereBits 2 = .ok (.iconst 0, 1) := by decide +kernel
theorem dX9_thereBits_3 : decode cX9_thereBits 3 = .ok (.istore_n 2, 1) := by decide +kernel
theorem dX9_thereBits_4 : decode cX9_thereBits 4 = .ok (.iload_n 2, 1) := by decide +kernel
theorem dX9_thereBits_5 : decode cX9_thereBits 5 = .ok (.aload_n 0, 1) := by decide +kernel
theorem dX9_thereBits_6 : decode cX9_thereBits 6 = .ok (.getfield 219, 3) := by decide +kernel
theorem dX9_thereBits_9 : decode cX9_thereBits 9 = .ok (.if_icmp .ge 28, 3) := by decide +kernel
theorem dX9_thereBits_12 : decode cX9_thereBits 12 = .ok (.iload_n 1, 1) := by decide +kernel
theorem dX9_thereBits_13 : decode cX9_thereBits 13 = .ok (.aload_n 0, 1) := by decide +kernel
theorem dX9_thereBits_14 : decode cX9_thereBits 14 = .ok (.getfield 97, 3) := by decide +kernel
theorem dX9_thereBits_17 : decode cX9_thereBits 17 = .ok (.iload_n 2, 1) := by decide +kernel
theorem dX9_thereBits_18 : decode cX9_thereBits 18 = .ok (.baload, 1) := by decide +kernel
theorem dX9_thereBits_19 : decode cX9_thereBits 19 = .ok (.ifCond .eq 9, 3) := by decide +kernel
theorem dX9_thereBits_22 : decode cX9_thereBits 22 = .ok (.iconst 1, 1) := by decide +kernel
theorem dX9_thereBits_23 : decode cX9_thereBits 23 = .ok (.iload_n 2, 1) := by decide +kernel
theorem dX9_thereBits_24 : decode cX9_thereBits 24 = .ok (.ishl, 1) := by decide +kernel
theorem dX9_thereBits_25 : decode cX9_thereBits 25 = .ok (.goto 4, 3) := by decide +kernel
theorem dX9_thereBits_28 : decode cX9_thereBits 28 = .ok (.iconst 0, 1) := by decide +kernel
theorem dX9_thereBits_29 : decode cX9_thereBits 29 = .ok (.ior, 1) := by decide +kernel
theorem dX9_thereBits_30 : decode cX9_thereBits 30 = .ok (.istore_n 1, 1) := by decide +kernel
theorem dX9_thereBits_31 : decode cX9_thereBits 31 = .ok (.iinc 2 1, 3) := by decide +kernel
theorem dX9_thereBits_34 : decode cX9_thereBits 34 = .ok (.goto (-30), 3) := by decide +kernel
theorem dX9_thereBits_37 : decode cX9_thereBits 37 = .ok (.iload_n 1, 1) := by decide +kernel
theorem dX9_thereBits_38 : decode cX9_thereBits 38 = .ok (.ireturn, 1) := by decide +kernel
theorem dX9_isCalm_0 : decode cX9_isCalm 0 = .ok (.aload_n 0, 1) := by decide +kernel
theorem dX9_isCalm_1 : decode cX9_isCalm 1 = .ok (.invokevirtual 475, 3) := by decide +kernel
theorem dX9_isCalm_4 : decode cX9_isCalm 4 = .ok (.aload_n 0, 1) := by decide +kernel
theorem dX9_isCalm_5 : decode cX9_isCalm 5 = .ok (.iload_n 1, 1) := by decide +kernel
theorem dX9_isCalm_6 : decode cX9_isCalm 6 = .ok (.putfield 371, 3) := by decide +kernel
theorem dX9_isCalm_9 : decode cX9_isCalm 9 = .ok (.iconst 0, 1) := by decide +kernel
theorem dX9_isCalm_10 : decode cX9_isCalm 10 = .ok (.istore_n 2, 1) := by decide +kernel
theorem dX9_isCalm_11 : decode cX9_isCalm 11 = .ok (.iload_n 2, 1) := by decide +kernel
theorem dX9_isCalm_12 : decode cX9_isCalm 12 = .ok (.bipush 30, 2) := by decide +kernel
theorem dX9_isCalm_14 : decode cX9_isCalm 14 = .ok (.if_icmp .ge 23, 3) := by decide +kernel
theorem dX9_isCalm_17 : decode cX9_isCalm 17 = .ok (.aload_n 0, 1) := by decide +kernel
theorem dX9_isCalm_18 : decode cX9_isCalm 18 = .ok (.iconst 1, 1) := by decide +kernel
theorem dX9_isCalm_19 : decode cX9_isCalm 19 = .ok (.invokevirtual 455, 3) := by decide +kernel
theorem dX9_isCalm_22 : decode cX9_isCalm 22 = .ok (.aload_n 0, 1) := by decide +kernel
theorem dX9_isCalm_23 : decode cX9_isCalm 23 = .ok (.getfield 425, 3) := by decide +kernel
theorem dX9_isCalm_26 : decode cX9_isCalm 26 = .ok (.ifCond .lt 5, 3) := by decide +kernel
theorem dX9_isCalm_29 : decode cX9_isCalm 29 = .ok (.iconst 0, 1) := by decide +kernel
theorem dX9_isCalm_30 : decode cX9_isCalm 30 = .ok (.ireturn, 1) := by decide +kernel
theorem dX9_isCalm_31 : decode cX9_isCalm 31 = .ok (.iinc 2 1, 3) := by decide +kernel
theorem dX9_isCalm_34 : decode cX9_isCalm 34 = .ok (.goto (-23), 3) := by decide +kernel
theorem dX9_isCalm_37 : decode cX9_isCalm 37 = .ok (.iconst 1, 1) := by decide +kernel
theorem dX9_isCalm_38 : decode cX9_isCalm 38 = .ok (.ireturn, 1) := by decide +kernel
theorem dX9_calm_0 : decode cX9_calm 0 = .ok (.aload_n 0, 1) := by decide +kernel
theorem dX9_calm_1 : decode cX9_calm 1 = .ok (.iconst 0, 1) := by decide +kernel
theorem dX9_calm_2 : decode cX9_calm 2 = .ok (.putfield 142, 3) := by decide +kernel
theorem dX9_calm_5 : decode cX9_calm 5 = .ok (.aload_n 0, 1) := by decide +kernel
theorem dX9_calm_6 : decode cX9_calm 6 = .ok (.invokevirtual 496, 3) := by decide +kernel
theorem dX9_calm_9 : decode cX9_calm 9 = .ok (.istore_n 1, 1) := by decide +kernel
theorem dX9_calm_10 : decode cX9_calm 10 = .ok (.bipush (-2), 2) := by decide +kernel
theorem dX9_calm_12 : decode cX9_calm 12 = .ok (.istore_n 2, 1) := by decide +kernel
theorem dX9_calm_13 : decode cX9_calm 13 = .ok (.iconst 0, 1) := by decide +kernel
theorem dX9_calm_14 : decode cX9_calm 14 = .ok (.istore_n 3, 1) := by decide +kernel
theorem dX9_calm_15 : decode cX9_calm 15 = .ok (.iload_n 3, 1) := by decide +kernel
theorem dX9_calm_16 : decode cX9_calm 16 = .ok (.iconst 1, 1) := by decide +kernel
theorem dX9_calm_17 : decode cX9_calm 17 = .ok (.aload_n 0, 1) := by decide +kernel
theorem dX9_calm_18 : decode cX9_calm 18 = .ok (.getfield 219, 3) := by decide +kernel
theorem dX9_calm_21 : decode cX9_calm 21 = .ok (.ishl, 1) := by decide +kernel
theorem dX9_calm_22 : decode cX9_calm 22 = .ok (.if_icmp .ge 45, 3) := by decide +kernel
theorem dX9_calm_25 : decode cX9_calm 25 = .ok (.iload_n 3, 1) := by decide +kernel
theorem dX9_calm_26 : decode cX9_calm 26 = .ok (.iload_n 1, 1) := by decide +kernel
theorem dX9_calm_27 : decode cX9_calm 27 = .ok (.iconst (-1), 1) := by decide +kernel
theorem dX9_calm_28 : decode cX9_calm 28 = .ok (.ixor, 1) := by decide +kernel
theorem dX9_calm_29 : decode cX9_calm 29 = .ok (.iand, 1) := by decide +kernel
theorem dX9_calm_30 : decode cX9_calm 30 = .ok (.ifCond .ne 31, 3) := by decide +kernel
theorem dX9_calm_33 : decode cX9_calm 33 = .ok (.iload_n 2, 1) := by decide +kernel
theorem dX9_calm_34 : decode cX9_calm 34 = .ok (.ifCond .lt 17, 3) := by decide +kernel
theorem dX9_calm_37 : decode cX9_calm 37 = .ok (.iload_n 3, 1) := by decide +kernel
theorem dX9_calm_38 : decode cX9_calm 38 = .ok (.invokestatic 499, 3) := by decide +kernel
theorem dX9_calm_41 : decode cX9_calm 41 = .ok (.iload_n 2, 1) := by decide +kernel
theorem dX9_calm_42 : decode cX9_calm 42 = .ok (.invokestatic 499, 3) := by decide +kernel
theorem dX9_calm_45 : decode cX9_calm 45 = .ok (.if_icmp .lt 6, 3) := by decide +kernel
theorem dX9_calm_48 : decode cX9_calm 48 = .ok (.goto 13, 3) := by decide +kernel
theorem dX9_calm_51 : decode cX9_calm 51 = .ok (.aload_n 0, 1) := by decide +kernel
theorem dX9_calm_52 : decode cX9_calm 52 = .ok (.iload_n 3, 1) := by decide +kernel
theorem dX9_calm_53 : decode cX9_calm 53 = .ok (.invokevirtual 502, 3) := by decide +kernel
theorem dX9_calm_56 : decode cX9_calm 56 = .ok (.ifCond .eq 5, 3) := by decide +kernel
theorem dX9_calm_59 : decode cX9_calm 59 = .ok (.iload_n 3, 1) := by decide +kernel
theorem dX9_calm_60 : decode cX9_calm 60 = .ok (.istore_n 2, 1) := by decide +kernel
theorem dX9_calm_61 : decode cX9_calm 61 = .ok (.iinc 3 1, 3) := by decide +kernel
theorem dX9_calm_64 : decode cX9_calm 64 = .ok (.goto (-49), 3) := by decide +kernel
theorem dX9_calm_67 : decode cX9_calm 67 = .ok (.aload_n 0, 1) := by decide +kernel
theorem dX9_calm_68 : decode cX9_calm 68 = .ok (.invokevirtual 341, 3) := by decide +kernel
theorem dX9_calm_71 : decode cX9_calm 71 = .ok (.iload_n 2, 1) := by decide +kernel
theorem dX9_calm_72 : decode cX9_calm 72 = .ok (.ireturn, 1) := by decide +kernel
theorem dX9_loaf_0 : decode cX9_loaf 0 = .ok (.aload_n 0, 1) := by decide +kernel
theorem dX9_loaf_1 : decode cX9_loaf 1 = .ok (.iconst 0, 1) := by decide +kernel
theorem dX9_loaf_2 : decode cX9_loaf 2 = .ok (.putfield 142, 3) := by decide +kernel
theorem dX9_loaf_5 : decode cX9_loaf 5 = .ok (.aload_n 0, 1) := by decide +kernel
theorem dX9_loaf_6 : decode cX9_loaf 6 = .ok (.iload_n 1, 1) := by decide +kernel
theorem dX9_loaf_7 : decode cX9_loaf 7 = .ok (.invokevirtual 380, 3) := by decide +kernel
theorem dX9_loaf_10 : decode cX9_loaf 10 = .ok (.ifCond .eq 22, 3) := by decide +kernel
theorem dX9_loaf_13 : decode cX9_loaf 13 = .ok (.aload_n 0, 1) := by decide +kernel
theorem dX9_loaf_14 : decode cX9_loaf 14 = .ok (.getfield 97, 3) := by decide +kernel
theorem dX9_loaf_17 : decode cX9_loaf 17 = .ok (.iload_n 1, 1) := by decide +kernel
theorem dX9_loaf_18 : decode cX9_loaf 18 = .ok (.baload, 1) := by decide +kernel
theorem dX9_loaf_19 : decode cX9_loaf 19 = .ok (.ifCond .eq 13, 3) := by decide +kernel
theorem dX9_loaf_22 : decode cX9_loaf 22 = .ok (.iload_n 2, 1) := by decide +kernel
theorem dX9_loaf_23 : decode cX9_loaf 23 = .ok (.iconst 1, 1) := by decide +kernel
theorem dX9_loaf_24 : decode cX9_loaf 24 = .ok (.bipush 99, 2) := by decide +kernel
theorem dX9_loaf_26 : decode cX9_loaf 26 = .ok (.invokestatic 187, 3) := by decide +kernel
theorem dX9_loaf_29 : decode cX9_loaf 29 = .ok (.ifCond .ne 5, 3) := by decide +kernel
theorem dX9_loaf_32 : decode cX9_loaf 32 = .ok (.iconst (-1), 1) := by decide +kernel
theorem dX9_loaf_33 : decode cX9_loaf 33 = .ok (.ireturn, 1) := by decide +kernel
theorem dX9_loaf_34 : decode cX9_loaf 34 = .ok (.iconst 0, 1) := by decide +kernel
theorem dX9_loaf_35 : decode cX9_loaf 35 = .ok (.istore_n 3, 1) := by decide +kernel
theorem dX9_loaf_36 : decode cX9_loaf 36 = .ok (.iload_n 3, 1) := by decide +kernel
theorem dX9_loaf_37 : decode cX9_loaf 37 = .ok (.bipush 99, 2) := by decide +kernel
theorem dX9_loaf_39 : decode cX9_loaf 39 = .ok (.if_icmp .gt 63, 3) := by decide +kernel
theorem dX9_loaf_42 : decode cX9_loaf 42 = .ok (.aload_n 0, 1) := by decide +kernel
theorem dX9_loaf_43 : decode cX9_loaf 43 = .ok (.invokevirtual 475, 3) := by decide +kernel
theorem dX9_loaf_46 : decode cX9_loaf 46 = .ok (.aload_n 0, 1) := by decide +kernel
theorem dX9_loaf_47 : decode cX9_loaf 47 = .ok (.getfield 91, 3) := by decide +kernel
theorem dX9_loaf_50 : decode cX9_loaf 50 = .ok (.bipush 6, 2) := by decide +kernel
theorem dX9_loaf_52 : decode cX9_loaf 52 = .ok (.iload_n 1, 1) := by decide +kernel
theorem dX9_loaf_53 : decode cX9_loaf 53 = .ok (.iadd, 1) := by decide +kernel
theorem dX9_loaf_54 : decode cX9_loaf 54 = .ok (.aload_n 0, 1) := by decide +kernel
theorem dX9_loaf_55 : decode cX9_loaf 55 = .ok (.getfield 91, 3) := by decide +kernel
theorem dX9_loaf_58 : decode cX9_loaf 58 = .ok (.iload_n 1, 1) := by decide +kernel
theorem dX9_loaf_59 : decode cX9_loaf 59 = .ok (.iaload, 1) := by decide +kernel
theorem dX9_loaf_60 : decode cX9_loaf 60 = .ok (.iload_n 3, 1) := by decide +kernel
theorem dX9_loaf_61 : decode cX9_loaf 61 = .ok (.if_icmp .le 14, 3) := by decide +kernel
theorem dX9_loaf_64 : decode cX9_loaf 64 = .ok (.aload_n 0, 1) := by decide +kernel
theorem dX9_loaf_65 : decode cX9_loaf 65 = .ok (.getfield 91, 3) := by decide +kernel
theorem dX9_loaf_68 : decode cX9_loaf 68 = .ok (.iload_n 1, 1) := by decide +kernel
theorem dX9_loaf_69 : decode cX9_loaf 69 = .ok (.iaload, 1) := by decide +kernel
theorem dX9_loaf_70 : decode cX9_loaf 70 = .ok (.iload_n 3, 1) := by decide +kernel
theorem dX9_loaf_71 : decode cX9_loaf 71 = .ok (.isub, 1) := by decide +kernel
theorem dX9_loaf_72 : decode cX9_loaf 72 = .ok (.goto 4, 3) := by decide +kernel
theorem dX9_loaf_75 : decode cX9_loaf 75 = .ok (.iconst 0, 1) := by decide +kernel
theorem dX9_loaf_76 : decode cX9_loaf 76 = .ok (.iastore, 1) := by decide +kernel
theorem dX9_loaf_77 : decode cX9_loaf 77 = .ok (.aload_n 0, 1) := by decide +kernel
theorem dX9_loaf_78 : decode cX9_loaf 78 = .ok (.iload_n 2, 1) := by decide +kernel
theorem dX9_loaf_79 : decode cX9_loaf 79 = .ok (.invokevirtual 478, 3) := by decide +kernel
theorem dX9_loaf_82 : decode cX9_loaf 82 = .ok (.aload_n 0, 1) := by decide +kernel
theorem dX9_loaf_83 : decode cX9_loaf 83 = .ok (.getfield 97, 3) := by decide +kernel
theorem dX9_loaf_86 : decode cX9_loaf 86 = .ok (.bipush 6, 2) := by decide +kernel
theorem dX9_loaf_88 : decode cX9_loaf 88 = .ok (.iload_n 1, 1) := by decide +kernel
theorem dX9_loaf_89 : decode cX9_loaf 89 = .ok (.iadd, 1) := by decide +kernel
theorem dX9_loaf_90 : decode cX9_loaf 90 = .ok (.baload, 1) := by decide +kernel
theorem dX9_loaf_91 : decode cX9_loaf 91 = .ok (.ifCond .eq 5, 3) := by decide +kernel
theorem dX9_loaf_94 : decode cX9_loaf 94 = .ok (.iload_n 3, 1) := by decide +kernel
theorem dX9_loaf_95 : decode cX9_loaf 95 = .ok (.ireturn, 1) := by decide +kernel
theorem dX9_loaf_96 : decode cX9_loaf 96 = .ok (.iinc 3 1, 3) := by decide +kernel
theorem dX9_loaf_99 : decode cX9_loaf 99 = .ok (.goto (-63), 3) := by decide +kernel
theorem dX9_loaf_102 : decode cX9_loaf 102 = .ok (.bipush (-2), 2) := by decide +kernel
theorem dX9_loaf_104 : decode cX9_loaf 104 = .ok (.ireturn, 1) := by decide +kernel
theorem dX9_linksOf_0 : decode cX9_linksOf 0 = .ok (.iconst 1, 1) := by decide +kernel
theorem dX9_linksOf_1 : decode cX9_linksOf 1 = .ok (.iload_n 1, 1) := by decide +kernel
theorem dX9_linksOf_2 : decode cX9_linksOf 2 = .ok (.ishl, 1) := by decide +kernel
theorem dX9_linksOf_3 : decode cX9_linksOf 3 = .ok (.istore_n 3, 1) := by decide +kernel
theorem dX9_linksOf_4 : decode cX9_linksOf 4 = .ok (.iconst 0, 1) := by decide +kernel
theorem dX9_linksOf_5 : decode cX9_linksOf 5 = .ok (.istore 4, 2) := by decide +kernel
theorem dX9_linksOf_7 : decode cX9_linksOf 7 = .ok (.iload 4, 2) := by decide +kernel
theorem dX9_linksOf_9 : decode cX9_linksOf 9 = .ok (.bipush 6, 2) := by decide +kernel
theorem dX9_linksOf_11 : decode cX9_linksOf 11 = .ok (.if_icmp .ge 69, 3) := by decide +kernel
theorem dX9_linksOf_14 : decode cX9_linksOf 14 = .ok (.iload_n 3, 1) := by decide +kernel
theorem dX9_linksOf_15 : decode cX9_linksOf 15 = .ok (.iload_n 2, 1) := by decide +kernel
theorem dX9_linksOf_16 : decode cX9_linksOf 16 = .ok (.invokestatic 383, 3) := by decide +kernel
theorem dX9_linksOf_19 : decode cX9_linksOf 19 = .ok (.ifCond .eq 6, 3) := by decide +kernel
theorem dX9_linksOf_22 : decode cX9_linksOf 22 = .ok (.iload 4, 2) := by decide +kernel
theorem dX9_linksOf_24 : decode cX9_linksOf 24 = .ok (.ireturn, 1) := by decide +kernel
theorem dX9_linksOf_25 : decode cX9_linksOf 25 = .ok (.iload_n 3, 1) := by decide +kernel
theorem dX9_linksOf_26 : decode cX9_linksOf 26 = .ok (.istore 5, 2) := by decide +kernel
theorem dX9_linksOf_28 : decode cX9_linksOf 28 = .ok (.iconst 0, 1) := by decide +kernel
theorem dX9_linksOf_29 : decode cX9_linksOf 29 = .ok (.istore 6, 2) := by decide +kernel
theorem dX9_linksOf_31 : decode cX9_linksOf 31 = .ok (.iload 6, 2) := by decide +kernel
theorem dX9_linksOf_33 : decode cX9_linksOf 33 = .ok (.aload_n 0, 1) := by decide +kernel
theorem dX9_linksOf_34 : decode cX9_linksOf 34 = .ok (.getfield 219, 3) := by decide +kernel
theorem dX9_linksOf_37 : decode cX9_linksOf 37 = .ok (.if_icmp .ge 34, 3) := by decide +kernel
theorem dX9_linksOf_40 : decode cX9_linksOf 40 = .ok (.iload 5, 2) := by decide +kernel
theorem dX9_linksOf_42 : decode cX9_linksOf 42 = .ok (.iload_n 3, 1) := by decide +kernel
theorem dX9_linksOf_43 : decode cX9_linksOf 43 = .ok (.iload 6, 2) := by decide +kernel
theorem dX9_linksOf_45 : decode cX9_linksOf 45 = .ok (.invokestatic 383, 3) := by decide +kernel
theorem dX9_linksOf_48 : decode cX9_linksOf 48 = .ok (.ifCond .eq 13, 3) := by decide +kernel
theorem dX9_linksOf_51 : decode cX9_linksOf 51 = .ok (.aload_n 0, 1) := by decide +kernel
theorem dX9_linksOf_52 : decode cX9_linksOf 52 = .ok (.iconst 0, 1) := by decide +kernel
theorem dX9_linksOf_53 : decode cX9_linksOf 53 = .ok (.iload 6, 2) := by decide +kernel
theorem dX9_linksOf_55 : decode cX9_linksOf 55 = .ok (.invokevirtual 461, 3) := by decide +kernel
theorem dX9_linksOf_58 : decode cX9_linksOf 58 = .ok (.goto 4, 3) := by decide +kernel
theorem dX9_linksOf_61 : decode cX9_linksOf 61 = .ok (.iconst 0, 1) := by decide +kernel
theorem dX9_linksOf_62 : decode cX9_linksOf 62 = .ok (.ior, 1) := by decide +kernel
theorem dX9_linksOf_63 : decode cX9_linksOf 63 = .ok (.istore 5, 2) := by decide +kernel
theorem dX9_linksOf_65 : decode cX9_linksOf 65 = .ok (.iinc 6 1, 3) := by decide +kernel
theorem dX9_linksOf_68 : decode cX9_linksOf 68 = .ok (.goto (-37), 3) := by decide +kernel
theorem dX9_linksOf_71 : decode cX9_linksOf 71 = .ok (.iload 5, 2) := by decide +kernel
theorem dX9_linksOf_73 : decode cX9_linksOf 73 = .ok (.istore_n 3, 1) := by decide +kernel
theorem dX9_linksOf_74 : decode cX9_linksOf 74 = .ok (.iinc 4 1, 3) := by decide +kernel
theorem dX9_linksOf_77 : decode cX9_linksOf 77 = .ok (.goto (-70), 3) := by decide +kernel
theorem dX9_linksOf_80 : decode cX9_linksOf 80 = .ok (.bipush (-2), 2) := by decide +kernel
theorem dX9_linksOf_82 : decode cX9_linksOf 82 = .ok (.ireturn, 1) := by decide +kernel
theorem dX9_areOn_0 : decode cX9_areOn 0 = .ok (.aload_n 0, 1) := by decide +kernel
theorem dX9_areOn_1 : decode cX9_areOn 1 = .ok (.iload_n 1, 1) := by decide +kernel
theorem dX9_areOn_2 : decode cX9_areOn 2 = .ok (.invokevirtual 380, 3) := by decide +kernel
theorem dX9_areOn_5 : decode cX9_areOn 5 = .ok (.ifCond .eq 33, 3) := by decide +kernel
theorem dX9_areOn_8 : decode cX9_areOn 8 = .ok (.aload_n 0, 1) := by decide +kernel
theorem dX9_areOn_9 : decode cX9_areOn 9 = .ok (.iload_n 2, 1) := by decide +kernel
theorem dX9_areOn_10 : decode cX9_areOn 10 = .ok (.invokevirtual 380, 3) := by decide +kernel
theorem dX9_areOn_13 : decode cX9_areOn 13 = .ok (.ifCond .eq 25, 3) := by decide +kernel
theorem dX9_areOn_16 : decode cX9_areOn 16 = .ok (.aload_n 0, 1) := by decide +kernel
theorem dX9_areOn_17 : decode cX9_areOn 17 = .ok (.getfield 97, 3) := by decide +kernel
theorem dX9_areOn_20 : decode cX9_areOn 20 = .ok (.iload_n 1, 1) := by decide +kernel
theorem dX9_areOn_21 : decode cX9_areOn 21 = .ok (.baload, 1) := by decide +kernel
theorem dX9_areOn_22 : decode cX9_areOn 22 = .ok (.ifCond .eq 16, 3) := by decide +kernel
theorem dX9_areOn_25 : decode cX9_areOn 25 = .ok (.aload_n 0, 1) := by decide +kernel
theorem dX9_areOn_26 : decode cX9_areOn 26 = .ok (.getfield 97, 3) := by decide +kernel
theorem dX9_areOn_29 : decode cX9_areOn 29 = .ok (.iload_n 2, 1) := by decide +kernel
theorem dX9_areOn_30 : decode cX9_areOn 30 = .ok (.baload, 1) := by decide +kernel
theorem dX9_areOn_31 : decode cX9_areOn 31 = .ok (.ifCond .eq 7, 3) := by decide +kernel
theorem dX9_areOn_34 : decode cX9_areOn 34 = .ok (.iconst 1, 1) := by decide +kernel
theorem dX9_areOn_35 : decode cX9_areOn 35 = .ok (.goto 4, 3) := by decide +kernel
theorem dX9_areOn_38 : decode cX9_areOn 38 = .ok (.iconst 0, 1) := by decide +kernel
theorem dX9_areOn_39 : decode cX9_areOn 39 = .ok (.ireturn, 1) := by decide +kernel
theorem dX9_chain_0 : decode cX9_chain 0 = .ok (.aload_n 0, 1) := by decide +kernel
theorem dX9_chain_1 : decode cX9_chain 1 = .ok (.iconst 0, 1) := by decide +kernel
theorem dX9_chain_2 : decode cX9_chain 2 = .ok (.putfield 142, 3) := by decide +kernel
theorem dX9_chain_5 : decode cX9_chain 5 = .ok (.aload_n 0, 1) := by decide +kernel
theorem dX9_chain_6 : decode cX9_chain 6 = .ok (.invokevirtual 341, 3) := by decide +kernel
theorem dX9_chain_9 : decode cX9_chain 9 = .ok (.aload_n 0, 1) := by decide +kernel
theorem dX9_chain_10 : decode cX9_chain 10 = .ok (.iload_n 1, 1) := by decide +kernel
theorem dX9_chain_11 : decode cX9_chain 11 = .ok (.iload_n 2, 1) := by decide +kernel
theorem dX9_chain_12 : decode cX9_chain 12 = .ok (.invokevirtual 505, 3) := by decide +kernel
theorem dX9_chain_15 : decode cX9_chain 15 = .ok (.ifCond .eq 12, 3) := by decide +kernel
theorem dX9_chain_18 : decode cX9_chain 18 = .ok (.aload_n 0, 1) := by decide +kernel
theorem dX9_chain_19 : decode cX9_chain 19 = .ok (.iload_n 1, 1) := by decide +kernel
theorem dX9_chain_20 : decode cX9_chain 20 = .ok (.iload_n 2, 1) := by decide +kernel
theorem dX9_chain_21 : decode cX9_chain 21 = .ok (.invokevirtual 508, 3) := by decide +kernel
theorem dX9_chain_24 : decode cX9_chain 24 = .ok (.goto 4, 3) := by decide +kernel
theorem dX9_chain_27 : decode cX9_chain 27 = .ok (.iconst (-1), 1) := by decide +kernel
theorem dX9_chain_28 : decode cX9_chain 28 = .ok (.ireturn, 1) := by decide +kernel
theorem dX9_part_0 : decode cX9_part 0 = .ok (.aload_n 0, 1) := by decide +kernel
theorem dX9_part_1 : decode cX9_part 1 = .ok (.iconst 0, 1) := by decide +kernel
theorem dX9_part_2 : decode cX9_part 2 = .ok (.putfield 142, 3) := by decide +kernel
theorem dX9_part_5 : decode cX9_part 5 = .ok (.aload_n 0, 1) := by decide +kernel
theorem dX9_part_6 : decode cX9_part 6 = .ok (.iload_n 1, 1) := by decide +kernel
theorem dX9_part_7 : decode cX9_part 7 = .ok (.iload_n 2, 1) := by decide +kernel
theorem dX9_part_8 : decode cX9_part 8 = .ok (.invokevirtual 505, 3) := by decide +kernel
theorem dX9_part_11 : decode cX9_part 11 = .ok (.ifCond .eq 8, 3) := by decide +kernel
theorem dX9_part_14 : decode cX9_part 14 = .ok (.iload_n 1, 1) := by decide +kernel
theorem dX9_part_15 : decode cX9_part 15 = .ok (.iload_n 2, 1) := by decide +kernel
theorem dX9_part_16 : decode cX9_part 16 = .ok (.if_icmp .ne 5, 3) := by decide +kernel
theorem dX9_part_19 : decode cX9_part 19 = .ok (.iconst (-1), 1) := by decide +kernel
theorem dX9_part_20 : decode cX9_part 20 = .ok (.ireturn, 1) := by decide +kernel
theorem dX9_part_21 : decode cX9_part 21 = .ok (.aload_n 0, 1) := by decide +kernel
theorem dX9_part_22 : decode cX9_part 22 = .ok (.invokevirtual 341, 3) := by decide +kernel
theorem dX9_part_25 : decode cX9_part 25 = .ok (.aload_n 0, 1) := by decide +kernel
theorem dX9_part_26 : decode cX9_part 26 = .ok (.invokevirtual 496, 3) := by decide +kernel
theorem dX9_part_29 : decode cX9_part 29 = .ok (.iconst 1, 1) := by decide +kernel
theorem dX9_part_30 : decode cX9_part 30 = .ok (.iload_n 1, 1) := by decide +kernel
theorem dX9_part_31 : decode cX9_part 31 = .ok (.ishl, 1) := by decide +kernel
theorem dX9_part_32 : decode cX9_part 32 = .ok (.iconst 1, 1) := by decide +kernel
theorem dX9_part_33 : decode cX9_part 33 = .ok (.iload_n 2, 1) := by decide +kernel
theorem dX9_part_34 : decode cX9_part 34 = .ok (.ishl, 1) := by decide +kernel
theorem dX9_part_35 : decode cX9_part 35 = .ok (.ior, 1) := by decide +kernel
theorem dX9_part_36 : decode cX9_part 36 = .ok (.iconst (-1), 1) := by decide +kernel
theorem dX9_part_37 : decode cX9_part 37 = .ok (.ixor, 1) := by decide +kernel
theorem dX9_part_38 : decode cX9_part 38 = .ok (.iand, 1) := by decide +kernel
theorem dX9_part_39 : decode cX9_part 39 = .ok (.istore_n 3, 1) := by decide +kernel
theorem dX9_part_40 : decode cX9_part 40 = .ok (.bipush (-2), 2) := by decide +kernel
theorem dX9_part_42 : decode cX9_part 42 = .ok (.istore 4, 2) := by decide +kernel
theorem dX9_part_44 : decode cX9_part 44 = .ok (.iconst 0, 1) := by decide +kernel
theorem dX9_part_45 : decode cX9_part 45 = .ok (.istore 5, 2) := by decide +kernel
theorem dX9_part_47 : decode cX9_part 47 = .ok (.iload 5, 2) := by decide +kernel
theorem dX9_part_49 : decode cX9_part 49 = .ok (.iconst 1, 1) := by decide +kernel
theorem dX9_part_50 : decode cX9_part 50 = .ok (.aload_n 0, 1) := by decide +kernel
theorem dX9_part_51 : decode cX9_part 51 = .ok (.getfield 219, 3) := by decide +kernel
theorem dX9_part_54 : decode cX9_part 54 = .ok (.ishl, 1) := by decide +kernel
theorem dX9_part_55 : decode cX9_part 55 = .ok (.if_icmp .ge 58, 3) := by decide +kernel
theorem dX9_part_58 : decode cX9_part 58 = .ok (.iload 5, 2) := by decide +kernel
theorem dX9_part_60 : decode cX9_part 60 = .ok (.iload_n 3, 1) := by decide +kernel
theorem dX9_part_61 : decode cX9_part 61 = .ok (.iconst (-1), 1) := by decide +kernel
theorem dX9_part_62 : decode cX9_part 62 = .ok (.ixor, 1) := by decide +kernel
theorem dX9_part_63 : decode cX9_part 63 = .ok (.iand, 1) := by decide +kernel
theorem dX9_part_64 : decode cX9_part 64 = .ok (.ifCond .ne 43, 3) := by decide +kernel
theorem dX9_part_67 : decode cX9_part 67 = .ok (.iload 4, 2) := by decide +kernel
theorem dX9_part_69 : decode cX9_part 69 = .ok (.ifCond .lt 19, 3) := by decide +kernel
theorem dX9_part_72 : decode cX9_part 72 = .ok (.iload 5, 2) := by decide +kernel
theorem dX9_part_74 : decode cX9_part 74 = .ok (.invokestatic 499, 3) := by decide +kernel
theorem dX9_part_77 : decode cX9_part 77 = .ok (.iload 4, 2) := by decide +kernel
theorem dX9_part_79 : decode cX9_part 79 = .ok (.invokestatic 499, 3) := by decide +kernel
theorem dX9_part_82 : decode cX9_part 82 = .ok (.if_icmp .lt 6, 3) := by decide +kernel
theorem dX9_part_85 : decode cX9_part 85 = .ok (.goto 22, 3) := by decide +kernel
theorem dX9_part_88 : decode cX9_part 88 = .ok (.aload_n 0, 1) := by decide +kernel
theorem dX9_part_89 : decode cX9_part 89 = .ok (.iload 5, 2) := by decide +kernel
theorem dX9_part_91 : decode cX9_part 91 = .ok (.putfield 371, 3) := by decide +kernel
theorem dX9_part_94 : decode cX9_part 94 = .ok (.aload_n 0, 1) := by decide +kernel
theorem dX9_part_95 : decode cX9_part 95 = .ok (.iload_n 1, 1) := by decide +kernel
theorem dX9_part_96 : decode cX9_part 96 = .ok (.iload_n 2, 1) := by decide +kernel
theorem dX9_part_97 : decode cX9_part 97 = .ok (.invokevirtual 508, 3) := by decide +kernel
theorem dX9_part_100 : decode cX9_part 100 = .ok (.ifCond .ge 7, 3) := by decide +kernel
theorem dX9_part_103 : decode cX9_part 103 = .ok (.iload 5, 2) := by decide +kernel
theorem dX9_part_105 : decode cX9_part 105 = .ok (.istore 4, 2) := by decide +kernel
theorem dX9_part_107 : decode cX9_part 107 = .ok (.iinc 5 1, 3) := by decide +kernel
theorem dX9_part_110 : decode cX9_part 110 = .ok (.goto (-63), 3) := by decide +kernel
theorem dX9_part_113 : decode cX9_part 113 = .ok (.aload_n 0, 1) := by decide +kernel
theorem dX9_part_114 : decode cX9_part 114 = .ok (.invokevirtual 341, 3) := by decide +kernel
theorem dX9_part_117 : decode cX9_part 117 = .ok (.iload 4, 2) := by decide +kernel
theorem dX9_part_119 : decode cX9_part 119 = .ok (.ireturn, 1) := by decide +kernel
theorem dX9_feeds_0 : decode cX9_feeds 0 = .ok (.aload_n 0, 1) := by decide +kernel
theorem dX9_feeds_1 : decode cX9_feeds 1 = .ok (.iconst 0, 1) := by decide +kernel
theorem dX9_feeds_2 : decode cX9_feeds 2 = .ok (.iload_n 1, 1) := by decide +kernel
theorem dX9_feeds_3 : decode cX9_feeds 3 = .ok (.iload_n 2, 1) := by decide +kernel
theorem dX9_feeds_4 : decode cX9_feeds 4 = .ok (.invokevirtual 434, 3) := by decide +kernel
theorem dX9_feeds_7 : decode cX9_feeds 7 = .ok (.istore_n 3, 1) := by decide +kernel
theorem dX9_feeds_8 : decode cX9_feeds 8 = .ok (.iconst 0, 1) := by decide +kernel
theorem dX9_feeds_9 : decode cX9_feeds 9 = .ok (.istore 4, 2) := by decide +kernel
theorem dX9_feeds_11 : decode cX9_feeds 11 = .ok (.iconst 0, 1) := by decide +kernel
theorem dX9_feeds_12 : decode cX9_feeds 12 = .ok (.istore 5, 2) := by decide +kernel
theorem dX9_feeds_14 : decode cX9_feeds 14 = .ok (.iload 5, 2) := by decide +kernel
theorem dX9_feeds_16 : decode cX9_feeds 16 = .ok (.aload_n 0, 1) := by decide +kernel
theorem dX9_feeds_17 : decode cX9_feeds 17 = .ok (.getfield 219, 3) := by decide +kernel
theorem dX9_feeds_20 : decode cX9_feeds 20 = .ok (.if_icmp .ge 51, 3) := by decide +kernel
theorem dX9_feeds_23 : decode cX9_feeds 23 = .ok (.iload 4, 2) := by decide +kernel
theorem dX9_feeds_25 : decode cX9_feeds 25 = .ok (.aload_n 0, 1) := by decide +kernel
theorem dX9_feeds_26 : decode cX9_feeds 26 = .ok (.iconst 0, 1) := by decide +kernel
theorem dX9_feeds_27 : decode cX9_feeds 27 = .ok (.iload 5, 2) := by decide +kernel
theorem dX9_feeds_29 : decode cX9_feeds 29 = .ok (.iload_n 1, 1) := by decide +kernel
theorem dX9_feeds_30 : decode cX9_feeds 30 = .ok (.invokevirtual 431, 3) := by decide +kernel
theorem dX9_feeds_33 : decode cX9_feeds 33 = .ok (.ifCond .ne 7, 3) := by decide +kernel
theorem dX9_feeds_36 : decode cX9_feeds 36 = .ok (.iconst 0, 1) := by decide +kernel
theorem dX9_feeds_37 : decode cX9_feeds 37 = .ok (.goto 25, 3) := by decide +kernel
theorem dX9_feeds_40 : decode cX9_feeds 40 = .ok (.iload_n 3, 1) := by decide +kernel
theorem dX9_feeds_41 : decode cX9_feeds 41 = .ok (.aload_n 0, 1) := by decide +kernel
theorem dX9_feeds_42 : decode cX9_feeds 42 = .ok (.getfield 91, 3) := by decide +kernel
theorem dX9_feeds_45 : decode cX9_feeds 45 = .ok (.iload 5, 2) := by decide +kernel
theorem dX9_feeds_47 : decode cX9_feeds 47 = .ok (.iaload, 1) := by decide +kernel
theorem dX9_feeds_48 : decode cX9_feeds 48 = .ok (.if_icmp .ge 7, 3) := by decide +kernel
theorem dX9_feeds_51 : decode cX9_feeds 51 = .ok (.iload_n 3, 1) := by decide +kernel
theorem dX9_feeds_52 : decode cX9_feeds 52 = .ok (.goto 10, 3) := by decide +kernel
theorem dX9_feeds_55 : decode cX9_feeds 55 = .ok (.aload_n 0, 1) := by decide +kernel
theorem dX9_feeds_56 : decode cX9_feeds 56 = .ok (.getfield 91, 3) := by decide +kernel
theorem dX9_feeds_59 : decode cX9_feeds 59 = .ok (.iload 5, 2) := by decide +kernel
theorem dX9_feeds_61 : decode cX9_feeds 61 = .ok (.iaload, 1) := by decide +kernel
theorem dX9_feeds_62 : decode cX9_feeds 62 = .ok (.iadd, 1) := by decide +kernel
theorem dX9_feeds_63 : decode cX9_feeds 63 = .ok (.istore 4, 2) := by decide +kernel
theorem dX9_feeds_65 : decode cX9_feeds 65 = .ok (.iinc 5 1, 3) := by decide +kernel
theorem dX9_feeds_68 : decode cX9_feeds 68 = .ok (.goto (-54), 3) := by decide +kernel
theorem dX9_feeds_71 : decode cX9_feeds 71 = .ok (.iload 4, 2) := by decide +kernel
theorem dX9_feeds_73 : decode cX9_feeds 73 = .ok (.ireturn, 1) := by decide +kernel
theorem dX9_bestFed_0 : decode cX9_bestFed 0 = .ok (.aload_n 0, 1) := by decide +kernel
theorem dX9_bestFed_1 : decode cX9_bestFed 1 = .ok (.iconst 0, 1) := by decide +kernel
theorem dX9_bestFed_2 : decode cX9_bestFed 2 = .ok (.putfield 142, 3) := by decide +kernel
theorem dX9_bestFed_5 : decode cX9_bestFed 5 = .ok (.iload_n 1, 1) := by decide +kernel
theorem dX9_bestFed_6 : decode cX9_bestFed 6 = .ok (.iconst 0, 1) := by decide +kernel
theorem dX9_bestFed_7 : decode cX9_bestFed 7 = .ok (.iconst 1, 1) := by decide +kernel
theorem dX9_bestFed_8 : decode cX9_bestFed 8 = .ok (.invokestatic 187, 3) := by decide +kernel
theorem dX9_bestFed_11 : decode cX9_bestFed 11 = .ok (.ifCond .ne 5, 3) := by decide +kernel
theorem dX9_bestFed_14 : decode cX9_bestFed 14 = .ok (.iconst (-1), 1) := by decide +kernel
theorem dX9_bestFed_15 : decode cX9_bestFed 15 = .ok (.ireturn, 1) := by decide +kernel
theorem dX9_bestFed_16 : decode cX9_bestFed 16 = .ok (.aload_n 0, 1) := by decide +kernel
theorem dX9_bestFed_17 : decode cX9_bestFed 17 = .ok (.invokevirtual 341, 3) := by decide +kernel
theorem dX9_bestFed_20 : decode cX9_bestFed 20 = .ok (.bipush (-2), 2) := by decide +kernel
theorem dX9_bestFed_22 : decode cX9_bestFed 22 = .ok (.istore_n 2, 1) := by decide +kernel
theorem dX9_bestFed_23 : decode cX9_bestFed 23 = .ok (.bipush (-2), 2) := by decide +kernel
theorem dX9_bestFed_25 : decode cX9_bestFed 25 = .ok (.istore_n 3, 1) := by decide +kernel
theorem dX9_bestFed_26 : decode cX9_bestFed 26 = .ok (.iconst 0, 1) := by decide +kernel
theorem dX9_bestFed_27 : decode cX9_bestFed 27 = .ok (.istore 4, 2) := by decide +kernel
theorem dX9_bestFed_29 : decode cX9_bestFed 29 = .ok (.iload 4, 2) := by decide +kernel
theorem dX9_bestFed_31 : decode cX9_bestFed 31 = .ok (.aload_n 0, 1) := by decide +kernel
theorem dX9_bestFed_32 : decode cX9_bestFed 32 = .ok (.getfield 219, 3) := by decide +kernel
theorem dX9_bestFed_35 : decode cX9_bestFed 35 = .ok (.if_icmp .ge 73, 3) := by decide +kernel
theorem dX9_bestFed_38 : decode cX9_bestFed 38 = .ok (.aload_n 0, 1) := by decide +kernel
theorem dX9_bestFed_39 : decode cX9_bestFed 39 = .ok (.getfield 222, 3) := by decide +kernel
theorem dX9_bestFed_42 : decode cX9_bestFed 42 = .ok (.ifCond .le 66, 3) := by decide +kernel
theorem dX9_bestFed_45 : decode cX9_bestFed 45 = .ok (.aload_n 0, 1) := by decide +kernel
theorem dX9_bestFed_46 : decode cX9_bestFed 46 = .ok (.getfield 97, 3) := by decide +kernel
theorem dX9_bestFed_49 : decode cX9_bestFed 49 = .ok (.iload 4, 2) := by decide +kernel
theorem dX9_bestFed_51 : decode cX9_bestFed 51 = .ok (.baload, 1) := by decide +kernel
theorem dX9_bestFed_52 : decode cX9_bestFed 52 = .ok (.ifCond .eq 23, 3) := by decide +kernel
