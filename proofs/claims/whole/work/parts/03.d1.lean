theorem dX2_init_0 : decode cX2_init 0 = .ok (.aload_n 0, 1) := by decide +kernel
theorem dX2_init_1 : decode cX2_init 1 = .ok (.invokespecial 3, 3) := by decide +kernel
theorem dX2_init_4 : decode cX2_init 4 = .ok (.aload_n 0, 1) := by decide +kernel
theorem dX2_init_5 : decode cX2_init 5 = .ok (.iconst 0, 1) := by decide +kernel
theorem dX2_init_6 : decode cX2_init 6 = .ok (.putfield 9, 3) := by decide +kernel
theorem dX2_init_9 : decode cX2_init 9 = .ok (.aload_n 0, 1) := by decide +kernel
theorem dX2_init_10 : decode cX2_init 10 = .ok (.iconst 0, 1) := by decide +kernel
theorem dX2_init_11 : decode cX2_init 11 = .ok (.putfield 15, 3) := by decide +kernel
theorem dX2_init_14 : decode cX2_init 14 = .ok (.aload_n 0, 1) := by decide +kernel
theorem dX2_init_15 : decode cX2_init 15 = .ok (.iconst 0, 1) := by decide +kernel
theorem dX2_init_16 : decode cX2_init 16 = .ok (.putfield 18, 3) := by decide +kernel
theorem dX2_init_19 : decode cX2_init 19 = .ok (.aload_n 0, 1) := by decide +kernel
theorem dX2_init_20 : decode cX2_init 20 = .ok (.iconst 0, 1) := by decide +kernel
theorem dX2_init_21 : decode cX2_init 21 = .ok (.putfield 21, 3) := by decide +kernel
theorem dX2_init_24 : decode cX2_init 24 = .ok (.aload_n 0, 1) := by decide +kernel
theorem dX2_init_25 : decode cX2_init 25 = .ok (.iconst 0, 1) := by decide +kernel
theorem dX2_init_26 : decode cX2_init 26 = .ok (.putfield 24, 3) := by decide +kernel
theorem dX2_init_29 : decode cX2_init 29 = .ok (.aload_n 0, 1) := by decide +kernel
theorem dX2_init_30 : decode cX2_init 30 = .ok (.iconst 0, 1) := by decide +kernel
theorem dX2_init_31 : decode cX2_init 31 = .ok (.putfield 27, 3) := by decide +kernel
theorem dX2_init_34 : decode cX2_init 34 = .ok (.aload_n 0, 1) := by decide +kernel
theorem dX2_init_35 : decode cX2_init 35 = .ok (.iconst 0, 1) := by decide +kernel
theorem dX2_init_36 : decode cX2_init 36 = .ok (.putfield 30, 3) := by decide +kernel
theorem dX2_init_39 : decode cX2_init 39 = .ok (.aload_n 0, 1) := by decide +kernel
theorem dX2_init_40 : decode cX2_init 40 = .ok (.bipush 72, 2) := by decide +kernel
theorem dX2_init_42 : decode cX2_init 42 = .ok (.newarray .int, 2) := by decide +kernel
theorem dX2_init_44 : decode cX2_init 44 = .ok (.putfield 33, 3) := by decide +kernel
theorem dX2_init_47 : decode cX2_init 47 = .ok (.aload_n 0, 1) := by decide +kernel
theorem dX2_init_48 : decode cX2_init 48 = .ok (.new 37, 3) := by decide +kernel
theorem dX2_init_51 : decode cX2_init 51 = .ok (.dup, 1) := by decide +kernel
theorem dX2_init_52 : decode cX2_init 52 = .ok (.aload_n 1, 1) := by decide +kernel
theorem dX2_init_53 : decode cX2_init 53 = .ok (.invokespecial 39, 3) := by decide +kernel
theorem dX2_init_56 : decode cX2_init 56 = .ok (.putfield 42, 3) := by decide +kernel
theorem dX2_init_59 : decode cX2_init 59 = .ok (.aload_n 0, 1) := by decide +kernel
theorem dX2_init_60 : decode cX2_init 60 = .ok (.aload_n 2, 1) := by decide +kernel
theorem dX2_init_61 : decode cX2_init 61 = .ok (.putfield 46, 3) := by decide +kernel
theorem dX2_init_64 : decode cX2_init 64 = .ok (.return_, 1) := by decide +kernel
theorem dX2_read_0 : decode cX2_read 0 = .ok (.aload_n 0, 1) := by decide +kernel
theorem dX2_read_1 : decode cX2_read 1 = .ok (.iconst 0, 1) := by decide +kernel
theorem dX2_read_2 : decode cX2_read 2 = .ok (.putfield 9, 3) := by decide +kernel
theorem dX2_read_5 : decode cX2_read 5 = .ok (.aload_n 0, 1) := by decide +kernel
theorem dX2_read_6 : decode cX2_read 6 = .ok (.aload_n 2, 1) := by decide +kernel
theorem dX2_read_7 : decode cX2_read 7 = .ok (.putfield 46, 3) := by decide +kernel
theorem dX2_read_10 : decode cX2_read 10 = .ok (.aload_n 0, 1) := by decide +kernel
theorem dX2_read_11 : decode cX2_read 11 = .ok (.getfield 46, 3) := by decide +kernel
theorem dX2_read_14 : decode cX2_read 14 = .ok (.invokevirtual 50, 3) := by decide +kernel
theorem dX2_read_17 : decode cX2_read 17 = .ok (.aload_n 0, 1) := by decide +kernel
theorem dX2_read_18 : decode cX2_read 18 = .ok (.iconst 0, 1) := by decide +kernel
theorem dX2_read_19 : decode cX2_read 19 = .ok (.putfield 18, 3) := by decide +kernel
theorem dX2_read_22 : decode cX2_read 22 = .ok (.aload_n 0, 1) := by decide +kernel
theorem dX2_read_23 : decode cX2_read 23 = .ok (.iconst 0, 1) := by decide +kernel
theorem dX2_read_24 : decode cX2_read 24 = .ok (.putfield 24, 3) := by decide +kernel
theorem dX2_read_27 : decode cX2_read 27 = .ok (.aload_n 0, 1) := by decide +kernel
theorem dX2_read_28 : decode cX2_read 28 = .ok (.getfield 42, 3) := by decide +kernel
theorem dX2_read_31 : decode cX2_read 31 = .ok (.iload_n 1, 1) := by decide +kernel
theorem dX2_read_32 : decode cX2_read 32 = .ok (.invokevirtual 55, 3) := by decide +kernel
theorem dX2_read_35 : decode cX2_read 35 = .ok (.iconst 0, 1) := by decide +kernel
theorem dX2_read_36 : decode cX2_read 36 = .ok (.istore_n 3, 1) := by decide +kernel
theorem dX2_read_37 : decode cX2_read 37 = .ok (.iload_n 3, 1) := by decide +kernel
theorem dX2_read_38 : decode cX2_read 38 = .ok (.sipush 700, 3) := by decide +kernel
theorem dX2_read_41 : decode cX2_read 41 = .ok (.if_icmp .ge 32, 3) := by decide +kernel
theorem dX2_read_44 : decode cX2_read 44 = .ok (.aload_n 0, 1) := by decide +kernel
theorem dX2_read_45 : decode cX2_read 45 = .ok (.getfield 9, 3) := by decide +kernel
theorem dX2_read_48 : decode cX2_read 48 = .ok (.ifCond .ne 25, 3) := by decide +kernel
theorem dX2_read_51 : decode cX2_read 51 = .ok (.aload_n 0, 1) := by decide +kernel
theorem dX2_read_52 : decode cX2_read 52 = .ok (.getfield 42, 3) := by decide +kernel
theorem dX2_read_55 : decode cX2_read 55 = .ok (.getfield 59, 3) := by decide +kernel
theorem dX2_read_58 : decode cX2_read 58 = .ok (.bipush 35, 2) := by decide +kernel
theorem dX2_read_60 : decode cX2_read 60 = .ok (.if_icmp .eq 13, 3) := by decide +kernel
theorem dX2_read_63 : decode cX2_read 63 = .ok (.aload_n 0, 1) := by decide +kernel
theorem dX2_read_64 : decode cX2_read 64 = .ok (.invokevirtual 62, 3) := by decide +kernel
theorem dX2_read_67 : decode cX2_read 67 = .ok (.iinc 3 1, 3) := by decide +kernel
theorem dX2_read_70 : decode cX2_read 70 = .ok (.goto (-33), 3) := by decide +kernel
theorem dX2_read_73 : decode cX2_read 73 = .ok (.aload_n 0, 1) := by decide +kernel
theorem dX2_read_74 : decode cX2_read 74 = .ok (.getfield 9, 3) := by decide +kernel
theorem dX2_read_77 : decode cX2_read 77 = .ok (.ifCond .ne 7, 3) := by decide +kernel
theorem dX2_read_80 : decode cX2_read 80 = .ok (.iconst 1, 1) := by decide +kernel
theorem dX2_read_81 : decode cX2_read 81 = .ok (.goto 4, 3) := by decide +kernel
theorem dX2_read_84 : decode cX2_read 84 = .ok (.iconst 0, 1) := by decide +kernel
theorem dX2_read_85 : decode cX2_read 85 = .ok (.ireturn, 1) := by decide +kernel
theorem dX2_blame_0 : decode cX2_blame 0 = .ok (.aload_n 0, 1) := by decide +kernel
theorem dX2_blame_1 : decode cX2_blame 1 = .ok (.getfield 9, 3) := by decide +kernel
theorem dX2_blame_4 : decode cX2_blame 4 = .ok (.ifCond .ne 19, 3) := by decide +kernel
theorem dX2_blame_7 : decode cX2_blame 7 = .ok (.aload_n 0, 1) := by decide +kernel
theorem dX2_blame_8 : decode cX2_blame 8 = .ok (.iload_n 1, 1) := by decide +kernel
theorem dX2_blame_9 : decode cX2_blame 9 = .ok (.putfield 9, 3) := by decide +kernel
theorem dX2_blame_12 : decode cX2_blame 12 = .ok (.aload_n 0, 1) := by decide +kernel
theorem dX2_blame_13 : decode cX2_blame 13 = .ok (.aload_n 0, 1) := by decide +kernel
theorem dX2_blame_14 : decode cX2_blame 14 = .ok (.getfield 42, 3) := by decide +kernel
theorem dX2_blame_17 : decode cX2_blame 17 = .ok (.getfield 65, 3) := by decide +kernel
theorem dX2_blame_20 : decode cX2_blame 20 = .ok (.putfield 15, 3) := by decide +kernel
theorem dX2_blame_23 : decode cX2_blame 23 = .ok (.return_, 1) := by decide +kernel
theorem dX2_readLine_0 : decode cX2_readLine 0 = .ok (.aload_n 0, 1) := by decide +kernel
theorem dX2_readLine_1 : decode cX2_readLine 1 = .ok (.getfield 42, 3) := by decide +kernel
theorem dX2_readLine_4 : decode cX2_readLine 4 = .ok (.getfield 59, 3) := by decide +kernel
theorem dX2_readLine_7 : decode cX2_readLine 7 = .ok (.tableswitch 83 0 6 #[41, 48, 55, 62, 62, 62, 76], 41) := by decide +kernel
theorem dX2_readLine_48 : decode cX2_readLine 48 = .ok (.aload_n 0, 1) := by decide +kernel
theorem dX2_readLine_49 : decode cX2_readLine 49 = .ok (.invokevirtual 66, 3) := by decide +kernel
theorem dX2_readLine_52 : decode cX2_readLine 52 = .ok (.goto 43, 3) := by decide +kernel
theorem dX2_readLine_55 : decode cX2_readLine 55 = .ok (.aload_n 0, 1) := by decide +kernel
theorem dX2_readLine_56 : decode cX2_readLine 56 = .ok (.invokevirtual 69, 3) := by decide +kernel
theorem dX2_readLine_59 : decode cX2_readLine 59 = .ok (.goto 36, 3) := by decide +kernel
theorem dX2_readLine_62 : decode cX2_readLine 62 = .ok (.aload_n 0, 1) := by decide +kernel
theorem dX2_readLine_63 : decode cX2_readLine 63 = .ok (.invokevirtual 72, 3) := by decide +kernel
theorem dX2_readLine_66 : decode cX2_readLine 66 = .ok (.goto 29, 3) := by decide +kernel
theorem dX2_readLine_69 : decode cX2_readLine 69 = .ok (.aload_n 0, 1) := by decide +kernel
theorem dX2_readLine_70 : decode cX2_readLine 70 = .ok (.aload_n 0, 1) := by decide +kernel
theorem dX2_readLine_71 : decode cX2_readLine 71 = .ok (.getfield 42, 3) := by decide +kernel
theorem dX2_readLine_74 : decode cX2_readLine 74 = .ok (.getfield 59, 3) := by decide +kernel
theorem dX2_readLine_77 : decode cX2_readLine 77 = .ok (.invokevirtual 75, 3) := by decide +kernel
theorem dX2_readLine_80 : decode cX2_readLine 80 = .ok (.goto 15, 3) := by decide +kernel
theorem dX2_readLine_83 : decode cX2_readLine 83 = .ok (.aload_n 0, 1) := by decide +kernel
theorem dX2_readLine_84 : decode cX2_readLine 84 = .ok (.invokevirtual 78, 3) := by decide +kernel
theorem dX2_readLine_87 : decode cX2_readLine 87 = .ok (.goto 8, 3) := by decide +kernel
theorem dX2_readLine_90 : decode cX2_readLine 90 = .ok (.aload_n 0, 1) := by decide +kernel
theorem dX2_readLine_91 : decode cX2_readLine 91 = .ok (.iconst 1, 1) := by decide +kernel
theorem dX2_readLine_92 : decode cX2_readLine 92 = .ok (.invokevirtual 81, 3) := by decide +kernel
theorem dX2_readLine_95 : decode cX2_readLine 95 = .ok (.aload_n 0, 1) := by decide +kernel
theorem dX2_readLine_96 : decode cX2_readLine 96 = .ok (.getfield 42, 3) := by decide +kernel
theorem dX2_readLine_99 : decode cX2_readLine 99 = .ok (.getfield 59, 3) := by decide +kernel
theorem dX2_readLine_102 : decode cX2_readLine 102 = .ok (.bipush 32, 2) := by decide +kernel
theorem dX2_readLine_104 : decode cX2_readLine 104 = .ok (.if_icmp .eq 8, 3) := by decide +kernel
theorem dX2_readLine_107 : decode cX2_readLine 107 = .ok (.aload_n 0, 1) := by decide +kernel
theorem dX2_readLine_108 : decode cX2_readLine 108 = .ok (.iconst 1, 1) := by decide +kernel
theorem dX2_readLine_109 : decode cX2_readLine 109 = .ok (.invokevirtual 81, 3) := by decide +kernel
theorem dX2_readLine_112 : decode cX2_readLine 112 = .ok (.aload_n 0, 1) := by decide +kernel
theorem dX2_readLine_113 : decode cX2_readLine 113 = .ok (.getfield 9, 3) := by decide +kernel
theorem dX2_readLine_116 : decode cX2_readLine 116 = .ok (.ifCond .ne 23, 3) := by decide +kernel
theorem dX2_readLine_119 : decode cX2_readLine 119 = .ok (.aload_n 0, 1) := by decide +kernel
theorem dX2_readLine_120 : decode cX2_readLine 120 = .ok (.getfield 46, 3) := by decide +kernel
theorem dX2_readLine_123 : decode cX2_readLine 123 = .ok (.dup, 1) := by decide +kernel
theorem dX2_readLine_124 : decode cX2_readLine 124 = .ok (.getfield 84, 3) := by decide +kernel
theorem dX2_readLine_127 : decode cX2_readLine 127 = .ok (.iconst 1, 1) := by decide +kernel
theorem dX2_readLine_128 : decode cX2_readLine 128 = .ok (.iadd, 1) := by decide +kernel
theorem dX2_readLine_129 : decode cX2_readLine 129 = .ok (.putfield 84, 3) := by decide +kernel
theorem dX2_readLine_132 : decode cX2_readLine 132 = .ok (.aload_n 0, 1) := by decide +kernel
theorem dX2_readLine_133 : decode cX2_readLine 133 = .ok (.getfield 42, 3) := by decide +kernel
theorem dX2_readLine_136 : decode cX2_readLine 136 = .ok (.invokevirtual 87, 3) := by decide +kernel
theorem dX2_readLine_139 : decode cX2_readLine 139 = .ok (.return_, 1) := by decide +kernel
theorem dX2_readGuest_0 : decode cX2_readGuest 0 = .ok (.aload_n 0, 1) := by decide +kernel
theorem dX2_readGuest_1 : decode cX2_readGuest 1 = .ok (.getfield 46, 3) := by decide +kernel
theorem dX2_readGuest_4 : decode cX2_readGuest 4 = .ok (.getfield 90, 3) := by decide +kernel
theorem dX2_readGuest_7 : decode cX2_readGuest 7 = .ok (.istore_n 1, 1) := by decide +kernel
theorem dX2_readGuest_8 : decode cX2_readGuest 8 = .ok (.iload_n 1, 1) := by decide +kernel
theorem dX2_readGuest_9 : decode cX2_readGuest 9 = .ok (.bipush 6, 2) := by decide +kernel
theorem dX2_readGuest_11 : decode cX2_readGuest 11 = .ok (.if_icmp .lt 9, 3) := by decide +kernel
theorem dX2_readGuest_14 : decode cX2_readGuest 14 = .ok (.aload_n 0, 1) := by decide +kernel
theorem dX2_readGuest_15 : decode cX2_readGuest 15 = .ok (.iconst 2, 1) := by decide +kernel
theorem dX2_readGuest_16 : decode cX2_readGuest 16 = .ok (.invokevirtual 81, 3) := by decide +kernel
theorem dX2_readGuest_19 : decode cX2_readGuest 19 = .ok (.return_, 1) := by decide +kernel
theorem dX2_readGuest_20 : decode cX2_readGuest 20 = .ok (.aload_n 0, 1) := by decide +kernel
theorem dX2_readGuest_21 : decode cX2_readGuest 21 = .ok (.getfield 42, 3) := by decide +kernel
theorem dX2_readGuest_24 : decode cX2_readGuest 24 = .ok (.invokevirtual 87, 3) := by decide +kernel
theorem dX2_readGuest_27 : decode cX2_readGuest 27 = .ok (.aload_n 0, 1) := by decide +kernel
theorem dX2_readGuest_28 : decode cX2_readGuest 28 = .ok (.getfield 46, 3) := by decide +kernel
theorem dX2_readGuest_31 : decode cX2_readGuest 31 = .ok (.getfield 93, 3) := by decide +kernel
theorem dX2_readGuest_34 : decode cX2_readGuest 34 = .ok (.iload_n 1, 1) := by decide +kernel
theorem dX2_readGuest_35 : decode cX2_readGuest 35 = .ok (.aload_n 0, 1) := by decide +kernel
theorem dX2_readGuest_36 : decode cX2_readGuest 36 = .ok (.aload_n 0, 1) := by decide +kernel
theorem dX2_readGuest_37 : decode cX2_readGuest 37 = .ok (.getfield 46, 3) := by decide +kernel
theorem dX2_readGuest_40 : decode cX2_readGuest 40 = .ok (.aload_n 0, 1) := by decide +kernel
theorem dX2_readGuest_41 : decode cX2_readGuest 41 = .ok (.getfield 42, 3) := by decide +kernel
theorem dX2_readGuest_44 : decode cX2_readGuest 44 = .ok (.getfield 96, 3) := by decide +kernel
theorem dX2_readGuest_47 : decode cX2_readGuest 47 = .ok (.invokevirtual 99, 3) := by decide +kernel
theorem dX2_readGuest_50 : decode cX2_readGuest 50 = .ok (.invokevirtual 103, 3) := by decide +kernel
theorem dX2_readGuest_53 : decode cX2_readGuest 53 = .ok (.iastore, 1) := by decide +kernel
theorem dX2_readGuest_54 : decode cX2_readGuest 54 = .ok (.aload_n 0, 1) := by decide +kernel
theorem dX2_readGuest_55 : decode cX2_readGuest 55 = .ok (.getfield 46, 3) := by decide +kernel
theorem dX2_readGuest_58 : decode cX2_readGuest 58 = .ok (.getfield 106, 3) := by decide +kernel
theorem dX2_readGuest_61 : decode cX2_readGuest 61 = .ok (.iload_n 1, 1) := by decide +kernel
theorem dX2_readGuest_62 : decode cX2_readGuest 62 = .ok (.aload_n 0, 1) := by decide +kernel
theorem dX2_readGuest_63 : decode cX2_readGuest 63 = .ok (.iconst 0, 1) := by decide +kernel
theorem dX2_readGuest_64 : decode cX2_readGuest 64 = .ok (.bipush 99, 2) := by decide +kernel
theorem dX2_readGuest_66 : decode cX2_readGuest 66 = .ok (.invokevirtual 109, 3) := by decide +kernel
theorem dX2_readGuest_69 : decode cX2_readGuest 69 = .ok (.iastore, 1) := by decide +kernel
theorem dX2_readGuest_70 : decode cX2_readGuest 70 = .ok (.aload_n 0, 1) := by decide +kernel
theorem dX2_readGuest_71 : decode cX2_readGuest 71 = .ok (.getfield 46, 3) := by decide +kernel
theorem dX2_readGuest_74 : decode cX2_readGuest 74 = .ok (.getfield 113, 3) := by decide +kernel
theorem dX2_readGuest_77 : decode cX2_readGuest 77 = .ok (.iload_n 1, 1) := by decide +kernel
theorem dX2_readGuest_78 : decode cX2_readGuest 78 = .ok (.aload_n 0, 1) := by decide +kernel
theorem dX2_readGuest_79 : decode cX2_readGuest 79 = .ok (.iconst 0, 1) := by decide +kernel
theorem dX2_readGuest_80 : decode cX2_readGuest 80 = .ok (.bipush 98, 2) := by decide +kernel
theorem dX2_readGuest_82 : decode cX2_readGuest 82 = .ok (.invokevirtual 109, 3) := by decide +kernel
theorem dX2_readGuest_85 : decode cX2_readGuest 85 = .ok (.iastore, 1) := by decide +kernel
theorem dX2_readGuest_86 : decode cX2_readGuest 86 = .ok (.aload_n 0, 1) := by decide +kernel
theorem dX2_readGuest_87 : decode cX2_readGuest 87 = .ok (.getfield 46, 3) := by decide +kernel
theorem dX2_readGuest_90 : decode cX2_readGuest 90 = .ok (.getfield 116, 3) := by decide +kernel
theorem dX2_readGuest_93 : decode cX2_readGuest 93 = .ok (.iload_n 1, 1) := by decide +kernel
theorem dX2_readGuest_94 : decode cX2_readGuest 94 = .ok (.aload_n 0, 1) := by decide +kernel
theorem dX2_readGuest_95 : decode cX2_readGuest 95 = .ok (.iconst 0, 1) := by decide +kernel
theorem dX2_readGuest_96 : decode cX2_readGuest 96 = .ok (.bipush 9, 2) := by decide +kernel
theorem dX2_readGuest_98 : decode cX2_readGuest 98 = .ok (.invokevirtual 109, 3) := by decide +kernel
theorem dX2_readGuest_101 : decode cX2_readGuest 101 = .ok (.iastore, 1) := by decide +kernel
theorem dX2_readGuest_102 : decode cX2_readGuest 102 = .ok (.aload_n 0, 1) := by decide +kernel
theorem dX2_readGuest_103 : decode cX2_readGuest 103 = .ok (.getfield 46, 3) := by decide +kernel
theorem dX2_readGuest_106 : decode cX2_readGuest 106 = .ok (.dup, 1) := by decide +kernel
theorem dX2_readGuest_107 : decode cX2_readGuest 107 = .ok (.getfield 90, 3) := by decide +kernel
theorem dX2_readGuest_110 : decode cX2_readGuest 110 = .ok (.iconst 1, 1) := by decide +kernel
theorem dX2_readGuest_111 : decode cX2_readGuest 111 = .ok (.iadd, 1) := by decide +kernel
theorem dX2_readGuest_112 : decode cX2_readGuest 112 = .ok (.putfield 90, 3) := by decide +kernel
theorem dX2_readGuest_115 : decode cX2_readGuest 115 = .ok (.return_, 1) := by decide +kernel
theorem dX2_readFruit_0 : decode cX2_readFruit 0 = .ok (.aload_n 0, 1) := by decide +kernel
theorem dX2_readFruit_1 : decode cX2_readFruit 1 = .ok (.getfield 46, 3) := by decide +kernel
theorem dX2_readFruit_4 : decode cX2_readFruit 4 = .ok (.getfield 119, 3) := by decide +kernel
theorem dX2_readFruit_7 : decode cX2_readFruit 7 = .ok (.istore_n 1, 1) := by decide +kernel
theorem dX2_readFruit_8 : decode cX2_readFruit 8 = .ok (.iload_n 1, 1) := by decide +kernel
theorem dX2_readFruit_9 : decode cX2_readFruit 9 = .ok (.bipush 8, 2) := by decide +kernel
theorem dX2_readFruit_11 : decode cX2_readFruit 11 = .ok (.if_icmp .lt 9, 3) := by decide +kernel
theorem dX2_readFruit_14 : decode cX2_readFruit 14 = .ok (.aload_n 0, 1) := by decide +kernel
theorem dX2_readFruit_15 : decode cX2_readFruit 15 = .ok (.iconst 2, 1) := by decide +kernel
theorem dX2_readFruit_16 : decode cX2_readFruit 16 = .ok (.invokevirtual 81, 3) := by decide +kernel
theorem dX2_readFruit_19 : decode cX2_readFruit 19 = .ok (.return_, 1) := by decide +kernel
theorem dX2_readFruit_20 : decode cX2_readFruit 20 = .ok (.aload_n 0, 1) := by decide +kernel
theorem dX2_readFruit_21 : decode cX2_readFruit 21 = .ok (.getfield 42, 3) := by decide +kernel
theorem dX2_readFruit_24 : decode cX2_readFruit 24 = .ok (.invokevirtual 87, 3) := by decide +kernel
theorem dX2_readFruit_27 : decode cX2_readFruit 27 = .ok (.aload_n 0, 1) := by decide +kernel
theorem dX2_readFruit_28 : decode cX2_readFruit 28 = .ok (.getfield 46, 3) := by decide +kernel
theorem dX2_readFruit_31 : decode cX2_readFruit 31 = .ok (.getfield 122, 3) := by decide +kernel
theorem dX2_readFruit_34 : decode cX2_readFruit 34 = .ok (.iload_n 1, 1) := by decide +kernel
theorem dX2_readFruit_35 : decode cX2_readFruit 35 = .ok (.aload_n 0, 1) := by decide +kernel
theorem dX2_readFruit_36 : decode cX2_readFruit 36 = .ok (.aload_n 0, 1) := by decide +kernel
theorem dX2_readFruit_37 : decode cX2_readFruit 37 = .ok (.getfield 46, 3) := by decide +kernel
theorem dX2_readFruit_40 : decode cX2_readFruit 40 = .ok (.aload_n 0, 1) := by decide +kernel
theorem dX2_readFruit_41 : decode cX2_readFruit 41 = .ok (.getfield 42, 3) := by decide +kernel
theorem dX2_readFruit_44 : decode cX2_readFruit 44 = .ok (.getfield 96, 3) := by decide +kernel
theorem dX2_readFruit_47 : decode cX2_readFruit 47 = .ok (.invokevirtual 125, 3) := by decide +kernel
theorem dX2_readFruit_50 : decode cX2_readFruit 50 = .ok (.invokevirtual 103, 3) := by decide +kernel
theorem dX2_readFruit_53 : decode cX2_readFruit 53 = .ok (.iastore, 1) := by decide +kernel
theorem dX2_readFruit_54 : decode cX2_readFruit 54 = .ok (.aload_n 0, 1) := by decide +kernel
theorem dX2_readFruit_55 : decode cX2_readFruit 55 = .ok (.getfield 46, 3) := by decide +kernel
theorem dX2_readFruit_58 : decode cX2_readFruit 58 = .ok (.getfield 128, 3) := by decide +kernel
theorem dX2_readFruit_61 : decode cX2_readFruit 61 = .ok (.iload_n 1, 1) := by decide +kernel
theorem dX2_readFruit_62 : decode cX2_readFruit 62 = .ok (.aload_n 0, 1) := by decide +kernel
theorem dX2_readFruit_63 : decode cX2_readFruit 63 = .ok (.iconst 0, 1) := by decide +kernel
theorem dX2_readFruit_64 : decode cX2_readFruit 64 = .ok (.bipush 9, 2) := by decide +kernel
theorem dX2_readFruit_66 : decode cX2_readFruit 66 = .ok (.invokevirtual 109, 3) := by decide +kernel
theorem dX2_readFruit_69 : decode cX2_readFruit 69 = .ok (.iastore, 1) := by decide +kernel
theorem dX2_readFruit_70 : decode cX2_readFruit 70 = .ok (.aload_n 0, 1) := by decide +kernel
theorem dX2_readFruit_71 : decode cX2_readFruit 71 = .ok (.getfield 46, 3) := by decide +kernel
theorem dX2_readFruit_74 : decode cX2_readFruit 74 = .ok (.getfield 131, 3) := by decide +kernel
theorem dX2_readFruit_77 : decode cX2_readFruit 77 = .ok (.iload_n 1, 1) := by decide +kernel
theorem dX2_readFruit_78 : decode cX2_readFruit 78 = .ok (.aload_n 0, 1) := by decide +kernel
theorem dX2_readFruit_79 : decode cX2_readFruit 79 = .ok (.iconst 0, 1) := by decide +kernel
theorem dX2_readFruit_80 : decode cX2_readFruit 80 = .ok (.iconst 1, 1) := by decide +kernel
theorem dX2_readFruit_81 : decode cX2_readFruit 81 = .ok (.invokevirtual 109, 3) := by decide +kernel
theorem dX2_readFruit_84 : decode cX2_readFruit 84 = .ok (.iastore, 1) := by decide +kernel
theorem dX2_readFruit_85 : decode cX2_readFruit 85 = .ok (.aload_n 0, 1) := by decide +kernel
theorem dX2_readFruit_86 : decode cX2_readFruit 86 = .ok (.getfield 46, 3) := by decide +kernel
theorem dX2_readFruit_89 : decode cX2_readFruit 89 = .ok (.dup, 1) := by decide +kernel
theorem dX2_readFruit_90 : decode cX2_readFruit 90 = .ok (.getfield 119, 3) := by decide +kernel
theorem dX2_readFruit_93 : decode cX2_readFruit 93 = .ok (.iconst 1, 1) := by decide +kernel
theorem dX2_readFruit_94 : decode cX2_readFruit 94 = .ok (.iadd, 1) := by decide +kernel
theorem dX2_readFruit_95 : decode cX2_readFruit 95 = .ok (.putfield 119, 3) := by decide +kernel
theorem dX2_readFruit_98 : decode cX2_readFruit 98 = .ok (.return_, 1) := by decide +kernel
theorem dX2_readBite_0 : decode cX2_readBite 0 = .ok (.aload_n 0, 1) := by decide +kernel
theorem dX2_readBite_1 : decode cX2_readBite 1 = .ok (.getfield 46, 3) := by decide +kernel
theorem dX2_readBite_4 : decode cX2_readBite 4 = .ok (.getfield 134, 3) := by decide +kernel
theorem dX2_readBite_7 : decode cX2_readBite 7 = .ok (.istore_n 1, 1) := by decide +kernel
theorem dX2_readBite_8 : decode cX2_readBite 8 = .ok (.iload_n 1, 1) := by decide +kernel
theorem dX2_readBite_9 : decode cX2_readBite 9 = .ok (.bipush 8, 2) := by decide +kernel
theorem dX2_readBite_11 : decode cX2_readBite 11 = .ok (.if_icmp .lt 9, 3) := by decide +kernel
theorem dX2_readBite_14 : decode cX2_readBite 14 = .ok (.aload_n 0, 1) := by decide +kernel
theorem dX2_readBite_15 : decode cX2_readBite 15 = .ok (.iconst 2, 1) := by decide +kernel
theorem dX2_readBite_16 : decode cX2_readBite 16 = .ok (.invokevirtual 81, 3) := by decide +kernel
theorem dX2_readBite_19 : decode cX2_readBite 19 = .ok (.return_, 1) := by decide +kernel
theorem dX2_readBite_20 : decode cX2_readBite 20 = .ok (.aload_n 0, 1) := by decide +kernel
theorem dX2_readBite_21 : decode cX2_readBite 21 = .ok (.getfield 42, 3) := by decide +kernel
theorem dX2_readBite_24 : decode cX2_readBite 24 = .ok (.invokevirtual 87, 3) := by decide +kernel
theorem dX2_readBite_27 : decode cX2_readBite 27 = .ok (.aload_n 0, 1) := by decide +kernel
theorem dX2_readBite_28 : decode cX2_readBite 28 = .ok (.getfield 46, 3) := by decide +kernel
theorem dX2_readBite_31 : decode cX2_readBite 31 = .ok (.getfield 137, 3) := by decide +kernel
theorem dX2_readBite_34 : decode cX2_readBite 34 = .ok (.iload_n 1, 1) := by decide +kernel
theorem dX2_readBite_35 : decode cX2_readBite 35 = .ok (.aload_n 0, 1) := by decide +kernel
theorem dX2_readBite_36 : decode cX2_readBite 36 = .ok (.invokevirtual 140, 3) := by decide +kernel
theorem dX2_readBite_39 : decode cX2_readBite 39 = .ok (.iastore, 1) := by decide +kernel
theorem dX2_readBite_40 : decode cX2_readBite 40 = .ok (.aload_n 0, 1) := by decide +kernel
theorem dX2_readBite_41 : decode cX2_readBite 41 = .ok (.getfield 46, 3) := by decide +kernel
theorem dX2_readBite_44 : decode cX2_readBite 44 = .ok (.getfield 144, 3) := by decide +kernel
theorem dX2_readBite_47 : decode cX2_readBite 47 = .ok (.iload_n 1, 1) := by decide +kernel
theorem dX2_readBite_48 : decode cX2_readBite 48 = .ok (.aload_n 0, 1) := by decide +kernel
theorem dX2_readBite_49 : decode cX2_readBite 49 = .ok (.iconst 0, 1) := by decide +kernel
theorem dX2_readBite_50 : decode cX2_readBite 50 = .ok (.bipush 99, 2) := by decide +kernel
theorem dX2_readBite_52 : decode cX2_readBite 52 = .ok (.invokevirtual 109, 3) := by decide +kernel
theorem dX2_readBite_55 : decode cX2_readBite 55 = .ok (.iastore, 1) := by decide +kernel
theorem dX2_readBite_56 : decode cX2_readBite 56 = .ok (.aload_n 0, 1) := by decide +kernel
theorem dX2_readBite_57 : decode cX2_readBite 57 = .ok (.getfield 46, 3) := by decide +kernel
theorem dX2_readBite_60 : decode cX2_readBite 60 = .ok (.dup, 1) := by decide +kernel
theorem dX2_readBite_61 : decode cX2_readBite 61 = .ok (.getfield 134, 3) := by decide +kernel
theorem dX2_readBite_64 : decode cX2_readBite 64 = .ok (.iconst 1, 1) := by decide +kernel
theorem dX2_readBite_65 : decode cX2_readBite 65 = .ok (.iadd, 1) := by decide +kernel
theorem dX2_readBite_66 : decode cX2_readBite 66 = .ok (.putfield 134, 3) := by decide +kernel
theorem dX2_readBite_69 : decode cX2_readBite 69 = .ok (.return_, 1) := by decide +kernel
theorem dX2_readSetting_0 : decode cX2_readSetting 0 = .ok (.aload_n 0, 1) := by decide +kernel
theorem dX2_readSetting_1 : decode cX2_readSetting 1 = .ok (.getfield 18, 3) := by decide +kernel
theorem dX2_readSetting_4 : decode cX2_readSetting 4 = .ok (.iload_n 1, 1) := by decide +kernel
theorem dX2_readSetting_5 : decode cX2_readSetting 5 = .ok (.ishr, 1) := by decide +kernel
theorem dX2_readSetting_6 : decode cX2_readSetting 6 = .ok (.iconst 1, 1) := by decide +kernel
theorem dX2_readSetting_7 : decode cX2_readSetting 7 = .ok (.iand, 1) := by decide +kernel
theorem dX2_readSetting_8 : decode cX2_readSetting 8 = .ok (.ifCond .eq 9, 3) := by decide +kernel
theorem dX2_readSetting_11 : decode cX2_readSetting 11 = .ok (.aload_n 0, 1) := by decide +kernel
theorem dX2_readSetting_12 : decode cX2_readSetting 12 = .ok (.iconst 3, 1) := by decide +kernel
theorem dX2_readSetting_13 : decode cX2_readSetting 13 = .ok (.invokevirtual 81, 3) := by decide +kernel
theorem dX2_readSetting_16 : decode cX2_readSetting 16 = .ok (.return_, 1) := by decide +kernel
theorem dX2_readSetting_17 : decode cX2_readSetting 17 = .ok (.aload_n 0, 1) := by decide +kernel
theorem dX2_readSetting_18 : decode cX2_readSetting 18 = .ok (.dup, 1) := by decide +kernel
theorem dX2_readSetting_19 : decode cX2_readSetting 19 = .ok (.getfield 18, 3) := by decide +kernel
theorem dX2_readSetting_22 : decode cX2_readSetting 22 = .ok (.iconst 1, 1) := by decide +kernel
theorem dX2_readSetting_23 : decode cX2_readSetting 23 = .ok (.iload_n 1, 1) := by decide +kernel
theorem dX2_readSetting_24 : decode cX2_readSetting 24 = .ok (.ishl, 1) := by decide +kernel
theorem dX2_readSetting_25 : decode cX2_readSetting 25 = .ok (.ior, 1) := by decide +kernel
theorem dX2_readSetting_26 : decode cX2_readSetting 26 = .ok (.putfield 18, 3) := by decide +kernel
theorem dX2_readSetting_29 : decode cX2_readSetting 29 = .ok (.aload_n 0, 1) := by decide +kernel
theorem dX2_readSetting_30 : decode cX2_readSetting 30 = .ok (.getfield 42, 3) := by decide +kernel
theorem dX2_readSetting_33 : decode cX2_readSetting 33 = .ok (.invokevirtual 87, 3) := by decide +kernel
theorem dX2_readSetting_36 : decode cX2_readSetting 36 = .ok (.iload_n 1, 1) := by decide +kernel
theorem dX2_readSetting_37 : decode cX2_readSetting 37 = .ok (.iconst 3, 1) := by decide +kernel
theorem dX2_readSetting_38 : decode cX2_readSetting 38 = .ok (.if_icmp .ne 19, 3) := by decide +kernel
theorem dX2_readSetting_41 : decode cX2_readSetting 41 = .ok (.aload_n 0, 1) := by decide +kernel
theorem dX2_readSetting_42 : decode cX2_readSetting 42 = .ok (.getfield 46, 3) := by decide +kernel
theorem dX2_readSetting_45 : decode cX2_readSetting 45 = .ok (.aload_n 0, 1) := by decide +kernel
theorem dX2_readSetting_46 : decode cX2_readSetting 46 = .ok (.iconst 1, 1) := by decide +kernel
theorem dX2_readSetting_47 : decode cX2_readSetting 47 = .ok (.iconst 5, 1) := by decide +kernel
theorem dX2_readSetting_48 : decode cX2_readSetting 48 = .ok (.invokevirtual 109, 3) := by decide +kernel
theorem dX2_readSetting_51 : decode cX2_readSetting 51 = .ok (.putfield 147, 3) := by decide +kernel
theorem dX2_readSetting_54 : decode cX2_readSetting 54 = .ok (.goto 39, 3) := by decide +kernel
theorem dX2_readSetting_57 : decode cX2_readSetting 57 = .ok (.iload_n 1, 1) := by decide +kernel
theorem dX2_readSetting_58 : decode cX2_readSetting 58 = .ok (.iconst 4, 1) := by decide +kernel
theorem dX2_readSetting_59 : decode cX2_readSetting 59 = .ok (.if_icmp .ne 20, 3) := by decide +kernel
theorem dX2_readSetting_62 : decode cX2_readSetting 62 = .ok (.aload_n 0, 1) := by decide +kernel
theorem dX2_readSetting_63 : decode cX2_readSetting 63 = .ok (.getfield 46, 3) := by decide +kernel
theorem dX2_readSetting_66 : decode cX2_readSetting 66 = .ok (.aload_n 0, 1) := by decide +kernel
theorem dX2_readSetting_67 : decode cX2_readSetting 67 = .ok (.iconst 0, 1) := by decide +kernel
theorem dX2_readSetting_68 : decode cX2_readSetting 68 = .ok (.bipush 100, 2) := by decide +kernel
theorem dX2_readSetting_70 : decode cX2_readSetting 70 = .ok (.invokevirtual 109, 3) := by decide +kernel
theorem dX2_readSetting_73 : decode cX2_readSetting 73 = .ok (.putfield 150, 3) := by decide +kernel
theorem dX2_readSetting_76 : decode cX2_readSetting 76 = .ok (.goto 17, 3) := by decide +kernel
theorem dX2_readSetting_79 : decode cX2_readSetting 79 = .ok (.aload_n 0, 1) := by decide +kernel
theorem dX2_readSetting_80 : decode cX2_readSetting 80 = .ok (.getfield 46, 3) := by decide +kernel
theorem dX2_readSetting_83 : decode cX2_readSetting 83 = .ok (.aload_n 0, 1) := by decide +kernel
theorem dX2_readSetting_84 : decode cX2_readSetting 84 = .ok (.iconst 0, 1) := by decide +kernel
theorem dX2_readSetting_85 : decode cX2_readSetting 85 = .ok (.ldc 153, 2) := by decide +kernel
theorem dX2_readSetting_87 : decode cX2_readSetting 87 = .ok (.invokevirtual 109, 3) := by decide +kernel
theorem dX2_readSetting_90 : decode cX2_readSetting 90 = .ok (.putfield 154, 3) := by decide +kernel
theorem dX2_readSetting_93 : decode cX2_readSetting 93 = .ok (.return_, 1) := by decide +kernel
theorem dX2_readLaw_0 : decode cX2_readLaw 0 = .ok (.aload_n 0, 1) := by decide +kernel
theorem dX2_readLaw_1 : decode cX2_readLaw 1 = .ok (.getfield 42, 3) := by decide +kernel
theorem dX2_readLaw_4 : decode cX2_readLaw 4 = .ok (.invokevirtual 87, 3) := by decide +kernel
theorem dX2_readLaw_7 : decode cX2_readLaw 7 = .ok (.aload_n 0, 1) := by decide +kernel
theorem dX2_readLaw_8 : decode cX2_readLaw 8 = .ok (.getfield 42, 3) := by decide +kernel
theorem dX2_readLaw_11 : decode cX2_readLaw 11 = .ok (.getfield 59, 3) := by decide +kernel
theorem dX2_readLaw_14 : decode cX2_readLaw 14 = .ok (.bipush 7, 2) := by decide +kernel
theorem dX2_readLaw_16 : decode cX2_readLaw 16 = .ok (.if_icmp .lt 15, 3) := by decide +kernel
theorem dX2_readLaw_19 : decode cX2_readLaw 19 = .ok (.aload_n 0, 1) := by decide +kernel
theorem dX2_readLaw_20 : decode cX2_readLaw 20 = .ok (.getfield 42, 3) := by decide +kernel
theorem dX2_readLaw_23 : decode cX2_readLaw 23 = .ok (.getfield 59, 3) := by decide +kernel
theorem dX2_readLaw_26 : decode cX2_readLaw 26 = .ok (.bipush 9, 2) := by decide +kernel
theorem dX2_readLaw_28 : decode cX2_readLaw 28 = .ok (.if_icmp .le 9, 3) := by decide +kernel
theorem dX2_readLaw_31 : decode cX2_readLaw 31 = .ok (.aload_n 0, 1) := by decide +kernel
theorem dX2_readLaw_32 : decode cX2_readLaw 32 = .ok (.iconst 1, 1) := by decide +kernel
theorem dX2_readLaw_33 : decode cX2_readLaw 33 = .ok (.invokevirtual 81, 3) := by decide +kernel
theorem dX2_readLaw_36 : decode cX2_readLaw 36 = .ok (.return_, 1) := by decide +kernel
theorem dX2_readLaw_37 : decode cX2_readLaw 37 = .ok (.aload_n 0, 1) := by decide +kernel
theorem dX2_readLaw_38 : decode cX2_readLaw 38 = .ok (.aload_n 0, 1) := by decide +kernel
theorem dX2_readLaw_39 : decode cX2_readLaw 39 = .ok (.getfield 42, 3) := by decide +kernel
theorem dX2_readLaw_42 : decode cX2_readLaw 42 = .ok (.getfield 59, 3) := by decide +kernel
theorem dX2_readLaw_45 : decode cX2_readLaw 45 = .ok (.bipush 7, 2) := by decide +kernel
theorem dX2_readLaw_47 : decode cX2_readLaw 47 = .ok (.isub, 1) := by decide +kernel
theorem dX2_readLaw_48 : decode cX2_readLaw 48 = .ok (.putfield 21, 3) := by decide +kernel
theorem dX2_readLaw_51 : decode cX2_readLaw 51 = .ok (.aload_n 0, 1) := by decide +kernel
theorem dX2_readLaw_52 : decode cX2_readLaw 52 = .ok (.getfield 46, 3) := by decide +kernel
theorem dX2_readLaw_55 : decode cX2_readLaw 55 = .ok (.getfield 157, 3) := by decide +kernel
theorem dX2_readLaw_58 : decode cX2_readLaw 58 = .ok (.aload_n 0, 1) := by decide +kernel
theorem dX2_readLaw_59 : decode cX2_readLaw 59 = .ok (.getfield 21, 3) := by decide +kernel
theorem dX2_readLaw_62 : decode cX2_readLaw 62 = .ok (.invokevirtual 161, 3) := by decide +kernel
theorem dX2_readLaw_65 : decode cX2_readLaw 65 = .ok (.ifCond .eq 9, 3) := by decide +kernel
theorem dX2_readLaw_68 : decode cX2_readLaw 68 = .ok (.aload_n 0, 1) := by decide +kernel
theorem dX2_readLaw_69 : decode cX2_readLaw 69 = .ok (.iconst 3, 1) := by decide +kernel
theorem dX2_readLaw_70 : decode cX2_readLaw 70 = .ok (.invokevirtual 81, 3) := by decide +kernel
theorem dX2_readLaw_73 : decode cX2_readLaw 73 = .ok (.return_, 1) := by decide +kernel
theorem dX2_readLaw_74 : decode cX2_readLaw 74 = .ok (.aload_n 0, 1) := by decide +kernel
theorem dX2_readLaw_75 : decode cX2_readLaw 75 = .ok (.getfield 46, 3) := by decide +kernel
theorem dX2_readLaw_78 : decode cX2_readLaw 78 = .ok (.getfield 157, 3) := by decide +kernel
theorem dX2_readLaw_81 : decode cX2_readLaw 81 = .ok (.aload_n 0, 1) := by decide +kernel
theorem dX2_readLaw_82 : decode cX2_readLaw 82 = .ok (.getfield 21, 3) := by decide +kernel
theorem dX2_readLaw_85 : decode cX2_readLaw 85 = .ok (.invokevirtual 167, 3) := by decide +kernel
theorem dX2_readLaw_88 : decode cX2_readLaw 88 = .ok (.aload_n 0, 1) := by decide +kernel
theorem dX2_readLaw_89 : decode cX2_readLaw 89 = .ok (.getfield 42, 3) := by decide +kernel
theorem dX2_readLaw_92 : decode cX2_readLaw 92 = .ok (.invokevirtual 87, 3) := by decide +kernel
theorem dX2_readLaw_95 : decode cX2_readLaw 95 = .ok (.aload_n 0, 1) := by decide +kernel
theorem dX2_readLaw_96 : decode cX2_readLaw 96 = .ok (.iconst 0, 1) := by decide +kernel
theorem dX2_readLaw_97 : decode cX2_readLaw 97 = .ok (.putfield 27, 3) := by decide +kernel
theorem dX2_readLaw_100 : decode cX2_readLaw 100 = .ok (.aload_n 0, 1) := by decide +kernel
theorem dX2_readLaw_101 : decode cX2_readLaw 101 = .ok (.iconst 0, 1) := by decide +kernel
theorem dX2_readLaw_102 : decode cX2_readLaw 102 = .ok (.putfield 30, 3) := by decide +kernel
theorem dX2_readLaw_105 : decode cX2_readLaw 105 = .ok (.iconst 1, 1) := by decide +kernel
theorem dX2_readLaw_106 : decode cX2_readLaw 106 = .ok (.istore_n 1, 1) := by decide +kernel
theorem dX2_readLaw_107 : decode cX2_readLaw 107 = .ok (.iconst 0, 1) := by decide +kernel
theorem dX2_readLaw_108 : decode cX2_readLaw 108 = .ok (.istore_n 2, 1) := by decide +kernel
theorem dX2_readLaw_109 : decode cX2_readLaw 109 = .ok (.iconst 0, 1) := by decide +kernel
theorem dX2_readLaw_110 : decode cX2_readLaw 110 = .ok (.istore_n 3, 1) := by decide +kernel
theorem dX2_readLaw_111 : decode cX2_readLaw 111 = .ok (.iload_n 3, 1) := by decide +kernel
theorem dX2_readLaw_112 : decode cX2_readLaw 112 = .ok (.sipush 700, 3) := by decide +kernel
theorem dX2_readLaw_115 : decode cX2_readLaw 115 = .ok (.if_icmp .gt 61, 3) := by decide +kernel
theorem dX2_readLaw_118 : decode cX2_readLaw 118 = .ok (.aload_n 0, 1) := by decide +kernel
theorem dX2_readLaw_119 : decode cX2_readLaw 119 = .ok (.getfield 9, 3) := by decide +kernel
theorem dX2_readLaw_122 : decode cX2_readLaw 122 = .ok (.ifCond .ne 54, 3) := by decide +kernel
theorem dX2_readLaw_125 : decode cX2_readLaw 125 = .ok (.iload_n 2, 1) := by decide +kernel
theorem dX2_readLaw_126 : decode cX2_readLaw 126 = .ok (.ifCond .ne 50, 3) := by decide +kernel
theorem dX2_readLaw_129 : decode cX2_readLaw 129 = .ok (.iload_n 1, 1) := by decide +kernel
theorem dX2_readLaw_130 : decode cX2_readLaw 130 = .ok (.ifCond .eq 11, 3) := by decide +kernel
theorem dX2_readLaw_133 : decode cX2_readLaw 133 = .ok (.aload_n 0, 1) := by decide +kernel
theorem dX2_readLaw_134 : decode cX2_readLaw 134 = .ok (.invokevirtual 169, 3) := by decide +kernel
theorem dX2_readLaw_137 : decode cX2_readLaw 137 = .ok (.istore_n 1, 1) := by decide +kernel
theorem dX2_readLaw_138 : decode cX2_readLaw 138 = .ok (.goto 32, 3) := by decide +kernel
theorem dX2_readLaw_141 : decode cX2_readLaw 141 = .ok (.aload_n 0, 1) := by decide +kernel
theorem dX2_readLaw_142 : decode cX2_readLaw 142 = .ok (.getfield 42, 3) := by decide +kernel
theorem dX2_readLaw_145 : decode cX2_readLaw 145 = .ok (.getfield 59, 3) := by decide +kernel
theorem dX2_readLaw_148 : decode cX2_readLaw 148 = .ok (.bipush 32, 2) := by decide +kernel
theorem dX2_readLaw_150 : decode cX2_readLaw 150 = .ok (.if_icmp .ne 15, 3) := by decide +kernel
theorem dX2_readLaw_153 : decode cX2_readLaw 153 = .ok (.aload_n 0, 1) := by decide +kernel
theorem dX2_readLaw_154 : decode cX2_readLaw 154 = .ok (.getfield 27, 3) := by decide +kernel
theorem dX2_readLaw_157 : decode cX2_readLaw 157 = .ok (.ifCond .ne 8, 3) := by decide +kernel
theorem dX2_readLaw_160 : decode cX2_readLaw 160 = .ok (.iconst 1, 1) := by decide +kernel
theorem dX2_readLaw_161 : decode cX2_readLaw 161 = .ok (.istore_n 2, 1) := by decide +kernel
theorem dX2_readLaw_162 : decode cX2_readLaw 162 = .ok (.goto 8, 3) := by decide +kernel
theorem dX2_readLaw_165 : decode cX2_readLaw 165 = .ok (.aload_n 0, 1) := by decide +kernel
theorem dX2_readLaw_166 : decode cX2_readLaw 166 = .ok (.invokevirtual 173, 3) := by decide +kernel
theorem dX2_readLaw_169 : decode cX2_readLaw 169 = .ok (.istore_n 1, 1) := by decide +kernel
theorem dX2_readLaw_170 : decode cX2_readLaw 170 = .ok (.iinc 3 1, 3) := by decide +kernel
theorem dX2_readLaw_173 : decode cX2_readLaw 173 = .ok (.goto (-62), 3) := by decide +kernel
theorem dX2_readLaw_176 : decode cX2_readLaw 176 = .ok (.aload_n 0, 1) := by decide +kernel
theorem dX2_readLaw_177 : decode cX2_readLaw 177 = .ok (.iconst 1, 1) := by decide +kernel
theorem dX2_readLaw_178 : decode cX2_readLaw 178 = .ok (.invokevirtual 176, 3) := by decide +kernel
theorem dX2_readLaw_181 : decode cX2_readLaw 181 = .ok (.return_, 1) := by decide +kernel
theorem dX2_takeNewName_0 : decode cX2_takeNewName 0 = .ok (.aload_n 0, 1) := by decide +kernel
theorem dX2_takeNewName_1 : decode cX2_takeNewName 1 = .ok (.getfield 42, 3) := by decide +kernel
theorem dX2_takeNewName_4 : decode cX2_takeNewName 4 = .ok (.getfield 96, 3) := by decide +kernel
theorem dX2_takeNewName_7 : decode cX2_takeNewName 7 = .ok (.istore_n 2, 1) := by decide +kernel
theorem dX2_takeNewName_8 : decode cX2_takeNewName 8 = .ok (.aload_n 0, 1) := by decide +kernel
theorem dX2_takeNewName_9 : decode cX2_takeNewName 9 = .ok (.getfield 42, 3) := by decide +kernel
theorem dX2_takeNewName_12 : decode cX2_takeNewName 12 = .ok (.getfield 59, 3) := by decide +kernel
theorem dX2_takeNewName_15 : decode cX2_takeNewName 15 = .ok (.bipush 34, 2) := by decide +kernel
theorem dX2_takeNewName_17 : decode cX2_takeNewName 17 = .ok (.if_icmp .eq 11, 3) := by decide +kernel
theorem dX2_takeNewName_20 : decode cX2_takeNewName 20 = .ok (.aload_n 0, 1) := by decide +kernel
theorem dX2_takeNewName_21 : decode cX2_takeNewName 21 = .ok (.iconst 1, 1) := by decide +kernel
theorem dX2_takeNewName_22 : decode cX2_takeNewName 22 = .ok (.invokevirtual 81, 3) := by decide +kernel
theorem dX2_takeNewName_25 : decode cX2_takeNewName 25 = .ok (.goto 13, 3) := by decide +kernel
theorem dX2_takeNewName_28 : decode cX2_takeNewName 28 = .ok (.iload_n 1, 1) := by decide +kernel
theorem dX2_takeNewName_29 : decode cX2_takeNewName 29 = .ok (.iconst (-1), 1) := by decide +kernel
theorem dX2_takeNewName_30 : decode cX2_takeNewName 30 = .ok (.if_icmp .eq 8, 3) := by decide +kernel
theorem dX2_takeNewName_33 : decode cX2_takeNewName 33 = .ok (.aload_n 0, 1) := by decide +kernel
theorem dX2_takeNewName_34 : decode cX2_takeNewName 34 = .ok (.iconst 3, 1) := by decide +kernel
theorem dX2_takeNewName_35 : decode cX2_takeNewName 35 = .ok (.invokevirtual 81, 3) := by decide +kernel
theorem dX2_takeNewName_38 : decode cX2_takeNewName 38 = .ok (.aload_n 0, 1) := by decide +kernel
theorem dX2_takeNewName_39 : decode cX2_takeNewName 39 = .ok (.invokevirtual 179, 3) := by decide +kernel
theorem dX2_takeNewName_42 : decode cX2_takeNewName 42 = .ok (.iload_n 2, 1) := by decide +kernel
theorem dX2_takeNewName_43 : decode cX2_takeNewName 43 = .ok (.ireturn, 1) := by decide +kernel
theorem dX2_takeGuest_0 : decode cX2_takeGuest 0 = .ok (.aload_n 0, 1) := by decide +kernel
theorem dX2_takeGuest_1 : decode cX2_takeGuest 1 = .ok (.getfield 46, 3) := by decide +kernel
theorem dX2_takeGuest_4 : decode cX2_takeGuest 4 = .ok (.aload_n 0, 1) := by decide +kernel
theorem dX2_takeGuest_5 : decode cX2_takeGuest 5 = .ok (.getfield 42, 3) := by decide +kernel
theorem dX2_takeGuest_8 : decode cX2_takeGuest 8 = .ok (.getfield 96, 3) := by decide +kernel
theorem dX2_takeGuest_11 : decode cX2_takeGuest 11 = .ok (.invokevirtual 99, 3) := by decide +kernel
theorem dX2_takeGuest_14 : decode cX2_takeGuest 14 = .ok (.istore_n 1, 1) := by decide +kernel
theorem dX2_takeGuest_15 : decode cX2_takeGuest 15 = .ok (.aload_n 0, 1) := by decide +kernel
theorem dX2_takeGuest_16 : decode cX2_takeGuest 16 = .ok (.getfield 42, 3) := by decide +kernel
theorem dX2_takeGuest_19 : decode cX2_takeGuest 19 = .ok (.getfield 59, 3) := by decide +kernel
theorem dX2_takeGuest_22 : decode cX2_takeGuest 22 = .ok (.bipush 34, 2) := by decide +kernel
theorem dX2_takeGuest_24 : decode cX2_takeGuest 24 = .ok (.if_icmp .eq 11, 3) := by decide +kernel
theorem dX2_takeGuest_27 : decode cX2_takeGuest 27 = .ok (.aload_n 0, 1) := by decide +kernel
theorem dX2_takeGuest_28 : decode cX2_takeGuest 28 = .ok (.iconst 1, 1) := by decide +kernel
theorem dX2_takeGuest_29 : decode cX2_takeGuest 29 = .ok (.invokevirtual 81, 3) := by decide +kernel
theorem dX2_takeGuest_32 : decode cX2_takeGuest 32 = .ok (.goto 13, 3) := by decide +kernel
theorem dX2_takeGuest_35 : decode cX2_takeGuest 35 = .ok (.iload_n 1, 1) := by decide +kernel
theorem dX2_takeGuest_36 : decode cX2_takeGuest 36 = .ok (.iconst (-1), 1) := by decide +kernel
theorem dX2_takeGuest_37 : decode cX2_takeGuest 37 = .ok (.if_icmp .ne 8, 3) := by decide +kernel
theorem dX2_takeGuest_40 : decode cX2_takeGuest 40 = .ok (.aload_n 0, 1) := by decide +kernel
theorem dX2_takeGuest_41 : decode cX2_takeGuest 41 = .ok (.iconst 4, 1) := by decide +kernel
theorem dX2_takeGuest_42 : decode cX2_takeGuest 42 = .ok (.invokevirtual 81, 3) := by decide +kernel
theorem dX2_takeGuest_45 : decode cX2_takeGuest 45 = .ok (.aload_n 0, 1) := by decide +kernel
theorem dX2_takeGuest_46 : decode cX2_takeGuest 46 = .ok (.invokevirtual 179, 3) := by decide +kernel
theorem dX2_takeGuest_49 : decode cX2_takeGuest 49 = .ok (.iload_n 1, 1) := by decide +kernel
theorem dX2_takeGuest_50 : decode cX2_takeGuest 50 = .ok (.ireturn, 1) := by decide +kernel
theorem dX2_takeNumber_0 : decode cX2_takeNumber 0 = .ok (.aload_n 0, 1) := by decide +kernel
theorem dX2_takeNumber_1 : decode cX2_takeNumber 1 = .ok (.getfield 42, 3) := by decide +kernel
theorem dX2_takeNumber_4 : decode cX2_takeNumber 4 = .ok (.getfield 96, 3) := by decide +kernel
theorem dX2_takeNumber_7 : decode cX2_takeNumber 7 = .ok (.istore_n 3, 1) := by decide +kernel
theorem dX2_takeNumber_8 : decode cX2_takeNumber 8 = .ok (.aload_n 0, 1) := by decide +kernel
theorem dX2_takeNumber_9 : decode cX2_takeNumber 9 = .ok (.getfield 42, 3) := by decide +kernel
theorem dX2_takeNumber_12 : decode cX2_takeNumber 12 = .ok (.getfield 59, 3) := by decide +kernel
theorem dX2_takeNumber_15 : decode cX2_takeNumber 15 = .ok (.bipush 33, 2) := by decide +kernel
theorem dX2_takeNumber_17 : decode cX2_takeNumber 17 = .ok (.if_icmp .eq 11, 3) := by decide +kernel
theorem dX2_takeNumber_20 : decode cX2_takeNumber 20 = .ok (.aload_n 0, 1) := by decide +kernel
theorem dX2_takeNumber_21 : decode cX2_takeNumber 21 = .ok (.iconst 1, 1) := by decide +kernel
theorem dX2_takeNumber_22 : decode cX2_takeNumber 22 = .ok (.invokevirtual 81, 3) := by decide +kernel
theorem dX2_takeNumber_25 : decode cX2_takeNumber 25 = .ok (.goto 18, 3) := by decide +kernel
theorem dX2_takeNumber_28 : decode cX2_takeNumber 28 = .ok (.iload_n 3, 1) := by decide +kernel
theorem dX2_takeNumber_29 : decode cX2_takeNumber 29 = .ok (.iload_n 1, 1) := by decide +kernel
theorem dX2_takeNumber_30 : decode cX2_takeNumber 30 = .ok (.if_icmp .lt 8, 3) := by decide +kernel
theorem dX2_takeNumber_33 : decode cX2_takeNumber 33 = .ok (.iload_n 3, 1) := by decide +kernel
theorem dX2_takeNumber_34 : decode cX2_takeNumber 34 = .ok (.iload_n 2, 1) := by decide +kernel
theorem dX2_takeNumber_35 : decode cX2_takeNumber 35 = .ok (.if_icmp .le 8, 3) := by decide +kernel
theorem dX2_takeNumber_38 : decode cX2_takeNumber 38 = .ok (.aload_n 0, 1) := by decide +kernel
theorem dX2_takeNumber_39 : decode cX2_takeNumber 39 = .ok (.iconst 2, 1) := by decide +kernel
theorem dX2_takeNumber_40 : decode cX2_takeNumber 40 = .ok (.invokevirtual 81, 3) := by decide +kernel
theorem dX2_takeNumber_43 : decode cX2_takeNumber 43 = .ok (.aload_n 0, 1) := by decide +kernel
theorem dX2_takeNumber_44 : decode cX2_takeNumber 44 = .ok (.invokevirtual 179, 3) := by decide +kernel
theorem dX2_takeNumber_47 : decode cX2_takeNumber 47 = .ok (.iload_n 3, 1) := by decide +kernel
theorem dX2_takeNumber_48 : decode cX2_takeNumber 48 = .ok (.ireturn, 1) := by decide +kernel
theorem dX2_goOnIfGood_0 : decode cX2_goOnIfGood 0 = .ok (.aload_n 0, 1) := by decide +kernel
theorem dX2_goOnIfGood_1 : decode cX2_goOnIfGood 1 = .ok (.getfield 9, 3) := by decide +kernel
theorem dX2_goOnIfGood_4 : decode cX2_goOnIfGood 4 = .ok (.ifCond .ne 10, 3) := by decide +kernel
theorem dX2_goOnIfGood_7 : decode cX2_goOnIfGood 7 = .ok (.aload_n 0, 1) := by decide +kernel
theorem dX2_goOnIfGood_8 : decode cX2_goOnIfGood 8 = .ok (.getfield 42, 3) := by decide +kernel
theorem dX2_goOnIfGood_11 : decode cX2_goOnIfGood 11 = .ok (.invokevirtual 87, 3) := by decide +kernel
theorem dX2_goOnIfGood_14 : decode cX2_goOnIfGood 14 = .ok (.return_, 1) := by decide +kernel
theorem dX2_readTowardsValue_0 : decode cX2_readTowardsValue 0 = .ok (.aload_n 0, 1) := by decide +kernel
theorem dX2_readTowardsValue_1 : decode cX2_readTowardsValue 1 = .ok (.getfield 42, 3) := by decide +kernel
theorem dX2_readTowardsValue_4 : decode cX2_readTowardsValue 4 = .ok (.getfield 59, 3) := by decide +kernel
theorem dX2_readTowardsValue_7 : decode cX2_readTowardsValue 7 = .ok (.istore_n 1, 1) := by decide +kernel
theorem dX2_readTowardsValue_8 : decode cX2_readTowardsValue 8 = .ok (.iload_n 1, 1) := by decide +kernel
theorem dX2_readTowardsValue_9 : decode cX2_readTowardsValue 9 = .ok (.bipush 13, 2) := by decide +kernel
theorem dX2_readTowardsValue_11 : decode cX2_readTowardsValue 11 = .ok (.if_icmp .lt 13, 3) := by decide +kernel
theorem dX2_readTowardsValue_14 : decode cX2_readTowardsValue 14 = .ok (.iload_n 1, 1) := by decide +kernel
theorem dX2_readTowardsValue_15 : decode cX2_readTowardsValue 15 = .ok (.bipush 19, 2) := by decide +kernel
theorem dX2_readTowardsValue_17 : decode cX2_readTowardsValue 17 = .ok (.if_icmp .gt 7, 3) := by decide +kernel
theorem dX2_readTowardsValue_20 : decode cX2_readTowardsValue 20 = .ok (.iconst 1, 1) := by decide +kernel
theorem dX2_readTowardsValue_21 : decode cX2_readTowardsValue 21 = .ok (.goto 4, 3) := by decide +kernel
theorem dX2_readTowardsValue_24 : decode cX2_readTowardsValue 24 = .ok (.iconst 0, 1) := by decide +kernel
theorem dX2_readTowardsValue_25 : decode cX2_readTowardsValue 25 = .ok (.istore_n 2, 1) := by decide +kernel
theorem dX2_readTowardsValue_26 : decode cX2_readTowardsValue 26 = .ok (.iload_n 1, 1) := by decide +kernel
theorem dX2_readTowardsValue_27 : decode cX2_readTowardsValue 27 = .ok (.bipush 33, 2) := by decide +kernel
theorem dX2_readTowardsValue_29 : decode cX2_readTowardsValue 29 = .ok (.if_icmp .eq 7, 3) := by decide +kernel
theorem dX2_readTowardsValue_32 : decode cX2_readTowardsValue 32 = .ok (.iload_n 2, 1) := by decide +kernel
theorem dX2_readTowardsValue_33 : decode cX2_readTowardsValue 33 = .ok (.ifCond .eq 50, 3) := by decide +kernel
theorem dX2_readTowardsValue_36 : decode cX2_readTowardsValue 36 = .ok (.aload_n 0, 1) := by decide +kernel
theorem dX2_readTowardsValue_37 : decode cX2_readTowardsValue 37 = .ok (.invokevirtual 182, 3) := by decide +kernel
theorem dX2_readTowardsValue_40 : decode cX2_readTowardsValue 40 = .ok (.iload_n 2, 1) := by decide +kernel
theorem dX2_readTowardsValue_41 : decode cX2_readTowardsValue 41 = .ok (.ifCond .eq 7, 3) := by decide +kernel
theorem dX2_readTowardsValue_44 : decode cX2_readTowardsValue 44 = .ok (.iconst 0, 1) := by decide +kernel
theorem dX2_readTowardsValue_45 : decode cX2_readTowardsValue 45 = .ok (.goto 11, 3) := by decide +kernel
theorem dX2_readTowardsValue_48 : decode cX2_readTowardsValue 48 = .ok (.aload_n 0, 1) := by decide +kernel
theorem dX2_readTowardsValue_49 : decode cX2_readTowardsValue 49 = .ok (.iconst 0, 1) := by decide +kernel
theorem dX2_readTowardsValue_50 : decode cX2_readTowardsValue 50 = .ok (.sipush 9999, 3) := by decide +kernel
theorem dX2_readTowardsValue_53 : decode cX2_readTowardsValue 53 = .ok (.invokevirtual 109, 3) := by decide +kernel
theorem dX2_readTowardsValue_56 : decode cX2_readTowardsValue 56 = .ok (.istore_n 3, 1) := by decide +kernel
theorem dX2_readTowardsValue_57 : decode cX2_readTowardsValue 57 = .ok (.aload_n 0, 1) := by decide +kernel
theorem dX2_readTowardsValue_58 : decode cX2_readTowardsValue 58 = .ok (.getfield 46, 3) := by decide +kernel
theorem dX2_readTowardsValue_61 : decode cX2_readTowardsValue 61 = .ok (.getfield 157, 3) := by decide +kernel
theorem dX2_readTowardsValue_64 : decode cX2_readTowardsValue 64 = .ok (.aload_n 0, 1) := by decide +kernel
theorem dX2_readTowardsValue_65 : decode cX2_readTowardsValue 65 = .ok (.getfield 21, 3) := by decide +kernel
theorem dX2_readTowardsValue_68 : decode cX2_readTowardsValue 68 = .ok (.iload_n 1, 1) := by decide +kernel
theorem dX2_readTowardsValue_69 : decode cX2_readTowardsValue 69 = .ok (.iload_n 3, 1) := by decide +kernel
theorem dX2_readTowardsValue_70 : decode cX2_readTowardsValue 70 = .ok (.invokevirtual 185, 3) := by decide +kernel
theorem dX2_readTowardsValue_73 : decode cX2_readTowardsValue 73 = .ok (.iload_n 2, 1) := by decide +kernel
theorem dX2_readTowardsValue_74 : decode cX2_readTowardsValue 74 = .ok (.ifCond .eq 7, 3) := by decide +kernel
theorem dX2_readTowardsValue_77 : decode cX2_readTowardsValue 77 = .ok (.aload_n 0, 1) := by decide +kernel
theorem dX2_readTowardsValue_78 : decode cX2_readTowardsValue 78 = .ok (.invokevirtual 179, 3) := by decide +kernel
theorem dX2_readTowardsValue_81 : decode cX2_readTowardsValue 81 = .ok (.iconst 0, 1) := by decide +kernel
theorem dX2_readTowardsValue_82 : decode cX2_readTowardsValue 82 = .ok (.ireturn, 1) := by decide +kernel
theorem dX2_readTowardsValue_83 : decode cX2_readTowardsValue 83 = .ok (.iload_n 1, 1) := by decide +kernel
theorem dX2_readTowardsValue_84 : decode cX2_readTowardsValue 84 = .ok (.bipush 30, 2) := by decide +kernel
theorem dX2_readTowardsValue_86 : decode cX2_readTowardsValue 86 = .ok (.if_icmp .ne 10, 3) := by decide +kernel
theorem dX2_readTowardsValue_89 : decode cX2_readTowardsValue 89 = .ok (.aload_n 0, 1) := by decide +kernel
theorem dX2_readTowardsValue_90 : decode cX2_readTowardsValue 90 = .ok (.invokevirtual 189, 3) := by decide +kernel
theorem dX2_readTowardsValue_93 : decode cX2_readTowardsValue 93 = .ok (.goto 38, 3) := by decide +kernel
theorem dX2_readTowardsValue_96 : decode cX2_readTowardsValue 96 = .ok (.iload_n 1, 1) := by decide +kernel
theorem dX2_readTowardsValue_97 : decode cX2_readTowardsValue 97 = .ok (.bipush 12, 2) := by decide +kernel
theorem dX2_readTowardsValue_99 : decode cX2_readTowardsValue 99 = .ok (.if_icmp .ne 27, 3) := by decide +kernel
theorem dX2_readTowardsValue_102 : decode cX2_readTowardsValue 102 = .ok (.aload_n 0, 1) := by decide +kernel
theorem dX2_readTowardsValue_103 : decode cX2_readTowardsValue 103 = .ok (.invokevirtual 192, 3) := by decide +kernel
theorem dX2_readTowardsValue_106 : decode cX2_readTowardsValue 106 = .ok (.invokestatic 195, 3) := by decide +kernel
theorem dX2_readTowardsValue_109 : decode cX2_readTowardsValue 109 = .ok (.iconst 4, 1) := by decide +kernel
theorem dX2_readTowardsValue_110 : decode cX2_readTowardsValue 110 = .ok (.if_icmp .ge 16, 3) := by decide +kernel
theorem dX2_readTowardsValue_113 : decode cX2_readTowardsValue 113 = .ok (.aload_n 0, 1) := by decide +kernel
theorem dX2_readTowardsValue_114 : decode cX2_readTowardsValue 114 = .ok (.invokevirtual 182, 3) := by decide +kernel
theorem dX2_readTowardsValue_117 : decode cX2_readTowardsValue 117 = .ok (.aload_n 0, 1) := by decide +kernel
theorem dX2_readTowardsValue_118 : decode cX2_readTowardsValue 118 = .ok (.bipush 12, 2) := by decide +kernel
theorem dX2_readTowardsValue_120 : decode cX2_readTowardsValue 120 = .ok (.invokevirtual 198, 3) := by decide +kernel
theorem dX2_readTowardsValue_123 : decode cX2_readTowardsValue 123 = .ok (.goto 8, 3) := by decide +kernel
theorem dX2_readTowardsValue_126 : decode cX2_readTowardsValue 126 = .ok (.aload_n 0, 1) := by decide +kernel
theorem dX2_readTowardsValue_127 : decode cX2_readTowardsValue 127 = .ok (.iconst 1, 1) := by decide +kernel
theorem dX2_readTowardsValue_128 : decode cX2_readTowardsValue 128 = .ok (.invokevirtual 81, 3) := by decide +kernel
theorem dX2_readTowardsValue_131 : decode cX2_readTowardsValue 131 = .ok (.aload_n 0, 1) := by decide +kernel
theorem dX2_readTowardsValue_132 : decode cX2_readTowardsValue 132 = .ok (.invokevirtual 179, 3) := by decide +kernel
theorem dX2_readTowardsValue_135 : decode cX2_readTowardsValue 135 = .ok (.iconst 1, 1) := by decide +kernel
theorem dX2_readTowardsValue_136 : decode cX2_readTowardsValue 136 = .ok (.ireturn, 1) := by decide +kernel
theorem dX2_readBehindValue_0 : decode cX2_readBehindValue 0 = .ok (.aload_n 0, 1) := by decide +kernel
theorem dX2_readBehindValue_1 : decode cX2_readBehindValue 1 = .ok (.getfield 42, 3) := by decide +kernel
theorem dX2_readBehindValue_4 : decode cX2_readBehindValue 4 = .ok (.getfield 59, 3) := by decide +kernel
theorem dX2_readBehindValue_7 : decode cX2_readBehindValue 7 = .ok (.istore_n 1, 1) := by decide +kernel
theorem dX2_readBehindValue_8 : decode cX2_readBehindValue 8 = .ok (.iload_n 1, 1) := by decide +kernel
theorem dX2_readBehindValue_9 : decode cX2_readBehindValue 9 = .ok (.bipush 31, 2) := by decide +kernel
theorem dX2_readBehindValue_11 : decode cX2_readBehindValue 11 = .ok (.if_icmp .ne 41, 3) := by decide +kernel
theorem dX2_readBehindValue_14 : decode cX2_readBehindValue 14 = .ok (.aload_n 0, 1) := by decide +kernel
theorem dX2_readBehindValue_15 : decode cX2_readBehindValue 15 = .ok (.getfield 27, 3) := by decide +kernel
theorem dX2_readBehindValue_18 : decode cX2_readBehindValue 18 = .ok (.ifCond .le 34, 3) := by decide +kernel
theorem dX2_readBehindValue_21 : decode cX2_readBehindValue 21 = .ok (.aload_n 0, 1) := by decide +kernel
theorem dX2_readBehindValue_22 : decode cX2_readBehindValue 22 = .ok (.iconst 1, 1) := by decide +kernel
theorem dX2_readBehindValue_23 : decode cX2_readBehindValue 23 = .ok (.invokevirtual 176, 3) := by decide +kernel
theorem dX2_readBehindValue_26 : decode cX2_readBehindValue 26 = .ok (.aload_n 0, 1) := by decide +kernel
theorem dX2_readBehindValue_27 : decode cX2_readBehindValue 27 = .ok (.dup, 1) := by decide +kernel
theorem dX2_readBehindValue_28 : decode cX2_readBehindValue 28 = .ok (.getfield 30, 3) := by decide +kernel
theorem dX2_readBehindValue_31 : decode cX2_readBehindValue 31 = .ok (.iconst 1, 1) := by decide +kernel
theorem dX2_readBehindValue_32 : decode cX2_readBehindValue 32 = .ok (.isub, 1) := by decide +kernel
theorem dX2_readBehindValue_33 : decode cX2_readBehindValue 33 = .ok (.putfield 30, 3) := by decide +kernel
theorem dX2_readBehindValue_36 : decode cX2_readBehindValue 36 = .ok (.aload_n 0, 1) := by decide +kernel
theorem dX2_readBehindValue_37 : decode cX2_readBehindValue 37 = .ok (.dup, 1) := by decide +kernel
theorem dX2_readBehindValue_38 : decode cX2_readBehindValue 38 = .ok (.getfield 27, 3) := by decide +kernel
theorem dX2_readBehindValue_41 : decode cX2_readBehindValue 41 = .ok (.iconst 1, 1) := by decide +kernel
theorem dX2_readBehindValue_42 : decode cX2_readBehindValue 42 = .ok (.isub, 1) := by decide +kernel
theorem dX2_readBehindValue_43 : decode cX2_readBehindValue 43 = .ok (.putfield 27, 3) := by decide +kernel
theorem dX2_readBehindValue_46 : decode cX2_readBehindValue 46 = .ok (.aload_n 0, 1) := by decide +kernel
theorem dX2_readBehindValue_47 : decode cX2_readBehindValue 47 = .ok (.invokevirtual 179, 3) := by decide +kernel
theorem dX2_readBehindValue_50 : decode cX2_readBehindValue 50 = .ok (.iconst 0, 1) := by decide +kernel
theorem dX2_readBehindValue_51 : decode cX2_readBehindValue 51 = .ok (.ireturn, 1) := by decide +kernel
theorem dX2_readBehindValue_52 : decode cX2_readBehindValue 52 = .ok (.iload_n 1, 1) := by decide +kernel
theorem dX2_readBehindValue_53 : decode cX2_readBehindValue 53 = .ok (.invokestatic 195, 3) := by decide +kernel
theorem dX2_readBehindValue_56 : decode cX2_readBehindValue 56 = .ok (.istore_n 2, 1) := by decide +kernel
theorem dX2_readBehindValue_57 : decode cX2_readBehindValue 57 = .ok (.iload_n 2, 1) := by decide +kernel
theorem dX2_readBehindValue_58 : decode cX2_readBehindValue 58 = .ok (.ifCond .eq 9, 3) := by decide +kernel
theorem dX2_readBehindValue_61 : decode cX2_readBehindValue 61 = .ok (.iload_n 1, 1) := by decide +kernel
theorem dX2_readBehindValue_62 : decode cX2_readBehindValue 62 = .ok (.bipush 12, 2) := by decide +kernel
theorem dX2_readBehindValue_64 : decode cX2_readBehindValue 64 = .ok (.if_icmp .ne 10, 3) := by decide +kernel
theorem dX2_readBehindValue_67 : decode cX2_readBehindValue 67 = .ok (.aload_n 0, 1) := by decide +kernel
theorem dX2_readBehindValue_68 : decode cX2_readBehindValue 68 = .ok (.iconst 1, 1) := by decide +kernel
theorem dX2_readBehindValue_69 : decode cX2_readBehindValue 69 = .ok (.invokevirtual 81, 3) := by decide +kernel
theorem dX2_readBehindValue_72 : decode cX2_readBehindValue 72 = .ok (.iconst 0, 1) := by decide +kernel
theorem dX2_readBehindValue_73 : decode cX2_readBehindValue 73 = .ok (.ireturn, 1) := by decide +kernel
theorem dX2_readBehindValue_74 : decode cX2_readBehindValue 74 = .ok (.aload_n 0, 1) := by decide +kernel
theorem dX2_readBehindValue_75 : decode cX2_readBehindValue 75 = .ok (.iload_n 2, 1) := by decide +kernel
theorem dX2_readBehindValue_76 : decode cX2_readBehindValue 76 = .ok (.iconst 4, 1) := by decide +kernel
theorem dX2_readBehindValue_77 : decode cX2_readBehindValue 77 = .ok (.if_icmp .ne 7, 3) := by decide +kernel
theorem dX2_readBehindValue_80 : decode cX2_readBehindValue 80 = .ok (.iconst 5, 1) := by decide +kernel
theorem dX2_readBehindValue_81 : decode cX2_readBehindValue 81 = .ok (.goto 4, 3) := by decide +kernel
theorem dX2_readBehindValue_84 : decode cX2_readBehindValue 84 = .ok (.iload_n 2, 1) := by decide +kernel
theorem dX2_readBehindValue_85 : decode cX2_readBehindValue 85 = .ok (.invokevirtual 176, 3) := by decide +kernel
theorem dX2_readBehindValue_88 : decode cX2_readBehindValue 88 = .ok (.iload_n 2, 1) := by decide +kernel
theorem dX2_readBehindValue_89 : decode cX2_readBehindValue 89 = .ok (.iconst 4, 1) := by decide +kernel
theorem dX2_readBehindValue_90 : decode cX2_readBehindValue 90 = .ok (.if_icmp .ne 19, 3) := by decide +kernel
theorem dX2_readBehindValue_93 : decode cX2_readBehindValue 93 = .ok (.aload_n 0, 1) := by decide +kernel
theorem dX2_readBehindValue_94 : decode cX2_readBehindValue 94 = .ok (.invokevirtual 192, 3) := by decide +kernel
theorem dX2_readBehindValue_97 : decode cX2_readBehindValue 97 = .ok (.invokestatic 195, 3) := by decide +kernel
theorem dX2_readBehindValue_100 : decode cX2_readBehindValue 100 = .ok (.iconst 4, 1) := by decide +kernel
theorem dX2_readBehindValue_101 : decode cX2_readBehindValue 101 = .ok (.if_icmp .ne 8, 3) := by decide +kernel
theorem dX2_readBehindValue_104 : decode cX2_readBehindValue 104 = .ok (.aload_n 0, 1) := by decide +kernel
theorem dX2_readBehindValue_105 : decode cX2_readBehindValue 105 = .ok (.iconst 1, 1) := by decide +kernel
theorem dX2_readBehindValue_106 : decode cX2_readBehindValue 106 = .ok (.invokevirtual 81, 3) := by decide +kernel
theorem dX2_readBehindValue_109 : decode cX2_readBehindValue 109 = .ok (.aload_n 0, 1) := by decide +kernel
theorem dX2_readBehindValue_110 : decode cX2_readBehindValue 110 = .ok (.invokevirtual 182, 3) := by decide +kernel
theorem dX2_readBehindValue_113 : decode cX2_readBehindValue 113 = .ok (.aload_n 0, 1) := by decide +kernel
theorem dX2_readBehindValue_114 : decode cX2_readBehindValue 114 = .ok (.iload_n 1, 1) := by decide +kernel
theorem dX2_readBehindValue_115 : decode cX2_readBehindValue 115 = .ok (.invokevirtual 198, 3) := by decide +kernel
theorem dX2_readBehindValue_118 : decode cX2_readBehindValue 118 = .ok (.aload_n 0, 1) := by decide +kernel
theorem dX2_readBehindValue_119 : decode cX2_readBehindValue 119 = .ok (.invokevirtual 179, 3) := by decide +kernel
theorem dX2_readBehindValue_122 : decode cX2_readBehindValue 122 = .ok (.iconst 1, 1) := by decide +kernel
theorem dX2_readBehindValue_123 : decode cX2_readBehindValue 123 = .ok (.ireturn, 1) := by decide +kernel
theorem dX2_openOne_0 : decode cX2_openOne 0 = .ok (.aload_n 0, 1) := by decide +kernel
theorem dX2_openOne_1 : decode cX2_openOne 1 = .ok (.getfield 27, 3) := by decide +kernel
theorem dX2_openOne_4 : decode cX2_openOne 4 = .ok (.bipush 8, 2) := by decide +kernel
theorem dX2_openOne_6 : decode cX2_openOne 6 = .ok (.if_icmp .lt 11, 3) := by decide +kernel
theorem dX2_openOne_9 : decode cX2_openOne 9 = .ok (.aload_n 0, 1) := by decide +kernel
theorem dX2_openOne_10 : decode cX2_openOne 10 = .ok (.iconst 2, 1) := by decide +kernel
theorem dX2_openOne_11 : decode cX2_openOne 11 = .ok (.invokevirtual 81, 3) := by decide +kernel
theorem dX2_openOne_14 : decode cX2_openOne 14 = .ok (.goto 19, 3) := by decide +kernel
theorem dX2_openOne_17 : decode cX2_openOne 17 = .ok (.aload_n 0, 1) := by decide +kernel
theorem dX2_openOne_18 : decode cX2_openOne 18 = .ok (.dup, 1) := by decide +kernel
theorem dX2_openOne_19 : decode cX2_openOne 19 = .ok (.getfield 27, 3) := by decide +kernel
theorem dX2_openOne_22 : decode cX2_openOne 22 = .ok (.iconst 1, 1) := by decide +kernel
theorem dX2_openOne_23 : decode cX2_openOne 23 = .ok (.iadd, 1) := by decide +kernel
theorem dX2_openOne_24 : decode cX2_openOne 24 = .ok (.putfield 27, 3) := by decide +kernel
theorem dX2_openOne_27 : decode cX2_openOne 27 = .ok (.aload_n 0, 1) := by decide +kernel
theorem dX2_openOne_28 : decode cX2_openOne 28 = .ok (.bipush 30, 2) := by decide +kernel
theorem dX2_openOne_30 : decode cX2_openOne 30 = .ok (.invokevirtual 198, 3) := by decide +kernel
theorem dX2_openOne_33 : decode cX2_openOne 33 = .ok (.return_, 1) := by decide +kernel
theorem dX2_countKnot_0 : decode cX2_countKnot 0 = .ok (.aload_n 0, 1) := by decide +kernel
theorem dX2_countKnot_1 : decode cX2_countKnot 1 = .ok (.getfield 24, 3) := by decide +kernel
theorem dX2_countKnot_4 : decode cX2_countKnot 4 = .ok (.bipush 64, 2) := by decide +kernel
theorem dX2_countKnot_6 : decode cX2_countKnot 6 = .ok (.if_icmp .lt 11, 3) := by decide +kernel
theorem dX2_countKnot_9 : decode cX2_countKnot 9 = .ok (.aload_n 0, 1) := by decide +kernel
theorem dX2_countKnot_10 : decode cX2_countKnot 10 = .ok (.iconst 2, 1) := by decide +kernel
theorem dX2_countKnot_11 : decode cX2_countKnot 11 = .ok (.invokevirtual 81, 3) := by decide +kernel
theorem dX2_countKnot_14 : decode cX2_countKnot 14 = .ok (.goto 13, 3) := by decide +kernel
theorem dX2_countKnot_17 : decode cX2_countKnot 17 = .ok (.aload_n 0, 1) := by decide +kernel
theorem dX2_countKnot_18 : decode cX2_countKnot 18 = .ok (.dup, 1) := by decide +kernel
theorem dX2_countKnot_19 : decode cX2_countKnot 19 = .ok (.getfield 24, 3) := by decide +kernel
theorem dX2_countKnot_22 : decode cX2_countKnot 22 = .ok (.iconst 1, 1) := by decide +kernel
theorem dX2_countKnot_23 : decode cX2_countKnot 23 = .ok (.iadd, 1) := by decide +kernel
theorem dX2_countKnot_24 : decode cX2_countKnot 24 = .ok (.putfield 24, 3) := by decide +kernel
theorem dX2_countKnot_27 : decode cX2_countKnot 27 = .ok (.return_, 1) := by decide +kernel
theorem dX2_await_0 : decode cX2_await 0 = .ok (.aload_n 0, 1) := by decide +kernel
theorem dX2_await_1 : decode cX2_await 1 = .ok (.getfield 30, 3) := by decide +kernel
theorem dX2_await_4 : decode cX2_await 4 = .ok (.aload_n 0, 1) := by decide +kernel
theorem dX2_await_5 : decode cX2_await 5 = .ok (.getfield 33, 3) := by decide +kernel
theorem dX2_await_8 : decode cX2_await 8 = .ok (.arraylength, 1) := by decide +kernel
theorem dX2_await_9 : decode cX2_await 9 = .ok (.if_icmp .ge 23, 3) := by decide +kernel
theorem dX2_await_12 : decode cX2_await 12 = .ok (.aload_n 0, 1) := by decide +kernel
theorem dX2_await_13 : decode cX2_await 13 = .ok (.getfield 33, 3) := by decide +kernel
theorem dX2_await_16 : decode cX2_await 16 = .ok (.aload_n 0, 1) := by decide +kernel
theorem dX2_await_17 : decode cX2_await 17 = .ok (.getfield 30, 3) := by decide +kernel
theorem dX2_await_20 : decode cX2_await 20 = .ok (.iload_n 1, 1) := by decide +kernel
theorem dX2_await_21 : decode cX2_await 21 = .ok (.iastore, 1) := by decide +kernel
theorem dX2_await_22 : decode cX2_await 22 = .ok (.aload_n 0, 1) := by decide +kernel
theorem dX2_await_23 : decode cX2_await 23 = .ok (.dup, 1) := by decide +kernel
theorem dX2_await_24 : decode cX2_await 24 = .ok (.getfield 30, 3) := by decide +kernel
theorem dX2_await_27 : decode cX2_await 27 = .ok (.iconst 1, 1) := by decide +kernel
theorem dX2_await_28 : decode cX2_await 28 = .ok (.iadd, 1) := by decide +kernel
theorem dX2_await_29 : decode cX2_await 29 = .ok (.putfield 30, 3) := by decide +kernel
theorem dX2_await_32 : decode cX2_await 32 = .ok (.return_, 1) := by decide +kernel
theorem dX2_lastWaiting_0 : decode cX2_lastWaiting 0 = .ok (.aload_n 0, 1) := by decide +kernel
theorem dX2_lastWaiting_1 : decode cX2_lastWaiting 1 = .ok (.getfield 30, 3) := by decide +kernel
theorem dX2_lastWaiting_4 : decode cX2_lastWaiting 4 = .ok (.ifCond .le 29, 3) := by decide +kernel
theorem dX2_lastWaiting_7 : decode cX2_lastWaiting 7 = .ok (.aload_n 0, 1) := by decide +kernel
theorem dX2_lastWaiting_8 : decode cX2_lastWaiting 8 = .ok (.getfield 30, 3) := by decide +kernel
theorem dX2_lastWaiting_11 : decode cX2_lastWaiting 11 = .ok (.aload_n 0, 1) := by decide +kernel
theorem dX2_lastWaiting_12 : decode cX2_lastWaiting 12 = .ok (.getfield 33, 3) := by decide +kernel
theorem dX2_lastWaiting_15 : decode cX2_lastWaiting 15 = .ok (.arraylength, 1) := by decide +kernel
theorem dX2_lastWaiting_16 : decode cX2_lastWaiting 16 = .ok (.if_icmp .gt 17, 3) := by decide +kernel
theorem dX2_lastWaiting_19 : decode cX2_lastWaiting 19 = .ok (.aload_n 0, 1) := by decide +kernel
theorem dX2_lastWaiting_20 : decode cX2_lastWaiting 20 = .ok (.getfield 33, 3) := by decide +kernel
theorem dX2_lastWaiting_23 : decode cX2_lastWaiting 23 = .ok (.aload_n 0, 1) := by decide +kernel
theorem dX2_lastWaiting_24 : decode cX2_lastWaiting 24 = .ok (.getfield 30, 3) := by decide +kernel
theorem dX2_lastWaiting_27 : decode cX2_lastWaiting 27 = .ok (.iconst 1, 1) := by decide +kernel
theorem dX2_lastWaiting_28 : decode cX2_lastWaiting 28 = .ok (.isub, 1) := by decide +kernel
theorem dX2_lastWaiting_29 : decode cX2_lastWaiting 29 = .ok (.iaload, 1) := by decide +kernel
theorem dX2_lastWaiting_30 : decode cX2_lastWaiting 30 = .ok (.goto 5, 3) := by decide +kernel
theorem dX2_lastWaiting_33 : decode cX2_lastWaiting 33 = .ok (.bipush 30, 2) := by decide +kernel
theorem dX2_lastWaiting_35 : decode cX2_lastWaiting 35 = .ok (.ireturn, 1) := by decide +kernel
theorem dX2_putDownFrom_0 : decode cX2_putDownFrom 0 = .ok (.aload_n 0, 1) := by decide +kernel
theorem dX2_putDownFrom_1 : decode cX2_putDownFrom 1 = .ok (.getfield 30, 3) := by decide +kernel
theorem dX2_putDownFrom_4 : decode cX2_putDownFrom 4 = .ok (.ifCond .le 46, 3) := by decide +kernel
theorem dX2_putDownFrom_7 : decode cX2_putDownFrom 7 = .ok (.aload_n 0, 1) := by decide +kernel
theorem dX2_putDownFrom_8 : decode cX2_putDownFrom 8 = .ok (.invokevirtual 192, 3) := by decide +kernel
theorem dX2_putDownFrom_11 : decode cX2_putDownFrom 11 = .ok (.invokestatic 195, 3) := by decide +kernel
theorem dX2_putDownFrom_14 : decode cX2_putDownFrom 14 = .ok (.iload_n 1, 1) := by decide +kernel
theorem dX2_putDownFrom_15 : decode cX2_putDownFrom 15 = .ok (.if_icmp .lt 35, 3) := by decide +kernel
theorem dX2_putDownFrom_18 : decode cX2_putDownFrom 18 = .ok (.aload_n 0, 1) := by decide +kernel
theorem dX2_putDownFrom_19 : decode cX2_putDownFrom 19 = .ok (.getfield 46, 3) := by decide +kernel
theorem dX2_putDownFrom_22 : decode cX2_putDownFrom 22 = .ok (.getfield 157, 3) := by decide +kernel
theorem dX2_putDownFrom_25 : decode cX2_putDownFrom 25 = .ok (.aload_n 0, 1) := by decide +kernel
theorem dX2_putDownFrom_26 : decode cX2_putDownFrom 26 = .ok (.getfield 21, 3) := by decide +kernel
theorem dX2_putDownFrom_29 : decode cX2_putDownFrom 29 = .ok (.aload_n 0, 1) := by decide +kernel
theorem dX2_putDownFrom_30 : decode cX2_putDownFrom 30 = .ok (.invokevirtual 192, 3) := by decide +kernel
theorem dX2_putDownFrom_33 : decode cX2_putDownFrom 33 = .ok (.iconst 0, 1) := by decide +kernel
theorem dX2_putDownFrom_34 : decode cX2_putDownFrom 34 = .ok (.invokevirtual 185, 3) := by decide +kernel
theorem dX2_putDownFrom_37 : decode cX2_putDownFrom 37 = .ok (.aload_n 0, 1) := by decide +kernel
theorem dX2_putDownFrom_38 : decode cX2_putDownFrom 38 = .ok (.dup, 1) := by decide +kernel
theorem dX2_putDownFrom_39 : decode cX2_putDownFrom 39 = .ok (.getfield 30, 3) := by decide +kernel
theorem dX2_putDownFrom_42 : decode cX2_putDownFrom 42 = .ok (.iconst 1, 1) := by decide +kernel
theorem dX2_putDownFrom_43 : decode cX2_putDownFrom 43 = .ok (.isub, 1) := by decide +kernel
theorem dX2_putDownFrom_44 : decode cX2_putDownFrom 44 = .ok (.putfield 30, 3) := by decide +kernel
theorem dX2_putDownFrom_47 : decode cX2_putDownFrom 47 = .ok (.goto (-47), 3) := by decide +kernel
theorem dX2_putDownFrom_50 : decode cX2_putDownFrom 50 = .ok (.return_, 1) := by decide +kernel
theorem dX2_bindingOf_0 : decode cX2_bindingOf 0 = .ok (.iload_n 0, 1) := by decide +kernel
theorem dX2_bindingOf_1 : decode cX2_bindingOf 1 = .ok (.tableswitch 108 10 29 #[95, 97, 99, 108, 108, 108, 108, 108, 108, 108, 101, 101, 101, 101, 101, 101, 103, 103, 105, 105], 95) := by decide +kernel
theorem dX2_bindingOf_96 : decode cX2_bindingOf 96 = .ok (.iconst 1, 1) := by decide +kernel
theorem dX2_bindingOf_97 : decode cX2_bindingOf 97 = .ok (.ireturn, 1) := by decide +kernel
theorem dX2_bindingOf_98 : decode cX2_bindingOf 98 = .ok (.iconst 2, 1) := by decide +kernel
theorem dX2_bindingOf_99 : decode cX2_bindingOf 99 = .ok (.ireturn, 1) := by decide +kernel
theorem dX2_bindingOf_100 : decode cX2_bindingOf 100 = .ok (.iconst 3, 1) := by decide +kernel
theorem dX2_bindingOf_101 : decode cX2_bindingOf 101 = .ok (.ireturn, 1) := by decide +kernel
theorem dX2_bindingOf_102 : decode cX2_bindingOf 102 = .ok (.iconst 4, 1) := by decide +kernel
theorem dX2_bindingOf_103 : decode cX2_bindingOf 103 = .ok (.ireturn, 1) := by decide +kernel
theorem dX2_bindingOf_104 : decode cX2_bindingOf 104 = .ok (.iconst 5, 1) := by decide +kernel
theorem dX2_bindingOf_105 : decode cX2_bindingOf 105 = .ok (.ireturn, 1) := by decide +kernel
theorem dX2_bindingOf_106 : decode cX2_bindingOf 106 = .ok (.bipush 6, 2) := by decide +kernel
theorem dX2_bindingOf_108 : decode cX2_bindingOf 108 = .ok (.ireturn, 1) := by decide +kernel
theorem dX2_bindingOf_109 : decode cX2_bindingOf 109 = .ok (.iconst 0, 1) := by decide +kernel
theorem dX2_bindingOf_110 : decode cX2_bindingOf 110 = .ok (.ireturn, 1) := by decide +kernel
theorem dX4_init_0 : decode cX4_init 0 = .ok (.aload_n 0, 1) := by decide +kernel
theorem dX4_init_1 : decode cX4_init 1 = .ok (.invokespecial 3, 3) := by decide +kernel
theorem dX4_init_4 : decode cX4_init 4 = .ok (.aload_n 0, 1) := by decide +kernel
theorem dX4_init_5 : decode cX4_init 5 = .ok (.iconst 0, 1) := by decide +kernel
theorem dX4_init_6 : decode cX4_init 6 = .ok (.putfield 9, 3) := by decide +kernel
theorem dX4_init_9 : decode cX4_init 9 = .ok (.aload_n 0, 1) := by decide +kernel
theorem dX4_init_10 : decode cX4_init 10 = .ok (.iconst (-1), 1) := by decide +kernel
theorem dX4_init_11 : decode cX4_init 11 = .ok (.putfield 15, 3) := by decide +kernel
theorem dX4_init_14 : decode cX4_init 14 = .ok (.aload_n 0, 1) := by decide +kernel
theorem dX4_init_15 : decode cX4_init 15 = .ok (.bipush 24, 2) := by decide +kernel
theorem dX4_init_17 : decode cX4_init 17 = .ok (.newarray .int, 2) := by decide +kernel
theorem dX4_init_19 : decode cX4_init 19 = .ok (.putfield 18, 3) := by decide +kernel
theorem dX4_init_22 : decode cX4_init 22 = .ok (.aload_n 0, 1) := by decide +kernel
theorem dX4_init_23 : decode cX4_init 23 = .ok (.bipush 24, 2) := by decide +kernel
theorem dX4_init_25 : decode cX4_init 25 = .ok (.newarray .int, 2) := by decide +kernel
theorem dX4_init_27 : decode cX4_init 27 = .ok (.putfield 22, 3) := by decide +kernel
theorem dX4_init_30 : decode cX4_init 30 = .ok (.aload_n 0, 1) := by decide +kernel
theorem dX4_init_31 : decode cX4_init 31 = .ok (.bipush 24, 2) := by decide +kernel
theorem dX4_init_33 : decode cX4_init 33 = .ok (.newarray .int, 2) := by decide +kernel
theorem dX4_init_35 : decode cX4_init 35 = .ok (.putfield 25, 3) := by decide +kernel
theorem dX4_init_38 : decode cX4_init 38 = .ok (.aload_n 0, 1) := by decide +kernel
theorem dX4_init_39 : decode cX4_init 39 = .ok (.bipush 24, 2) := by decide +kernel
theorem dX4_init_41 : decode cX4_init 41 = .ok (.newarray .boolean, 2) := by decide +kernel
theorem dX4_init_43 : decode cX4_init 43 = .ok (.putfield 28, 3) := by decide +kernel
theorem dX4_init_46 : decode cX4_init 46 = .ok (.aload_n 0, 1) := by decide +kernel
theorem dX4_init_47 : decode cX4_init 47 = .ok (.bipush 24, 2) := by decide +kernel
theorem dX4_init_49 : decode cX4_init 49 = .ok (.newarray .int, 2) := by decide +kernel
theorem dX4_init_51 : decode cX4_init 51 = .ok (.putfield 32, 3) := by decide +kernel
theorem dX4_init_54 : decode cX4_init 54 = .ok (.aload_n 0, 1) := by decide +kernel
theorem dX4_init_55 : decode cX4_init 55 = .ok (.bipush 24, 2) := by decide +kernel
theorem dX4_init_57 : decode cX4_init 57 = .ok (.newarray .boolean, 2) := by decide +kernel
theorem dX4_init_59 : decode cX4_init 59 = .ok (.putfield 35, 3) := by decide +kernel
theorem dX4_init_62 : decode cX4_init 62 = .ok (.return_, 1) := by decide +kernel
theorem dX4_clear_0 : decode cX4_clear 0 = .ok (.aload_n 0, 1) := by decide +kernel
theorem dX4_clear_1 : decode cX4_clear 1 = .ok (.iconst 0, 1) := by decide +kernel
theorem dX4_clear_2 : decode cX4_clear 2 = .ok (.putfield 9, 3) := by decide +kernel
theorem dX4_clear_5 : decode cX4_clear 5 = .ok (.aload_n 0, 1) := by decide +kernel
theorem dX4_clear_6 : decode cX4_clear 6 = .ok (.iconst (-1), 1) := by decide +kernel
theorem dX4_clear_7 : decode cX4_clear 7 = .ok (.putfield 15, 3) := by decide +kernel
theorem dX4_clear_10 : decode cX4_clear 10 = .ok (.return_, 1) := by decide +kernel
theorem dX4_knownSize_0 : decode cX4_knownSize 0 = .ok (.aload_n 0, 1) := by decide +kernel
theorem dX4_knownSize_1 : decode cX4_knownSize 1 = .ok (.getfield 15, 3) := by decide +kernel
theorem dX4_knownSize_4 : decode cX4_knownSize 4 = .ok (.iconst (-1), 1) := by decide +kernel
theorem dX4_knownSize_5 : decode cX4_knownSize 5 = .ok (.if_icmp .ne 10, 3) := by decide +kernel
theorem dX4_knownSize_8 : decode cX4_knownSize 8 = .ok (.aload_n 0, 1) := by decide +kernel
theorem dX4_knownSize_9 : decode cX4_knownSize 9 = .ok (.getfield 9, 3) := by decide +kernel
theorem dX4_knownSize_12 : decode cX4_knownSize 12 = .ok (.goto 7, 3) := by decide +kernel
theorem dX4_knownSize_15 : decode cX4_knownSize 15 = .ok (.aload_n 0, 1) := by decide +kernel
theorem dX4_knownSize_16 : decode cX4_knownSize 16 = .ok (.getfield 15, 3) := by decide +kernel
theorem dX4_knownSize_19 : decode cX4_knownSize 19 = .ok (.ireturn, 1) := by decide +kernel
theorem dX4_put_0 : decode cX4_put 0 = .ok (.aload_n 0, 1) := by decide +kernel
theorem dX4_put_1 : decode cX4_put 1 = .ok (.getfield 9, 3) := by decide +kernel
theorem dX4_put_4 : decode cX4_put 4 = .ok (.bipush 24, 2) := by decide +kernel
theorem dX4_put_6 : decode cX4_put 6 = .ok (.if_icmp .lt 5, 3) := by decide +kernel
theorem dX4_put_9 : decode cX4_put 9 = .ok (.iconst (-1), 1) := by decide +kernel
theorem dX4_put_10 : decode cX4_put 10 = .ok (.ireturn, 1) := by decide +kernel
theorem dX4_put_11 : decode cX4_put 11 = .ok (.aload_n 0, 1) := by decide +kernel
theorem dX4_put_12 : decode cX4_put 12 = .ok (.getfield 18, 3) := by decide +kernel
theorem dX4_put_15 : decode cX4_put 15 = .ok (.aload_n 0, 1) := by decide +kernel
theorem dX4_put_16 : decode cX4_put 16 = .ok (.getfield 9, 3) := by decide +kernel
theorem dX4_put_19 : decode cX4_put 19 = .ok (.iload_n 1, 1) := by decide +kernel
theorem dX4_put_20 : decode cX4_put 20 = .ok (.iastore, 1) := by decide +kernel
theorem dX4_put_21 : decode cX4_put 21 = .ok (.aload_n 0, 1) := by decide +kernel
theorem dX4_put_22 : decode cX4_put 22 = .ok (.getfield 22, 3) := by decide +kernel
theorem dX4_put_25 : decode cX4_put 25 = .ok (.aload_n 0, 1) := by decide +kernel
theorem dX4_put_26 : decode cX4_put 26 = .ok (.getfield 9, 3) := by decide +kernel
theorem dX4_put_29 : decode cX4_put 29 = .ok (.iload_n 2, 1) := by decide +kernel
theorem dX4_put_30 : decode cX4_put 30 = .ok (.iastore, 1) := by decide +kernel
theorem dX4_put_31 : decode cX4_put 31 = .ok (.aload_n 0, 1) := by decide +kernel
theorem dX4_put_32 : decode cX4_put 32 = .ok (.getfield 25, 3) := by decide +kernel
theorem dX4_put_35 : decode cX4_put 35 = .ok (.aload_n 0, 1) := by decide +kernel
theorem dX4_put_36 : decode cX4_put 36 = .ok (.getfield 9, 3) := by decide +kernel
theorem dX4_put_39 : decode cX4_put 39 = .ok (.iload_n 3, 1) := by decide +kernel
theorem dX4_put_40 : decode cX4_put 40 = .ok (.iastore, 1) := by decide +kernel
theorem dX4_put_41 : decode cX4_put 41 = .ok (.aload_n 0, 1) := by decide +kernel
theorem dX4_put_42 : decode cX4_put 42 = .ok (.getfield 28, 3) := by decide +kernel
theorem dX4_put_45 : decode cX4_put 45 = .ok (.aload_n 0, 1) := by decide +kernel
theorem dX4_put_46 : decode cX4_put 46 = .ok (.getfield 9, 3) := by decide +kernel
theorem dX4_put_49 : decode cX4_put 49 = .ok (.iload 4, 2) := by decide +kernel
theorem dX4_put_51 : decode cX4_put 51 = .ok (.bastore, 1) := by decide +kernel
theorem dX4_put_52 : decode cX4_put 52 = .ok (.aload_n 0, 1) := by decide +kernel
theorem dX4_put_53 : decode cX4_put 53 = .ok (.getfield 32, 3) := by decide +kernel
theorem dX4_put_56 : decode cX4_put 56 = .ok (.aload_n 0, 1) := by decide +kernel
theorem dX4_put_57 : decode cX4_put 57 = .ok (.getfield 9, 3) := by decide +kernel
theorem dX4_put_60 : decode cX4_put 60 = .ok (.iload 5, 2) := by decide +kernel
theorem dX4_put_62 : decode cX4_put 62 = .ok (.iastore, 1) := by decide +kernel
theorem dX4_put_63 : decode cX4_put 63 = .ok (.aload_n 0, 1) := by decide +kernel
theorem dX4_put_64 : decode cX4_put 64 = .ok (.dup, 1) := by decide +kernel
theorem dX4_put_65 : decode cX4_put 65 = .ok (.getfield 9, 3) := by decide +kernel
theorem dX4_put_68 : decode cX4_put 68 = .ok (.iconst 1, 1) := by decide +kernel
theorem dX4_put_69 : decode cX4_put 69 = .ok (.iadd, 1) := by decide +kernel
theorem dX4_put_70 : decode cX4_put 70 = .ok (.putfield 9, 3) := by decide +kernel
theorem dX4_put_73 : decode cX4_put 73 = .ok (.aload_n 0, 1) := by decide +kernel
theorem dX4_put_74 : decode cX4_put 74 = .ok (.getfield 9, 3) := by decide +kernel
theorem dX4_put_77 : decode cX4_put 77 = .ok (.iconst 1, 1) := by decide +kernel
theorem dX4_put_78 : decode cX4_put 78 = .ok (.isub, 1) := by decide +kernel
theorem dX4_put_79 : decode cX4_put 79 = .ok (.ireturn, 1) := by decide +kernel
theorem dX4_sift_0 : decode cX4_sift 0 = .ok (.iconst 0, 1) := by decide +kernel
theorem dX4_sift_1 : decode cX4_sift 1 = .ok (.istore_n 1, 1) := by decide +kernel
theorem dX4_sift_2 : decode cX4_sift 2 = .ok (.iload_n 1, 1) := by decide +kernel
theorem dX4_sift_3 : decode cX4_sift 3 = .ok (.bipush 24, 2) := by decide +kernel
theorem dX4_sift_5 : decode cX4_sift 5 = .ok (.if_icmp .ge 16, 3) := by decide +kernel
theorem dX4_sift_8 : decode cX4_sift 8 = .ok (.aload_n 0, 1) := by decide +kernel
theorem dX4_sift_9 : decode cX4_sift 9 = .ok (.getfield 35, 3) := by decide +kernel
theorem dX4_sift_12 : decode cX4_sift 12 = .ok (.iload_n 1, 1) := by decide +kernel
theorem dX4_sift_13 : decode cX4_sift 13 = .ok (.iconst 0, 1) := by decide +kernel
theorem dX4_sift_14 : decode cX4_sift 14 = .ok (.bastore, 1) := by decide +kernel
theorem dX4_sift_15 : decode cX4_sift 15 = .ok (.iinc 1 1, 3) := by decide +kernel
theorem dX4_sift_18 : decode cX4_sift 18 = .ok (.goto (-16), 3) := by decide +kernel
theorem dX4_sift_21 : decode cX4_sift 21 = .ok (.aload_n 0, 1) := by decide +kernel
theorem dX4_sift_22 : decode cX4_sift 22 = .ok (.invokevirtual 38, 3) := by decide +kernel
theorem dX4_sift_25 : decode cX4_sift 25 = .ok (.iconst 1, 1) := by decide +kernel
theorem dX4_sift_26 : decode cX4_sift 26 = .ok (.isub, 1) := by decide +kernel
theorem dX4_sift_27 : decode cX4_sift 27 = .ok (.istore_n 1, 1) := by decide +kernel
theorem dX4_sift_28 : decode cX4_sift 28 = .ok (.iload_n 1, 1) := by decide +kernel
theorem dX4_sift_29 : decode cX4_sift 29 = .ok (.ifCond .lt 40, 3) := by decide +kernel
theorem dX4_sift_32 : decode cX4_sift 32 = .ok (.aload_n 0, 1) := by decide +kernel
theorem dX4_sift_33 : decode cX4_sift 33 = .ok (.getfield 35, 3) := by decide +kernel
theorem dX4_sift_36 : decode cX4_sift 36 = .ok (.iload_n 1, 1) := by decide +kernel
theorem dX4_sift_37 : decode cX4_sift 37 = .ok (.baload, 1) := by decide +kernel
theorem dX4_sift_38 : decode cX4_sift 38 = .ok (.ifCond .ne 25, 3) := by decide +kernel
theorem dX4_sift_41 : decode cX4_sift 41 = .ok (.aload_n 0, 1) := by decide +kernel
theorem dX4_sift_42 : decode cX4_sift 42 = .ok (.getfield 32, 3) := by decide +kernel
theorem dX4_sift_45 : decode cX4_sift 45 = .ok (.iload_n 1, 1) := by decide +kernel
theorem dX4_sift_46 : decode cX4_sift 46 = .ok (.iaload, 1) := by decide +kernel
theorem dX4_sift_47 : decode cX4_sift 47 = .ok (.iconst (-1), 1) := by decide +kernel
theorem dX4_sift_48 : decode cX4_sift 48 = .ok (.if_icmp .eq 15, 3) := by decide +kernel
theorem dX4_sift_51 : decode cX4_sift 51 = .ok (.aload_n 0, 1) := by decide +kernel
theorem dX4_sift_52 : decode cX4_sift 52 = .ok (.getfield 35, 3) := by decide +kernel
theorem dX4_sift_55 : decode cX4_sift 55 = .ok (.aload_n 0, 1) := by decide +kernel
theorem dX4_sift_56 : decode cX4_sift 56 = .ok (.getfield 32, 3) := by decide +kernel
theorem dX4_sift_59 : decode cX4_sift 59 = .ok (.iload_n 1, 1) := by decide +kernel
theorem dX4_sift_60 : decode cX4_sift 60 = .ok (.iaload, 1) := by decide +kernel
theorem dX4_sift_61 : decode cX4_sift 61 = .ok (.iconst 1, 1) := by decide +kernel
theorem dX4_sift_62 : decode cX4_sift 62 = .ok (.bastore, 1) := by decide +kernel
theorem dX4_sift_63 : decode cX4_sift 63 = .ok (.iinc 1 (-1), 3) := by decide +kernel
theorem dX4_sift_66 : decode cX4_sift 66 = .ok (.goto (-38), 3) := by decide +kernel
theorem dX4_sift_69 : decode cX4_sift 69 = .ok (.return_, 1) := by decide +kernel
theorem dX4_counts_0 : decode cX4_counts 0 = .ok (.aload_n 0, 1) := by decide +kernel
theorem dX4_counts_1 : decode cX4_counts 1 = .ok (.getfield 32, 3) := by decide +kernel
theorem dX4_counts_4 : decode cX4_counts 4 = .ok (.iload_n 1, 1) := by decide +kernel
theorem dX4_counts_5 : decode cX4_counts 5 = .ok (.iaload, 1) := by decide +kernel
theorem dX4_counts_6 : decode cX4_counts 6 = .ok (.iconst (-1), 1) := by decide +kernel
theorem dX4_counts_7 : decode cX4_counts 7 = .ok (.if_icmp .ne 16, 3) := by decide +kernel
theorem dX4_counts_10 : decode cX4_counts 10 = .ok (.aload_n 0, 1) := by decide +kernel
theorem dX4_counts_11 : decode cX4_counts 11 = .ok (.getfield 35, 3) := by decide +kernel
theorem dX4_counts_14 : decode cX4_counts 14 = .ok (.iload_n 1, 1) := by decide +kernel
theorem dX4_counts_15 : decode cX4_counts 15 = .ok (.baload, 1) := by decide +kernel
theorem dX4_counts_16 : decode cX4_counts 16 = .ok (.ifCond .ne 7, 3) := by decide +kernel
theorem dX4_counts_19 : decode cX4_counts 19 = .ok (.iconst 1, 1) := by decide +kernel
theorem dX4_counts_20 : decode cX4_counts 20 = .ok (.goto 4, 3) := by decide +kernel
theorem dX4_counts_23 : decode cX4_counts 23 = .ok (.iconst 0, 1) := by decide +kernel
theorem dX4_counts_24 : decode cX4_counts 24 = .ok (.ireturn, 1) := by decide +kernel
theorem dX4_lastStep_0 : decode cX4_lastStep 0 = .ok (.iconst 0, 1) := by decide +kernel
theorem dX4_lastStep_1 : decode cX4_lastStep 1 = .ok (.istore_n 1, 1) := by decide +kernel
theorem dX4_lastStep_2 : decode cX4_lastStep 2 = .ok (.iconst 0, 1) := by decide +kernel
theorem dX4_lastStep_3 : decode cX4_lastStep 3 = .ok (.istore_n 2, 1) := by decide +kernel
theorem dX4_lastStep_4 : decode cX4_lastStep 4 = .ok (.iload_n 2, 1) := by decide +kernel
theorem dX4_lastStep_5 : decode cX4_lastStep 5 = .ok (.aload_n 0, 1) := by decide +kernel
theorem dX4_lastStep_6 : decode cX4_lastStep 6 = .ok (.invokevirtual 38, 3) := by decide +kernel
theorem dX4_lastStep_9 : decode cX4_lastStep 9 = .ok (.if_icmp .ge 28, 3) := by decide +kernel
theorem dX4_lastStep_12 : decode cX4_lastStep 12 = .ok (.aload_n 0, 1) := by decide +kernel
theorem dX4_lastStep_13 : decode cX4_lastStep 13 = .ok (.iload_n 2, 1) := by decide +kernel
theorem dX4_lastStep_14 : decode cX4_lastStep 14 = .ok (.invokevirtual 42, 3) := by decide +kernel
theorem dX4_lastStep_17 : decode cX4_lastStep 17 = .ok (.ifCond .eq 14, 3) := by decide +kernel
theorem dX4_lastStep_20 : decode cX4_lastStep 20 = .ok (.iload_n 1, 1) := by decide +kernel
theorem dX4_lastStep_21 : decode cX4_lastStep 21 = .ok (.aload_n 0, 1) := by decide +kernel
theorem dX4_lastStep_22 : decode cX4_lastStep 22 = .ok (.getfield 18, 3) := by decide +kernel
theorem dX4_lastStep_25 : decode cX4_lastStep 25 = .ok (.iload_n 2, 1) := by decide +kernel
theorem dX4_lastStep_26 : decode cX4_lastStep 26 = .ok (.iaload, 1) := by decide +kernel
theorem dX4_lastStep_27 : decode cX4_lastStep 27 = .ok (.invokestatic 46, 3) := by decide +kernel
theorem dX4_lastStep_30 : decode cX4_lastStep 30 = .ok (.istore_n 1, 1) := by decide +kernel
theorem dX4_lastStep_31 : decode cX4_lastStep 31 = .ok (.iinc 2 1, 3) := by decide +kernel
theorem dX4_lastStep_34 : decode cX4_lastStep 34 = .ok (.goto (-30), 3) := by decide +kernel
theorem dX4_lastStep_37 : decode cX4_lastStep 37 = .ok (.iload_n 1, 1) := by decide +kernel
theorem dX4_lastStep_38 : decode cX4_lastStep 38 = .ok (.ireturn, 1) := by decide +kernel
theorem dX4_fits_0 : decode cX4_fits 0 = .ok (.iconst 0, 1) := by decide +kernel
theorem dX4_fits_1 : decode cX4_fits 1 = .ok (.istore_n 2, 1) := by decide +kernel
theorem dX4_fits_2 : decode cX4_fits 2 = .ok (.iload_n 2, 1) := by decide +kernel
theorem dX4_fits_3 : decode cX4_fits 3 = .ok (.aload_n 0, 1) := by decide +kernel
theorem dX4_fits_4 : decode cX4_fits 4 = .ok (.invokevirtual 38, 3) := by decide +kernel
theorem dX4_fits_7 : decode cX4_fits 7 = .ok (.if_icmp .ge 76, 3) := by decide +kernel
theorem dX4_fits_10 : decode cX4_fits 10 = .ok (.aload_n 0, 1) := by decide +kernel
theorem dX4_fits_11 : decode cX4_fits 11 = .ok (.iload_n 2, 1) := by decide +kernel
theorem dX4_fits_12 : decode cX4_fits 12 = .ok (.invokevirtual 42, 3) := by decide +kernel
theorem dX4_fits_15 : decode cX4_fits 15 = .ok (.ifCond .eq 20, 3) := by decide +kernel
theorem dX4_fits_18 : decode cX4_fits 18 = .ok (.aload_n 0, 1) := by decide +kernel
theorem dX4_fits_19 : decode cX4_fits 19 = .ok (.getfield 18, 3) := by decide +kernel
theorem dX4_fits_22 : decode cX4_fits 22 = .ok (.iload_n 2, 1) := by decide +kernel
theorem dX4_fits_23 : decode cX4_fits 23 = .ok (.iaload, 1) := by decide +kernel
theorem dX4_fits_24 : decode cX4_fits 24 = .ok (.aload_n 1, 1) := by decide +kernel
theorem dX4_fits_25 : decode cX4_fits 25 = .ok (.getfield 52, 3) := by decide +kernel
theorem dX4_fits_28 : decode cX4_fits 28 = .ok (.if_icmp .ne 7, 3) := by decide +kernel
theorem dX4_fits_31 : decode cX4_fits 31 = .ok (.iconst 1, 1) := by decide +kernel
theorem dX4_fits_32 : decode cX4_fits 32 = .ok (.goto 4, 3) := by decide +kernel
theorem dX4_fits_35 : decode cX4_fits 35 = .ok (.iconst 0, 1) := by decide +kernel
theorem dX4_fits_36 : decode cX4_fits 36 = .ok (.istore_n 3, 1) := by decide +kernel
theorem dX4_fits_37 : decode cX4_fits 37 = .ok (.iload_n 3, 1) := by decide +kernel
theorem dX4_fits_38 : decode cX4_fits 38 = .ok (.ifCond .eq 39, 3) := by decide +kernel
theorem dX4_fits_41 : decode cX4_fits 41 = .ok (.aload_n 1, 1) := by decide +kernel
theorem dX4_fits_42 : decode cX4_fits 42 = .ok (.getfield 57, 3) := by decide +kernel
theorem dX4_fits_45 : decode cX4_fits 45 = .ok (.aload_n 0, 1) := by decide +kernel
theorem dX4_fits_46 : decode cX4_fits 46 = .ok (.getfield 22, 3) := by decide +kernel
theorem dX4_fits_49 : decode cX4_fits 49 = .ok (.iload_n 2, 1) := by decide +kernel
theorem dX4_fits_50 : decode cX4_fits 50 = .ok (.iaload, 1) := by decide +kernel
theorem dX4_fits_51 : decode cX4_fits 51 = .ok (.iaload, 1) := by decide +kernel
theorem dX4_fits_52 : decode cX4_fits 52 = .ok (.aload_n 0, 1) := by decide +kernel
theorem dX4_fits_53 : decode cX4_fits 53 = .ok (.getfield 25, 3) := by decide +kernel
theorem dX4_fits_56 : decode cX4_fits 56 = .ok (.iload_n 2, 1) := by decide +kernel
theorem dX4_fits_57 : decode cX4_fits 57 = .ok (.iaload, 1) := by decide +kernel
theorem dX4_fits_58 : decode cX4_fits 58 = .ok (.if_icmp .lt 7, 3) := by decide +kernel
theorem dX4_fits_61 : decode cX4_fits 61 = .ok (.iconst 1, 1) := by decide +kernel
theorem dX4_fits_62 : decode cX4_fits 62 = .ok (.goto 4, 3) := by decide +kernel
theorem dX4_fits_65 : decode cX4_fits 65 = .ok (.iconst 0, 1) := by decide +kernel
theorem dX4_fits_66 : decode cX4_fits 66 = .ok (.aload_n 0, 1) := by decide +kernel
theorem dX4_fits_67 : decode cX4_fits 67 = .ok (.getfield 28, 3) := by decide +kernel
theorem dX4_fits_70 : decode cX4_fits 70 = .ok (.iload_n 2, 1) := by decide +kernel
theorem dX4_fits_71 : decode cX4_fits 71 = .ok (.baload, 1) := by decide +kernel
theorem dX4_fits_72 : decode cX4_fits 72 = .ok (.if_icmp .eq 5, 3) := by decide +kernel
theorem dX4_fits_75 : decode cX4_fits 75 = .ok (.iconst 0, 1) := by decide +kernel
theorem dX4_fits_76 : decode cX4_fits 76 = .ok (.ireturn, 1) := by decide +kernel
theorem dX4_fits_77 : decode cX4_fits 77 = .ok (.iinc 2 1, 3) := by decide +kernel
theorem dX4_fits_80 : decode cX4_fits 80 = .ok (.goto (-78), 3) := by decide +kernel
theorem dX4_fits_83 : decode cX4_fits 83 = .ok (.iconst 1, 1) := by decide +kernel
theorem dX4_fits_84 : decode cX4_fits 84 = .ok (.ireturn, 1) := by decide +kernel
theorem dX6_init_0 : decode cX6_init 0 = .ok (.aload_n 0, 1) := by decide +kernel
theorem dX6_init_1 : decode cX6_init 1 = .ok (.invokespecial 3, 3) := by decide +kernel
theorem dX6_init_4 : decode cX6_init 4 = .ok (.aload_n 0, 1) := by decide +kernel
theorem dX6_init_5 : decode cX6_init 5 = .ok (.iconst 0, 1) := by decide +kernel
theorem dX6_init_6 : decode cX6_init 6 = .ok (.putfield 9, 3) := by decide +kernel
theorem dX6_init_9 : decode cX6_init 9 = .ok (.aload_n 0, 1) := by decide +kernel
theorem dX6_init_10 : decode cX6_init 10 = .ok (.iconst 0, 1) := by decide +kernel
theorem dX6_init_11 : decode cX6_init 11 = .ok (.putfield 15, 3) := by decide +kernel
theorem dX6_init_14 : decode cX6_init 14 = .ok (.aload_n 0, 1) := by decide +kernel
theorem dX6_init_15 : decode cX6_init 15 = .ok (.iconst 0, 1) := by decide +kernel
theorem dX6_init_16 : decode cX6_init 16 = .ok (.putfield 18, 3) := by decide +kernel
theorem dX6_init_19 : decode cX6_init 19 = .ok (.aload_n 0, 1) := by decide +kernel
theorem dX6_init_20 : decode cX6_init 20 = .ok (.iconst 0, 1) := by decide +kernel
theorem dX6_init_21 : decode cX6_init 21 = .ok (.putfield 21, 3) := by decide +kernel
theorem dX6_init_24 : decode cX6_init 24 = .ok (.aload_n 0, 1) := by decide +kernel
theorem dX6_init_25 : decode cX6_init 25 = .ok (.iconst 1, 1) := by decide +kernel
theorem dX6_init_26 : decode cX6_init 26 = .ok (.putfield 24, 3) := by decide +kernel
theorem dX6_init_29 : decode cX6_init 29 = .ok (.aload_n 0, 1) := by decide +kernel
theorem dX6_init_30 : decode cX6_init 30 = .ok (.iconst 0, 1) := by decide +kernel
theorem dX6_init_31 : decode cX6_init 31 = .ok (.putfield 27, 3) := by decide +kernel
theorem dX6_init_34 : decode cX6_init 34 = .ok (.aload_n 0, 1) := by decide +kernel
theorem dX6_init_35 : decode cX6_init 35 = .ok (.iconst 0, 1) := by decide +kernel
theorem dX6_init_36 : decode cX6_init 36 = .ok (.putfield 30, 3) := by decide +kernel
theorem dX6_init_39 : decode cX6_init 39 = .ok (.aload_n 0, 1) := by decide +kernel
theorem dX6_init_40 : decode cX6_init 40 = .ok (.bipush 6, 2) := by decide +kernel
theorem dX6_init_42 : decode cX6_init 42 = .ok (.newarray .int, 2) := by decide +kernel
theorem dX6_init_44 : decode cX6_init 44 = .ok (.putfield 33, 3) := by decide +kernel
theorem dX6_init_47 : decode cX6_init 47 = .ok (.aload_n 0, 1) := by decide +kernel
theorem dX6_init_48 : decode cX6_init 48 = .ok (.bipush 6, 2) := by decide +kernel
theorem dX6_init_50 : decode cX6_init 50 = .ok (.newarray .int, 2) := by decide +kernel
theorem dX6_init_52 : decode cX6_init 52 = .ok (.putfield 37, 3) := by decide +kernel
theorem dX6_init_55 : decode cX6_init 55 = .ok (.aload_n 0, 1) := by decide +kernel
theorem dX6_init_56 : decode cX6_init 56 = .ok (.bipush 6, 2) := by decide +kernel
theorem dX6_init_58 : decode cX6_init 58 = .ok (.newarray .int, 2) := by decide +kernel
theorem dX6_init_60 : decode cX6_init 60 = .ok (.putfield 40, 3) := by decide +kernel
theorem dX6_init_63 : decode cX6_init 63 = .ok (.aload_n 0, 1) := by decide +kernel
theorem dX6_init_64 : decode cX6_init 64 = .ok (.bipush 6, 2) := by decide +kernel
theorem dX6_init_66 : decode cX6_init 66 = .ok (.newarray .int, 2) := by decide +kernel
theorem dX6_init_68 : decode cX6_init 68 = .ok (.putfield 43, 3) := by decide +kernel
theorem dX6_init_71 : decode cX6_init 71 = .ok (.aload_n 0, 1) := by decide +kernel
theorem dX6_init_72 : decode cX6_init 72 = .ok (.bipush 8, 2) := by decide +kernel
theorem dX6_init_74 : decode cX6_init 74 = .ok (.newarray .int, 2) := by decide +kernel
theorem dX6_init_76 : decode cX6_init 76 = .ok (.putfield 46, 3) := by decide +kernel
theorem dX6_init_79 : decode cX6_init 79 = .ok (.aload_n 0, 1) := by decide +kernel
theorem dX6_init_80 : decode cX6_init 80 = .ok (.bipush 8, 2) := by decide +kernel
theorem dX6_init_82 : decode cX6_init 82 = .ok (.newarray .int, 2) := by decide +kernel
theorem dX6_init_84 : decode cX6_init 84 = .ok (.putfield 49, 3) := by decide +kernel
theorem dX6_init_87 : decode cX6_init 87 = .ok (.aload_n 0, 1) := by decide +kernel
theorem dX6_init_88 : decode cX6_init 88 = .ok (.bipush 8, 2) := by decide +kernel
theorem dX6_init_90 : decode cX6_init 90 = .ok (.newarray .int, 2) := by decide +kernel
theorem dX6_init_92 : decode cX6_init 92 = .ok (.putfield 52, 3) := by decide +kernel
theorem dX6_init_95 : decode cX6_init 95 = .ok (.aload_n 0, 1) := by decide +kernel
theorem dX6_init_96 : decode cX6_init 96 = .ok (.bipush 8, 2) := by decide +kernel
theorem dX6_init_98 : decode cX6_init 98 = .ok (.newarray .int, 2) := by decide +kernel
theorem dX6_init_100 : decode cX6_init 100 = .ok (.putfield 55, 3) := by decide +kernel
theorem dX6_init_103 : decode cX6_init 103 = .ok (.aload_n 0, 1) := by decide +kernel
theorem dX6_init_104 : decode cX6_init 104 = .ok (.bipush 8, 2) := by decide +kernel
theorem dX6_init_106 : decode cX6_init 106 = .ok (.newarray .int, 2) := by decide +kernel
theorem dX6_init_108 : decode cX6_init 108 = .ok (.putfield 58, 3) := by decide +kernel
theorem dX6_init_111 : decode cX6_init 111 = .ok (.aload_n 0, 1) := by decide +kernel
theorem dX6_init_112 : decode cX6_init 112 = .ok (.new 61, 3) := by decide +kernel
theorem dX6_init_115 : decode cX6_init 115 = .ok (.dup, 1) := by decide +kernel
theorem dX6_init_116 : decode cX6_init 116 = .ok (.invokespecial 63, 3) := by decide +kernel
theorem dX6_init_119 : decode cX6_init 119 = .ok (.putfield 64, 3) := by decide +kernel
theorem dX6_init_122 : decode cX6_init 122 = .ok (.return_, 1) := by decide +kernel
theorem dX6_clear_0 : decode cX6_clear 0 = .ok (.aload_n 0, 1) := by decide +kernel
theorem dX6_clear_1 : decode cX6_clear 1 = .ok (.iconst 0, 1) := by decide +kernel
theorem dX6_clear_2 : decode cX6_clear 2 = .ok (.putfield 9, 3) := by decide +kernel
theorem dX6_clear_5 : decode cX6_clear 5 = .ok (.aload_n 0, 1) := by decide +kernel
theorem dX6_clear_6 : decode cX6_clear 6 = .ok (.iconst 0, 1) := by decide +kernel
theorem dX6_clear_7 : decode cX6_clear 7 = .ok (.putfield 15, 3) := by decide +kernel
theorem dX6_clear_10 : decode cX6_clear 10 = .ok (.aload_n 0, 1) := by decide +kernel
theorem dX6_clear_11 : decode cX6_clear 11 = .ok (.iconst 0, 1) := by decide +kernel
theorem dX6_clear_12 : decode cX6_clear 12 = .ok (.putfield 18, 3) := by decide +kernel
theorem dX6_clear_15 : decode cX6_clear 15 = .ok (.aload_n 0, 1) := by decide +kernel
theorem dX6_clear_16 : decode cX6_clear 16 = .ok (.iconst 0, 1) := by decide +kernel
theorem dX6_clear_17 : decode cX6_clear 17 = .ok (.putfield 21, 3) := by decide +kernel
theorem dX6_clear_20 : decode cX6_clear 20 = .ok (.aload_n 0, 1) := by decide +kernel
theorem dX6_clear_21 : decode cX6_clear 21 = .ok (.iconst 1, 1) := by decide +kernel
theorem dX6_clear_22 : decode cX6_clear 22 = .ok (.putfield 24, 3) := by decide +kernel
theorem dX6_clear_25 : decode cX6_clear 25 = .ok (.aload_n 0, 1) := by decide +kernel
theorem dX6_clear_26 : decode cX6_clear 26 = .ok (.iconst 0, 1) := by decide +kernel
theorem dX6_clear_27 : decode cX6_clear 27 = .ok (.putfield 27, 3) := by decide +kernel
theorem dX6_clear_30 : decode cX6_clear 30 = .ok (.aload_n 0, 1) := by decide +kernel
theorem dX6_clear_31 : decode cX6_clear 31 = .ok (.iconst 0, 1) := by decide +kernel
theorem dX6_clear_32 : decode cX6_clear 32 = .ok (.putfield 30, 3) := by decide +kernel
theorem dX6_clear_35 : decode cX6_clear 35 = .ok (.aload_n 0, 1) := by decide +kernel
theorem dX6_clear_36 : decode cX6_clear 36 = .ok (.getfield 64, 3) := by decide +kernel
theorem dX6_clear_39 : decode cX6_clear 39 = .ok (.invokevirtual 68, 3) := by decide +kernel
theorem dX6_clear_42 : decode cX6_clear 42 = .ok (.return_, 1) := by decide +kernel
theorem dX6_guestNamed_0 : decode cX6_guestNamed 0 = .ok (.iconst 0, 1) := by decide +kernel
theorem dX6_guestNamed_1 : decode cX6_guestNamed 1 = .ok (.istore_n 2, 1) := by decide +kernel
theorem dX6_guestNamed_2 : decode cX6_guestNamed 2 = .ok (.iload_n 2, 1) := by decide +kernel
theorem dX6_guestNamed_3 : decode cX6_guestNamed 3 = .ok (.aload_n 0, 1) := by decide +kernel
theorem dX6_guestNamed_4 : decode cX6_guestNamed 4 = .ok (.getfield 15, 3) := by decide +kernel
theorem dX6_guestNamed_7 : decode cX6_guestNamed 7 = .ok (.if_icmp .ge 21, 3) := by decide +kernel
theorem dX6_guestNamed_10 : decode cX6_guestNamed 10 = .ok (.aload_n 0, 1) := by decide +kernel
theorem dX6_guestNamed_11 : decode cX6_guestNamed 11 = .ok (.getfield 33, 3) := by decide +kernel
theorem dX6_guestNamed_14 : decode cX6_guestNamed 14 = .ok (.iload_n 2, 1) := by decide +kernel
theorem dX6_guestNamed_15 : decode cX6_guestNamed 15 = .ok (.iaload, 1) := by decide +kernel
theorem dX6_guestNamed_16 : decode cX6_guestNamed 16 = .ok (.iload_n 1, 1) := by decide +kernel
theorem dX6_guestNamed_17 : decode cX6_guestNamed 17 = .ok (.if_icmp .ne 5, 3) := by decide +kernel
theorem dX6_guestNamed_20 : decode cX6_guestNamed 20 = .ok (.iload_n 2, 1) := by decide +kernel
theorem dX6_guestNamed_21 : decode cX6_guestNamed 21 = .ok (.ireturn, 1) := by decide +kernel
theorem dX6_guestNamed_22 : decode cX6_guestNamed 22 = .ok (.iinc 2 1, 3) := by decide +kernel
theorem dX6_guestNamed_25 : decode cX6_guestNamed 25 = .ok (.goto (-23), 3) := by decide +kernel
theorem dX6_guestNamed_28 : decode cX6_guestNamed 28 = .ok (.iconst (-1), 1) := by decide +kernel
theorem dX6_guestNamed_29 : decode cX6_guestNamed 29 = .ok (.ireturn, 1) := by decide +kernel
theorem dX6_fruitNamed_0 : decode cX6_fruitNamed 0 = .ok (.iconst 0, 1) := by decide +kernel
theorem dX6_fruitNamed_1 : decode cX6_fruitNamed 1 = .ok (.istore_n 2, 1) := by decide +kernel
theorem dX6_fruitNamed_2 : decode cX6_fruitNamed 2 = .ok (.iload_n 2, 1) := by decide +kernel
theorem dX6_fruitNamed_3 : decode cX6_fruitNamed 3 = .ok (.aload_n 0, 1) := by decide +kernel
theorem dX6_fruitNamed_4 : decode cX6_fruitNamed 4 = .ok (.getfield 18, 3) := by decide +kernel
theorem dX6_fruitNamed_7 : decode cX6_fruitNamed 7 = .ok (.if_icmp .ge 21, 3) := by decide +kernel
theorem dX6_fruitNamed_10 : decode cX6_fruitNamed 10 = .ok (.aload_n 0, 1) := by decide +kernel
theorem dX6_fruitNamed_11 : decode cX6_fruitNamed 11 = .ok (.getfield 46, 3) := by decide +kernel
theorem dX6_fruitNamed_14 : decode cX6_fruitNamed 14 = .ok (.iload_n 2, 1) := by decide +kernel
theorem dX6_fruitNamed_15 : decode cX6_fruitNamed 15 = .ok (.iaload, 1) := by decide +kernel
theorem dX6_fruitNamed_16 : decode cX6_fruitNamed 16 = .ok (.iload_n 1, 1) := by decide +kernel
theorem dX6_fruitNamed_17 : decode cX6_fruitNamed 17 = .ok (.if_icmp .ne 5, 3) := by decide +kernel
theorem dX6_fruitNamed_20 : decode cX6_fruitNamed 20 = .ok (.iload_n 2, 1) := by decide +kernel
theorem dX6_fruitNamed_21 : decode cX6_fruitNamed 21 = .ok (.ireturn, 1) := by decide +kernel
theorem dX6_fruitNamed_22 : decode cX6_fruitNamed 22 = .ok (.iinc 2 1, 3) := by decide +kernel
theorem dX6_fruitNamed_25 : decode cX6_fruitNamed 25 = .ok (.goto (-23), 3) := by decide +kernel
theorem dX6_fruitNamed_28 : decode cX6_fruitNamed 28 = .ok (.iconst (-1), 1) := by decide +kernel
theorem dX6_fruitNamed_29 : decode cX6_fruitNamed 29 = .ok (.ireturn, 1) := by decide +kernel
theorem dX6_tellsBite_0 : decode cX6_tellsBite 0 = .ok (.iconst 0, 1) := by decide +kernel
theorem dX6_tellsBite_1 : decode cX6_tellsBite 1 = .ok (.istore_n 3, 1) := by decide +kernel
theorem dX6_tellsBite_2 : decode cX6_tellsBite 2 = .ok (.iload_n 3, 1) := by decide +kernel
theorem dX6_tellsBite_3 : decode cX6_tellsBite 3 = .ok (.aload_n 0, 1) := by decide +kernel
theorem dX6_tellsBite_4 : decode cX6_tellsBite 4 = .ok (.getfield 21, 3) := by decide +kernel
theorem dX6_tellsBite_7 : decode cX6_tellsBite 7 = .ok (.if_icmp .ge 31, 3) := by decide +kernel
theorem dX6_tellsBite_10 : decode cX6_tellsBite 10 = .ok (.aload_n 0, 1) := by decide +kernel
theorem dX6_tellsBite_11 : decode cX6_tellsBite 11 = .ok (.getfield 55, 3) := by decide +kernel
theorem dX6_tellsBite_14 : decode cX6_tellsBite 14 = .ok (.iload_n 3, 1) := by decide +kernel
theorem dX6_tellsBite_15 : decode cX6_tellsBite 15 = .ok (.iaload, 1) := by decide +kernel
theorem dX6_tellsBite_16 : decode cX6_tellsBite 16 = .ok (.iload_n 1, 1) := by decide +kernel
theorem dX6_tellsBite_17 : decode cX6_tellsBite 17 = .ok (.if_icmp .ne 15, 3) := by decide +kernel
theorem dX6_tellsBite_20 : decode cX6_tellsBite 20 = .ok (.aload_n 0, 1) := by decide +kernel
theorem dX6_tellsBite_21 : decode cX6_tellsBite 21 = .ok (.getfield 58, 3) := by decide +kernel
theorem dX6_tellsBite_24 : decode cX6_tellsBite 24 = .ok (.iload_n 3, 1) := by decide +kernel
theorem dX6_tellsBite_25 : decode cX6_tellsBite 25 = .ok (.iaload, 1) := by decide +kernel
theorem dX6_tellsBite_26 : decode cX6_tellsBite 26 = .ok (.iload_n 2, 1) := by decide +kernel
theorem dX6_tellsBite_27 : decode cX6_tellsBite 27 = .ok (.if_icmp .ne 5, 3) := by decide +kernel
theorem dX6_tellsBite_30 : decode cX6_tellsBite 30 = .ok (.iconst 1, 1) := by decide +kernel
theorem dX6_tellsBite_31 : decode cX6_tellsBite 31 = .ok (.ireturn, 1) := by decide +kernel
theorem dX6_tellsBite_32 : decode cX6_tellsBite 32 = .ok (.iinc 3 1, 3) := by decide +kernel
theorem dX6_tellsBite_35 : decode cX6_tellsBite 35 = .ok (.goto (-33), 3) := by decide +kernel
theorem dX6_tellsBite_38 : decode cX6_tellsBite 38 = .ok (.iconst 0, 1) := by decide +kernel
theorem dX6_tellsBite_39 : decode cX6_tellsBite 39 = .ok (.ireturn, 1) := by decide +kernel
theorem dX7_init_0 : decode cX7_init 0 = .ok (.aload_n 0, 1) := by decide +kernel
theorem dX7_init_1 : decode cX7_init 1 = .ok (.invokespecial 3, 3) := by decide +kernel
theorem dX7_init_4 : decode cX7_init 4 = .ok (.aload_n 0, 1) := by decide +kernel
theorem dX7_init_5 : decode cX7_init 5 = .ok (.iconst 0, 1) := by decide +kernel
theorem dX7_init_6 : decode cX7_init 6 = .ok (.putfield 9, 3) := by decide +kernel
theorem dX7_init_9 : decode cX7_init 9 = .ok (.aload_n 0, 1) := by decide +kernel
theorem dX7_init_10 : decode cX7_init 10 = .ok (.bipush 20, 2) := by decide +kernel
theorem dX7_init_12 : decode cX7_init 12 = .ok (.newarray .int, 2) := by decide +kernel
theorem dX7_init_14 : decode cX7_init 14 = .ok (.putfield 15, 3) := by decide +kernel
theorem dX7_init_17 : decode cX7_init 17 = .ok (.aload_n 0, 1) := by decide +kernel
theorem dX7_init_18 : decode cX7_init 18 = .ok (.bipush 20, 2) := by decide +kernel
theorem dX7_init_20 : decode cX7_init 20 = .ok (.newarray .int, 2) := by decide +kernel
theorem dX7_init_22 : decode cX7_init 22 = .ok (.putfield 19, 3) := by decide +kernel
theorem dX7_init_25 : decode cX7_init 25 = .ok (.aload_n 0, 1) := by decide +kernel
theorem dX7_init_26 : decode cX7_init 26 = .ok (.bipush 20, 2) := by decide +kernel
theorem dX7_init_28 : decode cX7_init 28 = .ok (.newarray .int, 2) := by decide +kernel
theorem dX7_init_30 : decode cX7_init 30 = .ok (.putfield 22, 3) := by decide +kernel
theorem dX7_init_33 : decode cX7_init 33 = .ok (.return_, 1) := by decide +kernel
theorem dX7_put_0 : decode cX7_put 0 = .ok (.aload_n 0, 1) := by decide +kernel
theorem dX7_put_1 : decode cX7_put 1 = .ok (.getfield 9, 3) := by decide +kernel
theorem dX7_put_4 : decode cX7_put 4 = .ok (.bipush 20, 2) := by decide +kernel
theorem dX7_put_6 : decode cX7_put 6 = .ok (.if_icmp .lt 7, 3) := by decide +kernel
theorem dX7_put_9 : decode cX7_put 9 = .ok (.aload_n 0, 1) := by decide +kernel
theorem dX7_put_10 : decode cX7_put 10 = .ok (.invokevirtual 25, 3) := by decide +kernel
theorem dX7_put_13 : decode cX7_put 13 = .ok (.aload_n 0, 1) := by decide +kernel
theorem dX7_put_14 : decode cX7_put 14 = .ok (.getfield 15, 3) := by decide +kernel
theorem dX7_put_17 : decode cX7_put 17 = .ok (.aload_n 0, 1) := by decide +kernel
theorem dX7_put_18 : decode cX7_put 18 = .ok (.getfield 9, 3) := by decide +kernel
theorem dX7_put_21 : decode cX7_put 21 = .ok (.iload_n 1, 1) := by decide +kernel
theorem dX7_put_22 : decode cX7_put 22 = .ok (.iastore, 1) := by decide +kernel
theorem dX7_put_23 : decode cX7_put 23 = .ok (.aload_n 0, 1) := by decide +kernel
theorem dX7_put_24 : decode cX7_put 24 = .ok (.getfield 19, 3) := by decide +kernel
theorem dX7_put_27 : decode cX7_put 27 = .ok (.aload_n 0, 1) := by decide +kernel
theorem dX7_put_28 : decode cX7_put 28 = .ok (.getfield 9, 3) := by decide +kernel
theorem dX7_put_31 : decode cX7_put 31 = .ok (.iload_n 2, 1) := by decide +kernel
theorem dX7_put_32 : decode cX7_put 32 = .ok (.iastore, 1) := by decide +kernel
theorem dX7_put_33 : decode cX7_put 33 = .ok (.aload_n 0, 1) := by decide +kernel
theorem dX7_put_34 : decode cX7_put 34 = .ok (.getfield 22, 3) := by decide +kernel
theorem dX7_put_37 : decode cX7_put 37 = .ok (.aload_n 0, 1) := by decide +kernel
theorem dX7_put_38 : decode cX7_put 38 = .ok (.getfield 9, 3) := by decide +kernel
theorem dX7_put_41 : decode cX7_put 41 = .ok (.iload_n 3, 1) := by decide +kernel
theorem dX7_put_42 : decode cX7_put 42 = .ok (.iastore, 1) := by decide +kernel
theorem dX7_put_43 : decode cX7_put 43 = .ok (.aload_n 0, 1) := by decide +kernel
theorem dX7_put_44 : decode cX7_put 44 = .ok (.dup, 1) := by decide +kernel
theorem dX7_put_45 : decode cX7_put 45 = .ok (.getfield 9, 3) := by decide +kernel
theorem dX7_put_48 : decode cX7_put 48 = .ok (.iconst 1, 1) := by decide +kernel
theorem dX7_put_49 : decode cX7_put 49 = .ok (.iadd, 1) := by decide +kernel
theorem dX7_put_50 : decode cX7_put 50 = .ok (.putfield 9, 3) := by decide +kernel
theorem dX7_put_53 : decode cX7_put 53 = .ok (.return_, 1) := by decide +kernel
theorem dX7_dropOldest_0 : decode cX7_dropOldest 0 = .ok (.aload_n 0, 1) := by decide +kernel
theorem dX7_dropOldest_1 : decode cX7_dropOldest 1 = .ok (.getfield 15, 3) := by decide +kernel
theorem dX7_dropOldest_4 : decode cX7_dropOldest 4 = .ok (.iconst 1, 1) := by decide +kernel
theorem dX7_dropOldest_5 : decode cX7_dropOldest 5 = .ok (.aload_n 0, 1) := by decide +kernel
theorem dX7_dropOldest_6 : decode cX7_dropOldest 6 = .ok (.getfield 15, 3) := by decide +kernel
theorem dX7_dropOldest_9 : decode cX7_dropOldest 9 = .ok (.iconst 0, 1) := by decide +kernel
theorem dX7_dropOldest_10 : decode cX7_dropOldest 10 = .ok (.bipush 19, 2) := by decide +kernel
theorem dX7_dropOldest_12 : decode cX7_dropOldest 12 = .ok (.invokestatic 28, 3) := by decide +kernel
theorem dX7_dropOldest_15 : decode cX7_dropOldest 15 = .ok (.aload_n 0, 1) := by decide +kernel
theorem dX7_dropOldest_16 : decode cX7_dropOldest 16 = .ok (.getfield 19, 3) := by decide +kernel
theorem dX7_dropOldest_19 : decode cX7_dropOldest 19 = .ok (.iconst 1, 1) := by decide +kernel
theorem dX7_dropOldest_20 : decode cX7_dropOldest 20 = .ok (.aload_n 0, 1) := by decide +kernel
theorem dX7_dropOldest_21 : decode cX7_dropOldest 21 = .ok (.getfield 19, 3) := by decide +kernel
theorem dX7_dropOldest_24 : decode cX7_dropOldest 24 = .ok (.iconst 0, 1) := by decide +kernel
theorem dX7_dropOldest_25 : decode cX7_dropOldest 25 = .ok (.bipush 19, 2) := by decide +kernel
theorem dX7_dropOldest_27 : decode cX7_dropOldest 27 = .ok (.invokestatic 28, 3) := by decide +kernel
theorem dX7_dropOldest_30 : decode cX7_dropOldest 30 = .ok (.aload_n 0, 1) := by decide +kernel
theorem dX7_dropOldest_31 : decode cX7_dropOldest 31 = .ok (.getfield 22, 3) := by decide +kernel
theorem dX7_dropOldest_34 : decode cX7_dropOldest 34 = .ok (.iconst 1, 1) := by decide +kernel
theorem dX7_dropOldest_35 : decode cX7_dropOldest 35 = .ok (.aload_n 0, 1) := by decide +kernel
theorem dX7_dropOldest_36 : decode cX7_dropOldest 36 = .ok (.getfield 22, 3) := by decide +kernel
theorem dX7_dropOldest_39 : decode cX7_dropOldest 39 = .ok (.iconst 0, 1) := by decide +kernel
theorem dX7_dropOldest_40 : decode cX7_dropOldest 40 = .ok (.bipush 19, 2) := by decide +kernel
theorem dX7_dropOldest_42 : decode cX7_dropOldest 42 = .ok (.invokestatic 28, 3) := by decide +kernel
theorem dX7_dropOldest_45 : decode cX7_dropOldest 45 = .ok (.aload_n 0, 1) := by decide +kernel
theorem dX7_dropOldest_46 : decode cX7_dropOldest 46 = .ok (.bipush 19, 2) := by decide +kernel
theorem dX7_dropOldest_48 : decode cX7_dropOldest 48 = .ok (.putfield 9, 3) := by decide +kernel
theorem dX7_dropOldest_51 : decode cX7_dropOldest 51 = .ok (.return_, 1) := by decide +kernel
theorem dX7_takeBack_0 : decode cX7_takeBack 0 = .ok (.aload_n 0, 1) := by decide +kernel
theorem dX7_takeBack_1 : decode cX7_takeBack 1 = .ok (.getfield 9, 3) := by decide +kernel
theorem dX7_takeBack_4 : decode cX7_takeBack 4 = .ok (.ifCond .gt 5, 3) := by decide +kernel
theorem dX7_takeBack_7 : decode cX7_takeBack 7 = .ok (.iconst (-1), 1) := by decide +kernel
theorem dX7_takeBack_8 : decode cX7_takeBack 8 = .ok (.ireturn, 1) := by decide +kernel
theorem dX7_takeBack_9 : decode cX7_takeBack 9 = .ok (.aload_n 0, 1) := by decide +kernel
theorem dX7_takeBack_10 : decode cX7_takeBack 10 = .ok (.dup, 1) := by decide +kernel
theorem dX7_takeBack_11 : decode cX7_takeBack 11 = .ok (.getfield 9, 3) := by decide +kernel
theorem dX7_takeBack_14 : decode cX7_takeBack 14 = .ok (.iconst 1, 1) := by decide +kernel
theorem dX7_takeBack_15 : decode cX7_takeBack 15 = .ok (.isub, 1) := by decide +kernel
theorem dX7_takeBack_16 : decode cX7_takeBack 16 = .ok (.putfield 9, 3) := by decide +kernel
theorem dX7_takeBack_19 : decode cX7_takeBack 19 = .ok (.aload_n 0, 1) := by decide +kernel
theorem dX7_takeBack_20 : decode cX7_takeBack 20 = .ok (.getfield 19, 3) := by decide +kernel
theorem dX7_takeBack_23 : decode cX7_takeBack 23 = .ok (.aload_n 0, 1) := by decide +kernel
theorem dX7_takeBack_24 : decode cX7_takeBack 24 = .ok (.getfield 9, 3) := by decide +kernel
theorem dX7_takeBack_27 : decode cX7_takeBack 27 = .ok (.iaload, 1) := by decide +kernel
theorem dX7_takeBack_28 : decode cX7_takeBack 28 = .ok (.istore_n 2, 1) := by decide +kernel
theorem dX7_takeBack_29 : decode cX7_takeBack 29 = .ok (.aload_n 0, 1) := by decide +kernel
theorem dX7_takeBack_30 : decode cX7_takeBack 30 = .ok (.getfield 15, 3) := by decide +kernel
theorem dX7_takeBack_33 : decode cX7_takeBack 33 = .ok (.aload_n 0, 1) := by decide +kernel
theorem dX7_takeBack_34 : decode cX7_takeBack 34 = .ok (.getfield 9, 3) := by decide +kernel
theorem dX7_takeBack_37 : decode cX7_takeBack 37 = .ok (.iaload, 1) := by decide +kernel
theorem dX7_takeBack_38 : decode cX7_takeBack 38 = .ok (.ifCond .ne 20, 3) := by decide +kernel
theorem dX7_takeBack_41 : decode cX7_takeBack 41 = .ok (.aload_n 1, 1) := by decide +kernel
theorem dX7_takeBack_42 : decode cX7_takeBack 42 = .ok (.iload_n 2, 1) := by decide +kernel
theorem dX7_takeBack_43 : decode cX7_takeBack 43 = .ok (.aload_n 0, 1) := by decide +kernel
theorem dX7_takeBack_44 : decode cX7_takeBack 44 = .ok (.getfield 22, 3) := by decide +kernel
theorem dX7_takeBack_47 : decode cX7_takeBack 47 = .ok (.aload_n 0, 1) := by decide +kernel
theorem dX7_takeBack_48 : decode cX7_takeBack 48 = .ok (.getfield 9, 3) := by decide +kernel
theorem dX7_takeBack_51 : decode cX7_takeBack 51 = .ok (.iaload, 1) := by decide +kernel
theorem dX7_takeBack_52 : decode cX7_takeBack 52 = .ok (.invokevirtual 34, 3) := by decide +kernel
theorem dX7_takeBack_55 : decode cX7_takeBack 55 = .ok (.goto 36, 3) := by decide +kernel
theorem dX7_takeBack_58 : decode cX7_takeBack 58 = .ok (.aload_n 1, 1) := by decide +kernel
theorem dX7_takeBack_59 : decode cX7_takeBack 59 = .ok (.getfield 40, 3) := by decide +kernel
theorem dX7_takeBack_62 : decode cX7_takeBack 62 = .ok (.iload_n 2, 1) := by decide +kernel
theorem dX7_takeBack_63 : decode cX7_takeBack 63 = .ok (.aload_n 0, 1) := by decide +kernel
theorem dX7_takeBack_64 : decode cX7_takeBack 64 = .ok (.getfield 22, 3) := by decide +kernel
theorem dX7_takeBack_67 : decode cX7_takeBack 67 = .ok (.aload_n 0, 1) := by decide +kernel
theorem dX7_takeBack_68 : decode cX7_takeBack 68 = .ok (.getfield 9, 3) := by decide +kernel
theorem dX7_takeBack_71 : decode cX7_takeBack 71 = .ok (.iaload, 1) := by decide +kernel
theorem dX7_takeBack_72 : decode cX7_takeBack 72 = .ok (.iastore, 1) := by decide +kernel
theorem dX7_takeBack_73 : decode cX7_takeBack 73 = .ok (.aload_n 0, 1) := by decide +kernel
theorem dX7_takeBack_74 : decode cX7_takeBack 74 = .ok (.getfield 15, 3) := by decide +kernel
theorem dX7_takeBack_77 : decode cX7_takeBack 77 = .ok (.aload_n 0, 1) := by decide +kernel
theorem dX7_takeBack_78 : decode cX7_takeBack 78 = .ok (.getfield 9, 3) := by decide +kernel
theorem dX7_takeBack_81 : decode cX7_takeBack 81 = .ok (.iaload, 1) := by decide +kernel
theorem dX7_takeBack_82 : decode cX7_takeBack 82 = .ok (.iconst 2, 1) := by decide +kernel
theorem dX7_takeBack_83 : decode cX7_takeBack 83 = .ok (.if_icmp .ne 8, 3) := by decide +kernel
theorem dX7_takeBack_86 : decode cX7_takeBack 86 = .ok (.aload_n 1, 1) := by decide +kernel
theorem dX7_takeBack_87 : decode cX7_takeBack 87 = .ok (.iload_n 2, 1) := by decide +kernel
theorem dX7_takeBack_88 : decode cX7_takeBack 88 = .ok (.invokevirtual 43, 3) := by decide +kernel
theorem dX7_takeBack_91 : decode cX7_takeBack 91 = .ok (.aload_n 0, 1) := by decide +kernel
theorem dX7_takeBack_92 : decode cX7_takeBack 92 = .ok (.getfield 9, 3) := by decide +kernel
theorem dX7_takeBack_95 : decode cX7_takeBack 95 = .ok (.ireturn, 1) := by decide +kernel
