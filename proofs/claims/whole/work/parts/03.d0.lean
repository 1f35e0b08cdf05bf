theorem dX0_init_0 : decode cX0_init 0 = .ok (.aload_n 0, 1) := by decide +kernel
theorem dX0_init_1 : decode cX0_init 1 = .ok (.invokespecial 3, 3) := by decide +kernel
theorem dX0_init_4 : decode cX0_init 4 = .ok (.aload_n 0, 1) := by decide +kernel
theorem dX0_init_5 : decode cX0_init 5 = .ok (.iconst 0, 1) := by decide +kernel
theorem dX0_init_6 : decode cX0_init 6 = .ok (.putfield 9, 3) := by decide +kernel
theorem dX0_init_9 : decode cX0_init 9 = .ok (.aload_n 0, 1) := by decide +kernel
theorem dX0_init_10 : decode cX0_init 10 = .ok (.iconst 0, 1) := by decide +kernel
theorem dX0_init_11 : decode cX0_init 11 = .ok (.putfield 15, 3) := by decide +kernel
theorem dX0_init_14 : decode cX0_init 14 = .ok (.aload_n 0, 1) := by decide +kernel
theorem dX0_init_15 : decode cX0_init 15 = .ok (.iconst 0, 1) := by decide +kernel
theorem dX0_init_16 : decode cX0_init 16 = .ok (.putfield 19, 3) := by decide +kernel
theorem dX0_init_19 : decode cX0_init 19 = .ok (.aload_n 0, 1) := by decide +kernel
theorem dX0_init_20 : decode cX0_init 20 = .ok (.iconst 0, 1) := by decide +kernel
theorem dX0_init_21 : decode cX0_init 21 = .ok (.putfield 22, 3) := by decide +kernel
theorem dX0_init_24 : decode cX0_init 24 = .ok (.aload_n 0, 1) := by decide +kernel
theorem dX0_init_25 : decode cX0_init 25 = .ok (.iconst (-1), 1) := by decide +kernel
theorem dX0_init_26 : decode cX0_init 26 = .ok (.putfield 25, 3) := by decide +kernel
theorem dX0_init_29 : decode cX0_init 29 = .ok (.aload_n 0, 1) := by decide +kernel
theorem dX0_init_30 : decode cX0_init 30 = .ok (.iconst 0, 1) := by decide +kernel
theorem dX0_init_31 : decode cX0_init 31 = .ok (.putfield 28, 3) := by decide +kernel
theorem dX0_init_34 : decode cX0_init 34 = .ok (.aload_n 0, 1) := by decide +kernel
theorem dX0_init_35 : decode cX0_init 35 = .ok (.iconst (-1), 1) := by decide +kernel
theorem dX0_init_36 : decode cX0_init 36 = .ok (.putfield 31, 3) := by decide +kernel
theorem dX0_init_39 : decode cX0_init 39 = .ok (.aload_n 0, 1) := by decide +kernel
theorem dX0_init_40 : decode cX0_init 40 = .ok (.iconst 0, 1) := by decide +kernel
theorem dX0_init_41 : decode cX0_init 41 = .ok (.putfield 34, 3) := by decide +kernel
theorem dX0_init_44 : decode cX0_init 44 = .ok (.aload_n 0, 1) := by decide +kernel
theorem dX0_init_45 : decode cX0_init 45 = .ok (.bipush 7, 2) := by decide +kernel
theorem dX0_init_47 : decode cX0_init 47 = .ok (.newarray .int, 2) := by decide +kernel
theorem dX0_init_49 : decode cX0_init 49 = .ok (.putfield 37, 3) := by decide +kernel
theorem dX0_init_52 : decode cX0_init 52 = .ok (.aload_n 0, 1) := by decide +kernel
theorem dX0_init_53 : decode cX0_init 53 = .ok (.aload_n 1, 1) := by decide +kernel
theorem dX0_init_54 : decode cX0_init 54 = .ok (.putfield 41, 3) := by decide +kernel
theorem dX0_init_57 : decode cX0_init 57 = .ok (.return_, 1) := by decide +kernel
theorem dX0_begin_0 : decode cX0_begin 0 = .ok (.aload_n 0, 1) := by decide +kernel
theorem dX0_begin_1 : decode cX0_begin 1 = .ok (.aload_n 1, 1) := by decide +kernel
theorem dX0_begin_2 : decode cX0_begin 2 = .ok (.putfield 41, 3) := by decide +kernel
theorem dX0_begin_5 : decode cX0_begin 5 = .ok (.aload_n 0, 1) := by decide +kernel
theorem dX0_begin_6 : decode cX0_begin 6 = .ok (.iload_n 2, 1) := by decide +kernel
theorem dX0_begin_7 : decode cX0_begin 7 = .ok (.putfield 9, 3) := by decide +kernel
theorem dX0_begin_10 : decode cX0_begin 10 = .ok (.aload_n 0, 1) := by decide +kernel
theorem dX0_begin_11 : decode cX0_begin 11 = .ok (.iconst 0, 1) := by decide +kernel
theorem dX0_begin_12 : decode cX0_begin 12 = .ok (.putfield 15, 3) := by decide +kernel
theorem dX0_begin_15 : decode cX0_begin 15 = .ok (.aload_n 0, 1) := by decide +kernel
theorem dX0_begin_16 : decode cX0_begin 16 = .ok (.iconst 0, 1) := by decide +kernel
theorem dX0_begin_17 : decode cX0_begin 17 = .ok (.putfield 19, 3) := by decide +kernel
theorem dX0_begin_20 : decode cX0_begin 20 = .ok (.aload_n 0, 1) := by decide +kernel
theorem dX0_begin_21 : decode cX0_begin 21 = .ok (.iconst 0, 1) := by decide +kernel
theorem dX0_begin_22 : decode cX0_begin 22 = .ok (.putfield 22, 3) := by decide +kernel
theorem dX0_begin_25 : decode cX0_begin 25 = .ok (.aload_n 0, 1) := by decide +kernel
theorem dX0_begin_26 : decode cX0_begin 26 = .ok (.iconst (-1), 1) := by decide +kernel
theorem dX0_begin_27 : decode cX0_begin 27 = .ok (.putfield 25, 3) := by decide +kernel
theorem dX0_begin_30 : decode cX0_begin 30 = .ok (.aload_n 0, 1) := by decide +kernel
theorem dX0_begin_31 : decode cX0_begin 31 = .ok (.iconst 0, 1) := by decide +kernel
theorem dX0_begin_32 : decode cX0_begin 32 = .ok (.putfield 28, 3) := by decide +kernel
theorem dX0_begin_35 : decode cX0_begin 35 = .ok (.aload_n 0, 1) := by decide +kernel
theorem dX0_begin_36 : decode cX0_begin 36 = .ok (.iconst (-1), 1) := by decide +kernel
theorem dX0_begin_37 : decode cX0_begin 37 = .ok (.putfield 31, 3) := by decide +kernel
theorem dX0_begin_40 : decode cX0_begin 40 = .ok (.return_, 1) := by decide +kernel
theorem dX0_run_0 : decode cX0_run 0 = .ok (.iconst 0, 1) := by decide +kernel
theorem dX0_run_1 : decode cX0_run 1 = .ok (.istore_n 3, 1) := by decide +kernel
theorem dX0_run_2 : decode cX0_run 2 = .ok (.iload_n 3, 1) := by decide +kernel
theorem dX0_run_3 : decode cX0_run 3 = .ok (.iload_n 2, 1) := by decide +kernel
theorem dX0_run_4 : decode cX0_run 4 = .ok (.if_icmp .ge 15, 3) := by decide +kernel
theorem dX0_run_7 : decode cX0_run 7 = .ok (.aload_n 0, 1) := by decide +kernel
theorem dX0_run_8 : decode cX0_run 8 = .ok (.aload_n 1, 1) := by decide +kernel
theorem dX0_run_9 : decode cX0_run 9 = .ok (.invokevirtual 45, 3) := by decide +kernel
theorem dX0_run_12 : decode cX0_run 12 = .ok (.pop, 1) := by decide +kernel
theorem dX0_run_13 : decode cX0_run 13 = .ok (.iinc 3 1, 3) := by decide +kernel
theorem dX0_run_16 : decode cX0_run 16 = .ok (.goto (-14), 3) := by decide +kernel
theorem dX0_run_19 : decode cX0_run 19 = .ok (.return_, 1) := by decide +kernel
theorem dX0_goOn_0 : decode cX0_goOn 0 = .ok (.aload_n 0, 1) := by decide +kernel
theorem dX0_goOn_1 : decode cX0_goOn 1 = .ok (.aload_n 1, 1) := by decide +kernel
theorem dX0_goOn_2 : decode cX0_goOn 2 = .ok (.invokevirtual 49, 3) := by decide +kernel
theorem dX0_goOn_5 : decode cX0_goOn 5 = .ok (.istore_n 2, 1) := by decide +kernel
theorem dX0_goOn_6 : decode cX0_goOn 6 = .ok (.aload_n 0, 1) := by decide +kernel
theorem dX0_goOn_7 : decode cX0_goOn 7 = .ok (.aload_n 1, 1) := by decide +kernel
theorem dX0_goOn_8 : decode cX0_goOn 8 = .ok (.invokevirtual 52, 3) := by decide +kernel
theorem dX0_goOn_11 : decode cX0_goOn 11 = .ok (.istore_n 3, 1) := by decide +kernel
theorem dX0_goOn_12 : decode cX0_goOn 12 = .ok (.iconst (-1), 1) := by decide +kernel
theorem dX0_goOn_13 : decode cX0_goOn 13 = .ok (.istore 4, 2) := by decide +kernel
theorem dX0_goOn_15 : decode cX0_goOn 15 = .ok (.iload_n 2, 1) := by decide +kernel
theorem dX0_goOn_16 : decode cX0_goOn 16 = .ok (.iconst (-1), 1) := by decide +kernel
theorem dX0_goOn_17 : decode cX0_goOn 17 = .ok (.if_icmp .eq 46, 3) := by decide +kernel
theorem dX0_goOn_20 : decode cX0_goOn 20 = .ok (.iload_n 3, 1) := by decide +kernel
theorem dX0_goOn_21 : decode cX0_goOn 21 = .ok (.iconst (-1), 1) := by decide +kernel
theorem dX0_goOn_22 : decode cX0_goOn 22 = .ok (.if_icmp .eq 41, 3) := by decide +kernel
theorem dX0_goOn_25 : decode cX0_goOn 25 = .ok (.aload_n 0, 1) := by decide +kernel
theorem dX0_goOn_26 : decode cX0_goOn 26 = .ok (.aload_n 1, 1) := by decide +kernel
theorem dX0_goOn_27 : decode cX0_goOn 27 = .ok (.iload_n 2, 1) := by decide +kernel
theorem dX0_goOn_28 : decode cX0_goOn 28 = .ok (.iload_n 3, 1) := by decide +kernel
theorem dX0_goOn_29 : decode cX0_goOn 29 = .ok (.invokevirtual 55, 3) := by decide +kernel
theorem dX0_goOn_32 : decode cX0_goOn 32 = .ok (.ifCond .eq 16, 3) := by decide +kernel
theorem dX0_goOn_35 : decode cX0_goOn 35 = .ok (.aload_n 0, 1) := by decide +kernel
theorem dX0_goOn_36 : decode cX0_goOn 36 = .ok (.aload_n 1, 1) := by decide +kernel
theorem dX0_goOn_37 : decode cX0_goOn 37 = .ok (.iload_n 2, 1) := by decide +kernel
theorem dX0_goOn_38 : decode cX0_goOn 38 = .ok (.iload_n 3, 1) := by decide +kernel
theorem dX0_goOn_39 : decode cX0_goOn 39 = .ok (.invokevirtual 59, 3) := by decide +kernel
theorem dX0_goOn_42 : decode cX0_goOn 42 = .ok (.iload_n 2, 1) := by decide +kernel
theorem dX0_goOn_43 : decode cX0_goOn 43 = .ok (.istore 4, 2) := by decide +kernel
theorem dX0_goOn_45 : decode cX0_goOn 45 = .ok (.goto 18, 3) := by decide +kernel
theorem dX0_goOn_48 : decode cX0_goOn 48 = .ok (.iload_n 2, 1) := by decide +kernel
theorem dX0_goOn_49 : decode cX0_goOn 49 = .ok (.aload_n 0, 1) := by decide +kernel
theorem dX0_goOn_50 : decode cX0_goOn 50 = .ok (.getfield 25, 3) := by decide +kernel
theorem dX0_goOn_53 : decode cX0_goOn 53 = .ok (.if_icmp .eq 10, 3) := by decide +kernel
theorem dX0_goOn_56 : decode cX0_goOn 56 = .ok (.aload_n 0, 1) := by decide +kernel
theorem dX0_goOn_57 : decode cX0_goOn 57 = .ok (.aload_n 1, 1) := by decide +kernel
theorem dX0_goOn_58 : decode cX0_goOn 58 = .ok (.iload_n 2, 1) := by decide +kernel
theorem dX0_goOn_59 : decode cX0_goOn 59 = .ok (.iload_n 3, 1) := by decide +kernel
theorem dX0_goOn_60 : decode cX0_goOn 60 = .ok (.invokevirtual 63, 3) := by decide +kernel
theorem dX0_goOn_63 : decode cX0_goOn 63 = .ok (.aload_n 0, 1) := by decide +kernel
theorem dX0_goOn_64 : decode cX0_goOn 64 = .ok (.aload_n 1, 1) := by decide +kernel
theorem dX0_goOn_65 : decode cX0_goOn 65 = .ok (.invokevirtual 66, 3) := by decide +kernel
theorem dX0_goOn_68 : decode cX0_goOn 68 = .ok (.aload_n 0, 1) := by decide +kernel
theorem dX0_goOn_69 : decode cX0_goOn 69 = .ok (.aload_n 1, 1) := by decide +kernel
theorem dX0_goOn_70 : decode cX0_goOn 70 = .ok (.invokevirtual 70, 3) := by decide +kernel
theorem dX0_goOn_73 : decode cX0_goOn 73 = .ok (.aload_n 1, 1) := by decide +kernel
theorem dX0_goOn_74 : decode cX0_goOn 74 = .ok (.dup, 1) := by decide +kernel
theorem dX0_goOn_75 : decode cX0_goOn 75 = .ok (.getfield 73, 3) := by decide +kernel
theorem dX0_goOn_78 : decode cX0_goOn 78 = .ok (.iconst 1, 1) := by decide +kernel
theorem dX0_goOn_79 : decode cX0_goOn 79 = .ok (.iadd, 1) := by decide +kernel
theorem dX0_goOn_80 : decode cX0_goOn 80 = .ok (.putfield 73, 3) := by decide +kernel
theorem dX0_goOn_83 : decode cX0_goOn 83 = .ok (.iload 4, 2) := by decide +kernel
theorem dX0_goOn_85 : decode cX0_goOn 85 = .ok (.ireturn, 1) := by decide +kernel
theorem dX0_guestAtBowl_0 : decode cX0_guestAtBowl 0 = .ok (.aload_n 0, 1) := by decide +kernel
theorem dX0_guestAtBowl_1 : decode cX0_guestAtBowl 1 = .ok (.getfield 41, 3) := by decide +kernel
theorem dX0_guestAtBowl_4 : decode cX0_guestAtBowl 4 = .ok (.getfield 78, 3) := by decide +kernel
theorem dX0_guestAtBowl_7 : decode cX0_guestAtBowl 7 = .ok (.ifCond .le 18, 3) := by decide +kernel
theorem dX0_guestAtBowl_10 : decode cX0_guestAtBowl 10 = .ok (.aload_n 1, 1) := by decide +kernel
theorem dX0_guestAtBowl_11 : decode cX0_guestAtBowl 11 = .ok (.getfield 73, 3) := by decide +kernel
theorem dX0_guestAtBowl_14 : decode cX0_guestAtBowl 14 = .ok (.aload_n 0, 1) := by decide +kernel
theorem dX0_guestAtBowl_15 : decode cX0_guestAtBowl 15 = .ok (.getfield 41, 3) := by decide +kernel
theorem dX0_guestAtBowl_18 : decode cX0_guestAtBowl 18 = .ok (.getfield 78, 3) := by decide +kernel
theorem dX0_guestAtBowl_21 : decode cX0_guestAtBowl 21 = .ok (.irem, 1) := by decide +kernel
theorem dX0_guestAtBowl_22 : decode cX0_guestAtBowl 22 = .ok (.goto 4, 3) := by decide +kernel
theorem dX0_guestAtBowl_25 : decode cX0_guestAtBowl 25 = .ok (.iconst (-1), 1) := by decide +kernel
theorem dX0_guestAtBowl_26 : decode cX0_guestAtBowl 26 = .ok (.istore_n 2, 1) := by decide +kernel
theorem dX0_guestAtBowl_27 : decode cX0_guestAtBowl 27 = .ok (.iconst 0, 1) := by decide +kernel
theorem dX0_guestAtBowl_28 : decode cX0_guestAtBowl 28 = .ok (.istore_n 3, 1) := by decide +kernel
theorem dX0_guestAtBowl_29 : decode cX0_guestAtBowl 29 = .ok (.iload_n 3, 1) := by decide +kernel
theorem dX0_guestAtBowl_30 : decode cX0_guestAtBowl 30 = .ok (.aload_n 0, 1) := by decide +kernel
theorem dX0_guestAtBowl_31 : decode cX0_guestAtBowl 31 = .ok (.getfield 41, 3) := by decide +kernel
theorem dX0_guestAtBowl_34 : decode cX0_guestAtBowl 34 = .ok (.getfield 78, 3) := by decide +kernel
theorem dX0_guestAtBowl_37 : decode cX0_guestAtBowl 37 = .ok (.if_icmp .ge 30, 3) := by decide +kernel
theorem dX0_guestAtBowl_40 : decode cX0_guestAtBowl 40 = .ok (.aload_n 1, 1) := by decide +kernel
theorem dX0_guestAtBowl_41 : decode cX0_guestAtBowl 41 = .ok (.getfield 83, 3) := by decide +kernel
theorem dX0_guestAtBowl_44 : decode cX0_guestAtBowl 44 = .ok (.iload_n 3, 1) := by decide +kernel
theorem dX0_guestAtBowl_45 : decode cX0_guestAtBowl 45 = .ok (.iaload, 1) := by decide +kernel
theorem dX0_guestAtBowl_46 : decode cX0_guestAtBowl 46 = .ok (.iload_n 2, 1) := by decide +kernel
theorem dX0_guestAtBowl_47 : decode cX0_guestAtBowl 47 = .ok (.if_icmp .ne 14, 3) := by decide +kernel
theorem dX0_guestAtBowl_50 : decode cX0_guestAtBowl 50 = .ok (.aload_n 0, 1) := by decide +kernel
theorem dX0_guestAtBowl_51 : decode cX0_guestAtBowl 51 = .ok (.aload_n 1, 1) := by decide +kernel
theorem dX0_guestAtBowl_52 : decode cX0_guestAtBowl 52 = .ok (.iload_n 3, 1) := by decide +kernel
theorem dX0_guestAtBowl_53 : decode cX0_guestAtBowl 53 = .ok (.invokevirtual 86, 3) := by decide +kernel
theorem dX0_guestAtBowl_56 : decode cX0_guestAtBowl 56 = .ok (.ifCond .eq 5, 3) := by decide +kernel
theorem dX0_guestAtBowl_59 : decode cX0_guestAtBowl 59 = .ok (.iload_n 3, 1) := by decide +kernel
theorem dX0_guestAtBowl_60 : decode cX0_guestAtBowl 60 = .ok (.ireturn, 1) := by decide +kernel
theorem dX0_guestAtBowl_61 : decode cX0_guestAtBowl 61 = .ok (.iinc 3 1, 3) := by decide +kernel
theorem dX0_guestAtBowl_64 : decode cX0_guestAtBowl 64 = .ok (.goto (-35), 3) := by decide +kernel
theorem dX0_guestAtBowl_67 : decode cX0_guestAtBowl 67 = .ok (.iconst (-1), 1) := by decide +kernel
theorem dX0_guestAtBowl_68 : decode cX0_guestAtBowl 68 = .ok (.ireturn, 1) := by decide +kernel
theorem dX0_fruitOnTop_0 : decode cX0_fruitOnTop 0 = .ok (.aload_n 0, 1) := by decide +kernel
theorem dX0_fruitOnTop_1 : decode cX0_fruitOnTop 1 = .ok (.getfield 41, 3) := by decide +kernel
theorem dX0_fruitOnTop_4 : decode cX0_fruitOnTop 4 = .ok (.getfield 90, 3) := by decide +kernel
theorem dX0_fruitOnTop_7 : decode cX0_fruitOnTop 7 = .ok (.ifCond .le 18, 3) := by decide +kernel
theorem dX0_fruitOnTop_10 : decode cX0_fruitOnTop 10 = .ok (.aload_n 1, 1) := by decide +kernel
theorem dX0_fruitOnTop_11 : decode cX0_fruitOnTop 11 = .ok (.getfield 73, 3) := by decide +kernel
theorem dX0_fruitOnTop_14 : decode cX0_fruitOnTop 14 = .ok (.aload_n 0, 1) := by decide +kernel
theorem dX0_fruitOnTop_15 : decode cX0_fruitOnTop 15 = .ok (.getfield 41, 3) := by decide +kernel
theorem dX0_fruitOnTop_18 : decode cX0_fruitOnTop 18 = .ok (.getfield 90, 3) := by decide +kernel
theorem dX0_fruitOnTop_21 : decode cX0_fruitOnTop 21 = .ok (.irem, 1) := by decide +kernel
theorem dX0_fruitOnTop_22 : decode cX0_fruitOnTop 22 = .ok (.goto 4, 3) := by decide +kernel
theorem dX0_fruitOnTop_25 : decode cX0_fruitOnTop 25 = .ok (.iconst (-1), 1) := by decide +kernel
theorem dX0_fruitOnTop_26 : decode cX0_fruitOnTop 26 = .ok (.ireturn, 1) := by decide +kernel
theorem dX0_sits_0 : decode cX0_sits 0 = .ok (.aload_n 1, 1) := by decide +kernel
theorem dX0_sits_1 : decode cX0_sits 1 = .ok (.getfield 93, 3) := by decide +kernel
theorem dX0_sits_4 : decode cX0_sits 4 = .ok (.aload_n 0, 1) := by decide +kernel
theorem dX0_sits_5 : decode cX0_sits 5 = .ok (.getfield 28, 3) := by decide +kernel
theorem dX0_sits_8 : decode cX0_sits 8 = .ok (.ior, 1) := by decide +kernel
theorem dX0_sits_9 : decode cX0_sits 9 = .ok (.iload_n 2, 1) := by decide +kernel
theorem dX0_sits_10 : decode cX0_sits 10 = .ok (.ishr, 1) := by decide +kernel
theorem dX0_sits_11 : decode cX0_sits 11 = .ok (.iconst 1, 1) := by decide +kernel
theorem dX0_sits_12 : decode cX0_sits 12 = .ok (.iand, 1) := by decide +kernel
theorem dX0_sits_13 : decode cX0_sits 13 = .ok (.ifCond .ne 7, 3) := by decide +kernel
theorem dX0_sits_16 : decode cX0_sits 16 = .ok (.iconst 1, 1) := by decide +kernel
theorem dX0_sits_17 : decode cX0_sits 17 = .ok (.goto 4, 3) := by decide +kernel
theorem dX0_sits_20 : decode cX0_sits 20 = .ok (.iconst 0, 1) := by decide +kernel
theorem dX0_sits_21 : decode cX0_sits 21 = .ok (.ireturn, 1) := by decide +kernel
theorem dX0_sitting_0 : decode cX0_sitting 0 = .ok (.iconst 1, 1) := by decide +kernel
theorem dX0_sitting_1 : decode cX0_sitting 1 = .ok (.aload_n 0, 1) := by decide +kernel
theorem dX0_sitting_2 : decode cX0_sitting 2 = .ok (.getfield 41, 3) := by decide +kernel
theorem dX0_sitting_5 : decode cX0_sitting 5 = .ok (.getfield 78, 3) := by decide +kernel
theorem dX0_sitting_8 : decode cX0_sitting 8 = .ok (.ishl, 1) := by decide +kernel
theorem dX0_sitting_9 : decode cX0_sitting 9 = .ok (.iconst 1, 1) := by decide +kernel
theorem dX0_sitting_10 : decode cX0_sitting 10 = .ok (.isub, 1) := by decide +kernel
theorem dX0_sitting_11 : decode cX0_sitting 11 = .ok (.aload_n 1, 1) := by decide +kernel
theorem dX0_sitting_12 : decode cX0_sitting 12 = .ok (.getfield 93, 3) := by decide +kernel
theorem dX0_sitting_15 : decode cX0_sitting 15 = .ok (.aload_n 0, 1) := by decide +kernel
theorem dX0_sitting_16 : decode cX0_sitting 16 = .ok (.getfield 28, 3) := by decide +kernel
theorem dX0_sitting_19 : decode cX0_sitting 19 = .ok (.ior, 1) := by decide +kernel
theorem dX0_sitting_20 : decode cX0_sitting 20 = .ok (.iconst (-1), 1) := by decide +kernel
theorem dX0_sitting_21 : decode cX0_sitting 21 = .ok (.ixor, 1) := by decide +kernel
theorem dX0_sitting_22 : decode cX0_sitting 22 = .ok (.iand, 1) := by decide +kernel
theorem dX0_sitting_23 : decode cX0_sitting 23 = .ok (.ireturn, 1) := by decide +kernel
theorem dX0_seatsBetween_0 : decode cX0_seatsBetween 0 = .ok (.aload_n 1, 1) := by decide +kernel
theorem dX0_seatsBetween_1 : decode cX0_seatsBetween 1 = .ok (.getfield 83, 3) := by decide +kernel
theorem dX0_seatsBetween_4 : decode cX0_seatsBetween 4 = .ok (.iload_n 2, 1) := by decide +kernel
theorem dX0_seatsBetween_5 : decode cX0_seatsBetween 5 = .ok (.iaload, 1) := by decide +kernel
theorem dX0_seatsBetween_6 : decode cX0_seatsBetween 6 = .ok (.aload_n 1, 1) := by decide +kernel
theorem dX0_seatsBetween_7 : decode cX0_seatsBetween 7 = .ok (.getfield 83, 3) := by decide +kernel
theorem dX0_seatsBetween_10 : decode cX0_seatsBetween 10 = .ok (.iload_n 3, 1) := by decide +kernel
theorem dX0_seatsBetween_11 : decode cX0_seatsBetween 11 = .ok (.iaload, 1) := by decide +kernel
theorem dX0_seatsBetween_12 : decode cX0_seatsBetween 12 = .ok (.isub, 1) := by decide +kernel
theorem dX0_seatsBetween_13 : decode cX0_seatsBetween 13 = .ok (.invokestatic 96, 3) := by decide +kernel
theorem dX0_seatsBetween_16 : decode cX0_seatsBetween 16 = .ok (.istore 4, 2) := by decide +kernel
theorem dX0_seatsBetween_18 : decode cX0_seatsBetween 18 = .ok (.iload 4, 2) := by decide +kernel
theorem dX0_seatsBetween_20 : decode cX0_seatsBetween 20 = .ok (.aload_n 0, 1) := by decide +kernel
theorem dX0_seatsBetween_21 : decode cX0_seatsBetween 21 = .ok (.getfield 41, 3) := by decide +kernel
theorem dX0_seatsBetween_24 : decode cX0_seatsBetween 24 = .ok (.getfield 78, 3) := by decide +kernel
theorem dX0_seatsBetween_27 : decode cX0_seatsBetween 27 = .ok (.iload 4, 2) := by decide +kernel
theorem dX0_seatsBetween_29 : decode cX0_seatsBetween 29 = .ok (.isub, 1) := by decide +kernel
theorem dX0_seatsBetween_30 : decode cX0_seatsBetween 30 = .ok (.invokestatic 102, 3) := by decide +kernel
theorem dX0_seatsBetween_33 : decode cX0_seatsBetween 33 = .ok (.ireturn, 1) := by decide +kernel
theorem dX0_hears_0 : decode cX0_hears 0 = .ok (.iload_n 2, 1) := by decide +kernel
theorem dX0_hears_1 : decode cX0_hears 1 = .ok (.iload_n 3, 1) := by decide +kernel
theorem dX0_hears_2 : decode cX0_hears 2 = .ok (.if_icmp .eq 49, 3) := by decide +kernel
theorem dX0_hears_5 : decode cX0_hears 5 = .ok (.aload_n 0, 1) := by decide +kernel
theorem dX0_hears_6 : decode cX0_hears 6 = .ok (.aload_n 1, 1) := by decide +kernel
theorem dX0_hears_7 : decode cX0_hears 7 = .ok (.iload_n 2, 1) := by decide +kernel
theorem dX0_hears_8 : decode cX0_hears 8 = .ok (.invokevirtual 86, 3) := by decide +kernel
theorem dX0_hears_11 : decode cX0_hears 11 = .ok (.ifCond .eq 40, 3) := by decide +kernel
theorem dX0_hears_14 : decode cX0_hears 14 = .ok (.aload_n 0, 1) := by decide +kernel
theorem dX0_hears_15 : decode cX0_hears 15 = .ok (.aload_n 1, 1) := by decide +kernel
theorem dX0_hears_16 : decode cX0_hears 16 = .ok (.iload_n 3, 1) := by decide +kernel
theorem dX0_hears_17 : decode cX0_hears 17 = .ok (.invokevirtual 86, 3) := by decide +kernel
theorem dX0_hears_20 : decode cX0_hears 20 = .ok (.ifCond .eq 31, 3) := by decide +kernel
theorem dX0_hears_23 : decode cX0_hears 23 = .ok (.aload_n 0, 1) := by decide +kernel
theorem dX0_hears_24 : decode cX0_hears 24 = .ok (.getfield 22, 3) := by decide +kernel
theorem dX0_hears_27 : decode cX0_hears 27 = .ok (.ifCond .ne 20, 3) := by decide +kernel
theorem dX0_hears_30 : decode cX0_hears 30 = .ok (.aload_n 0, 1) := by decide +kernel
theorem dX0_hears_31 : decode cX0_hears 31 = .ok (.aload_n 1, 1) := by decide +kernel
theorem dX0_hears_32 : decode cX0_hears 32 = .ok (.iload_n 2, 1) := by decide +kernel
theorem dX0_hears_33 : decode cX0_hears 33 = .ok (.iload_n 3, 1) := by decide +kernel
theorem dX0_hears_34 : decode cX0_hears 34 = .ok (.invokevirtual 106, 3) := by decide +kernel
theorem dX0_hears_37 : decode cX0_hears 37 = .ok (.aload_n 0, 1) := by decide +kernel
theorem dX0_hears_38 : decode cX0_hears 38 = .ok (.getfield 41, 3) := by decide +kernel
theorem dX0_hears_41 : decode cX0_hears 41 = .ok (.getfield 110, 3) := by decide +kernel
theorem dX0_hears_44 : decode cX0_hears 44 = .ok (.if_icmp .gt 7, 3) := by decide +kernel
theorem dX0_hears_47 : decode cX0_hears 47 = .ok (.iconst 1, 1) := by decide +kernel
theorem dX0_hears_48 : decode cX0_hears 48 = .ok (.goto 4, 3) := by decide +kernel
theorem dX0_hears_51 : decode cX0_hears 51 = .ok (.iconst 0, 1) := by decide +kernel
theorem dX0_hears_52 : decode cX0_hears 52 = .ok (.ireturn, 1) := by decide +kernel
theorem dX0_hearers_0 : decode cX0_hearers 0 = .ok (.iconst 0, 1) := by decide +kernel
theorem dX0_hearers_1 : decode cX0_hearers 1 = .ok (.istore_n 3, 1) := by decide +kernel
theorem dX0_hearers_2 : decode cX0_hearers 2 = .ok (.iconst 0, 1) := by decide +kernel
theorem dX0_hearers_3 : decode cX0_hearers 3 = .ok (.istore 4, 2) := by decide +kernel
theorem dX0_hearers_5 : decode cX0_hearers 5 = .ok (.iload 4, 2) := by decide +kernel
theorem dX0_hearers_7 : decode cX0_hearers 7 = .ok (.aload_n 0, 1) := by decide +kernel
theorem dX0_hearers_8 : decode cX0_hearers 8 = .ok (.getfield 41, 3) := by decide +kernel
theorem dX0_hearers_11 : decode cX0_hearers 11 = .ok (.getfield 78, 3) := by decide +kernel
theorem dX0_hearers_14 : decode cX0_hearers 14 = .ok (.if_icmp .ge 27, 3) := by decide +kernel
theorem dX0_hearers_17 : decode cX0_hearers 17 = .ok (.aload_n 0, 1) := by decide +kernel
theorem dX0_hearers_18 : decode cX0_hearers 18 = .ok (.aload_n 1, 1) := by decide +kernel
theorem dX0_hearers_19 : decode cX0_hearers 19 = .ok (.iload 4, 2) := by decide +kernel
theorem dX0_hearers_21 : decode cX0_hearers 21 = .ok (.iload_n 2, 1) := by decide +kernel
theorem dX0_hearers_22 : decode cX0_hearers 22 = .ok (.invokevirtual 113, 3) := by decide +kernel
theorem dX0_hearers_25 : decode cX0_hearers 25 = .ok (.ifCond .eq 10, 3) := by decide +kernel
theorem dX0_hearers_28 : decode cX0_hearers 28 = .ok (.iload_n 3, 1) := by decide +kernel
theorem dX0_hearers_29 : decode cX0_hearers 29 = .ok (.iconst 1, 1) := by decide +kernel
theorem dX0_hearers_30 : decode cX0_hearers 30 = .ok (.iload 4, 2) := by decide +kernel
theorem dX0_hearers_32 : decode cX0_hearers 32 = .ok (.ishl, 1) := by decide +kernel
theorem dX0_hearers_33 : decode cX0_hearers 33 = .ok (.ior, 1) := by decide +kernel
theorem dX0_hearers_34 : decode cX0_hearers 34 = .ok (.istore_n 3, 1) := by decide +kernel
theorem dX0_hearers_35 : decode cX0_hearers 35 = .ok (.iinc 4 1, 3) := by decide +kernel
theorem dX0_hearers_38 : decode cX0_hearers 38 = .ok (.goto (-33), 3) := by decide +kernel
theorem dX0_hearers_41 : decode cX0_hearers 41 = .ok (.iload_n 3, 1) := by decide +kernel
theorem dX0_hearers_42 : decode cX0_hearers 42 = .ok (.ireturn, 1) := by decide +kernel
theorem dX0_workOut_0 : decode cX0_workOut 0 = .ok (.aload_n 0, 1) := by decide +kernel
theorem dX0_workOut_1 : decode cX0_workOut 1 = .ok (.getfield 41, 3) := by decide +kernel
theorem dX0_workOut_4 : decode cX0_workOut 4 = .ok (.getfield 116, 3) := by decide +kernel
theorem dX0_workOut_7 : decode cX0_workOut 7 = .ok (.iload_n 1, 1) := by decide +kernel
theorem dX0_workOut_8 : decode cX0_workOut 8 = .ok (.invokevirtual 120, 3) := by decide +kernel
theorem dX0_workOut_11 : decode cX0_workOut 11 = .ok (.ifCond .ne 7, 3) := by decide +kernel
theorem dX0_workOut_14 : decode cX0_workOut 14 = .ok (.ldc2_w 126, 3) := by decide +kernel
theorem dX0_workOut_17 : decode cX0_workOut 17 = .ok (.lreturn, 1) := by decide +kernel
theorem dX0_workOut_18 : decode cX0_workOut 18 = .ok (.aload_n 0, 1) := by decide +kernel
theorem dX0_workOut_19 : decode cX0_workOut 19 = .ok (.getfield 37, 3) := by decide +kernel
theorem dX0_workOut_22 : decode cX0_workOut 22 = .ok (.iconst 0, 1) := by decide +kernel
theorem dX0_workOut_23 : decode cX0_workOut 23 = .ok (.aload_n 2, 1) := by decide +kernel
theorem dX0_workOut_24 : decode cX0_workOut 24 = .ok (.getfield 128, 3) := by decide +kernel
theorem dX0_workOut_27 : decode cX0_workOut 27 = .ok (.iload_n 3, 1) := by decide +kernel
theorem dX0_workOut_28 : decode cX0_workOut 28 = .ok (.iaload, 1) := by decide +kernel
theorem dX0_workOut_29 : decode cX0_workOut 29 = .ok (.iastore, 1) := by decide +kernel
theorem dX0_workOut_30 : decode cX0_workOut 30 = .ok (.aload_n 0, 1) := by decide +kernel
theorem dX0_workOut_31 : decode cX0_workOut 31 = .ok (.getfield 37, 3) := by decide +kernel
theorem dX0_workOut_34 : decode cX0_workOut 34 = .ok (.iconst 1, 1) := by decide +kernel
theorem dX0_workOut_35 : decode cX0_workOut 35 = .ok (.aload_n 2, 1) := by decide +kernel
theorem dX0_workOut_36 : decode cX0_workOut 36 = .ok (.getfield 131, 3) := by decide +kernel
theorem dX0_workOut_39 : decode cX0_workOut 39 = .ok (.iload_n 3, 1) := by decide +kernel
theorem dX0_workOut_40 : decode cX0_workOut 40 = .ok (.iaload, 1) := by decide +kernel
theorem dX0_workOut_41 : decode cX0_workOut 41 = .ok (.iastore, 1) := by decide +kernel
theorem dX0_workOut_42 : decode cX0_workOut 42 = .ok (.aload_n 0, 1) := by decide +kernel
theorem dX0_workOut_43 : decode cX0_workOut 43 = .ok (.getfield 37, 3) := by decide +kernel
theorem dX0_workOut_46 : decode cX0_workOut 46 = .ok (.iconst 2, 1) := by decide +kernel
theorem dX0_workOut_47 : decode cX0_workOut 47 = .ok (.aload_n 0, 1) := by decide +kernel
theorem dX0_workOut_48 : decode cX0_workOut 48 = .ok (.getfield 41, 3) := by decide +kernel
theorem dX0_workOut_51 : decode cX0_workOut 51 = .ok (.getfield 134, 3) := by decide +kernel
theorem dX0_workOut_54 : decode cX0_workOut 54 = .ok (.iload_n 3, 1) := by decide +kernel
theorem dX0_workOut_55 : decode cX0_workOut 55 = .ok (.iaload, 1) := by decide +kernel
theorem dX0_workOut_56 : decode cX0_workOut 56 = .ok (.iastore, 1) := by decide +kernel
theorem dX0_workOut_57 : decode cX0_workOut 57 = .ok (.aload_n 0, 1) := by decide +kernel
theorem dX0_workOut_58 : decode cX0_workOut 58 = .ok (.getfield 37, 3) := by decide +kernel
theorem dX0_workOut_61 : decode cX0_workOut 61 = .ok (.iconst 3, 1) := by decide +kernel
theorem dX0_workOut_62 : decode cX0_workOut 62 = .ok (.aload_n 0, 1) := by decide +kernel
theorem dX0_workOut_63 : decode cX0_workOut 63 = .ok (.iload 4, 2) := by decide +kernel
theorem dX0_workOut_65 : decode cX0_workOut 65 = .ok (.invokevirtual 137, 3) := by decide +kernel
theorem dX0_workOut_68 : decode cX0_workOut 68 = .ok (.iastore, 1) := by decide +kernel
theorem dX0_workOut_69 : decode cX0_workOut 69 = .ok (.aload_n 0, 1) := by decide +kernel
theorem dX0_workOut_70 : decode cX0_workOut 70 = .ok (.getfield 37, 3) := by decide +kernel
theorem dX0_workOut_73 : decode cX0_workOut 73 = .ok (.iconst 4, 1) := by decide +kernel
theorem dX0_workOut_74 : decode cX0_workOut 74 = .ok (.aload_n 2, 1) := by decide +kernel
theorem dX0_workOut_75 : decode cX0_workOut 75 = .ok (.getfield 140, 3) := by decide +kernel
theorem dX0_workOut_78 : decode cX0_workOut 78 = .ok (.iload 4, 2) := by decide +kernel
theorem dX0_workOut_80 : decode cX0_workOut 80 = .ok (.iaload, 1) := by decide +kernel
theorem dX0_workOut_81 : decode cX0_workOut 81 = .ok (.iastore, 1) := by decide +kernel
theorem dX0_workOut_82 : decode cX0_workOut 82 = .ok (.aload_n 0, 1) := by decide +kernel
theorem dX0_workOut_83 : decode cX0_workOut 83 = .ok (.getfield 37, 3) := by decide +kernel
theorem dX0_workOut_86 : decode cX0_workOut 86 = .ok (.iconst 5, 1) := by decide +kernel
theorem dX0_workOut_87 : decode cX0_workOut 87 = .ok (.aload_n 0, 1) := by decide +kernel
theorem dX0_workOut_88 : decode cX0_workOut 88 = .ok (.aload_n 2, 1) := by decide +kernel
theorem dX0_workOut_89 : decode cX0_workOut 89 = .ok (.invokevirtual 143, 3) := by decide +kernel
theorem dX0_workOut_92 : decode cX0_workOut 92 = .ok (.invokestatic 146, 3) := by decide +kernel
theorem dX0_workOut_95 : decode cX0_workOut 95 = .ok (.iastore, 1) := by decide +kernel
theorem dX0_workOut_96 : decode cX0_workOut 96 = .ok (.aload_n 0, 1) := by decide +kernel
theorem dX0_workOut_97 : decode cX0_workOut 97 = .ok (.getfield 37, 3) := by decide +kernel
theorem dX0_workOut_100 : decode cX0_workOut 100 = .ok (.bipush 6, 2) := by decide +kernel
theorem dX0_workOut_102 : decode cX0_workOut 102 = .ok (.aload_n 2, 1) := by decide +kernel
theorem dX0_workOut_103 : decode cX0_workOut 103 = .ok (.getfield 73, 3) := by decide +kernel
theorem dX0_workOut_106 : decode cX0_workOut 106 = .ok (.iastore, 1) := by decide +kernel
theorem dX0_workOut_107 : decode cX0_workOut 107 = .ok (.aload_n 0, 1) := by decide +kernel
theorem dX0_workOut_108 : decode cX0_workOut 108 = .ok (.getfield 41, 3) := by decide +kernel
theorem dX0_workOut_111 : decode cX0_workOut 111 = .ok (.getfield 116, 3) := by decide +kernel
theorem dX0_workOut_114 : decode cX0_workOut 114 = .ok (.iload_n 1, 1) := by decide +kernel
theorem dX0_workOut_115 : decode cX0_workOut 115 = .ok (.aload_n 0, 1) := by decide +kernel
theorem dX0_workOut_116 : decode cX0_workOut 116 = .ok (.getfield 37, 3) := by decide +kernel
theorem dX0_workOut_119 : decode cX0_workOut 119 = .ok (.invokevirtual 151, 3) := by decide +kernel
theorem dX0_workOut_122 : decode cX0_workOut 122 = .ok (.lreturn, 1) := by decide +kernel
theorem dX0_sweetOf_0 : decode cX0_sweetOf 0 = .ok (.iload_n 1, 1) := by decide +kernel
theorem dX0_sweetOf_1 : decode cX0_sweetOf 1 = .ok (.aload_n 0, 1) := by decide +kernel
theorem dX0_sweetOf_2 : decode cX0_sweetOf 2 = .ok (.getfield 31, 3) := by decide +kernel
theorem dX0_sweetOf_5 : decode cX0_sweetOf 5 = .ok (.if_icmp .ne 10, 3) := by decide +kernel
theorem dX0_sweetOf_8 : decode cX0_sweetOf 8 = .ok (.aload_n 0, 1) := by decide +kernel
theorem dX0_sweetOf_9 : decode cX0_sweetOf 9 = .ok (.getfield 34, 3) := by decide +kernel
theorem dX0_sweetOf_12 : decode cX0_sweetOf 12 = .ok (.goto 12, 3) := by decide +kernel
theorem dX0_sweetOf_15 : decode cX0_sweetOf 15 = .ok (.aload_n 0, 1) := by decide +kernel
theorem dX0_sweetOf_16 : decode cX0_sweetOf 16 = .ok (.getfield 41, 3) := by decide +kernel
theorem dX0_sweetOf_19 : decode cX0_sweetOf 19 = .ok (.getfield 155, 3) := by decide +kernel
theorem dX0_sweetOf_22 : decode cX0_sweetOf 22 = .ok (.iload_n 1, 1) := by decide +kernel
theorem dX0_sweetOf_23 : decode cX0_sweetOf 23 = .ok (.iaload, 1) := by decide +kernel
theorem dX0_sweetOf_24 : decode cX0_sweetOf 24 = .ok (.ireturn, 1) := by decide +kernel
theorem dX0_bites_0 : decode cX0_bites 0 = .ok (.aload_n 0, 1) := by decide +kernel
theorem dX0_bites_1 : decode cX0_bites 1 = .ok (.getfield 15, 3) := by decide +kernel
theorem dX0_bites_4 : decode cX0_bites 4 = .ok (.ifCond .eq 5, 3) := by decide +kernel
theorem dX0_bites_7 : decode cX0_bites 7 = .ok (.iconst 0, 1) := by decide +kernel
theorem dX0_bites_8 : decode cX0_bites 8 = .ok (.ireturn, 1) := by decide +kernel
theorem dX0_bites_9 : decode cX0_bites 9 = .ok (.aload_n 0, 1) := by decide +kernel
theorem dX0_bites_10 : decode cX0_bites 10 = .ok (.getfield 41, 3) := by decide +kernel
theorem dX0_bites_13 : decode cX0_bites 13 = .ok (.iload_n 2, 1) := by decide +kernel
theorem dX0_bites_14 : decode cX0_bites 14 = .ok (.aload_n 1, 1) := by decide +kernel
theorem dX0_bites_15 : decode cX0_bites 15 = .ok (.getfield 73, 3) := by decide +kernel
theorem dX0_bites_18 : decode cX0_bites 18 = .ok (.invokevirtual 158, 3) := by decide +kernel
theorem dX0_bites_21 : decode cX0_bites 21 = .ok (.ifCond .eq 5, 3) := by decide +kernel
theorem dX0_bites_24 : decode cX0_bites 24 = .ok (.iconst 1, 1) := by decide +kernel
theorem dX0_bites_25 : decode cX0_bites 25 = .ok (.ireturn, 1) := by decide +kernel
theorem dX0_bites_26 : decode cX0_bites 26 = .ok (.aload_n 0, 1) := by decide +kernel
theorem dX0_bites_27 : decode cX0_bites 27 = .ok (.iconst 1, 1) := by decide +kernel
theorem dX0_bites_28 : decode cX0_bites 28 = .ok (.aload_n 1, 1) := by decide +kernel
theorem dX0_bites_29 : decode cX0_bites 29 = .ok (.iload_n 2, 1) := by decide +kernel
theorem dX0_bites_30 : decode cX0_bites 30 = .ok (.iload_n 3, 1) := by decide +kernel
theorem dX0_bites_31 : decode cX0_bites 31 = .ok (.invokevirtual 162, 3) := by decide +kernel
theorem dX0_bites_34 : decode cX0_bites 34 = .ok (.lstore 4, 2) := by decide +kernel
theorem dX0_bites_36 : decode cX0_bites 36 = .ok (.lload 4, 2) := by decide +kernel
theorem dX0_bites_38 : decode cX0_bites 38 = .ok (.ldc2_w 126, 3) := by decide +kernel
theorem dX0_bites_41 : decode cX0_bites 41 = .ok (.lcmp, 1) := by decide +kernel
theorem dX0_bites_42 : decode cX0_bites 42 = .ok (.ifCond .ne 26, 3) := by decide +kernel
theorem dX0_bites_45 : decode cX0_bites 45 = .ok (.aload_n 1, 1) := by decide +kernel
theorem dX0_bites_46 : decode cX0_bites 46 = .ok (.getfield 131, 3) := by decide +kernel
theorem dX0_bites_49 : decode cX0_bites 49 = .ok (.iload_n 2, 1) := by decide +kernel
theorem dX0_bites_50 : decode cX0_bites 50 = .ok (.iaload, 1) := by decide +kernel
theorem dX0_bites_51 : decode cX0_bites 51 = .ok (.aload_n 1, 1) := by decide +kernel
theorem dX0_bites_52 : decode cX0_bites 52 = .ok (.getfield 128, 3) := by decide +kernel
theorem dX0_bites_55 : decode cX0_bites 55 = .ok (.iload_n 2, 1) := by decide +kernel
theorem dX0_bites_56 : decode cX0_bites 56 = .ok (.iaload, 1) := by decide +kernel
theorem dX0_bites_57 : decode cX0_bites 57 = .ok (.if_icmp .le 7, 3) := by decide +kernel
theorem dX0_bites_60 : decode cX0_bites 60 = .ok (.iconst 1, 1) := by decide +kernel
theorem dX0_bites_61 : decode cX0_bites 61 = .ok (.goto 19, 3) := by decide +kernel
theorem dX0_bites_64 : decode cX0_bites 64 = .ok (.iconst 0, 1) := by decide +kernel
theorem dX0_bites_65 : decode cX0_bites 65 = .ok (.goto 15, 3) := by decide +kernel
theorem dX0_bites_68 : decode cX0_bites 68 = .ok (.lload 4, 2) := by decide +kernel
theorem dX0_bites_70 : decode cX0_bites 70 = .ok (.lconst 0, 1) := by decide +kernel
theorem dX0_bites_71 : decode cX0_bites 71 = .ok (.lcmp, 1) := by decide +kernel
theorem dX0_bites_72 : decode cX0_bites 72 = .ok (.ifCond .eq 7, 3) := by decide +kernel
theorem dX0_bites_75 : decode cX0_bites 75 = .ok (.iconst 1, 1) := by decide +kernel
theorem dX0_bites_76 : decode cX0_bites 76 = .ok (.goto 4, 3) := by decide +kernel
theorem dX0_bites_79 : decode cX0_bites 79 = .ok (.iconst 0, 1) := by decide +kernel
theorem dX0_bites_80 : decode cX0_bites 80 = .ok (.ireturn, 1) := by decide +kernel
theorem dX0_bite_0 : decode cX0_bite 0 = .ok (.aload_n 1, 1) := by decide +kernel
theorem dX0_bite_1 : decode cX0_bite 1 = .ok (.getfield 166, 3) := by decide +kernel
theorem dX0_bite_4 : decode cX0_bite 4 = .ok (.iload_n 2, 1) := by decide +kernel
theorem dX0_bite_5 : decode cX0_bite 5 = .ok (.dup2, 1) := by decide +kernel
theorem dX0_bite_6 : decode cX0_bite 6 = .ok (.iaload, 1) := by decide +kernel
theorem dX0_bite_7 : decode cX0_bite 7 = .ok (.iconst 1, 1) := by decide +kernel
theorem dX0_bite_8 : decode cX0_bite 8 = .ok (.iadd, 1) := by decide +kernel
theorem dX0_bite_9 : decode cX0_bite 9 = .ok (.iastore, 1) := by decide +kernel
theorem dX0_bite_10 : decode cX0_bite 10 = .ok (.aload_n 1, 1) := by decide +kernel
theorem dX0_bite_11 : decode cX0_bite 11 = .ok (.getfield 140, 3) := by decide +kernel
theorem dX0_bite_14 : decode cX0_bite 14 = .ok (.iload_n 3, 1) := by decide +kernel
theorem dX0_bite_15 : decode cX0_bite 15 = .ok (.dup2, 1) := by decide +kernel
theorem dX0_bite_16 : decode cX0_bite 16 = .ok (.iaload, 1) := by decide +kernel
theorem dX0_bite_17 : decode cX0_bite 17 = .ok (.iconst 1, 1) := by decide +kernel
theorem dX0_bite_18 : decode cX0_bite 18 = .ok (.iadd, 1) := by decide +kernel
theorem dX0_bite_19 : decode cX0_bite 19 = .ok (.iastore, 1) := by decide +kernel
theorem dX0_bite_20 : decode cX0_bite 20 = .ok (.aload_n 0, 1) := by decide +kernel
theorem dX0_bite_21 : decode cX0_bite 21 = .ok (.getfield 19, 3) := by decide +kernel
theorem dX0_bite_24 : decode cX0_bite 24 = .ok (.ifCond .ne 16, 3) := by decide +kernel
theorem dX0_bite_27 : decode cX0_bite 27 = .ok (.aload_n 0, 1) := by decide +kernel
theorem dX0_bite_28 : decode cX0_bite 28 = .ok (.getfield 41, 3) := by decide +kernel
theorem dX0_bite_31 : decode cX0_bite 31 = .ok (.getfield 169, 3) := by decide +kernel
theorem dX0_bite_34 : decode cX0_bite 34 = .ok (.iload_n 3, 1) := by decide +kernel
theorem dX0_bite_35 : decode cX0_bite 35 = .ok (.iaload, 1) := by decide +kernel
theorem dX0_bite_36 : decode cX0_bite 36 = .ok (.iconst 1, 1) := by decide +kernel
theorem dX0_bite_37 : decode cX0_bite 37 = .ok (.if_icmp .ne 23, 3) := by decide +kernel
theorem dX0_bite_40 : decode cX0_bite 40 = .ok (.aload_n 1, 1) := by decide +kernel
theorem dX0_bite_41 : decode cX0_bite 41 = .ok (.iload_n 3, 1) := by decide +kernel
theorem dX0_bite_42 : decode cX0_bite 42 = .ok (.invokevirtual 172, 3) := by decide +kernel
theorem dX0_bite_45 : decode cX0_bite 45 = .ok (.ifCond .ne 15, 3) := by decide +kernel
theorem dX0_bite_48 : decode cX0_bite 48 = .ok (.aload_n 1, 1) := by decide +kernel
theorem dX0_bite_49 : decode cX0_bite 49 = .ok (.iload_n 3, 1) := by decide +kernel
theorem dX0_bite_50 : decode cX0_bite 50 = .ok (.invokevirtual 175, 3) := by decide +kernel
theorem dX0_bite_53 : decode cX0_bite 53 = .ok (.aload_n 1, 1) := by decide +kernel
theorem dX0_bite_54 : decode cX0_bite 54 = .ok (.getfield 131, 3) := by decide +kernel
theorem dX0_bite_57 : decode cX0_bite 57 = .ok (.iload_n 2, 1) := by decide +kernel
theorem dX0_bite_58 : decode cX0_bite 58 = .ok (.iconst 0, 1) := by decide +kernel
theorem dX0_bite_59 : decode cX0_bite 59 = .ok (.iastore, 1) := by decide +kernel
theorem dX0_bite_60 : decode cX0_bite 60 = .ok (.iconst 0, 1) := by decide +kernel
theorem dX0_bite_61 : decode cX0_bite 61 = .ok (.istore 4, 2) := by decide +kernel
theorem dX0_bite_63 : decode cX0_bite 63 = .ok (.iload 4, 2) := by decide +kernel
theorem dX0_bite_65 : decode cX0_bite 65 = .ok (.aload_n 0, 1) := by decide +kernel
theorem dX0_bite_66 : decode cX0_bite 66 = .ok (.getfield 41, 3) := by decide +kernel
theorem dX0_bite_69 : decode cX0_bite 69 = .ok (.getfield 78, 3) := by decide +kernel
theorem dX0_bite_72 : decode cX0_bite 72 = .ok (.if_icmp .ge 47, 3) := by decide +kernel
theorem dX0_bite_75 : decode cX0_bite 75 = .ok (.aload_n 0, 1) := by decide +kernel
theorem dX0_bite_76 : decode cX0_bite 76 = .ok (.aload_n 1, 1) := by decide +kernel
theorem dX0_bite_77 : decode cX0_bite 77 = .ok (.iload 4, 2) := by decide +kernel
theorem dX0_bite_79 : decode cX0_bite 79 = .ok (.iload_n 2, 1) := by decide +kernel
theorem dX0_bite_80 : decode cX0_bite 80 = .ok (.invokevirtual 113, 3) := by decide +kernel
theorem dX0_bite_83 : decode cX0_bite 83 = .ok (.ifCond .eq 30, 3) := by decide +kernel
theorem dX0_bite_86 : decode cX0_bite 86 = .ok (.aload_n 1, 1) := by decide +kernel
theorem dX0_bite_87 : decode cX0_bite 87 = .ok (.getfield 128, 3) := by decide +kernel
theorem dX0_bite_90 : decode cX0_bite 90 = .ok (.iload 4, 2) := by decide +kernel
theorem dX0_bite_92 : decode cX0_bite 92 = .ok (.iconst 0, 1) := by decide +kernel
theorem dX0_bite_93 : decode cX0_bite 93 = .ok (.aload_n 1, 1) := by decide +kernel
theorem dX0_bite_94 : decode cX0_bite 94 = .ok (.getfield 128, 3) := by decide +kernel
theorem dX0_bite_97 : decode cX0_bite 97 = .ok (.iload 4, 2) := by decide +kernel
theorem dX0_bite_99 : decode cX0_bite 99 = .ok (.iaload, 1) := by decide +kernel
theorem dX0_bite_100 : decode cX0_bite 100 = .ok (.aload_n 0, 1) := by decide +kernel
theorem dX0_bite_101 : decode cX0_bite 101 = .ok (.aload_n 1, 1) := by decide +kernel
theorem dX0_bite_102 : decode cX0_bite 102 = .ok (.iload 4, 2) := by decide +kernel
theorem dX0_bite_104 : decode cX0_bite 104 = .ok (.iload_n 3, 1) := by decide +kernel
theorem dX0_bite_105 : decode cX0_bite 105 = .ok (.invokevirtual 179, 3) := by decide +kernel
theorem dX0_bite_108 : decode cX0_bite 108 = .ok (.isub, 1) := by decide +kernel
theorem dX0_bite_109 : decode cX0_bite 109 = .ok (.invokestatic 182, 3) := by decide +kernel
theorem dX0_bite_112 : decode cX0_bite 112 = .ok (.iastore, 1) := by decide +kernel
theorem dX0_bite_113 : decode cX0_bite 113 = .ok (.iinc 4 1, 3) := by decide +kernel
theorem dX0_bite_116 : decode cX0_bite 116 = .ok (.goto (-53), 3) := by decide +kernel
theorem dX0_bite_119 : decode cX0_bite 119 = .ok (.return_, 1) := by decide +kernel
theorem dX0_shockOf_0 : decode cX0_shockOf 0 = .ok (.aload_n 0, 1) := by decide +kernel
theorem dX0_shockOf_1 : decode cX0_shockOf 1 = .ok (.iconst 2, 1) := by decide +kernel
theorem dX0_shockOf_2 : decode cX0_shockOf 2 = .ok (.aload_n 1, 1) := by decide +kernel
theorem dX0_shockOf_3 : decode cX0_shockOf 3 = .ok (.iload_n 2, 1) := by decide +kernel
theorem dX0_shockOf_4 : decode cX0_shockOf 4 = .ok (.iload_n 3, 1) := by decide +kernel
theorem dX0_shockOf_5 : decode cX0_shockOf 5 = .ok (.invokevirtual 162, 3) := by decide +kernel
theorem dX0_shockOf_8 : decode cX0_shockOf 8 = .ok (.lstore 4, 2) := by decide +kernel
theorem dX0_shockOf_10 : decode cX0_shockOf 10 = .ok (.lload 4, 2) := by decide +kernel
theorem dX0_shockOf_12 : decode cX0_shockOf 12 = .ok (.ldc2_w 126, 3) := by decide +kernel
theorem dX0_shockOf_15 : decode cX0_shockOf 15 = .ok (.lcmp, 1) := by decide +kernel
theorem dX0_shockOf_16 : decode cX0_shockOf 16 = .ok (.ifCond .ne 8, 3) := by decide +kernel
theorem dX0_shockOf_19 : decode cX0_shockOf 19 = .ok (.bipush 10, 2) := by decide +kernel
theorem dX0_shockOf_21 : decode cX0_shockOf 21 = .ok (.goto 8, 3) := by decide +kernel
theorem dX0_shockOf_24 : decode cX0_shockOf 24 = .ok (.lload 4, 2) := by decide +kernel
theorem dX0_shockOf_26 : decode cX0_shockOf 26 = .ok (.invokestatic 185, 3) := by decide +kernel
theorem dX0_shockOf_29 : decode cX0_shockOf 29 = .ok (.ireturn, 1) := by decide +kernel
theorem dX0_praiseOf_0 : decode cX0_praiseOf 0 = .ok (.aload_n 0, 1) := by decide +kernel
theorem dX0_praiseOf_1 : decode cX0_praiseOf 1 = .ok (.iconst 0, 1) := by decide +kernel
theorem dX0_praiseOf_2 : decode cX0_praiseOf 2 = .ok (.aload_n 1, 1) := by decide +kernel
theorem dX0_praiseOf_3 : decode cX0_praiseOf 3 = .ok (.iload_n 2, 1) := by decide +kernel
theorem dX0_praiseOf_4 : decode cX0_praiseOf 4 = .ok (.iload_n 3, 1) := by decide +kernel
theorem dX0_praiseOf_5 : decode cX0_praiseOf 5 = .ok (.invokevirtual 162, 3) := by decide +kernel
theorem dX0_praiseOf_8 : decode cX0_praiseOf 8 = .ok (.lstore 4, 2) := by decide +kernel
theorem dX0_praiseOf_10 : decode cX0_praiseOf 10 = .ok (.lload 4, 2) := by decide +kernel
theorem dX0_praiseOf_12 : decode cX0_praiseOf 12 = .ok (.ldc2_w 126, 3) := by decide +kernel
theorem dX0_praiseOf_15 : decode cX0_praiseOf 15 = .ok (.lcmp, 1) := by decide +kernel
theorem dX0_praiseOf_16 : decode cX0_praiseOf 16 = .ok (.ifCond .ne 30, 3) := by decide +kernel
theorem dX0_praiseOf_19 : decode cX0_praiseOf 19 = .ok (.iconst 0, 1) := by decide +kernel
theorem dX0_praiseOf_20 : decode cX0_praiseOf 20 = .ok (.aload_n 0, 1) := by decide +kernel
theorem dX0_praiseOf_21 : decode cX0_praiseOf 21 = .ok (.getfield 41, 3) := by decide +kernel
theorem dX0_praiseOf_24 : decode cX0_praiseOf 24 = .ok (.getfield 134, 3) := by decide +kernel
theorem dX0_praiseOf_27 : decode cX0_praiseOf 27 = .ok (.iload_n 2, 1) := by decide +kernel
theorem dX0_praiseOf_28 : decode cX0_praiseOf 28 = .ok (.iaload, 1) := by decide +kernel
theorem dX0_praiseOf_29 : decode cX0_praiseOf 29 = .ok (.aload_n 0, 1) := by decide +kernel
theorem dX0_praiseOf_30 : decode cX0_praiseOf 30 = .ok (.iload_n 3, 1) := by decide +kernel
theorem dX0_praiseOf_31 : decode cX0_praiseOf 31 = .ok (.invokevirtual 137, 3) := by decide +kernel
theorem dX0_praiseOf_34 : decode cX0_praiseOf 34 = .ok (.iadd, 1) := by decide +kernel
theorem dX0_praiseOf_35 : decode cX0_praiseOf 35 = .ok (.aload_n 1, 1) := by decide +kernel
theorem dX0_praiseOf_36 : decode cX0_praiseOf 36 = .ok (.getfield 140, 3) := by decide +kernel
theorem dX0_praiseOf_39 : decode cX0_praiseOf 39 = .ok (.iload_n 3, 1) := by decide +kernel
theorem dX0_praiseOf_40 : decode cX0_praiseOf 40 = .ok (.iaload, 1) := by decide +kernel
theorem dX0_praiseOf_41 : decode cX0_praiseOf 41 = .ok (.isub, 1) := by decide +kernel
theorem dX0_praiseOf_42 : decode cX0_praiseOf 42 = .ok (.invokestatic 182, 3) := by decide +kernel
theorem dX0_praiseOf_45 : decode cX0_praiseOf 45 = .ok (.ireturn, 1) := by decide +kernel
theorem dX0_praiseOf_46 : decode cX0_praiseOf 46 = .ok (.lload 4, 2) := by decide +kernel
theorem dX0_praiseOf_48 : decode cX0_praiseOf 48 = .ok (.invokestatic 185, 3) := by decide +kernel
theorem dX0_praiseOf_51 : decode cX0_praiseOf 51 = .ok (.ireturn, 1) := by decide +kernel
theorem dX0_within99_0 : decode cX0_within99 0 = .ok (.lconst 0, 1) := by decide +kernel
theorem dX0_within99_1 : decode cX0_within99 1 = .ok (.ldc2_w 189, 3) := by decide +kernel
theorem dX0_within99_4 : decode cX0_within99 4 = .ok (.lload_n 0, 1) := by decide +kernel
theorem dX0_within99_5 : decode cX0_within99 5 = .ok (.invokestatic 191, 3) := by decide +kernel
theorem dX0_within99_8 : decode cX0_within99 8 = .ok (.invokestatic 194, 3) := by decide +kernel
theorem dX0_within99_11 : decode cX0_within99 11 = .ok (.l2i, 1) := by decide +kernel
theorem dX0_within99_12 : decode cX0_within99 12 = .ok (.ireturn, 1) := by decide +kernel
theorem dX0_praise_0 : decode cX0_praise 0 = .ok (.aload_n 0, 1) := by decide +kernel
theorem dX0_praise_1 : decode cX0_praise 1 = .ok (.aload_n 1, 1) := by decide +kernel
theorem dX0_praise_2 : decode cX0_praise 2 = .ok (.iload_n 2, 1) := by decide +kernel
theorem dX0_praise_3 : decode cX0_praise 3 = .ok (.iload_n 3, 1) := by decide +kernel
theorem dX0_praise_4 : decode cX0_praise 4 = .ok (.invokevirtual 196, 3) := by decide +kernel
theorem dX0_praise_7 : decode cX0_praise 7 = .ok (.istore 4, 2) := by decide +kernel
theorem dX0_praise_9 : decode cX0_praise 9 = .ok (.iconst 0, 1) := by decide +kernel
theorem dX0_praise_10 : decode cX0_praise 10 = .ok (.istore 5, 2) := by decide +kernel
theorem dX0_praise_12 : decode cX0_praise 12 = .ok (.iload 5, 2) := by decide +kernel
theorem dX0_praise_14 : decode cX0_praise 14 = .ok (.aload_n 0, 1) := by decide +kernel
theorem dX0_praise_15 : decode cX0_praise 15 = .ok (.getfield 41, 3) := by decide +kernel
theorem dX0_praise_18 : decode cX0_praise 18 = .ok (.getfield 78, 3) := by decide +kernel
theorem dX0_praise_21 : decode cX0_praise 21 = .ok (.if_icmp .ge 57, 3) := by decide +kernel
theorem dX0_praise_24 : decode cX0_praise 24 = .ok (.aload_n 0, 1) := by decide +kernel
theorem dX0_praise_25 : decode cX0_praise 25 = .ok (.aload_n 1, 1) := by decide +kernel
theorem dX0_praise_26 : decode cX0_praise 26 = .ok (.iload 5, 2) := by decide +kernel
theorem dX0_praise_28 : decode cX0_praise 28 = .ok (.iload_n 2, 1) := by decide +kernel
theorem dX0_praise_29 : decode cX0_praise 29 = .ok (.invokevirtual 113, 3) := by decide +kernel
theorem dX0_praise_32 : decode cX0_praise 32 = .ok (.ifCond .eq 40, 3) := by decide +kernel
theorem dX0_praise_35 : decode cX0_praise 35 = .ok (.iload 4, 2) := by decide +kernel
theorem dX0_praise_37 : decode cX0_praise 37 = .ok (.aload_n 1, 1) := by decide +kernel
theorem dX0_praise_38 : decode cX0_praise 38 = .ok (.getfield 131, 3) := by decide +kernel
theorem dX0_praise_41 : decode cX0_praise 41 = .ok (.iload 5, 2) := by decide +kernel
theorem dX0_praise_43 : decode cX0_praise 43 = .ok (.iaload, 1) := by decide +kernel
theorem dX0_praise_44 : decode cX0_praise 44 = .ok (.invokestatic 102, 3) := by decide +kernel
theorem dX0_praise_47 : decode cX0_praise 47 = .ok (.istore 6, 2) := by decide +kernel
theorem dX0_praise_49 : decode cX0_praise 49 = .ok (.aload_n 1, 1) := by decide +kernel
theorem dX0_praise_50 : decode cX0_praise 50 = .ok (.getfield 131, 3) := by decide +kernel
theorem dX0_praise_53 : decode cX0_praise 53 = .ok (.iload 5, 2) := by decide +kernel
theorem dX0_praise_55 : decode cX0_praise 55 = .ok (.dup2, 1) := by decide +kernel
theorem dX0_praise_56 : decode cX0_praise 56 = .ok (.iaload, 1) := by decide +kernel
theorem dX0_praise_57 : decode cX0_praise 57 = .ok (.iload 6, 2) := by decide +kernel
theorem dX0_praise_59 : decode cX0_praise 59 = .ok (.isub, 1) := by decide +kernel
theorem dX0_praise_60 : decode cX0_praise 60 = .ok (.iastore, 1) := by decide +kernel
theorem dX0_praise_61 : decode cX0_praise 61 = .ok (.aload_n 1, 1) := by decide +kernel
theorem dX0_praise_62 : decode cX0_praise 62 = .ok (.getfield 199, 3) := by decide +kernel
theorem dX0_praise_65 : decode cX0_praise 65 = .ok (.iload_n 3, 1) := by decide +kernel
theorem dX0_praise_66 : decode cX0_praise 66 = .ok (.dup2, 1) := by decide +kernel
theorem dX0_praise_67 : decode cX0_praise 67 = .ok (.iaload, 1) := by decide +kernel
theorem dX0_praise_68 : decode cX0_praise 68 = .ok (.iload 6, 2) := by decide +kernel
theorem dX0_praise_70 : decode cX0_praise 70 = .ok (.iadd, 1) := by decide +kernel
theorem dX0_praise_71 : decode cX0_praise 71 = .ok (.iastore, 1) := by decide +kernel
theorem dX0_praise_72 : decode cX0_praise 72 = .ok (.iinc 5 1, 3) := by decide +kernel
theorem dX0_praise_75 : decode cX0_praise 75 = .ok (.goto (-63), 3) := by decide +kernel
theorem dX0_praise_78 : decode cX0_praise 78 = .ok (.return_, 1) := by decide +kernel
theorem dX0_wouldFeed_0 : decode cX0_wouldFeed 0 = .ok (.aload_n 0, 1) := by decide +kernel
theorem dX0_wouldFeed_1 : decode cX0_wouldFeed 1 = .ok (.aload_n 1, 1) := by decide +kernel
theorem dX0_wouldFeed_2 : decode cX0_wouldFeed 2 = .ok (.iload_n 2, 1) := by decide +kernel
theorem dX0_wouldFeed_3 : decode cX0_wouldFeed 3 = .ok (.iload_n 3, 1) := by decide +kernel
theorem dX0_wouldFeed_4 : decode cX0_wouldFeed 4 = .ok (.invokevirtual 196, 3) := by decide +kernel
theorem dX0_wouldFeed_7 : decode cX0_wouldFeed 7 = .ok (.istore 4, 2) := by decide +kernel
theorem dX0_wouldFeed_9 : decode cX0_wouldFeed 9 = .ok (.iconst 0, 1) := by decide +kernel
theorem dX0_wouldFeed_10 : decode cX0_wouldFeed 10 = .ok (.istore 5, 2) := by decide +kernel
theorem dX0_wouldFeed_12 : decode cX0_wouldFeed 12 = .ok (.iconst 0, 1) := by decide +kernel
theorem dX0_wouldFeed_13 : decode cX0_wouldFeed 13 = .ok (.istore 6, 2) := by decide +kernel
theorem dX0_wouldFeed_15 : decode cX0_wouldFeed 15 = .ok (.iload 6, 2) := by decide +kernel
theorem dX0_wouldFeed_17 : decode cX0_wouldFeed 17 = .ok (.aload_n 0, 1) := by decide +kernel
theorem dX0_wouldFeed_18 : decode cX0_wouldFeed 18 = .ok (.getfield 41, 3) := by decide +kernel
theorem dX0_wouldFeed_21 : decode cX0_wouldFeed 21 = .ok (.getfield 78, 3) := by decide +kernel
theorem dX0_wouldFeed_24 : decode cX0_wouldFeed 24 = .ok (.if_icmp .ge 37, 3) := by decide +kernel
theorem dX0_wouldFeed_27 : decode cX0_wouldFeed 27 = .ok (.aload_n 0, 1) := by decide +kernel
theorem dX0_wouldFeed_28 : decode cX0_wouldFeed 28 = .ok (.aload_n 1, 1) := by decide +kernel
theorem dX0_wouldFeed_29 : decode cX0_wouldFeed 29 = .ok (.iload 6, 2) := by decide +kernel
theorem dX0_wouldFeed_31 : decode cX0_wouldFeed 31 = .ok (.iload_n 2, 1) := by decide +kernel
theorem dX0_wouldFeed_32 : decode cX0_wouldFeed 32 = .ok (.invokevirtual 113, 3) := by decide +kernel
theorem dX0_wouldFeed_35 : decode cX0_wouldFeed 35 = .ok (.ifCond .eq 20, 3) := by decide +kernel
theorem dX0_wouldFeed_38 : decode cX0_wouldFeed 38 = .ok (.iload 5, 2) := by decide +kernel
theorem dX0_wouldFeed_40 : decode cX0_wouldFeed 40 = .ok (.iload 4, 2) := by decide +kernel
theorem dX0_wouldFeed_42 : decode cX0_wouldFeed 42 = .ok (.aload_n 1, 1) := by decide +kernel
theorem dX0_wouldFeed_43 : decode cX0_wouldFeed 43 = .ok (.getfield 131, 3) := by decide +kernel
theorem dX0_wouldFeed_46 : decode cX0_wouldFeed 46 = .ok (.iload 6, 2) := by decide +kernel
theorem dX0_wouldFeed_48 : decode cX0_wouldFeed 48 = .ok (.iaload, 1) := by decide +kernel
theorem dX0_wouldFeed_49 : decode cX0_wouldFeed 49 = .ok (.invokestatic 102, 3) := by decide +kernel
theorem dX0_wouldFeed_52 : decode cX0_wouldFeed 52 = .ok (.iadd, 1) := by decide +kernel
theorem dX0_wouldFeed_53 : decode cX0_wouldFeed 53 = .ok (.istore 5, 2) := by decide +kernel
theorem dX0_wouldFeed_55 : decode cX0_wouldFeed 55 = .ok (.iinc 6 1, 3) := by decide +kernel
theorem dX0_wouldFeed_58 : decode cX0_wouldFeed 58 = .ok (.goto (-43), 3) := by decide +kernel
theorem dX0_wouldFeed_61 : decode cX0_wouldFeed 61 = .ok (.iload 5, 2) := by decide +kernel
theorem dX0_wouldFeed_63 : decode cX0_wouldFeed 63 = .ok (.ireturn, 1) := by decide +kernel
theorem dX0_growHungry_0 : decode cX0_growHungry 0 = .ok (.iconst 0, 1) := by decide +kernel
theorem dX0_growHungry_1 : decode cX0_growHungry 1 = .ok (.istore_n 2, 1) := by decide +kernel
theorem dX0_growHungry_2 : decode cX0_growHungry 2 = .ok (.iload_n 2, 1) := by decide +kernel
theorem dX0_growHungry_3 : decode cX0_growHungry 3 = .ok (.aload_n 0, 1) := by decide +kernel
theorem dX0_growHungry_4 : decode cX0_growHungry 4 = .ok (.getfield 41, 3) := by decide +kernel
theorem dX0_growHungry_7 : decode cX0_growHungry 7 = .ok (.getfield 78, 3) := by decide +kernel
theorem dX0_growHungry_10 : decode cX0_growHungry 10 = .ok (.if_icmp .ge 40, 3) := by decide +kernel
theorem dX0_growHungry_13 : decode cX0_growHungry 13 = .ok (.aload_n 0, 1) := by decide +kernel
theorem dX0_growHungry_14 : decode cX0_growHungry 14 = .ok (.aload_n 1, 1) := by decide +kernel
theorem dX0_growHungry_15 : decode cX0_growHungry 15 = .ok (.iload_n 2, 1) := by decide +kernel
theorem dX0_growHungry_16 : decode cX0_growHungry 16 = .ok (.invokevirtual 86, 3) := by decide +kernel
theorem dX0_growHungry_19 : decode cX0_growHungry 19 = .ok (.ifCond .eq 25, 3) := by decide +kernel
theorem dX0_growHungry_22 : decode cX0_growHungry 22 = .ok (.aload_n 1, 1) := by decide +kernel
theorem dX0_growHungry_23 : decode cX0_growHungry 23 = .ok (.getfield 131, 3) := by decide +kernel
theorem dX0_growHungry_26 : decode cX0_growHungry 26 = .ok (.iload_n 2, 1) := by decide +kernel
theorem dX0_growHungry_27 : decode cX0_growHungry 27 = .ok (.dup2, 1) := by decide +kernel
theorem dX0_growHungry_28 : decode cX0_growHungry 28 = .ok (.iaload, 1) := by decide +kernel
theorem dX0_growHungry_29 : decode cX0_growHungry 29 = .ok (.aload_n 0, 1) := by decide +kernel
theorem dX0_growHungry_30 : decode cX0_growHungry 30 = .ok (.aload_n 1, 1) := by decide +kernel
theorem dX0_growHungry_31 : decode cX0_growHungry 31 = .ok (.invokevirtual 202, 3) := by decide +kernel
theorem dX0_growHungry_34 : decode cX0_growHungry 34 = .ok (.ifCond .eq 7, 3) := by decide +kernel
theorem dX0_growHungry_37 : decode cX0_growHungry 37 = .ok (.iconst 3, 1) := by decide +kernel
theorem dX0_growHungry_38 : decode cX0_growHungry 38 = .ok (.goto 4, 3) := by decide +kernel
theorem dX0_growHungry_41 : decode cX0_growHungry 41 = .ok (.iconst 1, 1) := by decide +kernel
theorem dX0_growHungry_42 : decode cX0_growHungry 42 = .ok (.iadd, 1) := by decide +kernel
theorem dX0_growHungry_43 : decode cX0_growHungry 43 = .ok (.iastore, 1) := by decide +kernel
theorem dX0_growHungry_44 : decode cX0_growHungry 44 = .ok (.iinc 2 1, 3) := by decide +kernel
theorem dX0_growHungry_47 : decode cX0_growHungry 47 = .ok (.goto (-45), 3) := by decide +kernel
theorem dX0_growHungry_50 : decode cX0_growHungry 50 = .ok (.return_, 1) := by decide +kernel
theorem dX0_feelsDraught_0 : decode cX0_feelsDraught 0 = .ok (.aload_n 0, 1) := by decide +kernel
theorem dX0_feelsDraught_1 : decode cX0_feelsDraught 1 = .ok (.getfield 9, 3) := by decide +kernel
theorem dX0_feelsDraught_4 : decode cX0_feelsDraught 4 = .ok (.iconst 2, 1) := by decide +kernel
theorem dX0_feelsDraught_5 : decode cX0_feelsDraught 5 = .ok (.if_icmp .ne 5, 3) := by decide +kernel
theorem dX0_feelsDraught_8 : decode cX0_feelsDraught 8 = .ok (.iconst 0, 1) := by decide +kernel
theorem dX0_feelsDraught_9 : decode cX0_feelsDraught 9 = .ok (.ireturn, 1) := by decide +kernel
theorem dX0_feelsDraught_10 : decode cX0_feelsDraught 10 = .ok (.aload_n 0, 1) := by decide +kernel
theorem dX0_feelsDraught_11 : decode cX0_feelsDraught 11 = .ok (.getfield 9, 3) := by decide +kernel
theorem dX0_feelsDraught_14 : decode cX0_feelsDraught 14 = .ok (.ifCond .ne 21, 3) := by decide +kernel
theorem dX0_feelsDraught_17 : decode cX0_feelsDraught 17 = .ok (.aload_n 0, 1) := by decide +kernel
theorem dX0_feelsDraught_18 : decode cX0_feelsDraught 18 = .ok (.getfield 41, 3) := by decide +kernel
theorem dX0_feelsDraught_21 : decode cX0_feelsDraught 21 = .ok (.getfield 206, 3) := by decide +kernel
theorem dX0_feelsDraught_24 : decode cX0_feelsDraught 24 = .ok (.bipush 50, 2) := by decide +kernel
theorem dX0_feelsDraught_26 : decode cX0_feelsDraught 26 = .ok (.if_icmp .lt 7, 3) := by decide +kernel
theorem dX0_feelsDraught_29 : decode cX0_feelsDraught 29 = .ok (.iconst 1, 1) := by decide +kernel
theorem dX0_feelsDraught_30 : decode cX0_feelsDraught 30 = .ok (.goto 4, 3) := by decide +kernel
theorem dX0_feelsDraught_33 : decode cX0_feelsDraught 33 = .ok (.iconst 0, 1) := by decide +kernel
theorem dX0_feelsDraught_34 : decode cX0_feelsDraught 34 = .ok (.ireturn, 1) := by decide +kernel
theorem dX0_feelsDraught_35 : decode cX0_feelsDraught 35 = .ok (.aload_n 0, 1) := by decide +kernel
theorem dX0_feelsDraught_36 : decode cX0_feelsDraught 36 = .ok (.getfield 41, 3) := by decide +kernel
theorem dX0_feelsDraught_39 : decode cX0_feelsDraught 39 = .ok (.getfield 206, 3) := by decide +kernel
theorem dX0_feelsDraught_42 : decode cX0_feelsDraught 42 = .ok (.ifCond .eq 15, 3) := by decide +kernel
theorem dX0_feelsDraught_45 : decode cX0_feelsDraught 45 = .ok (.aload_n 0, 1) := by decide +kernel
theorem dX0_feelsDraught_46 : decode cX0_feelsDraught 46 = .ok (.getfield 41, 3) := by decide +kernel
theorem dX0_feelsDraught_49 : decode cX0_feelsDraught 49 = .ok (.getfield 206, 3) := by decide +kernel
theorem dX0_feelsDraught_52 : decode cX0_feelsDraught 52 = .ok (.bipush 100, 2) := by decide +kernel
theorem dX0_feelsDraught_54 : decode cX0_feelsDraught 54 = .ok (.if_icmp .ne 21, 3) := by decide +kernel
theorem dX0_feelsDraught_57 : decode cX0_feelsDraught 57 = .ok (.aload_n 0, 1) := by decide +kernel
theorem dX0_feelsDraught_58 : decode cX0_feelsDraught 58 = .ok (.getfield 41, 3) := by decide +kernel
theorem dX0_feelsDraught_61 : decode cX0_feelsDraught 61 = .ok (.getfield 206, 3) := by decide +kernel
theorem dX0_feelsDraught_64 : decode cX0_feelsDraught 64 = .ok (.bipush 100, 2) := by decide +kernel
theorem dX0_feelsDraught_66 : decode cX0_feelsDraught 66 = .ok (.if_icmp .ne 7, 3) := by decide +kernel
theorem dX0_feelsDraught_69 : decode cX0_feelsDraught 69 = .ok (.iconst 1, 1) := by decide +kernel
theorem dX0_feelsDraught_70 : decode cX0_feelsDraught 70 = .ok (.goto 4, 3) := by decide +kernel
theorem dX0_feelsDraught_73 : decode cX0_feelsDraught 73 = .ok (.iconst 0, 1) := by decide +kernel
theorem dX0_feelsDraught_74 : decode cX0_feelsDraught 74 = .ok (.ireturn, 1) := by decide +kernel
theorem dX0_feelsDraught_75 : decode cX0_feelsDraught 75 = .ok (.aload_n 1, 1) := by decide +kernel
theorem dX0_feelsDraught_76 : decode cX0_feelsDraught 76 = .ok (.invokevirtual 209, 3) := by decide +kernel
theorem dX0_feelsDraught_79 : decode cX0_feelsDraught 79 = .ok (.bipush 100, 2) := by decide +kernel
theorem dX0_feelsDraught_81 : decode cX0_feelsDraught 81 = .ok (.irem, 1) := by decide +kernel
theorem dX0_feelsDraught_82 : decode cX0_feelsDraught 82 = .ok (.aload_n 0, 1) := by decide +kernel
theorem dX0_feelsDraught_83 : decode cX0_feelsDraught 83 = .ok (.getfield 41, 3) := by decide +kernel
theorem dX0_feelsDraught_86 : decode cX0_feelsDraught 86 = .ok (.getfield 206, 3) := by decide +kernel
theorem dX0_feelsDraught_89 : decode cX0_feelsDraught 89 = .ok (.if_icmp .ge 7, 3) := by decide +kernel
theorem dX0_feelsDraught_92 : decode cX0_feelsDraught 92 = .ok (.iconst 1, 1) := by decide +kernel
theorem dX0_feelsDraught_93 : decode cX0_feelsDraught 93 = .ok (.goto 4, 3) := by decide +kernel
theorem dX0_feelsDraught_96 : decode cX0_feelsDraught 96 = .ok (.iconst 0, 1) := by decide +kernel
theorem dX0_feelsDraught_97 : decode cX0_feelsDraught 97 = .ok (.ireturn, 1) := by decide +kernel
theorem dX0_fall_0 : decode cX0_fall 0 = .ok (.iconst 0, 1) := by decide +kernel
theorem dX0_fall_1 : decode cX0_fall 1 = .ok (.istore_n 2, 1) := by decide +kernel
theorem dX0_fall_2 : decode cX0_fall 2 = .ok (.iload_n 2, 1) := by decide +kernel
theorem dX0_fall_3 : decode cX0_fall 3 = .ok (.aload_n 0, 1) := by decide +kernel
theorem dX0_fall_4 : decode cX0_fall 4 = .ok (.getfield 41, 3) := by decide +kernel
theorem dX0_fall_7 : decode cX0_fall 7 = .ok (.getfield 78, 3) := by decide +kernel
theorem dX0_fall_10 : decode cX0_fall 10 = .ok (.if_icmp .ge 34, 3) := by decide +kernel
theorem dX0_fall_13 : decode cX0_fall 13 = .ok (.aload_n 0, 1) := by decide +kernel
theorem dX0_fall_14 : decode cX0_fall 14 = .ok (.aload_n 1, 1) := by decide +kernel
theorem dX0_fall_15 : decode cX0_fall 15 = .ok (.iload_n 2, 1) := by decide +kernel
theorem dX0_fall_16 : decode cX0_fall 16 = .ok (.invokevirtual 86, 3) := by decide +kernel
theorem dX0_fall_19 : decode cX0_fall 19 = .ok (.ifCond .eq 19, 3) := by decide +kernel
theorem dX0_fall_22 : decode cX0_fall 22 = .ok (.aload_n 1, 1) := by decide +kernel
theorem dX0_fall_23 : decode cX0_fall 23 = .ok (.getfield 131, 3) := by decide +kernel
theorem dX0_fall_26 : decode cX0_fall 26 = .ok (.iload_n 2, 1) := by decide +kernel
theorem dX0_fall_27 : decode cX0_fall 27 = .ok (.iaload, 1) := by decide +kernel
theorem dX0_fall_28 : decode cX0_fall 28 = .ok (.bipush 99, 2) := by decide +kernel
theorem dX0_fall_30 : decode cX0_fall 30 = .ok (.if_icmp .lt 8, 3) := by decide +kernel
theorem dX0_fall_33 : decode cX0_fall 33 = .ok (.aload_n 1, 1) := by decide +kernel
theorem dX0_fall_34 : decode cX0_fall 34 = .ok (.iload_n 2, 1) := by decide +kernel
theorem dX0_fall_35 : decode cX0_fall 35 = .ok (.invokevirtual 213, 3) := by decide +kernel
theorem dX0_fall_38 : decode cX0_fall 38 = .ok (.iinc 2 1, 3) := by decide +kernel
theorem dX0_fall_41 : decode cX0_fall 41 = .ok (.goto (-39), 3) := by decide +kernel
theorem dX0_fall_44 : decode cX0_fall 44 = .ok (.return_, 1) := by decide +kernel
theorem dX1_init_0 : decode cX1_init 0 = .ok (.aload_n 0, 1) := by decide +kernel
theorem dX1_init_1 : decode cX1_init 1 = .ok (.invokespecial 3, 3) := by decide +kernel
theorem dX1_init_4 : decode cX1_init 4 = .ok (.aload_n 0, 1) := by decide +kernel
theorem dX1_init_5 : decode cX1_init 5 = .ok (.iconst 0, 1) := by decide +kernel
theorem dX1_init_6 : decode cX1_init 6 = .ok (.putfield 9, 3) := by decide +kernel
theorem dX1_init_9 : decode cX1_init 9 = .ok (.aload_n 0, 1) := by decide +kernel
theorem dX1_init_10 : decode cX1_init 10 = .ok (.iconst 3, 1) := by decide +kernel
theorem dX1_init_11 : decode cX1_init 11 = .ok (.newarray .boolean, 2) := by decide +kernel
theorem dX1_init_13 : decode cX1_init 13 = .ok (.putfield 15, 3) := by decide +kernel
theorem dX1_init_16 : decode cX1_init 16 = .ok (.aload_n 0, 1) := by decide +kernel
theorem dX1_init_17 : decode cX1_init 17 = .ok (.iconst 3, 1) := by decide +kernel
theorem dX1_init_18 : decode cX1_init 18 = .ok (.newarray .int, 2) := by decide +kernel
theorem dX1_init_20 : decode cX1_init 20 = .ok (.putfield 19, 3) := by decide +kernel
theorem dX1_init_23 : decode cX1_init 23 = .ok (.aload_n 0, 1) := by decide +kernel
theorem dX1_init_24 : decode cX1_init 24 = .ok (.iconst 3, 1) := by decide +kernel
theorem dX1_init_25 : decode cX1_init 25 = .ok (.newarray .int, 2) := by decide +kernel
theorem dX1_init_27 : decode cX1_init 27 = .ok (.putfield 23, 3) := by decide +kernel
theorem dX1_init_30 : decode cX1_init 30 = .ok (.aload_n 0, 1) := by decide +kernel
theorem dX1_init_31 : decode cX1_init 31 = .ok (.bipush 64, 2) := by decide +kernel
theorem dX1_init_33 : decode cX1_init 33 = .ok (.newarray .int, 2) := by decide +kernel
theorem dX1_init_35 : decode cX1_init 35 = .ok (.putfield 26, 3) := by decide +kernel
theorem dX1_init_38 : decode cX1_init 38 = .ok (.aload_n 0, 1) := by decide +kernel
theorem dX1_init_39 : decode cX1_init 39 = .ok (.bipush 64, 2) := by decide +kernel
theorem dX1_init_41 : decode cX1_init 41 = .ok (.newarray .int, 2) := by decide +kernel
theorem dX1_init_43 : decode cX1_init 43 = .ok (.putfield 29, 3) := by decide +kernel
theorem dX1_init_46 : decode cX1_init 46 = .ok (.aload_n 0, 1) := by decide +kernel
theorem dX1_init_47 : decode cX1_init 47 = .ok (.bipush 64, 2) := by decide +kernel
theorem dX1_init_49 : decode cX1_init 49 = .ok (.newarray .long, 2) := by decide +kernel
theorem dX1_init_51 : decode cX1_init 51 = .ok (.putfield 32, 3) := by decide +kernel
theorem dX1_init_54 : decode cX1_init 54 = .ok (.return_, 1) := by decide +kernel
theorem dX1_clear_0 : decode cX1_clear 0 = .ok (.aload_n 0, 1) := by decide +kernel
theorem dX1_clear_1 : decode cX1_clear 1 = .ok (.iconst 0, 1) := by decide +kernel
theorem dX1_clear_2 : decode cX1_clear 2 = .ok (.putfield 9, 3) := by decide +kernel
theorem dX1_clear_5 : decode cX1_clear 5 = .ok (.iconst 0, 1) := by decide +kernel
theorem dX1_clear_6 : decode cX1_clear 6 = .ok (.istore_n 1, 1) := by decide +kernel
theorem dX1_clear_7 : decode cX1_clear 7 = .ok (.iload_n 1, 1) := by decide +kernel
theorem dX1_clear_8 : decode cX1_clear 8 = .ok (.iconst 3, 1) := by decide +kernel
theorem dX1_clear_9 : decode cX1_clear 9 = .ok (.if_icmp .ge 16, 3) := by decide +kernel
theorem dX1_clear_12 : decode cX1_clear 12 = .ok (.aload_n 0, 1) := by decide +kernel
theorem dX1_clear_13 : decode cX1_clear 13 = .ok (.getfield 15, 3) := by decide +kernel
theorem dX1_clear_16 : decode cX1_clear 16 = .ok (.iload_n 1, 1) := by decide +kernel
theorem dX1_clear_17 : decode cX1_clear 17 = .ok (.iconst 0, 1) := by decide +kernel
theorem dX1_clear_18 : decode cX1_clear 18 = .ok (.bastore, 1) := by decide +kernel
theorem dX1_clear_19 : decode cX1_clear 19 = .ok (.iinc 1 1, 3) := by decide +kernel
theorem dX1_clear_22 : decode cX1_clear 22 = .ok (.goto (-15), 3) := by decide +kernel
theorem dX1_clear_25 : decode cX1_clear 25 = .ok (.return_, 1) := by decide +kernel
theorem dX1_has_0 : decode cX1_has 0 = .ok (.aload_n 0, 1) := by decide +kernel
theorem dX1_has_1 : decode cX1_has 1 = .ok (.getfield 15, 3) := by decide +kernel
theorem dX1_has_4 : decode cX1_has 4 = .ok (.iload_n 1, 1) := by decide +kernel
theorem dX1_has_5 : decode cX1_has 5 = .ok (.baload, 1) := by decide +kernel
theorem dX1_has_6 : decode cX1_has 6 = .ok (.ireturn, 1) := by decide +kernel
theorem dX1_open_0 : decode cX1_open 0 = .ok (.aload_n 0, 1) := by decide +kernel
theorem dX1_open_1 : decode cX1_open 1 = .ok (.getfield 15, 3) := by decide +kernel
theorem dX1_open_4 : decode cX1_open 4 = .ok (.iload_n 1, 1) := by decide +kernel
theorem dX1_open_5 : decode cX1_open 5 = .ok (.iconst 1, 1) := by decide +kernel
theorem dX1_open_6 : decode cX1_open 6 = .ok (.bastore, 1) := by decide +kernel
theorem dX1_open_7 : decode cX1_open 7 = .ok (.aload_n 0, 1) := by decide +kernel
theorem dX1_open_8 : decode cX1_open 8 = .ok (.getfield 19, 3) := by decide +kernel
theorem dX1_open_11 : decode cX1_open 11 = .ok (.iload_n 1, 1) := by decide +kernel
theorem dX1_open_12 : decode cX1_open 12 = .ok (.aload_n 0, 1) := by decide +kernel
theorem dX1_open_13 : decode cX1_open 13 = .ok (.getfield 9, 3) := by decide +kernel
theorem dX1_open_16 : decode cX1_open 16 = .ok (.iastore, 1) := by decide +kernel
theorem dX1_open_17 : decode cX1_open 17 = .ok (.aload_n 0, 1) := by decide +kernel
theorem dX1_open_18 : decode cX1_open 18 = .ok (.getfield 23, 3) := by decide +kernel
theorem dX1_open_21 : decode cX1_open 21 = .ok (.iload_n 1, 1) := by decide +kernel
theorem dX1_open_22 : decode cX1_open 22 = .ok (.aload_n 0, 1) := by decide +kernel
theorem dX1_open_23 : decode cX1_open 23 = .ok (.getfield 9, 3) := by decide +kernel
theorem dX1_open_26 : decode cX1_open 26 = .ok (.iastore, 1) := by decide +kernel
theorem dX1_open_27 : decode cX1_open 27 = .ok (.return_, 1) := by decide +kernel
theorem dX1_add_0 : decode cX1_add 0 = .ok (.aload_n 0, 1) := by decide +kernel
theorem dX1_add_1 : decode cX1_add 1 = .ok (.getfield 9, 3) := by decide +kernel
theorem dX1_add_4 : decode cX1_add 4 = .ok (.bipush 64, 2) := by decide +kernel
theorem dX1_add_6 : decode cX1_add 6 = .ok (.if_icmp .ge 43, 3) := by decide +kernel
theorem dX1_add_9 : decode cX1_add 9 = .ok (.aload_n 0, 1) := by decide +kernel
theorem dX1_add_10 : decode cX1_add 10 = .ok (.getfield 26, 3) := by decide +kernel
theorem dX1_add_13 : decode cX1_add 13 = .ok (.aload_n 0, 1) := by decide +kernel
theorem dX1_add_14 : decode cX1_add 14 = .ok (.getfield 9, 3) := by decide +kernel
theorem dX1_add_17 : decode cX1_add 17 = .ok (.iload_n 2, 1) := by decide +kernel
theorem dX1_add_18 : decode cX1_add 18 = .ok (.iastore, 1) := by decide +kernel
theorem dX1_add_19 : decode cX1_add 19 = .ok (.aload_n 0, 1) := by decide +kernel
theorem dX1_add_20 : decode cX1_add 20 = .ok (.getfield 29, 3) := by decide +kernel
theorem dX1_add_23 : decode cX1_add 23 = .ok (.aload_n 0, 1) := by decide +kernel
theorem dX1_add_24 : decode cX1_add 24 = .ok (.getfield 9, 3) := by decide +kernel
theorem dX1_add_27 : decode cX1_add 27 = .ok (.iload_n 3, 1) := by decide +kernel
theorem dX1_add_28 : decode cX1_add 28 = .ok (.iastore, 1) := by decide +kernel
theorem dX1_add_29 : decode cX1_add 29 = .ok (.aload_n 0, 1) := by decide +kernel
theorem dX1_add_30 : decode cX1_add 30 = .ok (.dup, 1) := by decide +kernel
theorem dX1_add_31 : decode cX1_add 31 = .ok (.getfield 9, 3) := by decide +kernel
theorem dX1_add_34 : decode cX1_add 34 = .ok (.iconst 1, 1) := by decide +kernel
theorem dX1_add_35 : decode cX1_add 35 = .ok (.iadd, 1) := by decide +kernel
theorem dX1_add_36 : decode cX1_add 36 = .ok (.putfield 9, 3) := by decide +kernel
theorem dX1_add_39 : decode cX1_add 39 = .ok (.aload_n 0, 1) := by decide +kernel
theorem dX1_add_40 : decode cX1_add 40 = .ok (.getfield 23, 3) := by decide +kernel
theorem dX1_add_43 : decode cX1_add 43 = .ok (.iload_n 1, 1) := by decide +kernel
theorem dX1_add_44 : decode cX1_add 44 = .ok (.aload_n 0, 1) := by decide +kernel
theorem dX1_add_45 : decode cX1_add 45 = .ok (.getfield 9, 3) := by decide +kernel
theorem dX1_add_48 : decode cX1_add 48 = .ok (.iastore, 1) := by decide +kernel
theorem dX1_add_49 : decode cX1_add 49 = .ok (.return_, 1) := by decide +kernel
theorem dX1_work_0 : decode cX1_work 0 = .ok (.iconst 0, 1) := by decide +kernel
theorem dX1_work_1 : decode cX1_work 1 = .ok (.istore_n 3, 1) := by decide +kernel
theorem dX1_work_2 : decode cX1_work 2 = .ok (.aload_n 0, 1) := by decide +kernel
theorem dX1_work_3 : decode cX1_work 3 = .ok (.getfield 19, 3) := by decide +kernel
theorem dX1_work_6 : decode cX1_work 6 = .ok (.iload_n 1, 1) := by decide +kernel
theorem dX1_work_7 : decode cX1_work 7 = .ok (.iaload, 1) := by decide +kernel
theorem dX1_work_8 : decode cX1_work 8 = .ok (.istore 4, 2) := by decide +kernel
theorem dX1_work_10 : decode cX1_work 10 = .ok (.iload 4, 2) := by decide +kernel
theorem dX1_work_12 : decode cX1_work 12 = .ok (.aload_n 0, 1) := by decide +kernel
theorem dX1_work_13 : decode cX1_work 13 = .ok (.getfield 23, 3) := by decide +kernel
theorem dX1_work_16 : decode cX1_work 16 = .ok (.iload_n 1, 1) := by decide +kernel
theorem dX1_work_17 : decode cX1_work 17 = .ok (.iaload, 1) := by decide +kernel
theorem dX1_work_18 : decode cX1_work 18 = .ok (.if_icmp .ge 216, 3) := by decide +kernel
theorem dX1_work_21 : decode cX1_work 21 = .ok (.aload_n 0, 1) := by decide +kernel
theorem dX1_work_22 : decode cX1_work 22 = .ok (.getfield 26, 3) := by decide +kernel
theorem dX1_work_25 : decode cX1_work 25 = .ok (.iload 4, 2) := by decide +kernel
theorem dX1_work_27 : decode cX1_work 27 = .ok (.iaload, 1) := by decide +kernel
theorem dX1_work_28 : decode cX1_work 28 = .ok (.istore 5, 2) := by decide +kernel
theorem dX1_work_30 : decode cX1_work 30 = .ok (.iload 5, 2) := by decide +kernel
theorem dX1_work_32 : decode cX1_work 32 = .ok (.bipush 33, 2) := by decide +kernel
theorem dX1_work_34 : decode cX1_work 34 = .ok (.if_icmp .eq 17, 3) := by decide +kernel
theorem dX1_work_37 : decode cX1_work 37 = .ok (.iload 5, 2) := by decide +kernel
theorem dX1_work_39 : decode cX1_work 39 = .ok (.bipush 13, 2) := by decide +kernel
theorem dX1_work_41 : decode cX1_work 41 = .ok (.if_icmp .lt 14, 3) := by decide +kernel
theorem dX1_work_44 : decode cX1_work 44 = .ok (.iload 5, 2) := by decide +kernel
theorem dX1_work_46 : decode cX1_work 46 = .ok (.bipush 19, 2) := by decide +kernel
theorem dX1_work_48 : decode cX1_work 48 = .ok (.if_icmp .gt 7, 3) := by decide +kernel
theorem dX1_work_51 : decode cX1_work 51 = .ok (.iconst 1, 1) := by decide +kernel
theorem dX1_work_52 : decode cX1_work 52 = .ok (.goto 4, 3) := by decide +kernel
theorem dX1_work_55 : decode cX1_work 55 = .ok (.iconst 0, 1) := by decide +kernel
theorem dX1_work_56 : decode cX1_work 56 = .ok (.istore 6, 2) := by decide +kernel
theorem dX1_work_58 : decode cX1_work 58 = .ok (.iload_n 3, 1) := by decide +kernel
theorem dX1_work_59 : decode cX1_work 59 = .ok (.iload 6, 2) := by decide +kernel
theorem dX1_work_61 : decode cX1_work 61 = .ok (.ifCond .eq 7, 3) := by decide +kernel
theorem dX1_work_64 : decode cX1_work 64 = .ok (.iconst 1, 1) := by decide +kernel
theorem dX1_work_65 : decode cX1_work 65 = .ok (.goto 15, 3) := by decide +kernel
theorem dX1_work_68 : decode cX1_work 68 = .ok (.iload 5, 2) := by decide +kernel
theorem dX1_work_70 : decode cX1_work 70 = .ok (.bipush 12, 2) := by decide +kernel
theorem dX1_work_72 : decode cX1_work 72 = .ok (.if_icmp .ne 7, 3) := by decide +kernel
theorem dX1_work_75 : decode cX1_work 75 = .ok (.iconst 0, 1) := by decide +kernel
theorem dX1_work_76 : decode cX1_work 76 = .ok (.goto 4, 3) := by decide +kernel
theorem dX1_work_79 : decode cX1_work 79 = .ok (.iconst (-1), 1) := by decide +kernel
theorem dX1_work_80 : decode cX1_work 80 = .ok (.iadd, 1) := by decide +kernel
theorem dX1_work_81 : decode cX1_work 81 = .ok (.istore_n 3, 1) := by decide +kernel
theorem dX1_work_82 : decode cX1_work 82 = .ok (.iload_n 3, 1) := by decide +kernel
theorem dX1_work_83 : decode cX1_work 83 = .ok (.iconst 1, 1) := by decide +kernel
theorem dX1_work_84 : decode cX1_work 84 = .ok (.if_icmp .lt 9, 3) := by decide +kernel
theorem dX1_work_87 : decode cX1_work 87 = .ok (.iload_n 3, 1) := by decide +kernel
theorem dX1_work_88 : decode cX1_work 88 = .ok (.bipush 64, 2) := by decide +kernel
theorem dX1_work_90 : decode cX1_work 90 = .ok (.if_icmp .le 7, 3) := by decide +kernel
theorem dX1_work_93 : decode cX1_work 93 = .ok (.ldc2_w 36, 3) := by decide +kernel
theorem dX1_work_96 : decode cX1_work 96 = .ok (.lreturn, 1) := by decide +kernel
theorem dX1_work_97 : decode cX1_work 97 = .ok (.iload 6, 2) := by decide +kernel
theorem dX1_work_99 : decode cX1_work 99 = .ok (.ifCond .eq 34, 3) := by decide +kernel
theorem dX1_work_102 : decode cX1_work 102 = .ok (.iload 5, 2) := by decide +kernel
theorem dX1_work_104 : decode cX1_work 104 = .ok (.bipush 33, 2) := by decide +kernel
theorem dX1_work_106 : decode cX1_work 106 = .ok (.if_icmp .ne 14, 3) := by decide +kernel
theorem dX1_work_109 : decode cX1_work 109 = .ok (.aload_n 0, 1) := by decide +kernel
theorem dX1_work_110 : decode cX1_work 110 = .ok (.getfield 29, 3) := by decide +kernel
theorem dX1_work_113 : decode cX1_work 113 = .ok (.iload 4, 2) := by decide +kernel
theorem dX1_work_115 : decode cX1_work 115 = .ok (.iaload, 1) := by decide +kernel
theorem dX1_work_116 : decode cX1_work 116 = .ok (.i2l, 1) := by decide +kernel
theorem dX1_work_117 : decode cX1_work 117 = .ok (.goto 11, 3) := by decide +kernel
theorem dX1_work_120 : decode cX1_work 120 = .ok (.aload_n 2, 1) := by decide +kernel
theorem dX1_work_121 : decode cX1_work 121 = .ok (.iload 5, 2) := by decide +kernel
theorem dX1_work_123 : decode cX1_work 123 = .ok (.bipush 13, 2) := by decide +kernel
theorem dX1_work_125 : decode cX1_work 125 = .ok (.isub, 1) := by decide +kernel
theorem dX1_work_126 : decode cX1_work 126 = .ok (.iaload, 1) := by decide +kernel
theorem dX1_work_127 : decode cX1_work 127 = .ok (.i2l, 1) := by decide +kernel
theorem dX1_work_128 : decode cX1_work 128 = .ok (.lstore 7, 2) := by decide +kernel
theorem dX1_work_130 : decode cX1_work 130 = .ok (.goto 66, 3) := by decide +kernel
theorem dX1_work_133 : decode cX1_work 133 = .ok (.iload 5, 2) := by decide +kernel
theorem dX1_work_135 : decode cX1_work 135 = .ok (.bipush 12, 2) := by decide +kernel
theorem dX1_work_137 : decode cX1_work 137 = .ok (.if_icmp .ne 26, 3) := by decide +kernel
theorem dX1_work_140 : decode cX1_work 140 = .ok (.aload_n 0, 1) := by decide +kernel
theorem dX1_work_141 : decode cX1_work 141 = .ok (.getfield 32, 3) := by decide +kernel
theorem dX1_work_144 : decode cX1_work 144 = .ok (.iload_n 3, 1) := by decide +kernel
theorem dX1_work_145 : decode cX1_work 145 = .ok (.iconst 1, 1) := by decide +kernel
theorem dX1_work_146 : decode cX1_work 146 = .ok (.isub, 1) := by decide +kernel
theorem dX1_work_147 : decode cX1_work 147 = .ok (.laload, 1) := by decide +kernel
theorem dX1_work_148 : decode cX1_work 148 = .ok (.lconst 0, 1) := by decide +kernel
theorem dX1_work_149 : decode cX1_work 149 = .ok (.lcmp, 1) := by decide +kernel
theorem dX1_work_150 : decode cX1_work 150 = .ok (.ifCond .ne 7, 3) := by decide +kernel
theorem dX1_work_153 : decode cX1_work 153 = .ok (.lconst 1, 1) := by decide +kernel
theorem dX1_work_154 : decode cX1_work 154 = .ok (.goto 4, 3) := by decide +kernel
theorem dX1_work_157 : decode cX1_work 157 = .ok (.lconst 0, 1) := by decide +kernel
theorem dX1_work_158 : decode cX1_work 158 = .ok (.lstore 7, 2) := by decide +kernel
theorem dX1_work_160 : decode cX1_work 160 = .ok (.goto 36, 3) := by decide +kernel
theorem dX1_work_163 : decode cX1_work 163 = .ok (.iload_n 3, 1) := by decide +kernel
theorem dX1_work_164 : decode cX1_work 164 = .ok (.bipush 64, 2) := by decide +kernel
theorem dX1_work_166 : decode cX1_work 166 = .ok (.if_icmp .ge 25, 3) := by decide +kernel
theorem dX1_work_169 : decode cX1_work 169 = .ok (.iload 5, 2) := by decide +kernel
theorem dX1_work_171 : decode cX1_work 171 = .ok (.aload_n 0, 1) := by decide +kernel
theorem dX1_work_172 : decode cX1_work 172 = .ok (.getfield 32, 3) := by decide +kernel
theorem dX1_work_175 : decode cX1_work 175 = .ok (.iload_n 3, 1) := by decide +kernel
theorem dX1_work_176 : decode cX1_work 176 = .ok (.iconst 1, 1) := by decide +kernel
theorem dX1_work_177 : decode cX1_work 177 = .ok (.isub, 1) := by decide +kernel
theorem dX1_work_178 : decode cX1_work 178 = .ok (.laload, 1) := by decide +kernel
theorem dX1_work_179 : decode cX1_work 179 = .ok (.aload_n 0, 1) := by decide +kernel
theorem dX1_work_180 : decode cX1_work 180 = .ok (.getfield 32, 3) := by decide +kernel
theorem dX1_work_183 : decode cX1_work 183 = .ok (.iload_n 3, 1) := by decide +kernel
theorem dX1_work_184 : decode cX1_work 184 = .ok (.laload, 1) := by decide +kernel
theorem dX1_work_185 : decode cX1_work 185 = .ok (.invokestatic 38, 3) := by decide +kernel
theorem dX1_work_188 : decode cX1_work 188 = .ok (.goto 6, 3) := by decide +kernel
theorem dX1_work_191 : decode cX1_work 191 = .ok (.ldc2_w 36, 3) := by decide +kernel
theorem dX1_work_194 : decode cX1_work 194 = .ok (.lstore 7, 2) := by decide +kernel
theorem dX1_work_196 : decode cX1_work 196 = .ok (.lload 7, 2) := by decide +kernel
theorem dX1_work_198 : decode cX1_work 198 = .ok (.ldc2_w 42, 3) := by decide +kernel
theorem dX1_work_201 : decode cX1_work 201 = .ok (.lcmp, 1) := by decide +kernel
theorem dX1_work_202 : decode cX1_work 202 = .ok (.ifCond .gt 12, 3) := by decide +kernel
theorem dX1_work_205 : decode cX1_work 205 = .ok (.lload 7, 2) := by decide +kernel
theorem dX1_work_207 : decode cX1_work 207 = .ok (.ldc2_w 44, 3) := by decide +kernel
theorem dX1_work_210 : decode cX1_work 210 = .ok (.lcmp, 1) := by decide +kernel
theorem dX1_work_211 : decode cX1_work 211 = .ok (.ifCond .ge 7, 3) := by decide +kernel
theorem dX1_work_214 : decode cX1_work 214 = .ok (.ldc2_w 36, 3) := by decide +kernel
theorem dX1_work_217 : decode cX1_work 217 = .ok (.lreturn, 1) := by decide +kernel
theorem dX1_work_218 : decode cX1_work 218 = .ok (.aload_n 0, 1) := by decide +kernel
theorem dX1_work_219 : decode cX1_work 219 = .ok (.getfield 32, 3) := by decide +kernel
theorem dX1_work_222 : decode cX1_work 222 = .ok (.iload_n 3, 1) := by decide +kernel
theorem dX1_work_223 : decode cX1_work 223 = .ok (.iconst 1, 1) := by decide +kernel
theorem dX1_work_224 : decode cX1_work 224 = .ok (.isub, 1) := by decide +kernel
theorem dX1_work_225 : decode cX1_work 225 = .ok (.lload 7, 2) := by decide +kernel
theorem dX1_work_227 : decode cX1_work 227 = .ok (.lastore, 1) := by decide +kernel
theorem dX1_work_228 : decode cX1_work 228 = .ok (.iinc 4 1, 3) := by decide +kernel
theorem dX1_work_231 : decode cX1_work 231 = .ok (.goto (-221), 3) := by decide +kernel
theorem dX1_work_234 : decode cX1_work 234 = .ok (.iload_n 3, 1) := by decide +kernel
theorem dX1_work_235 : decode cX1_work 235 = .ok (.iconst 1, 1) := by decide +kernel
theorem dX1_work_236 : decode cX1_work 236 = .ok (.if_icmp .ne 12, 3) := by decide +kernel
theorem dX1_work_239 : decode cX1_work 239 = .ok (.aload_n 0, 1) := by decide +kernel
theorem dX1_work_240 : decode cX1_work 240 = .ok (.getfield 32, 3) := by decide +kernel
theorem dX1_work_243 : decode cX1_work 243 = .ok (.iconst 0, 1) := by decide +kernel
theorem dX1_work_244 : decode cX1_work 244 = .ok (.laload, 1) := by decide +kernel
theorem dX1_work_245 : decode cX1_work 245 = .ok (.goto 6, 3) := by decide +kernel
theorem dX1_work_248 : decode cX1_work 248 = .ok (.ldc2_w 36, 3) := by decide +kernel
theorem dX1_work_251 : decode cX1_work 251 = .ok (.lreturn, 1) := by decide +kernel
theorem dX1_join_0 : decode cX1_join 0 = .ok (.iload_n 0, 1) := by decide +kernel
theorem dX1_join_1 : decode cX1_join 1 = .ok (.tableswitch 275 10 29 #[179, 197, 275, 275, 275, 275, 275, 275, 275, 275, 215, 227, 239, 251, 263, 275, 95, 99, 103, 163], 95) := by decide +kernel
theorem dX1_join_96 : decode cX1_join 96 = .ok (.lload_n 1, 1) := by decide +kernel
theorem dX1_join_97 : decode cX1_join 97 = .ok (.lload_n 3, 1) := by decide +kernel
theorem dX1_join_98 : decode cX1_join 98 = .ok (.ladd, 1) := by decide +kernel
theorem dX1_join_99 : decode cX1_join 99 = .ok (.lreturn, 1) := by decide +kernel
theorem dX1_join_100 : decode cX1_join 100 = .ok (.lload_n 1, 1) := by decide +kernel
theorem dX1_join_101 : decode cX1_join 101 = .ok (.lload_n 3, 1) := by decide +kernel
theorem dX1_join_102 : decode cX1_join 102 = .ok (.lsub, 1) := by decide +kernel
theorem dX1_join_103 : decode cX1_join 103 = .ok (.lreturn, 1) := by decide +kernel
theorem dX1_join_104 : decode cX1_join 104 = .ok (.lload_n 1, 1) := by decide +kernel
theorem dX1_join_105 : decode cX1_join 105 = .ok (.lconst 0, 1) := by decide +kernel
theorem dX1_join_106 : decode cX1_join 106 = .ok (.lcmp, 1) := by decide +kernel
theorem dX1_join_107 : decode cX1_join 107 = .ok (.ifCond .ge 8, 3) := by decide +kernel
theorem dX1_join_110 : decode cX1_join 110 = .ok (.lload_n 1, 1) := by decide +kernel
theorem dX1_join_111 : decode cX1_join 111 = .ok (.lneg, 1) := by decide +kernel
theorem dX1_join_112 : decode cX1_join 112 = .ok (.goto 4, 3) := by decide +kernel
theorem dX1_join_115 : decode cX1_join 115 = .ok (.lload_n 1, 1) := by decide +kernel
theorem dX1_join_116 : decode cX1_join 116 = .ok (.lstore 5, 2) := by decide +kernel
theorem dX1_join_118 : decode cX1_join 118 = .ok (.lload 5, 2) := by decide +kernel
theorem dX1_join_120 : decode cX1_join 120 = .ok (.lconst 0, 1) := by decide +kernel
theorem dX1_join_121 : decode cX1_join 121 = .ok (.lcmp, 1) := by decide +kernel
theorem dX1_join_122 : decode cX1_join 122 = .ok (.ifCond .ne 9, 3) := by decide +kernel
theorem dX1_join_125 : decode cX1_join 125 = .ok (.ldc2_w 42, 3) := by decide +kernel
theorem dX1_join_128 : decode cX1_join 128 = .ok (.goto 9, 3) := by decide +kernel
theorem dX1_join_131 : decode cX1_join 131 = .ok (.ldc2_w 42, 3) := by decide +kernel
theorem dX1_join_134 : decode cX1_join 134 = .ok (.lload 5, 2) := by decide +kernel
theorem dX1_join_136 : decode cX1_join 136 = .ok (.ldiv, 1) := by decide +kernel
theorem dX1_join_137 : decode cX1_join 137 = .ok (.lstore 7, 2) := by decide +kernel
theorem dX1_join_139 : decode cX1_join 139 = .ok (.lload_n 3, 1) := by decide +kernel
theorem dX1_join_140 : decode cX1_join 140 = .ok (.lload 7, 2) := by decide +kernel
theorem dX1_join_142 : decode cX1_join 142 = .ok (.lcmp, 1) := by decide +kernel
theorem dX1_join_143 : decode cX1_join 143 = .ok (.ifCond .gt 11, 3) := by decide +kernel
theorem dX1_join_146 : decode cX1_join 146 = .ok (.lload_n 3, 1) := by decide +kernel
theorem dX1_join_147 : decode cX1_join 147 = .ok (.lload 7, 2) := by decide +kernel
theorem dX1_join_149 : decode cX1_join 149 = .ok (.lneg, 1) := by decide +kernel
theorem dX1_join_150 : decode cX1_join 150 = .ok (.lcmp, 1) := by decide +kernel
theorem dX1_join_151 : decode cX1_join 151 = .ok (.ifCond .ge 9, 3) := by decide +kernel
theorem dX1_join_154 : decode cX1_join 154 = .ok (.ldc2_w 36, 3) := by decide +kernel
theorem dX1_join_157 : decode cX1_join 157 = .ok (.goto 6, 3) := by decide +kernel
theorem dX1_join_160 : decode cX1_join 160 = .ok (.lload_n 1, 1) := by decide +kernel
theorem dX1_join_161 : decode cX1_join 161 = .ok (.lload_n 3, 1) := by decide +kernel
theorem dX1_join_162 : decode cX1_join 162 = .ok (.lmul, 1) := by decide +kernel
theorem dX1_join_163 : decode cX1_join 163 = .ok (.lreturn, 1) := by decide +kernel
theorem dX1_join_164 : decode cX1_join 164 = .ok (.lload_n 3, 1) := by decide +kernel
theorem dX1_join_165 : decode cX1_join 165 = .ok (.lconst 0, 1) := by decide +kernel
theorem dX1_join_166 : decode cX1_join 166 = .ok (.lcmp, 1) := by decide +kernel
theorem dX1_join_167 : decode cX1_join 167 = .ok (.ifCond .ne 9, 3) := by decide +kernel
theorem dX1_join_170 : decode cX1_join 170 = .ok (.ldc2_w 36, 3) := by decide +kernel
theorem dX1_join_173 : decode cX1_join 173 = .ok (.goto 6, 3) := by decide +kernel
theorem dX1_join_176 : decode cX1_join 176 = .ok (.lload_n 1, 1) := by decide +kernel
theorem dX1_join_177 : decode cX1_join 177 = .ok (.lload_n 3, 1) := by decide +kernel
theorem dX1_join_178 : decode cX1_join 178 = .ok (.ldiv, 1) := by decide +kernel
theorem dX1_join_179 : decode cX1_join 179 = .ok (.lreturn, 1) := by decide +kernel
theorem dX1_join_180 : decode cX1_join 180 = .ok (.lload_n 1, 1) := by decide +kernel
theorem dX1_join_181 : decode cX1_join 181 = .ok (.lconst 0, 1) := by decide +kernel
theorem dX1_join_182 : decode cX1_join 182 = .ok (.lcmp, 1) := by decide +kernel
theorem dX1_join_183 : decode cX1_join 183 = .ok (.ifCond .ne 9, 3) := by decide +kernel
theorem dX1_join_186 : decode cX1_join 186 = .ok (.lload_n 3, 1) := by decide +kernel
theorem dX1_join_187 : decode cX1_join 187 = .ok (.lconst 0, 1) := by decide +kernel
theorem dX1_join_188 : decode cX1_join 188 = .ok (.lcmp, 1) := by decide +kernel
theorem dX1_join_189 : decode cX1_join 189 = .ok (.ifCond .eq 7, 3) := by decide +kernel
theorem dX1_join_192 : decode cX1_join 192 = .ok (.lconst 1, 1) := by decide +kernel
theorem dX1_join_193 : decode cX1_join 193 = .ok (.goto 4, 3) := by decide +kernel
theorem dX1_join_196 : decode cX1_join 196 = .ok (.lconst 0, 1) := by decide +kernel
theorem dX1_join_197 : decode cX1_join 197 = .ok (.lreturn, 1) := by decide +kernel
theorem dX1_join_198 : decode cX1_join 198 = .ok (.lload_n 1, 1) := by decide +kernel
theorem dX1_join_199 : decode cX1_join 199 = .ok (.lconst 0, 1) := by decide +kernel
theorem dX1_join_200 : decode cX1_join 200 = .ok (.lcmp, 1) := by decide +kernel
theorem dX1_join_201 : decode cX1_join 201 = .ok (.ifCond .eq 13, 3) := by decide +kernel
theorem dX1_join_204 : decode cX1_join 204 = .ok (.lload_n 3, 1) := by decide +kernel
theorem dX1_join_205 : decode cX1_join 205 = .ok (.lconst 0, 1) := by decide +kernel
theorem dX1_join_206 : decode cX1_join 206 = .ok (.lcmp, 1) := by decide +kernel
theorem dX1_join_207 : decode cX1_join 207 = .ok (.ifCond .eq 7, 3) := by decide +kernel
theorem dX1_join_210 : decode cX1_join 210 = .ok (.lconst 1, 1) := by decide +kernel
theorem dX1_join_211 : decode cX1_join 211 = .ok (.goto 4, 3) := by decide +kernel
theorem dX1_join_214 : decode cX1_join 214 = .ok (.lconst 0, 1) := by decide +kernel
theorem dX1_join_215 : decode cX1_join 215 = .ok (.lreturn, 1) := by decide +kernel
theorem dX1_join_216 : decode cX1_join 216 = .ok (.lload_n 1, 1) := by decide +kernel
theorem dX1_join_217 : decode cX1_join 217 = .ok (.lload_n 3, 1) := by decide +kernel
theorem dX1_join_218 : decode cX1_join 218 = .ok (.lcmp, 1) := by decide +kernel
theorem dX1_join_219 : decode cX1_join 219 = .ok (.ifCond .ge 7, 3) := by decide +kernel
theorem dX1_join_222 : decode cX1_join 222 = .ok (.lconst 1, 1) := by decide +kernel
theorem dX1_join_223 : decode cX1_join 223 = .ok (.goto 4, 3) := by decide +kernel
theorem dX1_join_226 : decode cX1_join 226 = .ok (.lconst 0, 1) := by decide +kernel
theorem dX1_join_227 : decode cX1_join 227 = .ok (.lreturn, 1) := by decide +kernel
theorem dX1_join_228 : decode cX1_join 228 = .ok (.lload_n 1, 1) := by decide +kernel
theorem dX1_join_229 : decode cX1_join 229 = .ok (.lload_n 3, 1) := by decide +kernel
theorem dX1_join_230 : decode cX1_join 230 = .ok (.lcmp, 1) := by decide +kernel
theorem dX1_join_231 : decode cX1_join 231 = .ok (.ifCond .gt 7, 3) := by decide +kernel
theorem dX1_join_234 : decode cX1_join 234 = .ok (.lconst 1, 1) := by decide +kernel
theorem dX1_join_235 : decode cX1_join 235 = .ok (.goto 4, 3) := by decide +kernel
theorem dX1_join_238 : decode cX1_join 238 = .ok (.lconst 0, 1) := by decide +kernel
theorem dX1_join_239 : decode cX1_join 239 = .ok (.lreturn, 1) := by decide +kernel
theorem dX1_join_240 : decode cX1_join 240 = .ok (.lload_n 1, 1) := by decide +kernel
theorem dX1_join_241 : decode cX1_join 241 = .ok (.lload_n 3, 1) := by decide +kernel
theorem dX1_join_242 : decode cX1_join 242 = .ok (.lcmp, 1) := by decide +kernel
theorem dX1_join_243 : decode cX1_join 243 = .ok (.ifCond .ne 7, 3) := by decide +kernel
theorem dX1_join_246 : decode cX1_join 246 = .ok (.lconst 1, 1) := by decide +kernel
theorem dX1_join_247 : decode cX1_join 247 = .ok (.goto 4, 3) := by decide +kernel
theorem dX1_join_250 : decode cX1_join 250 = .ok (.lconst 0, 1) := by decide +kernel
theorem dX1_join_251 : decode cX1_join 251 = .ok (.lreturn, 1) := by decide +kernel
theorem dX1_join_252 : decode cX1_join 252 = .ok (.lload_n 1, 1) := by decide +kernel
theorem dX1_join_253 : decode cX1_join 253 = .ok (.lload_n 3, 1) := by decide +kernel
theorem dX1_join_254 : decode cX1_join 254 = .ok (.lcmp, 1) := by decide +kernel
theorem dX1_join_255 : decode cX1_join 255 = .ok (.ifCond .eq 7, 3) := by decide +kernel
theorem dX1_join_258 : decode cX1_join 258 = .ok (.lconst 1, 1) := by decide +kernel
theorem dX1_join_259 : decode cX1_join 259 = .ok (.goto 4, 3) := by decide +kernel
theorem dX1_join_262 : decode cX1_join 262 = .ok (.lconst 0, 1) := by decide +kernel
theorem dX1_join_263 : decode cX1_join 263 = .ok (.lreturn, 1) := by decide +kernel
theorem dX1_join_264 : decode cX1_join 264 = .ok (.lload_n 1, 1) := by decide +kernel
theorem dX1_join_265 : decode cX1_join 265 = .ok (.lload_n 3, 1) := by decide +kernel
theorem dX1_join_266 : decode cX1_join 266 = .ok (.lcmp, 1) := by decide +kernel
theorem dX1_join_267 : decode cX1_join 267 = .ok (.ifCond .lt 7, 3) := by decide +kernel
theorem dX1_join_270 : decode cX1_join 270 = .ok (.lconst 1, 1) := by decide +kernel
theorem dX1_join_271 : decode cX1_join 271 = .ok (.goto 4, 3) := by decide +kernel
theorem dX1_join_274 : decode cX1_join 274 = .ok (.lconst 0, 1) := by decide +kernel
theorem dX1_join_275 : decode cX1_join 275 = .ok (.lreturn, 1) := by decide +kernel
theorem dX1_join_276 : decode cX1_join 276 = .ok (.lload_n 1, 1) := by decide +kernel
theorem dX1_join_277 : decode cX1_join 277 = .ok (.lload_n 3, 1) := by decide +kernel
theorem dX1_join_278 : decode cX1_join 278 = .ok (.lcmp, 1) := by decide +kernel
theorem dX1_join_279 : decode cX1_join 279 = .ok (.ifCond .le 7, 3) := by decide +kernel
theorem dX1_join_282 : decode cX1_join 282 = .ok (.lconst 1, 1) := by decide +kernel
theorem dX1_join_283 : decode cX1_join 283 = .ok (.goto 4, 3) := by decide +kernel
theorem dX1_join_286 : decode cX1_join 286 = .ok (.lconst 0, 1) := by decide +kernel
theorem dX1_join_287 : decode cX1_join 287 = .ok (.lreturn, 1) := by decide +kernel
theorem dX3_init_0 : decode cX3_init 0 = .ok (.aload_n 0, 1) := by decide +kernel
theorem dX3_init_1 : decode cX3_init 1 = .ok (.invokespecial 3, 3) := by decide +kernel
theorem dX3_init_4 : decode cX3_init 4 = .ok (.aload_n 0, 1) := by decide +kernel
theorem dX3_init_5 : decode cX3_init 5 = .ok (.iconst 0, 1) := by decide +kernel
theorem dX3_init_6 : decode cX3_init 6 = .ok (.putfield 9, 3) := by decide +kernel
theorem dX3_init_9 : decode cX3_init 9 = .ok (.aload_n 0, 1) := by decide +kernel
theorem dX3_init_10 : decode cX3_init 10 = .ok (.iconst 0, 1) := by decide +kernel
theorem dX3_init_11 : decode cX3_init 11 = .ok (.putfield 15, 3) := by decide +kernel
theorem dX3_init_14 : decode cX3_init 14 = .ok (.aload_n 0, 1) := by decide +kernel
theorem dX3_init_15 : decode cX3_init 15 = .ok (.iconst 0, 1) := by decide +kernel
theorem dX3_init_16 : decode cX3_init 16 = .ok (.putfield 18, 3) := by decide +kernel
theorem dX3_init_19 : decode cX3_init 19 = .ok (.aload_n 0, 1) := by decide +kernel
theorem dX3_init_20 : decode cX3_init 20 = .ok (.iconst 0, 1) := by decide +kernel
theorem dX3_init_21 : decode cX3_init 21 = .ok (.putfield 21, 3) := by decide +kernel
theorem dX3_init_24 : decode cX3_init 24 = .ok (.aload_n 0, 1) := by decide +kernel
theorem dX3_init_25 : decode cX3_init 25 = .ok (.bipush 6, 2) := by decide +kernel
theorem dX3_init_27 : decode cX3_init 27 = .ok (.newarray .int, 2) := by decide +kernel
theorem dX3_init_29 : decode cX3_init 29 = .ok (.putfield 24, 3) := by decide +kernel
theorem dX3_init_32 : decode cX3_init 32 = .ok (.aload_n 0, 1) := by decide +kernel
theorem dX3_init_33 : decode cX3_init 33 = .ok (.bipush 6, 2) := by decide +kernel
theorem dX3_init_35 : decode cX3_init 35 = .ok (.newarray .int, 2) := by decide +kernel
theorem dX3_init_37 : decode cX3_init 37 = .ok (.putfield 28, 3) := by decide +kernel
theorem dX3_init_40 : decode cX3_init 40 = .ok (.aload_n 0, 1) := by decide +kernel
theorem dX3_init_41 : decode cX3_init 41 = .ok (.bipush 6, 2) := by decide +kernel
theorem dX3_init_43 : decode cX3_init 43 = .ok (.newarray .int, 2) := by decide +kernel
theorem dX3_init_45 : decode cX3_init 45 = .ok (.putfield 31, 3) := by decide +kernel
theorem dX3_init_48 : decode cX3_init 48 = .ok (.aload_n 0, 1) := by decide +kernel
theorem dX3_init_49 : decode cX3_init 49 = .ok (.bipush 6, 2) := by decide +kernel
theorem dX3_init_51 : decode cX3_init 51 = .ok (.newarray .int, 2) := by decide +kernel
theorem dX3_init_53 : decode cX3_init 53 = .ok (.putfield 34, 3) := by decide +kernel
theorem dX3_init_56 : decode cX3_init 56 = .ok (.aload_n 0, 1) := by decide +kernel
theorem dX3_init_57 : decode cX3_init 57 = .ok (.bipush 8, 2) := by decide +kernel
theorem dX3_init_59 : decode cX3_init 59 = .ok (.newarray .int, 2) := by decide +kernel
theorem dX3_init_61 : decode cX3_init 61 = .ok (.putfield 37, 3) := by decide +kernel
theorem dX3_init_64 : decode cX3_init 64 = .ok (.aload_n 0, 1) := by decide +kernel
theorem dX3_init_65 : decode cX3_init 65 = .ok (.bipush 8, 2) := by decide +kernel
theorem dX3_init_67 : decode cX3_init 67 = .ok (.newarray .int, 2) := by decide +kernel
theorem dX3_init_69 : decode cX3_init 69 = .ok (.putfield 40, 3) := by decide +kernel
theorem dX3_init_72 : decode cX3_init 72 = .ok (.return_, 1) := by decide +kernel
theorem dX3_begin_0 : decode cX3_begin 0 = .ok (.aload_n 0, 1) := by decide +kernel
theorem dX3_begin_1 : decode cX3_begin 1 = .ok (.iconst 0, 1) := by decide +kernel
theorem dX3_begin_2 : decode cX3_begin 2 = .ok (.putfield 9, 3) := by decide +kernel
theorem dX3_begin_5 : decode cX3_begin 5 = .ok (.aload_n 0, 1) := by decide +kernel
theorem dX3_begin_6 : decode cX3_begin 6 = .ok (.aload_n 1, 1) := by decide +kernel
theorem dX3_begin_7 : decode cX3_begin 7 = .ok (.getfield 43, 3) := by decide +kernel
theorem dX3_begin_10 : decode cX3_begin 10 = .ok (.putfield 15, 3) := by decide +kernel
theorem dX3_begin_13 : decode cX3_begin 13 = .ok (.aload_n 0, 1) := by decide +kernel
theorem dX3_begin_14 : decode cX3_begin 14 = .ok (.iconst 0, 1) := by decide +kernel
theorem dX3_begin_15 : decode cX3_begin 15 = .ok (.putfield 18, 3) := by decide +kernel
theorem dX3_begin_18 : decode cX3_begin 18 = .ok (.aload_n 0, 1) := by decide +kernel
theorem dX3_begin_19 : decode cX3_begin 19 = .ok (.iconst 0, 1) := by decide +kernel
theorem dX3_begin_20 : decode cX3_begin 20 = .ok (.putfield 21, 3) := by decide +kernel
theorem dX3_begin_23 : decode cX3_begin 23 = .ok (.iconst 0, 1) := by decide +kernel
theorem dX3_begin_24 : decode cX3_begin 24 = .ok (.istore_n 2, 1) := by decide +kernel
theorem dX3_begin_25 : decode cX3_begin 25 = .ok (.iload_n 2, 1) := by decide +kernel
theorem dX3_begin_26 : decode cX3_begin 26 = .ok (.bipush 6, 2) := by decide +kernel
theorem dX3_begin_28 : decode cX3_begin 28 = .ok (.if_icmp .ge 47, 3) := by decide +kernel
theorem dX3_begin_31 : decode cX3_begin 31 = .ok (.aload_n 0, 1) := by decide +kernel
theorem dX3_begin_32 : decode cX3_begin 32 = .ok (.getfield 24, 3) := by decide +kernel
theorem dX3_begin_35 : decode cX3_begin 35 = .ok (.iload_n 2, 1) := by decide +kernel
theorem dX3_begin_36 : decode cX3_begin 36 = .ok (.iload_n 2, 1) := by decide +kernel
theorem dX3_begin_37 : decode cX3_begin 37 = .ok (.iastore, 1) := by decide +kernel
theorem dX3_begin_38 : decode cX3_begin 38 = .ok (.aload_n 0, 1) := by decide +kernel
theorem dX3_begin_39 : decode cX3_begin 39 = .ok (.getfield 28, 3) := by decide +kernel
theorem dX3_begin_42 : decode cX3_begin 42 = .ok (.iload_n 2, 1) := by decide +kernel
theorem dX3_begin_43 : decode cX3_begin 43 = .ok (.aload_n 1, 1) := by decide +kernel
theorem dX3_begin_44 : decode cX3_begin 44 = .ok (.getfield 48, 3) := by decide +kernel
theorem dX3_begin_47 : decode cX3_begin 47 = .ok (.iload_n 2, 1) := by decide +kernel
theorem dX3_begin_48 : decode cX3_begin 48 = .ok (.iaload, 1) := by decide +kernel
theorem dX3_begin_49 : decode cX3_begin 49 = .ok (.iastore, 1) := by decide +kernel
theorem dX3_begin_50 : decode cX3_begin 50 = .ok (.aload_n 0, 1) := by decide +kernel
theorem dX3_begin_51 : decode cX3_begin 51 = .ok (.getfield 31, 3) := by decide +kernel
theorem dX3_begin_54 : decode cX3_begin 54 = .ok (.iload_n 2, 1) := by decide +kernel
theorem dX3_begin_55 : decode cX3_begin 55 = .ok (.aload_n 1, 1) := by decide +kernel
theorem dX3_begin_56 : decode cX3_begin 56 = .ok (.getfield 49, 3) := by decide +kernel
theorem dX3_begin_59 : decode cX3_begin 59 = .ok (.iload_n 2, 1) := by decide +kernel
theorem dX3_begin_60 : decode cX3_begin 60 = .ok (.iaload, 1) := by decide +kernel
theorem dX3_begin_61 : decode cX3_begin 61 = .ok (.iastore, 1) := by decide +kernel
theorem dX3_begin_62 : decode cX3_begin 62 = .ok (.aload_n 0, 1) := by decide +kernel
theorem dX3_begin_63 : decode cX3_begin 63 = .ok (.getfield 34, 3) := by decide +kernel
theorem dX3_begin_66 : decode cX3_begin 66 = .ok (.iload_n 2, 1) := by decide +kernel
theorem dX3_begin_67 : decode cX3_begin 67 = .ok (.iconst 0, 1) := by decide +kernel
theorem dX3_begin_68 : decode cX3_begin 68 = .ok (.iastore, 1) := by decide +kernel
theorem dX3_begin_69 : decode cX3_begin 69 = .ok (.iinc 2 1, 3) := by decide +kernel
theorem dX3_begin_72 : decode cX3_begin 72 = .ok (.goto (-47), 3) := by decide +kernel
theorem dX3_begin_75 : decode cX3_begin 75 = .ok (.iconst 0, 1) := by decide +kernel
theorem dX3_begin_76 : decode cX3_begin 76 = .ok (.istore_n 2, 1) := by decide +kernel
theorem dX3_begin_77 : decode cX3_begin 77 = .ok (.iload_n 2, 1) := by decide +kernel
theorem dX3_begin_78 : decode cX3_begin 78 = .ok (.bipush 8, 2) := by decide +kernel
theorem dX3_begin_80 : decode cX3_begin 80 = .ok (.if_icmp .ge 23, 3) := by decide +kernel
theorem dX3_begin_83 : decode cX3_begin 83 = .ok (.aload_n 0, 1) := by decide +kernel
theorem dX3_begin_84 : decode cX3_begin 84 = .ok (.getfield 37, 3) := by decide +kernel
theorem dX3_begin_87 : decode cX3_begin 87 = .ok (.iload_n 2, 1) := by decide +kernel
theorem dX3_begin_88 : decode cX3_begin 88 = .ok (.iconst 0, 1) := by decide +kernel
theorem dX3_begin_89 : decode cX3_begin 89 = .ok (.iastore, 1) := by decide +kernel
theorem dX3_begin_90 : decode cX3_begin 90 = .ok (.aload_n 0, 1) := by decide +kernel
theorem dX3_begin_91 : decode cX3_begin 91 = .ok (.getfield 40, 3) := by decide +kernel
theorem dX3_begin_94 : decode cX3_begin 94 = .ok (.iload_n 2, 1) := by decide +kernel
theorem dX3_begin_95 : decode cX3_begin 95 = .ok (.iconst 0, 1) := by decide +kernel
theorem dX3_begin_96 : decode cX3_begin 96 = .ok (.iastore, 1) := by decide +kernel
theorem dX3_begin_97 : decode cX3_begin 97 = .ok (.iinc 2 1, 3) := by decide +kernel
theorem dX3_begin_100 : decode cX3_begin 100 = .ok (.goto (-23), 3) := by decide +kernel
theorem dX3_begin_103 : decode cX3_begin 103 = .ok (.return_, 1) := by decide +kernel
theorem dX3_take_0 : decode cX3_take 0 = .ok (.aload_n 0, 1) := by decide +kernel
theorem dX3_take_1 : decode cX3_take 1 = .ok (.aload_n 1, 1) := by decide +kernel
theorem dX3_take_2 : decode cX3_take 2 = .ok (.getfield 9, 3) := by decide +kernel
theorem dX3_take_5 : decode cX3_take 5 = .ok (.putfield 9, 3) := by decide +kernel
theorem dX3_take_8 : decode cX3_take 8 = .ok (.aload_n 0, 1) := by decide +kernel
theorem dX3_take_9 : decode cX3_take 9 = .ok (.aload_n 1, 1) := by decide +kernel
theorem dX3_take_10 : decode cX3_take 10 = .ok (.getfield 15, 3) := by decide +kernel
theorem dX3_take_13 : decode cX3_take 13 = .ok (.putfield 15, 3) := by decide +kernel
theorem dX3_take_16 : decode cX3_take 16 = .ok (.aload_n 0, 1) := by decide +kernel
theorem dX3_take_17 : decode cX3_take 17 = .ok (.aload_n 1, 1) := by decide +kernel
theorem dX3_take_18 : decode cX3_take 18 = .ok (.getfield 18, 3) := by decide +kernel
theorem dX3_take_21 : decode cX3_take 21 = .ok (.putfield 18, 3) := by decide +kernel
theorem dX3_take_24 : decode cX3_take 24 = .ok (.aload_n 0, 1) := by decide +kernel
theorem dX3_take_25 : decode cX3_take 25 = .ok (.aload_n 1, 1) := by decide +kernel
theorem dX3_take_26 : decode cX3_take 26 = .ok (.getfield 21, 3) := by decide +kernel
theorem dX3_take_29 : decode cX3_take 29 = .ok (.putfield 21, 3) := by decide +kernel
theorem dX3_take_32 : decode cX3_take 32 = .ok (.aload_n 1, 1) := by decide +kernel
theorem dX3_take_33 : decode cX3_take 33 = .ok (.getfield 24, 3) := by decide +kernel
theorem dX3_take_36 : decode cX3_take 36 = .ok (.iconst 0, 1) := by decide +kernel
theorem dX3_take_37 : decode cX3_take 37 = .ok (.aload_n 0, 1) := by decide +kernel
theorem dX3_take_38 : decode cX3_take 38 = .ok (.getfield 24, 3) := by decide +kernel
theorem dX3_take_41 : decode cX3_take 41 = .ok (.iconst 0, 1) := by decide +kernel
theorem dX3_take_42 : decode cX3_take 42 = .ok (.bipush 6, 2) := by decide +kernel
theorem dX3_take_44 : decode cX3_take 44 = .ok (.invokestatic 50, 3) := by decide +kernel
theorem dX3_take_47 : decode cX3_take 47 = .ok (.aload_n 1, 1) := by decide +kernel
theorem dX3_take_48 : decode cX3_take 48 = .ok (.getfield 28, 3) := by decide +kernel
theorem dX3_take_51 : decode cX3_take 51 = .ok (.iconst 0, 1) := by decide +kernel
theorem dX3_take_52 : decode cX3_take 52 = .ok (.aload_n 0, 1) := by decide +kernel
theorem dX3_take_53 : decode cX3_take 53 = .ok (.getfield 28, 3) := by decide +kernel
theorem dX3_take_56 : decode cX3_take 56 = .ok (.iconst 0, 1) := by decide +kernel
theorem dX3_take_57 : decode cX3_take 57 = .ok (.bipush 6, 2) := by decide +kernel
theorem dX3_take_59 : decode cX3_take 59 = .ok (.invokestatic 50, 3) := by decide +kernel
theorem dX3_take_62 : decode cX3_take 62 = .ok (.aload_n 1, 1) := by decide +kernel
theorem dX3_take_63 : decode cX3_take 63 = .ok (.getfield 31, 3) := by decide +kernel
theorem dX3_take_66 : decode cX3_take 66 = .ok (.iconst 0, 1) := by decide +kernel
theorem dX3_take_67 : decode cX3_take 67 = .ok (.aload_n 0, 1) := by decide +kernel
theorem dX3_take_68 : decode cX3_take 68 = .ok (.getfield 31, 3) := by decide +kernel
theorem dX3_take_71 : decode cX3_take 71 = .ok (.iconst 0, 1) := by decide +kernel
theorem dX3_take_72 : decode cX3_take 72 = .ok (.bipush 6, 2) := by decide +kernel
theorem dX3_take_74 : decode cX3_take 74 = .ok (.invokestatic 50, 3) := by decide +kernel
theorem dX3_take_77 : decode cX3_take 77 = .ok (.aload_n 1, 1) := by decide +kernel
theorem dX3_take_78 : decode cX3_take 78 = .ok (.getfield 34, 3) := by decide +kernel
theorem dX3_take_81 : decode cX3_take 81 = .ok (.iconst 0, 1) := by decide +kernel
theorem dX3_take_82 : decode cX3_take 82 = .ok (.aload_n 0, 1) := by decide +kernel
theorem dX3_take_83 : decode cX3_take 83 = .ok (.getfield 34, 3) := by decide +kernel
theorem dX3_take_86 : decode cX3_take 86 = .ok (.iconst 0, 1) := by decide +kernel
theorem dX3_take_87 : decode cX3_take 87 = .ok (.bipush 6, 2) := by decide +kernel
theorem dX3_take_89 : decode cX3_take 89 = .ok (.invokestatic 50, 3) := by decide +kernel
theorem dX3_take_92 : decode cX3_take 92 = .ok (.aload_n 1, 1) := by decide +kernel
theorem dX3_take_93 : decode cX3_take 93 = .ok (.getfield 37, 3) := by decide +kernel
theorem dX3_take_96 : decode cX3_take 96 = .ok (.iconst 0, 1) := by decide +kernel
theorem dX3_take_97 : decode cX3_take 97 = .ok (.aload_n 0, 1) := by decide +kernel
theorem dX3_take_98 : decode cX3_take 98 = .ok (.getfield 37, 3) := by decide +kernel
theorem dX3_take_101 : decode cX3_take 101 = .ok (.iconst 0, 1) := by decide +kernel
theorem dX3_take_102 : decode cX3_take 102 = .ok (.bipush 8, 2) := by decide +kernel
theorem dX3_take_104 : decode cX3_take 104 = .ok (.invokestatic 50, 3) := by decide +kernel
theorem dX3_take_107 : decode cX3_take 107 = .ok (.aload_n 1, 1) := by decide +kernel
theorem dX3_take_108 : decode cX3_take 108 = .ok (.getfield 40, 3) := by decide +kernel
theorem dX3_take_111 : decode cX3_take 111 = .ok (.iconst 0, 1) := by decide +kernel
theorem dX3_take_112 : decode cX3_take 112 = .ok (.aload_n 0, 1) := by decide +kernel
theorem dX3_take_113 : decode cX3_take 113 = .ok (.getfield 40, 3) := by decide +kernel
theorem dX3_take_116 : decode cX3_take 116 = .ok (.iconst 0, 1) := by decide +kernel
theorem dX3_take_117 : decode cX3_take 117 = .ok (.bipush 8, 2) := by decide +kernel
theorem dX3_take_119 : decode cX3_take 119 = .ok (.invokestatic 50, 3) := by decide +kernel
theorem dX3_take_122 : decode cX3_take 122 = .ok (.return_, 1) := by decide +kernel
theorem dX3_hasFainted_0 : decode cX3_hasFainted 0 = .ok (.aload_n 0, 1) := by decide +kernel
theorem dX3_hasFainted_1 : decode cX3_hasFainted 1 = .ok (.getfield 18, 3) := by decide +kernel
theorem dX3_hasFainted_4 : decode cX3_hasFainted 4 = .ok (.iload_n 1, 1) := by decide +kernel
theorem dX3_hasFainted_5 : decode cX3_hasFainted 5 = .ok (.ishr, 1) := by decide +kernel
theorem dX3_hasFainted_6 : decode cX3_hasFainted 6 = .ok (.iconst 1, 1) := by decide +kernel
theorem dX3_hasFainted_7 : decode cX3_hasFainted 7 = .ok (.iand, 1) := by decide +kernel
theorem dX3_hasFainted_8 : decode cX3_hasFainted 8 = .ok (.ifCond .eq 7, 3) := by decide +kernel
theorem dX3_hasFainted_11 : decode cX3_hasFainted 11 = .ok (.iconst 1, 1) := by decide +kernel
theorem dX3_hasFainted_12 : decode cX3_hasFainted 12 = .ok (.goto 4, 3) := by decide +kernel
theorem dX3_hasFainted_15 : decode cX3_hasFainted 15 = .ok (.iconst 0, 1) := by decide +kernel
theorem dX3_hasFainted_16 : decode cX3_hasFainted 16 = .ok (.ireturn, 1) := by decide +kernel
theorem dX3_faint_0 : decode cX3_faint 0 = .ok (.aload_n 0, 1) := by decide +kernel
theorem dX3_faint_1 : decode cX3_faint 1 = .ok (.dup, 1) := by decide +kernel
theorem dX3_faint_2 : decode cX3_faint 2 = .ok (.getfield 18, 3) := by decide +kernel
theorem dX3_faint_5 : decode cX3_faint 5 = .ok (.iconst 1, 1) := by decide +kernel
theorem dX3_faint_6 : decode cX3_faint 6 = .ok (.iload_n 1, 1) := by decide +kernel
theorem dX3_faint_7 : decode cX3_faint 7 = .ok (.ishl, 1) := by decide +kernel
theorem dX3_faint_8 : decode cX3_faint 8 = .ok (.ior, 1) := by decide +kernel
theorem dX3_faint_9 : decode cX3_faint 9 = .ok (.putfield 18, 3) := by decide +kernel
theorem dX3_faint_12 : decode cX3_faint 12 = .ok (.return_, 1) := by decide +kernel
theorem dX3_comeTo_0 : decode cX3_comeTo 0 = .ok (.aload_n 0, 1) := by decide +kernel
theorem dX3_comeTo_1 : decode cX3_comeTo 1 = .ok (.dup, 1) := by decide +kernel
theorem dX3_comeTo_2 : decode cX3_comeTo 2 = .ok (.getfield 18, 3) := by decide +kernel
theorem dX3_comeTo_5 : decode cX3_comeTo 5 = .ok (.iconst 1, 1) := by decide +kernel
theorem dX3_comeTo_6 : decode cX3_comeTo 6 = .ok (.iload_n 1, 1) := by decide +kernel
theorem dX3_comeTo_7 : decode cX3_comeTo 7 = .ok (.ishl, 1) := by decide +kernel
theorem dX3_comeTo_8 : decode cX3_comeTo 8 = .ok (.iconst (-1), 1) := by decide +kernel
theorem dX3_comeTo_9 : decode cX3_comeTo 9 = .ok (.ixor, 1) := by decide +kernel
theorem dX3_comeTo_10 : decode cX3_comeTo 10 = .ok (.iand, 1) := by decide +kernel
theorem dX3_comeTo_11 : decode cX3_comeTo 11 = .ok (.putfield 18, 3) := by decide +kernel
theorem dX3_comeTo_14 : decode cX3_comeTo 14 = .ok (.return_, 1) := by decide +kernel
theorem dX3_isEaten_0 : decode cX3_isEaten 0 = .ok (.aload_n 0, 1) := by decide +kernel
theorem dX3_isEaten_1 : decode cX3_isEaten 1 = .ok (.getfield 21, 3) := by decide +kernel
theorem dX3_isEaten_4 : decode cX3_isEaten 4 = .ok (.iload_n 1, 1) := by decide +kernel
theorem dX3_isEaten_5 : decode cX3_isEaten 5 = .ok (.ishr, 1) := by decide +kernel
theorem dX3_isEaten_6 : decode cX3_isEaten 6 = .ok (.iconst 1, 1) := by decide +kernel
theorem dX3_isEaten_7 : decode cX3_isEaten 7 = .ok (.iand, 1) := by decide +kernel
theorem dX3_isEaten_8 : decode cX3_isEaten 8 = .ok (.ifCond .eq 7, 3) := by decide +kernel
theorem dX3_isEaten_11 : decode cX3_isEaten 11 = .ok (.iconst 1, 1) := by decide +kernel
theorem dX3_isEaten_12 : decode cX3_isEaten 12 = .ok (.goto 4, 3) := by decide +kernel
theorem dX3_isEaten_15 : decode cX3_isEaten 15 = .ok (.iconst 0, 1) := by decide +kernel
theorem dX3_isEaten_16 : decode cX3_isEaten 16 = .ok (.ireturn, 1) := by decide +kernel
theorem dX3_eat_0 : decode cX3_eat 0 = .ok (.aload_n 0, 1) := by decide +kernel
theorem dX3_eat_1 : decode cX3_eat 1 = .ok (.dup, 1) := by decide +kernel
theorem dX3_eat_2 : decode cX3_eat 2 = .ok (.getfield 21, 3) := by decide +kernel
theorem dX3_eat_5 : decode cX3_eat 5 = .ok (.iconst 1, 1) := by decide +kernel
theorem dX3_eat_6 : decode cX3_eat 6 = .ok (.iload_n 1, 1) := by decide +kernel
theorem dX3_eat_7 : decode cX3_eat 7 = .ok (.ishl, 1) := by decide +kernel
theorem dX3_eat_8 : decode cX3_eat 8 = .ok (.ior, 1) := by decide +kernel
theorem dX3_eat_9 : decode cX3_eat 9 = .ok (.putfield 21, 3) := by decide +kernel
theorem dX3_eat_12 : decode cX3_eat 12 = .ok (.return_, 1) := by decide +kernel
theorem dX3_changeSeats_0 : decode cX3_changeSeats 0 = .ok (.aload_n 0, 1) := by decide +kernel
theorem dX3_changeSeats_1 : decode cX3_changeSeats 1 = .ok (.getfield 24, 3) := by decide +kernel
theorem dX3_changeSeats_4 : decode cX3_changeSeats 4 = .ok (.iload_n 1, 1) := by decide +kernel
theorem dX3_changeSeats_5 : decode cX3_changeSeats 5 = .ok (.iaload, 1) := by decide +kernel
theorem dX3_changeSeats_6 : decode cX3_changeSeats 6 = .ok (.istore_n 3, 1) := by decide +kernel
theorem dX3_changeSeats_7 : decode cX3_changeSeats 7 = .ok (.aload_n 0, 1) := by decide +kernel
theorem dX3_changeSeats_8 : decode cX3_changeSeats 8 = .ok (.getfield 24, 3) := by decide +kernel
theorem dX3_changeSeats_11 : decode cX3_changeSeats 11 = .ok (.iload_n 1, 1) := by decide +kernel
theorem dX3_changeSeats_12 : decode cX3_changeSeats 12 = .ok (.aload_n 0, 1) := by decide +kernel
theorem dX3_changeSeats_13 : decode cX3_changeSeats 13 = .ok (.getfield 24, 3) := by decide +kernel
theorem dX3_changeSeats_16 : decode cX3_changeSeats 16 = .ok (.iload_n 2, 1) := by decide +kernel
theorem dX3_changeSeats_17 : decode cX3_changeSeats 17 = .ok (.iaload, 1) := by decide +kernel
theorem dX3_changeSeats_18 : decode cX3_changeSeats 18 = .ok (.iastore, 1) := by decide +kernel
theorem dX3_changeSeats_19 : decode cX3_changeSeats 19 = .ok (.aload_n 0, 1) := by decide +kernel
theorem dX3_changeSeats_20 : decode cX3_changeSeats 20 = .ok (.getfield 24, 3) := by decide +kernel
theorem dX3_changeSeats_23 : decode cX3_changeSeats 23 = .ok (.iload_n 2, 1) := by decide +kernel
theorem dX3_changeSeats_24 : decode cX3_changeSeats 24 = .ok (.iload_n 3, 1) := by decide +kernel
theorem dX3_changeSeats_25 : decode cX3_changeSeats 25 = .ok (.iastore, 1) := by decide +kernel
theorem dX3_changeSeats_26 : decode cX3_changeSeats 26 = .ok (.return_, 1) := by decide +kernel
theorem dX3_nextNumber_0 : decode cX3_nextNumber 0 = .ok (.aload_n 0, 1) := by decide +kernel
theorem dX3_nextNumber_1 : decode cX3_nextNumber 1 = .ok (.aload_n 0, 1) := by decide +kernel
theorem dX3_nextNumber_2 : decode cX3_nextNumber 2 = .ok (.getfield 15, 3) := by decide +kernel
theorem dX3_nextNumber_5 : decode cX3_nextNumber 5 = .ok (.i2l, 1) := by decide +kernel
theorem dX3_nextNumber_6 : decode cX3_nextNumber 6 = .ok (.ldc2_w 56, 3) := by decide +kernel
theorem dX3_nextNumber_9 : decode cX3_nextNumber 9 = .ok (.lmul, 1) := by decide +kernel
theorem dX3_nextNumber_10 : decode cX3_nextNumber 10 = .ok (.ldc2_w 58, 3) := by decide +kernel
theorem dX3_nextNumber_13 : decode cX3_nextNumber 13 = .ok (.ladd, 1) := by decide +kernel
theorem dX3_nextNumber_14 : decode cX3_nextNumber 14 = .ok (.ldc2_w 60, 3) := by decide +kernel
theorem dX3_nextNumber_17 : decode cX3_nextNumber 17 = .ok (.land, 1) := by decide +kernel
theorem dX3_nextNumber_18 : decode cX3_nextNumber 18 = .ok (.l2i, 1) := by decide +kernel
theorem dX3_nextNumber_19 : decode cX3_nextNumber 19 = .ok (.putfield 15, 3) := by decide +kernel
theorem dX3_nextNumber_22 : decode cX3_nextNumber 22 = .ok (.aload_n 0, 1) := by decide +kernel
theorem dX3_nextNumber_23 : decode cX3_nextNumber 23 = .ok (.getfield 15, 3) := by decide +kernel
theorem dX3_nextNumber_26 : decode cX3_nextNumber 26 = .ok (.ldc 62, 2) := by decide +kernel
theorem dX3_nextNumber_28 : decode cX3_nextNumber 28 = .ok (.idiv, 1) := by decide +kernel
theorem dX3_nextNumber_29 : decode cX3_nextNumber 29 = .ok (.ireturn, 1) := by decide +kernel
