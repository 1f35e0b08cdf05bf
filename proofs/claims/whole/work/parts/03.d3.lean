theorem dX8_init_0 : decode cX8_init 0 = .ok (.aload_n 0, 1) := by decide +kernel
theorem dX8_init_1 : decode cX8_init 1 = .ok (.invokespecial 3, 3) := by decide +kernel
theorem dX8_init_4 : decode cX8_init 4 = .ok (.aload_n 0, 1) := by decide +kernel
theorem dX8_init_5 : decode cX8_init 5 = .ok (.sipush 700, 3) := by decide +kernel
theorem dX8_init_8 : decode cX8_init 8 = .ok (.newarray .byte, 2) := by decide +kernel
theorem dX8_init_10 : decode cX8_init 10 = .ok (.putfield 11, 3) := by decide +kernel
theorem dX8_init_13 : decode cX8_init 13 = .ok (.aload_n 0, 1) := by decide +kernel
theorem dX8_init_14 : decode cX8_init 14 = .ok (.iconst 0, 1) := by decide +kernel
theorem dX8_init_15 : decode cX8_init 15 = .ok (.putfield 15, 3) := by decide +kernel
theorem dX8_init_18 : decode cX8_init 18 = .ok (.aload_n 0, 1) := by decide +kernel
theorem dX8_init_19 : decode cX8_init 19 = .ok (.new 19, 3) := by decide +kernel
theorem dX8_init_22 : decode cX8_init 22 = .ok (.dup, 1) := by decide +kernel
theorem dX8_init_23 : decode cX8_init 23 = .ok (.invokespecial 21, 3) := by decide +kernel
theorem dX8_init_26 : decode cX8_init 26 = .ok (.putfield 22, 3) := by decide +kernel
theorem dX8_init_29 : decode cX8_init 29 = .ok (.aload_n 0, 1) := by decide +kernel
theorem dX8_init_30 : decode cX8_init 30 = .ok (.new 19, 3) := by decide +kernel
theorem dX8_init_33 : decode cX8_init 33 = .ok (.dup, 1) := by decide +kernel
theorem dX8_init_34 : decode cX8_init 34 = .ok (.invokespecial 21, 3) := by decide +kernel
theorem dX8_init_37 : decode cX8_init 37 = .ok (.putfield 26, 3) := by decide +kernel
theorem dX8_init_40 : decode cX8_init 40 = .ok (.aload_n 0, 1) := by decide +kernel
theorem dX8_init_41 : decode cX8_init 41 = .ok (.new 29, 3) := by decide +kernel
theorem dX8_init_44 : decode cX8_init 44 = .ok (.dup, 1) := by decide +kernel
theorem dX8_init_45 : decode cX8_init 45 = .ok (.aload_n 0, 1) := by decide +kernel
theorem dX8_init_46 : decode cX8_init 46 = .ok (.getfield 11, 3) := by decide +kernel
theorem dX8_init_49 : decode cX8_init 49 = .ok (.aload_n 0, 1) := by decide +kernel
theorem dX8_init_50 : decode cX8_init 50 = .ok (.getfield 26, 3) := by decide +kernel
theorem dX8_init_53 : decode cX8_init 53 = .ok (.invokespecial 31, 3) := by decide +kernel
theorem dX8_init_56 : decode cX8_init 56 = .ok (.putfield 34, 3) := by decide +kernel
theorem dX8_init_59 : decode cX8_init 59 = .ok (.aload_n 0, 1) := by decide +kernel
theorem dX8_init_60 : decode cX8_init 60 = .ok (.new 38, 3) := by decide +kernel
theorem dX8_init_63 : decode cX8_init 63 = .ok (.dup, 1) := by decide +kernel
theorem dX8_init_64 : decode cX8_init 64 = .ok (.invokespecial 40, 3) := by decide +kernel
theorem dX8_init_67 : decode cX8_init 67 = .ok (.putfield 41, 3) := by decide +kernel
theorem dX8_init_70 : decode cX8_init 70 = .ok (.aload_n 0, 1) := by decide +kernel
theorem dX8_init_71 : decode cX8_init 71 = .ok (.new 38, 3) := by decide +kernel
theorem dX8_init_74 : decode cX8_init 74 = .ok (.dup, 1) := by decide +kernel
theorem dX8_init_75 : decode cX8_init 75 = .ok (.invokespecial 40, 3) := by decide +kernel
theorem dX8_init_78 : decode cX8_init 78 = .ok (.putfield 45, 3) := by decide +kernel
theorem dX8_init_81 : decode cX8_init 81 = .ok (.aload_n 0, 1) := by decide +kernel
theorem dX8_init_82 : decode cX8_init 82 = .ok (.new 38, 3) := by decide +kernel
theorem dX8_init_85 : decode cX8_init 85 = .ok (.dup, 1) := by decide +kernel
theorem dX8_init_86 : decode cX8_init 86 = .ok (.invokespecial 40, 3) := by decide +kernel
theorem dX8_init_89 : decode cX8_init 89 = .ok (.putfield 48, 3) := by decide +kernel
theorem dX8_init_92 : decode cX8_init 92 = .ok (.aload_n 0, 1) := by decide +kernel
theorem dX8_init_93 : decode cX8_init 93 = .ok (.iconst 0, 1) := by decide +kernel
theorem dX8_init_94 : decode cX8_init 94 = .ok (.putfield 51, 3) := by decide +kernel
theorem dX8_init_97 : decode cX8_init 97 = .ok (.aload_n 0, 1) := by decide +kernel
theorem dX8_init_98 : decode cX8_init 98 = .ok (.new 55, 3) := by decide +kernel
theorem dX8_init_101 : decode cX8_init 101 = .ok (.dup, 1) := by decide +kernel
theorem dX8_init_102 : decode cX8_init 102 = .ok (.aload_n 0, 1) := by decide +kernel
theorem dX8_init_103 : decode cX8_init 103 = .ok (.getfield 22, 3) := by decide +kernel
theorem dX8_init_106 : decode cX8_init 106 = .ok (.invokespecial 57, 3) := by decide +kernel
theorem dX8_init_109 : decode cX8_init 109 = .ok (.putfield 60, 3) := by decide +kernel
theorem dX8_init_112 : decode cX8_init 112 = .ok (.aload_n 0, 1) := by decide +kernel
theorem dX8_init_113 : decode cX8_init 113 = .ok (.new 64, 3) := by decide +kernel
theorem dX8_init_116 : decode cX8_init 116 = .ok (.dup, 1) := by decide +kernel
theorem dX8_init_117 : decode cX8_init 117 = .ok (.invokespecial 66, 3) := by decide +kernel
theorem dX8_init_120 : decode cX8_init 120 = .ok (.putfield 67, 3) := by decide +kernel
theorem dX8_init_123 : decode cX8_init 123 = .ok (.aload_n 0, 1) := by decide +kernel
theorem dX8_init_124 : decode cX8_init 124 = .ok (.new 71, 3) := by decide +kernel
theorem dX8_init_127 : decode cX8_init 127 = .ok (.dup, 1) := by decide +kernel
theorem dX8_init_128 : decode cX8_init 128 = .ok (.invokespecial 73, 3) := by decide +kernel
theorem dX8_init_131 : decode cX8_init 131 = .ok (.putfield 74, 3) := by decide +kernel
theorem dX8_init_134 : decode cX8_init 134 = .ok (.aload_n 0, 1) := by decide +kernel
theorem dX8_init_135 : decode cX8_init 135 = .ok (.bipush 6, 2) := by decide +kernel
theorem dX8_init_137 : decode cX8_init 137 = .ok (.newarray .int, 2) := by decide +kernel
theorem dX8_init_139 : decode cX8_init 139 = .ok (.putfield 78, 3) := by decide +kernel
theorem dX8_init_142 : decode cX8_init 142 = .ok (.aload_n 0, 1) := by decide +kernel
theorem dX8_init_143 : decode cX8_init 143 = .ok (.bipush 6, 2) := by decide +kernel
theorem dX8_init_145 : decode cX8_init 145 = .ok (.newarray .int, 2) := by decide +kernel
theorem dX8_init_147 : decode cX8_init 147 = .ok (.putfield 82, 3) := by decide +kernel
theorem dX8_init_150 : decode cX8_init 150 = .ok (.return_, 1) := by decide +kernel
theorem dX8_feed_0 : decode cX8_feed 0 = .ok (.aload_n 0, 1) := by decide +kernel
theorem dX8_feed_1 : decode cX8_feed 1 = .ok (.getfield 15, 3) := by decide +kernel
theorem dX8_feed_4 : decode cX8_feed 4 = .ok (.sipush 680, 3) := by decide +kernel
theorem dX8_feed_7 : decode cX8_feed 7 = .ok (.if_icmp .le 5, 3) := by decide +kernel
theorem dX8_feed_10 : decode cX8_feed 10 = .ok (.iconst (-1), 1) := by decide +kernel
theorem dX8_feed_11 : decode cX8_feed 11 = .ok (.ireturn, 1) := by decide +kernel
theorem dX8_feed_12 : decode cX8_feed 12 = .ok (.aload_n 0, 1) := by decide +kernel
theorem dX8_feed_13 : decode cX8_feed 13 = .ok (.iload_n 1, 1) := by decide +kernel
theorem dX8_feed_14 : decode cX8_feed 14 = .ok (.invokevirtual 85, 3) := by decide +kernel
theorem dX8_feed_17 : decode cX8_feed 17 = .ok (.aload_n 0, 1) := by decide +kernel
theorem dX8_feed_18 : decode cX8_feed 18 = .ok (.iload_n 2, 1) := by decide +kernel
theorem dX8_feed_19 : decode cX8_feed 19 = .ok (.invokevirtual 85, 3) := by decide +kernel
theorem dX8_feed_22 : decode cX8_feed 22 = .ok (.aload_n 0, 1) := by decide +kernel
theorem dX8_feed_23 : decode cX8_feed 23 = .ok (.iload_n 3, 1) := by decide +kernel
theorem dX8_feed_24 : decode cX8_feed 24 = .ok (.invokevirtual 85, 3) := by decide +kernel
theorem dX8_feed_27 : decode cX8_feed 27 = .ok (.aload_n 0, 1) := by decide +kernel
theorem dX8_feed_28 : decode cX8_feed 28 = .ok (.iload 4, 2) := by decide +kernel
theorem dX8_feed_30 : decode cX8_feed 30 = .ok (.invokevirtual 85, 3) := by decide +kernel
theorem dX8_feed_33 : decode cX8_feed 33 = .ok (.aload_n 0, 1) := by decide +kernel
theorem dX8_feed_34 : decode cX8_feed 34 = .ok (.iload 5, 2) := by decide +kernel
theorem dX8_feed_36 : decode cX8_feed 36 = .ok (.invokevirtual 85, 3) := by decide +kernel
theorem dX8_feed_39 : decode cX8_feed 39 = .ok (.aload_n 0, 1) := by decide +kernel
theorem dX8_feed_40 : decode cX8_feed 40 = .ok (.getfield 15, 3) := by decide +kernel
theorem dX8_feed_43 : decode cX8_feed 43 = .ok (.ireturn, 1) := by decide +kernel
theorem dX8_putOnTape_0 : decode cX8_putOnTape 0 = .ok (.bipush 24, 2) := by decide +kernel
theorem dX8_putOnTape_2 : decode cX8_putOnTape 2 = .ok (.istore_n 2, 1) := by decide +kernel
theorem dX8_putOnTape_3 : decode cX8_putOnTape 3 = .ok (.iload_n 2, 1) := by decide +kernel
theorem dX8_putOnTape_4 : decode cX8_putOnTape 4 = .ok (.ifCond .lt 42, 3) := by decide +kernel
theorem dX8_putOnTape_7 : decode cX8_putOnTape 7 = .ok (.aload_n 0, 1) := by decide +kernel
theorem dX8_putOnTape_8 : decode cX8_putOnTape 8 = .ok (.getfield 15, 3) := by decide +kernel
theorem dX8_putOnTape_11 : decode cX8_putOnTape 11 = .ok (.sipush 700, 3) := by decide +kernel
theorem dX8_putOnTape_14 : decode cX8_putOnTape 14 = .ok (.if_icmp .ge 32, 3) := by decide +kernel
theorem dX8_putOnTape_17 : decode cX8_putOnTape 17 = .ok (.aload_n 0, 1) := by decide +kernel
theorem dX8_putOnTape_18 : decode cX8_putOnTape 18 = .ok (.getfield 11, 3) := by decide +kernel
theorem dX8_putOnTape_21 : decode cX8_putOnTape 21 = .ok (.aload_n 0, 1) := by decide +kernel
theorem dX8_putOnTape_22 : decode cX8_putOnTape 22 = .ok (.getfield 15, 3) := by decide +kernel
theorem dX8_putOnTape_25 : decode cX8_putOnTape 25 = .ok (.iload_n 1, 1) := by decide +kernel
theorem dX8_putOnTape_26 : decode cX8_putOnTape 26 = .ok (.iload_n 2, 1) := by decide +kernel
theorem dX8_putOnTape_27 : decode cX8_putOnTape 27 = .ok (.ishr, 1) := by decide +kernel
theorem dX8_putOnTape_28 : decode cX8_putOnTape 28 = .ok (.i2b, 1) := by decide +kernel
theorem dX8_putOnTape_29 : decode cX8_putOnTape 29 = .ok (.bastore, 1) := by decide +kernel
theorem dX8_putOnTape_30 : decode cX8_putOnTape 30 = .ok (.aload_n 0, 1) := by decide +kernel
theorem dX8_putOnTape_31 : decode cX8_putOnTape 31 = .ok (.dup, 1) := by decide +kernel
theorem dX8_putOnTape_32 : decode cX8_putOnTape 32 = .ok (.getfield 15, 3) := by decide +kernel
theorem dX8_putOnTape_35 : decode cX8_putOnTape 35 = .ok (.iconst 1, 1) := by decide +kernel
theorem dX8_putOnTape_36 : decode cX8_putOnTape 36 = .ok (.iadd, 1) := by decide +kernel
theorem dX8_putOnTape_37 : decode cX8_putOnTape 37 = .ok (.putfield 15, 3) := by decide +kernel
theorem dX8_putOnTape_40 : decode cX8_putOnTape 40 = .ok (.iinc 2 (-8), 3) := by decide +kernel
theorem dX8_putOnTape_43 : decode cX8_putOnTape 43 = .ok (.goto (-40), 3) := by decide +kernel
theorem dX8_putOnTape_46 : decode cX8_putOnTape 46 = .ok (.return_, 1) := by decide +kernel
theorem dX8_text_0 : decode cX8_text 0 = .ok (.iload_n 1, 1) := by decide +kernel
theorem dX8_text_1 : decode cX8_text 1 = .ok (.ifCond .lt 11, 3) := by decide +kernel
theorem dX8_text_4 : decode cX8_text 4 = .ok (.iload_n 1, 1) := by decide +kernel
theorem dX8_text_5 : decode cX8_text 5 = .ok (.aload_n 0, 1) := by decide +kernel
theorem dX8_text_6 : decode cX8_text 6 = .ok (.getfield 15, 3) := by decide +kernel
theorem dX8_text_9 : decode cX8_text 9 = .ok (.if_icmp .le 6, 3) := by decide +kernel
theorem dX8_text_12 : decode cX8_text 12 = .ok (.bipush (-2), 2) := by decide +kernel
theorem dX8_text_14 : decode cX8_text 14 = .ok (.ireturn, 1) := by decide +kernel
theorem dX8_text_15 : decode cX8_text 15 = .ok (.aload_n 0, 1) := by decide +kernel
theorem dX8_text_16 : decode cX8_text 16 = .ok (.iconst 0, 1) := by decide +kernel
theorem dX8_text_17 : decode cX8_text 17 = .ok (.putfield 15, 3) := by decide +kernel
theorem dX8_text_20 : decode cX8_text 20 = .ok (.aload_n 0, 1) := by decide +kernel
theorem dX8_text_21 : decode cX8_text 21 = .ok (.getfield 34, 3) := by decide +kernel
theorem dX8_text_24 : decode cX8_text 24 = .ok (.iload_n 1, 1) := by decide +kernel
theorem dX8_text_25 : decode cX8_text 25 = .ok (.aload_n 0, 1) := by decide +kernel
theorem dX8_text_26 : decode cX8_text 26 = .ok (.getfield 26, 3) := by decide +kernel
theorem dX8_text_29 : decode cX8_text 29 = .ok (.invokevirtual 89, 3) := by decide +kernel
theorem dX8_text_32 : decode cX8_text 32 = .ok (.ifCond .ne 5, 3) := by decide +kernel
theorem dX8_text_35 : decode cX8_text 35 = .ok (.iconst (-1), 1) := by decide +kernel
theorem dX8_text_36 : decode cX8_text 36 = .ok (.ireturn, 1) := by decide +kernel
theorem dX8_text_37 : decode cX8_text 37 = .ok (.aload_n 0, 1) := by decide +kernel
theorem dX8_text_38 : decode cX8_text 38 = .ok (.getfield 22, 3) := by decide +kernel
theorem dX8_text_41 : decode cX8_text 41 = .ok (.astore_n 2, 1) := by decide +kernel
theorem dX8_text_42 : decode cX8_text 42 = .ok (.aload_n 0, 1) := by decide +kernel
theorem dX8_text_43 : decode cX8_text 43 = .ok (.aload_n 0, 1) := by decide +kernel
theorem dX8_text_44 : decode cX8_text 44 = .ok (.getfield 26, 3) := by decide +kernel
theorem dX8_text_47 : decode cX8_text 47 = .ok (.putfield 22, 3) := by decide +kernel
theorem dX8_text_50 : decode cX8_text 50 = .ok (.aload_n 0, 1) := by decide +kernel
theorem dX8_text_51 : decode cX8_text 51 = .ok (.aload_n 2, 1) := by decide +kernel
theorem dX8_text_52 : decode cX8_text 52 = .ok (.putfield 26, 3) := by decide +kernel
theorem dX8_text_55 : decode cX8_text 55 = .ok (.aload_n 0, 1) := by decide +kernel
theorem dX8_text_56 : decode cX8_text 56 = .ok (.getfield 41, 3) := by decide +kernel
theorem dX8_text_59 : decode cX8_text 59 = .ok (.aload_n 0, 1) := by decide +kernel
theorem dX8_text_60 : decode cX8_text 60 = .ok (.getfield 22, 3) := by decide +kernel
theorem dX8_text_63 : decode cX8_text 63 = .ok (.invokevirtual 93, 3) := by decide +kernel
theorem dX8_text_66 : decode cX8_text 66 = .ok (.aload_n 0, 1) := by decide +kernel
theorem dX8_text_67 : decode cX8_text 67 = .ok (.getfield 74, 3) := by decide +kernel
theorem dX8_text_70 : decode cX8_text 70 = .ok (.invokevirtual 96, 3) := by decide +kernel
theorem dX8_text_73 : decode cX8_text 73 = .ok (.aload_n 0, 1) := by decide +kernel
theorem dX8_text_74 : decode cX8_text 74 = .ok (.getfield 67, 3) := by decide +kernel
theorem dX8_text_77 : decode cX8_text 77 = .ok (.iconst 0, 1) := by decide +kernel
theorem dX8_text_78 : decode cX8_text 78 = .ok (.putfield 99, 3) := by decide +kernel
theorem dX8_text_81 : decode cX8_text 81 = .ok (.aload_n 0, 1) := by decide +kernel
theorem dX8_text_82 : decode cX8_text 82 = .ok (.iconst 0, 1) := by decide +kernel
theorem dX8_text_83 : decode cX8_text 83 = .ok (.putfield 51, 3) := by decide +kernel
theorem dX8_text_86 : decode cX8_text 86 = .ok (.aload_n 0, 1) := by decide +kernel
theorem dX8_text_87 : decode cX8_text 87 = .ok (.getfield 22, 3) := by decide +kernel
theorem dX8_text_90 : decode cX8_text 90 = .ok (.getfield 102, 3) := by decide +kernel
theorem dX8_text_93 : decode cX8_text 93 = .ok (.ireturn, 1) := by decide +kernel
theorem dX8_fault_0 : decode cX8_fault 0 = .ok (.iload_n 1, 1) := by decide +kernel
theorem dX8_fault_1 : decode cX8_fault 1 = .ok (.ifCond .ne 11, 3) := by decide +kernel
theorem dX8_fault_4 : decode cX8_fault 4 = .ok (.aload_n 0, 1) := by decide +kernel
theorem dX8_fault_5 : decode cX8_fault 5 = .ok (.getfield 34, 3) := by decide +kernel
theorem dX8_fault_8 : decode cX8_fault 8 = .ok (.getfield 105, 3) := by decide +kernel
theorem dX8_fault_11 : decode cX8_fault 11 = .ok (.ireturn, 1) := by decide +kernel
theorem dX8_fault_12 : decode cX8_fault 12 = .ok (.iload_n 1, 1) := by decide +kernel
theorem dX8_fault_13 : decode cX8_fault 13 = .ok (.iconst 1, 1) := by decide +kernel
theorem dX8_fault_14 : decode cX8_fault 14 = .ok (.if_icmp .ne 23, 3) := by decide +kernel
theorem dX8_fault_17 : decode cX8_fault 17 = .ok (.aload_n 0, 1) := by decide +kernel
theorem dX8_fault_18 : decode cX8_fault 18 = .ok (.getfield 34, 3) := by decide +kernel
theorem dX8_fault_21 : decode cX8_fault 21 = .ok (.getfield 105, 3) := by decide +kernel
theorem dX8_fault_24 : decode cX8_fault 24 = .ok (.ifCond .eq 13, 3) := by decide +kernel
theorem dX8_fault_27 : decode cX8_fault 27 = .ok (.aload_n 0, 1) := by decide +kernel
theorem dX8_fault_28 : decode cX8_fault 28 = .ok (.getfield 34, 3) := by decide +kernel
theorem dX8_fault_31 : decode cX8_fault 31 = .ok (.getfield 108, 3) := by decide +kernel
theorem dX8_fault_34 : decode cX8_fault 34 = .ok (.goto 4, 3) := by decide +kernel
theorem dX8_fault_37 : decode cX8_fault 37 = .ok (.iconst (-1), 1) := by decide +kernel
theorem dX8_fault_38 : decode cX8_fault 38 = .ok (.ireturn, 1) := by decide +kernel
theorem dX8_named_0 : decode cX8_named 0 = .ok (.iload_n 1, 1) := by decide +kernel
theorem dX8_named_1 : decode cX8_named 1 = .ok (.ifCond .ne 12, 3) := by decide +kernel
theorem dX8_named_4 : decode cX8_named 4 = .ok (.aload_n 0, 1) := by decide +kernel
theorem dX8_named_5 : decode cX8_named 5 = .ok (.getfield 22, 3) := by decide +kernel
theorem dX8_named_8 : decode cX8_named 8 = .ok (.iload_n 2, 1) := by decide +kernel
theorem dX8_named_9 : decode cX8_named 9 = .ok (.invokevirtual 111, 3) := by decide +kernel
theorem dX8_named_12 : decode cX8_named 12 = .ok (.ireturn, 1) := by decide +kernel
theorem dX8_named_13 : decode cX8_named 13 = .ok (.iload_n 1, 1) := by decide +kernel
theorem dX8_named_14 : decode cX8_named 14 = .ok (.iconst 1, 1) := by decide +kernel
theorem dX8_named_15 : decode cX8_named 15 = .ok (.if_icmp .ne 14, 3) := by decide +kernel
theorem dX8_named_18 : decode cX8_named 18 = .ok (.aload_n 0, 1) := by decide +kernel
theorem dX8_named_19 : decode cX8_named 19 = .ok (.getfield 22, 3) := by decide +kernel
theorem dX8_named_22 : decode cX8_named 22 = .ok (.iload_n 2, 1) := by decide +kernel
theorem dX8_named_23 : decode cX8_named 23 = .ok (.invokevirtual 115, 3) := by decide +kernel
theorem dX8_named_26 : decode cX8_named 26 = .ok (.goto 4, 3) := by decide +kernel
theorem dX8_named_29 : decode cX8_named 29 = .ok (.iconst (-1), 1) := by decide +kernel
theorem dX8_named_30 : decode cX8_named 30 = .ok (.ireturn, 1) := by decide +kernel
theorem dX8_guest_0 : decode cX8_guest 0 = .ok (.aload_n 0, 1) := by decide +kernel
theorem dX8_guest_1 : decode cX8_guest 1 = .ok (.iload_n 1, 1) := by decide +kernel
theorem dX8_guest_2 : decode cX8_guest 2 = .ok (.invokevirtual 118, 3) := by decide +kernel
theorem dX8_guest_5 : decode cX8_guest 5 = .ok (.ifCond .ne 13, 3) := by decide +kernel
theorem dX8_guest_8 : decode cX8_guest 8 = .ok (.new 122, 3) := by decide +kernel
theorem dX8_guest_11 : decode cX8_guest 11 = .ok (.dup, 1) := by decide +kernel
theorem dX8_guest_12 : decode cX8_guest 12 = .ok (.ldc 124, 2) := by decide +kernel
theorem dX8_guest_14 : decode cX8_guest 14 = .ok (.invokespecial 126, 3) := by decide +kernel
theorem dX8_guest_17 : decode cX8_guest 17 = .ok (.athrow, 1) := by decide +kernel
theorem dX8_guest_18 : decode cX8_guest 18 = .ok (.iload_n 2, 1) := by decide +kernel
theorem dX8_guest_19 : decode cX8_guest 19 = .ok (.tableswitch 121 0 6 #[41, 51, 61, 71, 81, 98, 111], 41) := by decide +kernel
theorem dX8_guest_60 : decode cX8_guest 60 = .ok (.aload_n 0, 1) := by decide +kernel
theorem dX8_guest_61 : decode cX8_guest 61 = .ok (.getfield 41, 3) := by decide +kernel
theorem dX8_guest_64 : decode cX8_guest 64 = .ok (.getfield 129, 3) := by decide +kernel
theorem dX8_guest_67 : decode cX8_guest 67 = .ok (.iload_n 1, 1) := by decide +kernel
theorem dX8_guest_68 : decode cX8_guest 68 = .ok (.iaload, 1) := by decide +kernel
theorem dX8_guest_69 : decode cX8_guest 69 = .ok (.ireturn, 1) := by decide +kernel
theorem dX8_guest_70 : decode cX8_guest 70 = .ok (.aload_n 0, 1) := by decide +kernel
theorem dX8_guest_71 : decode cX8_guest 71 = .ok (.getfield 41, 3) := by decide +kernel
theorem dX8_guest_74 : decode cX8_guest 74 = .ok (.getfield 132, 3) := by decide +kernel
theorem dX8_guest_77 : decode cX8_guest 77 = .ok (.iload_n 1, 1) := by decide +kernel
theorem dX8_guest_78 : decode cX8_guest 78 = .ok (.iaload, 1) := by decide +kernel
theorem dX8_guest_79 : decode cX8_guest 79 = .ok (.ireturn, 1) := by decide +kernel
theorem dX8_guest_80 : decode cX8_guest 80 = .ok (.aload_n 0, 1) := by decide +kernel
theorem dX8_guest_81 : decode cX8_guest 81 = .ok (.getfield 22, 3) := by decide +kernel
theorem dX8_guest_84 : decode cX8_guest 84 = .ok (.getfield 135, 3) := by decide +kernel
theorem dX8_guest_87 : decode cX8_guest 87 = .ok (.iload_n 1, 1) := by decide +kernel
theorem dX8_guest_88 : decode cX8_guest 88 = .ok (.iaload, 1) := by decide +kernel
theorem dX8_guest_89 : decode cX8_guest 89 = .ok (.ireturn, 1) := by decide +kernel
theorem dX8_guest_90 : decode cX8_guest 90 = .ok (.aload_n 0, 1) := by decide +kernel
theorem dX8_guest_91 : decode cX8_guest 91 = .ok (.getfield 41, 3) := by decide +kernel
theorem dX8_guest_94 : decode cX8_guest 94 = .ok (.getfield 138, 3) := by decide +kernel
theorem dX8_guest_97 : decode cX8_guest 97 = .ok (.iload_n 1, 1) := by decide +kernel
theorem dX8_guest_98 : decode cX8_guest 98 = .ok (.iaload, 1) := by decide +kernel
theorem dX8_guest_99 : decode cX8_guest 99 = .ok (.ireturn, 1) := by decide +kernel
theorem dX8_guest_100 : decode cX8_guest 100 = .ok (.aload_n 0, 1) := by decide +kernel
theorem dX8_guest_101 : decode cX8_guest 101 = .ok (.getfield 41, 3) := by decide +kernel
theorem dX8_guest_104 : decode cX8_guest 104 = .ok (.iload_n 1, 1) := by decide +kernel
theorem dX8_guest_105 : decode cX8_guest 105 = .ok (.invokevirtual 141, 3) := by decide +kernel
theorem dX8_guest_108 : decode cX8_guest 108 = .ok (.ifCond .eq 7, 3) := by decide +kernel
theorem dX8_guest_111 : decode cX8_guest 111 = .ok (.iconst 0, 1) := by decide +kernel
theorem dX8_guest_112 : decode cX8_guest 112 = .ok (.goto 4, 3) := by decide +kernel
theorem dX8_guest_115 : decode cX8_guest 115 = .ok (.iconst 1, 1) := by decide +kernel
theorem dX8_guest_116 : decode cX8_guest 116 = .ok (.ireturn, 1) := by decide +kernel
theorem dX8_guest_117 : decode cX8_guest 117 = .ok (.aload_n 0, 1) := by decide +kernel
theorem dX8_guest_118 : decode cX8_guest 118 = .ok (.invokevirtual 144, 3) := by decide +kernel
theorem dX8_guest_121 : decode cX8_guest 121 = .ok (.aload_n 0, 1) := by decide +kernel
theorem dX8_guest_122 : decode cX8_guest 122 = .ok (.getfield 41, 3) := by decide +kernel
theorem dX8_guest_125 : decode cX8_guest 125 = .ok (.iload_n 1, 1) := by decide +kernel
theorem dX8_guest_126 : decode cX8_guest 126 = .ok (.invokevirtual 148, 3) := by decide +kernel
theorem dX8_guest_129 : decode cX8_guest 129 = .ok (.ireturn, 1) := by decide +kernel
theorem dX8_guest_130 : decode cX8_guest 130 = .ok (.aload_n 0, 1) := by decide +kernel
theorem dX8_guest_131 : decode cX8_guest 131 = .ok (.getfield 41, 3) := by decide +kernel
theorem dX8_guest_134 : decode cX8_guest 134 = .ok (.getfield 152, 3) := by decide +kernel
theorem dX8_guest_137 : decode cX8_guest 137 = .ok (.iload_n 1, 1) := by decide +kernel
theorem dX8_guest_138 : decode cX8_guest 138 = .ok (.iaload, 1) := by decide +kernel
theorem dX8_guest_139 : decode cX8_guest 139 = .ok (.ireturn, 1) := by decide +kernel
theorem dX8_guest_140 : decode cX8_guest 140 = .ok (.new 155, 3) := by decide +kernel
theorem dX8_guest_143 : decode cX8_guest 143 = .ok (.dup, 1) := by decide +kernel
theorem dX8_guest_144 : decode cX8_guest 144 = .ok (.ldc 157, 2) := by decide +kernel
theorem dX8_guest_146 : decode cX8_guest 146 = .ok (.invokespecial 159, 3) := by decide +kernel
theorem dX8_guest_149 : decode cX8_guest 149 = .ok (.athrow, 1) := by decide +kernel
theorem dX8_fruit_0 : decode cX8_fruit 0 = .ok (.aload_n 0, 1) := by decide +kernel
theorem dX8_fruit_1 : decode cX8_fruit 1 = .ok (.iload_n 1, 1) := by decide +kernel
theorem dX8_fruit_2 : decode cX8_fruit 2 = .ok (.invokevirtual 160, 3) := by decide +kernel
theorem dX8_fruit_5 : decode cX8_fruit 5 = .ok (.ifCond .ne 5, 3) := by decide +kernel
theorem dX8_fruit_8 : decode cX8_fruit 8 = .ok (.iconst (-1), 1) := by decide +kernel
theorem dX8_fruit_9 : decode cX8_fruit 9 = .ok (.ireturn, 1) := by decide +kernel
theorem dX8_fruit_10 : decode cX8_fruit 10 = .ok (.iload_n 2, 1) := by decide +kernel
theorem dX8_fruit_11 : decode cX8_fruit 11 = .ok (.tableswitch 90 0 4 #[33, 43, 53, 70, 80], 33) := by decide +kernel
theorem dX8_fruit_44 : decode cX8_fruit 44 = .ok (.aload_n 0, 1) := by decide +kernel
theorem dX8_fruit_45 : decode cX8_fruit 45 = .ok (.getfield 22, 3) := by decide +kernel
theorem dX8_fruit_48 : decode cX8_fruit 48 = .ok (.getfield 163, 3) := by decide +kernel
theorem dX8_fruit_51 : decode cX8_fruit 51 = .ok (.iload_n 1, 1) := by decide +kernel
theorem dX8_fruit_52 : decode cX8_fruit 52 = .ok (.iaload, 1) := by decide +kernel
theorem dX8_fruit_53 : decode cX8_fruit 53 = .ok (.ireturn, 1) := by decide +kernel
theorem dX8_fruit_54 : decode cX8_fruit 54 = .ok (.aload_n 0, 1) := by decide +kernel
theorem dX8_fruit_55 : decode cX8_fruit 55 = .ok (.getfield 22, 3) := by decide +kernel
theorem dX8_fruit_58 : decode cX8_fruit 58 = .ok (.getfield 166, 3) := by decide +kernel
theorem dX8_fruit_61 : decode cX8_fruit 61 = .ok (.iload_n 1, 1) := by decide +kernel
theorem dX8_fruit_62 : decode cX8_fruit 62 = .ok (.iaload, 1) := by decide +kernel
theorem dX8_fruit_63 : decode cX8_fruit 63 = .ok (.ireturn, 1) := by decide +kernel
theorem dX8_fruit_64 : decode cX8_fruit 64 = .ok (.aload_n 0, 1) := by decide +kernel
theorem dX8_fruit_65 : decode cX8_fruit 65 = .ok (.getfield 41, 3) := by decide +kernel
theorem dX8_fruit_68 : decode cX8_fruit 68 = .ok (.iload_n 1, 1) := by decide +kernel
theorem dX8_fruit_69 : decode cX8_fruit 69 = .ok (.invokevirtual 169, 3) := by decide +kernel
theorem dX8_fruit_72 : decode cX8_fruit 72 = .ok (.ifCond .eq 7, 3) := by decide +kernel
theorem dX8_fruit_75 : decode cX8_fruit 75 = .ok (.iconst 1, 1) := by decide +kernel
theorem dX8_fruit_76 : decode cX8_fruit 76 = .ok (.goto 4, 3) := by decide +kernel
theorem dX8_fruit_79 : decode cX8_fruit 79 = .ok (.iconst 0, 1) := by decide +kernel
theorem dX8_fruit_80 : decode cX8_fruit 80 = .ok (.ireturn, 1) := by decide +kernel
theorem dX8_fruit_81 : decode cX8_fruit 81 = .ok (.aload_n 0, 1) := by decide +kernel
theorem dX8_fruit_82 : decode cX8_fruit 82 = .ok (.getfield 41, 3) := by decide +kernel
theorem dX8_fruit_85 : decode cX8_fruit 85 = .ok (.getfield 172, 3) := by decide +kernel
theorem dX8_fruit_88 : decode cX8_fruit 88 = .ok (.iload_n 1, 1) := by decide +kernel
theorem dX8_fruit_89 : decode cX8_fruit 89 = .ok (.iaload, 1) := by decide +kernel
theorem dX8_fruit_90 : decode cX8_fruit 90 = .ok (.ireturn, 1) := by decide +kernel
theorem dX8_fruit_91 : decode cX8_fruit 91 = .ok (.aload_n 0, 1) := by decide +kernel
theorem dX8_fruit_92 : decode cX8_fruit 92 = .ok (.getfield 41, 3) := by decide +kernel
theorem dX8_fruit_95 : decode cX8_fruit 95 = .ok (.getfield 175, 3) := by decide +kernel
theorem dX8_fruit_98 : decode cX8_fruit 98 = .ok (.iload_n 1, 1) := by decide +kernel
theorem dX8_fruit_99 : decode cX8_fruit 99 = .ok (.iaload, 1) := by decide +kernel
theorem dX8_fruit_100 : decode cX8_fruit 100 = .ok (.ireturn, 1) := by decide +kernel
theorem dX8_fruit_101 : decode cX8_fruit 101 = .ok (.iconst (-1), 1) := by decide +kernel
theorem dX8_fruit_102 : decode cX8_fruit 102 = .ok (.ireturn, 1) := by decide +kernel
theorem dX8_law_0 : decode cX8_law 0 = .ok (.iload_n 1, 1) := by decide +kernel
theorem dX8_law_1 : decode cX8_law 1 = .ok (.ifCond .lt 24, 3) := by decide +kernel
theorem dX8_law_4 : decode cX8_law 4 = .ok (.iload_n 1, 1) := by decide +kernel
theorem dX8_law_5 : decode cX8_law 5 = .ok (.iconst 3, 1) := by decide +kernel
theorem dX8_law_6 : decode cX8_law 6 = .ok (.if_icmp .ge 19, 3) := by decide +kernel
theorem dX8_law_9 : decode cX8_law 9 = .ok (.aload_n 0, 1) := by decide +kernel
theorem dX8_law_10 : decode cX8_law 10 = .ok (.iload_n 2, 1) := by decide +kernel
theorem dX8_law_11 : decode cX8_law 11 = .ok (.invokevirtual 118, 3) := by decide +kernel
theorem dX8_law_14 : decode cX8_law 14 = .ok (.ifCond .eq 11, 3) := by decide +kernel
theorem dX8_law_17 : decode cX8_law 17 = .ok (.aload_n 0, 1) := by decide +kernel
theorem dX8_law_18 : decode cX8_law 18 = .ok (.iload_n 3, 1) := by decide +kernel
theorem dX8_law_19 : decode cX8_law 19 = .ok (.invokevirtual 160, 3) := by decide +kernel
theorem dX8_law_22 : decode cX8_law 22 = .ok (.ifCond .ne 7, 3) := by decide +kernel
theorem dX8_law_25 : decode cX8_law 25 = .ok (.ldc2_w 178, 3) := by decide +kernel
theorem dX8_law_28 : decode cX8_law 28 = .ok (.lreturn, 1) := by decide +kernel
theorem dX8_law_29 : decode cX8_law 29 = .ok (.aload_n 0, 1) := by decide +kernel
theorem dX8_law_30 : decode cX8_law 30 = .ok (.invokevirtual 144, 3) := by decide +kernel
theorem dX8_law_33 : decode cX8_law 33 = .ok (.iload_n 1, 1) := by decide +kernel
theorem dX8_law_34 : decode cX8_law 34 = .ok (.aload_n 0, 1) := by decide +kernel
theorem dX8_law_35 : decode cX8_law 35 = .ok (.getfield 41, 3) := by decide +kernel
theorem dX8_law_38 : decode cX8_law 38 = .ok (.iload_n 2, 1) := by decide +kernel
theorem dX8_law_39 : decode cX8_law 39 = .ok (.iload_n 3, 1) := by decide +kernel
theorem dX8_law_40 : decode cX8_law 40 = .ok (.invokevirtual 180, 3) := by decide +kernel
theorem dX8_law_43 : decode cX8_law 43 = .ok (.lreturn, 1) := by decide +kernel
theorem dX8_seat_0 : decode cX8_seat 0 = .ok (.aload_n 0, 1) := by decide +kernel
theorem dX8_seat_1 : decode cX8_seat 1 = .ok (.iload_n 1, 1) := by decide +kernel
theorem dX8_seat_2 : decode cX8_seat 2 = .ok (.iload_n 2, 1) := by decide +kernel
theorem dX8_seat_3 : decode cX8_seat 3 = .ok (.invokevirtual 184, 3) := by decide +kernel
theorem dX8_seat_6 : decode cX8_seat 6 = .ok (.ifCond .ne 5, 3) := by decide +kernel
theorem dX8_seat_9 : decode cX8_seat 9 = .ok (.iconst 0, 1) := by decide +kernel
theorem dX8_seat_10 : decode cX8_seat 10 = .ok (.ireturn, 1) := by decide +kernel
theorem dX8_seat_11 : decode cX8_seat 11 = .ok (.aload_n 0, 1) := by decide +kernel
theorem dX8_seat_12 : decode cX8_seat 12 = .ok (.getfield 41, 3) := by decide +kernel
theorem dX8_seat_15 : decode cX8_seat 15 = .ok (.iload_n 1, 1) := by decide +kernel
theorem dX8_seat_16 : decode cX8_seat 16 = .ok (.iload_n 2, 1) := by decide +kernel
theorem dX8_seat_17 : decode cX8_seat 17 = .ok (.invokevirtual 188, 3) := by decide +kernel
theorem dX8_seat_20 : decode cX8_seat 20 = .ok (.aload_n 0, 1) := by decide +kernel
theorem dX8_seat_21 : decode cX8_seat 21 = .ok (.getfield 67, 3) := by decide +kernel
theorem dX8_seat_24 : decode cX8_seat 24 = .ok (.iconst 0, 1) := by decide +kernel
theorem dX8_seat_25 : decode cX8_seat 25 = .ok (.iload_n 1, 1) := by decide +kernel
theorem dX8_seat_26 : decode cX8_seat 26 = .ok (.iload_n 2, 1) := by decide +kernel
theorem dX8_seat_27 : decode cX8_seat 27 = .ok (.invokevirtual 192, 3) := by decide +kernel
theorem dX8_seat_30 : decode cX8_seat 30 = .ok (.iconst 1, 1) := by decide +kernel
theorem dX8_seat_31 : decode cX8_seat 31 = .ok (.ireturn, 1) := by decide +kernel
theorem dX8_bread_0 : decode cX8_bread 0 = .ok (.aload_n 0, 1) := by decide +kernel
theorem dX8_bread_1 : decode cX8_bread 1 = .ok (.iload_n 1, 1) := by decide +kernel
theorem dX8_bread_2 : decode cX8_bread 2 = .ok (.invokevirtual 196, 3) := by decide +kernel
theorem dX8_bread_5 : decode cX8_bread 5 = .ok (.ifCond .eq 14, 3) := by decide +kernel
theorem dX8_bread_8 : decode cX8_bread 8 = .ok (.iload_n 2, 1) := by decide +kernel
theorem dX8_bread_9 : decode cX8_bread 9 = .ok (.iconst 1, 1) := by decide +kernel
theorem dX8_bread_10 : decode cX8_bread 10 = .ok (.if_icmp .lt 9, 3) := by decide +kernel
theorem dX8_bread_13 : decode cX8_bread 13 = .ok (.iload_n 2, 1) := by decide +kernel
theorem dX8_bread_14 : decode cX8_bread 14 = .ok (.bipush 99, 2) := by decide +kernel
theorem dX8_bread_16 : decode cX8_bread 16 = .ok (.if_icmp .le 5, 3) := by decide +kernel
theorem dX8_bread_19 : decode cX8_bread 19 = .ok (.iconst (-1), 1) := by decide +kernel
theorem dX8_bread_20 : decode cX8_bread 20 = .ok (.ireturn, 1) := by decide +kernel
theorem dX8_bread_21 : decode cX8_bread 21 = .ok (.aload_n 0, 1) := by decide +kernel
theorem dX8_bread_22 : decode cX8_bread 22 = .ok (.getfield 67, 3) := by decide +kernel
theorem dX8_bread_25 : decode cX8_bread 25 = .ok (.iconst 1, 1) := by decide +kernel
theorem dX8_bread_26 : decode cX8_bread 26 = .ok (.iload_n 1, 1) := by decide +kernel
theorem dX8_bread_27 : decode cX8_bread 27 = .ok (.aload_n 0, 1) := by decide +kernel
theorem dX8_bread_28 : decode cX8_bread 28 = .ok (.getfield 41, 3) := by decide +kernel
theorem dX8_bread_31 : decode cX8_bread 31 = .ok (.getfield 132, 3) := by decide +kernel
theorem dX8_bread_34 : decode cX8_bread 34 = .ok (.iload_n 1, 1) := by decide +kernel
theorem dX8_bread_35 : decode cX8_bread 35 = .ok (.iaload, 1) := by decide +kernel
theorem dX8_bread_36 : decode cX8_bread 36 = .ok (.invokevirtual 192, 3) := by decide +kernel
theorem dX8_bread_39 : decode cX8_bread 39 = .ok (.aload_n 0, 1) := by decide +kernel
theorem dX8_bread_40 : decode cX8_bread 40 = .ok (.getfield 41, 3) := by decide +kernel
theorem dX8_bread_43 : decode cX8_bread 43 = .ok (.getfield 132, 3) := by decide +kernel
theorem dX8_bread_46 : decode cX8_bread 46 = .ok (.iload_n 1, 1) := by decide +kernel
theorem dX8_bread_47 : decode cX8_bread 47 = .ok (.iconst 0, 1) := by decide +kernel
theorem dX8_bread_48 : decode cX8_bread 48 = .ok (.aload_n 0, 1) := by decide +kernel
theorem dX8_bread_49 : decode cX8_bread 49 = .ok (.getfield 41, 3) := by decide +kernel
theorem dX8_bread_52 : decode cX8_bread 52 = .ok (.getfield 132, 3) := by decide +kernel
theorem dX8_bread_55 : decode cX8_bread 55 = .ok (.iload_n 1, 1) := by decide +kernel
theorem dX8_bread_56 : decode cX8_bread 56 = .ok (.iaload, 1) := by decide +kernel
theorem dX8_bread_57 : decode cX8_bread 57 = .ok (.iload_n 2, 1) := by decide +kernel
theorem dX8_bread_58 : decode cX8_bread 58 = .ok (.isub, 1) := by decide +kernel
theorem dX8_bread_59 : decode cX8_bread 59 = .ok (.invokestatic 199, 3) := by decide +kernel
theorem dX8_bread_62 : decode cX8_bread 62 = .ok (.iastore, 1) := by decide +kernel
theorem dX8_bread_63 : decode cX8_bread 63 = .ok (.aload_n 0, 1) := by decide +kernel
theorem dX8_bread_64 : decode cX8_bread 64 = .ok (.getfield 41, 3) := by decide +kernel
theorem dX8_bread_67 : decode cX8_bread 67 = .ok (.getfield 132, 3) := by decide +kernel
theorem dX8_bread_70 : decode cX8_bread 70 = .ok (.iload_n 1, 1) := by decide +kernel
theorem dX8_bread_71 : decode cX8_bread 71 = .ok (.iaload, 1) := by decide +kernel
theorem dX8_bread_72 : decode cX8_bread 72 = .ok (.ireturn, 1) := by decide +kernel
theorem dX8_wake_0 : decode cX8_wake 0 = .ok (.aload_n 0, 1) := by decide +kernel
theorem dX8_wake_1 : decode cX8_wake 1 = .ok (.iload_n 1, 1) := by decide +kernel
theorem dX8_wake_2 : decode cX8_wake 2 = .ok (.invokevirtual 118, 3) := by decide +kernel
theorem dX8_wake_5 : decode cX8_wake 5 = .ok (.ifCond .eq 14, 3) := by decide +kernel
theorem dX8_wake_8 : decode cX8_wake 8 = .ok (.aload_n 0, 1) := by decide +kernel
theorem dX8_wake_9 : decode cX8_wake 9 = .ok (.getfield 41, 3) := by decide +kernel
theorem dX8_wake_12 : decode cX8_wake 12 = .ok (.iload_n 1, 1) := by decide +kernel
theorem dX8_wake_13 : decode cX8_wake 13 = .ok (.invokevirtual 141, 3) := by decide +kernel
theorem dX8_wake_16 : decode cX8_wake 16 = .ok (.ifCond .ne 5, 3) := by decide +kernel
theorem dX8_wake_19 : decode cX8_wake 19 = .ok (.iconst 0, 1) := by decide +kernel
theorem dX8_wake_20 : decode cX8_wake 20 = .ok (.ireturn, 1) := by decide +kernel
theorem dX8_wake_21 : decode cX8_wake 21 = .ok (.aload_n 0, 1) := by decide +kernel
theorem dX8_wake_22 : decode cX8_wake 22 = .ok (.getfield 67, 3) := by decide +kernel
theorem dX8_wake_25 : decode cX8_wake 25 = .ok (.iconst 2, 1) := by decide +kernel
theorem dX8_wake_26 : decode cX8_wake 26 = .ok (.iload_n 1, 1) := by decide +kernel
theorem dX8_wake_27 : decode cX8_wake 27 = .ok (.aload_n 0, 1) := by decide +kernel
theorem dX8_wake_28 : decode cX8_wake 28 = .ok (.getfield 41, 3) := by decide +kernel
theorem dX8_wake_31 : decode cX8_wake 31 = .ok (.getfield 132, 3) := by decide +kernel
theorem dX8_wake_34 : decode cX8_wake 34 = .ok (.iload_n 1, 1) := by decide +kernel
theorem dX8_wake_35 : decode cX8_wake 35 = .ok (.iaload, 1) := by decide +kernel
theorem dX8_wake_36 : decode cX8_wake 36 = .ok (.invokevirtual 192, 3) := by decide +kernel
theorem dX8_wake_39 : decode cX8_wake 39 = .ok (.aload_n 0, 1) := by decide +kernel
theorem dX8_wake_40 : decode cX8_wake 40 = .ok (.getfield 41, 3) := by decide +kernel
theorem dX8_wake_43 : decode cX8_wake 43 = .ok (.iload_n 1, 1) := by decide +kernel
theorem dX8_wake_44 : decode cX8_wake 44 = .ok (.invokevirtual 205, 3) := by decide +kernel
theorem dX8_wake_47 : decode cX8_wake 47 = .ok (.aload_n 0, 1) := by decide +kernel
theorem dX8_wake_48 : decode cX8_wake 48 = .ok (.getfield 41, 3) := by decide +kernel
theorem dX8_wake_51 : decode cX8_wake 51 = .ok (.getfield 132, 3) := by decide +kernel
theorem dX8_wake_54 : decode cX8_wake 54 = .ok (.iload_n 1, 1) := by decide +kernel
theorem dX8_wake_55 : decode cX8_wake 55 = .ok (.bipush 50, 2) := by decide +kernel
theorem dX8_wake_57 : decode cX8_wake 57 = .ok (.iastore, 1) := by decide +kernel
theorem dX8_wake_58 : decode cX8_wake 58 = .ok (.iconst 1, 1) := by decide +kernel
theorem dX8_wake_59 : decode cX8_wake 59 = .ok (.ireturn, 1) := by decide +kernel
theorem dX8_go_0 : decode cX8_go 0 = .ok (.iload_n 1, 1) := by decide +kernel
theorem dX8_go_1 : decode cX8_go 1 = .ok (.ifCond .lt 25, 3) := by decide +kernel
theorem dX8_go_4 : decode cX8_go 4 = .ok (.iload_n 1, 1) := by decide +kernel
theorem dX8_go_5 : decode cX8_go 5 = .ok (.sipush 200, 3) := by decide +kernel
theorem dX8_go_8 : decode cX8_go 8 = .ok (.if_icmp .gt 18, 3) := by decide +kernel
theorem dX8_go_11 : decode cX8_go 11 = .ok (.aload_n 0, 1) := by decide +kernel
theorem dX8_go_12 : decode cX8_go 12 = .ok (.getfield 41, 3) := by decide +kernel
theorem dX8_go_15 : decode cX8_go 15 = .ok (.getfield 208, 3) := by decide +kernel
theorem dX8_go_18 : decode cX8_go 18 = .ok (.iload_n 1, 1) := by decide +kernel
theorem dX8_go_19 : decode cX8_go 19 = .ok (.iadd, 1) := by decide +kernel
theorem dX8_go_20 : decode cX8_go 20 = .ok (.sipush 9000, 3) := by decide +kernel
theorem dX8_go_23 : decode cX8_go 23 = .ok (.if_icmp .le 5, 3) := by decide +kernel
theorem dX8_go_26 : decode cX8_go 26 = .ok (.iconst (-1), 1) := by decide +kernel
theorem dX8_go_27 : decode cX8_go 27 = .ok (.ireturn, 1) := by decide +kernel
theorem dX8_go_28 : decode cX8_go 28 = .ok (.aload_n 0, 1) := by decide +kernel
theorem dX8_go_29 : decode cX8_go 29 = .ok (.getfield 60, 3) := by decide +kernel
theorem dX8_go_32 : decode cX8_go 32 = .ok (.aload_n 0, 1) := by decide +kernel
theorem dX8_go_33 : decode cX8_go 33 = .ok (.getfield 22, 3) := by decide +kernel
theorem dX8_go_36 : decode cX8_go 36 = .ok (.iconst 1, 1) := by decide +kernel
theorem dX8_go_37 : decode cX8_go 37 = .ok (.invokevirtual 211, 3) := by decide +kernel
theorem dX8_go_40 : decode cX8_go 40 = .ok (.aload_n 0, 1) := by decide +kernel
theorem dX8_go_41 : decode cX8_go 41 = .ok (.getfield 60, 3) := by decide +kernel
theorem dX8_go_44 : decode cX8_go 44 = .ok (.aload_n 0, 1) := by decide +kernel
theorem dX8_go_45 : decode cX8_go 45 = .ok (.getfield 41, 3) := by decide +kernel
theorem dX8_go_48 : decode cX8_go 48 = .ok (.iload_n 1, 1) := by decide +kernel
theorem dX8_go_49 : decode cX8_go 49 = .ok (.invokevirtual 214, 3) := by decide +kernel
theorem dX8_go_52 : decode cX8_go 52 = .ok (.iload_n 1, 1) := by decide +kernel
theorem dX8_go_53 : decode cX8_go 53 = .ok (.ifCond .le 11, 3) := by decide +kernel
theorem dX8_go_56 : decode cX8_go 56 = .ok (.aload_n 0, 1) := by decide +kernel
theorem dX8_go_57 : decode cX8_go 57 = .ok (.getfield 67, 3) := by decide +kernel
theorem dX8_go_60 : decode cX8_go 60 = .ok (.iconst 0, 1) := by decide +kernel
theorem dX8_go_61 : decode cX8_go 61 = .ok (.putfield 99, 3) := by decide +kernel
theorem dX8_go_64 : decode cX8_go 64 = .ok (.aload_n 0, 1) := by decide +kernel
theorem dX8_go_65 : decode cX8_go 65 = .ok (.getfield 41, 3) := by decide +kernel
theorem dX8_go_68 : decode cX8_go 68 = .ok (.getfield 208, 3) := by decide +kernel
theorem dX8_go_71 : decode cX8_go 71 = .ok (.ireturn, 1) := by decide +kernel
theorem dX8_ahead_0 : decode cX8_ahead 0 = .ok (.iload_n 1, 1) := by decide +kernel
theorem dX8_ahead_1 : decode cX8_ahead 1 = .ok (.ifCond .lt 19, 3) := by decide +kernel
theorem dX8_ahead_4 : decode cX8_ahead 4 = .ok (.iload_n 1, 1) := by decide +kernel
theorem dX8_ahead_5 : decode cX8_ahead 5 = .ok (.sipush 200, 3) := by decide +kernel
theorem dX8_ahead_8 : decode cX8_ahead 8 = .ok (.if_icmp .gt 12, 3) := by decide +kernel
theorem dX8_ahead_11 : decode cX8_ahead 11 = .ok (.iload_n 2, 1) := by decide +kernel
theorem dX8_ahead_12 : decode cX8_ahead 12 = .ok (.ifCond .lt 8, 3) := by decide +kernel
theorem dX8_ahead_15 : decode cX8_ahead 15 = .ok (.iload_n 2, 1) := by decide +kernel
theorem dX8_ahead_16 : decode cX8_ahead 16 = .ok (.iconst 4, 1) := by decide +kernel
theorem dX8_ahead_17 : decode cX8_ahead 17 = .ok (.if_icmp .le 5, 3) := by decide +kernel
theorem dX8_ahead_20 : decode cX8_ahead 20 = .ok (.iconst (-1), 1) := by decide +kernel
theorem dX8_ahead_21 : decode cX8_ahead 21 = .ok (.ireturn, 1) := by decide +kernel
theorem dX8_ahead_22 : decode cX8_ahead 22 = .ok (.iload_n 2, 1) := by decide +kernel
theorem dX8_ahead_23 : decode cX8_ahead 23 = .ok (.iconst 2, 1) := by decide +kernel
theorem dX8_ahead_24 : decode cX8_ahead 24 = .ok (.if_icmp .eq 8, 3) := by decide +kernel
theorem dX8_ahead_27 : decode cX8_ahead 27 = .ok (.iload_n 2, 1) := by decide +kernel
theorem dX8_ahead_28 : decode cX8_ahead 28 = .ok (.iconst 3, 1) := by decide +kernel
theorem dX8_ahead_29 : decode cX8_ahead 29 = .ok (.if_icmp .ne 13, 3) := by decide +kernel
theorem dX8_ahead_32 : decode cX8_ahead 32 = .ok (.aload_n 0, 1) := by decide +kernel
theorem dX8_ahead_33 : decode cX8_ahead 33 = .ok (.iload_n 3, 1) := by decide +kernel
theorem dX8_ahead_34 : decode cX8_ahead 34 = .ok (.invokevirtual 118, 3) := by decide +kernel
theorem dX8_ahead_37 : decode cX8_ahead 37 = .ok (.ifCond .ne 5, 3) := by decide +kernel
theorem dX8_ahead_40 : decode cX8_ahead 40 = .ok (.iconst (-1), 1) := by decide +kernel
theorem dX8_ahead_41 : decode cX8_ahead 41 = .ok (.ireturn, 1) := by decide +kernel
theorem dX8_ahead_42 : decode cX8_ahead 42 = .ok (.aload_n 0, 1) := by decide +kernel
theorem dX8_ahead_43 : decode cX8_ahead 43 = .ok (.invokevirtual 218, 3) := by decide +kernel
theorem dX8_ahead_46 : decode cX8_ahead 46 = .ok (.aload_n 0, 1) := by decide +kernel
theorem dX8_ahead_47 : decode cX8_ahead 47 = .ok (.getfield 60, 3) := by decide +kernel
theorem dX8_ahead_50 : decode cX8_ahead 50 = .ok (.aload_n 0, 1) := by decide +kernel
theorem dX8_ahead_51 : decode cX8_ahead 51 = .ok (.getfield 48, 3) := by decide +kernel
theorem dX8_ahead_54 : decode cX8_ahead 54 = .ok (.iload_n 1, 1) := by decide +kernel
theorem dX8_ahead_55 : decode cX8_ahead 55 = .ok (.invokevirtual 214, 3) := by decide +kernel
theorem dX8_ahead_58 : decode cX8_ahead 58 = .ok (.iload_n 2, 1) := by decide +kernel
theorem dX8_ahead_59 : decode cX8_ahead 59 = .ok (.tableswitch 72 0 3 #[29, 47, 52, 62], 29) := by decide +kernel
theorem dX8_ahead_88 : decode cX8_ahead 88 = .ok (.aload_n 0, 1) := by decide +kernel
theorem dX8_ahead_89 : decode cX8_ahead 89 = .ok (.aload_n 0, 1) := by decide +kernel
theorem dX8_ahead_90 : decode cX8_ahead 90 = .ok (.getfield 48, 3) := by decide +kernel
theorem dX8_ahead_93 : decode cX8_ahead 93 = .ok (.invokevirtual 221, 3) := by decide +kernel
theorem dX8_ahead_96 : decode cX8_ahead 96 = .ok (.aload_n 0, 1) := by decide +kernel
theorem dX8_ahead_97 : decode cX8_ahead 97 = .ok (.aload_n 0, 1) := by decide +kernel
theorem dX8_ahead_98 : decode cX8_ahead 98 = .ok (.getfield 41, 3) := by decide +kernel
theorem dX8_ahead_101 : decode cX8_ahead 101 = .ok (.invokevirtual 221, 3) := by decide +kernel
theorem dX8_ahead_104 : decode cX8_ahead 104 = .ok (.isub, 1) := by decide +kernel
theorem dX8_ahead_105 : decode cX8_ahead 105 = .ok (.ireturn, 1) := by decide +kernel
theorem dX8_ahead_106 : decode cX8_ahead 106 = .ok (.aload_n 0, 1) := by decide +kernel
theorem dX8_ahead_107 : decode cX8_ahead 107 = .ok (.invokevirtual 225, 3) := by decide +kernel
theorem dX8_ahead_110 : decode cX8_ahead 110 = .ok (.ireturn, 1) := by decide +kernel
theorem dX8_ahead_111 : decode cX8_ahead 111 = .ok (.aload_n 0, 1) := by decide +kernel
theorem dX8_ahead_112 : decode cX8_ahead 112 = .ok (.getfield 48, 3) := by decide +kernel
theorem dX8_ahead_115 : decode cX8_ahead 115 = .ok (.getfield 132, 3) := by decide +kernel
theorem dX8_ahead_118 : decode cX8_ahead 118 = .ok (.iload_n 3, 1) := by decide +kernel
theorem dX8_ahead_119 : decode cX8_ahead 119 = .ok (.iaload, 1) := by decide +kernel
theorem dX8_ahead_120 : decode cX8_ahead 120 = .ok (.ireturn, 1) := by decide +kernel
theorem dX8_ahead_121 : decode cX8_ahead 121 = .ok (.aload_n 0, 1) := by decide +kernel
theorem dX8_ahead_122 : decode cX8_ahead 122 = .ok (.getfield 48, 3) := by decide +kernel
theorem dX8_ahead_125 : decode cX8_ahead 125 = .ok (.getfield 129, 3) := by decide +kernel
theorem dX8_ahead_128 : decode cX8_ahead 128 = .ok (.iload_n 3, 1) := by decide +kernel
theorem dX8_ahead_129 : decode cX8_ahead 129 = .ok (.iaload, 1) := by decide +kernel
theorem dX8_ahead_130 : decode cX8_ahead 130 = .ok (.ireturn, 1) := by decide +kernel
theorem dX8_ahead_131 : decode cX8_ahead 131 = .ok (.aload_n 0, 1) := by decide +kernel
theorem dX8_ahead_132 : decode cX8_ahead 132 = .ok (.aload_n 0, 1) := by decide +kernel
theorem dX8_ahead_133 : decode cX8_ahead 133 = .ok (.getfield 48, 3) := by decide +kernel
theorem dX8_ahead_136 : decode cX8_ahead 136 = .ok (.invokevirtual 229, 3) := by decide +kernel
theorem dX8_ahead_139 : decode cX8_ahead 139 = .ok (.aload_n 0, 1) := by decide +kernel
theorem dX8_ahead_140 : decode cX8_ahead 140 = .ok (.aload_n 0, 1) := by decide +kernel
theorem dX8_ahead_141 : decode cX8_ahead 141 = .ok (.getfield 41, 3) := by decide +kernel
theorem dX8_ahead_144 : decode cX8_ahead 144 = .ok (.invokevirtual 229, 3) := by decide +kernel
theorem dX8_ahead_147 : decode cX8_ahead 147 = .ok (.isub, 1) := by decide +kernel
theorem dX8_ahead_148 : decode cX8_ahead 148 = .ok (.ireturn, 1) := by decide +kernel
theorem dX8_swoon_0 : decode cX8_swoon 0 = .ok (.aload_n 0, 1) := by decide +kernel
theorem dX8_swoon_1 : decode cX8_swoon 1 = .ok (.iload_n 1, 1) := by decide +kernel
theorem dX8_swoon_2 : decode cX8_swoon 2 = .ok (.invokevirtual 118, 3) := by decide +kernel
theorem dX8_swoon_5 : decode cX8_swoon 5 = .ok (.ifCond .ne 5, 3) := by decide +kernel
theorem dX8_swoon_8 : decode cX8_swoon 8 = .ok (.iconst (-1), 1) := by decide +kernel
theorem dX8_swoon_9 : decode cX8_swoon 9 = .ok (.ireturn, 1) := by decide +kernel
theorem dX8_swoon_10 : decode cX8_swoon 10 = .ok (.aload_n 0, 1) := by decide +kernel
theorem dX8_swoon_11 : decode cX8_swoon 11 = .ok (.invokevirtual 218, 3) := by decide +kernel
theorem dX8_swoon_14 : decode cX8_swoon 14 = .ok (.iconst 0, 1) := by decide +kernel
theorem dX8_swoon_15 : decode cX8_swoon 15 = .ok (.istore_n 2, 1) := by decide +kernel
theorem dX8_swoon_16 : decode cX8_swoon 16 = .ok (.iload_n 2, 1) := by decide +kernel
theorem dX8_swoon_17 : decode cX8_swoon 17 = .ok (.sipush 199, 3) := by decide +kernel
theorem dX8_swoon_20 : decode cX8_swoon 20 = .ok (.if_icmp .gt 34, 3) := by decide +kernel
theorem dX8_swoon_23 : decode cX8_swoon 23 = .ok (.aload_n 0, 1) := by decide +kernel
theorem dX8_swoon_24 : decode cX8_swoon 24 = .ok (.getfield 48, 3) := by decide +kernel
theorem dX8_swoon_27 : decode cX8_swoon 27 = .ok (.iload_n 1, 1) := by decide +kernel
theorem dX8_swoon_28 : decode cX8_swoon 28 = .ok (.invokevirtual 141, 3) := by decide +kernel
theorem dX8_swoon_31 : decode cX8_swoon 31 = .ok (.ifCond .eq 5, 3) := by decide +kernel
theorem dX8_swoon_34 : decode cX8_swoon 34 = .ok (.iload_n 2, 1) := by decide +kernel
theorem dX8_swoon_35 : decode cX8_swoon 35 = .ok (.ireturn, 1) := by decide +kernel
theorem dX8_swoon_36 : decode cX8_swoon 36 = .ok (.aload_n 0, 1) := by decide +kernel
theorem dX8_swoon_37 : decode cX8_swoon 37 = .ok (.getfield 60, 3) := by decide +kernel
theorem dX8_swoon_40 : decode cX8_swoon 40 = .ok (.aload_n 0, 1) := by decide +kernel
theorem dX8_swoon_41 : decode cX8_swoon 41 = .ok (.getfield 48, 3) := by decide +kernel
theorem dX8_swoon_44 : decode cX8_swoon 44 = .ok (.invokevirtual 232, 3) := by decide +kernel
theorem dX8_swoon_47 : decode cX8_swoon 47 = .ok (.pop, 1) := by decide +kernel
theorem dX8_swoon_48 : decode cX8_swoon 48 = .ok (.iinc 2 1, 3) := by decide +kernel
theorem dX8_swoon_51 : decode cX8_swoon 51 = .ok (.goto (-35), 3) := by decide +kernel
theorem dX8_swoon_54 : decode cX8_swoon 54 = .ok (.bipush (-2), 2) := by decide +kernel
theorem dX8_swoon_56 : decode cX8_swoon 56 = .ok (.ireturn, 1) := by decide +kernel
theorem dX8_nextBite_0 : decode cX8_nextBite 0 = .ok (.iload_n 1, 1) := by decide +kernel
theorem dX8_nextBite_1 : decode cX8_nextBite 1 = .ok (.ifCond .lt 8, 3) := by decide +kernel
theorem dX8_nextBite_4 : decode cX8_nextBite 4 = .ok (.iload_n 1, 1) := by decide +kernel
theorem dX8_nextBite_5 : decode cX8_nextBite 5 = .ok (.iconst 1, 1) := by decide +kernel
theorem dX8_nextBite_6 : decode cX8_nextBite 6 = .ok (.if_icmp .le 5, 3) := by decide +kernel
theorem dX8_nextBite_9 : decode cX8_nextBite 9 = .ok (.iconst (-1), 1) := by decide +kernel
theorem dX8_nextBite_10 : decode cX8_nextBite 10 = .ok (.ireturn, 1) := by decide +kernel
theorem dX8_nextBite_11 : decode cX8_nextBite 11 = .ok (.aload_n 0, 1) := by decide +kernel
theorem dX8_nextBite_12 : decode cX8_nextBite 12 = .ok (.invokevirtual 218, 3) := by decide +kernel
theorem dX8_nextBite_15 : decode cX8_nextBite 15 = .ok (.iconst 1, 1) := by decide +kernel
theorem dX8_nextBite_16 : decode cX8_nextBite 16 = .ok (.istore_n 2, 1) := by decide +kernel
theorem dX8_nextBite_17 : decode cX8_nextBite 17 = .ok (.iload_n 2, 1) := by decide +kernel
theorem dX8_nextBite_18 : decode cX8_nextBite 18 = .ok (.sipush 199, 3) := by decide +kernel
theorem dX8_nextBite_21 : decode cX8_nextBite 21 = .ok (.if_icmp .gt 36, 3) := by decide +kernel
theorem dX8_nextBite_24 : decode cX8_nextBite 24 = .ok (.aload_n 0, 1) := by decide +kernel
theorem dX8_nextBite_25 : decode cX8_nextBite 25 = .ok (.getfield 60, 3) := by decide +kernel
theorem dX8_nextBite_28 : decode cX8_nextBite 28 = .ok (.aload_n 0, 1) := by decide +kernel
theorem dX8_nextBite_29 : decode cX8_nextBite 29 = .ok (.getfield 48, 3) := by decide +kernel
theorem dX8_nextBite_32 : decode cX8_nextBite 32 = .ok (.invokevirtual 232, 3) := by decide +kernel
theorem dX8_nextBite_35 : decode cX8_nextBite 35 = .ok (.istore_n 3, 1) := by decide +kernel
theorem dX8_nextBite_36 : decode cX8_nextBite 36 = .ok (.iload_n 3, 1) := by decide +kernel
theorem dX8_nextBite_37 : decode cX8_nextBite 37 = .ok (.iconst (-1), 1) := by decide +kernel
theorem dX8_nextBite_38 : decode cX8_nextBite 38 = .ok (.if_icmp .eq 13, 3) := by decide +kernel
theorem dX8_nextBite_41 : decode cX8_nextBite 41 = .ok (.iload_n 1, 1) := by decide +kernel
theorem dX8_nextBite_42 : decode cX8_nextBite 42 = .ok (.ifCond .ne 7, 3) := by decide +kernel
theorem dX8_nextBite_45 : decode cX8_nextBite 45 = .ok (.iload_n 2, 1) := by decide +kernel
theorem dX8_nextBite_46 : decode cX8_nextBite 46 = .ok (.goto 4, 3) := by decide +kernel
theorem dX8_nextBite_49 : decode cX8_nextBite 49 = .ok (.iload_n 3, 1) := by decide +kernel
theorem dX8_nextBite_50 : decode cX8_nextBite 50 = .ok (.ireturn, 1) := by decide +kernel
theorem dX8_nextBite_51 : decode cX8_nextBite 51 = .ok (.iinc 2 1, 3) := by decide +kernel
theorem dX8_nextBite_54 : decode cX8_nextBite 54 = .ok (.goto (-37), 3) := by decide +kernel
theorem dX8_nextBite_57 : decode cX8_nextBite 57 = .ok (.bipush (-2), 2) := by decide +kernel
theorem dX8_nextBite_59 : decode cX8_nextBite 59 = .ok (.ireturn, 1) := by decide +kernel
theorem dX8_table_0 : decode cX8_table 0 = .ok (.iload_n 1, 1) := by decide +kernel
theorem dX8_table_1 : decode cX8_table 1 = .ok (.ifCond .lt 9, 3) := by decide +kernel
theorem dX8_table_4 : decode cX8_table 4 = .ok (.iload_n 1, 1) := by decide +kernel
theorem dX8_table_5 : decode cX8_table 5 = .ok (.bipush 6, 2) := by decide +kernel
theorem dX8_table_7 : decode cX8_table 7 = .ok (.if_icmp .le 5, 3) := by decide +kernel
theorem dX8_table_10 : decode cX8_table 10 = .ok (.iconst (-1), 1) := by decide +kernel
theorem dX8_table_11 : decode cX8_table 11 = .ok (.ireturn, 1) := by decide +kernel
theorem dX8_table_12 : decode cX8_table 12 = .ok (.iload_n 1, 1) := by decide +kernel
theorem dX8_table_13 : decode cX8_table 13 = .ok (.bipush 6, 2) := by decide +kernel
theorem dX8_table_15 : decode cX8_table 15 = .ok (.if_icmp .ge 17, 3) := by decide +kernel
theorem dX8_table_18 : decode cX8_table 18 = .ok (.iload_n 1, 1) := by decide +kernel
theorem dX8_table_19 : decode cX8_table 19 = .ok (.aload_n 0, 1) := by decide +kernel
theorem dX8_table_20 : decode cX8_table 20 = .ok (.getfield 22, 3) := by decide +kernel
theorem dX8_table_23 : decode cX8_table 23 = .ok (.getfield 235, 3) := by decide +kernel
theorem dX8_table_26 : decode cX8_table 26 = .ok (.if_icmp .lt 6, 3) := by decide +kernel
theorem dX8_table_29 : decode cX8_table 29 = .ok (.bipush (-2), 2) := by decide +kernel
theorem dX8_table_31 : decode cX8_table 31 = .ok (.ireturn, 1) := by decide +kernel
theorem dX8_table_32 : decode cX8_table 32 = .ok (.aload_n 0, 1) := by decide +kernel
theorem dX8_table_33 : decode cX8_table 33 = .ok (.invokevirtual 238, 3) := by decide +kernel
theorem dX8_table_36 : decode cX8_table 36 = .ok (.bipush 7, 2) := by decide +kernel
theorem dX8_table_38 : decode cX8_table 38 = .ok (.istore_n 2, 1) := by decide +kernel
theorem dX8_table_39 : decode cX8_table 39 = .ok (.iconst 1, 1) := by decide +kernel
theorem dX8_table_40 : decode cX8_table 40 = .ok (.istore_n 3, 1) := by decide +kernel
theorem dX8_table_41 : decode cX8_table 41 = .ok (.iconst 0, 1) := by decide +kernel
theorem dX8_table_42 : decode cX8_table 42 = .ok (.istore 4, 2) := by decide +kernel
theorem dX8_table_44 : decode cX8_table 44 = .ok (.iload 4, 2) := by decide +kernel
theorem dX8_table_46 : decode cX8_table 46 = .ok (.bipush 120, 2) := by decide +kernel
theorem dX8_table_48 : decode cX8_table 48 = .ok (.if_icmp .ge 49, 3) := by decide +kernel
theorem dX8_table_51 : decode cX8_table 51 = .ok (.iload_n 3, 1) := by decide +kernel
theorem dX8_table_52 : decode cX8_table 52 = .ok (.ifCond .eq 45, 3) := by decide +kernel
theorem dX8_table_55 : decode cX8_table 55 = .ok (.aload_n 0, 1) := by decide +kernel
theorem dX8_table_56 : decode cX8_table 56 = .ok (.iload_n 2, 1) := by decide +kernel
theorem dX8_table_57 : decode cX8_table 57 = .ok (.invokevirtual 241, 3) := by decide +kernel
theorem dX8_table_60 : decode cX8_table 60 = .ok (.istore 5, 2) := by decide +kernel
theorem dX8_table_62 : decode cX8_table 62 = .ok (.iload 5, 2) := by decide +kernel
theorem dX8_table_64 : decode cX8_table 64 = .ok (.iload_n 2, 1) := by decide +kernel
theorem dX8_table_65 : decode cX8_table 65 = .ok (.if_icmp .ge 21, 3) := by decide +kernel
theorem dX8_table_68 : decode cX8_table 68 = .ok (.iload 5, 2) := by decide +kernel
theorem dX8_table_70 : decode cX8_table 70 = .ok (.istore_n 2, 1) := by decide +kernel
theorem dX8_table_71 : decode cX8_table 71 = .ok (.aload_n 0, 1) := by decide +kernel
theorem dX8_table_72 : decode cX8_table 72 = .ok (.getfield 78, 3) := by decide +kernel
theorem dX8_table_75 : decode cX8_table 75 = .ok (.iconst 0, 1) := by decide +kernel
theorem dX8_table_76 : decode cX8_table 76 = .ok (.aload_n 0, 1) := by decide +kernel
theorem dX8_table_77 : decode cX8_table 77 = .ok (.getfield 82, 3) := by decide +kernel
theorem dX8_table_80 : decode cX8_table 80 = .ok (.iconst 0, 1) := by decide +kernel
theorem dX8_table_81 : decode cX8_table 81 = .ok (.bipush 6, 2) := by decide +kernel
theorem dX8_table_83 : decode cX8_table 83 = .ok (.invokestatic 244, 3) := by decide +kernel
theorem dX8_table_86 : decode cX8_table 86 = .ok (.aload_n 0, 1) := by decide +kernel
theorem dX8_table_87 : decode cX8_table 87 = .ok (.invokevirtual 250, 3) := by decide +kernel
theorem dX8_table_90 : decode cX8_table 90 = .ok (.istore_n 3, 1) := by decide +kernel
theorem dX8_table_91 : decode cX8_table 91 = .ok (.iinc 4 1, 3) := by decide +kernel
theorem dX8_table_94 : decode cX8_table 94 = .ok (.goto (-50), 3) := by decide +kernel
theorem dX8_table_97 : decode cX8_table 97 = .ok (.iload_n 1, 1) := by decide +kernel
theorem dX8_table_98 : decode cX8_table 98 = .ok (.bipush 6, 2) := by decide +kernel
theorem dX8_table_100 : decode cX8_table 100 = .ok (.if_icmp .ne 7, 3) := by decide +kernel
theorem dX8_table_103 : decode cX8_table 103 = .ok (.iload_n 2, 1) := by decide +kernel
theorem dX8_table_104 : decode cX8_table 104 = .ok (.goto 9, 3) := by decide +kernel
theorem dX8_table_107 : decode cX8_table 107 = .ok (.aload_n 0, 1) := by decide +kernel
theorem dX8_table_108 : decode cX8_table 108 = .ok (.getfield 82, 3) := by decide +kernel
theorem dX8_table_111 : decode cX8_table 111 = .ok (.iload_n 1, 1) := by decide +kernel
theorem dX8_table_112 : decode cX8_table 112 = .ok (.iaload, 1) := by decide +kernel
theorem dX8_table_113 : decode cX8_table 113 = .ok (.ireturn, 1) := by decide +kernel
theorem dX8_firstSeating_0 : decode cX8_firstSeating 0 = .ok (.iconst 1, 1) := by decide +kernel
theorem dX8_firstSeating_1 : decode cX8_firstSeating 1 = .ok (.istore_n 1, 1) := by decide +kernel
theorem dX8_firstSeating_2 : decode cX8_firstSeating 2 = .ok (.iconst 0, 1) := by decide +kernel
theorem dX8_firstSeating_3 : decode cX8_firstSeating 3 = .ok (.istore_n 2, 1) := by decide +kernel
theorem dX8_firstSeating_4 : decode cX8_firstSeating 4 = .ok (.iload_n 2, 1) := by decide +kernel
theorem dX8_firstSeating_5 : decode cX8_firstSeating 5 = .ok (.aload_n 0, 1) := by decide +kernel
theorem dX8_firstSeating_6 : decode cX8_firstSeating 6 = .ok (.getfield 22, 3) := by decide +kernel
theorem dX8_firstSeating_9 : decode cX8_firstSeating 9 = .ok (.getfield 235, 3) := by decide +kernel
theorem dX8_firstSeating_12 : decode cX8_firstSeating 12 = .ok (.if_icmp .ge 47, 3) := by decide +kernel
theorem dX8_firstSeating_15 : decode cX8_firstSeating 15 = .ok (.aload_n 0, 1) := by decide +kernel
theorem dX8_firstSeating_16 : decode cX8_firstSeating 16 = .ok (.getfield 41, 3) := by decide +kernel
theorem dX8_firstSeating_19 : decode cX8_firstSeating 19 = .ok (.getfield 138, 3) := by decide +kernel
theorem dX8_firstSeating_22 : decode cX8_firstSeating 22 = .ok (.iload_n 2, 1) := by decide +kernel
theorem dX8_firstSeating_23 : decode cX8_firstSeating 23 = .ok (.iaload, 1) := by decide +kernel
theorem dX8_firstSeating_24 : decode cX8_firstSeating 24 = .ok (.ifCond .ne 13, 3) := by decide +kernel
theorem dX8_firstSeating_27 : decode cX8_firstSeating 27 = .ok (.aload_n 0, 1) := by decide +kernel
theorem dX8_firstSeating_28 : decode cX8_firstSeating 28 = .ok (.getfield 78, 3) := by decide +kernel
theorem dX8_firstSeating_31 : decode cX8_firstSeating 31 = .ok (.iconst 0, 1) := by decide +kernel
theorem dX8_firstSeating_32 : decode cX8_firstSeating 32 = .ok (.iload_n 2, 1) := by decide +kernel
theorem dX8_firstSeating_33 : decode cX8_firstSeating 33 = .ok (.iastore, 1) := by decide +kernel
theorem dX8_firstSeating_34 : decode cX8_firstSeating 34 = .ok (.goto 19, 3) := by decide +kernel
theorem dX8_firstSeating_37 : decode cX8_firstSeating 37 = .ok (.iload_n 1, 1) := by decide +kernel
theorem dX8_firstSeating_38 : decode cX8_firstSeating 38 = .ok (.bipush 6, 2) := by decide +kernel
theorem dX8_firstSeating_40 : decode cX8_firstSeating 40 = .ok (.if_icmp .ge 13, 3) := by decide +kernel
theorem dX8_firstSeating_43 : decode cX8_firstSeating 43 = .ok (.aload_n 0, 1) := by decide +kernel
theorem dX8_firstSeating_44 : decode cX8_firstSeating 44 = .ok (.getfield 78, 3) := by decide +kernel
theorem dX8_firstSeating_47 : decode cX8_firstSeating 47 = .ok (.iload_n 1, 1) := by decide +kernel
theorem dX8_firstSeating_48 : decode cX8_firstSeating 48 = .ok (.iload_n 2, 1) := by decide +kernel
theorem dX8_firstSeating_49 : decode cX8_firstSeating 49 = .ok (.iastore, 1) := by decide +kernel
theorem dX8_firstSeating_50 : decode cX8_firstSeating 50 = .ok (.iinc 1 1, 3) := by decide +kernel
theorem dX8_firstSeating_53 : decode cX8_firstSeating 53 = .ok (.iinc 2 1, 3) := by decide +kernel
theorem dX8_firstSeating_56 : decode cX8_firstSeating 56 = .ok (.goto (-52), 3) := by decide +kernel
theorem dX8_firstSeating_59 : decode cX8_firstSeating 59 = .ok (.return_, 1) := by decide +kernel
theorem dX8_fallenBySeating_0 : decode cX8_fallenBySeating 0 = .ok (.aload_n 0, 1) := by decide +kernel
theorem dX8_fallenBySeating_1 : decode cX8_fallenBySeating 1 = .ok (.invokevirtual 218, 3) := by decide +kernel
theorem dX8_fallenBySeating_4 : decode cX8_fallenBySeating 4 = .ok (.iconst 0, 1) := by decide +kernel
theorem dX8_fallenBySeating_5 : decode cX8_fallenBySeating 5 = .ok (.istore_n 2, 1) := by decide +kernel
theorem dX8_fallenBySeating_6 : decode cX8_fallenBySeating 6 = .ok (.iload_n 2, 1) := by decide +kernel
theorem dX8_fallenBySeating_7 : decode cX8_fallenBySeating 7 = .ok (.aload_n 0, 1) := by decide +kernel
theorem dX8_fallenBySeating_8 : decode cX8_fallenBySeating 8 = .ok (.getfield 22, 3) := by decide +kernel
theorem dX8_fallenBySeating_11 : decode cX8_fallenBySeating 11 = .ok (.getfield 235, 3) := by decide +kernel
theorem dX8_fallenBySeating_14 : decode cX8_fallenBySeating 14 = .ok (.if_icmp .ge 24, 3) := by decide +kernel
theorem dX8_fallenBySeating_17 : decode cX8_fallenBySeating 17 = .ok (.aload_n 0, 1) := by decide +kernel
theorem dX8_fallenBySeating_18 : decode cX8_fallenBySeating 18 = .ok (.getfield 48, 3) := by decide +kernel
theorem dX8_fallenBySeating_21 : decode cX8_fallenBySeating 21 = .ok (.getfield 138, 3) := by decide +kernel
theorem dX8_fallenBySeating_24 : decode cX8_fallenBySeating 24 = .ok (.aload_n 0, 1) := by decide +kernel
theorem dX8_fallenBySeating_25 : decode cX8_fallenBySeating 25 = .ok (.getfield 78, 3) := by decide +kernel
theorem dX8_fallenBySeating_28 : decode cX8_fallenBySeating 28 = .ok (.iload_n 2, 1) := by decide +kernel
theorem dX8_fallenBySeating_29 : decode cX8_fallenBySeating 29 = .ok (.iaload, 1) := by decide +kernel
theorem dX8_fallenBySeating_30 : decode cX8_fallenBySeating 30 = .ok (.iload_n 2, 1) := by decide +kernel
theorem dX8_fallenBySeating_31 : decode cX8_fallenBySeating 31 = .ok (.iastore, 1) := by decide +kernel
theorem dX8_fallenBySeating_32 : decode cX8_fallenBySeating 32 = .ok (.iinc 2 1, 3) := by decide +kernel
theorem dX8_fallenBySeating_35 : decode cX8_fallenBySeating 35 = .ok (.goto (-29), 3) := by decide +kernel
theorem dX8_fallenBySeating_38 : decode cX8_fallenBySeating 38 = .ok (.iconst 0, 1) := by decide +kernel
theorem dX8_fallenBySeating_39 : decode cX8_fallenBySeating 39 = .ok (.istore_n 2, 1) := by decide +kernel
theorem dX8_fallenBySeating_40 : decode cX8_fallenBySeating 40 = .ok (.iconst 0, 1) := by decide +kernel
theorem dX8_fallenBySeating_41 : decode cX8_fallenBySeating 41 = .ok (.istore_n 3, 1) := by decide +kernel
theorem dX8_fallenBySeating_42 : decode cX8_fallenBySeating 42 = .ok (.iload_n 3, 1) := by decide +kernel
theorem dX8_fallenBySeating_43 : decode cX8_fallenBySeating 43 = .ok (.bipush 40, 2) := by decide +kernel
theorem dX8_fallenBySeating_45 : decode cX8_fallenBySeating 45 = .ok (.if_icmp .ge 31, 3) := by decide +kernel
theorem dX8_fallenBySeating_48 : decode cX8_fallenBySeating 48 = .ok (.iload_n 2, 1) := by decide +kernel
theorem dX8_fallenBySeating_49 : decode cX8_fallenBySeating 49 = .ok (.iload_n 1, 1) := by decide +kernel
theorem dX8_fallenBySeating_50 : decode cX8_fallenBySeating 50 = .ok (.if_icmp .ge 26, 3) := by decide +kernel
theorem dX8_fallenBySeating_53 : decode cX8_fallenBySeating 53 = .ok (.aload_n 0, 1) := by decide +kernel
theorem dX8_fallenBySeating_54 : decode cX8_fallenBySeating 54 = .ok (.getfield 60, 3) := by decide +kernel
theorem dX8_fallenBySeating_57 : decode cX8_fallenBySeating 57 = .ok (.aload_n 0, 1) := by decide +kernel
theorem dX8_fallenBySeating_58 : decode cX8_fallenBySeating 58 = .ok (.getfield 48, 3) := by decide +kernel
theorem dX8_fallenBySeating_61 : decode cX8_fallenBySeating 61 = .ok (.invokevirtual 232, 3) := by decide +kernel
theorem dX8_fallenBySeating_64 : decode cX8_fallenBySeating 64 = .ok (.pop, 1) := by decide +kernel
theorem dX8_fallenBySeating_65 : decode cX8_fallenBySeating 65 = .ok (.aload_n 0, 1) := by decide +kernel
theorem dX8_fallenBySeating_66 : decode cX8_fallenBySeating 66 = .ok (.invokevirtual 225, 3) := by decide +kernel
theorem dX8_fallenBySeating_69 : decode cX8_fallenBySeating 69 = .ok (.istore_n 2, 1) := by decide +kernel
theorem dX8_fallenBySeating_70 : decode cX8_fallenBySeating 70 = .ok (.iinc 3 1, 3) := by decide +kernel
theorem dX8_fallenBySeating_73 : decode cX8_fallenBySeating 73 = .ok (.goto (-31), 3) := by decide +kernel
theorem dX8_fallenBySeating_76 : decode cX8_fallenBySeating 76 = .ok (.iload_n 2, 1) := by decide +kernel
theorem dX8_fallenBySeating_77 : decode cX8_fallenBySeating 77 = .ok (.ireturn, 1) := by decide +kernel
theorem dX8_nextSeating_0 : decode cX8_nextSeating 0 = .ok (.aload_n 0, 1) := by decide +kernel
theorem dX8_nextSeating_1 : decode cX8_nextSeating 1 = .ok (.getfield 22, 3) := by decide +kernel
theorem dX8_nextSeating_4 : decode cX8_nextSeating 4 = .ok (.getfield 235, 3) := by decide +kernel
theorem dX8_nextSeating_7 : decode cX8_nextSeating 7 = .ok (.iconst 2, 1) := by decide +kernel
theorem dX8_nextSeating_8 : decode cX8_nextSeating 8 = .ok (.isub, 1) := by decide +kernel
theorem dX8_nextSeating_9 : decode cX8_nextSeating 9 = .ok (.istore_n 1, 1) := by decide +kernel
theorem dX8_nextSeating_10 : decode cX8_nextSeating 10 = .ok (.iload_n 1, 1) := by decide +kernel
theorem dX8_nextSeating_11 : decode cX8_nextSeating 11 = .ok (.iconst 1, 1) := by decide +kernel
theorem dX8_nextSeating_12 : decode cX8_nextSeating 12 = .ok (.if_icmp .lt 26, 3) := by decide +kernel
theorem dX8_nextSeating_15 : decode cX8_nextSeating 15 = .ok (.aload_n 0, 1) := by decide +kernel
theorem dX8_nextSeating_16 : decode cX8_nextSeating 16 = .ok (.getfield 78, 3) := by decide +kernel
theorem dX8_nextSeating_19 : decode cX8_nextSeating 19 = .ok (.iload_n 1, 1) := by decide +kernel
theorem dX8_nextSeating_20 : decode cX8_nextSeating 20 = .ok (.iaload, 1) := by decide +kernel
theorem dX8_nextSeating_21 : decode cX8_nextSeating 21 = .ok (.aload_n 0, 1) := by decide +kernel
theorem dX8_nextSeating_22 : decode cX8_nextSeating 22 = .ok (.getfield 78, 3) := by decide +kernel
theorem dX8_nextSeating_25 : decode cX8_nextSeating 25 = .ok (.iload_n 1, 1) := by decide +kernel
theorem dX8_nextSeating_26 : decode cX8_nextSeating 26 = .ok (.iconst 1, 1) := by decide +kernel
theorem dX8_nextSeating_27 : decode cX8_nextSeating 27 = .ok (.iadd, 1) := by decide +kernel
theorem dX8_nextSeating_28 : decode cX8_nextSeating 28 = .ok (.iaload, 1) := by decide +kernel
theorem dX8_nextSeating_29 : decode cX8_nextSeating 29 = .ok (.if_icmp .le 9, 3) := by decide +kernel
theorem dX8_nextSeating_32 : decode cX8_nextSeating 32 = .ok (.iinc 1 (-1), 3) := by decide +kernel
theorem dX8_nextSeating_35 : decode cX8_nextSeating 35 = .ok (.goto (-25), 3) := by decide +kernel
theorem dX8_nextSeating_38 : decode cX8_nextSeating 38 = .ok (.iload_n 1, 1) := by decide +kernel
theorem dX8_nextSeating_39 : decode cX8_nextSeating 39 = .ok (.iconst 1, 1) := by decide +kernel
theorem dX8_nextSeating_40 : decode cX8_nextSeating 40 = .ok (.if_icmp .ge 5, 3) := by decide +kernel
theorem dX8_nextSeating_43 : decode cX8_nextSeating 43 = .ok (.iconst 0, 1) := by decide +kernel
theorem dX8_nextSeating_44 : decode cX8_nextSeating 44 = .ok (.ireturn, 1) := by decide +kernel
theorem dX8_nextSeating_45 : decode cX8_nextSeating 45 = .ok (.aload_n 0, 1) := by decide +kernel
theorem dX8_nextSeating_46 : decode cX8_nextSeating 46 = .ok (.getfield 22, 3) := by decide +kernel
theorem dX8_nextSeating_49 : decode cX8_nextSeating 49 = .ok (.getfield 235, 3) := by decide +kernel
theorem dX8_nextSeating_52 : decode cX8_nextSeating 52 = .ok (.iconst 1, 1) := by decide +kernel
theorem dX8_nextSeating_53 : decode cX8_nextSeating 53 = .ok (.isub, 1) := by decide +kernel
theorem dX8_nextSeating_54 : decode cX8_nextSeating 54 = .ok (.istore_n 2, 1) := by decide +kernel
theorem dX8_nextSeating_55 : decode cX8_nextSeating 55 = .ok (.iload_n 2, 1) := by decide +kernel
theorem dX8_nextSeating_56 : decode cX8_nextSeating 56 = .ok (.iload_n 1, 1) := by decide +kernel
theorem dX8_nextSeating_57 : decode cX8_nextSeating 57 = .ok (.if_icmp .le 24, 3) := by decide +kernel
theorem dX8_nextSeating_60 : decode cX8_nextSeating 60 = .ok (.aload_n 0, 1) := by decide +kernel
theorem dX8_nextSeating_61 : decode cX8_nextSeating 61 = .ok (.getfield 78, 3) := by decide +kernel
theorem dX8_nextSeating_64 : decode cX8_nextSeating 64 = .ok (.iload_n 2, 1) := by decide +kernel
theorem dX8_nextSeating_65 : decode cX8_nextSeating 65 = .ok (.iaload, 1) := by decide +kernel
theorem dX8_nextSeating_66 : decode cX8_nextSeating 66 = .ok (.aload_n 0, 1) := by decide +kernel
theorem dX8_nextSeating_67 : decode cX8_nextSeating 67 = .ok (.getfield 78, 3) := by decide +kernel
theorem dX8_nextSeating_70 : decode cX8_nextSeating 70 = .ok (.iload_n 1, 1) := by decide +kernel
theorem dX8_nextSeating_71 : decode cX8_nextSeating 71 = .ok (.iaload, 1) := by decide +kernel
theorem dX8_nextSeating_72 : decode cX8_nextSeating 72 = .ok (.if_icmp .ge 9, 3) := by decide +kernel
theorem dX8_nextSeating_75 : decode cX8_nextSeating 75 = .ok (.iinc 2 (-1), 3) := by decide +kernel
theorem dX8_nextSeating_78 : decode cX8_nextSeating 78 = .ok (.goto (-23), 3) := by decide +kernel
theorem dX8_nextSeating_81 : decode cX8_nextSeating 81 = .ok (.aload_n 0, 1) := by decide +kernel
theorem dX8_nextSeating_82 : decode cX8_nextSeating 82 = .ok (.iload_n 1, 1) := by decide +kernel
theorem dX8_nextSeating_83 : decode cX8_nextSeating 83 = .ok (.iload_n 2, 1) := by decide +kernel
theorem dX8_nextSeating_84 : decode cX8_nextSeating 84 = .ok (.invokevirtual 254, 3) := by decide +kernel
theorem dX8_nextSeating_87 : decode cX8_nextSeating 87 = .ok (.iload_n 1, 1) := by decide +kernel
theorem dX8_nextSeating_88 : decode cX8_nextSeating 88 = .ok (.iconst 1, 1) := by decide +kernel
theorem dX8_nextSeating_89 : decode cX8_nextSeating 89 = .ok (.iadd, 1) := by decide +kernel
theorem dX8_nextSeating_90 : decode cX8_nextSeating 90 = .ok (.istore_n 3, 1) := by decide +kernel
theorem dX8_nextSeating_91 : decode cX8_nextSeating 91 = .ok (.aload_n 0, 1) := by decide +kernel
theorem dX8_nextSeating_92 : decode cX8_nextSeating 92 = .ok (.getfield 22, 3) := by decide +kernel
theorem dX8_nextSeating_95 : decode cX8_nextSeating 95 = .ok (.getfield 235, 3) := by decide +kernel
theorem dX8_nextSeating_98 : decode cX8_nextSeating 98 = .ok (.iconst 1, 1) := by decide +kernel
theorem dX8_nextSeating_99 : decode cX8_nextSeating 99 = .ok (.isub, 1) := by decide +kernel
theorem dX8_nextSeating_100 : decode cX8_nextSeating 100 = .ok (.istore 4, 2) := by decide +kernel
theorem dX8_nextSeating_102 : decode cX8_nextSeating 102 = .ok (.iload_n 3, 1) := by decide +kernel
theorem dX8_nextSeating_103 : decode cX8_nextSeating 103 = .ok (.iload 4, 2) := by decide +kernel
theorem dX8_nextSeating_105 : decode cX8_nextSeating 105 = .ok (.if_icmp .ge 19, 3) := by decide +kernel
theorem dX8_nextSeating_108 : decode cX8_nextSeating 108 = .ok (.aload_n 0, 1) := by decide +kernel
theorem dX8_nextSeating_109 : decode cX8_nextSeating 109 = .ok (.iload_n 3, 1) := by decide +kernel
theorem dX8_nextSeating_110 : decode cX8_nextSeating 110 = .ok (.iload 4, 2) := by decide +kernel
theorem dX8_nextSeating_112 : decode cX8_nextSeating 112 = .ok (.invokevirtual 254, 3) := by decide +kernel
theorem dX8_nextSeating_115 : decode cX8_nextSeating 115 = .ok (.iinc 3 1, 3) := by decide +kernel
theorem dX8_nextSeating_118 : decode cX8_nextSeating 118 = .ok (.iinc 4 (-1), 3) := by decide +kernel
theorem dX8_nextSeating_121 : decode cX8_nextSeating 121 = .ok (.goto (-19), 3) := by decide +kernel
theorem dX8_nextSeating_124 : decode cX8_nextSeating 124 = .ok (.iconst 1, 1) := by decide +kernel
theorem dX8_nextSeating_125 : decode cX8_nextSeating 125 = .ok (.ireturn, 1) := by decide +kernel
theorem dX8_exchange_0 : decode cX8_exchange 0 = .ok (.aload_n 0, 1) := by decide +kernel
theorem dX8_exchange_1 : decode cX8_exchange 1 = .ok (.getfield 78, 3) := by decide +kernel
theorem dX8_exchange_4 : decode cX8_exchange 4 = .ok (.iload_n 1, 1) := by decide +kernel
theorem dX8_exchange_5 : decode cX8_exchange 5 = .ok (.iaload, 1) := by decide +kernel
theorem dX8_exchange_6 : decode cX8_exchange 6 = .ok (.istore_n 3, 1) := by decide +kernel
theorem dX8_exchange_7 : decode cX8_exchange 7 = .ok (.aload_n 0, 1) := by decide +kernel
theorem dX8_exchange_8 : decode cX8_exchange 8 = .ok (.getfield 78, 3) := by decide +kernel
theorem dX8_exchange_11 : decode cX8_exchange 11 = .ok (.iload_n 1, 1) := by decide +kernel
theorem dX8_exchange_12 : decode cX8_exchange 12 = .ok (.aload_n 0, 1) := by decide +kernel
theorem dX8_exchange_13 : decode cX8_exchange 13 = .ok (.getfield 78, 3) := by decide +kernel
theorem dX8_exchange_16 : decode cX8_exchange 16 = .ok (.iload_n 2, 1) := by decide +kernel
theorem dX8_exchange_17 : decode cX8_exchange 17 = .ok (.iaload, 1) := by decide +kernel
theorem dX8_exchange_18 : decode cX8_exchange 18 = .ok (.iastore, 1) := by decide +kernel
theorem dX8_exchange_19 : decode cX8_exchange 19 = .ok (.aload_n 0, 1) := by decide +kernel
theorem dX8_exchange_20 : decode cX8_exchange 20 = .ok (.getfield 78, 3) := by decide +kernel
theorem dX8_exchange_23 : decode cX8_exchange 23 = .ok (.iload_n 2, 1) := by decide +kernel
theorem dX8_exchange_24 : decode cX8_exchange 24 = .ok (.iload_n 3, 1) := by decide +kernel
theorem dX8_exchange_25 : decode cX8_exchange 25 = .ok (.iastore, 1) := by decide +kernel
theorem dX8_exchange_26 : decode cX8_exchange 26 = .ok (.return_, 1) := by decide +kernel
theorem dX8_hold_0 : decode cX8_hold 0 = .ok (.aload_n 0, 1) := by decide +kernel
theorem dX8_hold_1 : decode cX8_hold 1 = .ok (.invokevirtual 218, 3) := by decide +kernel
theorem dX8_hold_4 : decode cX8_hold 4 = .ok (.iconst 0, 1) := by decide +kernel
theorem dX8_hold_5 : decode cX8_hold 5 = .ok (.istore_n 1, 1) := by decide +kernel
theorem dX8_hold_6 : decode cX8_hold 6 = .ok (.iload_n 1, 1) := by decide +kernel
theorem dX8_hold_7 : decode cX8_hold 7 = .ok (.sipush 999, 3) := by decide +kernel
theorem dX8_hold_10 : decode cX8_hold 10 = .ok (.if_icmp .gt 37, 3) := by decide +kernel
theorem dX8_hold_13 : decode cX8_hold 13 = .ok (.aload_n 0, 1) := by decide +kernel
theorem dX8_hold_14 : decode cX8_hold 14 = .ok (.getfield 60, 3) := by decide +kernel
theorem dX8_hold_17 : decode cX8_hold 17 = .ok (.aload_n 0, 1) := by decide +kernel
theorem dX8_hold_18 : decode cX8_hold 18 = .ok (.getfield 48, 3) := by decide +kernel
theorem dX8_hold_21 : decode cX8_hold 21 = .ok (.invokevirtual 257, 3) := by decide +kernel
theorem dX8_hold_24 : decode cX8_hold 24 = .ok (.ifCond .ne 5, 3) := by decide +kernel
theorem dX8_hold_27 : decode cX8_hold 27 = .ok (.iload_n 1, 1) := by decide +kernel
theorem dX8_hold_28 : decode cX8_hold 28 = .ok (.ireturn, 1) := by decide +kernel
theorem dX8_hold_29 : decode cX8_hold 29 = .ok (.aload_n 0, 1) := by decide +kernel
theorem dX8_hold_30 : decode cX8_hold 30 = .ok (.getfield 60, 3) := by decide +kernel
theorem dX8_hold_33 : decode cX8_hold 33 = .ok (.aload_n 0, 1) := by decide +kernel
theorem dX8_hold_34 : decode cX8_hold 34 = .ok (.getfield 48, 3) := by decide +kernel
theorem dX8_hold_37 : decode cX8_hold 37 = .ok (.invokevirtual 232, 3) := by decide +kernel
theorem dX8_hold_40 : decode cX8_hold 40 = .ok (.pop, 1) := by decide +kernel
theorem dX8_hold_41 : decode cX8_hold 41 = .ok (.iinc 1 1, 3) := by decide +kernel
theorem dX8_hold_44 : decode cX8_hold 44 = .ok (.goto (-38), 3) := by decide +kernel
theorem dX8_hold_47 : decode cX8_hold 47 = .ok (.bipush (-2), 2) := by decide +kernel
theorem dX8_hold_49 : decode cX8_hold 49 = .ok (.ireturn, 1) := by decide +kernel
theorem dX8_calm_0 : decode cX8_calm 0 = .ok (.bipush (-2), 2) := by decide +kernel
theorem dX8_calm_2 : decode cX8_calm 2 = .ok (.istore_n 1, 1) := by decide +kernel
theorem dX8_calm_3 : decode cX8_calm 3 = .ok (.aload_n 0, 1) := by decide +kernel
theorem dX8_calm_4 : decode cX8_calm 4 = .ok (.invokevirtual 144, 3) := by decide +kernel
theorem dX8_calm_7 : decode cX8_calm 7 = .ok (.aload_n 0, 1) := by decide +kernel
theorem dX8_calm_8 : decode cX8_calm 8 = .ok (.getfield 41, 3) := by decide +kernel
theorem dX8_calm_11 : decode cX8_calm 11 = .ok (.invokevirtual 257, 3) := by decide +kernel
theorem dX8_calm_14 : decode cX8_calm 14 = .ok (.istore_n 2, 1) := by decide +kernel
theorem dX8_calm_15 : decode cX8_calm 15 = .ok (.iconst 0, 1) := by decide +kernel
theorem dX8_calm_16 : decode cX8_calm 16 = .ok (.istore_n 3, 1) := by decide +kernel
theorem dX8_calm_17 : decode cX8_calm 17 = .ok (.iload_n 3, 1) := by decide +kernel
theorem dX8_calm_18 : decode cX8_calm 18 = .ok (.iconst 1, 1) := by decide +kernel
theorem dX8_calm_19 : decode cX8_calm 19 = .ok (.aload_n 0, 1) := by decide +kernel
theorem dX8_calm_20 : decode cX8_calm 20 = .ok (.getfield 22, 3) := by decide +kernel
theorem dX8_calm_23 : decode cX8_calm 23 = .ok (.getfield 235, 3) := by decide +kernel
theorem dX8_calm_26 : decode cX8_calm 26 = .ok (.ishl, 1) := by decide +kernel
theorem dX8_calm_27 : decode cX8_calm 27 = .ok (.if_icmp .ge 47, 3) := by decide +kernel
theorem dX8_calm_30 : decode cX8_calm 30 = .ok (.iload_n 3, 1) := by decide +kernel
theorem dX8_calm_31 : decode cX8_calm 31 = .ok (.iload_n 2, 1) := by decide +kernel
theorem dX8_calm_32 : decode cX8_calm 32 = .ok (.iconst (-1), 1) := by decide +kernel
theorem dX8_calm_33 : decode cX8_calm 33 = .ok (.ixor, 1) := by decide +kernel
theorem dX8_calm_34 : decode cX8_calm 34 = .ok (.iand, 1) := by decide +kernel
theorem dX8_calm_35 : decode cX8_calm 35 = .ok (.ifCond .ne 7, 3) := by decide +kernel
theorem dX8_calm_38 : decode cX8_calm 38 = .ok (.iconst 1, 1) := by decide +kernel
theorem dX8_calm_39 : decode cX8_calm 39 = .ok (.goto 4, 3) := by decide +kernel
theorem dX8_calm_42 : decode cX8_calm 42 = .ok (.iconst 0, 1) := by decide +kernel
theorem dX8_calm_43 : decode cX8_calm 43 = .ok (.istore 4, 2) := by decide +kernel
theorem dX8_calm_45 : decode cX8_calm 45 = .ok (.iload 4, 2) := by decide +kernel
theorem dX8_calm_47 : decode cX8_calm 47 = .ok (.ifCond .eq 21, 3) := by decide +kernel
theorem dX8_calm_50 : decode cX8_calm 50 = .ok (.iload_n 3, 1) := by decide +kernel
theorem dX8_calm_51 : decode cX8_calm 51 = .ok (.iload_n 1, 1) := by decide +kernel
theorem dX8_calm_52 : decode cX8_calm 52 = .ok (.invokestatic 260, 3) := by decide +kernel
theorem dX8_calm_55 : decode cX8_calm 55 = .ok (.ifCond .eq 13, 3) := by decide +kernel
theorem dX8_calm_58 : decode cX8_calm 58 = .ok (.aload_n 0, 1) := by decide +kernel
theorem dX8_calm_59 : decode cX8_calm 59 = .ok (.iload_n 3, 1) := by decide +kernel
theorem dX8_calm_60 : decode cX8_calm 60 = .ok (.invokevirtual 263, 3) := by decide +kernel
theorem dX8_calm_63 : decode cX8_calm 63 = .ok (.ifCond .eq 5, 3) := by decide +kernel
theorem dX8_calm_66 : decode cX8_calm 66 = .ok (.iload_n 3, 1) := by decide +kernel
theorem dX8_calm_67 : decode cX8_calm 67 = .ok (.istore_n 1, 1) := by decide +kernel
theorem dX8_calm_68 : decode cX8_calm 68 = .ok (.iinc 3 1, 3) := by decide +kernel
theorem dX8_calm_71 : decode cX8_calm 71 = .ok (.goto (-54), 3) := by decide +kernel
theorem dX8_calm_74 : decode cX8_calm 74 = .ok (.iload_n 1, 1) := by decide +kernel
theorem dX8_calm_75 : decode cX8_calm 75 = .ok (.ireturn, 1) := by decide +kernel
theorem dX8_isCalmWithout_0 : decode cX8_isCalmWithout 0 = .ok (.aload_n 0, 1) := by decide +kernel
theorem dX8_isCalmWithout_1 : decode cX8_isCalmWithout 1 = .ok (.invokevirtual 218, 3) := by decide +kernel
theorem dX8_isCalmWithout_4 : decode cX8_isCalmWithout 4 = .ok (.aload_n 0, 1) := by decide +kernel
theorem dX8_isCalmWithout_5 : decode cX8_isCalmWithout 5 = .ok (.getfield 60, 3) := by decide +kernel
theorem dX8_isCalmWithout_8 : decode cX8_isCalmWithout 8 = .ok (.iload_n 1, 1) := by decide +kernel
theorem dX8_isCalmWithout_9 : decode cX8_isCalmWithout 9 = .ok (.putfield 266, 3) := by decide +kernel
theorem dX8_isCalmWithout_12 : decode cX8_isCalmWithout 12 = .ok (.iconst 0, 1) := by decide +kernel
theorem dX8_isCalmWithout_13 : decode cX8_isCalmWithout 13 = .ok (.istore_n 2, 1) := by decide +kernel
theorem dX8_isCalmWithout_14 : decode cX8_isCalmWithout 14 = .ok (.iload_n 2, 1) := by decide +kernel
theorem dX8_isCalmWithout_15 : decode cX8_isCalmWithout 15 = .ok (.bipush 30, 2) := by decide +kernel
theorem dX8_isCalmWithout_17 : decode cX8_isCalmWithout 17 = .ok (.if_icmp .ge 26, 3) := by decide +kernel
theorem dX8_isCalmWithout_20 : decode cX8_isCalmWithout 20 = .ok (.aload_n 0, 1) := by decide +kernel
theorem dX8_isCalmWithout_21 : decode cX8_isCalmWithout 21 = .ok (.getfield 60, 3) := by decide +kernel
theorem dX8_isCalmWithout_24 : decode cX8_isCalmWithout 24 = .ok (.aload_n 0, 1) := by decide +kernel
theorem dX8_isCalmWithout_25 : decode cX8_isCalmWithout 25 = .ok (.getfield 48, 3) := by decide +kernel
theorem dX8_isCalmWithout_28 : decode cX8_isCalmWithout 28 = .ok (.invokevirtual 232, 3) := by decide +kernel
theorem dX8_isCalmWithout_31 : decode cX8_isCalmWithout 31 = .ok (.iconst (-1), 1) := by decide +kernel
theorem dX8_isCalmWithout_32 : decode cX8_isCalmWithout 32 = .ok (.if_icmp .eq 5, 3) := by decide +kernel
theorem dX8_isCalmWithout_35 : decode cX8_isCalmWithout 35 = .ok (.iconst 0, 1) := by decide +kernel
theorem dX8_isCalmWithout_36 : decode cX8_isCalmWithout 36 = .ok (.ireturn, 1) := by decide +kernel
theorem dX8_isCalmWithout_37 : decode cX8_isCalmWithout 37 = .ok (.iinc 2 1, 3) := by decide +kernel
theorem dX8_isCalmWithout_40 : decode cX8_isCalmWithout 40 = .ok (.goto (-26), 3) := by decide +kernel
theorem dX8_isCalmWithout_43 : decode cX8_isCalmWithout 43 = .ok (.iconst 1, 1) := by decide +kernel
theorem dX8_isCalmWithout_44 : decode cX8_isCalmWithout 44 = .ok (.ireturn, 1) := by decide +kernel
theorem dX8_isFewer_0 : decode cX8_isFewer 0 = .ok (.iload_n 1, 1) := by decide +kernel
theorem dX8_isFewer_1 : decode cX8_isFewer 1 = .ok (.bipush (-2), 2) := by decide +kernel
theorem dX8_isFewer_3 : decode cX8_isFewer 3 = .ok (.if_icmp .eq 14, 3) := by decide +kernel
theorem dX8_isFewer_6 : decode cX8_isFewer 6 = .ok (.iload_n 0, 1) := by decide +kernel
theorem dX8_isFewer_7 : decode cX8_isFewer 7 = .ok (.invokestatic 269, 3) := by decide +kernel
theorem dX8_isFewer_10 : decode cX8_isFewer 10 = .ok (.iload_n 1, 1) := by decide +kernel
theorem dX8_isFewer_11 : decode cX8_isFewer 11 = .ok (.invokestatic 269, 3) := by decide +kernel
theorem dX8_isFewer_14 : decode cX8_isFewer 14 = .ok (.if_icmp .ge 7, 3) := by decide +kernel
theorem dX8_isFewer_17 : decode cX8_isFewer 17 = .ok (.iconst 1, 1) := by decide +kernel
theorem dX8_isFewer_18 : decode cX8_isFewer 18 = .ok (.goto 4, 3) := by decide +kernel
theorem dX8_isFewer_21 : decode cX8_isFewer 21 = .ok (.iconst 0, 1) := by decide +kernel
theorem dX8_isFewer_22 : decode cX8_isFewer 22 = .ok (.ireturn, 1) := by decide +kernel
theorem dX8_bestFed_0 : decode cX8_bestFed 0 = .ok (.iload_n 1, 1) := by decide +kernel
theorem dX8_bestFed_1 : decode cX8_bestFed 1 = .ok (.ifCond .lt 8, 3) := by decide +kernel
theorem dX8_bestFed_4 : decode cX8_bestFed 4 = .ok (.iload_n 1, 1) := by decide +kernel
theorem dX8_bestFed_5 : decode cX8_bestFed 5 = .ok (.iconst 1, 1) := by decide +kernel
theorem dX8_bestFed_6 : decode cX8_bestFed 6 = .ok (.if_icmp .le 5, 3) := by decide +kernel
theorem dX8_bestFed_9 : decode cX8_bestFed 9 = .ok (.iconst (-1), 1) := by decide +kernel
theorem dX8_bestFed_10 : decode cX8_bestFed 10 = .ok (.ireturn, 1) := by decide +kernel
theorem dX8_bestFed_11 : decode cX8_bestFed 11 = .ok (.aload_n 0, 1) := by decide +kernel
theorem dX8_bestFed_12 : decode cX8_bestFed 12 = .ok (.invokevirtual 144, 3) := by decide +kernel
theorem dX8_bestFed_15 : decode cX8_bestFed 15 = .ok (.pop, 1) := by decide +kernel
theorem dX8_bestFed_16 : decode cX8_bestFed 16 = .ok (.aload_n 0, 1) := by decide +kernel
theorem dX8_bestFed_17 : decode cX8_bestFed 17 = .ok (.getfield 60, 3) := by decide +kernel
theorem dX8_bestFed_20 : decode cX8_bestFed 20 = .ok (.aload_n 0, 1) := by decide +kernel
theorem dX8_bestFed_21 : decode cX8_bestFed 21 = .ok (.getfield 41, 3) := by decide +kernel
theorem dX8_bestFed_24 : decode cX8_bestFed 24 = .ok (.invokevirtual 274, 3) := by decide +kernel
theorem dX8_bestFed_27 : decode cX8_bestFed 27 = .ok (.istore_n 2, 1) := by decide +kernel
theorem dX8_bestFed_28 : decode cX8_bestFed 28 = .ok (.bipush (-2), 2) := by decide +kernel
theorem dX8_bestFed_30 : decode cX8_bestFed 30 = .ok (.istore_n 3, 1) := by decide +kernel
theorem dX8_bestFed_31 : decode cX8_bestFed 31 = .ok (.bipush (-2), 2) := by decide +kernel
theorem dX8_bestFed_33 : decode cX8_bestFed 33 = .ok (.istore 4, 2) := by decide +kernel
theorem dX8_bestFed_35 : decode cX8_bestFed 35 = .ok (.iconst 0, 1) := by decide +kernel
theorem dX8_bestFed_36 : decode cX8_bestFed 36 = .ok (.istore 5, 2) := by decide +kernel
theorem dX8_bestFed_38 : decode cX8_bestFed 38 = .ok (.iload 5, 2) := by decide +kernel
theorem dX8_bestFed_40 : decode cX8_bestFed 40 = .ok (.aload_n 0, 1) := by decide +kernel
theorem dX8_bestFed_41 : decode cX8_bestFed 41 = .ok (.getfield 22, 3) := by decide +kernel
theorem dX8_bestFed_44 : decode cX8_bestFed 44 = .ok (.getfield 235, 3) := by decide +kernel
theorem dX8_bestFed_47 : decode cX8_bestFed 47 = .ok (.if_icmp .ge 64, 3) := by decide +kernel
theorem dX8_bestFed_50 : decode cX8_bestFed 50 = .ok (.iload_n 2, 1) := by decide +kernel
theorem dX8_bestFed_51 : decode cX8_bestFed 51 = .ok (.iconst (-1), 1) := by decide +kernel
theorem dX8_bestFed_52 : decode cX8_bestFed 52 = .ok (.if_icmp .eq 59, 3) := by decide +kernel
theorem dX8_bestFed_55 : decode cX8_bestFed 55 = .ok (.aload_n 0, 1) := by decide +kernel
theorem dX8_bestFed_56 : decode cX8_bestFed 56 = .ok (.getfield 41, 3) := by decide +kernel
theorem dX8_bestFed_59 : decode cX8_bestFed 59 = .ok (.iload 5, 2) := by decide +kernel
theorem dX8_bestFed_61 : decode cX8_bestFed 61 = .ok (.invokevirtual 141, 3) := by decide +kernel
theorem dX8_bestFed_64 : decode cX8_bestFed 64 = .ok (.ifCond .ne 41, 3) := by decide +kernel
theorem dX8_bestFed_67 : decode cX8_bestFed 67 = .ok (.aload_n 0, 1) := by decide +kernel
theorem dX8_bestFed_68 : decode cX8_bestFed 68 = .ok (.getfield 60, 3) := by decide +kernel
theorem dX8_bestFed_71 : decode cX8_bestFed 71 = .ok (.aload_n 0, 1) := by decide +kernel
theorem dX8_bestFed_72 : decode cX8_bestFed 72 = .ok (.getfield 41, 3) := by decide +kernel
theorem dX8_bestFed_75 : decode cX8_bestFed 75 = .ok (.iload 5, 2) := by decide +kernel
theorem dX8_bestFed_77 : decode cX8_bestFed 77 = .ok (.iload_n 2, 1) := by decide +kernel
theorem dX8_bestFed_78 : decode cX8_bestFed 78 = .ok (.invokevirtual 277, 3) := by decide +kernel
theorem dX8_bestFed_81 : decode cX8_bestFed 81 = .ok (.iload 4, 2) := by decide +kernel
theorem dX8_bestFed_83 : decode cX8_bestFed 83 = .ok (.if_icmp .le 22, 3) := by decide +kernel
theorem dX8_bestFed_86 : decode cX8_bestFed 86 = .ok (.iload 5, 2) := by decide +kernel
theorem dX8_bestFed_88 : decode cX8_bestFed 88 = .ok (.istore_n 3, 1) := by decide +kernel
theorem dX8_bestFed_89 : decode cX8_bestFed 89 = .ok (.aload_n 0, 1) := by decide +kernel
theorem dX8_bestFed_90 : decode cX8_bestFed 90 = .ok (.getfield 60, 3) := by decide +kernel
theorem dX8_bestFed_93 : decode cX8_bestFed 93 = .ok (.aload_n 0, 1) := by decide +kernel
theorem dX8_bestFed_94 : decode cX8_bestFed 94 = .ok (.getfield 41, 3) := by decide +kernel
theorem dX8_bestFed_97 : decode cX8_bestFed 97 = .ok (.iload 5, 2) := by decide +kernel
theorem dX8_bestFed_99 : decode cX8_bestFed 99 = .ok (.iload_n 2, 1) := by decide +kernel
theorem dX8_bestFed_100 : decode cX8_bestFed 100 = .ok (.invokevirtual 277, 3) := by decide +kernel
theorem dX8_bestFed_103 : decode cX8_bestFed 103 = .ok (.istore 4, 2) := by decide +kernel
theorem dX8_bestFed_105 : decode cX8_bestFed 105 = .ok (.iinc 5 1, 3) := by decide +kernel
theorem dX8_bestFed_108 : decode cX8_bestFed 108 = .ok (.goto (-70), 3) := by decide +kernel
theorem dX8_bestFed_111 : decode cX8_bestFed 111 = .ok (.iload_n 1, 1) := by decide +kernel
theorem dX8_bestFed_112 : decode cX8_bestFed 112 = .ok (.ifCond .ne 7, 3) := by decide +kernel
theorem dX8_bestFed_115 : decode cX8_bestFed 115 = .ok (.iload_n 3, 1) := by decide +kernel
theorem dX8_bestFed_116 : decode cX8_bestFed 116 = .ok (.goto 5, 3) := by decide +kernel
theorem dX8_bestFed_119 : decode cX8_bestFed 119 = .ok (.iload 4, 2) := by decide +kernel
theorem dX8_bestFed_121 : decode cX8_bestFed 121 = .ok (.ireturn, 1) := by decide +kernel
theorem dX8_rests_0 : decode cX8_rests 0 = .ok (.aload_n 0, 1) := by decide +kernel
theorem dX8_rests_1 : decode cX8_rests 1 = .ok (.iload_n 1, 1) := by decide +kernel
theorem dX8_rests_2 : decode cX8_rests 2 = .ok (.iload_n 2, 1) := by decide +kernel
theorem dX8_rests_3 : decode cX8_rests 3 = .ok (.invokevirtual 184, 3) := by decide +kernel
theorem dX8_rests_6 : decode cX8_rests 6 = .ok (.ifCond .ne 5, 3) := by decide +kernel
theorem dX8_rests_9 : decode cX8_rests 9 = .ok (.iconst (-1), 1) := by decide +kernel
theorem dX8_rests_10 : decode cX8_rests 10 = .ok (.ireturn, 1) := by decide +kernel
theorem dX8_rests_11 : decode cX8_rests 11 = .ok (.iconst 0, 1) := by decide +kernel
theorem dX8_rests_12 : decode cX8_rests 12 = .ok (.istore_n 3, 1) := by decide +kernel
theorem dX8_rests_13 : decode cX8_rests 13 = .ok (.iconst 0, 1) := by decide +kernel
theorem dX8_rests_14 : decode cX8_rests 14 = .ok (.istore 4, 2) := by decide +kernel
theorem dX8_rests_16 : decode cX8_rests 16 = .ok (.iload 4, 2) := by decide +kernel
theorem dX8_rests_18 : decode cX8_rests 18 = .ok (.iconst 4, 1) := by decide +kernel
theorem dX8_rests_19 : decode cX8_rests 19 = .ok (.if_icmp .ge 23, 3) := by decide +kernel
theorem dX8_rests_22 : decode cX8_rests 22 = .ok (.aload_n 0, 1) := by decide +kernel
theorem dX8_rests_23 : decode cX8_rests 23 = .ok (.iload_n 1, 1) := by decide +kernel
theorem dX8_rests_24 : decode cX8_rests 24 = .ok (.iload_n 2, 1) := by decide +kernel
theorem dX8_rests_25 : decode cX8_rests 25 = .ok (.iload 4, 2) := by decide +kernel
theorem dX8_rests_27 : decode cX8_rests 27 = .ok (.invokevirtual 281, 3) := by decide +kernel
theorem dX8_rests_30 : decode cX8_rests 30 = .ok (.ifCond .eq 6, 3) := by decide +kernel
theorem dX8_rests_33 : decode cX8_rests 33 = .ok (.iinc 3 1, 3) := by decide +kernel
theorem dX8_rests_36 : decode cX8_rests 36 = .ok (.iinc 4 1, 3) := by decide +kernel
theorem dX8_rests_39 : decode cX8_rests 39 = .ok (.goto (-23), 3) := by decide +kernel
theorem dX8_rests_42 : decode cX8_rests 42 = .ok (.iload_n 3, 1) := by decide +kernel
theorem dX8_rests_43 : decode cX8_rests 43 = .ok (.ireturn, 1) := by decide +kernel
theorem dX8_rest_0 : decode cX8_rest 0 = .ok (.aload_n 0, 1) := by decide +kernel
theorem dX8_rest_1 : decode cX8_rest 1 = .ok (.iload_n 1, 1) := by decide +kernel
theorem dX8_rest_2 : decode cX8_rest 2 = .ok (.iload_n 2, 1) := by decide +kernel
theorem dX8_rest_3 : decode cX8_rest 3 = .ok (.invokevirtual 184, 3) := by decide +kernel
theorem dX8_rest_6 : decode cX8_rest 6 = .ok (.ifCond .eq 7, 3) := by decide +kernel
theorem dX8_rest_9 : decode cX8_rest 9 = .ok (.iload_n 3, 1) := by decide +kernel
theorem dX8_rest_10 : decode cX8_rest 10 = .ok (.ifCond .ge 5, 3) := by decide +kernel
theorem dX8_rest_13 : decode cX8_rest 13 = .ok (.iconst (-1), 1) := by decide +kernel
theorem dX8_rest_14 : decode cX8_rest 14 = .ok (.ireturn, 1) := by decide +kernel
theorem dX8_rest_15 : decode cX8_rest 15 = .ok (.iconst 0, 1) := by decide +kernel
theorem dX8_rest_16 : decode cX8_rest 16 = .ok (.istore 4, 2) := by decide +kernel
theorem dX8_rest_18 : decode cX8_rest 18 = .ok (.iconst 0, 1) := by decide +kernel
theorem dX8_rest_19 : decode cX8_rest 19 = .ok (.istore 5, 2) := by decide +kernel
theorem dX8_rest_21 : decode cX8_rest 21 = .ok (.iload 5, 2) := by decide +kernel
theorem dX8_rest_23 : decode cX8_rest 23 = .ok (.iconst 4, 1) := by decide +kernel
theorem dX8_rest_24 : decode cX8_rest 24 = .ok (.if_icmp .ge 42, 3) := by decide +kernel
theorem dX8_rest_27 : decode cX8_rest 27 = .ok (.aload_n 0, 1) := by decide +kernel
theorem dX8_rest_28 : decode cX8_rest 28 = .ok (.iload_n 1, 1) := by decide +kernel
theorem dX8_rest_29 : decode cX8_rest 29 = .ok (.iload_n 2, 1) := by decide +kernel
theorem dX8_rest_30 : decode cX8_rest 30 = .ok (.iload 5, 2) := by decide +kernel
theorem dX8_rest_32 : decode cX8_rest 32 = .ok (.invokevirtual 281, 3) := by decide +kernel
theorem dX8_rest_35 : decode cX8_rest 35 = .ok (.ifCond .eq 25, 3) := by decide +kernel
theorem dX8_rest_38 : decode cX8_rest 38 = .ok (.iload 4, 2) := by decide +kernel
theorem dX8_rest_40 : decode cX8_rest 40 = .ok (.iload_n 3, 1) := by decide +kernel
theorem dX8_rest_41 : decode cX8_rest 41 = .ok (.if_icmp .ne 16, 3) := by decide +kernel
theorem dX8_rest_44 : decode cX8_rest 44 = .ok (.iload 5, 2) := by decide +kernel
theorem dX8_rest_46 : decode cX8_rest 46 = .ok (.iconst 2, 1) := by decide +kernel
theorem dX8_rest_47 : decode cX8_rest 47 = .ok (.idiv, 1) := by decide +kernel
theorem dX8_rest_48 : decode cX8_rest 48 = .ok (.bipush 10, 2) := by decide +kernel
theorem dX8_rest_50 : decode cX8_rest 50 = .ok (.imul, 1) := by decide +kernel
theorem dX8_rest_51 : decode cX8_rest 51 = .ok (.iload 5, 2) := by decide +kernel
theorem dX8_rest_53 : decode cX8_rest 53 = .ok (.iconst 2, 1) := by decide +kernel
theorem dX8_rest_54 : decode cX8_rest 54 = .ok (.irem, 1) := by decide +kernel
theorem dX8_rest_55 : decode cX8_rest 55 = .ok (.iadd, 1) := by decide +kernel
theorem dX8_rest_56 : decode cX8_rest 56 = .ok (.ireturn, 1) := by decide +kernel
theorem dX8_rest_57 : decode cX8_rest 57 = .ok (.iinc 4 1, 3) := by decide +kernel
theorem dX8_rest_60 : decode cX8_rest 60 = .ok (.iinc 5 1, 3) := by decide +kernel
theorem dX8_rest_63 : decode cX8_rest 63 = .ok (.goto (-42), 3) := by decide +kernel
theorem dX8_rest_66 : decode cX8_rest 66 = .ok (.bipush (-2), 2) := by decide +kernel
theorem dX8_rest_68 : decode cX8_rest 68 = .ok (.ireturn, 1) := by decide +kernel
theorem dX8_isRest_0 : decode cX8_isRest 0 = .ok (.iload_n 3, 1) := by decide +kernel
theorem dX8_isRest_1 : decode cX8_isRest 1 = .ok (.iconst 2, 1) := by decide +kernel
theorem dX8_isRest_2 : decode cX8_isRest 2 = .ok (.idiv, 1) := by decide +kernel
theorem dX8_isRest_3 : decode cX8_isRest 3 = .ok (.istore 4, 2) := by decide +kernel
theorem dX8_isRest_5 : decode cX8_isRest 5 = .ok (.iload_n 3, 1) := by decide +kernel
theorem dX8_isRest_6 : decode cX8_isRest 6 = .ok (.iconst 2, 1) := by decide +kernel
theorem dX8_isRest_7 : decode cX8_isRest 7 = .ok (.irem, 1) := by decide +kernel
theorem dX8_isRest_8 : decode cX8_isRest 8 = .ok (.istore 5, 2) := by decide +kernel
theorem dX8_isRest_10 : decode cX8_isRest 10 = .ok (.aload_n 0, 1) := by decide +kernel
theorem dX8_isRest_11 : decode cX8_isRest 11 = .ok (.iload_n 1, 1) := by decide +kernel
theorem dX8_isRest_12 : decode cX8_isRest 12 = .ok (.iload_n 2, 1) := by decide +kernel
theorem dX8_isRest_13 : decode cX8_isRest 13 = .ok (.iload 4, 2) := by decide +kernel
theorem dX8_isRest_15 : decode cX8_isRest 15 = .ok (.iload 5, 2) := by decide +kernel
theorem dX8_isRest_17 : decode cX8_isRest 17 = .ok (.invokevirtual 285, 3) := by decide +kernel
theorem dX8_isRest_20 : decode cX8_isRest 20 = .ok (.aload_n 0, 1) := by decide +kernel
theorem dX8_isRest_21 : decode cX8_isRest 21 = .ok (.iload_n 1, 1) := by decide +kernel
theorem dX8_isRest_22 : decode cX8_isRest 22 = .ok (.iload_n 2, 1) := by decide +kernel
theorem dX8_isRest_23 : decode cX8_isRest 23 = .ok (.iconst 1, 1) := by decide +kernel
theorem dX8_isRest_24 : decode cX8_isRest 24 = .ok (.iload 4, 2) := by decide +kernel
theorem dX8_isRest_26 : decode cX8_isRest 26 = .ok (.isub, 1) := by decide +kernel
theorem dX8_isRest_27 : decode cX8_isRest 27 = .ok (.iload 5, 2) := by decide +kernel
theorem dX8_isRest_29 : decode cX8_isRest 29 = .ok (.invokevirtual 285, 3) := by decide +kernel
theorem dX8_isRest_32 : decode cX8_isRest 32 = .ok (.if_icmp .lt 32, 3) := by decide +kernel
theorem dX8_isRest_35 : decode cX8_isRest 35 = .ok (.aload_n 0, 1) := by decide +kernel
theorem dX8_isRest_36 : decode cX8_isRest 36 = .ok (.iload_n 2, 1) := by decide +kernel
theorem dX8_isRest_37 : decode cX8_isRest 37 = .ok (.iload_n 1, 1) := by decide +kernel
theorem dX8_isRest_38 : decode cX8_isRest 38 = .ok (.iload 5, 2) := by decide +kernel
theorem dX8_isRest_40 : decode cX8_isRest 40 = .ok (.iload 4, 2) := by decide +kernel
theorem dX8_isRest_42 : decode cX8_isRest 42 = .ok (.invokevirtual 285, 3) := by decide +kernel
theorem dX8_isRest_45 : decode cX8_isRest 45 = .ok (.aload_n 0, 1) := by decide +kernel
theorem dX8_isRest_46 : decode cX8_isRest 46 = .ok (.iload_n 2, 1) := by decide +kernel
theorem dX8_isRest_47 : decode cX8_isRest 47 = .ok (.iload_n 1, 1) := by decide +kernel
theorem dX8_isRest_48 : decode cX8_isRest 48 = .ok (.iconst 1, 1) := by decide +kernel
theorem dX8_isRest_49 : decode cX8_isRest 49 = .ok (.iload 5, 2) := by decide +kernel
theorem dX8_isRest_51 : decode cX8_isRest 51 = .ok (.isub, 1) := by decide +kernel
theorem dX8_isRest_52 : decode cX8_isRest 52 = .ok (.iload 4, 2) := by decide +kernel
theorem dX8_isRest_54 : decode cX8_isRest 54 = .ok (.invokevirtual 285, 3) := by decide +kernel
theorem dX8_isRest_57 : decode cX8_isRest 57 = .ok (.if_icmp .lt 7, 3) := by decide +kernel
theorem dX8_isRest_60 : decode cX8_isRest 60 = .ok (.iconst 1, 1) := by decide +kernel
theorem dX8_isRest_61 : decode cX8_isRest 61 = .ok (.goto 4, 3) := by decide +kernel
theorem dX8_isRest_64 : decode cX8_isRest 64 = .ok (.iconst 0, 1) := by decide +kernel
theorem dX8_isRest_65 : decode cX8_isRest 65 = .ok (.ireturn, 1) := by decide +kernel
theorem dX8_duelWorth_0 : decode cX8_duelWorth 0 = .ok (.iload_n 3, 1) := by decide +kernel
theorem dX8_duelWorth_1 : decode cX8_duelWorth 1 = .ok (.ifCond .ne 32, 3) := by decide +kernel
theorem dX8_duelWorth_4 : decode cX8_duelWorth 4 = .ok (.iload 4, 2) := by decide +kernel
theorem dX8_duelWorth_6 : decode cX8_duelWorth 6 = .ok (.ifCond .ne 15, 3) := by decide +kernel
theorem dX8_duelWorth_9 : decode cX8_duelWorth 9 = .ok (.aload_n 0, 1) := by decide +kernel
theorem dX8_duelWorth_10 : decode cX8_duelWorth 10 = .ok (.getfield 22, 3) := by decide +kernel
theorem dX8_duelWorth_13 : decode cX8_duelWorth 13 = .ok (.getfield 135, 3) := by decide +kernel
theorem dX8_duelWorth_16 : decode cX8_duelWorth 16 = .ok (.iload_n 2, 1) := by decide +kernel
theorem dX8_duelWorth_17 : decode cX8_duelWorth 17 = .ok (.iaload, 1) := by decide +kernel
theorem dX8_duelWorth_18 : decode cX8_duelWorth 18 = .ok (.goto 14, 3) := by decide +kernel
theorem dX8_duelWorth_21 : decode cX8_duelWorth 21 = .ok (.aload_n 0, 1) := by decide +kernel
theorem dX8_duelWorth_22 : decode cX8_duelWorth 22 = .ok (.getfield 22, 3) := by decide +kernel
theorem dX8_duelWorth_25 : decode cX8_duelWorth 25 = .ok (.getfield 135, 3) := by decide +kernel
theorem dX8_duelWorth_28 : decode cX8_duelWorth 28 = .ok (.iload_n 1, 1) := by decide +kernel
theorem dX8_duelWorth_29 : decode cX8_duelWorth 29 = .ok (.iaload, 1) := by decide +kernel
theorem dX8_duelWorth_30 : decode cX8_duelWorth 30 = .ok (.iconst 5, 1) := by decide +kernel
theorem dX8_duelWorth_31 : decode cX8_duelWorth 31 = .ok (.isub, 1) := by decide +kernel
theorem dX8_duelWorth_32 : decode cX8_duelWorth 32 = .ok (.ireturn, 1) := by decide +kernel
theorem dX8_duelWorth_33 : decode cX8_duelWorth 33 = .ok (.iload 4, 2) := by decide +kernel
theorem dX8_duelWorth_35 : decode cX8_duelWorth 35 = .ok (.ifCond .ne 17, 3) := by decide +kernel
theorem dX8_duelWorth_38 : decode cX8_duelWorth 38 = .ok (.aload_n 0, 1) := by decide +kernel
theorem dX8_duelWorth_39 : decode cX8_duelWorth 39 = .ok (.getfield 41, 3) := by decide +kernel
theorem dX8_duelWorth_42 : decode cX8_duelWorth 42 = .ok (.getfield 132, 3) := by decide +kernel
theorem dX8_duelWorth_45 : decode cX8_duelWorth 45 = .ok (.iload_n 1, 1) := by decide +kernel
theorem dX8_duelWorth_46 : decode cX8_duelWorth 46 = .ok (.iaload, 1) := by decide +kernel
theorem dX8_duelWorth_47 : decode cX8_duelWorth 47 = .ok (.iconst 5, 1) := by decide +kernel
theorem dX8_duelWorth_48 : decode cX8_duelWorth 48 = .ok (.idiv, 1) := by decide +kernel
theorem dX8_duelWorth_49 : decode cX8_duelWorth 49 = .ok (.goto 16, 3) := by decide +kernel
theorem dX8_duelWorth_52 : decode cX8_duelWorth 52 = .ok (.aload_n 0, 1) := by decide +kernel
theorem dX8_duelWorth_53 : decode cX8_duelWorth 53 = .ok (.getfield 41, 3) := by decide +kernel
theorem dX8_duelWorth_56 : decode cX8_duelWorth 56 = .ok (.getfield 129, 3) := by decide +kernel
theorem dX8_duelWorth_59 : decode cX8_duelWorth 59 = .ok (.iload_n 1, 1) := by decide +kernel
theorem dX8_duelWorth_60 : decode cX8_duelWorth 60 = .ok (.iaload, 1) := by decide +kernel
theorem dX8_duelWorth_61 : decode cX8_duelWorth 61 = .ok (.bipush 20, 2) := by decide +kernel
theorem dX8_duelWorth_63 : decode cX8_duelWorth 63 = .ok (.idiv, 1) := by decide +kernel
theorem dX8_duelWorth_64 : decode cX8_duelWorth 64 = .ok (.ineg, 1) := by decide +kernel
theorem dX8_duelWorth_65 : decode cX8_duelWorth 65 = .ok (.ireturn, 1) := by decide +kernel
theorem dX8_warm_0 : decode cX8_warm 0 = .ok (.iload_n 1, 1) := by decide +kernel
theorem dX8_warm_1 : decode cX8_warm 1 = .ok (.ifCond .lt 18, 3) := by decide +kernel
theorem dX8_warm_4 : decode cX8_warm 4 = .ok (.iload_n 1, 1) := by decide +kernel
theorem dX8_warm_5 : decode cX8_warm 5 = .ok (.bipush 6, 2) := by decide +kernel
theorem dX8_warm_7 : decode cX8_warm 7 = .ok (.if_icmp .gt 12, 3) := by decide +kernel
theorem dX8_warm_10 : decode cX8_warm 10 = .ok (.iload_n 2, 1) := by decide +kernel
theorem dX8_warm_11 : decode cX8_warm 11 = .ok (.ifCond .lt 8, 3) := by decide +kernel
theorem dX8_warm_14 : decode cX8_warm 14 = .ok (.iload_n 2, 1) := by decide +kernel
theorem dX8_warm_15 : decode cX8_warm 15 = .ok (.iconst 1, 1) := by decide +kernel
theorem dX8_warm_16 : decode cX8_warm 16 = .ok (.if_icmp .le 7, 3) := by decide +kernel
theorem dX8_warm_19 : decode cX8_warm 19 = .ok (.ldc2_w 289, 3) := by decide +kernel
theorem dX8_warm_22 : decode cX8_warm 22 = .ok (.lreturn, 1) := by decide +kernel
theorem dX8_warm_23 : decode cX8_warm 23 = .ok (.bipush 100, 2) := by decide +kernel
theorem dX8_warm_25 : decode cX8_warm 25 = .ok (.aload_n 0, 1) := by decide +kernel
theorem dX8_warm_26 : decode cX8_warm 26 = .ok (.getfield 22, 3) := by decide +kernel
theorem dX8_warm_29 : decode cX8_warm 29 = .ok (.getfield 291, 3) := by decide +kernel
theorem dX8_warm_32 : decode cX8_warm 32 = .ok (.isub, 1) := by decide +kernel
theorem dX8_warm_33 : decode cX8_warm 33 = .ok (.istore_n 3, 1) := by decide +kernel
theorem dX8_warm_34 : decode cX8_warm 34 = .ok (.iload_n 3, 1) := by decide +kernel
theorem dX8_warm_35 : decode cX8_warm 35 = .ok (.bipush 100, 2) := by decide +kernel
theorem dX8_warm_37 : decode cX8_warm 37 = .ok (.invokestatic 294, 3) := by decide +kernel
theorem dX8_warm_40 : decode cX8_warm 40 = .ok (.istore 4, 2) := by decide +kernel
theorem dX8_warm_42 : decode cX8_warm 42 = .ok (.iload_n 2, 1) := by decide +kernel
theorem dX8_warm_43 : decode cX8_warm 43 = .ok (.ifCond .ne 7, 3) := by decide +kernel
theorem dX8_warm_46 : decode cX8_warm 46 = .ok (.iload_n 3, 1) := by decide +kernel
theorem dX8_warm_47 : decode cX8_warm 47 = .ok (.goto 5, 3) := by decide +kernel
theorem dX8_warm_50 : decode cX8_warm 50 = .ok (.bipush 100, 2) := by decide +kernel
theorem dX8_warm_52 : decode cX8_warm 52 = .ok (.iload 4, 2) := by decide +kernel
theorem dX8_warm_54 : decode cX8_warm 54 = .ok (.idiv, 1) := by decide +kernel
theorem dX8_warm_55 : decode cX8_warm 55 = .ok (.i2l, 1) := by decide +kernel
theorem dX8_warm_56 : decode cX8_warm 56 = .ok (.lstore 5, 2) := by decide +kernel
theorem dX8_warm_58 : decode cX8_warm 58 = .ok (.lconst 1, 1) := by decide +kernel
theorem dX8_warm_59 : decode cX8_warm 59 = .ok (.lstore 7, 2) := by decide +kernel
theorem dX8_warm_61 : decode cX8_warm 61 = .ok (.iconst 0, 1) := by decide +kernel
theorem dX8_warm_62 : decode cX8_warm 62 = .ok (.istore 9, 2) := by decide +kernel
theorem dX8_warm_64 : decode cX8_warm 64 = .ok (.iload 9, 2) := by decide +kernel
theorem dX8_warm_66 : decode cX8_warm 66 = .ok (.iload_n 1, 1) := by decide +kernel
theorem dX8_warm_67 : decode cX8_warm 67 = .ok (.if_icmp .ge 16, 3) := by decide +kernel
theorem dX8_warm_70 : decode cX8_warm 70 = .ok (.lload 7, 2) := by decide +kernel
theorem dX8_warm_72 : decode cX8_warm 72 = .ok (.lload 5, 2) := by decide +kernel
theorem dX8_warm_74 : decode cX8_warm 74 = .ok (.lmul, 1) := by decide +kernel
theorem dX8_warm_75 : decode cX8_warm 75 = .ok (.lstore 7, 2) := by decide +kernel
theorem dX8_warm_77 : decode cX8_warm 77 = .ok (.iinc 9 1, 3) := by decide +kernel
theorem dX8_warm_80 : decode cX8_warm 80 = .ok (.goto (-16), 3) := by decide +kernel
theorem dX8_warm_83 : decode cX8_warm 83 = .ok (.lload 7, 2) := by decide +kernel
theorem dX8_warm_85 : decode cX8_warm 85 = .ok (.lreturn, 1) := by decide +kernel
theorem dX8_commonDivisor_0 : decode cX8_commonDivisor 0 = .ok (.iload_n 0, 1) := by decide +kernel
theorem dX8_commonDivisor_1 : decode cX8_commonDivisor 1 = .ok (.iload_n 1, 1) := by decide +kernel
theorem dX8_commonDivisor_2 : decode cX8_commonDivisor 2 = .ok (.invokestatic 199, 3) := by decide +kernel
theorem dX8_commonDivisor_5 : decode cX8_commonDivisor 5 = .ok (.istore_n 2, 1) := by decide +kernel
theorem dX8_commonDivisor_6 : decode cX8_commonDivisor 6 = .ok (.iload_n 0, 1) := by decide +kernel
theorem dX8_commonDivisor_7 : decode cX8_commonDivisor 7 = .ok (.iload_n 1, 1) := by decide +kernel
theorem dX8_commonDivisor_8 : decode cX8_commonDivisor 8 = .ok (.invokestatic 297, 3) := by decide +kernel
theorem dX8_commonDivisor_11 : decode cX8_commonDivisor 11 = .ok (.istore_n 3, 1) := by decide +kernel
theorem dX8_commonDivisor_12 : decode cX8_commonDivisor 12 = .ok (.iconst 0, 1) := by decide +kernel
theorem dX8_commonDivisor_13 : decode cX8_commonDivisor 13 = .ok (.istore 4, 2) := by decide +kernel
theorem dX8_commonDivisor_15 : decode cX8_commonDivisor 15 = .ok (.iload 4, 2) := by decide +kernel
theorem dX8_commonDivisor_17 : decode cX8_commonDivisor 17 = .ok (.bipush 100, 2) := by decide +kernel
theorem dX8_commonDivisor_19 : decode cX8_commonDivisor 19 = .ok (.if_icmp .ge 23, 3) := by decide +kernel
theorem dX8_commonDivisor_22 : decode cX8_commonDivisor 22 = .ok (.iload_n 3, 1) := by decide +kernel
theorem dX8_commonDivisor_23 : decode cX8_commonDivisor 23 = .ok (.ifCond .le 19, 3) := by decide +kernel
theorem dX8_commonDivisor_26 : decode cX8_commonDivisor 26 = .ok (.iload_n 2, 1) := by decide +kernel
theorem dX8_commonDivisor_27 : decode cX8_commonDivisor 27 = .ok (.iload_n 3, 1) := by decide +kernel
theorem dX8_commonDivisor_28 : decode cX8_commonDivisor 28 = .ok (.irem, 1) := by decide +kernel
theorem dX8_commonDivisor_29 : decode cX8_commonDivisor 29 = .ok (.istore 5, 2) := by decide +kernel
theorem dX8_commonDivisor_31 : decode cX8_commonDivisor 31 = .ok (.iload_n 3, 1) := by decide +kernel
theorem dX8_commonDivisor_32 : decode cX8_commonDivisor 32 = .ok (.istore_n 2, 1) := by decide +kernel
theorem dX8_commonDivisor_33 : decode cX8_commonDivisor 33 = .ok (.iload 5, 2) := by decide +kernel
theorem dX8_commonDivisor_35 : decode cX8_commonDivisor 35 = .ok (.istore_n 3, 1) := by decide +kernel
theorem dX8_commonDivisor_36 : decode cX8_commonDivisor 36 = .ok (.iinc 4 1, 3) := by decide +kernel
theorem dX8_commonDivisor_39 : decode cX8_commonDivisor 39 = .ok (.goto (-24), 3) := by decide +kernel
theorem dX8_commonDivisor_42 : decode cX8_commonDivisor 42 = .ok (.iconst 1, 1) := by decide +kernel
theorem dX8_commonDivisor_43 : decode cX8_commonDivisor 43 = .ok (.iload_n 2, 1) := by decide +kernel
theorem dX8_commonDivisor_44 : decode cX8_commonDivisor 44 = .ok (.invokestatic 199, 3) := by decide +kernel
theorem dX8_commonDivisor_47 : decode cX8_commonDivisor 47 = .ok (.ireturn, 1) := by decide +kernel
theorem dX8_bowl_0 : decode cX8_bowl 0 = .ok (.aload_n 0, 1) := by decide +kernel
theorem dX8_bowl_1 : decode cX8_bowl 1 = .ok (.invokevirtual 144, 3) := by decide +kernel
theorem dX8_bowl_4 : decode cX8_bowl 4 = .ok (.aload_n 0, 1) := by decide +kernel
theorem dX8_bowl_5 : decode cX8_bowl 5 = .ok (.getfield 41, 3) := by decide +kernel
theorem dX8_bowl_8 : decode cX8_bowl 8 = .ok (.invokevirtual 300, 3) := by decide +kernel
theorem dX8_bowl_11 : decode cX8_bowl 11 = .ok (.istore_n 1, 1) := by decide +kernel
theorem dX8_bowl_12 : decode cX8_bowl 12 = .ok (.iload_n 1, 1) := by decide +kernel
theorem dX8_bowl_13 : decode cX8_bowl 13 = .ok (.iconst (-1), 1) := by decide +kernel
theorem dX8_bowl_14 : decode cX8_bowl 14 = .ok (.if_icmp .ne 8, 3) := by decide +kernel
theorem dX8_bowl_17 : decode cX8_bowl 17 = .ok (.bipush (-2), 2) := by decide +kernel
theorem dX8_bowl_19 : decode cX8_bowl 19 = .ok (.goto 4, 3) := by decide +kernel
theorem dX8_bowl_22 : decode cX8_bowl 22 = .ok (.iload_n 1, 1) := by decide +kernel
theorem dX8_bowl_23 : decode cX8_bowl 23 = .ok (.ireturn, 1) := by decide +kernel
theorem dX8_uppermost_0 : decode cX8_uppermost 0 = .ok (.aload_n 0, 1) := by decide +kernel
theorem dX8_uppermost_1 : decode cX8_uppermost 1 = .ok (.invokevirtual 144, 3) := by decide +kernel
theorem dX8_uppermost_4 : decode cX8_uppermost 4 = .ok (.aload_n 0, 1) := by decide +kernel
theorem dX8_uppermost_5 : decode cX8_uppermost 5 = .ok (.getfield 41, 3) := by decide +kernel
theorem dX8_uppermost_8 : decode cX8_uppermost 8 = .ok (.invokevirtual 274, 3) := by decide +kernel
theorem dX8_uppermost_11 : decode cX8_uppermost 11 = .ok (.istore_n 1, 1) := by decide +kernel
theorem dX8_uppermost_12 : decode cX8_uppermost 12 = .ok (.iload_n 1, 1) := by decide +kernel
theorem dX8_uppermost_13 : decode cX8_uppermost 13 = .ok (.iconst (-1), 1) := by decide +kernel
theorem dX8_uppermost_14 : decode cX8_uppermost 14 = .ok (.if_icmp .ne 8, 3) := by decide +kernel
theorem dX8_uppermost_17 : decode cX8_uppermost 17 = .ok (.bipush (-2), 2) := by decide +kernel
theorem dX8_uppermost_19 : decode cX8_uppermost 19 = .ok (.goto 4, 3) := by decide +kernel
theorem dX8_uppermost_22 : decode cX8_uppermost 22 = .ok (.iload_n 1, 1) := by decide +kernel
theorem dX8_uppermost_23 : decode cX8_uppermost 23 = .ok (.ireturn, 1) := by decide +kernel
theorem dX8_hungriest_0 : decode cX8_hungriest 0 = .ok (.bipush (-2), 2) := by decide +kernel
theorem dX8_hungriest_2 : decode cX8_hungriest 2 = .ok (.istore_n 1, 1) := by decide +kernel
theorem dX8_hungriest_3 : decode cX8_hungriest 3 = .ok (.iconst 0, 1) := by decide +kernel
theorem dX8_hungriest_4 : decode cX8_hungriest 4 = .ok (.istore_n 2, 1) := by decide +kernel
theorem dX8_hungriest_5 : decode cX8_hungriest 5 = .ok (.iload_n 2, 1) := by decide +kernel
theorem dX8_hungriest_6 : decode cX8_hungriest 6 = .ok (.aload_n 0, 1) := by decide +kernel
theorem dX8_hungriest_7 : decode cX8_hungriest 7 = .ok (.getfield 22, 3) := by decide +kernel
theorem dX8_hungriest_10 : decode cX8_hungriest 10 = .ok (.getfield 235, 3) := by decide +kernel
theorem dX8_hungriest_13 : decode cX8_hungriest 13 = .ok (.if_icmp .ge 49, 3) := by decide +kernel
theorem dX8_hungriest_16 : decode cX8_hungriest 16 = .ok (.aload_n 0, 1) := by decide +kernel
theorem dX8_hungriest_17 : decode cX8_hungriest 17 = .ok (.getfield 41, 3) := by decide +kernel
theorem dX8_hungriest_20 : decode cX8_hungriest 20 = .ok (.iload_n 2, 1) := by decide +kernel
theorem dX8_hungriest_21 : decode cX8_hungriest 21 = .ok (.invokevirtual 141, 3) := by decide +kernel
theorem dX8_hungriest_24 : decode cX8_hungriest 24 = .ok (.ifCond .ne 32, 3) := by decide +kernel
theorem dX8_hungriest_27 : decode cX8_hungriest 27 = .ok (.iload_n 1, 1) := by decide +kernel
theorem dX8_hungriest_28 : decode cX8_hungriest 28 = .ok (.bipush (-2), 2) := by decide +kernel
theorem dX8_hungriest_30 : decode cX8_hungriest 30 = .ok (.if_icmp .eq 24, 3) := by decide +kernel
theorem dX8_hungriest_33 : decode cX8_hungriest 33 = .ok (.aload_n 0, 1) := by decide +kernel
theorem dX8_hungriest_34 : decode cX8_hungriest 34 = .ok (.getfield 41, 3) := by decide +kernel
theorem dX8_hungriest_37 : decode cX8_hungriest 37 = .ok (.getfield 132, 3) := by decide +kernel
theorem dX8_hungriest_40 : decode cX8_hungriest 40 = .ok (.iload_n 2, 1) := by decide +kernel
theorem dX8_hungriest_41 : decode cX8_hungriest 41 = .ok (.iaload, 1) := by decide +kernel
theorem dX8_hungriest_42 : decode cX8_hungriest 42 = .ok (.aload_n 0, 1) := by decide +kernel
theorem dX8_hungriest_43 : decode cX8_hungriest 43 = .ok (.getfield 41, 3) := by decide +kernel
theorem dX8_hungriest_46 : decode cX8_hungriest 46 = .ok (.getfield 132, 3) := by decide +kernel
theorem dX8_hungriest_49 : decode cX8_hungriest 49 = .ok (.iload_n 1, 1) := by decide +kernel
theorem dX8_hungriest_50 : decode cX8_hungriest 50 = .ok (.iaload, 1) := by decide +kernel
theorem dX8_hungriest_51 : decode cX8_hungriest 51 = .ok (.if_icmp .le 5, 3) := by decide +kernel
theorem dX8_hungriest_54 : decode cX8_hungriest 54 = .ok (.iload_n 2, 1) := by decide +kernel
theorem dX8_hungriest_55 : decode cX8_hungriest 55 = .ok (.istore_n 1, 1) := by decide +kernel
theorem dX8_hungriest_56 : decode cX8_hungriest 56 = .ok (.iinc 2 1, 3) := by decide +kernel
theorem dX8_hungriest_59 : decode cX8_hungriest 59 = .ok (.goto (-54), 3) := by decide +kernel
theorem dX8_hungriest_62 : decode cX8_hungriest 62 = .ok (.iload_n 1, 1) := by decide +kernel
theorem dX8_hungriest_63 : decode cX8_hungriest 63 = .ok (.ireturn, 1) := by decide +kernel
theorem dX8_marked_0 : decode cX8_marked 0 = .ok (.iconst 0, 1) := by decide +kernel
theorem dX8_marked_1 : decode cX8_marked 1 = .ok (.istore_n 1, 1) := by decide +kernel
theorem dX8_marked_2 : decode cX8_marked 2 = .ok (.iconst 0, 1) := by decide +kernel
theorem dX8_marked_3 : decode cX8_marked 3 = .ok (.istore_n 2, 1) := by decide +kernel
theorem dX8_marked_4 : decode cX8_marked 4 = .ok (.iload_n 2, 1) := by decide +kernel
theorem dX8_marked_5 : decode cX8_marked 5 = .ok (.aload_n 0, 1) := by decide +kernel
theorem dX8_marked_6 : decode cX8_marked 6 = .ok (.getfield 22, 3) := by decide +kernel
theorem dX8_marked_9 : decode cX8_marked 9 = .ok (.getfield 303, 3) := by decide +kernel
theorem dX8_marked_12 : decode cX8_marked 12 = .ok (.if_icmp .ge 27, 3) := by decide +kernel
theorem dX8_marked_15 : decode cX8_marked 15 = .ok (.aload_n 0, 1) := by decide +kernel
theorem dX8_marked_16 : decode cX8_marked 16 = .ok (.getfield 41, 3) := by decide +kernel
theorem dX8_marked_19 : decode cX8_marked 19 = .ok (.getfield 172, 3) := by decide +kernel
theorem dX8_marked_22 : decode cX8_marked 22 = .ok (.iload_n 2, 1) := by decide +kernel
theorem dX8_marked_23 : decode cX8_marked 23 = .ok (.iaload, 1) := by decide +kernel
theorem dX8_marked_24 : decode cX8_marked 24 = .ok (.ifCond .le 9, 3) := by decide +kernel
theorem dX8_marked_27 : decode cX8_marked 27 = .ok (.iload_n 1, 1) := by decide +kernel
theorem dX8_marked_28 : decode cX8_marked 28 = .ok (.iconst 1, 1) := by decide +kernel
theorem dX8_marked_29 : decode cX8_marked 29 = .ok (.iload_n 2, 1) := by decide +kernel
theorem dX8_marked_30 : decode cX8_marked 30 = .ok (.ishl, 1) := by decide +kernel
theorem dX8_marked_31 : decode cX8_marked 31 = .ok (.ior, 1) := by decide +kernel
theorem dX8_marked_32 : decode cX8_marked 32 = .ok (.istore_n 1, 1) := by decide +kernel
theorem dX8_marked_33 : decode cX8_marked 33 = .ok (.iinc 2 1, 3) := by decide +kernel
theorem dX8_marked_36 : decode cX8_marked 36 = .ok (.goto (-32), 3) := by decide +kernel
theorem dX8_marked_39 : decode cX8_marked 39 = .ok (.iload_n 1, 1) := by decide +kernel
theorem dX8_marked_40 : decode cX8_marked 40 = .ok (.ireturn, 1) := by decide +kernel
theorem dX8_apart_0 : decode cX8_apart 0 = .ok (.aload_n 0, 1) := by decide +kernel
theorem dX8_apart_1 : decode cX8_apart 1 = .ok (.iload_n 1, 1) := by decide +kernel
theorem dX8_apart_2 : decode cX8_apart 2 = .ok (.invokevirtual 118, 3) := by decide +kernel
theorem dX8_apart_5 : decode cX8_apart 5 = .ok (.ifCond .eq 11, 3) := by decide +kernel
theorem dX8_apart_8 : decode cX8_apart 8 = .ok (.aload_n 0, 1) := by decide +kernel
theorem dX8_apart_9 : decode cX8_apart 9 = .ok (.iload_n 2, 1) := by decide +kernel
theorem dX8_apart_10 : decode cX8_apart 10 = .ok (.invokevirtual 118, 3) := by decide +kernel
theorem dX8_apart_13 : decode cX8_apart 13 = .ok (.ifCond .ne 5, 3) := by decide +kernel
theorem dX8_apart_16 : decode cX8_apart 16 = .ok (.iconst (-1), 1) := by decide +kernel
theorem dX8_apart_17 : decode cX8_apart 17 = .ok (.ireturn, 1) := by decide +kernel
theorem dX8_apart_18 : decode cX8_apart 18 = .ok (.aload_n 0, 1) := by decide +kernel
theorem dX8_apart_19 : decode cX8_apart 19 = .ok (.invokevirtual 144, 3) := by decide +kernel
theorem dX8_apart_22 : decode cX8_apart 22 = .ok (.aload_n 0, 1) := by decide +kernel
theorem dX8_apart_23 : decode cX8_apart 23 = .ok (.getfield 41, 3) := by decide +kernel
theorem dX8_apart_26 : decode cX8_apart 26 = .ok (.iload_n 1, 1) := by decide +kernel
theorem dX8_apart_27 : decode cX8_apart 27 = .ok (.iload_n 2, 1) := by decide +kernel
theorem dX8_apart_28 : decode cX8_apart 28 = .ok (.invokevirtual 306, 3) := by decide +kernel
theorem dX8_apart_31 : decode cX8_apart 31 = .ok (.ireturn, 1) := by decide +kernel
theorem dX8_eatenIn_0 : decode cX8_eatenIn 0 = .ok (.aload_n 0, 1) := by decide +kernel
theorem dX8_eatenIn_1 : decode cX8_eatenIn 1 = .ok (.iload_n 1, 1) := by decide +kernel
theorem dX8_eatenIn_2 : decode cX8_eatenIn 2 = .ok (.invokevirtual 160, 3) := by decide +kernel
theorem dX8_eatenIn_5 : decode cX8_eatenIn 5 = .ok (.ifCond .ne 5, 3) := by decide +kernel
theorem dX8_eatenIn_8 : decode cX8_eatenIn 8 = .ok (.iconst (-1), 1) := by decide +kernel
theorem dX8_eatenIn_9 : decode cX8_eatenIn 9 = .ok (.ireturn, 1) := by decide +kernel
theorem dX8_eatenIn_10 : decode cX8_eatenIn 10 = .ok (.aload_n 0, 1) := by decide +kernel
theorem dX8_eatenIn_11 : decode cX8_eatenIn 11 = .ok (.invokevirtual 218, 3) := by decide +kernel
theorem dX8_eatenIn_14 : decode cX8_eatenIn 14 = .ok (.iconst 0, 1) := by decide +kernel
theorem dX8_eatenIn_15 : decode cX8_eatenIn 15 = .ok (.istore_n 2, 1) := by decide +kernel
theorem dX8_eatenIn_16 : decode cX8_eatenIn 16 = .ok (.iload_n 2, 1) := by decide +kernel
theorem dX8_eatenIn_17 : decode cX8_eatenIn 17 = .ok (.sipush 199, 3) := by decide +kernel
theorem dX8_eatenIn_20 : decode cX8_eatenIn 20 = .ok (.if_icmp .gt 34, 3) := by decide +kernel
theorem dX8_eatenIn_23 : decode cX8_eatenIn 23 = .ok (.aload_n 0, 1) := by decide +kernel
theorem dX8_eatenIn_24 : decode cX8_eatenIn 24 = .ok (.getfield 48, 3) := by decide +kernel
theorem dX8_eatenIn_27 : decode cX8_eatenIn 27 = .ok (.iload_n 1, 1) := by decide +kernel
theorem dX8_eatenIn_28 : decode cX8_eatenIn 28 = .ok (.invokevirtual 169, 3) := by decide +kernel
theorem dX8_eatenIn_31 : decode cX8_eatenIn 31 = .ok (.ifCond .eq 5, 3) := by decide +kernel
theorem dX8_eatenIn_34 : decode cX8_eatenIn 34 = .ok (.iload_n 2, 1) := by decide +kernel
theorem dX8_eatenIn_35 : decode cX8_eatenIn 35 = .ok (.ireturn, 1) := by decide +kernel
theorem dX8_eatenIn_36 : decode cX8_eatenIn 36 = .ok (.aload_n 0, 1) := by decide +kernel
theorem dX8_eatenIn_37 : decode cX8_eatenIn 37 = .ok (.getfield 60, 3) := by decide +kernel
theorem dX8_eatenIn_40 : decode cX8_eatenIn 40 = .ok (.aload_n 0, 1) := by decide +kernel
theorem dX8_eatenIn_41 : decode cX8_eatenIn 41 = .ok (.getfield 48, 3) := by decide +kernel
theorem dX8_eatenIn_44 : decode cX8_eatenIn 44 = .ok (.invokevirtual 232, 3) := by decide +kernel
theorem dX8_eatenIn_47 : decode cX8_eatenIn 47 = .ok (.pop, 1) := by decide +kernel
theorem dX8_eatenIn_48 : decode cX8_eatenIn 48 = .ok (.iinc 2 1, 3) := by decide +kernel
theorem dX8_eatenIn_51 : decode cX8_eatenIn 51 = .ok (.goto (-35), 3) := by decide +kernel
theorem dX8_eatenIn_54 : decode cX8_eatenIn 54 = .ok (.bipush (-2), 2) := by decide +kernel
theorem dX8_eatenIn_56 : decode cX8_eatenIn 56 = .ok (.ireturn, 1) := by decide +kernel
theorem dX8_loaf_0 : decode cX8_loaf 0 = .ok (.aload_n 0, 1) := by decide +kernel
theorem dX8_loaf_1 : decode cX8_loaf 1 = .ok (.iload_n 1, 1) := by decide +kernel
theorem dX8_loaf_2 : decode cX8_loaf 2 = .ok (.invokevirtual 196, 3) := by decide +kernel
theorem dX8_loaf_5 : decode cX8_loaf 5 = .ok (.ifCond .eq 14, 3) := by decide +kernel
theorem dX8_loaf_8 : decode cX8_loaf 8 = .ok (.iload_n 2, 1) := by decide +kernel
theorem dX8_loaf_9 : decode cX8_loaf 9 = .ok (.iconst 1, 1) := by decide +kernel
theorem dX8_loaf_10 : decode cX8_loaf 10 = .ok (.if_icmp .lt 9, 3) := by decide +kernel
theorem dX8_loaf_13 : decode cX8_loaf 13 = .ok (.iload_n 2, 1) := by decide +kernel
theorem dX8_loaf_14 : decode cX8_loaf 14 = .ok (.bipush 99, 2) := by decide +kernel
theorem dX8_loaf_16 : decode cX8_loaf 16 = .ok (.if_icmp .le 5, 3) := by decide +kernel
theorem dX8_loaf_19 : decode cX8_loaf 19 = .ok (.iconst (-1), 1) := by decide +kernel
theorem dX8_loaf_20 : decode cX8_loaf 20 = .ok (.ireturn, 1) := by decide +kernel
theorem dX8_loaf_21 : decode cX8_loaf 21 = .ok (.bipush 99, 2) := by decide +kernel
theorem dX8_loaf_23 : decode cX8_loaf 23 = .ok (.aload_n 0, 1) := by decide +kernel
theorem dX8_loaf_24 : decode cX8_loaf 24 = .ok (.getfield 41, 3) := by decide +kernel
theorem dX8_loaf_27 : decode cX8_loaf 27 = .ok (.getfield 132, 3) := by decide +kernel
theorem dX8_loaf_30 : decode cX8_loaf 30 = .ok (.iload_n 1, 1) := by decide +kernel
theorem dX8_loaf_31 : decode cX8_loaf 31 = .ok (.iaload, 1) := by decide +kernel
theorem dX8_loaf_32 : decode cX8_loaf 32 = .ok (.invokestatic 297, 3) := by decide +kernel
theorem dX8_loaf_35 : decode cX8_loaf 35 = .ok (.istore_n 3, 1) := by decide +kernel
theorem dX8_loaf_36 : decode cX8_loaf 36 = .ok (.iconst 0, 1) := by decide +kernel
theorem dX8_loaf_37 : decode cX8_loaf 37 = .ok (.istore 4, 2) := by decide +kernel
theorem dX8_loaf_39 : decode cX8_loaf 39 = .ok (.iload 4, 2) := by decide +kernel
theorem dX8_loaf_41 : decode cX8_loaf 41 = .ok (.iload_n 3, 1) := by decide +kernel
theorem dX8_loaf_42 : decode cX8_loaf 42 = .ok (.if_icmp .gt 23, 3) := by decide +kernel
theorem dX8_loaf_45 : decode cX8_loaf 45 = .ok (.aload_n 0, 1) := by decide +kernel
theorem dX8_loaf_46 : decode cX8_loaf 46 = .ok (.iload_n 1, 1) := by decide +kernel
theorem dX8_loaf_47 : decode cX8_loaf 47 = .ok (.iload 4, 2) := by decide +kernel
theorem dX8_loaf_49 : decode cX8_loaf 49 = .ok (.iload_n 2, 1) := by decide +kernel
theorem dX8_loaf_50 : decode cX8_loaf 50 = .ok (.invokevirtual 309, 3) := by decide +kernel
theorem dX8_loaf_53 : decode cX8_loaf 53 = .ok (.ifCond .eq 6, 3) := by decide +kernel
theorem dX8_loaf_56 : decode cX8_loaf 56 = .ok (.iload 4, 2) := by decide +kernel
theorem dX8_loaf_58 : decode cX8_loaf 58 = .ok (.ireturn, 1) := by decide +kernel
theorem dX8_loaf_59 : decode cX8_loaf 59 = .ok (.iinc 4 1, 3) := by decide +kernel
theorem dX8_loaf_62 : decode cX8_loaf 62 = .ok (.goto (-23), 3) := by decide +kernel
theorem dX8_loaf_65 : decode cX8_loaf 65 = .ok (.bipush (-2), 2) := by decide +kernel
theorem dX8_loaf_67 : decode cX8_loaf 67 = .ok (.ireturn, 1) := by decide +kernel
theorem dX8_staysBy_0 : decode cX8_staysBy 0 = .ok (.aload_n 0, 1) := by decide +kernel
theorem dX8_staysBy_1 : decode cX8_staysBy 1 = .ok (.invokevirtual 218, 3) := by decide +kernel
theorem dX8_staysBy_4 : decode cX8_staysBy 4 = .ok (.aload_n 0, 1) := by decide +kernel
theorem dX8_staysBy_5 : decode cX8_staysBy 5 = .ok (.getfield 48, 3) := by decide +kernel
theorem dX8_staysBy_8 : decode cX8_staysBy 8 = .ok (.getfield 132, 3) := by decide +kernel
theorem dX8_staysBy_11 : decode cX8_staysBy 11 = .ok (.iload_n 1, 1) := by decide +kernel
theorem dX8_staysBy_12 : decode cX8_staysBy 12 = .ok (.dup2, 1) := by decide +kernel
theorem dX8_staysBy_13 : decode cX8_staysBy 13 = .ok (.iaload, 1) := by decide +kernel
theorem dX8_staysBy_14 : decode cX8_staysBy 14 = .ok (.iload_n 2, 1) := by decide +kernel
theorem dX8_staysBy_15 : decode cX8_staysBy 15 = .ok (.isub, 1) := by decide +kernel
theorem dX8_staysBy_16 : decode cX8_staysBy 16 = .ok (.iastore, 1) := by decide +kernel
theorem dX8_staysBy_17 : decode cX8_staysBy 17 = .ok (.iconst 0, 1) := by decide +kernel
theorem dX8_staysBy_18 : decode cX8_staysBy 18 = .ok (.istore 4, 2) := by decide +kernel
theorem dX8_staysBy_20 : decode cX8_staysBy 20 = .ok (.iload 4, 2) := by decide +kernel
theorem dX8_staysBy_22 : decode cX8_staysBy 22 = .ok (.iload_n 3, 1) := by decide +kernel
theorem dX8_staysBy_23 : decode cX8_staysBy 23 = .ok (.if_icmp .ge 32, 3) := by decide +kernel
theorem dX8_staysBy_26 : decode cX8_staysBy 26 = .ok (.aload_n 0, 1) := by decide +kernel
theorem dX8_staysBy_27 : decode cX8_staysBy 27 = .ok (.getfield 48, 3) := by decide +kernel
theorem dX8_staysBy_30 : decode cX8_staysBy 30 = .ok (.iload_n 1, 1) := by decide +kernel
theorem dX8_staysBy_31 : decode cX8_staysBy 31 = .ok (.invokevirtual 141, 3) := by decide +kernel
theorem dX8_staysBy_34 : decode cX8_staysBy 34 = .ok (.ifCond .ne 21, 3) := by decide +kernel
theorem dX8_staysBy_37 : decode cX8_staysBy 37 = .ok (.aload_n 0, 1) := by decide +kernel
theorem dX8_staysBy_38 : decode cX8_staysBy 38 = .ok (.getfield 60, 3) := by decide +kernel
theorem dX8_staysBy_41 : decode cX8_staysBy 41 = .ok (.aload_n 0, 1) := by decide +kernel
theorem dX8_staysBy_42 : decode cX8_staysBy 42 = .ok (.getfield 48, 3) := by decide +kernel
theorem dX8_staysBy_45 : decode cX8_staysBy 45 = .ok (.invokevirtual 232, 3) := by decide +kernel
theorem dX8_staysBy_48 : decode cX8_staysBy 48 = .ok (.pop, 1) := by decide +kernel
theorem dX8_staysBy_49 : decode cX8_staysBy 49 = .ok (.iinc 4 1, 3) := by decide +kernel
theorem dX8_staysBy_52 : decode cX8_staysBy 52 = .ok (.goto (-32), 3) := by decide +kernel
theorem dX8_staysBy_55 : decode cX8_staysBy 55 = .ok (.aload_n 0, 1) := by decide +kernel
theorem dX8_staysBy_56 : decode cX8_staysBy 56 = .ok (.getfield 48, 3) := by decide +kernel
theorem dX8_staysBy_59 : decode cX8_staysBy 59 = .ok (.iload_n 1, 1) := by decide +kernel
theorem dX8_staysBy_60 : decode cX8_staysBy 60 = .ok (.invokevirtual 141, 3) := by decide +kernel
theorem dX8_staysBy_63 : decode cX8_staysBy 63 = .ok (.ifCond .ne 7, 3) := by decide +kernel
theorem dX8_staysBy_66 : decode cX8_staysBy 66 = .ok (.iconst 1, 1) := by decide +kernel
theorem dX8_staysBy_67 : decode cX8_staysBy 67 = .ok (.goto 4, 3) := by decide +kernel
theorem dX8_staysBy_70 : decode cX8_staysBy 70 = .ok (.iconst 0, 1) := by decide +kernel
theorem dX8_staysBy_71 : decode cX8_staysBy 71 = .ok (.ireturn, 1) := by decide +kernel
theorem dX8_chain_0 : decode cX8_chain 0 = .ok (.aload_n 0, 1) := by decide +kernel
theorem dX8_chain_1 : decode cX8_chain 1 = .ok (.iload_n 1, 1) := by decide +kernel
theorem dX8_chain_2 : decode cX8_chain 2 = .ok (.invokevirtual 196, 3) := by decide +kernel
theorem dX8_chain_5 : decode cX8_chain 5 = .ok (.ifCond .eq 11, 3) := by decide +kernel
theorem dX8_chain_8 : decode cX8_chain 8 = .ok (.aload_n 0, 1) := by decide +kernel
theorem dX8_chain_9 : decode cX8_chain 9 = .ok (.iload_n 2, 1) := by decide +kernel
theorem dX8_chain_10 : decode cX8_chain 10 = .ok (.invokevirtual 196, 3) := by decide +kernel
theorem dX8_chain_13 : decode cX8_chain 13 = .ok (.ifCond .ne 5, 3) := by decide +kernel
theorem dX8_chain_16 : decode cX8_chain 16 = .ok (.iconst (-1), 1) := by decide +kernel
theorem dX8_chain_17 : decode cX8_chain 17 = .ok (.ireturn, 1) := by decide +kernel
theorem dX8_chain_18 : decode cX8_chain 18 = .ok (.aload_n 0, 1) := by decide +kernel
theorem dX8_chain_19 : decode cX8_chain 19 = .ok (.iload_n 1, 1) := by decide +kernel
theorem dX8_chain_20 : decode cX8_chain 20 = .ok (.iload_n 2, 1) := by decide +kernel
theorem dX8_chain_21 : decode cX8_chain 21 = .ok (.iconst 0, 1) := by decide +kernel
theorem dX8_chain_22 : decode cX8_chain 22 = .ok (.invokevirtual 312, 3) := by decide +kernel
theorem dX8_chain_25 : decode cX8_chain 25 = .ok (.ireturn, 1) := by decide +kernel
theorem dX8_part_0 : decode cX8_part 0 = .ok (.aload_n 0, 1) := by decide +kernel
theorem dX8_part_1 : decode cX8_part 1 = .ok (.iload_n 1, 1) := by decide +kernel
theorem dX8_part_2 : decode cX8_part 2 = .ok (.invokevirtual 196, 3) := by decide +kernel
theorem dX8_part_5 : decode cX8_part 5 = .ok (.ifCond .eq 16, 3) := by decide +kernel
theorem dX8_part_8 : decode cX8_part 8 = .ok (.aload_n 0, 1) := by decide +kernel
theorem dX8_part_9 : decode cX8_part 9 = .ok (.iload_n 2, 1) := by decide +kernel
theorem dX8_part_10 : decode cX8_part 10 = .ok (.invokevirtual 196, 3) := by decide +kernel
theorem dX8_part_13 : decode cX8_part 13 = .ok (.ifCond .eq 8, 3) := by decide +kernel
theorem dX8_part_16 : decode cX8_part 16 = .ok (.iload_n 1, 1) := by decide +kernel
theorem dX8_part_17 : decode cX8_part 17 = .ok (.iload_n 2, 1) := by decide +kernel
theorem dX8_part_18 : decode cX8_part 18 = .ok (.if_icmp .ne 5, 3) := by decide +kernel
theorem dX8_part_21 : decode cX8_part 21 = .ok (.iconst (-1), 1) := by decide +kernel
theorem dX8_part_22 : decode cX8_part 22 = .ok (.ireturn, 1) := by decide +kernel
theorem dX8_part_23 : decode cX8_part 23 = .ok (.bipush (-2), 2) := by decide +kernel
theorem dX8_part_25 : decode cX8_part 25 = .ok (.istore_n 3, 1) := by decide +kernel
theorem dX8_part_26 : decode cX8_part 26 = .ok (.aload_n 0, 1) := by decide +kernel
theorem dX8_part_27 : decode cX8_part 27 = .ok (.invokevirtual 144, 3) := by decide +kernel
theorem dX8_part_30 : decode cX8_part 30 = .ok (.aload_n 0, 1) := by decide +kernel
theorem dX8_part_31 : decode cX8_part 31 = .ok (.getfield 41, 3) := by decide +kernel
theorem dX8_part_34 : decode cX8_part 34 = .ok (.invokevirtual 257, 3) := by decide +kernel
theorem dX8_part_37 : decode cX8_part 37 = .ok (.iconst 1, 1) := by decide +kernel
theorem dX8_part_38 : decode cX8_part 38 = .ok (.iload_n 1, 1) := by decide +kernel
theorem dX8_part_39 : decode cX8_part 39 = .ok (.ishl, 1) := by decide +kernel
theorem dX8_part_40 : decode cX8_part 40 = .ok (.iconst 1, 1) := by decide +kernel
theorem dX8_part_41 : decode cX8_part 41 = .ok (.iload_n 2, 1) := by decide +kernel
theorem dX8_part_42 : decode cX8_part 42 = .ok (.ishl, 1) := by decide +kernel
theorem dX8_part_43 : decode cX8_part 43 = .ok (.ior, 1) := by decide +kernel
theorem dX8_part_44 : decode cX8_part 44 = .ok (.iconst (-1), 1) := by decide +kernel
theorem dX8_part_45 : decode cX8_part 45 = .ok (.ixor, 1) := by decide +kernel
theorem dX8_part_46 : decode cX8_part 46 = .ok (.iand, 1) := by decide +kernel
theorem dX8_part_47 : decode cX8_part 47 = .ok (.istore 4, 2) := by decide +kernel
theorem dX8_part_49 : decode cX8_part 49 = .ok (.iconst 0, 1) := by decide +kernel
theorem dX8_part_50 : decode cX8_part 50 = .ok (.istore 5, 2) := by decide +kernel
theorem dX8_part_52 : decode cX8_part 52 = .ok (.iload 5, 2) := by decide +kernel
theorem dX8_part_54 : decode cX8_part 54 = .ok (.iconst 1, 1) := by decide +kernel
theorem dX8_part_55 : decode cX8_part 55 = .ok (.aload_n 0, 1) := by decide +kernel
theorem dX8_part_56 : decode cX8_part 56 = .ok (.getfield 22, 3) := by decide +kernel
theorem dX8_part_59 : decode cX8_part 59 = .ok (.getfield 235, 3) := by decide +kernel
theorem dX8_part_62 : decode cX8_part 62 = .ok (.ishl, 1) := by decide +kernel
theorem dX8_part_63 : decode cX8_part 63 = .ok (.if_icmp .ge 56, 3) := by decide +kernel
theorem dX8_part_66 : decode cX8_part 66 = .ok (.iload 5, 2) := by decide +kernel
theorem dX8_part_68 : decode cX8_part 68 = .ok (.iload 4, 2) := by decide +kernel
theorem dX8_part_70 : decode cX8_part 70 = .ok (.iconst (-1), 1) := by decide +kernel
theorem dX8_part_71 : decode cX8_part 71 = .ok (.ixor, 1) := by decide +kernel
theorem dX8_part_72 : decode cX8_part 72 = .ok (.iand, 1) := by decide +kernel
theorem dX8_part_73 : decode cX8_part 73 = .ok (.ifCond .ne 7, 3) := by decide +kernel
theorem dX8_part_76 : decode cX8_part 76 = .ok (.iconst 1, 1) := by decide +kernel
theorem dX8_part_77 : decode cX8_part 77 = .ok (.goto 4, 3) := by decide +kernel
theorem dX8_part_80 : decode cX8_part 80 = .ok (.iconst 0, 1) := by decide +kernel
theorem dX8_part_81 : decode cX8_part 81 = .ok (.istore 6, 2) := by decide +kernel
theorem dX8_part_83 : decode cX8_part 83 = .ok (.iload 6, 2) := by decide +kernel
theorem dX8_part_85 : decode cX8_part 85 = .ok (.ifCond .eq 28, 3) := by decide +kernel
theorem dX8_part_88 : decode cX8_part 88 = .ok (.iload 5, 2) := by decide +kernel
theorem dX8_part_90 : decode cX8_part 90 = .ok (.iload_n 3, 1) := by decide +kernel
theorem dX8_part_91 : decode cX8_part 91 = .ok (.invokestatic 260, 3) := by decide +kernel
theorem dX8_part_94 : decode cX8_part 94 = .ok (.ifCond .eq 19, 3) := by decide +kernel
theorem dX8_part_97 : decode cX8_part 97 = .ok (.aload_n 0, 1) := by decide +kernel
theorem dX8_part_98 : decode cX8_part 98 = .ok (.iload_n 1, 1) := by decide +kernel
theorem dX8_part_99 : decode cX8_part 99 = .ok (.iload_n 2, 1) := by decide +kernel
theorem dX8_part_100 : decode cX8_part 100 = .ok (.iload 5, 2) := by decide +kernel
theorem dX8_part_102 : decode cX8_part 102 = .ok (.invokevirtual 312, 3) := by decide +kernel
theorem dX8_part_105 : decode cX8_part 105 = .ok (.bipush (-2), 2) := by decide +kernel
theorem dX8_part_107 : decode cX8_part 107 = .ok (.if_icmp .ne 6, 3) := by decide +kernel
theorem dX8_part_110 : decode cX8_part 110 = .ok (.iload 5, 2) := by decide +kernel
theorem dX8_part_112 : decode cX8_part 112 = .ok (.istore_n 3, 1) := by decide +kernel
theorem dX8_part_113 : decode cX8_part 113 = .ok (.iinc 5 1, 3) := by decide +kernel
theorem dX8_part_116 : decode cX8_part 116 = .ok (.goto (-64), 3) := by decide +kernel
theorem dX8_part_119 : decode cX8_part 119 = .ok (.iload_n 3, 1) := by decide +kernel
theorem dX8_part_120 : decode cX8_part 120 = .ok (.ireturn, 1) := by decide +kernel
theorem dX8_passedOn_0 : decode cX8_passedOn 0 = .ok (.aload_n 0, 1) := by decide +kernel
theorem dX8_passedOn_1 : decode cX8_passedOn 1 = .ok (.invokevirtual 144, 3) := by decide +kernel
theorem dX8_passedOn_4 : decode cX8_passedOn 4 = .ok (.pop, 1) := by decide +kernel
theorem dX8_passedOn_5 : decode cX8_passedOn 5 = .ok (.iconst 1, 1) := by decide +kernel
theorem dX8_passedOn_6 : decode cX8_passedOn 6 = .ok (.iload_n 1, 1) := by decide +kernel
theorem dX8_passedOn_7 : decode cX8_passedOn 7 = .ok (.ishl, 1) := by decide +kernel
theorem dX8_passedOn_8 : decode cX8_passedOn 8 = .ok (.istore 4, 2) := by decide +kernel
theorem dX8_passedOn_10 : decode cX8_passedOn 10 = .ok (.iconst 0, 1) := by decide +kernel
theorem dX8_passedOn_11 : decode cX8_passedOn 11 = .ok (.istore 5, 2) := by decide +kernel
theorem dX8_passedOn_13 : decode cX8_passedOn 13 = .ok (.iload 5, 2) := by decide +kernel
theorem dX8_passedOn_15 : decode cX8_passedOn 15 = .ok (.bipush 6, 2) := by decide +kernel
theorem dX8_passedOn_17 : decode cX8_passedOn 17 = .ok (.if_icmp .ge 33, 3) := by decide +kernel
theorem dX8_passedOn_20 : decode cX8_passedOn 20 = .ok (.iload 4, 2) := by decide +kernel
theorem dX8_passedOn_22 : decode cX8_passedOn 22 = .ok (.iload_n 2, 1) := by decide +kernel
theorem dX8_passedOn_23 : decode cX8_passedOn 23 = .ok (.ishr, 1) := by decide +kernel
theorem dX8_passedOn_24 : decode cX8_passedOn 24 = .ok (.iconst 1, 1) := by decide +kernel
theorem dX8_passedOn_25 : decode cX8_passedOn 25 = .ok (.iand, 1) := by decide +kernel
theorem dX8_passedOn_26 : decode cX8_passedOn 26 = .ok (.ifCond .eq 6, 3) := by decide +kernel
theorem dX8_passedOn_29 : decode cX8_passedOn 29 = .ok (.iload 5, 2) := by decide +kernel
theorem dX8_passedOn_31 : decode cX8_passedOn 31 = .ok (.ireturn, 1) := by decide +kernel
theorem dX8_passedOn_32 : decode cX8_passedOn 32 = .ok (.aload_n 0, 1) := by decide +kernel
theorem dX8_passedOn_33 : decode cX8_passedOn 33 = .ok (.iload 4, 2) := by decide +kernel
theorem dX8_passedOn_35 : decode cX8_passedOn 35 = .ok (.invokevirtual 316, 3) := by decide +kernel
theorem dX8_passedOn_38 : decode cX8_passedOn 38 = .ok (.iload_n 3, 1) := by decide +kernel
theorem dX8_passedOn_39 : decode cX8_passedOn 39 = .ok (.iconst (-1), 1) := by decide +kernel
theorem dX8_passedOn_40 : decode cX8_passedOn 40 = .ok (.ixor, 1) := by decide +kernel
theorem dX8_passedOn_41 : decode cX8_passedOn 41 = .ok (.iand, 1) := by decide +kernel
theorem dX8_passedOn_42 : decode cX8_passedOn 42 = .ok (.istore 4, 2) := by decide +kernel
theorem dX8_passedOn_44 : decode cX8_passedOn 44 = .ok (.iinc 5 1, 3) := by decide +kernel
theorem dX8_passedOn_47 : decode cX8_passedOn 47 = .ok (.goto (-34), 3) := by decide +kernel
theorem dX8_passedOn_50 : decode cX8_passedOn 50 = .ok (.bipush (-2), 2) := by decide +kernel
theorem dX8_passedOn_52 : decode cX8_passedOn 52 = .ok (.ireturn, 1) := by decide +kernel
theorem dX8_withHearers_0 : decode cX8_withHearers 0 = .ok (.iload_n 1, 1) := by decide +kernel
theorem dX8_withHearers_1 : decode cX8_withHearers 1 = .ok (.istore_n 2, 1) := by decide +kernel
theorem dX8_withHearers_2 : decode cX8_withHearers 2 = .ok (.iconst 0, 1) := by decide +kernel
theorem dX8_withHearers_3 : decode cX8_withHearers 3 = .ok (.istore_n 3, 1) := by decide +kernel
theorem dX8_withHearers_4 : decode cX8_withHearers 4 = .ok (.iload_n 3, 1) := by decide +kernel
theorem dX8_withHearers_5 : decode cX8_withHearers 5 = .ok (.aload_n 0, 1) := by decide +kernel
theorem dX8_withHearers_6 : decode cX8_withHearers 6 = .ok (.getfield 22, 3) := by decide +kernel
theorem dX8_withHearers_9 : decode cX8_withHearers 9 = .ok (.getfield 235, 3) := by decide +kernel
theorem dX8_withHearers_12 : decode cX8_withHearers 12 = .ok (.if_icmp .ge 32, 3) := by decide +kernel
theorem dX8_withHearers_15 : decode cX8_withHearers 15 = .ok (.iload_n 1, 1) := by decide +kernel
theorem dX8_withHearers_16 : decode cX8_withHearers 16 = .ok (.iload_n 3, 1) := by decide +kernel
theorem dX8_withHearers_17 : decode cX8_withHearers 17 = .ok (.ishr, 1) := by decide +kernel
theorem dX8_withHearers_18 : decode cX8_withHearers 18 = .ok (.iconst 1, 1) := by decide +kernel
theorem dX8_withHearers_19 : decode cX8_withHearers 19 = .ok (.iand, 1) := by decide +kernel
theorem dX8_withHearers_20 : decode cX8_withHearers 20 = .ok (.ifCond .eq 18, 3) := by decide +kernel
theorem dX8_withHearers_23 : decode cX8_withHearers 23 = .ok (.iload_n 2, 1) := by decide +kernel
theorem dX8_withHearers_24 : decode cX8_withHearers 24 = .ok (.aload_n 0, 1) := by decide +kernel
theorem dX8_withHearers_25 : decode cX8_withHearers 25 = .ok (.getfield 60, 3) := by decide +kernel
theorem dX8_withHearers_28 : decode cX8_withHearers 28 = .ok (.aload_n 0, 1) := by decide +kernel
theorem dX8_withHearers_29 : decode cX8_withHearers 29 = .ok (.getfield 41, 3) := by decide +kernel
theorem dX8_withHearers_32 : decode cX8_withHearers 32 = .ok (.iload_n 3, 1) := by decide +kernel
theorem dX8_withHearers_33 : decode cX8_withHearers 33 = .ok (.invokevirtual 148, 3) := by decide +kernel
theorem dX8_withHearers_36 : decode cX8_withHearers 36 = .ok (.ior, 1) := by decide +kernel
theorem dX8_withHearers_37 : decode cX8_withHearers 37 = .ok (.istore_n 2, 1) := by decide +kernel
theorem dX8_withHearers_38 : decode cX8_withHearers 38 = .ok (.iinc 3 1, 3) := by decide +kernel
theorem dX8_withHearers_41 : decode cX8_withHearers 41 = .ok (.goto (-37), 3) := by decide +kernel
theorem dX8_withHearers_44 : decode cX8_withHearers 44 = .ok (.iload_n 2, 1) := by decide +kernel
theorem dX8_withHearers_45 : decode cX8_withHearers 45 = .ok (.ireturn, 1) := by decide +kernel
theorem dX8_rudest_0 : decode cX8_rudest 0 = .ok (.bipush (-2), 2) := by decide +kernel
theorem dX8_rudest_2 : decode cX8_rudest 2 = .ok (.istore_n 1, 1) := by decide +kernel
theorem dX8_rudest_3 : decode cX8_rudest 3 = .ok (.iconst 0, 1) := by decide +kernel
theorem dX8_rudest_4 : decode cX8_rudest 4 = .ok (.istore_n 2, 1) := by decide +kernel
theorem dX8_rudest_5 : decode cX8_rudest 5 = .ok (.iload_n 2, 1) := by decide +kernel
theorem dX8_rudest_6 : decode cX8_rudest 6 = .ok (.aload_n 0, 1) := by decide +kernel
theorem dX8_rudest_7 : decode cX8_rudest 7 = .ok (.getfield 22, 3) := by decide +kernel
theorem dX8_rudest_10 : decode cX8_rudest 10 = .ok (.getfield 235, 3) := by decide +kernel
theorem dX8_rudest_13 : decode cX8_rudest 13 = .ok (.if_icmp .ge 49, 3) := by decide +kernel
theorem dX8_rudest_16 : decode cX8_rudest 16 = .ok (.aload_n 0, 1) := by decide +kernel
theorem dX8_rudest_17 : decode cX8_rudest 17 = .ok (.getfield 41, 3) := by decide +kernel
theorem dX8_rudest_20 : decode cX8_rudest 20 = .ok (.iload_n 2, 1) := by decide +kernel
theorem dX8_rudest_21 : decode cX8_rudest 21 = .ok (.invokevirtual 141, 3) := by decide +kernel
theorem dX8_rudest_24 : decode cX8_rudest 24 = .ok (.ifCond .ne 32, 3) := by decide +kernel
theorem dX8_rudest_27 : decode cX8_rudest 27 = .ok (.iload_n 1, 1) := by decide +kernel
theorem dX8_rudest_28 : decode cX8_rudest 28 = .ok (.bipush (-2), 2) := by decide +kernel
theorem dX8_rudest_30 : decode cX8_rudest 30 = .ok (.if_icmp .eq 24, 3) := by decide +kernel
theorem dX8_rudest_33 : decode cX8_rudest 33 = .ok (.aload_n 0, 1) := by decide +kernel
theorem dX8_rudest_34 : decode cX8_rudest 34 = .ok (.getfield 41, 3) := by decide +kernel
theorem dX8_rudest_37 : decode cX8_rudest 37 = .ok (.getfield 129, 3) := by decide +kernel
theorem dX8_rudest_40 : decode cX8_rudest 40 = .ok (.iload_n 2, 1) := by decide +kernel
theorem dX8_rudest_41 : decode cX8_rudest 41 = .ok (.iaload, 1) := by decide +kernel
theorem dX8_rudest_42 : decode cX8_rudest 42 = .ok (.aload_n 0, 1) := by decide +kernel
theorem dX8_rudest_43 : decode cX8_rudest 43 = .ok (.getfield 41, 3) := by decide +kernel
theorem dX8_rudest_46 : decode cX8_rudest 46 = .ok (.getfield 129, 3) := by decide +kernel
theorem dX8_rudest_49 : decode cX8_rudest 49 = .ok (.iload_n 1, 1) := by decide +kernel
theorem dX8_rudest_50 : decode cX8_rudest 50 = .ok (.iaload, 1) := by decide +kernel
theorem dX8_rudest_51 : decode cX8_rudest 51 = .ok (.if_icmp .ge 5, 3) := by decide +kernel
theorem dX8_rudest_54 : decode cX8_rudest 54 = .ok (.iload_n 2, 1) := by decide +kernel
theorem dX8_rudest_55 : decode cX8_rudest 55 = .ok (.istore_n 1, 1) := by decide +kernel
theorem dX8_rudest_56 : decode cX8_rudest 56 = .ok (.iinc 2 1, 3) := by decide +kernel
theorem dX8_rudest_59 : decode cX8_rudest 59 = .ok (.goto (-54), 3) := by decide +kernel
theorem dX8_rudest_62 : decode cX8_rudest 62 = .ok (.iload_n 1, 1) := by decide +kernel
theorem dX8_rudest_63 : decode cX8_rudest 63 = .ok (.ireturn, 1) := by decide +kernel
theorem dX8_grace_0 : decode cX8_grace 0 = .ok (.iload_n 1, 1) := by decide +kernel
theorem dX8_grace_1 : decode cX8_grace 1 = .ok (.ifCond .lt 10, 3) := by decide +kernel
theorem dX8_grace_4 : decode cX8_grace 4 = .ok (.iload_n 1, 1) := by decide +kernel
theorem dX8_grace_5 : decode cX8_grace 5 = .ok (.sipush 200, 3) := by decide +kernel
theorem dX8_grace_8 : decode cX8_grace 8 = .ok (.if_icmp .le 5, 3) := by decide +kernel
theorem dX8_grace_11 : decode cX8_grace 11 = .ok (.iconst (-1), 1) := by decide +kernel
theorem dX8_grace_12 : decode cX8_grace 12 = .ok (.ireturn, 1) := by decide +kernel
theorem dX8_grace_13 : decode cX8_grace 13 = .ok (.aload_n 0, 1) := by decide +kernel
theorem dX8_grace_14 : decode cX8_grace 14 = .ok (.invokevirtual 218, 3) := by decide +kernel
theorem dX8_grace_17 : decode cX8_grace 17 = .ok (.aload_n 0, 1) := by decide +kernel
theorem dX8_grace_18 : decode cX8_grace 18 = .ok (.getfield 60, 3) := by decide +kernel
theorem dX8_grace_21 : decode cX8_grace 21 = .ok (.aload_n 0, 1) := by decide +kernel
theorem dX8_grace_22 : decode cX8_grace 22 = .ok (.getfield 48, 3) := by decide +kernel
theorem dX8_grace_25 : decode cX8_grace 25 = .ok (.iload_n 1, 1) := by decide +kernel
theorem dX8_grace_26 : decode cX8_grace 26 = .ok (.invokevirtual 214, 3) := by decide +kernel
theorem dX8_grace_29 : decode cX8_grace 29 = .ok (.iconst 0, 1) := by decide +kernel
theorem dX8_grace_30 : decode cX8_grace 30 = .ok (.istore_n 2, 1) := by decide +kernel
theorem dX8_grace_31 : decode cX8_grace 31 = .ok (.iconst 0, 1) := by decide +kernel
theorem dX8_grace_32 : decode cX8_grace 32 = .ok (.istore_n 3, 1) := by decide +kernel
theorem dX8_grace_33 : decode cX8_grace 33 = .ok (.iload_n 3, 1) := by decide +kernel
theorem dX8_grace_34 : decode cX8_grace 34 = .ok (.aload_n 0, 1) := by decide +kernel
theorem dX8_grace_35 : decode cX8_grace 35 = .ok (.getfield 22, 3) := by decide +kernel
theorem dX8_grace_38 : decode cX8_grace 38 = .ok (.getfield 235, 3) := by decide +kernel
theorem dX8_grace_41 : decode cX8_grace 41 = .ok (.if_icmp .ge 32, 3) := by decide +kernel
theorem dX8_grace_44 : decode cX8_grace 44 = .ok (.aload_n 0, 1) := by decide +kernel
theorem dX8_grace_45 : decode cX8_grace 45 = .ok (.getfield 48, 3) := by decide +kernel
theorem dX8_grace_48 : decode cX8_grace 48 = .ok (.iload_n 3, 1) := by decide +kernel
theorem dX8_grace_49 : decode cX8_grace 49 = .ok (.invokevirtual 141, 3) := by decide +kernel
theorem dX8_grace_52 : decode cX8_grace 52 = .ok (.ifCond .ne 15, 3) := by decide +kernel
theorem dX8_grace_55 : decode cX8_grace 55 = .ok (.iload_n 2, 1) := by decide +kernel
theorem dX8_grace_56 : decode cX8_grace 56 = .ok (.aload_n 0, 1) := by decide +kernel
theorem dX8_grace_57 : decode cX8_grace 57 = .ok (.getfield 48, 3) := by decide +kernel
theorem dX8_grace_60 : decode cX8_grace 60 = .ok (.getfield 129, 3) := by decide +kernel
theorem dX8_grace_63 : decode cX8_grace 63 = .ok (.iload_n 3, 1) := by decide +kernel
theorem dX8_grace_64 : decode cX8_grace 64 = .ok (.iaload, 1) := by decide +kernel
theorem dX8_grace_65 : decode cX8_grace 65 = .ok (.iadd, 1) := by decide +kernel
theorem dX8_grace_66 : decode cX8_grace 66 = .ok (.istore_n 2, 1) := by decide +kernel
theorem dX8_grace_67 : decode cX8_grace 67 = .ok (.iinc 3 1, 3) := by decide +kernel
theorem dX8_grace_70 : decode cX8_grace 70 = .ok (.goto (-37), 3) := by decide +kernel
theorem dX8_grace_73 : decode cX8_grace 73 = .ok (.iload_n 2, 1) := by decide +kernel
theorem dX8_grace_74 : decode cX8_grace 74 = .ok (.ireturn, 1) := by decide +kernel
theorem dX8_untouched_0 : decode cX8_untouched 0 = .ok (.iconst 0, 1) := by decide +kernel
theorem dX8_untouched_1 : decode cX8_untouched 1 = .ok (.istore_n 1, 1) := by decide +kernel
theorem dX8_untouched_2 : decode cX8_untouched 2 = .ok (.iconst 0, 1) := by decide +kernel
theorem dX8_untouched_3 : decode cX8_untouched 3 = .ok (.istore_n 2, 1) := by decide +kernel
theorem dX8_untouched_4 : decode cX8_untouched 4 = .ok (.iload_n 2, 1) := by decide +kernel
theorem dX8_untouched_5 : decode cX8_untouched 5 = .ok (.aload_n 0, 1) := by decide +kernel
theorem dX8_untouched_6 : decode cX8_untouched 6 = .ok (.getfield 22, 3) := by decide +kernel
theorem dX8_untouched_9 : decode cX8_untouched 9 = .ok (.getfield 303, 3) := by decide +kernel
theorem dX8_untouched_12 : decode cX8_untouched 12 = .ok (.if_icmp .ge 38, 3) := by decide +kernel
theorem dX8_untouched_15 : decode cX8_untouched 15 = .ok (.aload_n 0, 1) := by decide +kernel
theorem dX8_untouched_16 : decode cX8_untouched 16 = .ok (.getfield 41, 3) := by decide +kernel
theorem dX8_untouched_19 : decode cX8_untouched 19 = .ok (.iload_n 2, 1) := by decide +kernel
theorem dX8_untouched_20 : decode cX8_untouched 20 = .ok (.invokevirtual 169, 3) := by decide +kernel
theorem dX8_untouched_23 : decode cX8_untouched 23 = .ok (.ifCond .ne 21, 3) := by decide +kernel
theorem dX8_untouched_26 : decode cX8_untouched 26 = .ok (.aload_n 0, 1) := by decide +kernel
theorem dX8_untouched_27 : decode cX8_untouched 27 = .ok (.getfield 41, 3) := by decide +kernel
theorem dX8_untouched_30 : decode cX8_untouched 30 = .ok (.getfield 172, 3) := by decide +kernel
theorem dX8_untouched_33 : decode cX8_untouched 33 = .ok (.iload_n 2, 1) := by decide +kernel
theorem dX8_untouched_34 : decode cX8_untouched 34 = .ok (.iaload, 1) := by decide +kernel
theorem dX8_untouched_35 : decode cX8_untouched 35 = .ok (.ifCond .ne 9, 3) := by decide +kernel
theorem dX8_untouched_38 : decode cX8_untouched 38 = .ok (.iload_n 1, 1) := by decide +kernel
theorem dX8_untouched_39 : decode cX8_untouched 39 = .ok (.iconst 1, 1) := by decide +kernel
theorem dX8_untouched_40 : decode cX8_untouched 40 = .ok (.iload_n 2, 1) := by decide +kernel
theorem dX8_untouched_41 : decode cX8_untouched 41 = .ok (.ishl, 1) := by decide +kernel
theorem dX8_untouched_42 : decode cX8_untouched 42 = .ok (.ior, 1) := by decide +kernel
theorem dX8_untouched_43 : decode cX8_untouched 43 = .ok (.istore_n 1, 1) := by decide +kernel
theorem dX8_untouched_44 : decode cX8_untouched 44 = .ok (.iinc 2 1, 3) := by decide +kernel
theorem dX8_untouched_47 : decode cX8_untouched 47 = .ok (.goto (-43), 3) := by decide +kernel
theorem dX8_untouched_50 : decode cX8_untouched 50 = .ok (.iload_n 1, 1) := by decide +kernel
theorem dX8_untouched_51 : decode cX8_untouched 51 = .ok (.ireturn, 1) := by decide +kernel
theorem dX8_see_0 : decode cX8_see 0 = .ok (.iload_n 1, 1) := by decide +kernel
theorem dX8_see_1 : decode cX8_see 1 = .ok (.iconst 1, 1) := by decide +kernel
theorem dX8_see_2 : decode cX8_see 2 = .ok (.if_icmp .lt 27, 3) := by decide +kernel
theorem dX8_see_5 : decode cX8_see 5 = .ok (.iload_n 1, 1) := by decide +kernel
theorem dX8_see_6 : decode cX8_see 6 = .ok (.bipush 99, 2) := by decide +kernel
theorem dX8_see_8 : decode cX8_see 8 = .ok (.if_icmp .gt 21, 3) := by decide +kernel
theorem dX8_see_11 : decode cX8_see 11 = .ok (.aload_n 0, 1) := by decide +kernel
theorem dX8_see_12 : decode cX8_see 12 = .ok (.iload_n 2, 1) := by decide +kernel
theorem dX8_see_13 : decode cX8_see 13 = .ok (.invokevirtual 118, 3) := by decide +kernel
theorem dX8_see_16 : decode cX8_see 16 = .ok (.ifCond .eq 13, 3) := by decide +kernel
theorem dX8_see_19 : decode cX8_see 19 = .ok (.iload_n 3, 1) := by decide +kernel
theorem dX8_see_20 : decode cX8_see 20 = .ok (.ifCond .lt 9, 3) := by decide +kernel
theorem dX8_see_23 : decode cX8_see 23 = .ok (.iload_n 3, 1) := by decide +kernel
theorem dX8_see_24 : decode cX8_see 24 = .ok (.bipush 99, 2) := by decide +kernel
theorem dX8_see_26 : decode cX8_see 26 = .ok (.if_icmp .le 5, 3) := by decide +kernel
theorem dX8_see_29 : decode cX8_see 29 = .ok (.iconst (-1), 1) := by decide +kernel
theorem dX8_see_30 : decode cX8_see 30 = .ok (.ireturn, 1) := by decide +kernel
theorem dX8_see_31 : decode cX8_see 31 = .ok (.aload_n 0, 1) := by decide +kernel
theorem dX8_see_32 : decode cX8_see 32 = .ok (.getfield 74, 3) := by decide +kernel
theorem dX8_see_35 : decode cX8_see 35 = .ok (.iload_n 1, 1) := by decide +kernel
theorem dX8_see_36 : decode cX8_see 36 = .ok (.iload_n 2, 1) := by decide +kernel
theorem dX8_see_37 : decode cX8_see 37 = .ok (.iload_n 3, 1) := by decide +kernel
theorem dX8_see_38 : decode cX8_see 38 = .ok (.iload 4, 2) := by decide +kernel
theorem dX8_see_40 : decode cX8_see 40 = .ok (.iconst (-1), 1) := by decide +kernel
theorem dX8_see_41 : decode cX8_see 41 = .ok (.invokevirtual 319, 3) := by decide +kernel
theorem dX8_see_44 : decode cX8_see 44 = .ok (.ireturn, 1) := by decide +kernel
theorem dX8_strike_0 : decode cX8_strike 0 = .ok (.iload_n 1, 1) := by decide +kernel
theorem dX8_strike_1 : decode cX8_strike 1 = .ok (.ifCond .lt 14, 3) := by decide +kernel
theorem dX8_strike_4 : decode cX8_strike 4 = .ok (.iload_n 1, 1) := by decide +kernel
theorem dX8_strike_5 : decode cX8_strike 5 = .ok (.aload_n 0, 1) := by decide +kernel
theorem dX8_strike_6 : decode cX8_strike 6 = .ok (.getfield 74, 3) := by decide +kernel
theorem dX8_strike_9 : decode cX8_strike 9 = .ok (.getfield 322, 3) := by decide +kernel
theorem dX8_strike_12 : decode cX8_strike 12 = .ok (.if_icmp .lt 5, 3) := by decide +kernel
theorem dX8_strike_15 : decode cX8_strike 15 = .ok (.iconst (-1), 1) := by decide +kernel
theorem dX8_strike_16 : decode cX8_strike 16 = .ok (.ireturn, 1) := by decide +kernel
theorem dX8_strike_17 : decode cX8_strike 17 = .ok (.aload_n 0, 1) := by decide +kernel
theorem dX8_strike_18 : decode cX8_strike 18 = .ok (.getfield 74, 3) := by decide +kernel
theorem dX8_strike_21 : decode cX8_strike 21 = .ok (.iconst 0, 1) := by decide +kernel
theorem dX8_strike_22 : decode cX8_strike 22 = .ok (.iconst 0, 1) := by decide +kernel
theorem dX8_strike_23 : decode cX8_strike 23 = .ok (.iconst 0, 1) := by decide +kernel
theorem dX8_strike_24 : decode cX8_strike 24 = .ok (.iconst 0, 1) := by decide +kernel
theorem dX8_strike_25 : decode cX8_strike 25 = .ok (.iload_n 1, 1) := by decide +kernel
theorem dX8_strike_26 : decode cX8_strike 26 = .ok (.invokevirtual 319, 3) := by decide +kernel
theorem dX8_strike_29 : decode cX8_strike 29 = .ok (.ireturn, 1) := by decide +kernel
theorem dX8_known_0 : decode cX8_known 0 = .ok (.iload_n 1, 1) := by decide +kernel
theorem dX8_known_1 : decode cX8_known 1 = .ok (.iconst (-1), 1) := by decide +kernel
theorem dX8_known_2 : decode cX8_known 2 = .ok (.if_icmp .lt 14, 3) := by decide +kernel
theorem dX8_known_5 : decode cX8_known 5 = .ok (.iload_n 1, 1) := by decide +kernel
theorem dX8_known_6 : decode cX8_known 6 = .ok (.aload_n 0, 1) := by decide +kernel
theorem dX8_known_7 : decode cX8_known 7 = .ok (.getfield 74, 3) := by decide +kernel
theorem dX8_known_10 : decode cX8_known 10 = .ok (.getfield 322, 3) := by decide +kernel
theorem dX8_known_13 : decode cX8_known 13 = .ok (.if_icmp .le 5, 3) := by decide +kernel
theorem dX8_known_16 : decode cX8_known 16 = .ok (.iconst 0, 1) := by decide +kernel
theorem dX8_known_17 : decode cX8_known 17 = .ok (.ireturn, 1) := by decide +kernel
theorem dX8_known_18 : decode cX8_known 18 = .ok (.aload_n 0, 1) := by decide +kernel
theorem dX8_known_19 : decode cX8_known 19 = .ok (.getfield 74, 3) := by decide +kernel
theorem dX8_known_22 : decode cX8_known 22 = .ok (.iload_n 1, 1) := by decide +kernel
theorem dX8_known_23 : decode cX8_known 23 = .ok (.putfield 323, 3) := by decide +kernel
theorem dX8_known_26 : decode cX8_known 26 = .ok (.iconst 1, 1) := by decide +kernel
theorem dX8_known_27 : decode cX8_known 27 = .ok (.ireturn, 1) := by decide +kernel
theorem dX8_sweets_0 : decode cX8_sweets 0 = .ok (.aload_n 0, 1) := by decide +kernel
theorem dX8_sweets_1 : decode cX8_sweets 1 = .ok (.iload_n 1, 1) := by decide +kernel
theorem dX8_sweets_2 : decode cX8_sweets 2 = .ok (.invokevirtual 160, 3) := by decide +kernel
theorem dX8_sweets_5 : decode cX8_sweets 5 = .ok (.ifCond .ne 5, 3) := by decide +kernel
theorem dX8_sweets_8 : decode cX8_sweets 8 = .ok (.iconst (-1), 1) := by decide +kernel
theorem dX8_sweets_9 : decode cX8_sweets 9 = .ok (.ireturn, 1) := by decide +kernel
theorem dX8_sweets_10 : decode cX8_sweets 10 = .ok (.aload_n 0, 1) := by decide +kernel
theorem dX8_sweets_11 : decode cX8_sweets 11 = .ok (.getfield 74, 3) := by decide +kernel
theorem dX8_sweets_14 : decode cX8_sweets 14 = .ok (.invokevirtual 326, 3) := by decide +kernel
theorem dX8_sweets_17 : decode cX8_sweets 17 = .ok (.iconst 0, 1) := by decide +kernel
theorem dX8_sweets_18 : decode cX8_sweets 18 = .ok (.istore_n 2, 1) := by decide +kernel
theorem dX8_sweets_19 : decode cX8_sweets 19 = .ok (.iconst 0, 1) := by decide +kernel
theorem dX8_sweets_20 : decode cX8_sweets 20 = .ok (.istore_n 3, 1) := by decide +kernel
theorem dX8_sweets_21 : decode cX8_sweets 21 = .ok (.iload_n 3, 1) := by decide +kernel
theorem dX8_sweets_22 : decode cX8_sweets 22 = .ok (.bipush 9, 2) := by decide +kernel
theorem dX8_sweets_24 : decode cX8_sweets 24 = .ok (.if_icmp .gt 24, 3) := by decide +kernel
theorem dX8_sweets_27 : decode cX8_sweets 27 = .ok (.aload_n 0, 1) := by decide +kernel
theorem dX8_sweets_28 : decode cX8_sweets 28 = .ok (.iload_n 1, 1) := by decide +kernel
theorem dX8_sweets_29 : decode cX8_sweets 29 = .ok (.iload_n 3, 1) := by decide +kernel
theorem dX8_sweets_30 : decode cX8_sweets 30 = .ok (.invokevirtual 329, 3) := by decide +kernel
theorem dX8_sweets_33 : decode cX8_sweets 33 = .ok (.ifCond .eq 9, 3) := by decide +kernel
theorem dX8_sweets_36 : decode cX8_sweets 36 = .ok (.iload_n 2, 1) := by decide +kernel
theorem dX8_sweets_37 : decode cX8_sweets 37 = .ok (.iconst 1, 1) := by decide +kernel
theorem dX8_sweets_38 : decode cX8_sweets 38 = .ok (.iload_n 3, 1) := by decide +kernel
theorem dX8_sweets_39 : decode cX8_sweets 39 = .ok (.ishl, 1) := by decide +kernel
theorem dX8_sweets_40 : decode cX8_sweets 40 = .ok (.ior, 1) := by decide +kernel
theorem dX8_sweets_41 : decode cX8_sweets 41 = .ok (.istore_n 2, 1) := by decide +kernel
theorem dX8_sweets_42 : decode cX8_sweets 42 = .ok (.iinc 3 1, 3) := by decide +kernel
theorem dX8_sweets_45 : decode cX8_sweets 45 = .ok (.goto (-24), 3) := by decide +kernel
theorem dX8_sweets_48 : decode cX8_sweets 48 = .ok (.iload_n 2, 1) := by decide +kernel
theorem dX8_sweets_49 : decode cX8_sweets 49 = .ok (.ireturn, 1) := by decide +kernel
theorem dX8_agrees_0 : decode cX8_agrees 0 = .ok (.aload_n 0, 1) := by decide +kernel
theorem dX8_agrees_1 : decode cX8_agrees 1 = .ok (.invokevirtual 144, 3) := by decide +kernel
theorem dX8_agrees_4 : decode cX8_agrees 4 = .ok (.pop, 1) := by decide +kernel
theorem dX8_agrees_5 : decode cX8_agrees 5 = .ok (.aload_n 0, 1) := by decide +kernel
theorem dX8_agrees_6 : decode cX8_agrees 6 = .ok (.getfield 60, 3) := by decide +kernel
theorem dX8_agrees_9 : decode cX8_agrees 9 = .ok (.iload_n 1, 1) := by decide +kernel
theorem dX8_agrees_10 : decode cX8_agrees 10 = .ok (.putfield 332, 3) := by decide +kernel
theorem dX8_agrees_13 : decode cX8_agrees 13 = .ok (.aload_n 0, 1) := by decide +kernel
theorem dX8_agrees_14 : decode cX8_agrees 14 = .ok (.getfield 60, 3) := by decide +kernel
theorem dX8_agrees_17 : decode cX8_agrees 17 = .ok (.iload_n 2, 1) := by decide +kernel
theorem dX8_agrees_18 : decode cX8_agrees 18 = .ok (.putfield 335, 3) := by decide +kernel
theorem dX8_agrees_21 : decode cX8_agrees 21 = .ok (.aload_n 0, 1) := by decide +kernel
theorem dX8_agrees_22 : decode cX8_agrees 22 = .ok (.getfield 48, 3) := by decide +kernel
theorem dX8_agrees_25 : decode cX8_agrees 25 = .ok (.aload_n 0, 1) := by decide +kernel
theorem dX8_agrees_26 : decode cX8_agrees 26 = .ok (.getfield 22, 3) := by decide +kernel
theorem dX8_agrees_29 : decode cX8_agrees 29 = .ok (.invokevirtual 93, 3) := by decide +kernel
theorem dX8_agrees_32 : decode cX8_agrees 32 = .ok (.aload_n 0, 1) := by decide +kernel
theorem dX8_agrees_33 : decode cX8_agrees 33 = .ok (.getfield 74, 3) := by decide +kernel
theorem dX8_agrees_36 : decode cX8_agrees 36 = .ok (.invokevirtual 338, 3) := by decide +kernel
theorem dX8_agrees_39 : decode cX8_agrees 39 = .ok (.istore_n 3, 1) := by decide +kernel
theorem dX8_agrees_40 : decode cX8_agrees 40 = .ok (.iconst 0, 1) := by decide +kernel
theorem dX8_agrees_41 : decode cX8_agrees 41 = .ok (.istore 4, 2) := by decide +kernel
theorem dX8_agrees_43 : decode cX8_agrees 43 = .ok (.iload 4, 2) := by decide +kernel
theorem dX8_agrees_45 : decode cX8_agrees 45 = .ok (.iload_n 3, 1) := by decide +kernel
theorem dX8_agrees_46 : decode cX8_agrees 46 = .ok (.if_icmp .ge 37, 3) := by decide +kernel
theorem dX8_agrees_49 : decode cX8_agrees 49 = .ok (.aload_n 0, 1) := by decide +kernel
theorem dX8_agrees_50 : decode cX8_agrees 50 = .ok (.getfield 60, 3) := by decide +kernel
theorem dX8_agrees_53 : decode cX8_agrees 53 = .ok (.aload_n 0, 1) := by decide +kernel
theorem dX8_agrees_54 : decode cX8_agrees 54 = .ok (.getfield 48, 3) := by decide +kernel
theorem dX8_agrees_57 : decode cX8_agrees 57 = .ok (.invokevirtual 232, 3) := by decide +kernel
theorem dX8_agrees_60 : decode cX8_agrees 60 = .ok (.pop, 1) := by decide +kernel
theorem dX8_agrees_61 : decode cX8_agrees 61 = .ok (.aload_n 0, 1) := by decide +kernel
theorem dX8_agrees_62 : decode cX8_agrees 62 = .ok (.getfield 74, 3) := by decide +kernel
theorem dX8_agrees_65 : decode cX8_agrees 65 = .ok (.aload_n 0, 1) := by decide +kernel
theorem dX8_agrees_66 : decode cX8_agrees 66 = .ok (.getfield 48, 3) := by decide +kernel
theorem dX8_agrees_69 : decode cX8_agrees 69 = .ok (.invokevirtual 341, 3) := by decide +kernel
theorem dX8_agrees_72 : decode cX8_agrees 72 = .ok (.ifCond .ne 5, 3) := by decide +kernel
theorem dX8_agrees_75 : decode cX8_agrees 75 = .ok (.iconst 0, 1) := by decide +kernel
theorem dX8_agrees_76 : decode cX8_agrees 76 = .ok (.ireturn, 1) := by decide +kernel
theorem dX8_agrees_77 : decode cX8_agrees 77 = .ok (.iinc 4 1, 3) := by decide +kernel
theorem dX8_agrees_80 : decode cX8_agrees 80 = .ok (.goto (-37), 3) := by decide +kernel
theorem dX8_agrees_83 : decode cX8_agrees 83 = .ok (.iconst 1, 1) := by decide +kernel
theorem dX8_agrees_84 : decode cX8_agrees 84 = .ok (.ireturn, 1) := by decide +kernel
theorem dX8_chance_0 : decode cX8_chance 0 = .ok (.iload_n 1, 1) := by decide +kernel
theorem dX8_chance_1 : decode cX8_chance 1 = .ok (.ifCond .lt 22, 3) := by decide +kernel
theorem dX8_chance_4 : decode cX8_chance 4 = .ok (.iload_n 2, 1) := by decide +kernel
theorem dX8_chance_5 : decode cX8_chance 5 = .ok (.iconst 1, 1) := by decide +kernel
theorem dX8_chance_6 : decode cX8_chance 6 = .ok (.if_icmp .lt 17, 3) := by decide +kernel
theorem dX8_chance_9 : decode cX8_chance 9 = .ok (.iload_n 2, 1) := by decide +kernel
theorem dX8_chance_10 : decode cX8_chance 10 = .ok (.bipush 99, 2) := by decide +kernel
theorem dX8_chance_12 : decode cX8_chance 12 = .ok (.if_icmp .gt 11, 3) := by decide +kernel
theorem dX8_chance_15 : decode cX8_chance 15 = .ok (.aload_n 0, 1) := by decide +kernel
theorem dX8_chance_16 : decode cX8_chance 16 = .ok (.iload_n 3, 1) := by decide +kernel
theorem dX8_chance_17 : decode cX8_chance 17 = .ok (.invokevirtual 118, 3) := by decide +kernel
theorem dX8_chance_20 : decode cX8_chance 20 = .ok (.ifCond .ne 5, 3) := by decide +kernel
theorem dX8_chance_23 : decode cX8_chance 23 = .ok (.iconst (-1), 1) := by decide +kernel
theorem dX8_chance_24 : decode cX8_chance 24 = .ok (.ireturn, 1) := by decide +kernel
theorem dX8_chance_25 : decode cX8_chance 25 = .ok (.aload_n 0, 1) := by decide +kernel
theorem dX8_chance_26 : decode cX8_chance 26 = .ok (.getfield 60, 3) := by decide +kernel
theorem dX8_chance_29 : decode cX8_chance 29 = .ok (.aload_n 0, 1) := by decide +kernel
theorem dX8_chance_30 : decode cX8_chance 30 = .ok (.getfield 22, 3) := by decide +kernel
theorem dX8_chance_33 : decode cX8_chance 33 = .ok (.iconst 1, 1) := by decide +kernel
theorem dX8_chance_34 : decode cX8_chance 34 = .ok (.invokevirtual 211, 3) := by decide +kernel
theorem dX8_chance_37 : decode cX8_chance 37 = .ok (.iload_n 1, 1) := by decide +kernel
theorem dX8_chance_38 : decode cX8_chance 38 = .ok (.istore 4, 2) := by decide +kernel
theorem dX8_chance_40 : decode cX8_chance 40 = .ok (.iconst 0, 1) := by decide +kernel
theorem dX8_chance_41 : decode cX8_chance 41 = .ok (.istore 5, 2) := by decide +kernel
theorem dX8_chance_43 : decode cX8_chance 43 = .ok (.iconst 0, 1) := by decide +kernel
theorem dX8_chance_44 : decode cX8_chance 44 = .ok (.istore 6, 2) := by decide +kernel
theorem dX8_chance_46 : decode cX8_chance 46 = .ok (.iload 6, 2) := by decide +kernel
theorem dX8_chance_48 : decode cX8_chance 48 = .ok (.bipush 10, 2) := by decide +kernel
theorem dX8_chance_50 : decode cX8_chance 50 = .ok (.if_icmp .ge 64, 3) := by decide +kernel
theorem dX8_chance_53 : decode cX8_chance 53 = .ok (.aload_n 0, 1) := by decide +kernel
theorem dX8_chance_54 : decode cX8_chance 54 = .ok (.getfield 48, 3) := by decide +kernel
theorem dX8_chance_57 : decode cX8_chance 57 = .ok (.aload_n 0, 1) := by decide +kernel
theorem dX8_chance_58 : decode cX8_chance 58 = .ok (.getfield 41, 3) := by decide +kernel
theorem dX8_chance_61 : decode cX8_chance 61 = .ok (.invokevirtual 345, 3) := by decide +kernel
theorem dX8_chance_64 : decode cX8_chance 64 = .ok (.aload_n 0, 1) := by decide +kernel
theorem dX8_chance_65 : decode cX8_chance 65 = .ok (.getfield 48, 3) := by decide +kernel
theorem dX8_chance_68 : decode cX8_chance 68 = .ok (.iload 4, 2) := by decide +kernel
theorem dX8_chance_70 : decode cX8_chance 70 = .ok (.putfield 349, 3) := by decide +kernel
theorem dX8_chance_73 : decode cX8_chance 73 = .ok (.aload_n 0, 1) := by decide +kernel
theorem dX8_chance_74 : decode cX8_chance 74 = .ok (.getfield 60, 3) := by decide +kernel
theorem dX8_chance_77 : decode cX8_chance 77 = .ok (.aload_n 0, 1) := by decide +kernel
theorem dX8_chance_78 : decode cX8_chance 78 = .ok (.getfield 48, 3) := by decide +kernel
theorem dX8_chance_81 : decode cX8_chance 81 = .ok (.iload_n 2, 1) := by decide +kernel
theorem dX8_chance_82 : decode cX8_chance 82 = .ok (.invokevirtual 214, 3) := by decide +kernel
theorem dX8_chance_85 : decode cX8_chance 85 = .ok (.aload_n 0, 1) := by decide +kernel
theorem dX8_chance_86 : decode cX8_chance 86 = .ok (.getfield 48, 3) := by decide +kernel
theorem dX8_chance_89 : decode cX8_chance 89 = .ok (.getfield 349, 3) := by decide +kernel
theorem dX8_chance_92 : decode cX8_chance 92 = .ok (.istore 4, 2) := by decide +kernel
theorem dX8_chance_94 : decode cX8_chance 94 = .ok (.aload_n 0, 1) := by decide +kernel
theorem dX8_chance_95 : decode cX8_chance 95 = .ok (.getfield 48, 3) := by decide +kernel
theorem dX8_chance_98 : decode cX8_chance 98 = .ok (.iload_n 3, 1) := by decide +kernel
theorem dX8_chance_99 : decode cX8_chance 99 = .ok (.invokevirtual 141, 3) := by decide +kernel
theorem dX8_chance_102 : decode cX8_chance 102 = .ok (.ifCond .eq 6, 3) := by decide +kernel
theorem dX8_chance_105 : decode cX8_chance 105 = .ok (.iinc 5 1, 3) := by decide +kernel
theorem dX8_chance_108 : decode cX8_chance 108 = .ok (.iinc 6 1, 3) := by decide +kernel
theorem dX8_chance_111 : decode cX8_chance 111 = .ok (.goto (-65), 3) := by decide +kernel
theorem dX8_chance_114 : decode cX8_chance 114 = .ok (.iload 5, 2) := by decide +kernel
theorem dX8_chance_116 : decode cX8_chance 116 = .ok (.ireturn, 1) := by decide +kernel
theorem dX8_tried_0 : decode cX8_tried 0 = .ok (.iload_n 1, 1) := by decide +kernel
theorem dX8_tried_1 : decode cX8_tried 1 = .ok (.ifCond .lt 19, 3) := by decide +kernel
theorem dX8_tried_4 : decode cX8_tried 4 = .ok (.iload_n 1, 1) := by decide +kernel
theorem dX8_tried_5 : decode cX8_tried 5 = .ok (.iconst 4, 1) := by decide +kernel
theorem dX8_tried_6 : decode cX8_tried 6 = .ok (.if_icmp .gt 14, 3) := by decide +kernel
theorem dX8_tried_9 : decode cX8_tried 9 = .ok (.iload_n 3, 1) := by decide +kernel
theorem dX8_tried_10 : decode cX8_tried 10 = .ok (.ifCond .lt 10, 3) := by decide +kernel
theorem dX8_tried_13 : decode cX8_tried 13 = .ok (.iload_n 3, 1) := by decide +kernel
theorem dX8_tried_14 : decode cX8_tried 14 = .ok (.sipush 200, 3) := by decide +kernel
theorem dX8_tried_17 : decode cX8_tried 17 = .ok (.if_icmp .le 5, 3) := by decide +kernel
theorem dX8_tried_20 : decode cX8_tried 20 = .ok (.iconst (-1), 1) := by decide +kernel
theorem dX8_tried_21 : decode cX8_tried 21 = .ok (.ireturn, 1) := by decide +kernel
theorem dX8_tried_22 : decode cX8_tried 22 = .ok (.iload_n 1, 1) := by decide +kernel
theorem dX8_tried_23 : decode cX8_tried 23 = .ok (.iconst 2, 1) := by decide +kernel
theorem dX8_tried_24 : decode cX8_tried 24 = .ok (.if_icmp .ne 14, 3) := by decide +kernel
theorem dX8_tried_27 : decode cX8_tried 27 = .ok (.aload_n 0, 1) := by decide +kernel
theorem dX8_tried_28 : decode cX8_tried 28 = .ok (.iload_n 2, 1) := by decide +kernel
theorem dX8_tried_29 : decode cX8_tried 29 = .ok (.invokevirtual 118, 3) := by decide +kernel
theorem dX8_tried_32 : decode cX8_tried 32 = .ok (.ifCond .ne 12, 3) := by decide +kernel
theorem dX8_tried_35 : decode cX8_tried 35 = .ok (.goto 7, 3) := by decide +kernel
theorem dX8_tried_38 : decode cX8_tried 38 = .ok (.iload_n 2, 1) := by decide +kernel
theorem dX8_tried_39 : decode cX8_tried 39 = .ok (.ifCond .eq 5, 3) := by decide +kernel
theorem dX8_tried_42 : decode cX8_tried 42 = .ok (.iconst (-1), 1) := by decide +kernel
theorem dX8_tried_43 : decode cX8_tried 43 = .ok (.ireturn, 1) := by decide +kernel
theorem dX8_tried_44 : decode cX8_tried 44 = .ok (.aload_n 0, 1) := by decide +kernel
theorem dX8_tried_45 : decode cX8_tried 45 = .ok (.invokevirtual 218, 3) := by decide +kernel
theorem dX8_tried_48 : decode cX8_tried 48 = .ok (.iload_n 1, 1) := by decide +kernel
theorem dX8_tried_49 : decode cX8_tried 49 = .ok (.tableswitch 75 0 3 #[31, 42, 53, 64], 31) := by decide +kernel
theorem dX8_tried_80 : decode cX8_tried 80 = .ok (.aload_n 0, 1) := by decide +kernel
theorem dX8_tried_81 : decode cX8_tried 81 = .ok (.getfield 60, 3) := by decide +kernel
theorem dX8_tried_84 : decode cX8_tried 84 = .ok (.iconst 2, 1) := by decide +kernel
theorem dX8_tried_85 : decode cX8_tried 85 = .ok (.putfield 352, 3) := by decide +kernel
theorem dX8_tried_88 : decode cX8_tried 88 = .ok (.goto 44, 3) := by decide +kernel
theorem dX8_tried_91 : decode cX8_tried 91 = .ok (.aload_n 0, 1) := by decide +kernel
theorem dX8_tried_92 : decode cX8_tried 92 = .ok (.getfield 60, 3) := by decide +kernel
theorem dX8_tried_95 : decode cX8_tried 95 = .ok (.iconst 1, 1) := by decide +kernel
theorem dX8_tried_96 : decode cX8_tried 96 = .ok (.putfield 355, 3) := by decide +kernel
theorem dX8_tried_99 : decode cX8_tried 99 = .ok (.goto 33, 3) := by decide +kernel
theorem dX8_tried_102 : decode cX8_tried 102 = .ok (.aload_n 0, 1) := by decide +kernel
theorem dX8_tried_103 : decode cX8_tried 103 = .ok (.getfield 60, 3) := by decide +kernel
theorem dX8_tried_106 : decode cX8_tried 106 = .ok (.iload_n 2, 1) := by decide +kernel
theorem dX8_tried_107 : decode cX8_tried 107 = .ok (.putfield 358, 3) := by decide +kernel
theorem dX8_tried_110 : decode cX8_tried 110 = .ok (.goto 22, 3) := by decide +kernel
theorem dX8_tried_113 : decode cX8_tried 113 = .ok (.aload_n 0, 1) := by decide +kernel
theorem dX8_tried_114 : decode cX8_tried 114 = .ok (.getfield 60, 3) := by decide +kernel
theorem dX8_tried_117 : decode cX8_tried 117 = .ok (.iconst 1, 1) := by decide +kernel
theorem dX8_tried_118 : decode cX8_tried 118 = .ok (.putfield 361, 3) := by decide +kernel
theorem dX8_tried_121 : decode cX8_tried 121 = .ok (.goto 11, 3) := by decide +kernel
theorem dX8_tried_124 : decode cX8_tried 124 = .ok (.aload_n 0, 1) := by decide +kernel
theorem dX8_tried_125 : decode cX8_tried 125 = .ok (.getfield 60, 3) := by decide +kernel
theorem dX8_tried_128 : decode cX8_tried 128 = .ok (.iconst 1, 1) := by decide +kernel
theorem dX8_tried_129 : decode cX8_tried 129 = .ok (.putfield 364, 3) := by decide +kernel
theorem dX8_tried_132 : decode cX8_tried 132 = .ok (.aload_n 0, 1) := by decide +kernel
theorem dX8_tried_133 : decode cX8_tried 133 = .ok (.getfield 60, 3) := by decide +kernel
theorem dX8_tried_136 : decode cX8_tried 136 = .ok (.aload_n 0, 1) := by decide +kernel
theorem dX8_tried_137 : decode cX8_tried 137 = .ok (.getfield 48, 3) := by decide +kernel
theorem dX8_tried_140 : decode cX8_tried 140 = .ok (.iload_n 3, 1) := by decide +kernel
theorem dX8_tried_141 : decode cX8_tried 141 = .ok (.invokevirtual 214, 3) := by decide +kernel
theorem dX8_tried_144 : decode cX8_tried 144 = .ok (.aload_n 0, 1) := by decide +kernel
theorem dX8_tried_145 : decode cX8_tried 145 = .ok (.invokevirtual 225, 3) := by decide +kernel
theorem dX8_tried_148 : decode cX8_tried 148 = .ok (.ireturn, 1) := by decide +kernel
theorem dX8_undo_0 : decode cX8_undo 0 = .ok (.aload_n 0, 1) := by decide +kernel
theorem dX8_undo_1 : decode cX8_undo 1 = .ok (.getfield 67, 3) := by decide +kernel
theorem dX8_undo_4 : decode cX8_undo 4 = .ok (.aload_n 0, 1) := by decide +kernel
theorem dX8_undo_5 : decode cX8_undo 5 = .ok (.getfield 41, 3) := by decide +kernel
theorem dX8_undo_8 : decode cX8_undo 8 = .ok (.invokevirtual 367, 3) := by decide +kernel
theorem dX8_undo_11 : decode cX8_undo 11 = .ok (.ireturn, 1) := by decide +kernel
theorem dX8_keep_0 : decode cX8_keep 0 = .ok (.aload_n 0, 1) := by decide +kernel
theorem dX8_keep_1 : decode cX8_keep 1 = .ok (.getfield 45, 3) := by decide +kernel
theorem dX8_keep_4 : decode cX8_keep 4 = .ok (.aload_n 0, 1) := by decide +kernel
theorem dX8_keep_5 : decode cX8_keep 5 = .ok (.getfield 41, 3) := by decide +kernel
theorem dX8_keep_8 : decode cX8_keep 8 = .ok (.invokevirtual 345, 3) := by decide +kernel
theorem dX8_keep_11 : decode cX8_keep 11 = .ok (.aload_n 0, 1) := by decide +kernel
theorem dX8_keep_12 : decode cX8_keep 12 = .ok (.iconst 1, 1) := by decide +kernel
theorem dX8_keep_13 : decode cX8_keep 13 = .ok (.putfield 51, 3) := by decide +kernel
theorem dX8_keep_16 : decode cX8_keep 16 = .ok (.aload_n 0, 1) := by decide +kernel
theorem dX8_keep_17 : decode cX8_keep 17 = .ok (.getfield 41, 3) := by decide +kernel
theorem dX8_keep_20 : decode cX8_keep 20 = .ok (.getfield 208, 3) := by decide +kernel
theorem dX8_keep_23 : decode cX8_keep 23 = .ok (.ireturn, 1) := by decide +kernel
theorem dX8_back_0 : decode cX8_back 0 = .ok (.aload_n 0, 1) := by decide +kernel
theorem dX8_back_1 : decode cX8_back 1 = .ok (.getfield 51, 3) := by decide +kernel
theorem dX8_back_4 : decode cX8_back 4 = .ok (.ifCond .ne 5, 3) := by decide +kernel
theorem dX8_back_7 : decode cX8_back 7 = .ok (.iconst (-1), 1) := by decide +kernel
theorem dX8_back_8 : decode cX8_back 8 = .ok (.ireturn, 1) := by decide +kernel
theorem dX8_back_9 : decode cX8_back 9 = .ok (.aload_n 0, 1) := by decide +kernel
theorem dX8_back_10 : decode cX8_back 10 = .ok (.getfield 41, 3) := by decide +kernel
theorem dX8_back_13 : decode cX8_back 13 = .ok (.aload_n 0, 1) := by decide +kernel
theorem dX8_back_14 : decode cX8_back 14 = .ok (.getfield 45, 3) := by decide +kernel
theorem dX8_back_17 : decode cX8_back 17 = .ok (.invokevirtual 345, 3) := by decide +kernel
theorem dX8_back_20 : decode cX8_back 20 = .ok (.aload_n 0, 1) := by decide +kernel
theorem dX8_back_21 : decode cX8_back 21 = .ok (.getfield 67, 3) := by decide +kernel
theorem dX8_back_24 : decode cX8_back 24 = .ok (.iconst 0, 1) := by decide +kernel
theorem dX8_back_25 : decode cX8_back 25 = .ok (.putfield 99, 3) := by decide +kernel
theorem dX8_back_28 : decode cX8_back 28 = .ok (.aload_n 0, 1) := by decide +kernel
theorem dX8_back_29 : decode cX8_back 29 = .ok (.getfield 41, 3) := by decide +kernel
theorem dX8_back_32 : decode cX8_back 32 = .ok (.getfield 208, 3) := by decide +kernel
theorem dX8_back_35 : decode cX8_back 35 = .ok (.ireturn, 1) := by decide +kernel
theorem dX8_count_0 : decode cX8_count 0 = .ok (.iload_n 1, 1) := by decide +kernel
theorem dX8_count_1 : decode cX8_count 1 = .ok (.tableswitch 183 0 12 #[67, 75, 83, 91, 102, 110, 125, 134, 145, 154, 159, 167, 175], 67) := by decide +kernel
theorem dX8_count_68 : decode cX8_count 68 = .ok (.aload_n 0, 1) := by decide +kernel
theorem dX8_count_69 : decode cX8_count 69 = .ok (.getfield 22, 3) := by decide +kernel
theorem dX8_count_72 : decode cX8_count 72 = .ok (.getfield 235, 3) := by decide +kernel
theorem dX8_count_75 : decode cX8_count 75 = .ok (.ireturn, 1) := by decide +kernel
theorem dX8_count_76 : decode cX8_count 76 = .ok (.aload_n 0, 1) := by decide +kernel
theorem dX8_count_77 : decode cX8_count 77 = .ok (.getfield 22, 3) := by decide +kernel
theorem dX8_count_80 : decode cX8_count 80 = .ok (.getfield 303, 3) := by decide +kernel
theorem dX8_count_83 : decode cX8_count 83 = .ok (.ireturn, 1) := by decide +kernel
theorem dX8_count_84 : decode cX8_count 84 = .ok (.aload_n 0, 1) := by decide +kernel
theorem dX8_count_85 : decode cX8_count 85 = .ok (.getfield 22, 3) := by decide +kernel
theorem dX8_count_88 : decode cX8_count 88 = .ok (.getfield 370, 3) := by decide +kernel
theorem dX8_count_91 : decode cX8_count 91 = .ok (.ireturn, 1) := by decide +kernel
theorem dX8_count_92 : decode cX8_count 92 = .ok (.aload_n 0, 1) := by decide +kernel
theorem dX8_count_93 : decode cX8_count 93 = .ok (.getfield 22, 3) := by decide +kernel
theorem dX8_count_96 : decode cX8_count 96 = .ok (.getfield 373, 3) := by decide +kernel
theorem dX8_count_99 : decode cX8_count 99 = .ok (.getfield 377, 3) := by decide +kernel
theorem dX8_count_102 : decode cX8_count 102 = .ok (.ireturn, 1) := by decide +kernel
theorem dX8_count_103 : decode cX8_count 103 = .ok (.aload_n 0, 1) := by decide +kernel
theorem dX8_count_104 : decode cX8_count 104 = .ok (.getfield 41, 3) := by decide +kernel
theorem dX8_count_107 : decode cX8_count 107 = .ok (.getfield 208, 3) := by decide +kernel
theorem dX8_count_110 : decode cX8_count 110 = .ok (.ireturn, 1) := by decide +kernel
theorem dX8_count_111 : decode cX8_count 111 = .ok (.aload_n 0, 1) := by decide +kernel
theorem dX8_count_112 : decode cX8_count 112 = .ok (.invokevirtual 144, 3) := by decide +kernel
theorem dX8_count_115 : decode cX8_count 115 = .ok (.aload_n 0, 1) := by decide +kernel
theorem dX8_count_116 : decode cX8_count 116 = .ok (.getfield 41, 3) := by decide +kernel
theorem dX8_count_119 : decode cX8_count 119 = .ok (.invokevirtual 257, 3) := by decide +kernel
theorem dX8_count_122 : decode cX8_count 122 = .ok (.invokestatic 269, 3) := by decide +kernel
theorem dX8_count_125 : decode cX8_count 125 = .ok (.ireturn, 1) := by decide +kernel
theorem dX8_count_126 : decode cX8_count 126 = .ok (.aload_n 0, 1) := by decide +kernel
theorem dX8_count_127 : decode cX8_count 127 = .ok (.aload_n 0, 1) := by decide +kernel
theorem dX8_count_128 : decode cX8_count 128 = .ok (.getfield 41, 3) := by decide +kernel
theorem dX8_count_131 : decode cX8_count 131 = .ok (.invokevirtual 221, 3) := by decide +kernel
theorem dX8_count_134 : decode cX8_count 134 = .ok (.ireturn, 1) := by decide +kernel
theorem dX8_count_135 : decode cX8_count 135 = .ok (.aload_n 0, 1) := by decide +kernel
theorem dX8_count_136 : decode cX8_count 136 = .ok (.getfield 41, 3) := by decide +kernel
theorem dX8_count_139 : decode cX8_count 139 = .ok (.getfield 382, 3) := by decide +kernel
theorem dX8_count_142 : decode cX8_count 142 = .ok (.invokestatic 269, 3) := by decide +kernel
theorem dX8_count_145 : decode cX8_count 145 = .ok (.ireturn, 1) := by decide +kernel
theorem dX8_count_146 : decode cX8_count 146 = .ok (.aload_n 0, 1) := by decide +kernel
theorem dX8_count_147 : decode cX8_count 147 = .ok (.aload_n 0, 1) := by decide +kernel
theorem dX8_count_148 : decode cX8_count 148 = .ok (.getfield 41, 3) := by decide +kernel
theorem dX8_count_151 : decode cX8_count 151 = .ok (.invokevirtual 229, 3) := by decide +kernel
theorem dX8_count_154 : decode cX8_count 154 = .ok (.ireturn, 1) := by decide +kernel
theorem dX8_count_155 : decode cX8_count 155 = .ok (.aload_n 0, 1) := by decide +kernel
theorem dX8_count_156 : decode cX8_count 156 = .ok (.invokevirtual 385, 3) := by decide +kernel
theorem dX8_count_159 : decode cX8_count 159 = .ok (.ireturn, 1) := by decide +kernel
theorem dX8_count_160 : decode cX8_count 160 = .ok (.aload_n 0, 1) := by decide +kernel
theorem dX8_count_161 : decode cX8_count 161 = .ok (.getfield 74, 3) := by decide +kernel
theorem dX8_count_164 : decode cX8_count 164 = .ok (.getfield 322, 3) := by decide +kernel
theorem dX8_count_167 : decode cX8_count 167 = .ok (.ireturn, 1) := by decide +kernel
theorem dX8_count_168 : decode cX8_count 168 = .ok (.aload_n 0, 1) := by decide +kernel
theorem dX8_count_169 : decode cX8_count 169 = .ok (.getfield 74, 3) := by decide +kernel
theorem dX8_count_172 : decode cX8_count 172 = .ok (.invokevirtual 388, 3) := by decide +kernel
theorem dX8_count_175 : decode cX8_count 175 = .ok (.ireturn, 1) := by decide +kernel
theorem dX8_count_176 : decode cX8_count 176 = .ok (.aload_n 0, 1) := by decide +kernel
theorem dX8_count_177 : decode cX8_count 177 = .ok (.getfield 67, 3) := by decide +kernel
theorem dX8_count_180 : decode cX8_count 180 = .ok (.getfield 99, 3) := by decide +kernel
theorem dX8_count_183 : decode cX8_count 183 = .ok (.ireturn, 1) := by decide +kernel
theorem dX8_count_184 : decode cX8_count 184 = .ok (.iconst (-1), 1) := by decide +kernel
theorem dX8_count_185 : decode cX8_count 185 = .ok (.ireturn, 1) := by decide +kernel
theorem dX8_isGuest_0 : decode cX8_isGuest 0 = .ok (.iload_n 1, 1) := by decide +kernel
theorem dX8_isGuest_1 : decode cX8_isGuest 1 = .ok (.ifCond .lt 18, 3) := by decide +kernel
theorem dX8_isGuest_4 : decode cX8_isGuest 4 = .ok (.iload_n 1, 1) := by decide +kernel
theorem dX8_isGuest_5 : decode cX8_isGuest 5 = .ok (.aload_n 0, 1) := by decide +kernel
theorem dX8_isGuest_6 : decode cX8_isGuest 6 = .ok (.getfield 22, 3) := by decide +kernel
theorem dX8_isGuest_9 : decode cX8_isGuest 9 = .ok (.getfield 235, 3) := by decide +kernel
theorem dX8_isGuest_12 : decode cX8_isGuest 12 = .ok (.if_icmp .ge 7, 3) := by decide +kernel
theorem dX8_isGuest_15 : decode cX8_isGuest 15 = .ok (.iconst 1, 1) := by decide +kernel
theorem dX8_isGuest_16 : decode cX8_isGuest 16 = .ok (.goto 4, 3) := by decide +kernel
theorem dX8_isGuest_19 : decode cX8_isGuest 19 = .ok (.iconst 0, 1) := by decide +kernel
theorem dX8_isGuest_20 : decode cX8_isGuest 20 = .ok (.ireturn, 1) := by decide +kernel
theorem dX8_isFruit_0 : decode cX8_isFruit 0 = .ok (.iload_n 1, 1) := by decide +kernel
theorem dX8_isFruit_1 : decode cX8_isFruit 1 = .ok (.ifCond .lt 18, 3) := by decide +kernel
theorem dX8_isFruit_4 : decode cX8_isFruit 4 = .ok (.iload_n 1, 1) := by decide +kernel
theorem dX8_isFruit_5 : decode cX8_isFruit 5 = .ok (.aload_n 0, 1) := by decide +kernel
theorem dX8_isFruit_6 : decode cX8_isFruit 6 = .ok (.getfield 22, 3) := by decide +kernel
theorem dX8_isFruit_9 : decode cX8_isFruit 9 = .ok (.getfield 303, 3) := by decide +kernel
theorem dX8_isFruit_12 : decode cX8_isFruit 12 = .ok (.if_icmp .ge 7, 3) := by decide +kernel
theorem dX8_isFruit_15 : decode cX8_isFruit 15 = .ok (.iconst 1, 1) := by decide +kernel
theorem dX8_isFruit_16 : decode cX8_isFruit 16 = .ok (.goto 4, 3) := by decide +kernel
theorem dX8_isFruit_19 : decode cX8_isFruit 19 = .ok (.iconst 0, 1) := by decide +kernel
theorem dX8_isFruit_20 : decode cX8_isFruit 20 = .ok (.ireturn, 1) := by decide +kernel
theorem dX8_isThere_0 : decode cX8_isThere 0 = .ok (.aload_n 0, 1) := by decide +kernel
theorem dX8_isThere_1 : decode cX8_isThere 1 = .ok (.iload_n 1, 1) := by decide +kernel
theorem dX8_isThere_2 : decode cX8_isThere 2 = .ok (.invokevirtual 118, 3) := by decide +kernel
theorem dX8_isThere_5 : decode cX8_isThere 5 = .ok (.ifCond .eq 18, 3) := by decide +kernel
theorem dX8_isThere_8 : decode cX8_isThere 8 = .ok (.aload_n 0, 1) := by decide +kernel
theorem dX8_isThere_9 : decode cX8_isThere 9 = .ok (.getfield 41, 3) := by decide +kernel
theorem dX8_isThere_12 : decode cX8_isThere 12 = .ok (.iload_n 1, 1) := by decide +kernel
theorem dX8_isThere_13 : decode cX8_isThere 13 = .ok (.invokevirtual 141, 3) := by decide +kernel
theorem dX8_isThere_16 : decode cX8_isThere 16 = .ok (.ifCond .ne 7, 3) := by decide +kernel
theorem dX8_isThere_19 : decode cX8_isThere 19 = .ok (.iconst 1, 1) := by decide +kernel
theorem dX8_isThere_20 : decode cX8_isThere 20 = .ok (.goto 4, 3) := by decide +kernel
theorem dX8_isThere_23 : decode cX8_isThere 23 = .ok (.iconst 0, 1) := by decide +kernel
theorem dX8_isThere_24 : decode cX8_isThere 24 = .ok (.ireturn, 1) := by decide +kernel
theorem dX8_areTwoGuests_0 : decode cX8_areTwoGuests 0 = .ok (.aload_n 0, 1) := by decide +kernel
theorem dX8_areTwoGuests_1 : decode cX8_areTwoGuests 1 = .ok (.iload_n 1, 1) := by decide +kernel
theorem dX8_areTwoGuests_2 : decode cX8_areTwoGuests 2 = .ok (.invokevirtual 118, 3) := by decide +kernel
theorem dX8_areTwoGuests_5 : decode cX8_areTwoGuests 5 = .ok (.ifCond .eq 20, 3) := by decide +kernel
theorem dX8_areTwoGuests_8 : decode cX8_areTwoGuests 8 = .ok (.aload_n 0, 1) := by decide +kernel
theorem dX8_areTwoGuests_9 : decode cX8_areTwoGuests 9 = .ok (.iload_n 2, 1) := by decide +kernel
theorem dX8_areTwoGuests_10 : decode cX8_areTwoGuests 10 = .ok (.invokevirtual 118, 3) := by decide +kernel
theorem dX8_areTwoGuests_13 : decode cX8_areTwoGuests 13 = .ok (.ifCond .eq 12, 3) := by decide +kernel
theorem dX8_areTwoGuests_16 : decode cX8_areTwoGuests 16 = .ok (.iload_n 1, 1) := by decide +kernel
theorem dX8_areTwoGuests_17 : decode cX8_areTwoGuests 17 = .ok (.iload_n 2, 1) := by decide +kernel
theorem dX8_areTwoGuests_18 : decode cX8_areTwoGuests 18 = .ok (.if_icmp .eq 7, 3) := by decide +kernel
theorem dX8_areTwoGuests_21 : decode cX8_areTwoGuests 21 = .ok (.iconst 1, 1) := by decide +kernel
theorem dX8_areTwoGuests_22 : decode cX8_areTwoGuests 22 = .ok (.goto 4, 3) := by decide +kernel
theorem dX8_areTwoGuests_25 : decode cX8_areTwoGuests 25 = .ok (.iconst 0, 1) := by decide +kernel
theorem dX8_areTwoGuests_26 : decode cX8_areTwoGuests 26 = .ok (.ireturn, 1) := by decide +kernel
theorem dX8_plainCourse_0 : decode cX8_plainCourse 0 = .ok (.aload_n 0, 1) := by decide +kernel
theorem dX8_plainCourse_1 : decode cX8_plainCourse 1 = .ok (.getfield 60, 3) := by decide +kernel
theorem dX8_plainCourse_4 : decode cX8_plainCourse 4 = .ok (.aload_n 0, 1) := by decide +kernel
theorem dX8_plainCourse_5 : decode cX8_plainCourse 5 = .ok (.getfield 22, 3) := by decide +kernel
theorem dX8_plainCourse_8 : decode cX8_plainCourse 8 = .ok (.iconst 0, 1) := by decide +kernel
theorem dX8_plainCourse_9 : decode cX8_plainCourse 9 = .ok (.invokevirtual 211, 3) := by decide +kernel
theorem dX8_plainCourse_12 : decode cX8_plainCourse 12 = .ok (.aload_n 0, 1) := by decide +kernel
theorem dX8_plainCourse_13 : decode cX8_plainCourse 13 = .ok (.getfield 60, 3) := by decide +kernel
theorem dX8_plainCourse_16 : decode cX8_plainCourse 16 = .ok (.areturn, 1) := by decide +kernel
theorem dX8_startTrial_0 : decode cX8_startTrial 0 = .ok (.aload_n 0, 1) := by decide +kernel
theorem dX8_startTrial_1 : decode cX8_startTrial 1 = .ok (.invokevirtual 144, 3) := by decide +kernel
theorem dX8_startTrial_4 : decode cX8_startTrial 4 = .ok (.pop, 1) := by decide +kernel
theorem dX8_startTrial_5 : decode cX8_startTrial 5 = .ok (.aload_n 0, 1) := by decide +kernel
theorem dX8_startTrial_6 : decode cX8_startTrial 6 = .ok (.getfield 48, 3) := by decide +kernel
theorem dX8_startTrial_9 : decode cX8_startTrial 9 = .ok (.aload_n 0, 1) := by decide +kernel
theorem dX8_startTrial_10 : decode cX8_startTrial 10 = .ok (.getfield 41, 3) := by decide +kernel
theorem dX8_startTrial_13 : decode cX8_startTrial 13 = .ok (.invokevirtual 345, 3) := by decide +kernel
theorem dX8_startTrial_16 : decode cX8_startTrial 16 = .ok (.return_, 1) := by decide +kernel
theorem dX8_fallenInTrial_0 : decode cX8_fallenInTrial 0 = .ok (.aload_n 0, 1) := by decide +kernel
theorem dX8_fallenInTrial_1 : decode cX8_fallenInTrial 1 = .ok (.getfield 48, 3) := by decide +kernel
theorem dX8_fallenInTrial_4 : decode cX8_fallenInTrial 4 = .ok (.getfield 391, 3) := by decide +kernel
theorem dX8_fallenInTrial_7 : decode cX8_fallenInTrial 7 = .ok (.aload_n 0, 1) := by decide +kernel
theorem dX8_fallenInTrial_8 : decode cX8_fallenInTrial 8 = .ok (.getfield 41, 3) := by decide +kernel
theorem dX8_fallenInTrial_11 : decode cX8_fallenInTrial 11 = .ok (.getfield 391, 3) := by decide +kernel
theorem dX8_fallenInTrial_14 : decode cX8_fallenInTrial 14 = .ok (.iconst (-1), 1) := by decide +kernel
theorem dX8_fallenInTrial_15 : decode cX8_fallenInTrial 15 = .ok (.ixor, 1) := by decide +kernel
theorem dX8_fallenInTrial_16 : decode cX8_fallenInTrial 16 = .ok (.iand, 1) := by decide +kernel
theorem dX8_fallenInTrial_17 : decode cX8_fallenInTrial 17 = .ok (.invokestatic 269, 3) := by decide +kernel
theorem dX8_fallenInTrial_20 : decode cX8_fallenInTrial 20 = .ok (.ireturn, 1) := by decide +kernel
theorem dX8_bitesIn_0 : decode cX8_bitesIn 0 = .ok (.iconst 0, 1) := by decide +kernel
theorem dX8_bitesIn_1 : decode cX8_bitesIn 1 = .ok (.istore_n 2, 1) := by decide +kernel
theorem dX8_bitesIn_2 : decode cX8_bitesIn 2 = .ok (.iconst 0, 1) := by decide +kernel
theorem dX8_bitesIn_3 : decode cX8_bitesIn 3 = .ok (.istore_n 3, 1) := by decide +kernel
theorem dX8_bitesIn_4 : decode cX8_bitesIn 4 = .ok (.iload_n 3, 1) := by decide +kernel
theorem dX8_bitesIn_5 : decode cX8_bitesIn 5 = .ok (.aload_n 0, 1) := by decide +kernel
theorem dX8_bitesIn_6 : decode cX8_bitesIn 6 = .ok (.getfield 22, 3) := by decide +kernel
theorem dX8_bitesIn_9 : decode cX8_bitesIn 9 = .ok (.getfield 235, 3) := by decide +kernel
theorem dX8_bitesIn_12 : decode cX8_bitesIn 12 = .ok (.if_icmp .ge 18, 3) := by decide +kernel
theorem dX8_bitesIn_15 : decode cX8_bitesIn 15 = .ok (.iload_n 2, 1) := by decide +kernel
theorem dX8_bitesIn_16 : decode cX8_bitesIn 16 = .ok (.aload_n 1, 1) := by decide +kernel
theorem dX8_bitesIn_17 : decode cX8_bitesIn 17 = .ok (.getfield 152, 3) := by decide +kernel
theorem dX8_bitesIn_20 : decode cX8_bitesIn 20 = .ok (.iload_n 3, 1) := by decide +kernel
theorem dX8_bitesIn_21 : decode cX8_bitesIn 21 = .ok (.iaload, 1) := by decide +kernel
theorem dX8_bitesIn_22 : decode cX8_bitesIn 22 = .ok (.iadd, 1) := by decide +kernel
theorem dX8_bitesIn_23 : decode cX8_bitesIn 23 = .ok (.istore_n 2, 1) := by decide +kernel
theorem dX8_bitesIn_24 : decode cX8_bitesIn 24 = .ok (.iinc 3 1, 3) := by decide +kernel
theorem dX8_bitesIn_27 : decode cX8_bitesIn 27 = .ok (.goto (-23), 3) := by decide +kernel
theorem dX8_bitesIn_30 : decode cX8_bitesIn 30 = .ok (.iload_n 2, 1) := by decide +kernel
theorem dX8_bitesIn_31 : decode cX8_bitesIn 31 = .ok (.ireturn, 1) := by decide +kernel
theorem dX8_fedIn_0 : decode cX8_fedIn 0 = .ok (.iconst 0, 1) := by decide +kernel
theorem dX8_fedIn_1 : decode cX8_fedIn 1 = .ok (.istore_n 2, 1) := by decide +kernel
theorem dX8_fedIn_2 : decode cX8_fedIn 2 = .ok (.iconst 0, 1) := by decide +kernel
theorem dX8_fedIn_3 : decode cX8_fedIn 3 = .ok (.istore_n 3, 1) := by decide +kernel
theorem dX8_fedIn_4 : decode cX8_fedIn 4 = .ok (.iload_n 3, 1) := by decide +kernel
theorem dX8_fedIn_5 : decode cX8_fedIn 5 = .ok (.aload_n 0, 1) := by decide +kernel
theorem dX8_fedIn_6 : decode cX8_fedIn 6 = .ok (.getfield 22, 3) := by decide +kernel
theorem dX8_fedIn_9 : decode cX8_fedIn 9 = .ok (.getfield 303, 3) := by decide +kernel
theorem dX8_fedIn_12 : decode cX8_fedIn 12 = .ok (.if_icmp .ge 18, 3) := by decide +kernel
theorem dX8_fedIn_15 : decode cX8_fedIn 15 = .ok (.iload_n 2, 1) := by decide +kernel
theorem dX8_fedIn_16 : decode cX8_fedIn 16 = .ok (.aload_n 1, 1) := by decide +kernel
theorem dX8_fedIn_17 : decode cX8_fedIn 17 = .ok (.getfield 175, 3) := by decide +kernel
theorem dX8_fedIn_20 : decode cX8_fedIn 20 = .ok (.iload_n 3, 1) := by decide +kernel
theorem dX8_fedIn_21 : decode cX8_fedIn 21 = .ok (.iaload, 1) := by decide +kernel
theorem dX8_fedIn_22 : decode cX8_fedIn 22 = .ok (.iadd, 1) := by decide +kernel
theorem dX8_fedIn_23 : decode cX8_fedIn 23 = .ok (.istore_n 2, 1) := by decide +kernel
theorem dX8_fedIn_24 : decode cX8_fedIn 24 = .ok (.iinc 3 1, 3) := by decide +kernel
theorem dX8_fedIn_27 : decode cX8_fedIn 27 = .ok (.goto (-23), 3) := by decide +kernel
theorem dX8_fedIn_30 : decode cX8_fedIn 30 = .ok (.iload_n 2, 1) := by decide +kernel
theorem dX8_fedIn_31 : decode cX8_fedIn 31 = .ok (.ireturn, 1) := by decide +kernel
theorem dX8_hungerNow_0 : decode cX8_hungerNow 0 = .ok (.iconst 0, 1) := by decide +kernel
theorem dX8_hungerNow_1 : decode cX8_hungerNow 1 = .ok (.istore_n 1, 1) := by decide +kernel
theorem dX8_hungerNow_2 : decode cX8_hungerNow 2 = .ok (.iconst 0, 1) := by decide +kernel
theorem dX8_hungerNow_3 : decode cX8_hungerNow 3 = .ok (.istore_n 2, 1) := by decide +kernel
theorem dX8_hungerNow_4 : decode cX8_hungerNow 4 = .ok (.iload_n 2, 1) := by decide +kernel
theorem dX8_hungerNow_5 : decode cX8_hungerNow 5 = .ok (.aload_n 0, 1) := by decide +kernel
theorem dX8_hungerNow_6 : decode cX8_hungerNow 6 = .ok (.getfield 22, 3) := by decide +kernel
theorem dX8_hungerNow_9 : decode cX8_hungerNow 9 = .ok (.getfield 235, 3) := by decide +kernel
theorem dX8_hungerNow_12 : decode cX8_hungerNow 12 = .ok (.if_icmp .ge 36, 3) := by decide +kernel
theorem dX8_hungerNow_15 : decode cX8_hungerNow 15 = .ok (.iload_n 1, 1) := by decide +kernel
theorem dX8_hungerNow_16 : decode cX8_hungerNow 16 = .ok (.aload_n 0, 1) := by decide +kernel
theorem dX8_hungerNow_17 : decode cX8_hungerNow 17 = .ok (.getfield 41, 3) := by decide +kernel
theorem dX8_hungerNow_20 : decode cX8_hungerNow 20 = .ok (.iload_n 2, 1) := by decide +kernel
theorem dX8_hungerNow_21 : decode cX8_hungerNow 21 = .ok (.invokevirtual 141, 3) := by decide +kernel
theorem dX8_hungerNow_24 : decode cX8_hungerNow 24 = .ok (.ifCond .eq 7, 3) := by decide +kernel
theorem dX8_hungerNow_27 : decode cX8_hungerNow 27 = .ok (.iconst 0, 1) := by decide +kernel
theorem dX8_hungerNow_28 : decode cX8_hungerNow 28 = .ok (.goto 12, 3) := by decide +kernel
theorem dX8_hungerNow_31 : decode cX8_hungerNow 31 = .ok (.aload_n 0, 1) := by decide +kernel
theorem dX8_hungerNow_32 : decode cX8_hungerNow 32 = .ok (.getfield 41, 3) := by decide +kernel
theorem dX8_hungerNow_35 : decode cX8_hungerNow 35 = .ok (.getfield 132, 3) := by decide +kernel
theorem dX8_hungerNow_38 : decode cX8_hungerNow 38 = .ok (.iload_n 2, 1) := by decide +kernel
theorem dX8_hungerNow_39 : decode cX8_hungerNow 39 = .ok (.iaload, 1) := by decide +kernel
theorem dX8_hungerNow_40 : decode cX8_hungerNow 40 = .ok (.iadd, 1) := by decide +kernel
theorem dX8_hungerNow_41 : decode cX8_hungerNow 41 = .ok (.istore_n 1, 1) := by decide +kernel
theorem dX8_hungerNow_42 : decode cX8_hungerNow 42 = .ok (.iinc 2 1, 3) := by decide +kernel
theorem dX8_hungerNow_45 : decode cX8_hungerNow 45 = .ok (.goto (-41), 3) := by decide +kernel
theorem dX8_hungerNow_48 : decode cX8_hungerNow 48 = .ok (.iload_n 1, 1) := by decide +kernel
theorem dX8_hungerNow_49 : decode cX8_hungerNow 49 = .ok (.ireturn, 1) := by decide +kernel
