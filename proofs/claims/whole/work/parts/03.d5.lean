theorem dX9_onceLine_43 : decode cX9_onceLine 43 = .ok (.iadd, 1) := by decide +kernel
theorem dX9_onceLine_44 : decode cX9_onceLine 44 = .ok (.aload_n 0, 1) := by decide +kernel
theorem dX9_onceLine_45 : decode cX9_onceLine 45 = .ok (.getfield 191, 3) := by decide +kernel
theorem dX9_onceLine_48 : decode cX9_onceLine 48 = .ok (.iastore, 1) := by decide +kernel
theorem dX9_onceLine_49 : decode cX9_onceLine 49 = .ok (.iconst 1, 1) := by decide +kernel
theorem dX9_onceLine_50 : decode cX9_onceLine 50 = .ok (.ireturn, 1) := by decide +kernel
theorem dX9_lineRead_0 : decode cX9_lineRead 0 = .ok (.aload_n 0, 1) := by decide +kernel
theorem dX9_lineRead_1 : decode cX9_lineRead 1 = .ok (.getfield 160, 3) := by decide +kernel
theorem dX9_lineRead_4 : decode cX9_lineRead 4 = .ok (.iconst 1, 1) := by decide +kernel
theorem dX9_lineRead_5 : decode cX9_lineRead 5 = .ok (.if_icmp .ne 12, 3) := by decide +kernel
theorem dX9_lineRead_8 : decode cX9_lineRead 8 = .ok (.aload_n 0, 1) := by decide +kernel
theorem dX9_lineRead_9 : decode cX9_lineRead 9 = .ok (.getfield 171, 3) := by decide +kernel
theorem dX9_lineRead_12 : decode cX9_lineRead 12 = .ok (.bipush 6, 2) := by decide +kernel
theorem dX9_lineRead_14 : decode cX9_lineRead 14 = .ok (.if_icmp .le 9, 3) := by decide +kernel
theorem dX9_lineRead_17 : decode cX9_lineRead 17 = .ok (.aload_n 0, 1) := by decide +kernel
theorem dX9_lineRead_18 : decode cX9_lineRead 18 = .ok (.iconst 1, 1) := by decide +kernel
theorem dX9_lineRead_19 : decode cX9_lineRead 19 = .ok (.invokevirtual 184, 3) := by decide +kernel
theorem dX9_lineRead_22 : decode cX9_lineRead 22 = .ok (.ireturn, 1) := by decide +kernel
theorem dX9_lineRead_23 : decode cX9_lineRead 23 = .ok (.aload_n 0, 1) := by decide +kernel
theorem dX9_lineRead_24 : decode cX9_lineRead 24 = .ok (.getfield 171, 3) := by decide +kernel
theorem dX9_lineRead_27 : decode cX9_lineRead 27 = .ok (.tableswitch 96 0 5 #[37, 45, 53, 61, 72, 84], 37) := by decide +kernel
theorem dX9_lineRead_64 : decode cX9_lineRead 64 = .ok (.aload_n 0, 1) := by decide +kernel
theorem dX9_lineRead_65 : decode cX9_lineRead 65 = .ok (.invokevirtual 246, 3) := by decide +kernel
theorem dX9_lineRead_68 : decode cX9_lineRead 68 = .ok (.istore_n 1, 1) := by decide +kernel
theorem dX9_lineRead_69 : decode cX9_lineRead 69 = .ok (.goto 151, 3) := by decide +kernel
theorem dX9_lineRead_72 : decode cX9_lineRead 72 = .ok (.aload_n 0, 1) := by decide +kernel
theorem dX9_lineRead_73 : decode cX9_lineRead 73 = .ok (.invokevirtual 250, 3) := by decide +kernel
theorem dX9_lineRead_76 : decode cX9_lineRead 76 = .ok (.istore_n 1, 1) := by decide +kernel
theorem dX9_lineRead_77 : decode cX9_lineRead 77 = .ok (.goto 143, 3) := by decide +kernel
theorem dX9_lineRead_80 : decode cX9_lineRead 80 = .ok (.aload_n 0, 1) := by decide +kernel
theorem dX9_lineRead_81 : decode cX9_lineRead 81 = .ok (.invokevirtual 253, 3) := by decide +kernel
theorem dX9_lineRead_84 : decode cX9_lineRead 84 = .ok (.istore_n 1, 1) := by decide +kernel
theorem dX9_lineRead_85 : decode cX9_lineRead 85 = .ok (.goto 135, 3) := by decide +kernel
theorem dX9_lineRead_88 : decode cX9_lineRead 88 = .ok (.aload_n 0, 1) := by decide +kernel
theorem dX9_lineRead_89 : decode cX9_lineRead 89 = .ok (.iconst 0, 1) := by decide +kernel
theorem dX9_lineRead_90 : decode cX9_lineRead 90 = .ok (.iconst 1, 1) := by decide +kernel
theorem dX9_lineRead_91 : decode cX9_lineRead 91 = .ok (.iconst 5, 1) := by decide +kernel
theorem dX9_lineRead_92 : decode cX9_lineRead 92 = .ok (.invokevirtual 256, 3) := by decide +kernel
theorem dX9_lineRead_95 : decode cX9_lineRead 95 = .ok (.istore_n 1, 1) := by decide +kernel
theorem dX9_lineRead_96 : decode cX9_lineRead 96 = .ok (.goto 124, 3) := by decide +kernel
theorem dX9_lineRead_99 : decode cX9_lineRead 99 = .ok (.aload_n 0, 1) := by decide +kernel
theorem dX9_lineRead_100 : decode cX9_lineRead 100 = .ok (.iconst 1, 1) := by decide +kernel
theorem dX9_lineRead_101 : decode cX9_lineRead 101 = .ok (.iconst 0, 1) := by decide +kernel
theorem dX9_lineRead_102 : decode cX9_lineRead 102 = .ok (.bipush 100, 2) := by decide +kernel
theorem dX9_lineRead_104 : decode cX9_lineRead 104 = .ok (.invokevirtual 256, 3) := by decide +kernel
theorem dX9_lineRead_107 : decode cX9_lineRead 107 = .ok (.istore_n 1, 1) := by decide +kernel
theorem dX9_lineRead_108 : decode cX9_lineRead 108 = .ok (.goto 112, 3) := by decide +kernel
theorem dX9_lineRead_111 : decode cX9_lineRead 111 = .ok (.aload_n 0, 1) := by decide +kernel
theorem dX9_lineRead_112 : decode cX9_lineRead 112 = .ok (.iconst 2, 1) := by decide +kernel
theorem dX9_lineRead_113 : decode cX9_lineRead 113 = .ok (.iconst 0, 1) := by decide +kernel
theorem dX9_lineRead_114 : decode cX9_lineRead 114 = .ok (.ldc 180, 2) := by decide +kernel
theorem dX9_lineRead_116 : decode cX9_lineRead 116 = .ok (.invokevirtual 256, 3) := by decide +kernel
theorem dX9_lineRead_119 : decode cX9_lineRead 119 = .ok (.istore_n 1, 1) := by decide +kernel
theorem dX9_lineRead_120 : decode cX9_lineRead 120 = .ok (.goto 100, 3) := by decide +kernel
theorem dX9_lineRead_123 : decode cX9_lineRead 123 = .ok (.aload_n 0, 1) := by decide +kernel
theorem dX9_lineRead_124 : decode cX9_lineRead 124 = .ok (.invokevirtual 194, 3) := by decide +kernel
theorem dX9_lineRead_127 : decode cX9_lineRead 127 = .ok (.aload_n 0, 1) := by decide +kernel
theorem dX9_lineRead_128 : decode cX9_lineRead 128 = .ok (.getfield 160, 3) := by decide +kernel
theorem dX9_lineRead_131 : decode cX9_lineRead 131 = .ok (.iconst 1, 1) := by decide +kernel
theorem dX9_lineRead_132 : decode cX9_lineRead 132 = .ok (.if_icmp .ne 21, 3) := by decide +kernel
theorem dX9_lineRead_135 : decode cX9_lineRead 135 = .ok (.aload_n 0, 1) := by decide +kernel
theorem dX9_lineRead_136 : decode cX9_lineRead 136 = .ok (.getfield 171, 3) := by decide +kernel
theorem dX9_lineRead_139 : decode cX9_lineRead 139 = .ok (.bipush 7, 2) := by decide +kernel
theorem dX9_lineRead_141 : decode cX9_lineRead 141 = .ok (.if_icmp .lt 12, 3) := by decide +kernel
theorem dX9_lineRead_144 : decode cX9_lineRead 144 = .ok (.aload_n 0, 1) := by decide +kernel
theorem dX9_lineRead_145 : decode cX9_lineRead 145 = .ok (.getfield 171, 3) := by decide +kernel
theorem dX9_lineRead_148 : decode cX9_lineRead 148 = .ok (.bipush 9, 2) := by decide +kernel
theorem dX9_lineRead_150 : decode cX9_lineRead 150 = .ok (.if_icmp .le 9, 3) := by decide +kernel
theorem dX9_lineRead_153 : decode cX9_lineRead 153 = .ok (.aload_n 0, 1) := by decide +kernel
theorem dX9_lineRead_154 : decode cX9_lineRead 154 = .ok (.iconst 1, 1) := by decide +kernel
theorem dX9_lineRead_155 : decode cX9_lineRead 155 = .ok (.invokevirtual 184, 3) := by decide +kernel
theorem dX9_lineRead_158 : decode cX9_lineRead 158 = .ok (.ireturn, 1) := by decide +kernel
theorem dX9_lineRead_159 : decode cX9_lineRead 159 = .ok (.iconst 3, 1) := by decide +kernel
theorem dX9_lineRead_160 : decode cX9_lineRead 160 = .ok (.aload_n 0, 1) := by decide +kernel
theorem dX9_lineRead_161 : decode cX9_lineRead 161 = .ok (.getfield 171, 3) := by decide +kernel
theorem dX9_lineRead_164 : decode cX9_lineRead 164 = .ok (.iadd, 1) := by decide +kernel
theorem dX9_lineRead_165 : decode cX9_lineRead 165 = .ok (.bipush 7, 2) := by decide +kernel
theorem dX9_lineRead_167 : decode cX9_lineRead 167 = .ok (.isub, 1) := by decide +kernel
theorem dX9_lineRead_168 : decode cX9_lineRead 168 = .ok (.istore_n 2, 1) := by decide +kernel
theorem dX9_lineRead_169 : decode cX9_lineRead 169 = .ok (.aload_n 0, 1) := by decide +kernel
theorem dX9_lineRead_170 : decode cX9_lineRead 170 = .ok (.getfield 54, 3) := by decide +kernel
theorem dX9_lineRead_173 : decode cX9_lineRead 173 = .ok (.iload_n 2, 1) := by decide +kernel
theorem dX9_lineRead_174 : decode cX9_lineRead 174 = .ok (.baload, 1) := by decide +kernel
theorem dX9_lineRead_175 : decode cX9_lineRead 175 = .ok (.ifCond .eq 9, 3) := by decide +kernel
theorem dX9_lineRead_178 : decode cX9_lineRead 178 = .ok (.aload_n 0, 1) := by decide +kernel
theorem dX9_lineRead_179 : decode cX9_lineRead 179 = .ok (.iconst 3, 1) := by decide +kernel
theorem dX9_lineRead_180 : decode cX9_lineRead 180 = .ok (.invokevirtual 184, 3) := by decide +kernel
theorem dX9_lineRead_183 : decode cX9_lineRead 183 = .ok (.ireturn, 1) := by decide +kernel
theorem dX9_lineRead_184 : decode cX9_lineRead 184 = .ok (.aload_n 0, 1) := by decide +kernel
theorem dX9_lineRead_185 : decode cX9_lineRead 185 = .ok (.getfield 54, 3) := by decide +kernel
theorem dX9_lineRead_188 : decode cX9_lineRead 188 = .ok (.iload_n 2, 1) := by decide +kernel
theorem dX9_lineRead_189 : decode cX9_lineRead 189 = .ok (.iconst 1, 1) := by decide +kernel
theorem dX9_lineRead_190 : decode cX9_lineRead 190 = .ok (.bastore, 1) := by decide +kernel
theorem dX9_lineRead_191 : decode cX9_lineRead 191 = .ok (.aload_n 0, 1) := by decide +kernel
theorem dX9_lineRead_192 : decode cX9_lineRead 192 = .ok (.invokevirtual 194, 3) := by decide +kernel
theorem dX9_lineRead_195 : decode cX9_lineRead 195 = .ok (.aload_n 0, 1) := by decide +kernel
theorem dX9_lineRead_196 : decode cX9_lineRead 196 = .ok (.getfield 57, 3) := by decide +kernel
theorem dX9_lineRead_199 : decode cX9_lineRead 199 = .ok (.iload_n 2, 1) := by decide +kernel
theorem dX9_lineRead_200 : decode cX9_lineRead 200 = .ok (.aload_n 0, 1) := by decide +kernel
theorem dX9_lineRead_201 : decode cX9_lineRead 201 = .ok (.getfield 213, 3) := by decide +kernel
theorem dX9_lineRead_204 : decode cX9_lineRead 204 = .ok (.iastore, 1) := by decide +kernel
theorem dX9_lineRead_205 : decode cX9_lineRead 205 = .ok (.aload_n 0, 1) := by decide +kernel
theorem dX9_lineRead_206 : decode cX9_lineRead 206 = .ok (.invokevirtual 259, 3) := by decide +kernel
theorem dX9_lineRead_209 : decode cX9_lineRead 209 = .ok (.istore_n 1, 1) := by decide +kernel
theorem dX9_lineRead_210 : decode cX9_lineRead 210 = .ok (.aload_n 0, 1) := by decide +kernel
theorem dX9_lineRead_211 : decode cX9_lineRead 211 = .ok (.getfield 60, 3) := by decide +kernel
theorem dX9_lineRead_214 : decode cX9_lineRead 214 = .ok (.iload_n 2, 1) := by decide +kernel
theorem dX9_lineRead_215 : decode cX9_lineRead 215 = .ok (.aload_n 0, 1) := by decide +kernel
theorem dX9_lineRead_216 : decode cX9_lineRead 216 = .ok (.getfield 213, 3) := by decide +kernel
theorem dX9_lineRead_219 : decode cX9_lineRead 219 = .ok (.iastore, 1) := by decide +kernel
theorem dX9_lineRead_220 : decode cX9_lineRead 220 = .ok (.iload_n 1, 1) := by decide +kernel
theorem dX9_lineRead_221 : decode cX9_lineRead 221 = .ok (.ifCond .ne 5, 3) := by decide +kernel
theorem dX9_lineRead_224 : decode cX9_lineRead 224 = .ok (.iconst 0, 1) := by decide +kernel
theorem dX9_lineRead_225 : decode cX9_lineRead 225 = .ok (.ireturn, 1) := by decide +kernel
theorem dX9_lineRead_226 : decode cX9_lineRead 226 = .ok (.aload_n 0, 1) := by decide +kernel
theorem dX9_lineRead_227 : decode cX9_lineRead 227 = .ok (.bipush 59, 2) := by decide +kernel
theorem dX9_lineRead_229 : decode cX9_lineRead 229 = .ok (.invokevirtual 197, 3) := by decide +kernel
theorem dX9_lineRead_232 : decode cX9_lineRead 232 = .ok (.ifCond .ne 9, 3) := by decide +kernel
theorem dX9_lineRead_235 : decode cX9_lineRead 235 = .ok (.aload_n 0, 1) := by decide +kernel
theorem dX9_lineRead_236 : decode cX9_lineRead 236 = .ok (.iconst 1, 1) := by decide +kernel
theorem dX9_lineRead_237 : decode cX9_lineRead 237 = .ok (.invokevirtual 184, 3) := by decide +kernel
theorem dX9_lineRead_240 : decode cX9_lineRead 240 = .ok (.ireturn, 1) := by decide +kernel
theorem dX9_lineRead_241 : decode cX9_lineRead 241 = .ok (.aload_n 0, 1) := by decide +kernel
theorem dX9_lineRead_242 : decode cX9_lineRead 242 = .ok (.invokevirtual 194, 3) := by decide +kernel
theorem dX9_lineRead_245 : decode cX9_lineRead 245 = .ok (.iconst 1, 1) := by decide +kernel
theorem dX9_lineRead_246 : decode cX9_lineRead 246 = .ok (.ireturn, 1) := by decide +kernel
theorem dX9_text_0 : decode cX9_text 0 = .ok (.aload_n 0, 1) := by decide +kernel
theorem dX9_text_1 : decode cX9_text 1 = .ok (.iconst 0, 1) := by decide +kernel
theorem dX9_text_2 : decode cX9_text 2 = .ok (.putfield 142, 3) := by decide +kernel
theorem dX9_text_5 : decode cX9_text 5 = .ok (.iload_n 1, 1) := by decide +kernel
theorem dX9_text_6 : decode cX9_text 6 = .ok (.ifCond .lt 11, 3) := by decide +kernel
theorem dX9_text_9 : decode cX9_text 9 = .ok (.iload_n 1, 1) := by decide +kernel
theorem dX9_text_10 : decode cX9_text 10 = .ok (.aload_n 0, 1) := by decide +kernel
theorem dX9_text_11 : decode cX9_text 11 = .ok (.getfield 145, 3) := by decide +kernel
theorem dX9_text_14 : decode cX9_text 14 = .ok (.if_icmp .le 6, 3) := by decide +kernel
theorem dX9_text_17 : decode cX9_text 17 = .ok (.bipush (-2), 2) := by decide +kernel
theorem dX9_text_19 : decode cX9_text 19 = .ok (.ireturn, 1) := by decide +kernel
theorem dX9_text_20 : decode cX9_text 20 = .ok (.aload_n 0, 1) := by decide +kernel
theorem dX9_text_21 : decode cX9_text 21 = .ok (.iload_n 1, 1) := by decide +kernel
theorem dX9_text_22 : decode cX9_text 22 = .ok (.putfield 154, 3) := by decide +kernel
theorem dX9_text_25 : decode cX9_text 25 = .ok (.aload_n 0, 1) := by decide +kernel
theorem dX9_text_26 : decode cX9_text 26 = .ok (.iconst 0, 1) := by decide +kernel
theorem dX9_text_27 : decode cX9_text 27 = .ok (.putfield 145, 3) := by decide +kernel
theorem dX9_text_30 : decode cX9_text 30 = .ok (.aload_n 0, 1) := by decide +kernel
theorem dX9_text_31 : decode cX9_text 31 = .ok (.iconst 0, 1) := by decide +kernel
theorem dX9_text_32 : decode cX9_text 32 = .ok (.putfield 148, 3) := by decide +kernel
theorem dX9_text_35 : decode cX9_text 35 = .ok (.aload_n 0, 1) := by decide +kernel
theorem dX9_text_36 : decode cX9_text 36 = .ok (.iconst (-1), 1) := by decide +kernel
theorem dX9_text_37 : decode cX9_text 37 = .ok (.putfield 16, 3) := by decide +kernel
theorem dX9_text_40 : decode cX9_text 40 = .ok (.aload_n 0, 1) := by decide +kernel
theorem dX9_text_41 : decode cX9_text 41 = .ok (.iconst 0, 1) := by decide +kernel
theorem dX9_text_42 : decode cX9_text 42 = .ok (.putfield 157, 3) := by decide +kernel
theorem dX9_text_45 : decode cX9_text 45 = .ok (.aload_n 0, 1) := by decide +kernel
theorem dX9_text_46 : decode cX9_text 46 = .ok (.invokevirtual 136, 3) := by decide +kernel
theorem dX9_text_49 : decode cX9_text 49 = .ok (.aload_n 0, 1) := by decide +kernel
theorem dX9_text_50 : decode cX9_text 50 = .ok (.invokevirtual 194, 3) := by decide +kernel
theorem dX9_text_53 : decode cX9_text 53 = .ok (.iconst 0, 1) := by decide +kernel
theorem dX9_text_54 : decode cX9_text 54 = .ok (.istore_n 2, 1) := by decide +kernel
theorem dX9_text_55 : decode cX9_text 55 = .ok (.aload_n 0, 1) := by decide +kernel
theorem dX9_text_56 : decode cX9_text 56 = .ok (.getfield 160, 3) := by decide +kernel
theorem dX9_text_59 : decode cX9_text 59 = .ok (.ifCond .eq 18, 3) := by decide +kernel
theorem dX9_text_62 : decode cX9_text 62 = .ok (.aload_n 0, 1) := by decide +kernel
theorem dX9_text_63 : decode cX9_text 63 = .ok (.invokevirtual 262, 3) := by decide +kernel
theorem dX9_text_66 : decode cX9_text 66 = .ok (.ifCond .ne 5, 3) := by decide +kernel
theorem dX9_text_69 : decode cX9_text 69 = .ok (.iconst (-1), 1) := by decide +kernel
theorem dX9_text_70 : decode cX9_text 70 = .ok (.ireturn, 1) := by decide +kernel
theorem dX9_text_71 : decode cX9_text 71 = .ok (.iinc 2 1, 3) := by decide +kernel
theorem dX9_text_74 : decode cX9_text 74 = .ok (.goto (-19), 3) := by decide +kernel
theorem dX9_text_77 : decode cX9_text 77 = .ok (.aload_n 0, 1) := by decide +kernel
theorem dX9_text_78 : decode cX9_text 78 = .ok (.invokevirtual 139, 3) := by decide +kernel
theorem dX9_text_81 : decode cX9_text 81 = .ok (.iload_n 2, 1) := by decide +kernel
theorem dX9_text_82 : decode cX9_text 82 = .ok (.ireturn, 1) := by decide +kernel
theorem dX9_fault_0 : decode cX9_fault 0 = .ok (.aload_n 0, 1) := by decide +kernel
theorem dX9_fault_1 : decode cX9_fault 1 = .ok (.iconst 0, 1) := by decide +kernel
theorem dX9_fault_2 : decode cX9_fault 2 = .ok (.putfield 142, 3) := by decide +kernel
theorem dX9_fault_5 : decode cX9_fault 5 = .ok (.iload_n 1, 1) := by decide +kernel
theorem dX9_fault_6 : decode cX9_fault 6 = .ok (.ifCond .ne 10, 3) := by decide +kernel
theorem dX9_fault_9 : decode cX9_fault 9 = .ok (.aload_n 0, 1) := by decide +kernel
theorem dX9_fault_10 : decode cX9_fault 10 = .ok (.getfield 148, 3) := by decide +kernel
theorem dX9_fault_13 : decode cX9_fault 13 = .ok (.goto 16, 3) := by decide +kernel
theorem dX9_fault_16 : decode cX9_fault 16 = .ok (.iload_n 1, 1) := by decide +kernel
theorem dX9_fault_17 : decode cX9_fault 17 = .ok (.iconst 1, 1) := by decide +kernel
theorem dX9_fault_18 : decode cX9_fault 18 = .ok (.if_icmp .ne 10, 3) := by decide +kernel
theorem dX9_fault_21 : decode cX9_fault 21 = .ok (.aload_n 0, 1) := by decide +kernel
theorem dX9_fault_22 : decode cX9_fault 22 = .ok (.getfield 16, 3) := by decide +kernel
theorem dX9_fault_25 : decode cX9_fault 25 = .ok (.goto 4, 3) := by decide +kernel
theorem dX9_fault_28 : decode cX9_fault 28 = .ok (.iconst (-1), 1) := by decide +kernel
theorem dX9_fault_29 : decode cX9_fault 29 = .ok (.ireturn, 1) := by decide +kernel
theorem dX9_named_0 : decode cX9_named 0 = .ok (.aload_n 0, 1) := by decide +kernel
theorem dX9_named_1 : decode cX9_named 1 = .ok (.iconst 0, 1) := by decide +kernel
theorem dX9_named_2 : decode cX9_named 2 = .ok (.putfield 142, 3) := by decide +kernel
theorem dX9_named_5 : decode cX9_named 5 = .ok (.iload_n 1, 1) := by decide +kernel
theorem dX9_named_6 : decode cX9_named 6 = .ok (.ifCond .ne 19, 3) := by decide +kernel
theorem dX9_named_9 : decode cX9_named 9 = .ok (.aload_n 0, 1) := by decide +kernel
theorem dX9_named_10 : decode cX9_named 10 = .ok (.getfield 27, 3) := by decide +kernel
theorem dX9_named_13 : decode cX9_named 13 = .ok (.iconst 0, 1) := by decide +kernel
theorem dX9_named_14 : decode cX9_named 14 = .ok (.aload_n 0, 1) := by decide +kernel
theorem dX9_named_15 : decode cX9_named 15 = .ok (.getfield 219, 3) := by decide +kernel
theorem dX9_named_18 : decode cX9_named 18 = .ok (.iload_n 2, 1) := by decide +kernel
theorem dX9_named_19 : decode cX9_named 19 = .ok (.invokestatic 238, 3) := by decide +kernel
theorem dX9_named_22 : decode cX9_named 22 = .ok (.goto 25, 3) := by decide +kernel
theorem dX9_named_25 : decode cX9_named 25 = .ok (.iload_n 1, 1) := by decide +kernel
theorem dX9_named_26 : decode cX9_named 26 = .ok (.iconst 1, 1) := by decide +kernel
theorem dX9_named_27 : decode cX9_named 27 = .ok (.if_icmp .ne 19, 3) := by decide +kernel
theorem dX9_named_30 : decode cX9_named 30 = .ok (.aload_n 0, 1) := by decide +kernel
theorem dX9_named_31 : decode cX9_named 31 = .ok (.getfield 39, 3) := by decide +kernel
theorem dX9_named_34 : decode cX9_named 34 = .ok (.iconst 0, 1) := by decide +kernel
theorem dX9_named_35 : decode cX9_named 35 = .ok (.aload_n 0, 1) := by decide +kernel
theorem dX9_named_36 : decode cX9_named 36 = .ok (.getfield 222, 3) := by decide +kernel
theorem dX9_named_39 : decode cX9_named 39 = .ok (.iload_n 2, 1) := by decide +kernel
theorem dX9_named_40 : decode cX9_named 40 = .ok (.invokestatic 238, 3) := by decide +kernel
theorem dX9_named_43 : decode cX9_named 43 = .ok (.goto 4, 3) := by decide +kernel
theorem dX9_named_46 : decode cX9_named 46 = .ok (.iconst (-1), 1) := by decide +kernel
theorem dX9_named_47 : decode cX9_named 47 = .ok (.ireturn, 1) := by decide +kernel
theorem dX9_rank_0 : decode cX9_rank 0 = .ok (.iload_n 0, 1) := by decide +kernel
theorem dX9_rank_1 : decode cX9_rank 1 = .ok (.bipush 13, 2) := by decide +kernel
theorem dX9_rank_3 : decode cX9_rank 3 = .ok (.if_icmp .lt 8, 3) := by decide +kernel
theorem dX9_rank_6 : decode cX9_rank 6 = .ok (.bipush 6, 2) := by decide +kernel
theorem dX9_rank_8 : decode cX9_rank 8 = .ok (.goto 50, 3) := by decide +kernel
theorem dX9_rank_11 : decode cX9_rank 11 = .ok (.iload_n 0, 1) := by decide +kernel
theorem dX9_rank_12 : decode cX9_rank 12 = .ok (.bipush 11, 2) := by decide +kernel
theorem dX9_rank_14 : decode cX9_rank 14 = .ok (.if_icmp .lt 7, 3) := by decide +kernel
theorem dX9_rank_17 : decode cX9_rank 17 = .ok (.iconst 5, 1) := by decide +kernel
theorem dX9_rank_18 : decode cX9_rank 18 = .ok (.goto 40, 3) := by decide +kernel
theorem dX9_rank_21 : decode cX9_rank 21 = .ok (.iload_n 0, 1) := by decide +kernel
theorem dX9_rank_22 : decode cX9_rank 22 = .ok (.iconst 5, 1) := by decide +kernel
theorem dX9_rank_23 : decode cX9_rank 23 = .ok (.if_icmp .lt 7, 3) := by decide +kernel
theorem dX9_rank_26 : decode cX9_rank 26 = .ok (.iconst 4, 1) := by decide +kernel
theorem dX9_rank_27 : decode cX9_rank 27 = .ok (.goto 31, 3) := by decide +kernel
theorem dX9_rank_30 : decode cX9_rank 30 = .ok (.iload_n 0, 1) := by decide +kernel
theorem dX9_rank_31 : decode cX9_rank 31 = .ok (.iconst 2, 1) := by decide +kernel
theorem dX9_rank_32 : decode cX9_rank 32 = .ok (.if_icmp .ne 7, 3) := by decide +kernel
theorem dX9_rank_35 : decode cX9_rank 35 = .ok (.iconst 3, 1) := by decide +kernel
theorem dX9_rank_36 : decode cX9_rank 36 = .ok (.goto 22, 3) := by decide +kernel
theorem dX9_rank_39 : decode cX9_rank 39 = .ok (.iload_n 0, 1) := by decide +kernel
theorem dX9_rank_40 : decode cX9_rank 40 = .ok (.iconst 3, 1) := by decide +kernel
theorem dX9_rank_41 : decode cX9_rank 41 = .ok (.if_icmp .ne 7, 3) := by decide +kernel
theorem dX9_rank_44 : decode cX9_rank 44 = .ok (.iconst 2, 1) := by decide +kernel
theorem dX9_rank_45 : decode cX9_rank 45 = .ok (.goto 13, 3) := by decide +kernel
theorem dX9_rank_48 : decode cX9_rank 48 = .ok (.iload_n 0, 1) := by decide +kernel
theorem dX9_rank_49 : decode cX9_rank 49 = .ok (.iconst 4, 1) := by decide +kernel
theorem dX9_rank_50 : decode cX9_rank 50 = .ok (.if_icmp .ne 7, 3) := by decide +kernel
theorem dX9_rank_53 : decode cX9_rank 53 = .ok (.iconst 1, 1) := by decide +kernel
theorem dX9_rank_54 : decode cX9_rank 54 = .ok (.goto 4, 3) := by decide +kernel
theorem dX9_rank_57 : decode cX9_rank 57 = .ok (.iconst 0, 1) := by decide +kernel
theorem dX9_rank_58 : decode cX9_rank 58 = .ok (.ireturn, 1) := by decide +kernel
theorem dX9_grown_0 : decode cX9_grown 0 = .ok (.aload_n 0, 1) := by decide +kernel
theorem dX9_grown_1 : decode cX9_grown 1 = .ok (.getfield 63, 3) := by decide +kernel
theorem dX9_grown_4 : decode cX9_grown 4 = .ok (.bipush 64, 2) := by decide +kernel
theorem dX9_grown_6 : decode cX9_grown 6 = .ok (.aload_n 0, 1) := by decide +kernel
theorem dX9_grown_7 : decode cX9_grown 7 = .ok (.getfield 213, 3) := by decide +kernel
theorem dX9_grown_10 : decode cX9_grown 10 = .ok (.iadd, 1) := by decide +kernel
theorem dX9_grown_11 : decode cX9_grown 11 = .ok (.iload_n 1, 1) := by decide +kernel
theorem dX9_grown_12 : decode cX9_grown 12 = .ok (.iastore, 1) := by decide +kernel
theorem dX9_grown_13 : decode cX9_grown 13 = .ok (.aload_n 0, 1) := by decide +kernel
theorem dX9_grown_14 : decode cX9_grown 14 = .ok (.getfield 69, 3) := by decide +kernel
theorem dX9_grown_17 : decode cX9_grown 17 = .ok (.bipush 64, 2) := by decide +kernel
theorem dX9_grown_19 : decode cX9_grown 19 = .ok (.aload_n 0, 1) := by decide +kernel
theorem dX9_grown_20 : decode cX9_grown 20 = .ok (.getfield 213, 3) := by decide +kernel
theorem dX9_grown_23 : decode cX9_grown 23 = .ok (.iadd, 1) := by decide +kernel
theorem dX9_grown_24 : decode cX9_grown 24 = .ok (.iload_n 2, 1) := by decide +kernel
theorem dX9_grown_25 : decode cX9_grown 25 = .ok (.iastore, 1) := by decide +kernel
theorem dX9_grown_26 : decode cX9_grown 26 = .ok (.aload_n 0, 1) := by decide +kernel
theorem dX9_grown_27 : decode cX9_grown 27 = .ok (.getfield 72, 3) := by decide +kernel
theorem dX9_grown_30 : decode cX9_grown 30 = .ok (.bipush 64, 2) := by decide +kernel
theorem dX9_grown_32 : decode cX9_grown 32 = .ok (.aload_n 0, 1) := by decide +kernel
theorem dX9_grown_33 : decode cX9_grown 33 = .ok (.getfield 213, 3) := by decide +kernel
theorem dX9_grown_36 : decode cX9_grown 36 = .ok (.iadd, 1) := by decide +kernel
theorem dX9_grown_37 : decode cX9_grown 37 = .ok (.iload_n 3, 1) := by decide +kernel
theorem dX9_grown_38 : decode cX9_grown 38 = .ok (.iastore, 1) := by decide +kernel
theorem dX9_grown_39 : decode cX9_grown 39 = .ok (.aload_n 0, 1) := by decide +kernel
theorem dX9_grown_40 : decode cX9_grown 40 = .ok (.getfield 78, 3) := by decide +kernel
theorem dX9_grown_43 : decode cX9_grown 43 = .ok (.aload_n 0, 1) := by decide +kernel
theorem dX9_grown_44 : decode cX9_grown 44 = .ok (.getfield 265, 3) := by decide +kernel
theorem dX9_grown_47 : decode cX9_grown 47 = .ok (.aload_n 0, 1) := by decide +kernel
theorem dX9_grown_48 : decode cX9_grown 48 = .ok (.getfield 213, 3) := by decide +kernel
theorem dX9_grown_51 : decode cX9_grown 51 = .ok (.iastore, 1) := by decide +kernel
theorem dX9_grown_52 : decode cX9_grown 52 = .ok (.aload_n 0, 1) := by decide +kernel
theorem dX9_grown_53 : decode cX9_grown 53 = .ok (.dup, 1) := by decide +kernel
theorem dX9_grown_54 : decode cX9_grown 54 = .ok (.getfield 265, 3) := by decide +kernel
theorem dX9_grown_57 : decode cX9_grown 57 = .ok (.iconst 1, 1) := by decide +kernel
theorem dX9_grown_58 : decode cX9_grown 58 = .ok (.iadd, 1) := by decide +kernel
theorem dX9_grown_59 : decode cX9_grown 59 = .ok (.putfield 265, 3) := by decide +kernel
theorem dX9_grown_62 : decode cX9_grown 62 = .ok (.aload_n 0, 1) := by decide +kernel
theorem dX9_grown_63 : decode cX9_grown 63 = .ok (.dup, 1) := by decide +kernel
theorem dX9_grown_64 : decode cX9_grown 64 = .ok (.getfield 213, 3) := by decide +kernel
theorem dX9_grown_67 : decode cX9_grown 67 = .ok (.iconst 1, 1) := by decide +kernel
theorem dX9_grown_68 : decode cX9_grown 68 = .ok (.iadd, 1) := by decide +kernel
theorem dX9_grown_69 : decode cX9_grown 69 = .ok (.putfield 213, 3) := by decide +kernel
theorem dX9_grown_72 : decode cX9_grown 72 = .ok (.return_, 1) := by decide +kernel
theorem dX9_dropHeld_0 : decode cX9_dropHeld 0 = .ok (.aload_n 0, 1) := by decide +kernel
theorem dX9_dropHeld_1 : decode cX9_dropHeld 1 = .ok (.dup, 1) := by decide +kernel
theorem dX9_dropHeld_2 : decode cX9_dropHeld 2 = .ok (.getfield 265, 3) := by decide +kernel
theorem dX9_dropHeld_5 : decode cX9_dropHeld 5 = .ok (.iconst 1, 1) := by decide +kernel
theorem dX9_dropHeld_6 : decode cX9_dropHeld 6 = .ok (.isub, 1) := by decide +kernel
theorem dX9_dropHeld_7 : decode cX9_dropHeld 7 = .ok (.putfield 265, 3) := by decide +kernel
theorem dX9_dropHeld_10 : decode cX9_dropHeld 10 = .ok (.aload_n 0, 1) := by decide +kernel
theorem dX9_dropHeld_11 : decode cX9_dropHeld 11 = .ok (.getfield 78, 3) := by decide +kernel
theorem dX9_dropHeld_14 : decode cX9_dropHeld 14 = .ok (.aload_n 0, 1) := by decide +kernel
theorem dX9_dropHeld_15 : decode cX9_dropHeld 15 = .ok (.getfield 265, 3) := by decide +kernel
theorem dX9_dropHeld_18 : decode cX9_dropHeld 18 = .ok (.iaload, 1) := by decide +kernel
theorem dX9_dropHeld_19 : decode cX9_dropHeld 19 = .ok (.ireturn, 1) := by decide +kernel
theorem dX9_bind_0 : decode cX9_bind 0 = .ok (.aload_n 0, 1) := by decide +kernel
theorem dX9_bind_1 : decode cX9_bind 1 = .ok (.getfield 268, 3) := by decide +kernel
theorem dX9_bind_4 : decode cX9_bind 4 = .ok (.ifCond .le 72, 3) := by decide +kernel
theorem dX9_bind_7 : decode cX9_bind 7 = .ok (.aload_n 0, 1) := by decide +kernel
theorem dX9_bind_8 : decode cX9_bind 8 = .ok (.getfield 75, 3) := by decide +kernel
theorem dX9_bind_11 : decode cX9_bind 11 = .ok (.aload_n 0, 1) := by decide +kernel
theorem dX9_bind_12 : decode cX9_bind 12 = .ok (.getfield 268, 3) := by decide +kernel
theorem dX9_bind_15 : decode cX9_bind 15 = .ok (.iconst 1, 1) := by decide +kernel
theorem dX9_bind_16 : decode cX9_bind 16 = .ok (.isub, 1) := by decide +kernel
theorem dX9_bind_17 : decode cX9_bind 17 = .ok (.iaload, 1) := by decide +kernel
theorem dX9_bind_18 : decode cX9_bind 18 = .ok (.invokestatic 271, 3) := by decide +kernel
theorem dX9_bind_21 : decode cX9_bind 21 = .ok (.iload_n 1, 1) := by decide +kernel
theorem dX9_bind_22 : decode cX9_bind 22 = .ok (.if_icmp .lt 54, 3) := by decide +kernel
theorem dX9_bind_25 : decode cX9_bind 25 = .ok (.aload_n 0, 1) := by decide +kernel
theorem dX9_bind_26 : decode cX9_bind 26 = .ok (.dup, 1) := by decide +kernel
theorem dX9_bind_27 : decode cX9_bind 27 = .ok (.getfield 268, 3) := by decide +kernel
theorem dX9_bind_30 : decode cX9_bind 30 = .ok (.iconst 1, 1) := by decide +kernel
theorem dX9_bind_31 : decode cX9_bind 31 = .ok (.isub, 1) := by decide +kernel
theorem dX9_bind_32 : decode cX9_bind 32 = .ok (.putfield 268, 3) := by decide +kernel
theorem dX9_bind_35 : decode cX9_bind 35 = .ok (.aload_n 0, 1) := by decide +kernel
theorem dX9_bind_36 : decode cX9_bind 36 = .ok (.getfield 75, 3) := by decide +kernel
theorem dX9_bind_39 : decode cX9_bind 39 = .ok (.aload_n 0, 1) := by decide +kernel
theorem dX9_bind_40 : decode cX9_bind 40 = .ok (.getfield 268, 3) := by decide +kernel
theorem dX9_bind_43 : decode cX9_bind 43 = .ok (.iaload, 1) := by decide +kernel
theorem dX9_bind_44 : decode cX9_bind 44 = .ok (.istore_n 2, 1) := by decide +kernel
theorem dX9_bind_45 : decode cX9_bind 45 = .ok (.iload_n 2, 1) := by decide +kernel
theorem dX9_bind_46 : decode cX9_bind 46 = .ok (.iconst 2, 1) := by decide +kernel
theorem dX9_bind_47 : decode cX9_bind 47 = .ok (.if_icmp .ne 7, 3) := by decide +kernel
theorem dX9_bind_50 : decode cX9_bind 50 = .ok (.iconst (-1), 1) := by decide +kernel
theorem dX9_bind_51 : decode cX9_bind 51 = .ok (.goto 7, 3) := by decide +kernel
theorem dX9_bind_54 : decode cX9_bind 54 = .ok (.aload_n 0, 1) := by decide +kernel
theorem dX9_bind_55 : decode cX9_bind 55 = .ok (.invokevirtual 275, 3) := by decide +kernel
theorem dX9_bind_58 : decode cX9_bind 58 = .ok (.istore_n 3, 1) := by decide +kernel
theorem dX9_bind_59 : decode cX9_bind 59 = .ok (.aload_n 0, 1) := by decide +kernel
theorem dX9_bind_60 : decode cX9_bind 60 = .ok (.invokevirtual 275, 3) := by decide +kernel
theorem dX9_bind_63 : decode cX9_bind 63 = .ok (.istore 4, 2) := by decide +kernel
theorem dX9_bind_65 : decode cX9_bind 65 = .ok (.aload_n 0, 1) := by decide +kernel
theorem dX9_bind_66 : decode cX9_bind 66 = .ok (.iload_n 2, 1) := by decide +kernel
theorem dX9_bind_67 : decode cX9_bind 67 = .ok (.iload 4, 2) := by decide +kernel
theorem dX9_bind_69 : decode cX9_bind 69 = .ok (.iload_n 3, 1) := by decide +kernel
theorem dX9_bind_70 : decode cX9_bind 70 = .ok (.invokevirtual 279, 3) := by decide +kernel
theorem dX9_bind_73 : decode cX9_bind 73 = .ok (.goto (-73), 3) := by decide +kernel
theorem dX9_bind_76 : decode cX9_bind 76 = .ok (.return_, 1) := by decide +kernel
theorem dX9_isCounted_0 : decode cX9_isCounted 0 = .ok (.aload_n 0, 1) := by decide +kernel
theorem dX9_isCounted_1 : decode cX9_isCounted 1 = .ok (.getfield 216, 3) := by decide +kernel
theorem dX9_isCounted_4 : decode cX9_isCounted 4 = .ok (.bipush 64, 2) := by decide +kernel
theorem dX9_isCounted_6 : decode cX9_isCounted 6 = .ok (.if_icmp .ne 9, 3) := by decide +kernel
theorem dX9_isCounted_9 : decode cX9_isCounted 9 = .ok (.aload_n 0, 1) := by decide +kernel
theorem dX9_isCounted_10 : decode cX9_isCounted 10 = .ok (.iconst 2, 1) := by decide +kernel
theorem dX9_isCounted_11 : decode cX9_isCounted 11 = .ok (.invokevirtual 184, 3) := by decide +kernel
theorem dX9_isCounted_14 : decode cX9_isCounted 14 = .ok (.ireturn, 1) := by decide +kernel
theorem dX9_isCounted_15 : decode cX9_isCounted 15 = .ok (.aload_n 0, 1) := by decide +kernel
theorem dX9_isCounted_16 : decode cX9_isCounted 16 = .ok (.dup, 1) := by decide +kernel
theorem dX9_isCounted_17 : decode cX9_isCounted 17 = .ok (.getfield 216, 3) := by decide +kernel
theorem dX9_isCounted_20 : decode cX9_isCounted 20 = .ok (.iconst 1, 1) := by decide +kernel
theorem dX9_isCounted_21 : decode cX9_isCounted 21 = .ok (.iadd, 1) := by decide +kernel
theorem dX9_isCounted_22 : decode cX9_isCounted 22 = .ok (.putfield 216, 3) := by decide +kernel
theorem dX9_isCounted_25 : decode cX9_isCounted 25 = .ok (.iconst 1, 1) := by decide +kernel
theorem dX9_isCounted_26 : decode cX9_isCounted 26 = .ok (.ireturn, 1) := by decide +kernel
theorem dX9_waitsFor_0 : decode cX9_waitsFor 0 = .ok (.aload_n 0, 1) := by decide +kernel
theorem dX9_waitsFor_1 : decode cX9_waitsFor 1 = .ok (.getfield 75, 3) := by decide +kernel
theorem dX9_waitsFor_4 : decode cX9_waitsFor 4 = .ok (.aload_n 0, 1) := by decide +kernel
theorem dX9_waitsFor_5 : decode cX9_waitsFor 5 = .ok (.getfield 268, 3) := by decide +kernel
theorem dX9_waitsFor_8 : decode cX9_waitsFor 8 = .ok (.iload_n 1, 1) := by decide +kernel
theorem dX9_waitsFor_9 : decode cX9_waitsFor 9 = .ok (.iastore, 1) := by decide +kernel
theorem dX9_waitsFor_10 : decode cX9_waitsFor 10 = .ok (.aload_n 0, 1) := by decide +kernel
theorem dX9_waitsFor_11 : decode cX9_waitsFor 11 = .ok (.dup, 1) := by decide +kernel
theorem dX9_waitsFor_12 : decode cX9_waitsFor 12 = .ok (.getfield 268, 3) := by decide +kernel
theorem dX9_waitsFor_15 : decode cX9_waitsFor 15 = .ok (.iconst 1, 1) := by decide +kernel
theorem dX9_waitsFor_16 : decode cX9_waitsFor 16 = .ok (.iadd, 1) := by decide +kernel
theorem dX9_waitsFor_17 : decode cX9_waitsFor 17 = .ok (.putfield 268, 3) := by decide +kernel
theorem dX9_waitsFor_20 : decode cX9_waitsFor 20 = .ok (.return_, 1) := by decide +kernel
theorem dX9_nameMet_0 : decode cX9_nameMet 0 = .ok (.aload_n 0, 1) := by decide +kernel
theorem dX9_nameMet_1 : decode cX9_nameMet 1 = .ok (.getfield 160, 3) := by decide +kernel
theorem dX9_nameMet_4 : decode cX9_nameMet 4 = .ok (.iconst 1, 1) := by decide +kernel
theorem dX9_nameMet_5 : decode cX9_nameMet 5 = .ok (.if_icmp .ne 22, 3) := by decide +kernel
theorem dX9_nameMet_8 : decode cX9_nameMet 8 = .ok (.aload_n 0, 1) := by decide +kernel
theorem dX9_nameMet_9 : decode cX9_nameMet 9 = .ok (.getfield 171, 3) := by decide +kernel
theorem dX9_nameMet_12 : decode cX9_nameMet 12 = .ok (.bipush 13, 2) := by decide +kernel
theorem dX9_nameMet_14 : decode cX9_nameMet 14 = .ok (.if_icmp .lt 13, 3) := by decide +kernel
theorem dX9_nameMet_17 : decode cX9_nameMet 17 = .ok (.aload_n 0, 1) := by decide +kernel
theorem dX9_nameMet_18 : decode cX9_nameMet 18 = .ok (.getfield 171, 3) := by decide +kernel
theorem dX9_nameMet_21 : decode cX9_nameMet 21 = .ok (.bipush 13, 2) := by decide +kernel
theorem dX9_nameMet_23 : decode cX9_nameMet 23 = .ok (.isub, 1) := by decide +kernel
theorem dX9_nameMet_24 : decode cX9_nameMet 24 = .ok (.goto 4, 3) := by decide +kernel
theorem dX9_nameMet_27 : decode cX9_nameMet 27 = .ok (.iconst (-1), 1) := by decide +kernel
theorem dX9_nameMet_28 : decode cX9_nameMet 28 = .ok (.ireturn, 1) := by decide +kernel
theorem dX9_leafRead_0 : decode cX9_leafRead 0 = .ok (.aload_n 0, 1) := by decide +kernel
theorem dX9_leafRead_1 : decode cX9_leafRead 1 = .ok (.bipush 40, 2) := by decide +kernel
theorem dX9_leafRead_3 : decode cX9_leafRead 3 = .ok (.invokevirtual 197, 3) := by decide +kernel
theorem dX9_leafRead_6 : decode cX9_leafRead 6 = .ok (.ifCond .eq 44, 3) := by decide +kernel
theorem dX9_leafRead_9 : decode cX9_leafRead 9 = .ok (.aload_n 0, 1) := by decide +kernel
theorem dX9_leafRead_10 : decode cX9_leafRead 10 = .ok (.getfield 283, 3) := by decide +kernel
theorem dX9_leafRead_13 : decode cX9_leafRead 13 = .ok (.bipush 8, 2) := by decide +kernel
theorem dX9_leafRead_15 : decode cX9_leafRead 15 = .ok (.if_icmp .ne 9, 3) := by decide +kernel
theorem dX9_leafRead_18 : decode cX9_leafRead 18 = .ok (.aload_n 0, 1) := by decide +kernel
theorem dX9_leafRead_19 : decode cX9_leafRead 19 = .ok (.iconst 2, 1) := by decide +kernel
theorem dX9_leafRead_20 : decode cX9_leafRead 20 = .ok (.invokevirtual 184, 3) := by decide +kernel
theorem dX9_leafRead_23 : decode cX9_leafRead 23 = .ok (.ireturn, 1) := by decide +kernel
theorem dX9_leafRead_24 : decode cX9_leafRead 24 = .ok (.aload_n 0, 1) := by decide +kernel
theorem dX9_leafRead_25 : decode cX9_leafRead 25 = .ok (.dup, 1) := by decide +kernel
theorem dX9_leafRead_26 : decode cX9_leafRead 26 = .ok (.getfield 283, 3) := by decide +kernel
theorem dX9_leafRead_29 : decode cX9_leafRead 29 = .ok (.iconst 1, 1) := by decide +kernel
theorem dX9_leafRead_30 : decode cX9_leafRead 30 = .ok (.iadd, 1) := by decide +kernel
theorem dX9_leafRead_31 : decode cX9_leafRead 31 = .ok (.putfield 283, 3) := by decide +kernel
theorem dX9_leafRead_34 : decode cX9_leafRead 34 = .ok (.aload_n 0, 1) := by decide +kernel
theorem dX9_leafRead_35 : decode cX9_leafRead 35 = .ok (.iconst 0, 1) := by decide +kernel
theorem dX9_leafRead_36 : decode cX9_leafRead 36 = .ok (.invokevirtual 286, 3) := by decide +kernel
theorem dX9_leafRead_39 : decode cX9_leafRead 39 = .ok (.aload_n 0, 1) := by decide +kernel
theorem dX9_leafRead_40 : decode cX9_leafRead 40 = .ok (.iconst 1, 1) := by decide +kernel
theorem dX9_leafRead_41 : decode cX9_leafRead 41 = .ok (.putfield 290, 3) := by decide +kernel
theorem dX9_leafRead_44 : decode cX9_leafRead 44 = .ok (.aload_n 0, 1) := by decide +kernel
theorem dX9_leafRead_45 : decode cX9_leafRead 45 = .ok (.invokevirtual 194, 3) := by decide +kernel
theorem dX9_leafRead_48 : decode cX9_leafRead 48 = .ok (.iconst 1, 1) := by decide +kernel
theorem dX9_leafRead_49 : decode cX9_leafRead 49 = .ok (.ireturn, 1) := by decide +kernel
theorem dX9_leafRead_50 : decode cX9_leafRead 50 = .ok (.aload_n 0, 1) := by decide +kernel
theorem dX9_leafRead_51 : decode cX9_leafRead 51 = .ok (.bipush 12, 2) := by decide +kernel
theorem dX9_leafRead_53 : decode cX9_leafRead 53 = .ok (.invokevirtual 294, 3) := by decide +kernel
theorem dX9_leafRead_56 : decode cX9_leafRead 56 = .ok (.ifCond .eq 30, 3) := by decide +kernel
theorem dX9_leafRead_59 : decode cX9_leafRead 59 = .ok (.aload_n 0, 1) := by decide +kernel
theorem dX9_leafRead_60 : decode cX9_leafRead 60 = .ok (.getfield 290, 3) := by decide +kernel
theorem dX9_leafRead_63 : decode cX9_leafRead 63 = .ok (.ifCond .eq 23, 3) := by decide +kernel
theorem dX9_leafRead_66 : decode cX9_leafRead 66 = .ok (.aload_n 0, 1) := by decide +kernel
theorem dX9_leafRead_67 : decode cX9_leafRead 67 = .ok (.invokevirtual 297, 3) := by decide +kernel
theorem dX9_leafRead_70 : decode cX9_leafRead 70 = .ok (.ifCond .ne 5, 3) := by decide +kernel
theorem dX9_leafRead_73 : decode cX9_leafRead 73 = .ok (.iconst 0, 1) := by decide +kernel
theorem dX9_leafRead_74 : decode cX9_leafRead 74 = .ok (.ireturn, 1) := by decide +kernel
theorem dX9_leafRead_75 : decode cX9_leafRead 75 = .ok (.aload_n 0, 1) := by decide +kernel
theorem dX9_leafRead_76 : decode cX9_leafRead 76 = .ok (.iconst 2, 1) := by decide +kernel
theorem dX9_leafRead_77 : decode cX9_leafRead 77 = .ok (.invokevirtual 286, 3) := by decide +kernel
theorem dX9_leafRead_80 : decode cX9_leafRead 80 = .ok (.aload_n 0, 1) := by decide +kernel
theorem dX9_leafRead_81 : decode cX9_leafRead 81 = .ok (.invokevirtual 194, 3) := by decide +kernel
theorem dX9_leafRead_84 : decode cX9_leafRead 84 = .ok (.iconst 1, 1) := by decide +kernel
theorem dX9_leafRead_85 : decode cX9_leafRead 85 = .ok (.ireturn, 1) := by decide +kernel
theorem dX9_leafRead_86 : decode cX9_leafRead 86 = .ok (.aload_n 0, 1) := by decide +kernel
theorem dX9_leafRead_87 : decode cX9_leafRead 87 = .ok (.invokevirtual 300, 3) := by decide +kernel
theorem dX9_leafRead_90 : decode cX9_leafRead 90 = .ok (.istore_n 1, 1) := by decide +kernel
theorem dX9_leafRead_91 : decode cX9_leafRead 91 = .ok (.iload_n 1, 1) := by decide +kernel
theorem dX9_leafRead_92 : decode cX9_leafRead 92 = .ok (.ifCond .ge 17, 3) := by decide +kernel
theorem dX9_leafRead_95 : decode cX9_leafRead 95 = .ok (.aload_n 0, 1) := by decide +kernel
theorem dX9_leafRead_96 : decode cX9_leafRead 96 = .ok (.getfield 160, 3) := by decide +kernel
theorem dX9_leafRead_99 : decode cX9_leafRead 99 = .ok (.iconst 3, 1) := by decide +kernel
theorem dX9_leafRead_100 : decode cX9_leafRead 100 = .ok (.if_icmp .eq 9, 3) := by decide +kernel
theorem dX9_leafRead_103 : decode cX9_leafRead 103 = .ok (.aload_n 0, 1) := by decide +kernel
theorem dX9_leafRead_104 : decode cX9_leafRead 104 = .ok (.iconst 1, 1) := by decide +kernel
theorem dX9_leafRead_105 : decode cX9_leafRead 105 = .ok (.invokevirtual 184, 3) := by decide +kernel
theorem dX9_leafRead_108 : decode cX9_leafRead 108 = .ok (.ireturn, 1) := by decide +kernel
theorem dX9_leafRead_109 : decode cX9_leafRead 109 = .ok (.iload_n 1, 1) := by decide +kernel
theorem dX9_leafRead_110 : decode cX9_leafRead 110 = .ok (.ifCond .ge 19, 3) := by decide +kernel
theorem dX9_leafRead_113 : decode cX9_leafRead 113 = .ok (.aload_n 0, 1) := by decide +kernel
theorem dX9_leafRead_114 : decode cX9_leafRead 114 = .ok (.getfield 171, 3) := by decide +kernel
theorem dX9_leafRead_117 : decode cX9_leafRead 117 = .ok (.sipush 9999, 3) := by decide +kernel
theorem dX9_leafRead_120 : decode cX9_leafRead 120 = .ok (.if_icmp .le 9, 3) := by decide +kernel
theorem dX9_leafRead_123 : decode cX9_leafRead 123 = .ok (.aload_n 0, 1) := by decide +kernel
theorem dX9_leafRead_124 : decode cX9_leafRead 124 = .ok (.iconst 2, 1) := by decide +kernel
theorem dX9_leafRead_125 : decode cX9_leafRead 125 = .ok (.invokevirtual 184, 3) := by decide +kernel
theorem dX9_leafRead_128 : decode cX9_leafRead 128 = .ok (.ireturn, 1) := by decide +kernel
theorem dX9_leafRead_129 : decode cX9_leafRead 129 = .ok (.aload_n 0, 1) := by decide +kernel
theorem dX9_leafRead_130 : decode cX9_leafRead 130 = .ok (.invokevirtual 297, 3) := by decide +kernel
theorem dX9_leafRead_133 : decode cX9_leafRead 133 = .ok (.ifCond .ne 5, 3) := by decide +kernel
theorem dX9_leafRead_136 : decode cX9_leafRead 136 = .ok (.iconst 0, 1) := by decide +kernel
theorem dX9_leafRead_137 : decode cX9_leafRead 137 = .ok (.ireturn, 1) := by decide +kernel
theorem dX9_leafRead_138 : decode cX9_leafRead 138 = .ok (.aload_n 0, 1) := by decide +kernel
theorem dX9_leafRead_139 : decode cX9_leafRead 139 = .ok (.iload_n 1, 1) := by decide +kernel
theorem dX9_leafRead_140 : decode cX9_leafRead 140 = .ok (.ifCond .lt 7, 3) := by decide +kernel
theorem dX9_leafRead_143 : decode cX9_leafRead 143 = .ok (.iconst 1, 1) := by decide +kernel
theorem dX9_leafRead_144 : decode cX9_leafRead 144 = .ok (.goto 4, 3) := by decide +kernel
theorem dX9_leafRead_147 : decode cX9_leafRead 147 = .ok (.iconst 0, 1) := by decide +kernel
theorem dX9_leafRead_148 : decode cX9_leafRead 148 = .ok (.iload_n 1, 1) := by decide +kernel
theorem dX9_leafRead_149 : decode cX9_leafRead 149 = .ok (.ifCond .lt 7, 3) := by decide +kernel
theorem dX9_leafRead_152 : decode cX9_leafRead 152 = .ok (.iload_n 1, 1) := by decide +kernel
theorem dX9_leafRead_153 : decode cX9_leafRead 153 = .ok (.goto 7, 3) := by decide +kernel
theorem dX9_leafRead_156 : decode cX9_leafRead 156 = .ok (.aload_n 0, 1) := by decide +kernel
theorem dX9_leafRead_157 : decode cX9_leafRead 157 = .ok (.getfield 171, 3) := by decide +kernel
theorem dX9_leafRead_160 : decode cX9_leafRead 160 = .ok (.iconst 0, 1) := by decide +kernel
theorem dX9_leafRead_161 : decode cX9_leafRead 161 = .ok (.invokevirtual 279, 3) := by decide +kernel
theorem dX9_leafRead_164 : decode cX9_leafRead 164 = .ok (.aload_n 0, 1) := by decide +kernel
theorem dX9_leafRead_165 : decode cX9_leafRead 165 = .ok (.iconst 0, 1) := by decide +kernel
theorem dX9_leafRead_166 : decode cX9_leafRead 166 = .ok (.putfield 303, 3) := by decide +kernel
theorem dX9_leafRead_169 : decode cX9_leafRead 169 = .ok (.aload_n 0, 1) := by decide +kernel
theorem dX9_leafRead_170 : decode cX9_leafRead 170 = .ok (.invokevirtual 194, 3) := by decide +kernel
theorem dX9_leafRead_173 : decode cX9_leafRead 173 = .ok (.iconst 1, 1) := by decide +kernel
theorem dX9_leafRead_174 : decode cX9_leafRead 174 = .ok (.ireturn, 1) := by decide +kernel
theorem dX9_signs_0 : decode cX9_signs 0 = .ok (.aload_n 0, 1) := by decide +kernel
theorem dX9_signs_1 : decode cX9_signs 1 = .ok (.bipush 41, 2) := by decide +kernel
theorem dX9_signs_3 : decode cX9_signs 3 = .ok (.invokevirtual 197, 3) := by decide +kernel
theorem dX9_signs_6 : decode cX9_signs 6 = .ok (.ifCond .eq 41, 3) := by decide +kernel
theorem dX9_signs_9 : decode cX9_signs 9 = .ok (.aload_n 0, 1) := by decide +kernel
theorem dX9_signs_10 : decode cX9_signs 10 = .ok (.getfield 283, 3) := by decide +kernel
theorem dX9_signs_13 : decode cX9_signs 13 = .ok (.ifCond .le 34, 3) := by decide +kernel
theorem dX9_signs_16 : decode cX9_signs 16 = .ok (.aload_n 0, 1) := by decide +kernel
theorem dX9_signs_17 : decode cX9_signs 17 = .ok (.iconst 1, 1) := by decide +kernel
theorem dX9_signs_18 : decode cX9_signs 18 = .ok (.invokevirtual 306, 3) := by decide +kernel
theorem dX9_signs_21 : decode cX9_signs 21 = .ok (.aload_n 0, 1) := by decide +kernel
theorem dX9_signs_22 : decode cX9_signs 22 = .ok (.dup, 1) := by decide +kernel
theorem dX9_signs_23 : decode cX9_signs 23 = .ok (.getfield 268, 3) := by decide +kernel
theorem dX9_signs_26 : decode cX9_signs 26 = .ok (.iconst 1, 1) := by decide +kernel
theorem dX9_signs_27 : decode cX9_signs 27 = .ok (.isub, 1) := by decide +kernel
theorem dX9_signs_28 : decode cX9_signs 28 = .ok (.putfield 268, 3) := by decide +kernel
theorem dX9_signs_31 : decode cX9_signs 31 = .ok (.aload_n 0, 1) := by decide +kernel
theorem dX9_signs_32 : decode cX9_signs 32 = .ok (.dup, 1) := by decide +kernel
theorem dX9_signs_33 : decode cX9_signs 33 = .ok (.getfield 283, 3) := by decide +kernel
theorem dX9_signs_36 : decode cX9_signs 36 = .ok (.iconst 1, 1) := by decide +kernel
theorem dX9_signs_37 : decode cX9_signs 37 = .ok (.isub, 1) := by decide +kernel
theorem dX9_signs_38 : decode cX9_signs 38 = .ok (.putfield 283, 3) := by decide +kernel
theorem dX9_signs_41 : decode cX9_signs 41 = .ok (.aload_n 0, 1) := by decide +kernel
theorem dX9_signs_42 : decode cX9_signs 42 = .ok (.invokevirtual 194, 3) := by decide +kernel
theorem dX9_signs_45 : decode cX9_signs 45 = .ok (.iconst 1, 1) := by decide +kernel
theorem dX9_signs_46 : decode cX9_signs 46 = .ok (.ireturn, 1) := by decide +kernel
theorem dX9_signs_47 : decode cX9_signs 47 = .ok (.aload_n 0, 1) := by decide +kernel
theorem dX9_signs_48 : decode cX9_signs 48 = .ok (.bipush 10, 2) := by decide +kernel
theorem dX9_signs_50 : decode cX9_signs 50 = .ok (.invokevirtual 294, 3) := by decide +kernel
theorem dX9_signs_53 : decode cX9_signs 53 = .ok (.ifCond .eq 7, 3) := by decide +kernel
theorem dX9_signs_56 : decode cX9_signs 56 = .ok (.iconst 3, 1) := by decide +kernel
theorem dX9_signs_57 : decode cX9_signs 57 = .ok (.goto 90, 3) := by decide +kernel
theorem dX9_signs_60 : decode cX9_signs 60 = .ok (.aload_n 0, 1) := by decide +kernel
theorem dX9_signs_61 : decode cX9_signs 61 = .ok (.bipush 11, 2) := by decide +kernel
theorem dX9_signs_63 : decode cX9_signs 63 = .ok (.invokevirtual 294, 3) := by decide +kernel
theorem dX9_signs_66 : decode cX9_signs 66 = .ok (.ifCond .eq 7, 3) := by decide +kernel
theorem dX9_signs_69 : decode cX9_signs 69 = .ok (.iconst 4, 1) := by decide +kernel
theorem dX9_signs_70 : decode cX9_signs 70 = .ok (.goto 77, 3) := by decide +kernel
theorem dX9_signs_73 : decode cX9_signs 73 = .ok (.aload_n 0, 1) := by decide +kernel
theorem dX9_signs_74 : decode cX9_signs 74 = .ok (.getfield 160, 3) := by decide +kernel
theorem dX9_signs_77 : decode cX9_signs 77 = .ok (.iconst 5, 1) := by decide +kernel
theorem dX9_signs_78 : decode cX9_signs 78 = .ok (.if_icmp .ne 12, 3) := by decide +kernel
theorem dX9_signs_81 : decode cX9_signs 81 = .ok (.iconst 5, 1) := by decide +kernel
theorem dX9_signs_82 : decode cX9_signs 82 = .ok (.aload_n 0, 1) := by decide +kernel
theorem dX9_signs_83 : decode cX9_signs 83 = .ok (.getfield 171, 3) := by decide +kernel
theorem dX9_signs_86 : decode cX9_signs 86 = .ok (.iadd, 1) := by decide +kernel
theorem dX9_signs_87 : decode cX9_signs 87 = .ok (.goto 60, 3) := by decide +kernel
theorem dX9_signs_90 : decode cX9_signs 90 = .ok (.aload_n 0, 1) := by decide +kernel
theorem dX9_signs_91 : decode cX9_signs 91 = .ok (.bipush 43, 2) := by decide +kernel
theorem dX9_signs_93 : decode cX9_signs 93 = .ok (.invokevirtual 197, 3) := by decide +kernel
theorem dX9_signs_96 : decode cX9_signs 96 = .ok (.ifCond .eq 8, 3) := by decide +kernel
theorem dX9_signs_99 : decode cX9_signs 99 = .ok (.bipush 11, 2) := by decide +kernel
theorem dX9_signs_101 : decode cX9_signs 101 = .ok (.goto 46, 3) := by decide +kernel
theorem dX9_signs_104 : decode cX9_signs 104 = .ok (.aload_n 0, 1) := by decide +kernel
theorem dX9_signs_105 : decode cX9_signs 105 = .ok (.bipush 45, 2) := by decide +kernel
theorem dX9_signs_107 : decode cX9_signs 107 = .ok (.invokevirtual 197, 3) := by decide +kernel
theorem dX9_signs_110 : decode cX9_signs 110 = .ok (.ifCond .eq 8, 3) := by decide +kernel
theorem dX9_signs_113 : decode cX9_signs 113 = .ok (.bipush 12, 2) := by decide +kernel
theorem dX9_signs_115 : decode cX9_signs 115 = .ok (.goto 32, 3) := by decide +kernel
theorem dX9_signs_118 : decode cX9_signs 118 = .ok (.aload_n 0, 1) := by decide +kernel
theorem dX9_signs_119 : decode cX9_signs 119 = .ok (.bipush 42, 2) := by decide +kernel
theorem dX9_signs_121 : decode cX9_signs 121 = .ok (.invokevirtual 197, 3) := by decide +kernel
theorem dX9_signs_124 : decode cX9_signs 124 = .ok (.ifCond .eq 8, 3) := by decide +kernel
theorem dX9_signs_127 : decode cX9_signs 127 = .ok (.bipush 13, 2) := by decide +kernel
theorem dX9_signs_129 : decode cX9_signs 129 = .ok (.goto 18, 3) := by decide +kernel
theorem dX9_signs_132 : decode cX9_signs 132 = .ok (.aload_n 0, 1) := by decide +kernel
theorem dX9_signs_133 : decode cX9_signs 133 = .ok (.bipush 47, 2) := by decide +kernel
theorem dX9_signs_135 : decode cX9_signs 135 = .ok (.invokevirtual 197, 3) := by decide +kernel
theorem dX9_signs_138 : decode cX9_signs 138 = .ok (.ifCond .eq 8, 3) := by decide +kernel
theorem dX9_signs_141 : decode cX9_signs 141 = .ok (.bipush 14, 2) := by decide +kernel
theorem dX9_signs_143 : decode cX9_signs 143 = .ok (.goto 4, 3) := by decide +kernel
theorem dX9_signs_146 : decode cX9_signs 146 = .ok (.iconst 0, 1) := by decide +kernel
theorem dX9_signs_147 : decode cX9_signs 147 = .ok (.istore_n 1, 1) := by decide +kernel
theorem dX9_signs_148 : decode cX9_signs 148 = .ok (.iload_n 1, 1) := by decide +kernel
theorem dX9_signs_149 : decode cX9_signs 149 = .ok (.ifCond .ne 9, 3) := by decide +kernel
theorem dX9_signs_152 : decode cX9_signs 152 = .ok (.aload_n 0, 1) := by decide +kernel
theorem dX9_signs_153 : decode cX9_signs 153 = .ok (.iconst 1, 1) := by decide +kernel
theorem dX9_signs_154 : decode cX9_signs 154 = .ok (.invokevirtual 184, 3) := by decide +kernel
theorem dX9_signs_157 : decode cX9_signs 157 = .ok (.ireturn, 1) := by decide +kernel
theorem dX9_signs_158 : decode cX9_signs 158 = .ok (.aload_n 0, 1) := by decide +kernel
theorem dX9_signs_159 : decode cX9_signs 159 = .ok (.iload_n 1, 1) := by decide +kernel
theorem dX9_signs_160 : decode cX9_signs 160 = .ok (.invokestatic 271, 3) := by decide +kernel
theorem dX9_signs_163 : decode cX9_signs 163 = .ok (.iconst 4, 1) := by decide +kernel
theorem dX9_signs_164 : decode cX9_signs 164 = .ok (.if_icmp .ne 7, 3) := by decide +kernel
theorem dX9_signs_167 : decode cX9_signs 167 = .ok (.iconst 5, 1) := by decide +kernel
theorem dX9_signs_168 : decode cX9_signs 168 = .ok (.goto 7, 3) := by decide +kernel
theorem dX9_signs_171 : decode cX9_signs 171 = .ok (.iload_n 1, 1) := by decide +kernel
theorem dX9_signs_172 : decode cX9_signs 172 = .ok (.invokestatic 271, 3) := by decide +kernel
theorem dX9_signs_175 : decode cX9_signs 175 = .ok (.invokevirtual 306, 3) := by decide +kernel
theorem dX9_signs_178 : decode cX9_signs 178 = .ok (.iload_n 1, 1) := by decide +kernel
theorem dX9_signs_179 : decode cX9_signs 179 = .ok (.invokestatic 271, 3) := by decide +kernel
theorem dX9_signs_182 : decode cX9_signs 182 = .ok (.iconst 4, 1) := by decide +kernel
theorem dX9_signs_183 : decode cX9_signs 183 = .ok (.if_icmp .ne 34, 3) := by decide +kernel
theorem dX9_signs_186 : decode cX9_signs 186 = .ok (.aload_n 0, 1) := by decide +kernel
theorem dX9_signs_187 : decode cX9_signs 187 = .ok (.getfield 268, 3) := by decide +kernel
theorem dX9_signs_190 : decode cX9_signs 190 = .ok (.ifCond .le 27, 3) := by decide +kernel
theorem dX9_signs_193 : decode cX9_signs 193 = .ok (.aload_n 0, 1) := by decide +kernel
theorem dX9_signs_194 : decode cX9_signs 194 = .ok (.getfield 75, 3) := by decide +kernel
theorem dX9_signs_197 : decode cX9_signs 197 = .ok (.aload_n 0, 1) := by decide +kernel
theorem dX9_signs_198 : decode cX9_signs 198 = .ok (.getfield 268, 3) := by decide +kernel
theorem dX9_signs_201 : decode cX9_signs 201 = .ok (.iconst 1, 1) := by decide +kernel
theorem dX9_signs_202 : decode cX9_signs 202 = .ok (.isub, 1) := by decide +kernel
theorem dX9_signs_203 : decode cX9_signs 203 = .ok (.iaload, 1) := by decide +kernel
theorem dX9_signs_204 : decode cX9_signs 204 = .ok (.invokestatic 271, 3) := by decide +kernel
theorem dX9_signs_207 : decode cX9_signs 207 = .ok (.iconst 4, 1) := by decide +kernel
theorem dX9_signs_208 : decode cX9_signs 208 = .ok (.if_icmp .ne 9, 3) := by decide +kernel
theorem dX9_signs_211 : decode cX9_signs 211 = .ok (.aload_n 0, 1) := by decide +kernel
theorem dX9_signs_212 : decode cX9_signs 212 = .ok (.iconst 1, 1) := by decide +kernel
theorem dX9_signs_213 : decode cX9_signs 213 = .ok (.invokevirtual 184, 3) := by decide +kernel
theorem dX9_signs_216 : decode cX9_signs 216 = .ok (.ireturn, 1) := by decide +kernel
theorem dX9_signs_217 : decode cX9_signs 217 = .ok (.aload_n 0, 1) := by decide +kernel
theorem dX9_signs_218 : decode cX9_signs 218 = .ok (.invokevirtual 297, 3) := by decide +kernel
theorem dX9_signs_221 : decode cX9_signs 221 = .ok (.ifCond .ne 5, 3) := by decide +kernel
theorem dX9_signs_224 : decode cX9_signs 224 = .ok (.iconst 0, 1) := by decide +kernel
theorem dX9_signs_225 : decode cX9_signs 225 = .ok (.ireturn, 1) := by decide +kernel
theorem dX9_signs_226 : decode cX9_signs 226 = .ok (.aload_n 0, 1) := by decide +kernel
theorem dX9_signs_227 : decode cX9_signs 227 = .ok (.iload_n 1, 1) := by decide +kernel
theorem dX9_signs_228 : decode cX9_signs 228 = .ok (.invokevirtual 286, 3) := by decide +kernel
theorem dX9_signs_231 : decode cX9_signs 231 = .ok (.aload_n 0, 1) := by decide +kernel
theorem dX9_signs_232 : decode cX9_signs 232 = .ok (.iconst 1, 1) := by decide +kernel
theorem dX9_signs_233 : decode cX9_signs 233 = .ok (.putfield 303, 3) := by decide +kernel
theorem dX9_signs_236 : decode cX9_signs 236 = .ok (.aload_n 0, 1) := by decide +kernel
theorem dX9_signs_237 : decode cX9_signs 237 = .ok (.iload_n 1, 1) := by decide +kernel
theorem dX9_signs_238 : decode cX9_signs 238 = .ok (.invokestatic 271, 3) := by decide +kernel
theorem dX9_signs_241 : decode cX9_signs 241 = .ok (.iconst 3, 1) := by decide +kernel
theorem dX9_signs_242 : decode cX9_signs 242 = .ok (.if_icmp .ge 7, 3) := by decide +kernel
theorem dX9_signs_245 : decode cX9_signs 245 = .ok (.iconst 1, 1) := by decide +kernel
theorem dX9_signs_246 : decode cX9_signs 246 = .ok (.goto 4, 3) := by decide +kernel
theorem dX9_signs_249 : decode cX9_signs 249 = .ok (.iconst 0, 1) := by decide +kernel
theorem dX9_signs_250 : decode cX9_signs 250 = .ok (.putfield 290, 3) := by decide +kernel
theorem dX9_signs_253 : decode cX9_signs 253 = .ok (.aload_n 0, 1) := by decide +kernel
theorem dX9_signs_254 : decode cX9_signs 254 = .ok (.invokevirtual 194, 3) := by decide +kernel
theorem dX9_signs_257 : decode cX9_signs 257 = .ok (.iconst 1, 1) := by decide +kernel
theorem dX9_signs_258 : decode cX9_signs 258 = .ok (.ireturn, 1) := by decide +kernel
theorem dX9_sumRead_0 : decode cX9_sumRead 0 = .ok (.aload_n 0, 1) := by decide +kernel
theorem dX9_sumRead_1 : decode cX9_sumRead 1 = .ok (.iconst 0, 1) := by decide +kernel
theorem dX9_sumRead_2 : decode cX9_sumRead 2 = .ok (.putfield 268, 3) := by decide +kernel
theorem dX9_sumRead_5 : decode cX9_sumRead 5 = .ok (.aload_n 0, 1) := by decide +kernel
theorem dX9_sumRead_6 : decode cX9_sumRead 6 = .ok (.iconst 0, 1) := by decide +kernel
theorem dX9_sumRead_7 : decode cX9_sumRead 7 = .ok (.putfield 265, 3) := by decide +kernel
theorem dX9_sumRead_10 : decode cX9_sumRead 10 = .ok (.aload_n 0, 1) := by decide +kernel
theorem dX9_sumRead_11 : decode cX9_sumRead 11 = .ok (.iconst 0, 1) := by decide +kernel
theorem dX9_sumRead_12 : decode cX9_sumRead 12 = .ok (.putfield 283, 3) := by decide +kernel
theorem dX9_sumRead_15 : decode cX9_sumRead 15 = .ok (.aload_n 0, 1) := by decide +kernel
theorem dX9_sumRead_16 : decode cX9_sumRead 16 = .ok (.iconst 1, 1) := by decide +kernel
theorem dX9_sumRead_17 : decode cX9_sumRead 17 = .ok (.putfield 303, 3) := by decide +kernel
theorem dX9_sumRead_20 : decode cX9_sumRead 20 = .ok (.aload_n 0, 1) := by decide +kernel
theorem dX9_sumRead_21 : decode cX9_sumRead 21 = .ok (.iconst 1, 1) := by decide +kernel
theorem dX9_sumRead_22 : decode cX9_sumRead 22 = .ok (.putfield 290, 3) := by decide +kernel
theorem dX9_sumRead_25 : decode cX9_sumRead 25 = .ok (.aload_n 0, 1) := by decide +kernel
theorem dX9_sumRead_26 : decode cX9_sumRead 26 = .ok (.bipush 59, 2) := by decide +kernel
theorem dX9_sumRead_28 : decode cX9_sumRead 28 = .ok (.invokevirtual 197, 3) := by decide +kernel
theorem dX9_sumRead_31 : decode cX9_sumRead 31 = .ok (.ifCond .eq 17, 3) := by decide +kernel
theorem dX9_sumRead_34 : decode cX9_sumRead 34 = .ok (.aload_n 0, 1) := by decide +kernel
theorem dX9_sumRead_35 : decode cX9_sumRead 35 = .ok (.getfield 303, 3) := by decide +kernel
theorem dX9_sumRead_38 : decode cX9_sumRead 38 = .ok (.ifCond .ne 10, 3) := by decide +kernel
theorem dX9_sumRead_41 : decode cX9_sumRead 41 = .ok (.aload_n 0, 1) := by decide +kernel
theorem dX9_sumRead_42 : decode cX9_sumRead 42 = .ok (.getfield 283, 3) := by decide +kernel
theorem dX9_sumRead_45 : decode cX9_sumRead 45 = .ok (.ifCond .le 29, 3) := by decide +kernel
theorem dX9_sumRead_48 : decode cX9_sumRead 48 = .ok (.aload_n 0, 1) := by decide +kernel
theorem dX9_sumRead_49 : decode cX9_sumRead 49 = .ok (.getfield 303, 3) := by decide +kernel
theorem dX9_sumRead_52 : decode cX9_sumRead 52 = .ok (.ifCond .eq 13, 3) := by decide +kernel
theorem dX9_sumRead_55 : decode cX9_sumRead 55 = .ok (.aload_n 0, 1) := by decide +kernel
theorem dX9_sumRead_56 : decode cX9_sumRead 56 = .ok (.invokevirtual 309, 3) := by decide +kernel
theorem dX9_sumRead_59 : decode cX9_sumRead 59 = .ok (.ifCond .eq 13, 3) := by decide +kernel
theorem dX9_sumRead_62 : decode cX9_sumRead 62 = .ok (.goto (-37), 3) := by decide +kernel
theorem dX9_sumRead_65 : decode cX9_sumRead 65 = .ok (.aload_n 0, 1) := by decide +kernel
theorem dX9_sumRead_66 : decode cX9_sumRead 66 = .ok (.invokevirtual 312, 3) := by decide +kernel
theorem dX9_sumRead_69 : decode cX9_sumRead 69 = .ok (.ifCond .ne (-44), 3) := by decide +kernel
theorem dX9_sumRead_72 : decode cX9_sumRead 72 = .ok (.iconst 0, 1) := by decide +kernel
theorem dX9_sumRead_73 : decode cX9_sumRead 73 = .ok (.ireturn, 1) := by decide +kernel
theorem dX9_sumRead_74 : decode cX9_sumRead 74 = .ok (.aload_n 0, 1) := by decide +kernel
theorem dX9_sumRead_75 : decode cX9_sumRead 75 = .ok (.iconst 1, 1) := by decide +kernel
theorem dX9_sumRead_76 : decode cX9_sumRead 76 = .ok (.invokevirtual 306, 3) := by decide +kernel
theorem dX9_sumRead_79 : decode cX9_sumRead 79 = .ok (.iconst 1, 1) := by decide +kernel
theorem dX9_sumRead_80 : decode cX9_sumRead 80 = .ok (.ireturn, 1) := by decide +kernel
theorem dX9_bounded_0 : decode cX9_bounded 0 = .ok (.aload_n 0, 1) := by decide +kernel
theorem dX9_bounded_1 : decode cX9_bounded 1 = .ok (.aload_n 0, 1) := by decide +kernel
theorem dX9_bounded_2 : decode cX9_bounded 2 = .ok (.getfield 315, 3) := by decide +kernel
theorem dX9_bounded_5 : decode cX9_bounded 5 = .ok (.ifCond .ne 19, 3) := by decide +kernel
theorem dX9_bounded_8 : decode cX9_bounded 8 = .ok (.lload_n 1, 1) := by decide +kernel
theorem dX9_bounded_9 : decode cX9_bounded 9 = .ok (.ldc2_w 318, 3) := by decide +kernel
theorem dX9_bounded_12 : decode cX9_bounded 12 = .ok (.lcmp, 1) := by decide +kernel
theorem dX9_bounded_13 : decode cX9_bounded 13 = .ok (.ifCond .gt 11, 3) := by decide +kernel
theorem dX9_bounded_16 : decode cX9_bounded 16 = .ok (.lload_n 1, 1) := by decide +kernel
theorem dX9_bounded_17 : decode cX9_bounded 17 = .ok (.ldc2_w 320, 3) := by decide +kernel
theorem dX9_bounded_20 : decode cX9_bounded 20 = .ok (.lcmp, 1) := by decide +kernel
theorem dX9_bounded_21 : decode cX9_bounded 21 = .ok (.ifCond .ge 7, 3) := by decide +kernel
theorem dX9_bounded_24 : decode cX9_bounded 24 = .ok (.iconst 1, 1) := by decide +kernel
theorem dX9_bounded_25 : decode cX9_bounded 25 = .ok (.goto 4, 3) := by decide +kernel
theorem dX9_bounded_28 : decode cX9_bounded 28 = .ok (.iconst 0, 1) := by decide +kernel
theorem dX9_bounded_29 : decode cX9_bounded 29 = .ok (.putfield 315, 3) := by decide +kernel
theorem dX9_bounded_32 : decode cX9_bounded 32 = .ok (.aload_n 0, 1) := by decide +kernel
theorem dX9_bounded_33 : decode cX9_bounded 33 = .ok (.getfield 315, 3) := by decide +kernel
theorem dX9_bounded_36 : decode cX9_bounded 36 = .ok (.ifCond .eq 7, 3) := by decide +kernel
theorem dX9_bounded_39 : decode cX9_bounded 39 = .ok (.lconst 0, 1) := by decide +kernel
theorem dX9_bounded_40 : decode cX9_bounded 40 = .ok (.goto 4, 3) := by decide +kernel
theorem dX9_bounded_43 : decode cX9_bounded 43 = .ok (.lload_n 1, 1) := by decide +kernel
theorem dX9_bounded_44 : decode cX9_bounded 44 = .ok (.lreturn, 1) := by decide +kernel
theorem dX9_compares_0 : decode cX9_compares 0 = .ok (.iload_n 0, 1) := by decide +kernel
theorem dX9_compares_1 : decode cX9_compares 1 = .ok (.tableswitch 95 5 9 #[35, 47, 59, 71, 83], 35) := by decide +kernel
theorem dX9_compares_36 : decode cX9_compares 36 = .ok (.lload_n 1, 1) := by decide +kernel
theorem dX9_compares_37 : decode cX9_compares 37 = .ok (.lload_n 3, 1) := by decide +kernel
theorem dX9_compares_38 : decode cX9_compares 38 = .ok (.lcmp, 1) := by decide +kernel
theorem dX9_compares_39 : decode cX9_compares 39 = .ok (.ifCond .ge 7, 3) := by decide +kernel
theorem dX9_compares_42 : decode cX9_compares 42 = .ok (.iconst 1, 1) := by decide +kernel
theorem dX9_compares_43 : decode cX9_compares 43 = .ok (.goto 4, 3) := by decide +kernel
theorem dX9_compares_46 : decode cX9_compares 46 = .ok (.iconst 0, 1) := by decide +kernel
theorem dX9_compares_47 : decode cX9_compares 47 = .ok (.ireturn, 1) := by decide +kernel
theorem dX9_compares_48 : decode cX9_compares 48 = .ok (.lload_n 1, 1) := by decide +kernel
theorem dX9_compares_49 : decode cX9_compares 49 = .ok (.lload_n 3, 1) := by decide +kernel
theorem dX9_compares_50 : decode cX9_compares 50 = .ok (.lcmp, 1) := by decide +kernel
theorem dX9_compares_51 : decode cX9_compares 51 = .ok (.ifCond .gt 7, 3) := by decide +kernel
theorem dX9_compares_54 : decode cX9_compares 54 = .ok (.iconst 1, 1) := by decide +kernel
theorem dX9_compares_55 : decode cX9_compares 55 = .ok (.goto 4, 3) := by decide +kernel
theorem dX9_compares_58 : decode cX9_compares 58 = .ok (.iconst 0, 1) := by decide +kernel
theorem dX9_compares_59 : decode cX9_compares 59 = .ok (.ireturn, 1) := by decide +kernel
theorem dX9_compares_60 : decode cX9_compares 60 = .ok (.lload_n 1, 1) := by decide +kernel
theorem dX9_compares_61 : decode cX9_compares 61 = .ok (.lload_n 3, 1) := by decide +kernel
theorem dX9_compares_62 : decode cX9_compares 62 = .ok (.lcmp, 1) := by decide +kernel
theorem dX9_compares_63 : decode cX9_compares 63 = .ok (.ifCond .ne 7, 3) := by decide +kernel
theorem dX9_compares_66 : decode cX9_compares 66 = .ok (.iconst 1, 1) := by decide +kernel
theorem dX9_compares_67 : decode cX9_compares 67 = .ok (.goto 4, 3) := by decide +kernel
theorem dX9_compares_70 : decode cX9_compares 70 = .ok (.iconst 0, 1) := by decide +kernel
theorem dX9_compares_71 : decode cX9_compares 71 = .ok (.ireturn, 1) := by decide +kernel
theorem dX9_compares_72 : decode cX9_compares 72 = .ok (.lload_n 1, 1) := by decide +kernel
theorem dX9_compares_73 : decode cX9_compares 73 = .ok (.lload_n 3, 1) := by decide +kernel
theorem dX9_compares_74 : decode cX9_compares 74 = .ok (.lcmp, 1) := by decide +kernel
theorem dX9_compares_75 : decode cX9_compares 75 = .ok (.ifCond .eq 7, 3) := by decide +kernel
theorem dX9_compares_78 : decode cX9_compares 78 = .ok (.iconst 1, 1) := by decide +kernel
theorem dX9_compares_79 : decode cX9_compares 79 = .ok (.goto 4, 3) := by decide +kernel
theorem dX9_compares_82 : decode cX9_compares 82 = .ok (.iconst 0, 1) := by decide +kernel
theorem dX9_compares_83 : decode cX9_compares 83 = .ok (.ireturn, 1) := by decide +kernel
theorem dX9_compares_84 : decode cX9_compares 84 = .ok (.lload_n 1, 1) := by decide +kernel
theorem dX9_compares_85 : decode cX9_compares 85 = .ok (.lload_n 3, 1) := by decide +kernel
theorem dX9_compares_86 : decode cX9_compares 86 = .ok (.lcmp, 1) := by decide +kernel
theorem dX9_compares_87 : decode cX9_compares 87 = .ok (.ifCond .lt 7, 3) := by decide +kernel
theorem dX9_compares_90 : decode cX9_compares 90 = .ok (.iconst 1, 1) := by decide +kernel
theorem dX9_compares_91 : decode cX9_compares 91 = .ok (.goto 4, 3) := by decide +kernel
theorem dX9_compares_94 : decode cX9_compares 94 = .ok (.iconst 0, 1) := by decide +kernel
theorem dX9_compares_95 : decode cX9_compares 95 = .ok (.ireturn, 1) := by decide +kernel
theorem dX9_compares_96 : decode cX9_compares 96 = .ok (.lload_n 1, 1) := by decide +kernel
theorem dX9_compares_97 : decode cX9_compares 97 = .ok (.lload_n 3, 1) := by decide +kernel
theorem dX9_compares_98 : decode cX9_compares 98 = .ok (.lcmp, 1) := by decide +kernel
theorem dX9_compares_99 : decode cX9_compares 99 = .ok (.ifCond .le 7, 3) := by decide +kernel
theorem dX9_compares_102 : decode cX9_compares 102 = .ok (.iconst 1, 1) := by decide +kernel
theorem dX9_compares_103 : decode cX9_compares 103 = .ok (.goto 4, 3) := by decide +kernel
theorem dX9_compares_106 : decode cX9_compares 106 = .ok (.iconst 0, 1) := by decide +kernel
theorem dX9_compares_107 : decode cX9_compares 107 = .ok (.ireturn, 1) := by decide +kernel
theorem dX9_times_0 : decode cX9_times 0 = .ok (.lload_n 1, 1) := by decide +kernel
theorem dX9_times_1 : decode cX9_times 1 = .ok (.lconst 0, 1) := by decide +kernel
theorem dX9_times_2 : decode cX9_times 2 = .ok (.lcmp, 1) := by decide +kernel
theorem dX9_times_3 : decode cX9_times 3 = .ok (.ifCond .eq 45, 3) := by decide +kernel
theorem dX9_times_6 : decode cX9_times 6 = .ok (.lload_n 3, 1) := by decide +kernel
theorem dX9_times_7 : decode cX9_times 7 = .ok (.lconst 0, 1) := by decide +kernel
theorem dX9_times_8 : decode cX9_times 8 = .ok (.lcmp, 1) := by decide +kernel
theorem dX9_times_9 : decode cX9_times 9 = .ok (.ifCond .eq 39, 3) := by decide +kernel
theorem dX9_times_12 : decode cX9_times 12 = .ok (.lload_n 3, 1) := by decide +kernel
theorem dX9_times_13 : decode cX9_times 13 = .ok (.lconst 0, 1) := by decide +kernel
theorem dX9_times_14 : decode cX9_times 14 = .ok (.lcmp, 1) := by decide +kernel
theorem dX9_times_15 : decode cX9_times 15 = .ok (.ifCond .ge 8, 3) := by decide +kernel
theorem dX9_times_18 : decode cX9_times 18 = .ok (.lload_n 3, 1) := by decide +kernel
theorem dX9_times_19 : decode cX9_times 19 = .ok (.lneg, 1) := by decide +kernel
theorem dX9_times_20 : decode cX9_times 20 = .ok (.goto 4, 3) := by decide +kernel
theorem dX9_times_23 : decode cX9_times 23 = .ok (.lload_n 3, 1) := by decide +kernel
theorem dX9_times_24 : decode cX9_times 24 = .ok (.ldc2_w 318, 3) := by decide +kernel
theorem dX9_times_27 : decode cX9_times 27 = .ok (.lload_n 1, 1) := by decide +kernel
theorem dX9_times_28 : decode cX9_times 28 = .ok (.lconst 0, 1) := by decide +kernel
theorem dX9_times_29 : decode cX9_times 29 = .ok (.lcmp, 1) := by decide +kernel
theorem dX9_times_30 : decode cX9_times 30 = .ok (.ifCond .ge 8, 3) := by decide +kernel
theorem dX9_times_33 : decode cX9_times 33 = .ok (.lload_n 1, 1) := by decide +kernel
theorem dX9_times_34 : decode cX9_times 34 = .ok (.lneg, 1) := by decide +kernel
theorem dX9_times_35 : decode cX9_times 35 = .ok (.goto 4, 3) := by decide +kernel
theorem dX9_times_38 : decode cX9_times 38 = .ok (.lload_n 1, 1) := by decide +kernel
theorem dX9_times_39 : decode cX9_times 39 = .ok (.ldiv, 1) := by decide +kernel
theorem dX9_times_40 : decode cX9_times 40 = .ok (.lcmp, 1) := by decide +kernel
theorem dX9_times_41 : decode cX9_times 41 = .ok (.ifCond .le 7, 3) := by decide +kernel
theorem dX9_times_44 : decode cX9_times 44 = .ok (.iconst 1, 1) := by decide +kernel
theorem dX9_times_45 : decode cX9_times 45 = .ok (.goto 4, 3) := by decide +kernel
theorem dX9_times_48 : decode cX9_times 48 = .ok (.iconst 0, 1) := by decide +kernel
theorem dX9_times_49 : decode cX9_times 49 = .ok (.istore 5, 2) := by decide +kernel
theorem dX9_times_51 : decode cX9_times 51 = .ok (.aload_n 0, 1) := by decide +kernel
theorem dX9_times_52 : decode cX9_times 52 = .ok (.aload_n 0, 1) := by decide +kernel
theorem dX9_times_53 : decode cX9_times 53 = .ok (.getfield 315, 3) := by decide +kernel
theorem dX9_times_56 : decode cX9_times 56 = .ok (.ifCond .ne 8, 3) := by decide +kernel
theorem dX9_times_59 : decode cX9_times 59 = .ok (.iload 5, 2) := by decide +kernel
theorem dX9_times_61 : decode cX9_times 61 = .ok (.ifCond .eq 7, 3) := by decide +kernel
theorem dX9_times_64 : decode cX9_times 64 = .ok (.iconst 1, 1) := by decide +kernel
theorem dX9_times_65 : decode cX9_times 65 = .ok (.goto 4, 3) := by decide +kernel
theorem dX9_times_68 : decode cX9_times 68 = .ok (.iconst 0, 1) := by decide +kernel
theorem dX9_times_69 : decode cX9_times 69 = .ok (.putfield 315, 3) := by decide +kernel
theorem dX9_times_72 : decode cX9_times 72 = .ok (.aload_n 0, 1) := by decide +kernel
theorem dX9_times_73 : decode cX9_times 73 = .ok (.getfield 315, 3) := by decide +kernel
theorem dX9_times_76 : decode cX9_times 76 = .ok (.ifCond .eq 7, 3) := by decide +kernel
theorem dX9_times_79 : decode cX9_times 79 = .ok (.lconst 0, 1) := by decide +kernel
theorem dX9_times_80 : decode cX9_times 80 = .ok (.goto 6, 3) := by decide +kernel
theorem dX9_times_83 : decode cX9_times 83 = .ok (.lload_n 1, 1) := by decide +kernel
theorem dX9_times_84 : decode cX9_times 84 = .ok (.lload_n 3, 1) := by decide +kernel
theorem dX9_times_85 : decode cX9_times 85 = .ok (.lmul, 1) := by decide +kernel
theorem dX9_times_86 : decode cX9_times 86 = .ok (.lreturn, 1) := by decide +kernel
theorem dX9_valueOf_0 : decode cX9_valueOf 0 = .ok (.aload_n 0, 1) := by decide +kernel
theorem dX9_valueOf_1 : decode cX9_valueOf 1 = .ok (.getfield 63, 3) := by decide +kernel
theorem dX9_valueOf_4 : decode cX9_valueOf 4 = .ok (.iload_n 1, 1) := by decide +kernel
theorem dX9_valueOf_5 : decode cX9_valueOf 5 = .ok (.iaload, 1) := by decide +kernel
theorem dX9_valueOf_6 : decode cX9_valueOf 6 = .ok (.ifCond .ne 11, 3) := by decide +kernel
theorem dX9_valueOf_9 : decode cX9_valueOf 9 = .ok (.aload_n 0, 1) := by decide +kernel
theorem dX9_valueOf_10 : decode cX9_valueOf 10 = .ok (.getfield 69, 3) := by decide +kernel
theorem dX9_valueOf_13 : decode cX9_valueOf 13 = .ok (.iload_n 1, 1) := by decide +kernel
theorem dX9_valueOf_14 : decode cX9_valueOf 14 = .ok (.iaload, 1) := by decide +kernel
theorem dX9_valueOf_15 : decode cX9_valueOf 15 = .ok (.i2l, 1) := by decide +kernel
theorem dX9_valueOf_16 : decode cX9_valueOf 16 = .ok (.lreturn, 1) := by decide +kernel
theorem dX9_valueOf_17 : decode cX9_valueOf 17 = .ok (.aload_n 0, 1) := by decide +kernel
theorem dX9_valueOf_18 : decode cX9_valueOf 18 = .ok (.getfield 63, 3) := by decide +kernel
theorem dX9_valueOf_21 : decode cX9_valueOf 21 = .ok (.iload_n 1, 1) := by decide +kernel
theorem dX9_valueOf_22 : decode cX9_valueOf 22 = .ok (.iaload, 1) := by decide +kernel
theorem dX9_valueOf_23 : decode cX9_valueOf 23 = .ok (.iconst 1, 1) := by decide +kernel
theorem dX9_valueOf_24 : decode cX9_valueOf 24 = .ok (.if_icmp .ne 15, 3) := by decide +kernel
theorem dX9_valueOf_27 : decode cX9_valueOf 27 = .ok (.aload_n 0, 1) := by decide +kernel
theorem dX9_valueOf_28 : decode cX9_valueOf 28 = .ok (.getfield 81, 3) := by decide +kernel
theorem dX9_valueOf_31 : decode cX9_valueOf 31 = .ok (.aload_n 0, 1) := by decide +kernel
theorem dX9_valueOf_32 : decode cX9_valueOf 32 = .ok (.getfield 69, 3) := by decide +kernel
theorem dX9_valueOf_35 : decode cX9_valueOf 35 = .ok (.iload_n 1, 1) := by decide +kernel
theorem dX9_valueOf_36 : decode cX9_valueOf 36 = .ok (.iaload, 1) := by decide +kernel
theorem dX9_valueOf_37 : decode cX9_valueOf 37 = .ok (.laload, 1) := by decide +kernel
theorem dX9_valueOf_38 : decode cX9_valueOf 38 = .ok (.lreturn, 1) := by decide +kernel
theorem dX9_valueOf_39 : decode cX9_valueOf 39 = .ok (.aload_n 0, 1) := by decide +kernel
theorem dX9_valueOf_40 : decode cX9_valueOf 40 = .ok (.getfield 85, 3) := by decide +kernel
theorem dX9_valueOf_43 : decode cX9_valueOf 43 = .ok (.aload_n 0, 1) := by decide +kernel
theorem dX9_valueOf_44 : decode cX9_valueOf 44 = .ok (.getfield 69, 3) := by decide +kernel
theorem dX9_valueOf_47 : decode cX9_valueOf 47 = .ok (.iload_n 1, 1) := by decide +kernel
theorem dX9_valueOf_48 : decode cX9_valueOf 48 = .ok (.iaload, 1) := by decide +kernel
theorem dX9_valueOf_49 : decode cX9_valueOf 49 = .ok (.laload, 1) := by decide +kernel
theorem dX9_valueOf_50 : decode cX9_valueOf 50 = .ok (.lstore_n 2, 1) := by decide +kernel
theorem dX9_valueOf_51 : decode cX9_valueOf 51 = .ok (.aload_n 0, 1) := by decide +kernel
theorem dX9_valueOf_52 : decode cX9_valueOf 52 = .ok (.getfield 63, 3) := by decide +kernel
theorem dX9_valueOf_55 : decode cX9_valueOf 55 = .ok (.iload_n 1, 1) := by decide +kernel
theorem dX9_valueOf_56 : decode cX9_valueOf 56 = .ok (.iaload, 1) := by decide +kernel
theorem dX9_valueOf_57 : decode cX9_valueOf 57 = .ok (.iconst 2, 1) := by decide +kernel
theorem dX9_valueOf_58 : decode cX9_valueOf 58 = .ok (.if_icmp .ne 15, 3) := by decide +kernel
theorem dX9_valueOf_61 : decode cX9_valueOf 61 = .ok (.lload_n 2, 1) := by decide +kernel
theorem dX9_valueOf_62 : decode cX9_valueOf 62 = .ok (.lconst 0, 1) := by decide +kernel
theorem dX9_valueOf_63 : decode cX9_valueOf 63 = .ok (.lcmp, 1) := by decide +kernel
theorem dX9_valueOf_64 : decode cX9_valueOf 64 = .ok (.ifCond .ne 7, 3) := by decide +kernel
theorem dX9_valueOf_67 : decode cX9_valueOf 67 = .ok (.lconst 1, 1) := by decide +kernel
theorem dX9_valueOf_68 : decode cX9_valueOf 68 = .ok (.goto 4, 3) := by decide +kernel
theorem dX9_valueOf_71 : decode cX9_valueOf 71 = .ok (.lconst 0, 1) := by decide +kernel
theorem dX9_valueOf_72 : decode cX9_valueOf 72 = .ok (.lreturn, 1) := by decide +kernel
theorem dX9_valueOf_73 : decode cX9_valueOf 73 = .ok (.aload_n 0, 1) := by decide +kernel
theorem dX9_valueOf_74 : decode cX9_valueOf 74 = .ok (.getfield 85, 3) := by decide +kernel
theorem dX9_valueOf_77 : decode cX9_valueOf 77 = .ok (.aload_n 0, 1) := by decide +kernel
theorem dX9_valueOf_78 : decode cX9_valueOf 78 = .ok (.getfield 72, 3) := by decide +kernel
theorem dX9_valueOf_81 : decode cX9_valueOf 81 = .ok (.iload_n 1, 1) := by decide +kernel
theorem dX9_valueOf_82 : decode cX9_valueOf 82 = .ok (.iaload, 1) := by decide +kernel
theorem dX9_valueOf_83 : decode cX9_valueOf 83 = .ok (.laload, 1) := by decide +kernel
theorem dX9_valueOf_84 : decode cX9_valueOf 84 = .ok (.lstore 4, 2) := by decide +kernel
theorem dX9_valueOf_86 : decode cX9_valueOf 86 = .ok (.aload_n 0, 1) := by decide +kernel
theorem dX9_valueOf_87 : decode cX9_valueOf 87 = .ok (.getfield 63, 3) := by decide +kernel
theorem dX9_valueOf_90 : decode cX9_valueOf 90 = .ok (.iload_n 1, 1) := by decide +kernel
theorem dX9_valueOf_91 : decode cX9_valueOf 91 = .ok (.iaload, 1) := by decide +kernel
theorem dX9_valueOf_92 : decode cX9_valueOf 92 = .ok (.tableswitch 167 3 14 #[64, 83, 167, 167, 167, 167, 167, 167, 102, 111, 120, 128], 64) := by decide +kernel
theorem dX9_valueOf_156 : decode cX9_valueOf 156 = .ok (.lload_n 2, 1) := by decide +kernel
theorem dX9_valueOf_157 : decode cX9_valueOf 157 = .ok (.lconst 0, 1) := by decide +kernel
theorem dX9_valueOf_158 : decode cX9_valueOf 158 = .ok (.lcmp, 1) := by decide +kernel
theorem dX9_valueOf_159 : decode cX9_valueOf 159 = .ok (.ifCond .eq 14, 3) := by decide +kernel
theorem dX9_valueOf_162 : decode cX9_valueOf 162 = .ok (.lload 4, 2) := by decide +kernel
theorem dX9_valueOf_164 : decode cX9_valueOf 164 = .ok (.lconst 0, 1) := by decide +kernel
theorem dX9_valueOf_165 : decode cX9_valueOf 165 = .ok (.lcmp, 1) := by decide +kernel
theorem dX9_valueOf_166 : decode cX9_valueOf 166 = .ok (.ifCond .eq 7, 3) := by decide +kernel
theorem dX9_valueOf_169 : decode cX9_valueOf 169 = .ok (.lconst 1, 1) := by decide +kernel
theorem dX9_valueOf_170 : decode cX9_valueOf 170 = .ok (.goto 4, 3) := by decide +kernel
theorem dX9_valueOf_173 : decode cX9_valueOf 173 = .ok (.lconst 0, 1) := by decide +kernel
theorem dX9_valueOf_174 : decode cX9_valueOf 174 = .ok (.lreturn, 1) := by decide +kernel
theorem dX9_valueOf_175 : decode cX9_valueOf 175 = .ok (.lload_n 2, 1) := by decide +kernel
theorem dX9_valueOf_176 : decode cX9_valueOf 176 = .ok (.lconst 0, 1) := by decide +kernel
theorem dX9_valueOf_177 : decode cX9_valueOf 177 = .ok (.lcmp, 1) := by decide +kernel
theorem dX9_valueOf_178 : decode cX9_valueOf 178 = .ok (.ifCond .ne 10, 3) := by decide +kernel
theorem dX9_valueOf_181 : decode cX9_valueOf 181 = .ok (.lload 4, 2) := by decide +kernel
theorem dX9_valueOf_183 : decode cX9_valueOf 183 = .ok (.lconst 0, 1) := by decide +kernel
theorem dX9_valueOf_184 : decode cX9_valueOf 184 = .ok (.lcmp, 1) := by decide +kernel
theorem dX9_valueOf_185 : decode cX9_valueOf 185 = .ok (.ifCond .eq 7, 3) := by decide +kernel
theorem dX9_valueOf_188 : decode cX9_valueOf 188 = .ok (.lconst 1, 1) := by decide +kernel
theorem dX9_valueOf_189 : decode cX9_valueOf 189 = .ok (.goto 4, 3) := by decide +kernel
theorem dX9_valueOf_192 : decode cX9_valueOf 192 = .ok (.lconst 0, 1) := by decide +kernel
theorem dX9_valueOf_193 : decode cX9_valueOf 193 = .ok (.lreturn, 1) := by decide +kernel
theorem dX9_valueOf_194 : decode cX9_valueOf 194 = .ok (.aload_n 0, 1) := by decide +kernel
theorem dX9_valueOf_195 : decode cX9_valueOf 195 = .ok (.lload_n 2, 1) := by decide +kernel
theorem dX9_valueOf_196 : decode cX9_valueOf 196 = .ok (.lload 4, 2) := by decide +kernel
theorem dX9_valueOf_198 : decode cX9_valueOf 198 = .ok (.ladd, 1) := by decide +kernel
theorem dX9_valueOf_199 : decode cX9_valueOf 199 = .ok (.invokevirtual 322, 3) := by decide +kernel
theorem dX9_valueOf_202 : decode cX9_valueOf 202 = .ok (.lreturn, 1) := by decide +kernel
theorem dX9_valueOf_203 : decode cX9_valueOf 203 = .ok (.aload_n 0, 1) := by decide +kernel
theorem dX9_valueOf_204 : decode cX9_valueOf 204 = .ok (.lload_n 2, 1) := by decide +kernel
theorem dX9_valueOf_205 : decode cX9_valueOf 205 = .ok (.lload 4, 2) := by decide +kernel
theorem dX9_valueOf_207 : decode cX9_valueOf 207 = .ok (.lsub, 1) := by decide +kernel
theorem dX9_valueOf_208 : decode cX9_valueOf 208 = .ok (.invokevirtual 322, 3) := by decide +kernel
theorem dX9_valueOf_211 : decode cX9_valueOf 211 = .ok (.lreturn, 1) := by decide +kernel
theorem dX9_valueOf_212 : decode cX9_valueOf 212 = .ok (.aload_n 0, 1) := by decide +kernel
theorem dX9_valueOf_213 : decode cX9_valueOf 213 = .ok (.lload_n 2, 1) := by decide +kernel
theorem dX9_valueOf_214 : decode cX9_valueOf 214 = .ok (.lload 4, 2) := by decide +kernel
theorem dX9_valueOf_216 : decode cX9_valueOf 216 = .ok (.invokevirtual 326, 3) := by decide +kernel
theorem dX9_valueOf_219 : decode cX9_valueOf 219 = .ok (.lreturn, 1) := by decide +kernel
theorem dX9_valueOf_220 : decode cX9_valueOf 220 = .ok (.aload_n 0, 1) := by decide +kernel
theorem dX9_valueOf_221 : decode cX9_valueOf 221 = .ok (.aload_n 0, 1) := by decide +kernel
theorem dX9_valueOf_222 : decode cX9_valueOf 222 = .ok (.getfield 315, 3) := by decide +kernel
theorem dX9_valueOf_225 : decode cX9_valueOf 225 = .ok (.ifCond .ne 10, 3) := by decide +kernel
theorem dX9_valueOf_228 : decode cX9_valueOf 228 = .ok (.lload 4, 2) := by decide +kernel
theorem dX9_valueOf_230 : decode cX9_valueOf 230 = .ok (.lconst 0, 1) := by decide +kernel
theorem dX9_valueOf_231 : decode cX9_valueOf 231 = .ok (.lcmp, 1) := by decide +kernel
theorem dX9_valueOf_232 : decode cX9_valueOf 232 = .ok (.ifCond .ne 7, 3) := by decide +kernel
theorem dX9_valueOf_235 : decode cX9_valueOf 235 = .ok (.iconst 1, 1) := by decide +kernel
theorem dX9_valueOf_236 : decode cX9_valueOf 236 = .ok (.goto 4, 3) := by decide +kernel
theorem dX9_valueOf_239 : decode cX9_valueOf 239 = .ok (.iconst 0, 1) := by decide +kernel
theorem dX9_valueOf_240 : decode cX9_valueOf 240 = .ok (.putfield 315, 3) := by decide +kernel
theorem dX9_valueOf_243 : decode cX9_valueOf 243 = .ok (.aload_n 0, 1) := by decide +kernel
theorem dX9_valueOf_244 : decode cX9_valueOf 244 = .ok (.getfield 315, 3) := by decide +kernel
theorem dX9_valueOf_247 : decode cX9_valueOf 247 = .ok (.ifCond .eq 7, 3) := by decide +kernel
theorem dX9_valueOf_250 : decode cX9_valueOf 250 = .ok (.lconst 0, 1) := by decide +kernel
theorem dX9_valueOf_251 : decode cX9_valueOf 251 = .ok (.goto 7, 3) := by decide +kernel
theorem dX9_valueOf_254 : decode cX9_valueOf 254 = .ok (.lload_n 2, 1) := by decide +kernel
theorem dX9_valueOf_255 : decode cX9_valueOf 255 = .ok (.lload 4, 2) := by decide +kernel
theorem dX9_valueOf_257 : decode cX9_valueOf 257 = .ok (.ldiv, 1) := by decide +kernel
theorem dX9_valueOf_258 : decode cX9_valueOf 258 = .ok (.lreturn, 1) := by decide +kernel
theorem dX9_valueOf_259 : decode cX9_valueOf 259 = .ok (.aload_n 0, 1) := by decide +kernel
theorem dX9_valueOf_260 : decode cX9_valueOf 260 = .ok (.getfield 63, 3) := by decide +kernel
theorem dX9_valueOf_263 : decode cX9_valueOf 263 = .ok (.iload_n 1, 1) := by decide +kernel
theorem dX9_valueOf_264 : decode cX9_valueOf 264 = .ok (.iaload, 1) := by decide +kernel
theorem dX9_valueOf_265 : decode cX9_valueOf 265 = .ok (.lload_n 2, 1) := by decide +kernel
theorem dX9_valueOf_266 : decode cX9_valueOf 266 = .ok (.lload 4, 2) := by decide +kernel
theorem dX9_valueOf_268 : decode cX9_valueOf 268 = .ok (.invokestatic 330, 3) := by decide +kernel
theorem dX9_valueOf_271 : decode cX9_valueOf 271 = .ok (.ifCond .eq 7, 3) := by decide +kernel
theorem dX9_valueOf_274 : decode cX9_valueOf 274 = .ok (.lconst 1, 1) := by decide +kernel
theorem dX9_valueOf_275 : decode cX9_valueOf 275 = .ok (.goto 4, 3) := by decide +kernel
theorem dX9_valueOf_278 : decode cX9_valueOf 278 = .ok (.lconst 0, 1) := by decide +kernel
theorem dX9_valueOf_279 : decode cX9_valueOf 279 = .ok (.lreturn, 1) := by decide +kernel
theorem dX9_begin_0 : decode cX9_begin 0 = .ok (.aload_n 0, 1) := by decide +kernel
theorem dX9_begin_1 : decode cX9_begin 1 = .ok (.iconst 0, 1) := by decide +kernel
theorem dX9_begin_2 : decode cX9_begin 2 = .ok (.invokevirtual 334, 3) := by decide +kernel
theorem dX9_begin_5 : decode cX9_begin 5 = .ok (.aload_n 0, 1) := by decide +kernel
theorem dX9_begin_6 : decode cX9_begin 6 = .ok (.aload_n 0, 1) := by decide +kernel
theorem dX9_begin_7 : decode cX9_begin 7 = .ok (.getfield 24, 3) := by decide +kernel
theorem dX9_begin_10 : decode cX9_begin 10 = .ok (.iconst 2, 1) := by decide +kernel
theorem dX9_begin_11 : decode cX9_begin 11 = .ok (.iaload, 1) := by decide +kernel
theorem dX9_begin_12 : decode cX9_begin 12 = .ok (.i2l, 1) := by decide +kernel
theorem dX9_begin_13 : decode cX9_begin 13 = .ok (.putfield 337, 3) := by decide +kernel
theorem dX9_begin_16 : decode cX9_begin 16 = .ok (.aload_n 0, 1) := by decide +kernel
theorem dX9_begin_17 : decode cX9_begin 17 = .ok (.invokevirtual 341, 3) := by decide +kernel
theorem dX9_begin_20 : decode cX9_begin 20 = .ok (.aload_n 0, 1) := by decide +kernel
theorem dX9_begin_21 : decode cX9_begin 21 = .ok (.iconst 0, 1) := by decide +kernel
theorem dX9_begin_22 : decode cX9_begin 22 = .ok (.putfield 344, 3) := by decide +kernel
theorem dX9_begin_25 : decode cX9_begin 25 = .ok (.aload_n 0, 1) := by decide +kernel
theorem dX9_begin_26 : decode cX9_begin 26 = .ok (.iconst (-1), 1) := by decide +kernel
theorem dX9_begin_27 : decode cX9_begin 27 = .ok (.putfield 118, 3) := by decide +kernel
theorem dX9_begin_30 : decode cX9_begin 30 = .ok (.aload_n 0, 1) := by decide +kernel
theorem dX9_begin_31 : decode cX9_begin 31 = .ok (.iconst 0, 1) := by decide +kernel
theorem dX9_begin_32 : decode cX9_begin 32 = .ok (.putfield 347, 3) := by decide +kernel
theorem dX9_begin_35 : decode cX9_begin 35 = .ok (.aload_n 0, 1) := by decide +kernel
theorem dX9_begin_36 : decode cX9_begin 36 = .ok (.iconst 0, 1) := by decide +kernel
theorem dX9_begin_37 : decode cX9_begin 37 = .ok (.putfield 350, 3) := by decide +kernel
theorem dX9_begin_40 : decode cX9_begin 40 = .ok (.return_, 1) := by decide +kernel
theorem dX9_atFirst_0 : decode cX9_atFirst 0 = .ok (.iconst 0, 1) := by decide +kernel
theorem dX9_atFirst_1 : decode cX9_atFirst 1 = .ok (.istore_n 2, 1) := by decide +kernel
theorem dX9_atFirst_2 : decode cX9_atFirst 2 = .ok (.iload_n 2, 1) := by decide +kernel
theorem dX9_atFirst_3 : decode cX9_atFirst 3 = .ok (.bipush 6, 2) := by decide +kernel
theorem dX9_atFirst_5 : decode cX9_atFirst 5 = .ok (.if_icmp .ge 79, 3) := by decide +kernel
theorem dX9_atFirst_8 : decode cX9_atFirst 8 = .ok (.aload_n 0, 1) := by decide +kernel
theorem dX9_atFirst_9 : decode cX9_atFirst 9 = .ok (.getfield 88, 3) := by decide +kernel
theorem dX9_atFirst_12 : decode cX9_atFirst 12 = .ok (.bipush 6, 2) := by decide +kernel
theorem dX9_atFirst_14 : decode cX9_atFirst 14 = .ok (.iload_n 1, 1) := by decide +kernel
theorem dX9_atFirst_15 : decode cX9_atFirst 15 = .ok (.imul, 1) := by decide +kernel
theorem dX9_atFirst_16 : decode cX9_atFirst 16 = .ok (.iload_n 2, 1) := by decide +kernel
theorem dX9_atFirst_17 : decode cX9_atFirst 17 = .ok (.iadd, 1) := by decide +kernel
theorem dX9_atFirst_18 : decode cX9_atFirst 18 = .ok (.aload_n 0, 1) := by decide +kernel
theorem dX9_atFirst_19 : decode cX9_atFirst 19 = .ok (.getfield 30, 3) := by decide +kernel
theorem dX9_atFirst_22 : decode cX9_atFirst 22 = .ok (.iload_n 2, 1) := by decide +kernel
theorem dX9_atFirst_23 : decode cX9_atFirst 23 = .ok (.iaload, 1) := by decide +kernel
theorem dX9_atFirst_24 : decode cX9_atFirst 24 = .ok (.iastore, 1) := by decide +kernel
theorem dX9_atFirst_25 : decode cX9_atFirst 25 = .ok (.aload_n 0, 1) := by decide +kernel
theorem dX9_atFirst_26 : decode cX9_atFirst 26 = .ok (.getfield 91, 3) := by decide +kernel
theorem dX9_atFirst_29 : decode cX9_atFirst 29 = .ok (.bipush 6, 2) := by decide +kernel
theorem dX9_atFirst_31 : decode cX9_atFirst 31 = .ok (.iload_n 1, 1) := by decide +kernel
theorem dX9_atFirst_32 : decode cX9_atFirst 32 = .ok (.imul, 1) := by decide +kernel
theorem dX9_atFirst_33 : decode cX9_atFirst 33 = .ok (.iload_n 2, 1) := by decide +kernel
theorem dX9_atFirst_34 : decode cX9_atFirst 34 = .ok (.iadd, 1) := by decide +kernel
theorem dX9_atFirst_35 : decode cX9_atFirst 35 = .ok (.aload_n 0, 1) := by decide +kernel
theorem dX9_atFirst_36 : decode cX9_atFirst 36 = .ok (.getfield 33, 3) := by decide +kernel
theorem dX9_atFirst_39 : decode cX9_atFirst 39 = .ok (.iload_n 2, 1) := by decide +kernel
theorem dX9_atFirst_40 : decode cX9_atFirst 40 = .ok (.iaload, 1) := by decide +kernel
theorem dX9_atFirst_41 : decode cX9_atFirst 41 = .ok (.iastore, 1) := by decide +kernel
theorem dX9_atFirst_42 : decode cX9_atFirst 42 = .ok (.aload_n 0, 1) := by decide +kernel
theorem dX9_atFirst_43 : decode cX9_atFirst 43 = .ok (.getfield 94, 3) := by decide +kernel
theorem dX9_atFirst_46 : decode cX9_atFirst 46 = .ok (.bipush 6, 2) := by decide +kernel
theorem dX9_atFirst_48 : decode cX9_atFirst 48 = .ok (.iload_n 1, 1) := by decide +kernel
theorem dX9_atFirst_49 : decode cX9_atFirst 49 = .ok (.imul, 1) := by decide +kernel
theorem dX9_atFirst_50 : decode cX9_atFirst 50 = .ok (.iload_n 2, 1) := by decide +kernel
theorem dX9_atFirst_51 : decode cX9_atFirst 51 = .ok (.iadd, 1) := by decide +kernel
theorem dX9_atFirst_52 : decode cX9_atFirst 52 = .ok (.iload_n 2, 1) := by decide +kernel
theorem dX9_atFirst_53 : decode cX9_atFirst 53 = .ok (.iastore, 1) := by decide +kernel
theorem dX9_atFirst_54 : decode cX9_atFirst 54 = .ok (.aload_n 0, 1) := by decide +kernel
theorem dX9_atFirst_55 : decode cX9_atFirst 55 = .ok (.getfield 97, 3) := by decide +kernel
theorem dX9_atFirst_58 : decode cX9_atFirst 58 = .ok (.bipush 6, 2) := by decide +kernel
theorem dX9_atFirst_60 : decode cX9_atFirst 60 = .ok (.iload_n 1, 1) := by decide +kernel
theorem dX9_atFirst_61 : decode cX9_atFirst 61 = .ok (.imul, 1) := by decide +kernel
theorem dX9_atFirst_62 : decode cX9_atFirst 62 = .ok (.iload_n 2, 1) := by decide +kernel
theorem dX9_atFirst_63 : decode cX9_atFirst 63 = .ok (.iadd, 1) := by decide +kernel
theorem dX9_atFirst_64 : decode cX9_atFirst 64 = .ok (.iconst 1, 1) := by decide +kernel
theorem dX9_atFirst_65 : decode cX9_atFirst 65 = .ok (.bastore, 1) := by decide +kernel
theorem dX9_atFirst_66 : decode cX9_atFirst 66 = .ok (.aload_n 0, 1) := by decide +kernel
theorem dX9_atFirst_67 : decode cX9_atFirst 67 = .ok (.getfield 100, 3) := by decide +kernel
theorem dX9_atFirst_70 : decode cX9_atFirst 70 = .ok (.bipush 6, 2) := by decide +kernel
theorem dX9_atFirst_72 : decode cX9_atFirst 72 = .ok (.iload_n 1, 1) := by decide +kernel
theorem dX9_atFirst_73 : decode cX9_atFirst 73 = .ok (.imul, 1) := by decide +kernel
theorem dX9_atFirst_74 : decode cX9_atFirst 74 = .ok (.iload_n 2, 1) := by decide +kernel
theorem dX9_atFirst_75 : decode cX9_atFirst 75 = .ok (.iadd, 1) := by decide +kernel
theorem dX9_atFirst_76 : decode cX9_atFirst 76 = .ok (.iconst 0, 1) := by decide +kernel
theorem dX9_atFirst_77 : decode cX9_atFirst 77 = .ok (.iastore, 1) := by decide +kernel
theorem dX9_atFirst_78 : decode cX9_atFirst 78 = .ok (.iinc 2 1, 3) := by decide +kernel
theorem dX9_atFirst_81 : decode cX9_atFirst 81 = .ok (.goto (-79), 3) := by decide +kernel
theorem dX9_atFirst_84 : decode cX9_atFirst 84 = .ok (.iconst 0, 1) := by decide +kernel
theorem dX9_atFirst_85 : decode cX9_atFirst 85 = .ok (.istore_n 2, 1) := by decide +kernel
theorem dX9_atFirst_86 : decode cX9_atFirst 86 = .ok (.iload_n 2, 1) := by decide +kernel
theorem dX9_atFirst_87 : decode cX9_atFirst 87 = .ok (.bipush 8, 2) := by decide +kernel
theorem dX9_atFirst_89 : decode cX9_atFirst 89 = .ok (.if_icmp .ge 45, 3) := by decide +kernel
theorem dX9_atFirst_92 : decode cX9_atFirst 92 = .ok (.aload_n 0, 1) := by decide +kernel
theorem dX9_atFirst_93 : decode cX9_atFirst 93 = .ok (.getfield 103, 3) := by decide +kernel
theorem dX9_atFirst_96 : decode cX9_atFirst 96 = .ok (.bipush 8, 2) := by decide +kernel
theorem dX9_atFirst_98 : decode cX9_atFirst 98 = .ok (.iload_n 1, 1) := by decide +kernel
theorem dX9_atFirst_99 : decode cX9_atFirst 99 = .ok (.imul, 1) := by decide +kernel
theorem dX9_atFirst_100 : decode cX9_atFirst 100 = .ok (.iload_n 2, 1) := by decide +kernel
theorem dX9_atFirst_101 : decode cX9_atFirst 101 = .ok (.iadd, 1) := by decide +kernel
theorem dX9_atFirst_102 : decode cX9_atFirst 102 = .ok (.iconst 0, 1) := by decide +kernel
theorem dX9_atFirst_103 : decode cX9_atFirst 103 = .ok (.iastore, 1) := by decide +kernel
theorem dX9_atFirst_104 : decode cX9_atFirst 104 = .ok (.aload_n 0, 1) := by decide +kernel
theorem dX9_atFirst_105 : decode cX9_atFirst 105 = .ok (.getfield 106, 3) := by decide +kernel
theorem dX9_atFirst_108 : decode cX9_atFirst 108 = .ok (.bipush 8, 2) := by decide +kernel
theorem dX9_atFirst_110 : decode cX9_atFirst 110 = .ok (.iload_n 1, 1) := by decide +kernel
theorem dX9_atFirst_111 : decode cX9_atFirst 111 = .ok (.imul, 1) := by decide +kernel
theorem dX9_atFirst_112 : decode cX9_atFirst 112 = .ok (.iload_n 2, 1) := by decide +kernel
theorem dX9_atFirst_113 : decode cX9_atFirst 113 = .ok (.iadd, 1) := by decide +kernel
theorem dX9_atFirst_114 : decode cX9_atFirst 114 = .ok (.iconst 0, 1) := by decide +kernel
theorem dX9_atFirst_115 : decode cX9_atFirst 115 = .ok (.bastore, 1) := by decide +kernel
theorem dX9_atFirst_116 : decode cX9_atFirst 116 = .ok (.aload_n 0, 1) := by decide +kernel
theorem dX9_atFirst_117 : decode cX9_atFirst 117 = .ok (.getfield 109, 3) := by decide +kernel
theorem dX9_atFirst_120 : decode cX9_atFirst 120 = .ok (.bipush 8, 2) := by decide +kernel
theorem dX9_atFirst_122 : decode cX9_atFirst 122 = .ok (.iload_n 1, 1) := by decide +kernel
theorem dX9_atFirst_123 : decode cX9_atFirst 123 = .ok (.imul, 1) := by decide +kernel
theorem dX9_atFirst_124 : decode cX9_atFirst 124 = .ok (.iload_n 2, 1) := by decide +kernel
theorem dX9_atFirst_125 : decode cX9_atFirst 125 = .ok (.iadd, 1) := by decide +kernel
theorem dX9_atFirst_126 : decode cX9_atFirst 126 = .ok (.iconst 0, 1) := by decide +kernel
theorem dX9_atFirst_127 : decode cX9_atFirst 127 = .ok (.iastore, 1) := by decide +kernel
theorem dX9_atFirst_128 : decode cX9_atFirst 128 = .ok (.iinc 2 1, 3) := by decide +kernel
theorem dX9_atFirst_131 : decode cX9_atFirst 131 = .ok (.goto (-45), 3) := by decide +kernel
theorem dX9_atFirst_134 : decode cX9_atFirst 134 = .ok (.aload_n 0, 1) := by decide +kernel
theorem dX9_atFirst_135 : decode cX9_atFirst 135 = .ok (.getfield 112, 3) := by decide +kernel
theorem dX9_atFirst_138 : decode cX9_atFirst 138 = .ok (.iload_n 1, 1) := by decide +kernel
theorem dX9_atFirst_139 : decode cX9_atFirst 139 = .ok (.iconst 0, 1) := by decide +kernel
theorem dX9_atFirst_140 : decode cX9_atFirst 140 = .ok (.iastore, 1) := by decide +kernel
theorem dX9_atFirst_141 : decode cX9_atFirst 141 = .ok (.return_, 1) := by decide +kernel
theorem dX9_plainTried_0 : decode cX9_plainTried 0 = .ok (.aload_n 0, 1) := by decide +kernel
theorem dX9_plainTried_1 : decode cX9_plainTried 1 = .ok (.iconst 0, 1) := by decide +kernel
theorem dX9_plainTried_2 : decode cX9_plainTried 2 = .ok (.putfield 353, 3) := by decide +kernel
theorem dX9_plainTried_5 : decode cX9_plainTried 5 = .ok (.aload_n 0, 1) := by decide +kernel
theorem dX9_plainTried_6 : decode cX9_plainTried 6 = .ok (.iconst 0, 1) := by decide +kernel
theorem dX9_plainTried_7 : decode cX9_plainTried 7 = .ok (.putfield 356, 3) := by decide +kernel
theorem dX9_plainTried_10 : decode cX9_plainTried 10 = .ok (.aload_n 0, 1) := by decide +kernel
theorem dX9_plainTried_11 : decode cX9_plainTried 11 = .ok (.iconst 0, 1) := by decide +kernel
theorem dX9_plainTried_12 : decode cX9_plainTried 12 = .ok (.putfield 359, 3) := by decide +kernel
theorem dX9_plainTried_15 : decode cX9_plainTried 15 = .ok (.aload_n 0, 1) := by decide +kernel
theorem dX9_plainTried_16 : decode cX9_plainTried 16 = .ok (.iconst 0, 1) := by decide +kernel
theorem dX9_plainTried_17 : decode cX9_plainTried 17 = .ok (.putfield 362, 3) := by decide +kernel
theorem dX9_plainTried_20 : decode cX9_plainTried 20 = .ok (.aload_n 0, 1) := by decide +kernel
theorem dX9_plainTried_21 : decode cX9_plainTried 21 = .ok (.iconst 0, 1) := by decide +kernel
theorem dX9_plainTried_22 : decode cX9_plainTried 22 = .ok (.putfield 365, 3) := by decide +kernel
theorem dX9_plainTried_25 : decode cX9_plainTried 25 = .ok (.aload_n 0, 1) := by decide +kernel
theorem dX9_plainTried_26 : decode cX9_plainTried 26 = .ok (.iconst (-1), 1) := by decide +kernel
theorem dX9_plainTried_27 : decode cX9_plainTried 27 = .ok (.putfield 368, 3) := by decide +kernel
theorem dX9_plainTried_30 : decode cX9_plainTried 30 = .ok (.aload_n 0, 1) := by decide +kernel
theorem dX9_plainTried_31 : decode cX9_plainTried 31 = .ok (.iconst 0, 1) := by decide +kernel
theorem dX9_plainTried_32 : decode cX9_plainTried 32 = .ok (.putfield 371, 3) := by decide +kernel
theorem dX9_plainTried_35 : decode cX9_plainTried 35 = .ok (.aload_n 0, 1) := by decide +kernel
theorem dX9_plainTried_36 : decode cX9_plainTried 36 = .ok (.iconst (-1), 1) := by decide +kernel
theorem dX9_plainTried_37 : decode cX9_plainTried 37 = .ok (.putfield 374, 3) := by decide +kernel
theorem dX9_plainTried_40 : decode cX9_plainTried 40 = .ok (.aload_n 0, 1) := by decide +kernel
theorem dX9_plainTried_41 : decode cX9_plainTried 41 = .ok (.iconst 0, 1) := by decide +kernel
theorem dX9_plainTried_42 : decode cX9_plainTried 42 = .ok (.putfield 377, 3) := by decide +kernel
theorem dX9_plainTried_45 : decode cX9_plainTried 45 = .ok (.return_, 1) := by decide +kernel
theorem dX9_layTried_0 : decode cX9_layTried 0 = .ok (.iconst 0, 1) := by decide +kernel
theorem dX9_layTried_1 : decode cX9_layTried 1 = .ok (.istore_n 1, 1) := by decide +kernel
theorem dX9_layTried_2 : decode cX9_layTried 2 = .ok (.iload_n 1, 1) := by decide +kernel
theorem dX9_layTried_3 : decode cX9_layTried 3 = .ok (.bipush 6, 2) := by decide +kernel
theorem dX9_layTried_5 : decode cX9_layTried 5 = .ok (.if_icmp .ge 84, 3) := by decide +kernel
theorem dX9_layTried_8 : decode cX9_layTried 8 = .ok (.aload_n 0, 1) := by decide +kernel
theorem dX9_layTried_9 : decode cX9_layTried 9 = .ok (.getfield 88, 3) := by decide +kernel
theorem dX9_layTried_12 : decode cX9_layTried 12 = .ok (.bipush 6, 2) := by decide +kernel
theorem dX9_layTried_14 : decode cX9_layTried 14 = .ok (.iload_n 1, 1) := by decide +kernel
theorem dX9_layTried_15 : decode cX9_layTried 15 = .ok (.iadd, 1) := by decide +kernel
theorem dX9_layTried_16 : decode cX9_layTried 16 = .ok (.aload_n 0, 1) := by decide +kernel
theorem dX9_layTried_17 : decode cX9_layTried 17 = .ok (.getfield 88, 3) := by decide +kernel
theorem dX9_layTried_20 : decode cX9_layTried 20 = .ok (.iload_n 1, 1) := by decide +kernel
theorem dX9_layTried_21 : decode cX9_layTried 21 = .ok (.iaload, 1) := by decide +kernel
theorem dX9_layTried_22 : decode cX9_layTried 22 = .ok (.iastore, 1) := by decide +kernel
theorem dX9_layTried_23 : decode cX9_layTried 23 = .ok (.aload_n 0, 1) := by decide +kernel
theorem dX9_layTried_24 : decode cX9_layTried 24 = .ok (.getfield 91, 3) := by decide +kernel
theorem dX9_layTried_27 : decode cX9_layTried 27 = .ok (.bipush 6, 2) := by decide +kernel
theorem dX9_layTried_29 : decode cX9_layTried 29 = .ok (.iload_n 1, 1) := by decide +kernel
theorem dX9_layTried_30 : decode cX9_layTried 30 = .ok (.iadd, 1) := by decide +kernel
theorem dX9_layTried_31 : decode cX9_layTried 31 = .ok (.aload_n 0, 1) := by decide +kernel
theorem dX9_layTried_32 : decode cX9_layTried 32 = .ok (.getfield 91, 3) := by decide +kernel
theorem dX9_layTried_35 : decode cX9_layTried 35 = .ok (.iload_n 1, 1) := by decide +kernel
theorem dX9_layTried_36 : decode cX9_layTried 36 = .ok (.iaload, 1) := by decide +kernel
theorem dX9_layTried_37 : decode cX9_layTried 37 = .ok (.iastore, 1) := by decide +kernel
theorem dX9_layTried_38 : decode cX9_layTried 38 = .ok (.aload_n 0, 1) := by decide +kernel
theorem dX9_layTried_39 : decode cX9_layTried 39 = .ok (.getfield 94, 3) := by decide +kernel
theorem dX9_layTried_42 : decode cX9_layTried 42 = .ok (.bipush 6, 2) := by decide +kernel
theorem dX9_layTried_44 : decode cX9_layTried 44 = .ok (.iload_n 1, 1) := by decide +kernel
theorem dX9_layTried_45 : decode cX9_layTried 45 = .ok (.iadd, 1) := by decide +kernel
theorem dX9_layTried_46 : decode cX9_layTried 46 = .ok (.aload_n 0, 1) := by decide +kernel
theorem dX9_layTried_47 : decode cX9_layTried 47 = .ok (.getfield 94, 3) := by decide +kernel
theorem dX9_layTried_50 : decode cX9_layTried 50 = .ok (.iload_n 1, 1) := by decide +kernel
theorem dX9_layTried_51 : decode cX9_layTried 51 = .ok (.iaload, 1) := by decide +kernel
theorem dX9_layTried_52 : decode cX9_layTried 52 = .ok (.iastore, 1) := by decide +kernel
theorem dX9_layTried_53 : decode cX9_layTried 53 = .ok (.aload_n 0, 1) := by decide +kernel
theorem dX9_layTried_54 : decode cX9_layTried 54 = .ok (.getfield 97, 3) := by decide +kernel
theorem dX9_layTried_57 : decode cX9_layTried 57 = .ok (.bipush 6, 2) := by decide +kernel
theorem dX9_layTried_59 : decode cX9_layTried 59 = .ok (.iload_n 1, 1) := by decide +kernel
theorem dX9_layTried_60 : decode cX9_layTried 60 = .ok (.iadd, 1) := by decide +kernel
theorem dX9_layTried_61 : decode cX9_layTried 61 = .ok (.aload_n 0, 1) := by decide +kernel
theorem dX9_layTried_62 : decode cX9_layTried 62 = .ok (.getfield 97, 3) := by decide +kernel
theorem dX9_layTried_65 : decode cX9_layTried 65 = .ok (.iload_n 1, 1) := by decide +kernel
theorem dX9_layTried_66 : decode cX9_layTried 66 = .ok (.baload, 1) := by decide +kernel
theorem dX9_layTried_67 : decode cX9_layTried 67 = .ok (.bastore, 1) := by decide +kernel
theorem dX9_layTried_68 : decode cX9_layTried 68 = .ok (.aload_n 0, 1) := by decide +kernel
theorem dX9_layTried_69 : decode cX9_layTried 69 = .ok (.getfield 100, 3) := by decide +kernel
theorem dX9_layTried_72 : decode cX9_layTried 72 = .ok (.bipush 6, 2) := by decide +kernel
theorem dX9_layTried_74 : decode cX9_layTried 74 = .ok (.iload_n 1, 1) := by decide +kernel
theorem dX9_layTried_75 : decode cX9_layTried 75 = .ok (.iadd, 1) := by decide +kernel
theorem dX9_layTried_76 : decode cX9_layTried 76 = .ok (.aload_n 0, 1) := by decide +kernel
theorem dX9_layTried_77 : decode cX9_layTried 77 = .ok (.getfield 100, 3) := by decide +kernel
theorem dX9_layTried_80 : decode cX9_layTried 80 = .ok (.iload_n 1, 1) := by decide +kernel
theorem dX9_layTried_81 : decode cX9_layTried 81 = .ok (.iaload, 1) := by decide +kernel
theorem dX9_layTried_82 : decode cX9_layTried 82 = .ok (.iastore, 1) := by decide +kernel
theorem dX9_layTried_83 : decode cX9_layTried 83 = .ok (.iinc 1 1, 3) := by decide +kernel
theorem dX9_layTried_86 : decode cX9_layTried 86 = .ok (.goto (-84), 3) := by decide +kernel
theorem dX9_layTried_89 : decode cX9_layTried 89 = .ok (.iconst 0, 1) := by decide +kernel
theorem dX9_layTried_90 : decode cX9_layTried 90 = .ok (.istore_n 1, 1) := by decide +kernel
theorem dX9_layTried_91 : decode cX9_layTried 91 = .ok (.iload_n 1, 1) := by decide +kernel
theorem dX9_layTried_92 : decode cX9_layTried 92 = .ok (.bipush 8, 2) := by decide +kernel
theorem dX9_layTried_94 : decode cX9_layTried 94 = .ok (.if_icmp .ge 54, 3) := by decide +kernel
theorem dX9_layTried_97 : decode cX9_layTried 97 = .ok (.aload_n 0, 1) := by decide +kernel
theorem dX9_layTried_98 : decode cX9_layTried 98 = .ok (.getfield 103, 3) := by decide +kernel
theorem dX9_layTried_101 : decode cX9_layTried 101 = .ok (.bipush 8, 2) := by decide +kernel
theorem dX9_layTried_103 : decode cX9_layTried 103 = .ok (.iload_n 1, 1) := by decide +kernel
theorem dX9_layTried_104 : decode cX9_layTried 104 = .ok (.iadd, 1) := by decide +kernel
theorem dX9_layTried_105 : decode cX9_layTried 105 = .ok (.aload_n 0, 1) := by decide +kernel
theorem dX9_layTried_106 : decode cX9_layTried 106 = .ok (.getfield 103, 3) := by decide +kernel
theorem dX9_layTried_109 : decode cX9_layTried 109 = .ok (.iload_n 1, 1) := by decide +kernel
theorem dX9_layTried_110 : decode cX9_layTried 110 = .ok (.iaload, 1) := by decide +kernel
theorem dX9_layTried_111 : decode cX9_layTried 111 = .ok (.iastore, 1) := by decide +kernel
theorem dX9_layTried_112 : decode cX9_layTried 112 = .ok (.aload_n 0, 1) := by decide +kernel
theorem dX9_layTried_113 : decode cX9_layTried 113 = .ok (.getfield 106, 3) := by decide +kernel
theorem dX9_layTried_116 : decode cX9_layTried 116 = .ok (.bipush 8, 2) := by decide +kernel
theorem dX9_layTried_118 : decode cX9_layTried 118 = .ok (.iload_n 1, 1) := by decide +kernel
theorem dX9_layTried_119 : decode cX9_layTried 119 = .ok (.iadd, 1) := by decide +kernel
theorem dX9_layTried_120 : decode cX9_layTried 120 = .ok (.aload_n 0, 1) := by decide +kernel
theorem dX9_layTried_121 : decode cX9_layTried 121 = .ok (.getfield 106, 3) := by decide +kernel
theorem dX9_layTried_124 : decode cX9_layTried 124 = .ok (.iload_n 1, 1) := by decide +kernel
theorem dX9_layTried_125 : decode cX9_layTried 125 = .ok (.baload, 1) := by decide +kernel
theorem dX9_layTried_126 : decode cX9_layTried 126 = .ok (.bastore, 1) := by decide +kernel
theorem dX9_layTried_127 : decode cX9_layTried 127 = .ok (.aload_n 0, 1) := by decide +kernel
theorem dX9_layTried_128 : decode cX9_layTried 128 = .ok (.getfield 109, 3) := by decide +kernel
theorem dX9_layTried_131 : decode cX9_layTried 131 = .ok (.bipush 8, 2) := by decide +kernel
theorem dX9_layTried_133 : decode cX9_layTried 133 = .ok (.iload_n 1, 1) := by decide +kernel
theorem dX9_layTried_134 : decode cX9_layTried 134 = .ok (.iadd, 1) := by decide +kernel
theorem dX9_layTried_135 : decode cX9_layTried 135 = .ok (.aload_n 0, 1) := by decide +kernel
theorem dX9_layTried_136 : decode cX9_layTried 136 = .ok (.getfield 109, 3) := by decide +kernel
theorem dX9_layTried_139 : decode cX9_layTried 139 = .ok (.iload_n 1, 1) := by decide +kernel
theorem dX9_layTried_140 : decode cX9_layTried 140 = .ok (.iaload, 1) := by decide +kernel
theorem dX9_layTried_141 : decode cX9_layTried 141 = .ok (.iastore, 1) := by decide +kernel
theorem dX9_layTried_142 : decode cX9_layTried 142 = .ok (.iinc 1 1, 3) := by decide +kernel
theorem dX9_layTried_145 : decode cX9_layTried 145 = .ok (.goto (-54), 3) := by decide +kernel
theorem dX9_layTried_148 : decode cX9_layTried 148 = .ok (.aload_n 0, 1) := by decide +kernel
theorem dX9_layTried_149 : decode cX9_layTried 149 = .ok (.getfield 112, 3) := by decide +kernel
theorem dX9_layTried_152 : decode cX9_layTried 152 = .ok (.iconst 1, 1) := by decide +kernel
theorem dX9_layTried_153 : decode cX9_layTried 153 = .ok (.aload_n 0, 1) := by decide +kernel
theorem dX9_layTried_154 : decode cX9_layTried 154 = .ok (.getfield 112, 3) := by decide +kernel
theorem dX9_layTried_157 : decode cX9_layTried 157 = .ok (.iconst 0, 1) := by decide +kernel
theorem dX9_layTried_158 : decode cX9_layTried 158 = .ok (.iaload, 1) := by decide +kernel
theorem dX9_layTried_159 : decode cX9_layTried 159 = .ok (.iastore, 1) := by decide +kernel
theorem dX9_layTried_160 : decode cX9_layTried 160 = .ok (.aload_n 0, 1) := by decide +kernel
theorem dX9_layTried_161 : decode cX9_layTried 161 = .ok (.invokevirtual 341, 3) := by decide +kernel
theorem dX9_layTried_164 : decode cX9_layTried 164 = .ok (.return_, 1) := by decide +kernel
theorem dX9_isGuest_0 : decode cX9_isGuest 0 = .ok (.iload_n 1, 1) := by decide +kernel
theorem dX9_isGuest_1 : decode cX9_isGuest 1 = .ok (.ifCond .lt 15, 3) := by decide +kernel
theorem dX9_isGuest_4 : decode cX9_isGuest 4 = .ok (.iload_n 1, 1) := by decide +kernel
theorem dX9_isGuest_5 : decode cX9_isGuest 5 = .ok (.aload_n 0, 1) := by decide +kernel
theorem dX9_isGuest_6 : decode cX9_isGuest 6 = .ok (.getfield 219, 3) := by decide +kernel
theorem dX9_isGuest_9 : decode cX9_isGuest 9 = .ok (.if_icmp .ge 7, 3) := by decide +kernel
theorem dX9_isGuest_12 : decode cX9_isGuest 12 = .ok (.iconst 1, 1) := by decide +kernel
theorem dX9_isGuest_13 : decode cX9_isGuest 13 = .ok (.goto 4, 3) := by decide +kernel
theorem dX9_isGuest_16 : decode cX9_isGuest 16 = .ok (.iconst 0, 1) := by decide +kernel
theorem dX9_isGuest_17 : decode cX9_isGuest 17 = .ok (.ireturn, 1) := by decide +kernel
theorem dX9_isFruit_0 : decode cX9_isFruit 0 = .ok (.iload_n 1, 1) := by decide +kernel
theorem dX9_isFruit_1 : decode cX9_isFruit 1 = .ok (.ifCond .lt 15, 3) := by decide +kernel
theorem dX9_isFruit_4 : decode cX9_isFruit 4 = .ok (.iload_n 1, 1) := by decide +kernel
theorem dX9_isFruit_5 : decode cX9_isFruit 5 = .ok (.aload_n 0, 1) := by decide +kernel
theorem dX9_isFruit_6 : decode cX9_isFruit 6 = .ok (.getfield 222, 3) := by decide +kernel
theorem dX9_isFruit_9 : decode cX9_isFruit 9 = .ok (.if_icmp .ge 7, 3) := by decide +kernel
theorem dX9_isFruit_12 : decode cX9_isFruit 12 = .ok (.iconst 1, 1) := by decide +kernel
theorem dX9_isFruit_13 : decode cX9_isFruit 13 = .ok (.goto 4, 3) := by decide +kernel
theorem dX9_isFruit_16 : decode cX9_isFruit 16 = .ok (.iconst 0, 1) := by decide +kernel
theorem dX9_isFruit_17 : decode cX9_isFruit 17 = .ok (.ireturn, 1) := by decide +kernel
theorem dX9_isOn_0 : decode cX9_isOn 0 = .ok (.aload_n 0, 1) := by decide +kernel
theorem dX9_isOn_1 : decode cX9_isOn 1 = .ok (.iload_n 2, 1) := by decide +kernel
theorem dX9_isOn_2 : decode cX9_isOn 2 = .ok (.invokevirtual 380, 3) := by decide +kernel
theorem dX9_isOn_5 : decode cX9_isOn 5 = .ok (.ifCond .eq 32, 3) := by decide +kernel
theorem dX9_isOn_8 : decode cX9_isOn 8 = .ok (.aload_n 0, 1) := by decide +kernel
theorem dX9_isOn_9 : decode cX9_isOn 9 = .ok (.getfield 97, 3) := by decide +kernel
theorem dX9_isOn_12 : decode cX9_isOn 12 = .ok (.bipush 6, 2) := by decide +kernel
theorem dX9_isOn_14 : decode cX9_isOn 14 = .ok (.iload_n 1, 1) := by decide +kernel
theorem dX9_isOn_15 : decode cX9_isOn 15 = .ok (.imul, 1) := by decide +kernel
theorem dX9_isOn_16 : decode cX9_isOn 16 = .ok (.iload_n 2, 1) := by decide +kernel
theorem dX9_isOn_17 : decode cX9_isOn 17 = .ok (.iadd, 1) := by decide +kernel
theorem dX9_isOn_18 : decode cX9_isOn 18 = .ok (.baload, 1) := by decide +kernel
theorem dX9_isOn_19 : decode cX9_isOn 19 = .ok (.ifCond .eq 18, 3) := by decide +kernel
theorem dX9_isOn_22 : decode cX9_isOn 22 = .ok (.aload_n 0, 1) := by decide +kernel
theorem dX9_isOn_23 : decode cX9_isOn 23 = .ok (.getfield 371, 3) := by decide +kernel
theorem dX9_isOn_26 : decode cX9_isOn 26 = .ok (.iload_n 2, 1) := by decide +kernel
theorem dX9_isOn_27 : decode cX9_isOn 27 = .ok (.invokestatic 383, 3) := by decide +kernel
theorem dX9_isOn_30 : decode cX9_isOn 30 = .ok (.ifCond .ne 7, 3) := by decide +kernel
theorem dX9_isOn_33 : decode cX9_isOn 33 = .ok (.iconst 1, 1) := by decide +kernel
theorem dX9_isOn_34 : decode cX9_isOn 34 = .ok (.goto 4, 3) := by decide +kernel
theorem dX9_isOn_37 : decode cX9_isOn 37 = .ok (.iconst 0, 1) := by decide +kernel
theorem dX9_isOn_38 : decode cX9_isOn 38 = .ok (.ireturn, 1) := by decide +kernel
theorem dX9_thereMany_0 : decode cX9_thereMany 0 = .ok (.iconst 0, 1) := by decide +kernel
theorem dX9_thereMany_1 : decode cX9_thereMany 1 = .ok (.istore_n 2, 1) := by decide +kernel
theorem dX9_thereMany_2 : decode cX9_thereMany 2 = .ok (.iconst 0, 1) := by decide +kernel
theorem dX9_thereMany_3 : decode cX9_thereMany 3 = .ok (.istore_n 3, 1) := by decide +kernel
theorem dX9_thereMany_4 : decode cX9_thereMany 4 = .ok (.iload_n 3, 1) := by decide +kernel
theorem dX9_thereMany_5 : decode cX9_thereMany 5 = .ok (.aload_n 0, 1) := by decide +kernel
theorem dX9_thereMany_6 : decode cX9_thereMany 6 = .ok (.getfield 219, 3) := by decide +kernel
theorem dX9_thereMany_9 : decode cX9_thereMany 9 = .ok (.if_icmp .ge 26, 3) := by decide +kernel
theorem dX9_thereMany_12 : decode cX9_thereMany 12 = .ok (.iload_n 2, 1) := by decide +kernel
theorem dX9_thereMany_13 : decode cX9_thereMany 13 = .ok (.aload_n 0, 1) := by decide +kernel
theorem dX9_thereMany_14 : decode cX9_thereMany 14 = .ok (.iload_n 1, 1) := by decide +kernel
theorem dX9_thereMany_15 : decode cX9_thereMany 15 = .ok (.iload_n 3, 1) := by decide +kernel
theorem dX9_thereMany_16 : decode cX9_thereMany 16 = .ok (.invokevirtual 386, 3) := by decide +kernel
theorem dX9_thereMany_19 : decode cX9_thereMany 19 = .ok (.ifCond .eq 7, 3) := by decide +kernel
theorem dX9_thereMany_22 : decode cX9_thereMany 22 = .ok (.iconst 1, 1) := by decide +kernel
theorem dX9_thereMany_23 : decode cX9_thereMany 23 = .ok (.goto 4, 3) := by decide +kernel
theorem dX9_thereMany_26 : decode cX9_thereMany 26 = .ok (.iconst 0, 1) := by decide +kernel
theorem dX9_thereMany_27 : decode cX9_thereMany 27 = .ok (.iadd, 1) := by decide +kernel
theorem dX9_thereMany_28 : decode cX9_thereMany 28 = .ok (.istore_n 2, 1) := by decide +kernel
theorem dX9_thereMany_29 : decode cX9_thereMany 29 = .ok (.iinc 3 1, 3) := by decide +kernel
theorem dX9_thereMany_32 : decode cX9_thereMany 32 = .ok (.goto (-28), 3) := by decide +kernel
theorem dX9_thereMany_35 : decode cX9_thereMany 35 = .ok (.iload_n 2, 1) := by decide +kernel
theorem dX9_thereMany_36 : decode cX9_thereMany 36 = .ok (.ireturn, 1) := by decide +kernel
theorem dX9_sweetIn_0 : decode cX9_sweetIn 0 = .ok (.iload_n 1, 1) := by decide +kernel
theorem dX9_sweetIn_1 : decode cX9_sweetIn 1 = .ok (.aload_n 0, 1) := by decide +kernel
theorem dX9_sweetIn_2 : decode cX9_sweetIn 2 = .ok (.getfield 374, 3) := by decide +kernel
theorem dX9_sweetIn_5 : decode cX9_sweetIn 5 = .ok (.if_icmp .ne 10, 3) := by decide +kernel
theorem dX9_sweetIn_8 : decode cX9_sweetIn 8 = .ok (.aload_n 0, 1) := by decide +kernel
theorem dX9_sweetIn_9 : decode cX9_sweetIn 9 = .ok (.getfield 377, 3) := by decide +kernel
theorem dX9_sweetIn_12 : decode cX9_sweetIn 12 = .ok (.goto 9, 3) := by decide +kernel
theorem dX9_sweetIn_15 : decode cX9_sweetIn 15 = .ok (.aload_n 0, 1) := by decide +kernel
theorem dX9_sweetIn_16 : decode cX9_sweetIn 16 = .ok (.getfield 42, 3) := by decide +kernel
theorem dX9_sweetIn_19 : decode cX9_sweetIn 19 = .ok (.iload_n 1, 1) := by decide +kernel
theorem dX9_sweetIn_20 : decode cX9_sweetIn 20 = .ok (.iaload, 1) := by decide +kernel
theorem dX9_sweetIn_21 : decode cX9_sweetIn 21 = .ok (.ireturn, 1) := by decide +kernel
theorem dX9_isReal_0 : decode cX9_isReal 0 = .ok (.aload_n 0, 1) := by decide +kernel
theorem dX9_isReal_1 : decode cX9_isReal 1 = .ok (.getfield 362, 3) := by decide +kernel
theorem dX9_isReal_4 : decode cX9_isReal 4 = .ok (.ifCond .ne 13, 3) := by decide +kernel
theorem dX9_isReal_7 : decode cX9_isReal 7 = .ok (.aload_n 0, 1) := by decide +kernel
theorem dX9_isReal_8 : decode cX9_isReal 8 = .ok (.getfield 45, 3) := by decide +kernel
theorem dX9_isReal_11 : decode cX9_isReal 11 = .ok (.iload_n 1, 1) := by decide +kernel
theorem dX9_isReal_12 : decode cX9_isReal 12 = .ok (.iaload, 1) := by decide +kernel
theorem dX9_isReal_13 : decode cX9_isReal 13 = .ok (.iconst 1, 1) := by decide +kernel
theorem dX9_isReal_14 : decode cX9_isReal 14 = .ok (.if_icmp .ne 7, 3) := by decide +kernel
theorem dX9_isReal_17 : decode cX9_isReal 17 = .ok (.iconst 1, 1) := by decide +kernel
theorem dX9_isReal_18 : decode cX9_isReal 18 = .ok (.goto 4, 3) := by decide +kernel
theorem dX9_isReal_21 : decode cX9_isReal 21 = .ok (.iconst 0, 1) := by decide +kernel
theorem dX9_isReal_22 : decode cX9_isReal 22 = .ok (.ireturn, 1) := by decide +kernel
theorem dX9_layNames_0 : decode cX9_layNames 0 = .ok (.aload_n 0, 1) := by decide +kernel
theorem dX9_layNames_1 : decode cX9_layNames 1 = .ok (.getfield 81, 3) := by decide +kernel
theorem dX9_layNames_4 : decode cX9_layNames 4 = .ok (.iconst 0, 1) := by decide +kernel
theorem dX9_layNames_5 : decode cX9_layNames 5 = .ok (.aload_n 0, 1) := by decide +kernel
theorem dX9_layNames_6 : decode cX9_layNames 6 = .ok (.getfield 88, 3) := by decide +kernel
theorem dX9_layNames_9 : decode cX9_layNames 9 = .ok (.bipush 6, 2) := by decide +kernel
theorem dX9_layNames_11 : decode cX9_layNames 11 = .ok (.iload_n 1, 1) := by decide +kernel
theorem dX9_layNames_12 : decode cX9_layNames 12 = .ok (.imul, 1) := by decide +kernel
theorem dX9_layNames_13 : decode cX9_layNames 13 = .ok (.iload_n 2, 1) := by decide +kernel
theorem dX9_layNames_14 : decode cX9_layNames 14 = .ok (.iadd, 1) := by decide +kernel
theorem dX9_layNames_15 : decode cX9_layNames 15 = .ok (.iaload, 1) := by decide +kernel
theorem dX9_layNames_16 : decode cX9_layNames 16 = .ok (.i2l, 1) := by decide +kernel
theorem dX9_layNames_17 : decode cX9_layNames 17 = .ok (.lastore, 1) := by decide +kernel
theorem dX9_layNames_18 : decode cX9_layNames 18 = .ok (.aload_n 0, 1) := by decide +kernel
theorem dX9_layNames_19 : decode cX9_layNames 19 = .ok (.getfield 81, 3) := by decide +kernel
theorem dX9_layNames_22 : decode cX9_layNames 22 = .ok (.iconst 1, 1) := by decide +kernel
theorem dX9_layNames_23 : decode cX9_layNames 23 = .ok (.aload_n 0, 1) := by decide +kernel
theorem dX9_layNames_24 : decode cX9_layNames 24 = .ok (.getfield 91, 3) := by decide +kernel
theorem dX9_layNames_27 : decode cX9_layNames 27 = .ok (.bipush 6, 2) := by decide +kernel
theorem dX9_layNames_29 : decode cX9_layNames 29 = .ok (.iload_n 1, 1) := by decide +kernel
theorem dX9_layNames_30 : decode cX9_layNames 30 = .ok (.imul, 1) := by decide +kernel
theorem dX9_layNames_31 : decode cX9_layNames 31 = .ok (.iload_n 2, 1) := by decide +kernel
theorem dX9_layNames_32 : decode cX9_layNames 32 = .ok (.iadd, 1) := by decide +kernel
theorem dX9_layNames_33 : decode cX9_layNames 33 = .ok (.iaload, 1) := by decide +kernel
theorem dX9_layNames_34 : decode cX9_layNames 34 = .ok (.i2l, 1) := by decide +kernel
theorem dX9_layNames_35 : decode cX9_layNames 35 = .ok (.lastore, 1) := by decide +kernel
theorem dX9_layNames_36 : decode cX9_layNames 36 = .ok (.aload_n 0, 1) := by decide +kernel
theorem dX9_layNames_37 : decode cX9_layNames 37 = .ok (.getfield 81, 3) := by decide +kernel
theorem dX9_layNames_40 : decode cX9_layNames 40 = .ok (.iconst 2, 1) := by decide +kernel
theorem dX9_layNames_41 : decode cX9_layNames 41 = .ok (.aload_n 0, 1) := by decide +kernel
theorem dX9_layNames_42 : decode cX9_layNames 42 = .ok (.getfield 36, 3) := by decide +kernel
theorem dX9_layNames_45 : decode cX9_layNames 45 = .ok (.iload_n 2, 1) := by decide +kernel
theorem dX9_layNames_46 : decode cX9_layNames 46 = .ok (.iaload, 1) := by decide +kernel
theorem dX9_layNames_47 : decode cX9_layNames 47 = .ok (.i2l, 1) := by decide +kernel
theorem dX9_layNames_48 : decode cX9_layNames 48 = .ok (.lastore, 1) := by decide +kernel
theorem dX9_layNames_49 : decode cX9_layNames 49 = .ok (.aload_n 0, 1) := by decide +kernel
theorem dX9_layNames_50 : decode cX9_layNames 50 = .ok (.getfield 81, 3) := by decide +kernel
theorem dX9_layNames_53 : decode cX9_layNames 53 = .ok (.iconst 3, 1) := by decide +kernel
theorem dX9_layNames_54 : decode cX9_layNames 54 = .ok (.aload_n 0, 1) := by decide +kernel
theorem dX9_layNames_55 : decode cX9_layNames 55 = .ok (.iload_n 3, 1) := by decide +kernel
theorem dX9_layNames_56 : decode cX9_layNames 56 = .ok (.invokevirtual 389, 3) := by decide +kernel
theorem dX9_layNames_59 : decode cX9_layNames 59 = .ok (.i2l, 1) := by decide +kernel
theorem dX9_layNames_60 : decode cX9_layNames 60 = .ok (.lastore, 1) := by decide +kernel
theorem dX9_layNames_61 : decode cX9_layNames 61 = .ok (.aload_n 0, 1) := by decide +kernel
theorem dX9_layNames_62 : decode cX9_layNames 62 = .ok (.getfield 81, 3) := by decide +kernel
theorem dX9_layNames_65 : decode cX9_layNames 65 = .ok (.iconst 4, 1) := by decide +kernel
theorem dX9_layNames_66 : decode cX9_layNames 66 = .ok (.aload_n 0, 1) := by decide +kernel
theorem dX9_layNames_67 : decode cX9_layNames 67 = .ok (.getfield 103, 3) := by decide +kernel
theorem dX9_layNames_70 : decode cX9_layNames 70 = .ok (.bipush 8, 2) := by decide +kernel
theorem dX9_layNames_72 : decode cX9_layNames 72 = .ok (.iload_n 1, 1) := by decide +kernel
theorem dX9_layNames_73 : decode cX9_layNames 73 = .ok (.imul, 1) := by decide +kernel
theorem dX9_layNames_74 : decode cX9_layNames 74 = .ok (.iload_n 3, 1) := by decide +kernel
theorem dX9_layNames_75 : decode cX9_layNames 75 = .ok (.iadd, 1) := by decide +kernel
theorem dX9_layNames_76 : decode cX9_layNames 76 = .ok (.iaload, 1) := by decide +kernel
theorem dX9_layNames_77 : decode cX9_layNames 77 = .ok (.i2l, 1) := by decide +kernel
theorem dX9_layNames_78 : decode cX9_layNames 78 = .ok (.lastore, 1) := by decide +kernel
theorem dX9_layNames_79 : decode cX9_layNames 79 = .ok (.aload_n 0, 1) := by decide +kernel
theorem dX9_layNames_80 : decode cX9_layNames 80 = .ok (.getfield 81, 3) := by decide +kernel
theorem dX9_layNames_83 : decode cX9_layNames 83 = .ok (.iconst 5, 1) := by decide +kernel
theorem dX9_layNames_84 : decode cX9_layNames 84 = .ok (.aload_n 0, 1) := by decide +kernel
theorem dX9_layNames_85 : decode cX9_layNames 85 = .ok (.iload_n 1, 1) := by decide +kernel
theorem dX9_layNames_86 : decode cX9_layNames 86 = .ok (.invokevirtual 392, 3) := by decide +kernel
theorem dX9_layNames_89 : decode cX9_layNames 89 = .ok (.i2l, 1) := by decide +kernel
theorem dX9_layNames_90 : decode cX9_layNames 90 = .ok (.lastore, 1) := by decide +kernel
theorem dX9_layNames_91 : decode cX9_layNames 91 = .ok (.aload_n 0, 1) := by decide +kernel
theorem dX9_layNames_92 : decode cX9_layNames 92 = .ok (.getfield 81, 3) := by decide +kernel
theorem dX9_layNames_95 : decode cX9_layNames 95 = .ok (.bipush 6, 2) := by decide +kernel
theorem dX9_layNames_97 : decode cX9_layNames 97 = .ok (.aload_n 0, 1) := by decide +kernel
theorem dX9_layNames_98 : decode cX9_layNames 98 = .ok (.getfield 112, 3) := by decide +kernel
theorem dX9_layNames_101 : decode cX9_layNames 101 = .ok (.iload_n 1, 1) := by decide +kernel
theorem dX9_layNames_102 : decode cX9_layNames 102 = .ok (.iaload, 1) := by decide +kernel
theorem dX9_layNames_103 : decode cX9_layNames 103 = .ok (.i2l, 1) := by decide +kernel
theorem dX9_layNames_104 : decode cX9_layNames 104 = .ok (.lastore, 1) := by decide +kernel
theorem dX9_layNames_105 : decode cX9_layNames 105 = .ok (.return_, 1) := by decide +kernel
theorem dX9_lawOf_0 : decode cX9_lawOf 0 = .ok (.aload_n 0, 1) := by decide +kernel
theorem dX9_lawOf_1 : decode cX9_lawOf 1 = .ok (.iconst 0, 1) := by decide +kernel
theorem dX9_lawOf_2 : decode cX9_lawOf 2 = .ok (.putfield 315, 3) := by decide +kernel
theorem dX9_lawOf_5 : decode cX9_lawOf 5 = .ok (.aload_n 0, 1) := by decide +kernel
theorem dX9_lawOf_6 : decode cX9_lawOf 6 = .ok (.getfield 57, 3) := by decide +kernel
theorem dX9_lawOf_9 : decode cX9_lawOf 9 = .ok (.iload_n 1, 1) := by decide +kernel
theorem dX9_lawOf_10 : decode cX9_lawOf 10 = .ok (.iaload, 1) := by decide +kernel
theorem dX9_lawOf_11 : decode cX9_lawOf 11 = .ok (.istore_n 2, 1) := by decide +kernel
theorem dX9_lawOf_12 : decode cX9_lawOf 12 = .ok (.iload_n 2, 1) := by decide +kernel
theorem dX9_lawOf_13 : decode cX9_lawOf 13 = .ok (.aload_n 0, 1) := by decide +kernel
theorem dX9_lawOf_14 : decode cX9_lawOf 14 = .ok (.getfield 60, 3) := by decide +kernel
theorem dX9_lawOf_17 : decode cX9_lawOf 17 = .ok (.iload_n 1, 1) := by decide +kernel
theorem dX9_lawOf_18 : decode cX9_lawOf 18 = .ok (.iaload, 1) := by decide +kernel
theorem dX9_lawOf_19 : decode cX9_lawOf 19 = .ok (.if_icmp .ge 20, 3) := by decide +kernel
theorem dX9_lawOf_22 : decode cX9_lawOf 22 = .ok (.aload_n 0, 1) := by decide +kernel
theorem dX9_lawOf_23 : decode cX9_lawOf 23 = .ok (.getfield 85, 3) := by decide +kernel
theorem dX9_lawOf_26 : decode cX9_lawOf 26 = .ok (.iload_n 2, 1) := by decide +kernel
theorem dX9_lawOf_27 : decode cX9_lawOf 27 = .ok (.aload_n 0, 1) := by decide +kernel
theorem dX9_lawOf_28 : decode cX9_lawOf 28 = .ok (.iload_n 2, 1) := by decide +kernel
theorem dX9_lawOf_29 : decode cX9_lawOf 29 = .ok (.invokevirtual 395, 3) := by decide +kernel
theorem dX9_lawOf_32 : decode cX9_lawOf 32 = .ok (.lastore, 1) := by decide +kernel
theorem dX9_lawOf_33 : decode cX9_lawOf 33 = .ok (.iinc 2 1, 3) := by decide +kernel
theorem dX9_lawOf_36 : decode cX9_lawOf 36 = .ok (.goto (-24), 3) := by decide +kernel
theorem dX9_lawOf_39 : decode cX9_lawOf 39 = .ok (.aload_n 0, 1) := by decide +kernel
theorem dX9_lawOf_40 : decode cX9_lawOf 40 = .ok (.getfield 315, 3) := by decide +kernel
theorem dX9_lawOf_43 : decode cX9_lawOf 43 = .ok (.ifCond .eq 7, 3) := by decide +kernel
theorem dX9_lawOf_46 : decode cX9_lawOf 46 = .ok (.lconst 0, 1) := by decide +kernel
theorem dX9_lawOf_47 : decode cX9_lawOf 47 = .ok (.goto 16, 3) := by decide +kernel
theorem dX9_lawOf_50 : decode cX9_lawOf 50 = .ok (.aload_n 0, 1) := by decide +kernel
theorem dX9_lawOf_51 : decode cX9_lawOf 51 = .ok (.getfield 85, 3) := by decide +kernel
theorem dX9_lawOf_54 : decode cX9_lawOf 54 = .ok (.aload_n 0, 1) := by decide +kernel
theorem dX9_lawOf_55 : decode cX9_lawOf 55 = .ok (.getfield 60, 3) := by decide +kernel
theorem dX9_lawOf_58 : decode cX9_lawOf 58 = .ok (.iload_n 1, 1) := by decide +kernel
theorem dX9_lawOf_59 : decode cX9_lawOf 59 = .ok (.iaload, 1) := by decide +kernel
theorem dX9_lawOf_60 : decode cX9_lawOf 60 = .ok (.iconst 1, 1) := by decide +kernel
theorem dX9_lawOf_61 : decode cX9_lawOf 61 = .ok (.isub, 1) := by decide +kernel
theorem dX9_lawOf_62 : decode cX9_lawOf 62 = .ok (.laload, 1) := by decide +kernel
theorem dX9_lawOf_63 : decode cX9_lawOf 63 = .ok (.lreturn, 1) := by decide +kernel
theorem dX9_boundLaw_0 : decode cX9_boundLaw 0 = .ok (.aload_n 0, 1) := by decide +kernel
theorem dX9_boundLaw_1 : decode cX9_boundLaw 1 = .ok (.getfield 54, 3) := by decide +kernel
theorem dX9_boundLaw_4 : decode cX9_boundLaw 4 = .ok (.iload_n 1, 1) := by decide +kernel
theorem dX9_boundLaw_5 : decode cX9_boundLaw 5 = .ok (.baload, 1) := by decide +kernel
theorem dX9_boundLaw_6 : decode cX9_boundLaw 6 = .ok (.ifCond .ne 5, 3) := by decide +kernel
theorem dX9_boundLaw_9 : decode cX9_boundLaw 9 = .ok (.iload_n 2, 1) := by decide +kernel
theorem dX9_boundLaw_10 : decode cX9_boundLaw 10 = .ok (.ireturn, 1) := by decide +kernel
theorem dX9_boundLaw_11 : decode cX9_boundLaw 11 = .ok (.aload_n 0, 1) := by decide +kernel
theorem dX9_boundLaw_12 : decode cX9_boundLaw 12 = .ok (.iload_n 1, 1) := by decide +kernel
theorem dX9_boundLaw_13 : decode cX9_boundLaw 13 = .ok (.invokevirtual 399, 3) := by decide +kernel
theorem dX9_boundLaw_16 : decode cX9_boundLaw 16 = .ok (.lstore_n 3, 1) := by decide +kernel
theorem dX9_boundLaw_17 : decode cX9_boundLaw 17 = .ok (.aload_n 0, 1) := by decide +kernel
theorem dX9_boundLaw_18 : decode cX9_boundLaw 18 = .ok (.getfield 315, 3) := by decide +kernel
theorem dX9_boundLaw_21 : decode cX9_boundLaw 21 = .ok (.ifCond .eq 5, 3) := by decide +kernel
theorem dX9_boundLaw_24 : decode cX9_boundLaw 24 = .ok (.iload_n 2, 1) := by decide +kernel
theorem dX9_boundLaw_25 : decode cX9_boundLaw 25 = .ok (.ireturn, 1) := by decide +kernel
theorem dX9_boundLaw_26 : decode cX9_boundLaw 26 = .ok (.lload_n 3, 1) := by decide +kernel
theorem dX9_boundLaw_27 : decode cX9_boundLaw 27 = .ok (.lconst 0, 1) := by decide +kernel
theorem dX9_boundLaw_28 : decode cX9_boundLaw 28 = .ok (.lcmp, 1) := by decide +kernel
theorem dX9_boundLaw_29 : decode cX9_boundLaw 29 = .ok (.ifCond .ge 7, 3) := by decide +kernel
theorem dX9_boundLaw_32 : decode cX9_boundLaw 32 = .ok (.iconst 0, 1) := by decide +kernel
theorem dX9_boundLaw_33 : decode cX9_boundLaw 33 = .ok (.goto 18, 3) := by decide +kernel
theorem dX9_boundLaw_36 : decode cX9_boundLaw 36 = .ok (.lload_n 3, 1) := by decide +kernel
theorem dX9_boundLaw_37 : decode cX9_boundLaw 37 = .ok (.ldc2_w 402, 3) := by decide +kernel
theorem dX9_boundLaw_40 : decode cX9_boundLaw 40 = .ok (.lcmp, 1) := by decide +kernel
theorem dX9_boundLaw_41 : decode cX9_boundLaw 41 = .ok (.ifCond .le 8, 3) := by decide +kernel
theorem dX9_boundLaw_44 : decode cX9_boundLaw 44 = .ok (.bipush 99, 2) := by decide +kernel
theorem dX9_boundLaw_46 : decode cX9_boundLaw 46 = .ok (.goto 5, 3) := by decide +kernel
theorem dX9_boundLaw_49 : decode cX9_boundLaw 49 = .ok (.lload_n 3, 1) := by decide +kernel
theorem dX9_boundLaw_50 : decode cX9_boundLaw 50 = .ok (.l2i, 1) := by decide +kernel
theorem dX9_boundLaw_51 : decode cX9_boundLaw 51 = .ok (.ireturn, 1) := by decide +kernel
theorem dX9_praiseOf_0 : decode cX9_praiseOf 0 = .ok (.aload_n 0, 1) := by decide +kernel
theorem dX9_praiseOf_1 : decode cX9_praiseOf 1 = .ok (.iload_n 1, 1) := by decide +kernel
theorem dX9_praiseOf_2 : decode cX9_praiseOf 2 = .ok (.iload_n 2, 1) := by decide +kernel
theorem dX9_praiseOf_3 : decode cX9_praiseOf 3 = .ok (.iload_n 3, 1) := by decide +kernel
theorem dX9_praiseOf_4 : decode cX9_praiseOf 4 = .ok (.invokevirtual 404, 3) := by decide +kernel
theorem dX9_praiseOf_7 : decode cX9_praiseOf 7 = .ok (.aload_n 0, 1) := by decide +kernel
theorem dX9_praiseOf_8 : decode cX9_praiseOf 8 = .ok (.getfield 36, 3) := by decide +kernel
theorem dX9_praiseOf_11 : decode cX9_praiseOf 11 = .ok (.iload_n 2, 1) := by decide +kernel
theorem dX9_praiseOf_12 : decode cX9_praiseOf 12 = .ok (.iaload, 1) := by decide +kernel
theorem dX9_praiseOf_13 : decode cX9_praiseOf 13 = .ok (.aload_n 0, 1) := by decide +kernel
theorem dX9_praiseOf_14 : decode cX9_praiseOf 14 = .ok (.iload_n 3, 1) := by decide +kernel
theorem dX9_praiseOf_15 : decode cX9_praiseOf 15 = .ok (.invokevirtual 389, 3) := by decide +kernel
theorem dX9_praiseOf_18 : decode cX9_praiseOf 18 = .ok (.iadd, 1) := by decide +kernel
theorem dX9_praiseOf_19 : decode cX9_praiseOf 19 = .ok (.aload_n 0, 1) := by decide +kernel
theorem dX9_praiseOf_20 : decode cX9_praiseOf 20 = .ok (.getfield 103, 3) := by decide +kernel
theorem dX9_praiseOf_23 : decode cX9_praiseOf 23 = .ok (.bipush 8, 2) := by decide +kernel
theorem dX9_praiseOf_25 : decode cX9_praiseOf 25 = .ok (.iload_n 1, 1) := by decide +kernel
theorem dX9_praiseOf_26 : decode cX9_praiseOf 26 = .ok (.imul, 1) := by decide +kernel
theorem dX9_praiseOf_27 : decode cX9_praiseOf 27 = .ok (.iload_n 3, 1) := by decide +kernel
theorem dX9_praiseOf_28 : decode cX9_praiseOf 28 = .ok (.iadd, 1) := by decide +kernel
theorem dX9_praiseOf_29 : decode cX9_praiseOf 29 = .ok (.iaload, 1) := by decide +kernel
theorem dX9_praiseOf_30 : decode cX9_praiseOf 30 = .ok (.isub, 1) := by decide +kernel
theorem dX9_praiseOf_31 : decode cX9_praiseOf 31 = .ok (.istore 4, 2) := by decide +kernel
theorem dX9_praiseOf_33 : decode cX9_praiseOf 33 = .ok (.aload_n 0, 1) := by decide +kernel
theorem dX9_praiseOf_34 : decode cX9_praiseOf 34 = .ok (.iconst 0, 1) := by decide +kernel
theorem dX9_praiseOf_35 : decode cX9_praiseOf 35 = .ok (.iload 4, 2) := by decide +kernel
theorem dX9_praiseOf_37 : decode cX9_praiseOf 37 = .ok (.ifCond .ge 7, 3) := by decide +kernel
theorem dX9_praiseOf_40 : decode cX9_praiseOf 40 = .ok (.iconst 0, 1) := by decide +kernel
theorem dX9_praiseOf_41 : decode cX9_praiseOf 41 = .ok (.goto 5, 3) := by decide +kernel
theorem dX9_praiseOf_44 : decode cX9_praiseOf 44 = .ok (.iload 4, 2) := by decide +kernel
theorem dX9_praiseOf_46 : decode cX9_praiseOf 46 = .ok (.invokevirtual 407, 3) := by decide +kernel
theorem dX9_praiseOf_49 : decode cX9_praiseOf 49 = .ok (.ireturn, 1) := by decide +kernel
theorem dX9_isDaring_0 : decode cX9_isDaring 0 = .ok (.aload_n 0, 1) := by decide +kernel
theorem dX9_isDaring_1 : decode cX9_isDaring 1 = .ok (.getfield 91, 3) := by decide +kernel
theorem dX9_isDaring_4 : decode cX9_isDaring 4 = .ok (.bipush 6, 2) := by decide +kernel
theorem dX9_isDaring_6 : decode cX9_isDaring 6 = .ok (.iload_n 1, 1) := by decide +kernel
theorem dX9_isDaring_7 : decode cX9_isDaring 7 = .ok (.imul, 1) := by decide +kernel
theorem dX9_isDaring_8 : decode cX9_isDaring 8 = .ok (.iload_n 2, 1) := by decide +kernel
theorem dX9_isDaring_9 : decode cX9_isDaring 9 = .ok (.iadd, 1) := by decide +kernel
theorem dX9_isDaring_10 : decode cX9_isDaring 10 = .ok (.iaload, 1) := by decide +kernel
theorem dX9_isDaring_11 : decode cX9_isDaring 11 = .ok (.aload_n 0, 1) := by decide +kernel
theorem dX9_isDaring_12 : decode cX9_isDaring 12 = .ok (.getfield 88, 3) := by decide +kernel
theorem dX9_isDaring_15 : decode cX9_isDaring 15 = .ok (.bipush 6, 2) := by decide +kernel
theorem dX9_isDaring_17 : decode cX9_isDaring 17 = .ok (.iload_n 1, 1) := by decide +kernel
theorem dX9_isDaring_18 : decode cX9_isDaring 18 = .ok (.imul, 1) := by decide +kernel
theorem dX9_isDaring_19 : decode cX9_isDaring 19 = .ok (.iload_n 2, 1) := by decide +kernel
theorem dX9_isDaring_20 : decode cX9_isDaring 20 = .ok (.iadd, 1) := by decide +kernel
theorem dX9_isDaring_21 : decode cX9_isDaring 21 = .ok (.iaload, 1) := by decide +kernel
theorem dX9_isDaring_22 : decode cX9_isDaring 22 = .ok (.if_icmp .le 7, 3) := by decide +kernel
theorem dX9_isDaring_25 : decode cX9_isDaring 25 = .ok (.iconst 1, 1) := by decide +kernel
theorem dX9_isDaring_26 : decode cX9_isDaring 26 = .ok (.goto 4, 3) := by decide +kernel
theorem dX9_isDaring_29 : decode cX9_isDaring 29 = .ok (.iconst 0, 1) := by decide +kernel
theorem dX9_isDaring_30 : decode cX9_isDaring 30 = .ok (.istore 4, 2) := by decide +kernel
theorem dX9_isDaring_32 : decode cX9_isDaring 32 = .ok (.aload_n 0, 1) := by decide +kernel
theorem dX9_isDaring_33 : decode cX9_isDaring 33 = .ok (.getfield 54, 3) := by decide +kernel
theorem dX9_isDaring_36 : decode cX9_isDaring 36 = .ok (.iconst 1, 1) := by decide +kernel
theorem dX9_isDaring_37 : decode cX9_isDaring 37 = .ok (.baload, 1) := by decide +kernel
theorem dX9_isDaring_38 : decode cX9_isDaring 38 = .ok (.ifCond .ne 6, 3) := by decide +kernel
theorem dX9_isDaring_41 : decode cX9_isDaring 41 = .ok (.iload 4, 2) := by decide +kernel
theorem dX9_isDaring_43 : decode cX9_isDaring 43 = .ok (.ireturn, 1) := by decide +kernel
theorem dX9_isDaring_44 : decode cX9_isDaring 44 = .ok (.aload_n 0, 1) := by decide +kernel
theorem dX9_isDaring_45 : decode cX9_isDaring 45 = .ok (.iload_n 1, 1) := by decide +kernel
theorem dX9_isDaring_46 : decode cX9_isDaring 46 = .ok (.iload_n 2, 1) := by decide +kernel
theorem dX9_isDaring_47 : decode cX9_isDaring 47 = .ok (.iload_n 3, 1) := by decide +kernel
theorem dX9_isDaring_48 : decode cX9_isDaring 48 = .ok (.invokevirtual 404, 3) := by decide +kernel
theorem dX9_isDaring_51 : decode cX9_isDaring 51 = .ok (.aload_n 0, 1) := by decide +kernel
theorem dX9_isDaring_52 : decode cX9_isDaring 52 = .ok (.iconst 1, 1) := by decide +kernel
theorem dX9_isDaring_53 : decode cX9_isDaring 53 = .ok (.invokevirtual 399, 3) := by decide +kernel
theorem dX9_isDaring_56 : decode cX9_isDaring 56 = .ok (.lstore 5, 2) := by decide +kernel
theorem dX9_isDaring_58 : decode cX9_isDaring 58 = .ok (.aload_n 0, 1) := by decide +kernel
theorem dX9_isDaring_59 : decode cX9_isDaring 59 = .ok (.getfield 315, 3) := by decide +kernel
theorem dX9_isDaring_62 : decode cX9_isDaring 62 = .ok (.ifCond .eq 8, 3) := by decide +kernel
theorem dX9_isDaring_65 : decode cX9_isDaring 65 = .ok (.iload 4, 2) := by decide +kernel
theorem dX9_isDaring_67 : decode cX9_isDaring 67 = .ok (.goto 15, 3) := by decide +kernel
theorem dX9_isDaring_70 : decode cX9_isDaring 70 = .ok (.lload 5, 2) := by decide +kernel
theorem dX9_isDaring_72 : decode cX9_isDaring 72 = .ok (.lconst 0, 1) := by decide +kernel
theorem dX9_isDaring_73 : decode cX9_isDaring 73 = .ok (.lcmp, 1) := by decide +kernel
theorem dX9_isDaring_74 : decode cX9_isDaring 74 = .ok (.ifCond .eq 7, 3) := by decide +kernel
theorem dX9_isDaring_77 : decode cX9_isDaring 77 = .ok (.iconst 1, 1) := by decide +kernel
theorem dX9_isDaring_78 : decode cX9_isDaring 78 = .ok (.goto 4, 3) := by decide +kernel
theorem dX9_isDaring_81 : decode cX9_isDaring 81 = .ok (.iconst 0, 1) := by decide +kernel
theorem dX9_isDaring_82 : decode cX9_isDaring 82 = .ok (.ireturn, 1) := by decide +kernel
theorem dX9_far_0 : decode cX9_far 0 = .ok (.aload_n 0, 1) := by decide +kernel
theorem dX9_far_1 : decode cX9_far 1 = .ok (.getfield 94, 3) := by decide +kernel
theorem dX9_far_4 : decode cX9_far 4 = .ok (.bipush 6, 2) := by decide +kernel
theorem dX9_far_6 : decode cX9_far 6 = .ok (.iload_n 1, 1) := by decide +kernel
theorem dX9_far_7 : decode cX9_far 7 = .ok (.imul, 1) := by decide +kernel
theorem dX9_far_8 : decode cX9_far 8 = .ok (.iload_n 2, 1) := by decide +kernel
theorem dX9_far_9 : decode cX9_far 9 = .ok (.iadd, 1) := by decide +kernel
theorem dX9_far_10 : decode cX9_far 10 = .ok (.iaload, 1) := by decide +kernel
theorem dX9_far_11 : decode cX9_far 11 = .ok (.istore 4, 2) := by decide +kernel
theorem dX9_far_13 : decode cX9_far 13 = .ok (.aload_n 0, 1) := by decide +kernel
theorem dX9_far_14 : decode cX9_far 14 = .ok (.getfield 94, 3) := by decide +kernel
theorem dX9_far_17 : decode cX9_far 17 = .ok (.bipush 6, 2) := by decide +kernel
theorem dX9_far_19 : decode cX9_far 19 = .ok (.iload_n 1, 1) := by decide +kernel
theorem dX9_far_20 : decode cX9_far 20 = .ok (.imul, 1) := by decide +kernel
theorem dX9_far_21 : decode cX9_far 21 = .ok (.iload_n 3, 1) := by decide +kernel
theorem dX9_far_22 : decode cX9_far 22 = .ok (.iadd, 1) := by decide +kernel
theorem dX9_far_23 : decode cX9_far 23 = .ok (.iaload, 1) := by decide +kernel
theorem dX9_far_24 : decode cX9_far 24 = .ok (.istore 5, 2) := by decide +kernel
theorem dX9_far_26 : decode cX9_far 26 = .ok (.iload 4, 2) := by decide +kernel
theorem dX9_far_28 : decode cX9_far 28 = .ok (.iload 5, 2) := by decide +kernel
theorem dX9_far_30 : decode cX9_far 30 = .ok (.if_icmp .le 11, 3) := by decide +kernel
theorem dX9_far_33 : decode cX9_far 33 = .ok (.iload 4, 2) := by decide +kernel
theorem dX9_far_35 : decode cX9_far 35 = .ok (.iload 5, 2) := by decide +kernel
theorem dX9_far_37 : decode cX9_far 37 = .ok (.isub, 1) := by decide +kernel
theorem dX9_far_38 : decode cX9_far 38 = .ok (.goto 8, 3) := by decide +kernel
theorem dX9_far_41 : decode cX9_far 41 = .ok (.iload 5, 2) := by decide +kernel
theorem dX9_far_43 : decode cX9_far 43 = .ok (.iload 4, 2) := by decide +kernel
theorem dX9_far_45 : decode cX9_far 45 = .ok (.isub, 1) := by decide +kernel
theorem dX9_far_46 : decode cX9_far 46 = .ok (.istore 6, 2) := by decide +kernel
theorem dX9_far_48 : decode cX9_far 48 = .ok (.iload 6, 2) := by decide +kernel
theorem dX9_far_50 : decode cX9_far 50 = .ok (.aload_n 0, 1) := by decide +kernel
theorem dX9_far_51 : decode cX9_far 51 = .ok (.getfield 219, 3) := by decide +kernel
theorem dX9_far_54 : decode cX9_far 54 = .ok (.iload 6, 2) := by decide +kernel
theorem dX9_far_56 : decode cX9_far 56 = .ok (.isub, 1) := by decide +kernel
theorem dX9_far_57 : decode cX9_far 57 = .ok (.if_icmp .le 13, 3) := by decide +kernel
theorem dX9_far_60 : decode cX9_far 60 = .ok (.aload_n 0, 1) := by decide +kernel
theorem dX9_far_61 : decode cX9_far 61 = .ok (.getfield 219, 3) := by decide +kernel
theorem dX9_far_64 : decode cX9_far 64 = .ok (.iload 6, 2) := by decide +kernel
theorem dX9_far_66 : decode cX9_far 66 = .ok (.isub, 1) := by decide +kernel
theorem dX9_far_67 : decode cX9_far 67 = .ok (.goto 5, 3) := by decide +kernel
theorem dX9_far_70 : decode cX9_far 70 = .ok (.iload 6, 2) := by decide +kernel
theorem dX9_far_72 : decode cX9_far 72 = .ok (.ireturn, 1) := by decide +kernel
theorem dX9_hears_0 : decode cX9_hears 0 = .ok (.iload_n 2, 1) := by decide +kernel
theorem dX9_hears_1 : decode cX9_hears 1 = .ok (.iload_n 3, 1) := by decide +kernel
theorem dX9_hears_2 : decode cX9_hears 2 = .ok (.if_icmp .eq 48, 3) := by decide +kernel
theorem dX9_hears_5 : decode cX9_hears 5 = .ok (.aload_n 0, 1) := by decide +kernel
theorem dX9_hears_6 : decode cX9_hears 6 = .ok (.iload_n 1, 1) := by decide +kernel
theorem dX9_hears_7 : decode cX9_hears 7 = .ok (.iload_n 2, 1) := by decide +kernel
theorem dX9_hears_8 : decode cX9_hears 8 = .ok (.invokevirtual 386, 3) := by decide +kernel
theorem dX9_hears_11 : decode cX9_hears 11 = .ok (.ifCond .eq 39, 3) := by decide +kernel
theorem dX9_hears_14 : decode cX9_hears 14 = .ok (.aload_n 0, 1) := by decide +kernel
theorem dX9_hears_15 : decode cX9_hears 15 = .ok (.iload_n 1, 1) := by decide +kernel
theorem dX9_hears_16 : decode cX9_hears 16 = .ok (.iload_n 3, 1) := by decide +kernel
theorem dX9_hears_17 : decode cX9_hears 17 = .ok (.invokevirtual 386, 3) := by decide +kernel
theorem dX9_hears_20 : decode cX9_hears 20 = .ok (.ifCond .eq 30, 3) := by decide +kernel
theorem dX9_hears_23 : decode cX9_hears 23 = .ok (.aload_n 0, 1) := by decide +kernel
theorem dX9_hears_24 : decode cX9_hears 24 = .ok (.getfield 365, 3) := by decide +kernel
theorem dX9_hears_27 : decode cX9_hears 27 = .ok (.ifCond .ne 19, 3) := by decide +kernel
theorem dX9_hears_30 : decode cX9_hears 30 = .ok (.aload_n 0, 1) := by decide +kernel
theorem dX9_hears_31 : decode cX9_hears 31 = .ok (.iload_n 1, 1) := by decide +kernel
theorem dX9_hears_32 : decode cX9_hears 32 = .ok (.iload_n 2, 1) := by decide +kernel
theorem dX9_hears_33 : decode cX9_hears 33 = .ok (.iload_n 3, 1) := by decide +kernel
theorem dX9_hears_34 : decode cX9_hears 34 = .ok (.invokevirtual 410, 3) := by decide +kernel
theorem dX9_hears_37 : decode cX9_hears 37 = .ok (.aload_n 0, 1) := by decide +kernel
theorem dX9_hears_38 : decode cX9_hears 38 = .ok (.getfield 24, 3) := by decide +kernel
theorem dX9_hears_41 : decode cX9_hears 41 = .ok (.iconst 0, 1) := by decide +kernel
theorem dX9_hears_42 : decode cX9_hears 42 = .ok (.iaload, 1) := by decide +kernel
theorem dX9_hears_43 : decode cX9_hears 43 = .ok (.if_icmp .gt 7, 3) := by decide +kernel
theorem dX9_hears_46 : decode cX9_hears 46 = .ok (.iconst 1, 1) := by decide +kernel
theorem dX9_hears_47 : decode cX9_hears 47 = .ok (.goto 4, 3) := by decide +kernel
theorem dX9_hears_50 : decode cX9_hears 50 = .ok (.iconst 0, 1) := by decide +kernel
theorem dX9_hears_51 : decode cX9_hears 51 = .ok (.ireturn, 1) := by decide +kernel
theorem dX9_number1_0 : decode cX9_number1 0 = .ok (.aload_n 0, 1) := by decide +kernel
theorem dX9_number1_1 : decode cX9_number1 1 = .ok (.aload_n 0, 1) := by decide +kernel
theorem dX9_number1_2 : decode cX9_number1 2 = .ok (.getfield 337, 3) := by decide +kernel
theorem dX9_number1_5 : decode cX9_number1 5 = .ok (.ldc2_w 414, 3) := by decide +kernel
theorem dX9_number1_8 : decode cX9_number1 8 = .ok (.lmul, 1) := by decide +kernel
theorem dX9_number1_9 : decode cX9_number1 9 = .ok (.ldc2_w 416, 3) := by decide +kernel
theorem dX9_number1_12 : decode cX9_number1 12 = .ok (.ladd, 1) := by decide +kernel
theorem dX9_number1_13 : decode cX9_number1 13 = .ok (.ldc2_w 418, 3) := by decide +kernel
theorem dX9_number1_16 : decode cX9_number1 16 = .ok (.land, 1) := by decide +kernel
theorem dX9_number1_17 : decode cX9_number1 17 = .ok (.putfield 337, 3) := by decide +kernel
theorem dX9_number1_20 : decode cX9_number1 20 = .ok (.aload_n 0, 1) := by decide +kernel
theorem dX9_number1_21 : decode cX9_number1 21 = .ok (.getfield 337, 3) := by decide +kernel
theorem dX9_number1_24 : decode cX9_number1 24 = .ok (.ldc2_w 420, 3) := by decide +kernel
theorem dX9_number1_27 : decode cX9_number1 27 = .ok (.ldiv, 1) := by decide +kernel
theorem dX9_number1_28 : decode cX9_number1 28 = .ok (.iload_n 1, 1) := by decide +kernel
theorem dX9_number1_29 : decode cX9_number1 29 = .ok (.i2l, 1) := by decide +kernel
theorem dX9_number1_30 : decode cX9_number1 30 = .ok (.lrem, 1) := by decide +kernel
theorem dX9_number1_31 : decode cX9_number1 31 = .ok (.l2i, 1) := by decide +kernel
theorem dX9_number1_32 : decode cX9_number1 32 = .ok (.ireturn, 1) := by decide +kernel
theorem dX9_isDraught_0 : decode cX9_isDraught 0 = .ok (.aload_n 0, 1) := by decide +kernel
theorem dX9_isDraught_1 : decode cX9_isDraught 1 = .ok (.getfield 356, 3) := by decide +kernel
theorem dX9_isDraught_4 : decode cX9_isDraught 4 = .ok (.ifCond .ne 12, 3) := by decide +kernel
theorem dX9_isDraught_7 : decode cX9_isDraught 7 = .ok (.aload_n 0, 1) := by decide +kernel
theorem dX9_isDraught_8 : decode cX9_isDraught 8 = .ok (.getfield 24, 3) := by decide +kernel
theorem dX9_isDraught_11 : decode cX9_isDraught 11 = .ok (.iconst 1, 1) := by decide +kernel
theorem dX9_isDraught_12 : decode cX9_isDraught 12 = .ok (.iaload, 1) := by decide +kernel
theorem dX9_isDraught_13 : decode cX9_isDraught 13 = .ok (.ifCond .ne 5, 3) := by decide +kernel
theorem dX9_isDraught_16 : decode cX9_isDraught 16 = .ok (.iconst 0, 1) := by decide +kernel
theorem dX9_isDraught_17 : decode cX9_isDraught 17 = .ok (.ireturn, 1) := by decide +kernel
theorem dX9_isDraught_18 : decode cX9_isDraught 18 = .ok (.aload_n 0, 1) := by decide +kernel
theorem dX9_isDraught_19 : decode cX9_isDraught 19 = .ok (.getfield 24, 3) := by decide +kernel
theorem dX9_isDraught_22 : decode cX9_isDraught 22 = .ok (.iconst 1, 1) := by decide +kernel
theorem dX9_isDraught_23 : decode cX9_isDraught 23 = .ok (.iaload, 1) := by decide +kernel
theorem dX9_isDraught_24 : decode cX9_isDraught 24 = .ok (.bipush 100, 2) := by decide +kernel
theorem dX9_isDraught_26 : decode cX9_isDraught 26 = .ok (.if_icmp .ne 5, 3) := by decide +kernel
theorem dX9_isDraught_29 : decode cX9_isDraught 29 = .ok (.iconst 1, 1) := by decide +kernel
theorem dX9_isDraught_30 : decode cX9_isDraught 30 = .ok (.ireturn, 1) := by decide +kernel
theorem dX9_isDraught_31 : decode cX9_isDraught 31 = .ok (.aload_n 0, 1) := by decide +kernel
