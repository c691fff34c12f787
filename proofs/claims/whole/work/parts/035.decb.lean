theorem dX9_init_0 : decode cX9_init 0 = .ok (.aload_n 0, 1) := by decide +kernel
theorem dX9_init_1 : decode cX9_init 1 = .ok (.invokespecial 1, 3) := by decide +kernel
theorem dX9_init_4 : decode cX9_init 4 = .ok (.aload_n 0, 1) := by decide +kernel
theorem dX9_init_5 : decode cX9_init 5 = .ok (.new 7, 3) := by decide +kernel
theorem dX9_init_8 : decode cX9_init 8 = .ok (.dup, 1) := by decide +kernel
theorem dX9_init_9 : decode cX9_init 9 = .ok (.invokespecial 9, 3) := by decide +kernel
theorem dX9_init_12 : decode cX9_init 12 = .ok (.putfield 10, 3) := by decide +kernel
theorem dX9_init_15 : decode cX9_init 15 = .ok (.aload_n 0, 1) := by decide +kernel
theorem dX9_init_16 : decode cX9_init 16 = .ok (.new 16, 3) := by decide +kernel
theorem dX9_init_19 : decode cX9_init 19 = .ok (.dup, 1) := by decide +kernel
theorem dX9_init_20 : decode cX9_init 20 = .ok (.aload_n 0, 1) := by decide +kernel
theorem dX9_init_21 : decode cX9_init 21 = .ok (.getfield 10, 3) := by decide +kernel
theorem dX9_init_24 : decode cX9_init 24 = .ok (.invokespecial 18, 3) := by decide +kernel
theorem dX9_init_27 : decode cX9_init 27 = .ok (.putfield 21, 3) := by decide +kernel
theorem dX9_init_30 : decode cX9_init 30 = .ok (.aload_n 0, 1) := by decide +kernel
theorem dX9_init_31 : decode cX9_init 31 = .ok (.new 16, 3) := by decide +kernel
theorem dX9_init_34 : decode cX9_init 34 = .ok (.dup, 1) := by decide +kernel
theorem dX9_init_35 : decode cX9_init 35 = .ok (.aload_n 0, 1) := by decide +kernel
theorem dX9_init_36 : decode cX9_init 36 = .ok (.getfield 10, 3) := by decide +kernel
theorem dX9_init_39 : decode cX9_init 39 = .ok (.invokespecial 18, 3) := by decide +kernel
theorem dX9_init_42 : decode cX9_init 42 = .ok (.putfield 25, 3) := by decide +kernel
theorem dX9_init_45 : decode cX9_init 45 = .ok (.aload_n 0, 1) := by decide +kernel
theorem dX9_init_46 : decode cX9_init 46 = .ok (.new 28, 3) := by decide +kernel
theorem dX9_init_49 : decode cX9_init 49 = .ok (.dup, 1) := by decide +kernel
theorem dX9_init_50 : decode cX9_init 50 = .ok (.aload_n 0, 1) := by decide +kernel
theorem dX9_init_51 : decode cX9_init 51 = .ok (.getfield 21, 3) := by decide +kernel
theorem dX9_init_54 : decode cX9_init 54 = .ok (.invokespecial 30, 3) := by decide +kernel
theorem dX9_init_57 : decode cX9_init 57 = .ok (.putfield 33, 3) := by decide +kernel
theorem dX9_init_60 : decode cX9_init 60 = .ok (.aload_n 0, 1) := by decide +kernel
theorem dX9_init_61 : decode cX9_init 61 = .ok (.new 37, 3) := by decide +kernel
theorem dX9_init_64 : decode cX9_init 64 = .ok (.dup, 1) := by decide +kernel
theorem dX9_init_65 : decode cX9_init 65 = .ok (.aload_n 0, 1) := by decide +kernel
theorem dX9_init_66 : decode cX9_init 66 = .ok (.getfield 21, 3) := by decide +kernel
theorem dX9_init_69 : decode cX9_init 69 = .ok (.aload_n 0, 1) := by decide +kernel
theorem dX9_init_70 : decode cX9_init 70 = .ok (.getfield 33, 3) := by decide +kernel
theorem dX9_init_73 : decode cX9_init 73 = .ok (.invokespecial 39, 3) := by decide +kernel
theorem dX9_init_76 : decode cX9_init 76 = .ok (.putfield 42, 3) := by decide +kernel
theorem dX9_init_79 : decode cX9_init 79 = .ok (.aload_n 0, 1) := by decide +kernel
theorem dX9_init_80 : decode cX9_init 80 = .ok (.iconst 5, 1) := by decide +kernel
theorem dX9_init_81 : decode cX9_init 81 = .ok (.anewarray 46, 3) := by decide +kernel
theorem dX9_init_84 : decode cX9_init 84 = .ok (.putfield 48, 3) := by decide +kernel
theorem dX9_init_87 : decode cX9_init 87 = .ok (.iconst 0, 1) := by decide +kernel
theorem dX9_init_88 : decode cX9_init 88 = .ok (.istore_n 1, 1) := by decide +kernel
theorem dX9_init_89 : decode cX9_init 89 = .ok (.iload_n 1, 1) := by decide +kernel
theorem dX9_init_90 : decode cX9_init 90 = .ok (.aload_n 0, 1) := by decide +kernel
theorem dX9_init_91 : decode cX9_init 91 = .ok (.getfield 48, 3) := by decide +kernel
theorem dX9_init_94 : decode cX9_init 94 = .ok (.arraylength, 1) := by decide +kernel
theorem dX9_init_95 : decode cX9_init 95 = .ok (.if_icmp .ge 26, 3) := by decide +kernel
theorem dX9_init_98 : decode cX9_init 98 = .ok (.aload_n 0, 1) := by decide +kernel
theorem dX9_init_99 : decode cX9_init 99 = .ok (.getfield 48, 3) := by decide +kernel
theorem dX9_init_102 : decode cX9_init 102 = .ok (.iload_n 1, 1) := by decide +kernel
theorem dX9_init_103 : decode cX9_init 103 = .ok (.new 46, 3) := by decide +kernel
theorem dX9_init_106 : decode cX9_init 106 = .ok (.dup, 1) := by decide +kernel
theorem dX9_init_107 : decode cX9_init 107 = .ok (.aload_n 0, 1) := by decide +kernel
theorem dX9_init_108 : decode cX9_init 108 = .ok (.getfield 10, 3) := by decide +kernel
theorem dX9_init_111 : decode cX9_init 111 = .ok (.invokespecial 52, 3) := by decide +kernel
theorem dX9_init_114 : decode cX9_init 114 = .ok (.aastore, 1) := by decide +kernel
theorem dX9_init_115 : decode cX9_init 115 = .ok (.iinc 1 1, 3) := by decide +kernel
theorem dX9_init_118 : decode cX9_init 118 = .ok (.goto (-29), 3) := by decide +kernel
theorem dX9_init_121 : decode cX9_init 121 = .ok (.aload_n 0, 1) := by decide +kernel
theorem dX9_init_122 : decode cX9_init 122 = .ok (.iconst 5, 1) := by decide +kernel
theorem dX9_init_123 : decode cX9_init 123 = .ok (.anewarray 53, 3) := by decide +kernel
theorem dX9_init_126 : decode cX9_init 126 = .ok (.putfield 55, 3) := by decide +kernel
theorem dX9_init_129 : decode cX9_init 129 = .ok (.iconst 0, 1) := by decide +kernel
theorem dX9_init_130 : decode cX9_init 130 = .ok (.istore_n 1, 1) := by decide +kernel
theorem dX9_init_131 : decode cX9_init 131 = .ok (.iload_n 1, 1) := by decide +kernel
theorem dX9_init_132 : decode cX9_init 132 = .ok (.aload_n 0, 1) := by decide +kernel
theorem dX9_init_133 : decode cX9_init 133 = .ok (.getfield 55, 3) := by decide +kernel
theorem dX9_init_136 : decode cX9_init 136 = .ok (.arraylength, 1) := by decide +kernel
theorem dX9_init_137 : decode cX9_init 137 = .ok (.if_icmp .ge 26, 3) := by decide +kernel
theorem dX9_init_140 : decode cX9_init 140 = .ok (.aload_n 0, 1) := by decide +kernel
theorem dX9_init_141 : decode cX9_init 141 = .ok (.getfield 55, 3) := by decide +kernel
theorem dX9_init_144 : decode cX9_init 144 = .ok (.iload_n 1, 1) := by decide +kernel
theorem dX9_init_145 : decode cX9_init 145 = .ok (.new 53, 3) := by decide +kernel
theorem dX9_init_148 : decode cX9_init 148 = .ok (.dup, 1) := by decide +kernel
theorem dX9_init_149 : decode cX9_init 149 = .ok (.aload_n 0, 1) := by decide +kernel
theorem dX9_init_150 : decode cX9_init 150 = .ok (.getfield 10, 3) := by decide +kernel
theorem dX9_init_153 : decode cX9_init 153 = .ok (.invokespecial 59, 3) := by decide +kernel
theorem dX9_init_156 : decode cX9_init 156 = .ok (.aastore, 1) := by decide +kernel
theorem dX9_init_157 : decode cX9_init 157 = .ok (.iinc 1 1, 3) := by decide +kernel
theorem dX9_init_160 : decode cX9_init 160 = .ok (.goto (-29), 3) := by decide +kernel
theorem dX9_init_163 : decode cX9_init 163 = .ok (.aload_n 0, 1) := by decide +kernel
theorem dX9_init_164 : decode cX9_init 164 = .ok (.new 60, 3) := by decide +kernel
theorem dX9_init_167 : decode cX9_init 167 = .ok (.dup, 1) := by decide +kernel
theorem dX9_init_168 : decode cX9_init 168 = .ok (.invokespecial 62, 3) := by decide +kernel
theorem dX9_init_171 : decode cX9_init 171 = .ok (.putfield 63, 3) := by decide +kernel
theorem dX9_init_174 : decode cX9_init 174 = .ok (.aload_n 0, 1) := by decide +kernel
theorem dX9_init_175 : decode cX9_init 175 = .ok (.new 60, 3) := by decide +kernel
theorem dX9_init_178 : decode cX9_init 178 = .ok (.dup, 1) := by decide +kernel
theorem dX9_init_179 : decode cX9_init 179 = .ok (.invokespecial 62, 3) := by decide +kernel
theorem dX9_init_182 : decode cX9_init 182 = .ok (.putfield 67, 3) := by decide +kernel
theorem dX9_init_185 : decode cX9_init 185 = .ok (.aload_n 0, 1) := by decide +kernel
theorem dX9_init_186 : decode cX9_init 186 = .ok (.new 70, 3) := by decide +kernel
theorem dX9_init_189 : decode cX9_init 189 = .ok (.dup, 1) := by decide +kernel
theorem dX9_init_190 : decode cX9_init 190 = .ok (.invokespecial 72, 3) := by decide +kernel
theorem dX9_init_193 : decode cX9_init 193 = .ok (.putfield 73, 3) := by decide +kernel
theorem dX9_init_196 : decode cX9_init 196 = .ok (.aload_n 0, 1) := by decide +kernel
theorem dX9_init_197 : decode cX9_init 197 = .ok (.new 77, 3) := by decide +kernel
theorem dX9_init_200 : decode cX9_init 200 = .ok (.dup, 1) := by decide +kernel
theorem dX9_init_201 : decode cX9_init 201 = .ok (.invokespecial 79, 3) := by decide +kernel
theorem dX9_init_204 : decode cX9_init 204 = .ok (.putfield 80, 3) := by decide +kernel
theorem dX9_init_207 : decode cX9_init 207 = .ok (.aload_n 0, 1) := by decide +kernel
theorem dX9_init_208 : decode cX9_init 208 = .ok (.new 60, 3) := by decide +kernel
theorem dX9_init_211 : decode cX9_init 211 = .ok (.dup, 1) := by decide +kernel
theorem dX9_init_212 : decode cX9_init 212 = .ok (.invokespecial 62, 3) := by decide +kernel
theorem dX9_init_215 : decode cX9_init 215 = .ok (.putfield 84, 3) := by decide +kernel
theorem dX9_init_218 : decode cX9_init 218 = .ok (.aload_n 0, 1) := by decide +kernel
theorem dX9_init_219 : decode cX9_init 219 = .ok (.new 77, 3) := by decide +kernel
theorem dX9_init_222 : decode cX9_init 222 = .ok (.dup, 1) := by decide +kernel
theorem dX9_init_223 : decode cX9_init 223 = .ok (.invokespecial 79, 3) := by decide +kernel
theorem dX9_init_226 : decode cX9_init 226 = .ok (.putfield 87, 3) := by decide +kernel
theorem dX9_init_229 : decode cX9_init 229 = .ok (.aload_n 0, 1) := by decide +kernel
theorem dX9_init_230 : decode cX9_init 230 = .ok (.iconst (-1), 1) := by decide +kernel
theorem dX9_init_231 : decode cX9_init 231 = .ok (.putfield 90, 3) := by decide +kernel
theorem dX9_init_234 : decode cX9_init 234 = .ok (.return_, 1) := by decide +kernel
theorem dX9_feed_0 : decode cX9_feed 0 = .ok (.iload_n 1, 1) := by decide +kernel
theorem dX9_feed_1 : decode cX9_feed 1 = .ok (.invokestatic 94, 3) := by decide +kernel
theorem dX9_feed_4 : decode cX9_feed 4 = .ok (.iload_n 2, 1) := by decide +kernel
theorem dX9_feed_5 : decode cX9_feed 5 = .ok (.invokestatic 94, 3) := by decide +kernel
theorem dX9_feed_8 : decode cX9_feed 8 = .ok (.iadd, 1) := by decide +kernel
theorem dX9_feed_9 : decode cX9_feed 9 = .ok (.iload_n 3, 1) := by decide +kernel
theorem dX9_feed_10 : decode cX9_feed 10 = .ok (.invokestatic 94, 3) := by decide +kernel
theorem dX9_feed_13 : decode cX9_feed 13 = .ok (.iadd, 1) := by decide +kernel
theorem dX9_feed_14 : decode cX9_feed 14 = .ok (.iload 4, 2) := by decide +kernel
theorem dX9_feed_16 : decode cX9_feed 16 = .ok (.invokestatic 94, 3) := by decide +kernel
theorem dX9_feed_19 : decode cX9_feed 19 = .ok (.iadd, 1) := by decide +kernel
theorem dX9_feed_20 : decode cX9_feed 20 = .ok (.iload 5, 2) := by decide +kernel
theorem dX9_feed_22 : decode cX9_feed 22 = .ok (.invokestatic 94, 3) := by decide +kernel
theorem dX9_feed_25 : decode cX9_feed 25 = .ok (.iadd, 1) := by decide +kernel
theorem dX9_feed_26 : decode cX9_feed 26 = .ok (.istore 6, 2) := by decide +kernel
theorem dX9_feed_28 : decode cX9_feed 28 = .ok (.aload_n 0, 1) := by decide +kernel
theorem dX9_feed_29 : decode cX9_feed 29 = .ok (.getfield 10, 3) := by decide +kernel
theorem dX9_feed_32 : decode cX9_feed 32 = .ok (.getfield 98, 3) := by decide +kernel
theorem dX9_feed_35 : decode cX9_feed 35 = .ok (.iload 6, 2) := by decide +kernel
theorem dX9_feed_37 : decode cX9_feed 37 = .ok (.iadd, 1) := by decide +kernel
theorem dX9_feed_38 : decode cX9_feed 38 = .ok (.sipush 240, 3) := by decide +kernel
theorem dX9_feed_41 : decode cX9_feed 41 = .ok (.if_icmp .le 5, 3) := by decide +kernel
theorem dX9_feed_44 : decode cX9_feed 44 = .ok (.iconst (-1), 1) := by decide +kernel
theorem dX9_feed_45 : decode cX9_feed 45 = .ok (.ireturn, 1) := by decide +kernel
theorem dX9_feed_46 : decode cX9_feed 46 = .ok (.aload_n 0, 1) := by decide +kernel
theorem dX9_feed_47 : decode cX9_feed 47 = .ok (.getfield 10, 3) := by decide +kernel
theorem dX9_feed_50 : decode cX9_feed 50 = .ok (.iload_n 1, 1) := by decide +kernel
theorem dX9_feed_51 : decode cX9_feed 51 = .ok (.invokevirtual 101, 3) := by decide +kernel
theorem dX9_feed_54 : decode cX9_feed 54 = .ok (.aload_n 0, 1) := by decide +kernel
theorem dX9_feed_55 : decode cX9_feed 55 = .ok (.getfield 10, 3) := by decide +kernel
theorem dX9_feed_58 : decode cX9_feed 58 = .ok (.iload_n 2, 1) := by decide +kernel
theorem dX9_feed_59 : decode cX9_feed 59 = .ok (.invokevirtual 101, 3) := by decide +kernel
theorem dX9_feed_62 : decode cX9_feed 62 = .ok (.aload_n 0, 1) := by decide +kernel
theorem dX9_feed_63 : decode cX9_feed 63 = .ok (.getfield 10, 3) := by decide +kernel
theorem dX9_feed_66 : decode cX9_feed 66 = .ok (.iload_n 3, 1) := by decide +kernel
theorem dX9_feed_67 : decode cX9_feed 67 = .ok (.invokevirtual 101, 3) := by decide +kernel
theorem dX9_feed_70 : decode cX9_feed 70 = .ok (.aload_n 0, 1) := by decide +kernel
theorem dX9_feed_71 : decode cX9_feed 71 = .ok (.getfield 10, 3) := by decide +kernel
theorem dX9_feed_74 : decode cX9_feed 74 = .ok (.iload 4, 2) := by decide +kernel
theorem dX9_feed_76 : decode cX9_feed 76 = .ok (.invokevirtual 101, 3) := by decide +kernel
theorem dX9_feed_79 : decode cX9_feed 79 = .ok (.aload_n 0, 1) := by decide +kernel
theorem dX9_feed_80 : decode cX9_feed 80 = .ok (.getfield 10, 3) := by decide +kernel
theorem dX9_feed_83 : decode cX9_feed 83 = .ok (.iload 5, 2) := by decide +kernel
theorem dX9_feed_85 : decode cX9_feed 85 = .ok (.invokevirtual 101, 3) := by decide +kernel
theorem dX9_feed_88 : decode cX9_feed 88 = .ok (.aload_n 0, 1) := by decide +kernel
theorem dX9_feed_89 : decode cX9_feed 89 = .ok (.getfield 10, 3) := by decide +kernel
theorem dX9_feed_92 : decode cX9_feed 92 = .ok (.getfield 98, 3) := by decide +kernel
theorem dX9_feed_95 : decode cX9_feed 95 = .ok (.ireturn, 1) := by decide +kernel
theorem dX9_signsIn_0 : decode cX9_signsIn 0 = .ok (.iconst 0, 1) := by decide +kernel
theorem dX9_signsIn_1 : decode cX9_signsIn 1 = .ok (.istore_n 1, 1) := by decide +kernel
theorem dX9_signsIn_2 : decode cX9_signsIn 2 = .ok (.bipush 24, 2) := by decide +kernel
theorem dX9_signsIn_4 : decode cX9_signsIn 4 = .ok (.istore_n 2, 1) := by decide +kernel
theorem dX9_signsIn_5 : decode cX9_signsIn 5 = .ok (.iload_n 2, 1) := by decide +kernel
theorem dX9_signsIn_6 : decode cX9_signsIn 6 = .ok (.ifCond .lt 22, 3) := by decide +kernel
theorem dX9_signsIn_9 : decode cX9_signsIn 9 = .ok (.iload_n 0, 1) := by decide +kernel
theorem dX9_signsIn_10 : decode cX9_signsIn 10 = .ok (.iload_n 2, 1) := by decide +kernel
theorem dX9_signsIn_11 : decode cX9_signsIn 11 = .ok (.iushr, 1) := by decide +kernel
theorem dX9_signsIn_12 : decode cX9_signsIn 12 = .ok (.sipush 255, 3) := by decide +kernel
theorem dX9_signsIn_15 : decode cX9_signsIn 15 = .ok (.iand, 1) := by decide +kernel
theorem dX9_signsIn_16 : decode cX9_signsIn 16 = .ok (.ifCond .eq 6, 3) := by decide +kernel
theorem dX9_signsIn_19 : decode cX9_signsIn 19 = .ok (.iinc 1 1, 3) := by decide +kernel
theorem dX9_signsIn_22 : decode cX9_signsIn 22 = .ok (.iinc 2 (-8), 3) := by decide +kernel
theorem dX9_signsIn_25 : decode cX9_signsIn 25 = .ok (.goto (-20), 3) := by decide +kernel
theorem dX9_signsIn_28 : decode cX9_signsIn 28 = .ok (.iload_n 1, 1) := by decide +kernel
theorem dX9_signsIn_29 : decode cX9_signsIn 29 = .ok (.ireturn, 1) := by decide +kernel
theorem dX9_end_0 : decode cX9_end 0 = .ok (.iload_n 1, 1) := by decide +kernel
theorem dX9_end_1 : decode cX9_end 1 = .ok (.ifCond .lt 14, 3) := by decide +kernel
theorem dX9_end_4 : decode cX9_end 4 = .ok (.iload_n 1, 1) := by decide +kernel
theorem dX9_end_5 : decode cX9_end 5 = .ok (.aload_n 0, 1) := by decide +kernel
theorem dX9_end_6 : decode cX9_end 6 = .ok (.getfield 10, 3) := by decide +kernel
theorem dX9_end_9 : decode cX9_end 9 = .ok (.getfield 98, 3) := by decide +kernel
theorem dX9_end_12 : decode cX9_end 12 = .ok (.if_icmp .le 5, 3) := by decide +kernel
theorem dX9_end_15 : decode cX9_end 15 = .ok (.iconst 0, 1) := by decide +kernel
theorem dX9_end_16 : decode cX9_end 16 = .ok (.ireturn, 1) := by decide +kernel
theorem dX9_end_17 : decode cX9_end 17 = .ok (.aload_n 0, 1) := by decide +kernel
theorem dX9_end_18 : decode cX9_end 18 = .ok (.getfield 10, 3) := by decide +kernel
theorem dX9_end_21 : decode cX9_end 21 = .ok (.iload_n 1, 1) := by decide +kernel
theorem dX9_end_22 : decode cX9_end 22 = .ok (.putfield 98, 3) := by decide +kernel
theorem dX9_end_25 : decode cX9_end 25 = .ok (.iconst 1, 1) := by decide +kernel
theorem dX9_end_26 : decode cX9_end 26 = .ok (.ireturn, 1) := by decide +kernel
theorem dX9_fault_0 : decode cX9_fault 0 = .ok (.iload_n 1, 1) := by decide +kernel
theorem dX9_fault_1 : decode cX9_fault 1 = .ok (.ifCond .lt 8, 3) := by decide +kernel
theorem dX9_fault_4 : decode cX9_fault 4 = .ok (.iload_n 1, 1) := by decide +kernel
theorem dX9_fault_5 : decode cX9_fault 5 = .ok (.iconst 2, 1) := by decide +kernel
theorem dX9_fault_6 : decode cX9_fault 6 = .ok (.if_icmp .le 6, 3) := by decide +kernel
theorem dX9_fault_9 : decode cX9_fault 9 = .ok (.bipush (-2), 2) := by decide +kernel
theorem dX9_fault_11 : decode cX9_fault 11 = .ok (.ireturn, 1) := by decide +kernel
theorem dX9_fault_12 : decode cX9_fault 12 = .ok (.aload_n 0, 1) := by decide +kernel
theorem dX9_fault_13 : decode cX9_fault 13 = .ok (.iload_n 1, 1) := by decide +kernel
theorem dX9_fault_14 : decode cX9_fault 14 = .ok (.invokevirtual 105, 3) := by decide +kernel
theorem dX9_fault_17 : decode cX9_fault 17 = .ok (.ifCond .eq 7, 3) := by decide +kernel
theorem dX9_fault_20 : decode cX9_fault 20 = .ok (.iconst (-1), 1) := by decide +kernel
theorem dX9_fault_21 : decode cX9_fault 21 = .ok (.goto 10, 3) := by decide +kernel
theorem dX9_fault_24 : decode cX9_fault 24 = .ok (.aload_n 0, 1) := by decide +kernel
theorem dX9_fault_25 : decode cX9_fault 25 = .ok (.getfield 10, 3) := by decide +kernel
theorem dX9_fault_28 : decode cX9_fault 28 = .ok (.getfield 109, 3) := by decide +kernel
theorem dX9_fault_31 : decode cX9_fault 31 = .ok (.ireturn, 1) := by decide +kernel
theorem dX9_text_0 : decode cX9_text 0 = .ok (.iload_n 1, 1) := by decide +kernel
theorem dX9_text_1 : decode cX9_text 1 = .ok (.tableswitch 94 0 2 #[27, 44, 69], 27) := by decide +kernel
theorem dX9_text_28 : decode cX9_text 28 = .ok (.aload_n 0, 1) := by decide +kernel
theorem dX9_text_29 : decode cX9_text 29 = .ok (.iload_n 1, 1) := by decide +kernel
theorem dX9_text_30 : decode cX9_text 30 = .ok (.invokevirtual 105, 3) := by decide +kernel
theorem dX9_text_33 : decode cX9_text 33 = .ok (.ifCond .eq 10, 3) := by decide +kernel
theorem dX9_text_36 : decode cX9_text 36 = .ok (.aload_n 0, 1) := by decide +kernel
theorem dX9_text_37 : decode cX9_text 37 = .ok (.invokevirtual 112, 3) := by decide +kernel
theorem dX9_text_40 : decode cX9_text 40 = .ok (.goto 4, 3) := by decide +kernel
theorem dX9_text_43 : decode cX9_text 43 = .ok (.iconst (-1), 1) := by decide +kernel
theorem dX9_text_44 : decode cX9_text 44 = .ok (.ireturn, 1) := by decide +kernel
theorem dX9_text_45 : decode cX9_text 45 = .ok (.aload_n 0, 1) := by decide +kernel
theorem dX9_text_46 : decode cX9_text 46 = .ok (.getfield 116, 3) := by decide +kernel
theorem dX9_text_49 : decode cX9_text 49 = .ok (.iconst 4, 1) := by decide +kernel
theorem dX9_text_50 : decode cX9_text 50 = .ok (.if_icmp .ge 18, 3) := by decide +kernel
theorem dX9_text_53 : decode cX9_text 53 = .ok (.aload_n 0, 1) := by decide +kernel
theorem dX9_text_54 : decode cX9_text 54 = .ok (.iload_n 1, 1) := by decide +kernel
theorem dX9_text_55 : decode cX9_text 55 = .ok (.invokevirtual 105, 3) := by decide +kernel
theorem dX9_text_58 : decode cX9_text 58 = .ok (.ifCond .eq 10, 3) := by decide +kernel
theorem dX9_text_61 : decode cX9_text 61 = .ok (.aload_n 0, 1) := by decide +kernel
theorem dX9_text_62 : decode cX9_text 62 = .ok (.invokevirtual 119, 3) := by decide +kernel
theorem dX9_text_65 : decode cX9_text 65 = .ok (.goto 4, 3) := by decide +kernel
theorem dX9_text_68 : decode cX9_text 68 = .ok (.iconst (-1), 1) := by decide +kernel
theorem dX9_text_69 : decode cX9_text 69 = .ok (.ireturn, 1) := by decide +kernel
theorem dX9_text_70 : decode cX9_text 70 = .ok (.aload_n 0, 1) := by decide +kernel
theorem dX9_text_71 : decode cX9_text 71 = .ok (.getfield 122, 3) := by decide +kernel
theorem dX9_text_74 : decode cX9_text 74 = .ok (.iconst 4, 1) := by decide +kernel
theorem dX9_text_75 : decode cX9_text 75 = .ok (.if_icmp .ge 18, 3) := by decide +kernel
theorem dX9_text_78 : decode cX9_text 78 = .ok (.aload_n 0, 1) := by decide +kernel
theorem dX9_text_79 : decode cX9_text 79 = .ok (.iload_n 1, 1) := by decide +kernel
theorem dX9_text_80 : decode cX9_text 80 = .ok (.invokevirtual 105, 3) := by decide +kernel
theorem dX9_text_83 : decode cX9_text 83 = .ok (.ifCond .eq 10, 3) := by decide +kernel
theorem dX9_text_86 : decode cX9_text 86 = .ok (.aload_n 0, 1) := by decide +kernel
theorem dX9_text_87 : decode cX9_text 87 = .ok (.invokevirtual 125, 3) := by decide +kernel
theorem dX9_text_90 : decode cX9_text 90 = .ok (.goto 4, 3) := by decide +kernel
theorem dX9_text_93 : decode cX9_text 93 = .ok (.iconst (-1), 1) := by decide +kernel
theorem dX9_text_94 : decode cX9_text 94 = .ok (.ireturn, 1) := by decide +kernel
theorem dX9_text_95 : decode cX9_text 95 = .ok (.iconst (-1), 1) := by decide +kernel
theorem dX9_text_96 : decode cX9_text 96 = .ok (.ireturn, 1) := by decide +kernel
theorem dX9_isWhole_0 : decode cX9_isWhole 0 = .ok (.iload_n 1, 1) := by decide +kernel
theorem dX9_isWhole_1 : decode cX9_isWhole 1 = .ok (.tableswitch 101 0 2 #[27, 35, 68], 27) := by decide +kernel
theorem dX9_isWhole_28 : decode cX9_isWhole 28 = .ok (.aload_n 0, 1) := by decide +kernel
theorem dX9_isWhole_29 : decode cX9_isWhole 29 = .ok (.getfield 25, 3) := by decide +kernel
theorem dX9_isWhole_32 : decode cX9_isWhole 32 = .ok (.invokevirtual 128, 3) := by decide +kernel
theorem dX9_isWhole_35 : decode cX9_isWhole 35 = .ok (.ireturn, 1) := by decide +kernel
theorem dX9_isWhole_36 : decode cX9_isWhole 36 = .ok (.aload_n 0, 1) := by decide +kernel
theorem dX9_isWhole_37 : decode cX9_isWhole 37 = .ok (.getfield 116, 3) := by decide +kernel
theorem dX9_isWhole_40 : decode cX9_isWhole 40 = .ok (.aload_n 0, 1) := by decide +kernel
theorem dX9_isWhole_41 : decode cX9_isWhole 41 = .ok (.getfield 48, 3) := by decide +kernel
theorem dX9_isWhole_44 : decode cX9_isWhole 44 = .ok (.arraylength, 1) := by decide +kernel
theorem dX9_isWhole_45 : decode cX9_isWhole 45 = .ok (.if_icmp .ge 22, 3) := by decide +kernel
theorem dX9_isWhole_48 : decode cX9_isWhole 48 = .ok (.aload_n 0, 1) := by decide +kernel
theorem dX9_isWhole_49 : decode cX9_isWhole 49 = .ok (.getfield 48, 3) := by decide +kernel
theorem dX9_isWhole_52 : decode cX9_isWhole 52 = .ok (.aload_n 0, 1) := by decide +kernel
theorem dX9_isWhole_53 : decode cX9_isWhole 53 = .ok (.getfield 116, 3) := by decide +kernel
theorem dX9_isWhole_56 : decode cX9_isWhole 56 = .ok (.aaload, 1) := by decide +kernel
theorem dX9_isWhole_57 : decode cX9_isWhole 57 = .ok (.invokevirtual 132, 3) := by decide +kernel
theorem dX9_isWhole_60 : decode cX9_isWhole 60 = .ok (.ifCond .eq 7, 3) := by decide +kernel
theorem dX9_isWhole_63 : decode cX9_isWhole 63 = .ok (.iconst 1, 1) := by decide +kernel
theorem dX9_isWhole_64 : decode cX9_isWhole 64 = .ok (.goto 4, 3) := by decide +kernel
theorem dX9_isWhole_67 : decode cX9_isWhole 67 = .ok (.iconst 0, 1) := by decide +kernel
theorem dX9_isWhole_68 : decode cX9_isWhole 68 = .ok (.ireturn, 1) := by decide +kernel
theorem dX9_isWhole_69 : decode cX9_isWhole 69 = .ok (.aload_n 0, 1) := by decide +kernel
theorem dX9_isWhole_70 : decode cX9_isWhole 70 = .ok (.getfield 122, 3) := by decide +kernel
theorem dX9_isWhole_73 : decode cX9_isWhole 73 = .ok (.aload_n 0, 1) := by decide +kernel
theorem dX9_isWhole_74 : decode cX9_isWhole 74 = .ok (.getfield 55, 3) := by decide +kernel
theorem dX9_isWhole_77 : decode cX9_isWhole 77 = .ok (.arraylength, 1) := by decide +kernel
theorem dX9_isWhole_78 : decode cX9_isWhole 78 = .ok (.if_icmp .ge 22, 3) := by decide +kernel
theorem dX9_isWhole_81 : decode cX9_isWhole 81 = .ok (.aload_n 0, 1) := by decide +kernel
theorem dX9_isWhole_82 : decode cX9_isWhole 82 = .ok (.getfield 55, 3) := by decide +kernel
theorem dX9_isWhole_85 : decode cX9_isWhole 85 = .ok (.aload_n 0, 1) := by decide +kernel
theorem dX9_isWhole_86 : decode cX9_isWhole 86 = .ok (.getfield 122, 3) := by decide +kernel
theorem dX9_isWhole_89 : decode cX9_isWhole 89 = .ok (.aaload, 1) := by decide +kernel
theorem dX9_isWhole_90 : decode cX9_isWhole 90 = .ok (.invokevirtual 133, 3) := by decide +kernel
theorem dX9_isWhole_93 : decode cX9_isWhole 93 = .ok (.ifCond .eq 7, 3) := by decide +kernel
theorem dX9_isWhole_96 : decode cX9_isWhole 96 = .ok (.iconst 1, 1) := by decide +kernel
theorem dX9_isWhole_97 : decode cX9_isWhole 97 = .ok (.goto 4, 3) := by decide +kernel
theorem dX9_isWhole_100 : decode cX9_isWhole 100 = .ok (.iconst 0, 1) := by decide +kernel
theorem dX9_isWhole_101 : decode cX9_isWhole 101 = .ok (.ireturn, 1) := by decide +kernel
theorem dX9_isWhole_102 : decode cX9_isWhole 102 = .ok (.iconst 0, 1) := by decide +kernel
theorem dX9_isWhole_103 : decode cX9_isWhole 103 = .ok (.ireturn, 1) := by decide +kernel
theorem dX9_openHall_0 : decode cX9_openHall 0 = .ok (.aload_n 0, 1) := by decide +kernel
theorem dX9_openHall_1 : decode cX9_openHall 1 = .ok (.getfield 21, 3) := by decide +kernel
theorem dX9_openHall_4 : decode cX9_openHall 4 = .ok (.aload_n 0, 1) := by decide +kernel
theorem dX9_openHall_5 : decode cX9_openHall 5 = .ok (.getfield 25, 3) := by decide +kernel
theorem dX9_openHall_8 : decode cX9_openHall 8 = .ok (.invokevirtual 134, 3) := by decide +kernel
theorem dX9_openHall_11 : decode cX9_openHall 11 = .ok (.aload_n 0, 1) := by decide +kernel
theorem dX9_openHall_12 : decode cX9_openHall 12 = .ok (.getfield 63, 3) := by decide +kernel
theorem dX9_openHall_15 : decode cX9_openHall 15 = .ok (.aload_n 0, 1) := by decide +kernel
theorem dX9_openHall_16 : decode cX9_openHall 16 = .ok (.getfield 21, 3) := by decide +kernel
theorem dX9_openHall_19 : decode cX9_openHall 19 = .ok (.invokevirtual 137, 3) := by decide +kernel
theorem dX9_openHall_22 : decode cX9_openHall 22 = .ok (.aload_n 0, 1) := by decide +kernel
theorem dX9_openHall_23 : decode cX9_openHall 23 = .ok (.getfield 73, 3) := by decide +kernel
theorem dX9_openHall_26 : decode cX9_openHall 26 = .ok (.invokevirtual 140, 3) := by decide +kernel
theorem dX9_openHall_29 : decode cX9_openHall 29 = .ok (.aload_n 0, 1) := by decide +kernel
theorem dX9_openHall_30 : decode cX9_openHall 30 = .ok (.getfield 80, 3) := by decide +kernel
theorem dX9_openHall_33 : decode cX9_openHall 33 = .ok (.invokevirtual 143, 3) := by decide +kernel
theorem dX9_openHall_36 : decode cX9_openHall 36 = .ok (.aload_n 0, 1) := by decide +kernel
theorem dX9_openHall_37 : decode cX9_openHall 37 = .ok (.iconst 0, 1) := by decide +kernel
theorem dX9_openHall_38 : decode cX9_openHall 38 = .ok (.putfield 144, 3) := by decide +kernel
theorem dX9_openHall_41 : decode cX9_openHall 41 = .ok (.aload_n 0, 1) := by decide +kernel
theorem dX9_openHall_42 : decode cX9_openHall 42 = .ok (.getfield 10, 3) := by decide +kernel
theorem dX9_openHall_45 : decode cX9_openHall 45 = .ok (.iconst 0, 1) := by decide +kernel
theorem dX9_openHall_46 : decode cX9_openHall 46 = .ok (.putfield 98, 3) := by decide +kernel
theorem dX9_openHall_49 : decode cX9_openHall 49 = .ok (.aload_n 0, 1) := by decide +kernel
theorem dX9_openHall_50 : decode cX9_openHall 50 = .ok (.getfield 21, 3) := by decide +kernel
theorem dX9_openHall_53 : decode cX9_openHall 53 = .ok (.getfield 148, 3) := by decide +kernel
theorem dX9_openHall_56 : decode cX9_openHall 56 = .ok (.ireturn, 1) := by decide +kernel
theorem dX9_keepLaw_0 : decode cX9_keepLaw 0 = .ok (.aload_n 0, 1) := by decide +kernel
theorem dX9_keepLaw_1 : decode cX9_keepLaw 1 = .ok (.getfield 10, 3) := by decide +kernel
theorem dX9_keepLaw_4 : decode cX9_keepLaw 4 = .ok (.iconst 0, 1) := by decide +kernel
theorem dX9_keepLaw_5 : decode cX9_keepLaw 5 = .ok (.putfield 98, 3) := by decide +kernel
theorem dX9_keepLaw_8 : decode cX9_keepLaw 8 = .ok (.aload_n 0, 1) := by decide +kernel
theorem dX9_keepLaw_9 : decode cX9_keepLaw 9 = .ok (.dup, 1) := by decide +kernel
theorem dX9_keepLaw_10 : decode cX9_keepLaw 10 = .ok (.getfield 116, 3) := by decide +kernel
theorem dX9_keepLaw_13 : decode cX9_keepLaw 13 = .ok (.iconst 1, 1) := by decide +kernel
theorem dX9_keepLaw_14 : decode cX9_keepLaw 14 = .ok (.iadd, 1) := by decide +kernel
theorem dX9_keepLaw_15 : decode cX9_keepLaw 15 = .ok (.putfield 116, 3) := by decide +kernel
theorem dX9_keepLaw_18 : decode cX9_keepLaw 18 = .ok (.aload_n 0, 1) := by decide +kernel
theorem dX9_keepLaw_19 : decode cX9_keepLaw 19 = .ok (.getfield 116, 3) := by decide +kernel
theorem dX9_keepLaw_22 : decode cX9_keepLaw 22 = .ok (.iconst 1, 1) := by decide +kernel
theorem dX9_keepLaw_23 : decode cX9_keepLaw 23 = .ok (.isub, 1) := by decide +kernel
theorem dX9_keepLaw_24 : decode cX9_keepLaw 24 = .ok (.ireturn, 1) := by decide +kernel
theorem dX9_keepPlan_0 : decode cX9_keepPlan 0 = .ok (.aload_n 0, 1) := by decide +kernel
theorem dX9_keepPlan_1 : decode cX9_keepPlan 1 = .ok (.getfield 10, 3) := by decide +kernel
theorem dX9_keepPlan_4 : decode cX9_keepPlan 4 = .ok (.iconst 0, 1) := by decide +kernel
theorem dX9_keepPlan_5 : decode cX9_keepPlan 5 = .ok (.putfield 98, 3) := by decide +kernel
theorem dX9_keepPlan_8 : decode cX9_keepPlan 8 = .ok (.aload_n 0, 1) := by decide +kernel
theorem dX9_keepPlan_9 : decode cX9_keepPlan 9 = .ok (.dup, 1) := by decide +kernel
theorem dX9_keepPlan_10 : decode cX9_keepPlan 10 = .ok (.getfield 122, 3) := by decide +kernel
theorem dX9_keepPlan_13 : decode cX9_keepPlan 13 = .ok (.iconst 1, 1) := by decide +kernel
theorem dX9_keepPlan_14 : decode cX9_keepPlan 14 = .ok (.iadd, 1) := by decide +kernel
theorem dX9_keepPlan_15 : decode cX9_keepPlan 15 = .ok (.putfield 122, 3) := by decide +kernel
theorem dX9_keepPlan_18 : decode cX9_keepPlan 18 = .ok (.aload_n 0, 1) := by decide +kernel
theorem dX9_keepPlan_19 : decode cX9_keepPlan 19 = .ok (.getfield 122, 3) := by decide +kernel
theorem dX9_keepPlan_22 : decode cX9_keepPlan 22 = .ok (.iconst 1, 1) := by decide +kernel
theorem dX9_keepPlan_23 : decode cX9_keepPlan 23 = .ok (.isub, 1) := by decide +kernel
theorem dX9_keepPlan_24 : decode cX9_keepPlan 24 = .ok (.ireturn, 1) := by decide +kernel
theorem dX9_hall_0 : decode cX9_hall 0 = .ok (.aload_n 0, 1) := by decide +kernel
theorem dX9_hall_1 : decode cX9_hall 1 = .ok (.getfield 21, 3) := by decide +kernel
theorem dX9_hall_4 : decode cX9_hall 4 = .ok (.invokevirtual 151, 3) := by decide +kernel
theorem dX9_hall_7 : decode cX9_hall 7 = .ok (.ifCond .ne 5, 3) := by decide +kernel
theorem dX9_hall_10 : decode cX9_hall 10 = .ok (.iconst (-1), 1) := by decide +kernel
theorem dX9_hall_11 : decode cX9_hall 11 = .ok (.ireturn, 1) := by decide +kernel
theorem dX9_hall_12 : decode cX9_hall 12 = .ok (.iload_n 1, 1) := by decide +kernel
theorem dX9_hall_13 : decode cX9_hall 13 = .ok (.tableswitch 75 0 4 #[35, 43, 51, 59, 67], 35) := by decide +kernel
theorem dX9_hall_48 : decode cX9_hall 48 = .ok (.aload_n 0, 1) := by decide +kernel
theorem dX9_hall_49 : decode cX9_hall 49 = .ok (.getfield 21, 3) := by decide +kernel
theorem dX9_hall_52 : decode cX9_hall 52 = .ok (.invokevirtual 154, 3) := by decide +kernel
theorem dX9_hall_55 : decode cX9_hall 55 = .ok (.ireturn, 1) := by decide +kernel
theorem dX9_hall_56 : decode cX9_hall 56 = .ok (.aload_n 0, 1) := by decide +kernel
theorem dX9_hall_57 : decode cX9_hall 57 = .ok (.getfield 21, 3) := by decide +kernel
theorem dX9_hall_60 : decode cX9_hall 60 = .ok (.invokevirtual 157, 3) := by decide +kernel
theorem dX9_hall_63 : decode cX9_hall 63 = .ok (.ireturn, 1) := by decide +kernel
theorem dX9_hall_64 : decode cX9_hall 64 = .ok (.aload_n 0, 1) := by decide +kernel
theorem dX9_hall_65 : decode cX9_hall 65 = .ok (.getfield 63, 3) := by decide +kernel
theorem dX9_hall_68 : decode cX9_hall 68 = .ok (.getfield 160, 3) := by decide +kernel
theorem dX9_hall_71 : decode cX9_hall 71 = .ok (.ireturn, 1) := by decide +kernel
theorem dX9_hall_72 : decode cX9_hall 72 = .ok (.aload_n 0, 1) := by decide +kernel
theorem dX9_hall_73 : decode cX9_hall 73 = .ok (.getfield 21, 3) := by decide +kernel
theorem dX9_hall_76 : decode cX9_hall 76 = .ok (.invokevirtual 163, 3) := by decide +kernel
theorem dX9_hall_79 : decode cX9_hall 79 = .ok (.ireturn, 1) := by decide +kernel
theorem dX9_hall_80 : decode cX9_hall 80 = .ok (.aload_n 0, 1) := by decide +kernel
theorem dX9_hall_81 : decode cX9_hall 81 = .ok (.getfield 21, 3) := by decide +kernel
theorem dX9_hall_84 : decode cX9_hall 84 = .ok (.invokevirtual 166, 3) := by decide +kernel
theorem dX9_hall_87 : decode cX9_hall 87 = .ok (.ireturn, 1) := by decide +kernel
theorem dX9_hall_88 : decode cX9_hall 88 = .ok (.iconst (-1), 1) := by decide +kernel
theorem dX9_hall_89 : decode cX9_hall 89 = .ok (.ireturn, 1) := by decide +kernel
theorem dX9_page_0 : decode cX9_page 0 = .ok (.aload_n 0, 1) := by decide +kernel
theorem dX9_page_1 : decode cX9_page 1 = .ok (.getfield 21, 3) := by decide +kernel
theorem dX9_page_4 : decode cX9_page 4 = .ok (.iload_n 1, 1) := by decide +kernel
theorem dX9_page_5 : decode cX9_page 5 = .ok (.invokevirtual 169, 3) := by decide +kernel
theorem dX9_page_8 : decode cX9_page 8 = .ok (.ifCond .ne 5, 3) := by decide +kernel
theorem dX9_page_11 : decode cX9_page 11 = .ok (.iconst (-1), 1) := by decide +kernel
theorem dX9_page_12 : decode cX9_page 12 = .ok (.ireturn, 1) := by decide +kernel
theorem dX9_page_13 : decode cX9_page 13 = .ok (.iload_n 2, 1) := by decide +kernel
theorem dX9_page_14 : decode cX9_page 14 = .ok (.tableswitch 68 0 3 #[30, 39, 49, 58], 30) := by decide +kernel
theorem dX9_page_44 : decode cX9_page 44 = .ok (.aload_n 0, 1) := by decide +kernel
theorem dX9_page_45 : decode cX9_page 45 = .ok (.getfield 21, 3) := by decide +kernel
theorem dX9_page_48 : decode cX9_page 48 = .ok (.iload_n 1, 1) := by decide +kernel
theorem dX9_page_49 : decode cX9_page 49 = .ok (.invokevirtual 172, 3) := by decide +kernel
theorem dX9_page_52 : decode cX9_page 52 = .ok (.ireturn, 1) := by decide +kernel
theorem dX9_page_53 : decode cX9_page 53 = .ok (.aload_n 0, 1) := by decide +kernel
theorem dX9_page_54 : decode cX9_page 54 = .ok (.getfield 63, 3) := by decide +kernel
theorem dX9_page_57 : decode cX9_page 57 = .ok (.getfield 175, 3) := by decide +kernel
theorem dX9_page_60 : decode cX9_page 60 = .ok (.iload_n 1, 1) := by decide +kernel
theorem dX9_page_61 : decode cX9_page 61 = .ok (.iaload, 1) := by decide +kernel
theorem dX9_page_62 : decode cX9_page 62 = .ok (.ireturn, 1) := by decide +kernel
theorem dX9_page_63 : decode cX9_page 63 = .ok (.aload_n 0, 1) := by decide +kernel
theorem dX9_page_64 : decode cX9_page 64 = .ok (.getfield 21, 3) := by decide +kernel
theorem dX9_page_67 : decode cX9_page 67 = .ok (.iload_n 1, 1) := by decide +kernel
theorem dX9_page_68 : decode cX9_page 68 = .ok (.invokevirtual 179, 3) := by decide +kernel
theorem dX9_page_71 : decode cX9_page 71 = .ok (.ireturn, 1) := by decide +kernel
theorem dX9_page_72 : decode cX9_page 72 = .ok (.aload_n 0, 1) := by decide +kernel
theorem dX9_page_73 : decode cX9_page 73 = .ok (.getfield 63, 3) := by decide +kernel
theorem dX9_page_76 : decode cX9_page 76 = .ok (.getfield 182, 3) := by decide +kernel
theorem dX9_page_79 : decode cX9_page 79 = .ok (.iload_n 1, 1) := by decide +kernel
theorem dX9_page_80 : decode cX9_page 80 = .ok (.iaload, 1) := by decide +kernel
theorem dX9_page_81 : decode cX9_page 81 = .ok (.ireturn, 1) := by decide +kernel
theorem dX9_page_82 : decode cX9_page 82 = .ok (.iconst (-1), 1) := by decide +kernel
theorem dX9_page_83 : decode cX9_page 83 = .ok (.ireturn, 1) := by decide +kernel
theorem dX9_reader_0 : decode cX9_reader 0 = .ok (.aload_n 0, 1) := by decide +kernel
theorem dX9_reader_1 : decode cX9_reader 1 = .ok (.getfield 21, 3) := by decide +kernel
theorem dX9_reader_4 : decode cX9_reader 4 = .ok (.iload_n 1, 1) := by decide +kernel
theorem dX9_reader_5 : decode cX9_reader 5 = .ok (.invokevirtual 185, 3) := by decide +kernel
theorem dX9_reader_8 : decode cX9_reader 8 = .ok (.ifCond .eq 12, 3) := by decide +kernel
theorem dX9_reader_11 : decode cX9_reader 11 = .ok (.iload_n 2, 1) := by decide +kernel
theorem dX9_reader_12 : decode cX9_reader 12 = .ok (.ifCond .lt 8, 3) := by decide +kernel
theorem dX9_reader_15 : decode cX9_reader 15 = .ok (.iload_n 2, 1) := by decide +kernel
theorem dX9_reader_16 : decode cX9_reader 16 = .ok (.iconst 5, 1) := by decide +kernel
theorem dX9_reader_17 : decode cX9_reader 17 = .ok (.if_icmp .le 13, 3) := by decide +kernel
theorem dX9_reader_20 : decode cX9_reader 20 = .ok (.new 188, 3) := by decide +kernel
theorem dX9_reader_23 : decode cX9_reader 23 = .ok (.dup, 1) := by decide +kernel
theorem dX9_reader_24 : decode cX9_reader 24 = .ok (.ldc 190, 2) := by decide +kernel
theorem dX9_reader_26 : decode cX9_reader 26 = .ok (.invokespecial 192, 3) := by decide +kernel
theorem dX9_reader_29 : decode cX9_reader 29 = .ok (.athrow, 1) := by decide +kernel
theorem dX9_reader_30 : decode cX9_reader 30 = .ok (.iload_n 2, 1) := by decide +kernel
theorem dX9_reader_31 : decode cX9_reader 31 = .ok (.tableswitch 87 0 4 #[33, 43, 52, 61, 70], 33) := by decide +kernel
theorem dX9_reader_64 : decode cX9_reader 64 = .ok (.aload_n 0, 1) := by decide +kernel
theorem dX9_reader_65 : decode cX9_reader 65 = .ok (.getfield 63, 3) := by decide +kernel
theorem dX9_reader_68 : decode cX9_reader 68 = .ok (.getfield 195, 3) := by decide +kernel
theorem dX9_reader_71 : decode cX9_reader 71 = .ok (.iload_n 1, 1) := by decide +kernel
theorem dX9_reader_72 : decode cX9_reader 72 = .ok (.iaload, 1) := by decide +kernel
theorem dX9_reader_73 : decode cX9_reader 73 = .ok (.ireturn, 1) := by decide +kernel
theorem dX9_reader_74 : decode cX9_reader 74 = .ok (.aload_n 0, 1) := by decide +kernel
theorem dX9_reader_75 : decode cX9_reader 75 = .ok (.getfield 21, 3) := by decide +kernel
theorem dX9_reader_78 : decode cX9_reader 78 = .ok (.iload_n 1, 1) := by decide +kernel
theorem dX9_reader_79 : decode cX9_reader 79 = .ok (.invokevirtual 198, 3) := by decide +kernel
theorem dX9_reader_82 : decode cX9_reader 82 = .ok (.ireturn, 1) := by decide +kernel
theorem dX9_reader_83 : decode cX9_reader 83 = .ok (.aload_n 0, 1) := by decide +kernel
theorem dX9_reader_84 : decode cX9_reader 84 = .ok (.getfield 21, 3) := by decide +kernel
theorem dX9_reader_87 : decode cX9_reader 87 = .ok (.iload_n 1, 1) := by decide +kernel
theorem dX9_reader_88 : decode cX9_reader 88 = .ok (.invokevirtual 201, 3) := by decide +kernel
theorem dX9_reader_91 : decode cX9_reader 91 = .ok (.ireturn, 1) := by decide +kernel
theorem dX9_reader_92 : decode cX9_reader 92 = .ok (.aload_n 0, 1) := by decide +kernel
theorem dX9_reader_93 : decode cX9_reader 93 = .ok (.getfield 21, 3) := by decide +kernel
theorem dX9_reader_96 : decode cX9_reader 96 = .ok (.iload_n 1, 1) := by decide +kernel
theorem dX9_reader_97 : decode cX9_reader 97 = .ok (.invokevirtual 204, 3) := by decide +kernel
theorem dX9_reader_100 : decode cX9_reader 100 = .ok (.ireturn, 1) := by decide +kernel
theorem dX9_reader_101 : decode cX9_reader 101 = .ok (.aload_n 0, 1) := by decide +kernel
theorem dX9_reader_102 : decode cX9_reader 102 = .ok (.getfield 63, 3) := by decide +kernel
theorem dX9_reader_105 : decode cX9_reader 105 = .ok (.iload_n 1, 1) := by decide +kernel
theorem dX9_reader_106 : decode cX9_reader 106 = .ok (.invokevirtual 207, 3) := by decide +kernel
theorem dX9_reader_109 : decode cX9_reader 109 = .ok (.ifCond .eq 7, 3) := by decide +kernel
theorem dX9_reader_112 : decode cX9_reader 112 = .ok (.iconst 1, 1) := by decide +kernel
theorem dX9_reader_113 : decode cX9_reader 113 = .ok (.goto 4, 3) := by decide +kernel
theorem dX9_reader_116 : decode cX9_reader 116 = .ok (.iconst 0, 1) := by decide +kernel
theorem dX9_reader_117 : decode cX9_reader 117 = .ok (.ireturn, 1) := by decide +kernel
theorem dX9_reader_118 : decode cX9_reader 118 = .ok (.aload_n 0, 1) := by decide +kernel
theorem dX9_reader_119 : decode cX9_reader 119 = .ok (.getfield 63, 3) := by decide +kernel
theorem dX9_reader_122 : decode cX9_reader 122 = .ok (.iload_n 1, 1) := by decide +kernel
theorem dX9_reader_123 : decode cX9_reader 123 = .ok (.invokevirtual 210, 3) := by decide +kernel
theorem dX9_reader_126 : decode cX9_reader 126 = .ok (.ireturn, 1) := by decide +kernel
theorem dX9_memory_0 : decode cX9_memory 0 = .ok (.aload_n 0, 1) := by decide +kernel
theorem dX9_memory_1 : decode cX9_memory 1 = .ok (.getfield 21, 3) := by decide +kernel
theorem dX9_memory_4 : decode cX9_memory 4 = .ok (.iload_n 1, 1) := by decide +kernel
theorem dX9_memory_5 : decode cX9_memory 5 = .ok (.invokevirtual 185, 3) := by decide +kernel
theorem dX9_memory_8 : decode cX9_memory 8 = .ok (.ifCond .eq 26, 3) := by decide +kernel
theorem dX9_memory_11 : decode cX9_memory 11 = .ok (.aload_n 0, 1) := by decide +kernel
theorem dX9_memory_12 : decode cX9_memory 12 = .ok (.getfield 21, 3) := by decide +kernel
theorem dX9_memory_15 : decode cX9_memory 15 = .ok (.iload_n 2, 1) := by decide +kernel
theorem dX9_memory_16 : decode cX9_memory 16 = .ok (.invokevirtual 169, 3) := by decide +kernel
theorem dX9_memory_19 : decode cX9_memory 19 = .ok (.ifCond .eq 15, 3) := by decide +kernel
theorem dX9_memory_22 : decode cX9_memory 22 = .ok (.aload_n 0, 1) := by decide +kernel
theorem dX9_memory_23 : decode cX9_memory 23 = .ok (.getfield 63, 3) := by decide +kernel
theorem dX9_memory_26 : decode cX9_memory 26 = .ok (.iload_n 1, 1) := by decide +kernel
theorem dX9_memory_27 : decode cX9_memory 27 = .ok (.iload_n 2, 1) := by decide +kernel
theorem dX9_memory_28 : decode cX9_memory 28 = .ok (.invokevirtual 213, 3) := by decide +kernel
theorem dX9_memory_31 : decode cX9_memory 31 = .ok (.goto 4, 3) := by decide +kernel
theorem dX9_memory_34 : decode cX9_memory 34 = .ok (.iconst (-1), 1) := by decide +kernel
theorem dX9_memory_35 : decode cX9_memory 35 = .ok (.ireturn, 1) := by decide +kernel
theorem dX9_law_0 : decode cX9_law 0 = .ok (.iload_n 1, 1) := by decide +kernel
theorem dX9_law_1 : decode cX9_law 1 = .ok (.iconst (-1), 1) := by decide +kernel
theorem dX9_law_2 : decode cX9_law 2 = .ok (.if_icmp .lt 20, 3) := by decide +kernel
theorem dX9_law_5 : decode cX9_law 5 = .ok (.iload_n 1, 1) := by decide +kernel
theorem dX9_law_6 : decode cX9_law 6 = .ok (.aload_n 0, 1) := by decide +kernel
theorem dX9_law_7 : decode cX9_law 7 = .ok (.getfield 116, 3) := by decide +kernel
theorem dX9_law_10 : decode cX9_law 10 = .ok (.if_icmp .ge 12, 3) := by decide +kernel
theorem dX9_law_13 : decode cX9_law 13 = .ok (.iload_n 1, 1) := by decide +kernel
theorem dX9_law_14 : decode cX9_law 14 = .ok (.aload_n 0, 1) := by decide +kernel
theorem dX9_law_15 : decode cX9_law 15 = .ok (.getfield 48, 3) := by decide +kernel
theorem dX9_law_18 : decode cX9_law 18 = .ok (.arraylength, 1) := by decide +kernel
theorem dX9_law_19 : decode cX9_law 19 = .ok (.if_icmp .lt 5, 3) := by decide +kernel
theorem dX9_law_22 : decode cX9_law 22 = .ok (.iconst 0, 1) := by decide +kernel
theorem dX9_law_23 : decode cX9_law 23 = .ok (.ireturn, 1) := by decide +kernel
theorem dX9_law_24 : decode cX9_law 24 = .ok (.aload_n 0, 1) := by decide +kernel
theorem dX9_law_25 : decode cX9_law 25 = .ok (.iload_n 1, 1) := by decide +kernel
theorem dX9_law_26 : decode cX9_law 26 = .ok (.putfield 90, 3) := by decide +kernel
theorem dX9_law_29 : decode cX9_law 29 = .ok (.aload_n 0, 1) := by decide +kernel
theorem dX9_law_30 : decode cX9_law 30 = .ok (.getfield 33, 3) := by decide +kernel
theorem dX9_law_33 : decode cX9_law 33 = .ok (.iload_n 1, 1) := by decide +kernel
theorem dX9_law_34 : decode cX9_law 34 = .ok (.ifCond .ge 7, 3) := by decide +kernel
theorem dX9_law_37 : decode cX9_law 37 = .ok (.aconst_null, 1) := by decide +kernel
theorem dX9_law_38 : decode cX9_law 38 = .ok (.goto 9, 3) := by decide +kernel
theorem dX9_law_41 : decode cX9_law 41 = .ok (.aload_n 0, 1) := by decide +kernel
theorem dX9_law_42 : decode cX9_law 42 = .ok (.getfield 48, 3) := by decide +kernel
theorem dX9_law_45 : decode cX9_law 45 = .ok (.iload_n 1, 1) := by decide +kernel
theorem dX9_law_46 : decode cX9_law 46 = .ok (.aaload, 1) := by decide +kernel
theorem dX9_law_47 : decode cX9_law 47 = .ok (.putfield 217, 3) := by decide +kernel
theorem dX9_law_50 : decode cX9_law 50 = .ok (.iconst 1, 1) := by decide +kernel
theorem dX9_law_51 : decode cX9_law 51 = .ok (.ireturn, 1) := by decide +kernel
theorem dX9_slips_0 : decode cX9_slips 0 = .ok (.iload_n 1, 1) := by decide +kernel
theorem dX9_slips_1 : decode cX9_slips 1 = .ok (.ifCond .lt 17, 3) := by decide +kernel
theorem dX9_slips_4 : decode cX9_slips 4 = .ok (.iload_n 1, 1) := by decide +kernel
theorem dX9_slips_5 : decode cX9_slips 5 = .ok (.bipush 99, 2) := by decide +kernel
theorem dX9_slips_7 : decode cX9_slips 7 = .ok (.if_icmp .gt 11, 3) := by decide +kernel
theorem dX9_slips_10 : decode cX9_slips 10 = .ok (.iload_n 1, 1) := by decide +kernel
theorem dX9_slips_11 : decode cX9_slips 11 = .ok (.aload_n 0, 1) := by decide +kernel
theorem dX9_slips_12 : decode cX9_slips 12 = .ok (.getfield 221, 3) := by decide +kernel
theorem dX9_slips_15 : decode cX9_slips 15 = .ok (.if_icmp .ne 5, 3) := by decide +kernel
theorem dX9_slips_18 : decode cX9_slips 18 = .ok (.iconst 0, 1) := by decide +kernel
theorem dX9_slips_19 : decode cX9_slips 19 = .ok (.ireturn, 1) := by decide +kernel
theorem dX9_slips_20 : decode cX9_slips 20 = .ok (.aload_n 0, 1) := by decide +kernel
theorem dX9_slips_21 : decode cX9_slips 21 = .ok (.iload_n 1, 1) := by decide +kernel
theorem dX9_slips_22 : decode cX9_slips 22 = .ok (.putfield 221, 3) := by decide +kernel
theorem dX9_slips_25 : decode cX9_slips 25 = .ok (.iconst 1, 1) := by decide +kernel
theorem dX9_slips_26 : decode cX9_slips 26 = .ok (.ireturn, 1) := by decide +kernel
theorem dX9_melt_0 : decode cX9_melt 0 = .ok (.aload_n 0, 1) := by decide +kernel
theorem dX9_melt_1 : decode cX9_melt 1 = .ok (.getfield 21, 3) := by decide +kernel
theorem dX9_melt_4 : decode cX9_melt 4 = .ok (.iload_n 1, 1) := by decide +kernel
theorem dX9_melt_5 : decode cX9_melt 5 = .ok (.invokevirtual 185, 3) := by decide +kernel
theorem dX9_melt_8 : decode cX9_melt 8 = .ok (.ifCond .eq 22, 3) := by decide +kernel
theorem dX9_melt_11 : decode cX9_melt 11 = .ok (.aload_n 0, 1) := by decide +kernel
theorem dX9_melt_12 : decode cX9_melt 12 = .ok (.getfield 21, 3) := by decide +kernel
theorem dX9_melt_15 : decode cX9_melt 15 = .ok (.iload_n 3, 1) := by decide +kernel
theorem dX9_melt_16 : decode cX9_melt 16 = .ok (.invokevirtual 224, 3) := by decide +kernel
theorem dX9_melt_19 : decode cX9_melt 19 = .ok (.ifCond .eq 11, 3) := by decide +kernel
theorem dX9_melt_22 : decode cX9_melt 22 = .ok (.aload_n 0, 1) := by decide +kernel
theorem dX9_melt_23 : decode cX9_melt 23 = .ok (.iload_n 2, 1) := by decide +kernel
theorem dX9_melt_24 : decode cX9_melt 24 = .ok (.invokevirtual 227, 3) := by decide +kernel
theorem dX9_melt_27 : decode cX9_melt 27 = .ok (.ifCond .ne 5, 3) := by decide +kernel
theorem dX9_melt_30 : decode cX9_melt 30 = .ok (.iconst (-1), 1) := by decide +kernel
theorem dX9_melt_31 : decode cX9_melt 31 = .ok (.ireturn, 1) := by decide +kernel
theorem dX9_melt_32 : decode cX9_melt 32 = .ok (.aload_n 0, 1) := by decide +kernel
theorem dX9_melt_33 : decode cX9_melt 33 = .ok (.getfield 33, 3) := by decide +kernel
theorem dX9_melt_36 : decode cX9_melt 36 = .ok (.aload_n 0, 1) := by decide +kernel
theorem dX9_melt_37 : decode cX9_melt 37 = .ok (.getfield 63, 3) := by decide +kernel
theorem dX9_melt_40 : decode cX9_melt 40 = .ok (.iload_n 1, 1) := by decide +kernel
theorem dX9_melt_41 : decode cX9_melt 41 = .ok (.iload_n 2, 1) := by decide +kernel
theorem dX9_melt_42 : decode cX9_melt 42 = .ok (.iload_n 3, 1) := by decide +kernel
theorem dX9_melt_43 : decode cX9_melt 43 = .ok (.aload_n 0, 1) := by decide +kernel
theorem dX9_melt_44 : decode cX9_melt 44 = .ok (.getfield 33, 3) := by decide +kernel
theorem dX9_melt_47 : decode cX9_melt 47 = .ok (.aload_n 0, 1) := by decide +kernel
theorem dX9_melt_48 : decode cX9_melt 48 = .ok (.getfield 63, 3) := by decide +kernel
theorem dX9_melt_51 : decode cX9_melt 51 = .ok (.iload_n 1, 1) := by decide +kernel
theorem dX9_melt_52 : decode cX9_melt 52 = .ok (.iload_n 3, 1) := by decide +kernel
theorem dX9_melt_53 : decode cX9_melt 53 = .ok (.invokevirtual 230, 3) := by decide +kernel
theorem dX9_melt_56 : decode cX9_melt 56 = .ok (.invokevirtual 234, 3) := by decide +kernel
theorem dX9_melt_59 : decode cX9_melt 59 = .ok (.ireturn, 1) := by decide +kernel
theorem dX9_isThere_0 : decode cX9_isThere 0 = .ok (.aload_n 0, 1) := by decide +kernel
theorem dX9_isThere_1 : decode cX9_isThere 1 = .ok (.getfield 21, 3) := by decide +kernel
theorem dX9_isThere_4 : decode cX9_isThere 4 = .ok (.iload_n 1, 1) := by decide +kernel
theorem dX9_isThere_5 : decode cX9_isThere 5 = .ok (.invokevirtual 169, 3) := by decide +kernel
theorem dX9_isThere_8 : decode cX9_isThere 8 = .ok (.ifCond .eq 19, 3) := by decide +kernel
theorem dX9_isThere_11 : decode cX9_isThere 11 = .ok (.aload_n 0, 1) := by decide +kernel
theorem dX9_isThere_12 : decode cX9_isThere 12 = .ok (.getfield 63, 3) := by decide +kernel
theorem dX9_isThere_15 : decode cX9_isThere 15 = .ok (.getfield 175, 3) := by decide +kernel
theorem dX9_isThere_18 : decode cX9_isThere 18 = .ok (.iload_n 1, 1) := by decide +kernel
theorem dX9_isThere_19 : decode cX9_isThere 19 = .ok (.iaload, 1) := by decide +kernel
theorem dX9_isThere_20 : decode cX9_isThere 20 = .ok (.ifCond .le 7, 3) := by decide +kernel
theorem dX9_isThere_23 : decode cX9_isThere 23 = .ok (.iconst 1, 1) := by decide +kernel
theorem dX9_isThere_24 : decode cX9_isThere 24 = .ok (.goto 4, 3) := by decide +kernel
theorem dX9_isThere_27 : decode cX9_isThere 27 = .ok (.iconst 0, 1) := by decide +kernel
theorem dX9_isThere_28 : decode cX9_isThere 28 = .ok (.ireturn, 1) := by decide +kernel
theorem dX9_act_0 : decode cX9_act 0 = .ok (.aload_n 0, 1) := by decide +kernel
theorem dX9_act_1 : decode cX9_act 1 = .ok (.getfield 73, 3) := by decide +kernel
theorem dX9_act_4 : decode cX9_act 4 = .ok (.aload_n 0, 1) := by decide +kernel
theorem dX9_act_5 : decode cX9_act 5 = .ok (.getfield 63, 3) := by decide +kernel
theorem dX9_act_8 : decode cX9_act 8 = .ok (.invokevirtual 238, 3) := by decide +kernel
theorem dX9_act_11 : decode cX9_act 11 = .ok (.aload_n 0, 1) := by decide +kernel
theorem dX9_act_12 : decode cX9_act 12 = .ok (.getfield 33, 3) := by decide +kernel
theorem dX9_act_15 : decode cX9_act 15 = .ok (.aload_n 0, 1) := by decide +kernel
theorem dX9_act_16 : decode cX9_act 16 = .ok (.getfield 63, 3) := by decide +kernel
theorem dX9_act_19 : decode cX9_act 19 = .ok (.iload_n 1, 1) := by decide +kernel
theorem dX9_act_20 : decode cX9_act 20 = .ok (.iload_n 2, 1) := by decide +kernel
theorem dX9_act_21 : decode cX9_act 21 = .ok (.iload_n 3, 1) := by decide +kernel
theorem dX9_act_22 : decode cX9_act 22 = .ok (.invokevirtual 242, 3) := by decide +kernel
theorem dX9_act_25 : decode cX9_act 25 = .ok (.istore 4, 2) := by decide +kernel
theorem dX9_act_27 : decode cX9_act 27 = .ok (.aload_n 0, 1) := by decide +kernel
theorem dX9_act_28 : decode cX9_act 28 = .ok (.getfield 80, 3) := by decide +kernel
theorem dX9_act_31 : decode cX9_act 31 = .ok (.iload_n 1, 1) := by decide +kernel
theorem dX9_act_32 : decode cX9_act 32 = .ok (.iload_n 2, 1) := by decide +kernel
theorem dX9_act_33 : decode cX9_act 33 = .ok (.iload_n 3, 1) := by decide +kernel
theorem dX9_act_34 : decode cX9_act 34 = .ok (.iload 4, 2) := by decide +kernel
theorem dX9_act_36 : decode cX9_act 36 = .ok (.invokevirtual 246, 3) := by decide +kernel
theorem dX9_act_39 : decode cX9_act 39 = .ok (.return_, 1) := by decide +kernel
theorem dX9_read_0 : decode cX9_read 0 = .ok (.aload_n 0, 1) := by decide +kernel
theorem dX9_read_1 : decode cX9_read 1 = .ok (.getfield 33, 3) := by decide +kernel
theorem dX9_read_4 : decode cX9_read 4 = .ok (.aload_n 0, 1) := by decide +kernel
theorem dX9_read_5 : decode cX9_read 5 = .ok (.getfield 63, 3) := by decide +kernel
theorem dX9_read_8 : decode cX9_read 8 = .ok (.iconst 0, 1) := by decide +kernel
theorem dX9_read_9 : decode cX9_read 9 = .ok (.iload_n 1, 1) := by decide +kernel
theorem dX9_read_10 : decode cX9_read 10 = .ok (.iload_n 2, 1) := by decide +kernel
theorem dX9_read_11 : decode cX9_read 11 = .ok (.invokevirtual 250, 3) := by decide +kernel
theorem dX9_read_14 : decode cX9_read 14 = .ok (.ifCond .eq 14, 3) := by decide +kernel
theorem dX9_read_17 : decode cX9_read 17 = .ok (.aload_n 0, 1) := by decide +kernel
theorem dX9_read_18 : decode cX9_read 18 = .ok (.getfield 21, 3) := by decide +kernel
theorem dX9_read_21 : decode cX9_read 21 = .ok (.iload_n 2, 1) := by decide +kernel
theorem dX9_read_22 : decode cX9_read 22 = .ok (.invokevirtual 169, 3) := by decide +kernel
theorem dX9_read_25 : decode cX9_read 25 = .ok (.ifCond .ne 5, 3) := by decide +kernel
theorem dX9_read_28 : decode cX9_read 28 = .ok (.iconst (-1), 1) := by decide +kernel
theorem dX9_read_29 : decode cX9_read 29 = .ok (.ireturn, 1) := by decide +kernel
theorem dX9_read_30 : decode cX9_read 30 = .ok (.aload_n 0, 1) := by decide +kernel
theorem dX9_read_31 : decode cX9_read 31 = .ok (.iconst 0, 1) := by decide +kernel
theorem dX9_read_32 : decode cX9_read 32 = .ok (.iload_n 1, 1) := by decide +kernel
theorem dX9_read_33 : decode cX9_read 33 = .ok (.iload_n 2, 1) := by decide +kernel
theorem dX9_read_34 : decode cX9_read 34 = .ok (.invokevirtual 254, 3) := by decide +kernel
theorem dX9_read_37 : decode cX9_read 37 = .ok (.aload_n 0, 1) := by decide +kernel
theorem dX9_read_38 : decode cX9_read 38 = .ok (.getfield 63, 3) := by decide +kernel
theorem dX9_read_41 : decode cX9_read 41 = .ok (.getfield 182, 3) := by decide +kernel
theorem dX9_read_44 : decode cX9_read 44 = .ok (.iload_n 2, 1) := by decide +kernel
theorem dX9_read_45 : decode cX9_read 45 = .ok (.iaload, 1) := by decide +kernel
theorem dX9_read_46 : decode cX9_read 46 = .ok (.ireturn, 1) := by decide +kernel
theorem dX9_recut_0 : decode cX9_recut 0 = .ok (.aload_n 0, 1) := by decide +kernel
theorem dX9_recut_1 : decode cX9_recut 1 = .ok (.getfield 33, 3) := by decide +kernel
theorem dX9_recut_4 : decode cX9_recut 4 = .ok (.aload_n 0, 1) := by decide +kernel
theorem dX9_recut_5 : decode cX9_recut 5 = .ok (.getfield 63, 3) := by decide +kernel
theorem dX9_recut_8 : decode cX9_recut 8 = .ok (.iconst 1, 1) := by decide +kernel
theorem dX9_recut_9 : decode cX9_recut 9 = .ok (.iload_n 1, 1) := by decide +kernel
theorem dX9_recut_10 : decode cX9_recut 10 = .ok (.iload_n 2, 1) := by decide +kernel
theorem dX9_recut_11 : decode cX9_recut 11 = .ok (.invokevirtual 250, 3) := by decide +kernel
theorem dX9_recut_14 : decode cX9_recut 14 = .ok (.ifCond .eq 14, 3) := by decide +kernel
theorem dX9_recut_17 : decode cX9_recut 17 = .ok (.aload_n 0, 1) := by decide +kernel
theorem dX9_recut_18 : decode cX9_recut 18 = .ok (.getfield 21, 3) := by decide +kernel
theorem dX9_recut_21 : decode cX9_recut 21 = .ok (.iload_n 2, 1) := by decide +kernel
theorem dX9_recut_22 : decode cX9_recut 22 = .ok (.invokevirtual 169, 3) := by decide +kernel
theorem dX9_recut_25 : decode cX9_recut 25 = .ok (.ifCond .ne 5, 3) := by decide +kernel
theorem dX9_recut_28 : decode cX9_recut 28 = .ok (.iconst (-1), 1) := by decide +kernel
theorem dX9_recut_29 : decode cX9_recut 29 = .ok (.ireturn, 1) := by decide +kernel
theorem dX9_recut_30 : decode cX9_recut 30 = .ok (.aload_n 0, 1) := by decide +kernel
theorem dX9_recut_31 : decode cX9_recut 31 = .ok (.iconst 1, 1) := by decide +kernel
theorem dX9_recut_32 : decode cX9_recut 32 = .ok (.iload_n 1, 1) := by decide +kernel
theorem dX9_recut_33 : decode cX9_recut 33 = .ok (.iload_n 2, 1) := by decide +kernel
theorem dX9_recut_34 : decode cX9_recut 34 = .ok (.invokevirtual 254, 3) := by decide +kernel
theorem dX9_recut_37 : decode cX9_recut 37 = .ok (.aload_n 0, 1) := by decide +kernel
theorem dX9_recut_38 : decode cX9_recut 38 = .ok (.getfield 63, 3) := by decide +kernel
theorem dX9_recut_41 : decode cX9_recut 41 = .ok (.getfield 182, 3) := by decide +kernel
theorem dX9_recut_44 : decode cX9_recut 44 = .ok (.iload_n 2, 1) := by decide +kernel
theorem dX9_recut_45 : decode cX9_recut 45 = .ok (.iaload, 1) := by decide +kernel
theorem dX9_recut_46 : decode cX9_recut 46 = .ok (.ireturn, 1) := by decide +kernel
theorem dX9_go_0 : decode cX9_go 0 = .ok (.aload_n 0, 1) := by decide +kernel
theorem dX9_go_1 : decode cX9_go 1 = .ok (.getfield 33, 3) := by decide +kernel
theorem dX9_go_4 : decode cX9_go 4 = .ok (.aload_n 0, 1) := by decide +kernel
theorem dX9_go_5 : decode cX9_go 5 = .ok (.getfield 63, 3) := by decide +kernel
theorem dX9_go_8 : decode cX9_go 8 = .ok (.iconst 2, 1) := by decide +kernel
theorem dX9_go_9 : decode cX9_go 9 = .ok (.iload_n 1, 1) := by decide +kernel
theorem dX9_go_10 : decode cX9_go 10 = .ok (.iload_n 2, 1) := by decide +kernel
theorem dX9_go_11 : decode cX9_go 11 = .ok (.invokevirtual 250, 3) := by decide +kernel
theorem dX9_go_14 : decode cX9_go 14 = .ok (.ifCond .eq 14, 3) := by decide +kernel
theorem dX9_go_17 : decode cX9_go 17 = .ok (.aload_n 0, 1) := by decide +kernel
theorem dX9_go_18 : decode cX9_go 18 = .ok (.getfield 21, 3) := by decide +kernel
theorem dX9_go_21 : decode cX9_go 21 = .ok (.iload_n 1, 1) := by decide +kernel
theorem dX9_go_22 : decode cX9_go 22 = .ok (.invokevirtual 185, 3) := by decide +kernel
theorem dX9_go_25 : decode cX9_go 25 = .ok (.ifCond .ne 5, 3) := by decide +kernel
theorem dX9_go_28 : decode cX9_go 28 = .ok (.iconst (-1), 1) := by decide +kernel
theorem dX9_go_29 : decode cX9_go 29 = .ok (.ireturn, 1) := by decide +kernel
theorem dX9_go_30 : decode cX9_go 30 = .ok (.aload_n 0, 1) := by decide +kernel
theorem dX9_go_31 : decode cX9_go 31 = .ok (.getfield 21, 3) := by decide +kernel
theorem dX9_go_34 : decode cX9_go 34 = .ok (.aload_n 0, 1) := by decide +kernel
theorem dX9_go_35 : decode cX9_go 35 = .ok (.getfield 63, 3) := by decide +kernel
theorem dX9_go_38 : decode cX9_go 38 = .ok (.getfield 195, 3) := by decide +kernel
theorem dX9_go_41 : decode cX9_go 41 = .ok (.iload_n 1, 1) := by decide +kernel
theorem dX9_go_42 : decode cX9_go 42 = .ok (.iaload, 1) := by decide +kernel
theorem dX9_go_43 : decode cX9_go 43 = .ok (.iload_n 2, 1) := by decide +kernel
theorem dX9_go_44 : decode cX9_go 44 = .ok (.invokevirtual 258, 3) := by decide +kernel
theorem dX9_go_47 : decode cX9_go 47 = .ok (.istore_n 3, 1) := by decide +kernel
theorem dX9_go_48 : decode cX9_go 48 = .ok (.aload_n 0, 1) := by decide +kernel
theorem dX9_go_49 : decode cX9_go 49 = .ok (.iconst 2, 1) := by decide +kernel
theorem dX9_go_50 : decode cX9_go 50 = .ok (.iload_n 1, 1) := by decide +kernel
theorem dX9_go_51 : decode cX9_go 51 = .ok (.iload_n 2, 1) := by decide +kernel
theorem dX9_go_52 : decode cX9_go 52 = .ok (.invokevirtual 254, 3) := by decide +kernel
theorem dX9_go_55 : decode cX9_go 55 = .ok (.iload_n 3, 1) := by decide +kernel
theorem dX9_go_56 : decode cX9_go 56 = .ok (.ireturn, 1) := by decide +kernel
theorem dX9_tell_0 : decode cX9_tell 0 = .ok (.aload_n 0, 1) := by decide +kernel
theorem dX9_tell_1 : decode cX9_tell 1 = .ok (.getfield 33, 3) := by decide +kernel
theorem dX9_tell_4 : decode cX9_tell 4 = .ok (.aload_n 0, 1) := by decide +kernel
theorem dX9_tell_5 : decode cX9_tell 5 = .ok (.getfield 63, 3) := by decide +kernel
theorem dX9_tell_8 : decode cX9_tell 8 = .ok (.iconst 3, 1) := by decide +kernel
theorem dX9_tell_9 : decode cX9_tell 9 = .ok (.iload_n 1, 1) := by decide +kernel
theorem dX9_tell_10 : decode cX9_tell 10 = .ok (.iload_n 2, 1) := by decide +kernel
theorem dX9_tell_11 : decode cX9_tell 11 = .ok (.invokevirtual 250, 3) := by decide +kernel
theorem dX9_tell_14 : decode cX9_tell 14 = .ok (.ifCond .ne 5, 3) := by decide +kernel
theorem dX9_tell_17 : decode cX9_tell 17 = .ok (.iconst (-1), 1) := by decide +kernel
theorem dX9_tell_18 : decode cX9_tell 18 = .ok (.ireturn, 1) := by decide +kernel
theorem dX9_tell_19 : decode cX9_tell 19 = .ok (.aload_n 0, 1) := by decide +kernel
theorem dX9_tell_20 : decode cX9_tell 20 = .ok (.getfield 63, 3) := by decide +kernel
theorem dX9_tell_23 : decode cX9_tell 23 = .ok (.iload_n 1, 1) := by decide +kernel
theorem dX9_tell_24 : decode cX9_tell 24 = .ok (.invokevirtual 210, 3) := by decide +kernel
theorem dX9_tell_27 : decode cX9_tell 27 = .ok (.aload_n 0, 1) := by decide +kernel
theorem dX9_tell_28 : decode cX9_tell 28 = .ok (.getfield 63, 3) := by decide +kernel
theorem dX9_tell_31 : decode cX9_tell 31 = .ok (.iload_n 2, 1) := by decide +kernel
theorem dX9_tell_32 : decode cX9_tell 32 = .ok (.invokevirtual 210, 3) := by decide +kernel
theorem dX9_tell_35 : decode cX9_tell 35 = .ok (.iconst (-1), 1) := by decide +kernel
theorem dX9_tell_36 : decode cX9_tell 36 = .ok (.ixor, 1) := by decide +kernel
theorem dX9_tell_37 : decode cX9_tell 37 = .ok (.iand, 1) := by decide +kernel
theorem dX9_tell_38 : decode cX9_tell 38 = .ok (.istore_n 3, 1) := by decide +kernel
theorem dX9_tell_39 : decode cX9_tell 39 = .ok (.aload_n 0, 1) := by decide +kernel
theorem dX9_tell_40 : decode cX9_tell 40 = .ok (.iconst 3, 1) := by decide +kernel
theorem dX9_tell_41 : decode cX9_tell 41 = .ok (.iload_n 1, 1) := by decide +kernel
theorem dX9_tell_42 : decode cX9_tell 42 = .ok (.iload_n 2, 1) := by decide +kernel
theorem dX9_tell_43 : decode cX9_tell 43 = .ok (.invokevirtual 254, 3) := by decide +kernel
theorem dX9_tell_46 : decode cX9_tell 46 = .ok (.iload_n 3, 1) := by decide +kernel
theorem dX9_tell_47 : decode cX9_tell 47 = .ok (.invokestatic 261, 3) := by decide +kernel
theorem dX9_tell_50 : decode cX9_tell 50 = .ok (.ireturn, 1) := by decide +kernel
theorem dX9_night_0 : decode cX9_night 0 = .ok (.aload_n 0, 1) := by decide +kernel
theorem dX9_night_1 : decode cX9_night 1 = .ok (.getfield 33, 3) := by decide +kernel
theorem dX9_night_4 : decode cX9_night 4 = .ok (.aload_n 0, 1) := by decide +kernel
theorem dX9_night_5 : decode cX9_night 5 = .ok (.getfield 63, 3) := by decide +kernel
theorem dX9_night_8 : decode cX9_night 8 = .ok (.iconst 4, 1) := by decide +kernel
theorem dX9_night_9 : decode cX9_night 9 = .ok (.iconst (-1), 1) := by decide +kernel
theorem dX9_night_10 : decode cX9_night 10 = .ok (.iconst (-1), 1) := by decide +kernel
theorem dX9_night_11 : decode cX9_night 11 = .ok (.invokevirtual 250, 3) := by decide +kernel
theorem dX9_night_14 : decode cX9_night 14 = .ok (.ifCond .ne 5, 3) := by decide +kernel
theorem dX9_night_17 : decode cX9_night 17 = .ok (.iconst (-1), 1) := by decide +kernel
theorem dX9_night_18 : decode cX9_night 18 = .ok (.ireturn, 1) := by decide +kernel
theorem dX9_night_19 : decode cX9_night 19 = .ok (.aload_n 0, 1) := by decide +kernel
theorem dX9_night_20 : decode cX9_night 20 = .ok (.iconst 4, 1) := by decide +kernel
theorem dX9_night_21 : decode cX9_night 21 = .ok (.iconst (-1), 1) := by decide +kernel
theorem dX9_night_22 : decode cX9_night 22 = .ok (.iconst (-1), 1) := by decide +kernel
theorem dX9_night_23 : decode cX9_night 23 = .ok (.invokevirtual 254, 3) := by decide +kernel
theorem dX9_night_26 : decode cX9_night 26 = .ok (.aload_n 0, 1) := by decide +kernel
theorem dX9_night_27 : decode cX9_night 27 = .ok (.getfield 63, 3) := by decide +kernel
theorem dX9_night_30 : decode cX9_night 30 = .ok (.getfield 266, 3) := by decide +kernel
theorem dX9_night_33 : decode cX9_night 33 = .ok (.ireturn, 1) := by decide +kernel
theorem dX9_hare_0 : decode cX9_hare 0 = .ok (.aload_n 0, 1) := by decide +kernel
theorem dX9_hare_1 : decode cX9_hare 1 = .ok (.getfield 33, 3) := by decide +kernel
theorem dX9_hare_4 : decode cX9_hare 4 = .ok (.aload_n 0, 1) := by decide +kernel
theorem dX9_hare_5 : decode cX9_hare 5 = .ok (.getfield 63, 3) := by decide +kernel
theorem dX9_hare_8 : decode cX9_hare 8 = .ok (.iconst 5, 1) := by decide +kernel
theorem dX9_hare_9 : decode cX9_hare 9 = .ok (.iconst (-1), 1) := by decide +kernel
theorem dX9_hare_10 : decode cX9_hare 10 = .ok (.iload_n 1, 1) := by decide +kernel
theorem dX9_hare_11 : decode cX9_hare 11 = .ok (.invokevirtual 250, 3) := by decide +kernel
theorem dX9_hare_14 : decode cX9_hare 14 = .ok (.ifCond .ne 5, 3) := by decide +kernel
theorem dX9_hare_17 : decode cX9_hare 17 = .ok (.iconst (-1), 1) := by decide +kernel
theorem dX9_hare_18 : decode cX9_hare 18 = .ok (.ireturn, 1) := by decide +kernel
theorem dX9_hare_19 : decode cX9_hare 19 = .ok (.aload_n 0, 1) := by decide +kernel
theorem dX9_hare_20 : decode cX9_hare 20 = .ok (.iconst 5, 1) := by decide +kernel
theorem dX9_hare_21 : decode cX9_hare 21 = .ok (.iconst (-1), 1) := by decide +kernel
theorem dX9_hare_22 : decode cX9_hare 22 = .ok (.iload_n 1, 1) := by decide +kernel
theorem dX9_hare_23 : decode cX9_hare 23 = .ok (.invokevirtual 254, 3) := by decide +kernel
theorem dX9_hare_26 : decode cX9_hare 26 = .ok (.aload_n 0, 1) := by decide +kernel
theorem dX9_hare_27 : decode cX9_hare 27 = .ok (.getfield 80, 3) := by decide +kernel
theorem dX9_hare_30 : decode cX9_hare 30 = .ok (.iconst 0, 1) := by decide +kernel
theorem dX9_hare_31 : decode cX9_hare 31 = .ok (.iconst 3, 1) := by decide +kernel
theorem dX9_hare_32 : decode cX9_hare 32 = .ok (.invokevirtual 269, 3) := by decide +kernel
theorem dX9_hare_35 : decode cX9_hare 35 = .ok (.ireturn, 1) := by decide +kernel
theorem dX9_centuries_0 : decode cX9_centuries 0 = .ok (.aload_n 0, 1) := by decide +kernel
theorem dX9_centuries_1 : decode cX9_centuries 1 = .ok (.getfield 21, 3) := by decide +kernel
theorem dX9_centuries_4 : decode cX9_centuries 4 = .ok (.invokevirtual 151, 3) := by decide +kernel
theorem dX9_centuries_7 : decode cX9_centuries 7 = .ok (.ifCond .eq 14, 3) := by decide +kernel
theorem dX9_centuries_10 : decode cX9_centuries 10 = .ok (.iload_n 1, 1) := by decide +kernel
theorem dX9_centuries_11 : decode cX9_centuries 11 = .ok (.iconst 1, 1) := by decide +kernel
theorem dX9_centuries_12 : decode cX9_centuries 12 = .ok (.if_icmp .lt 9, 3) := by decide +kernel
theorem dX9_centuries_15 : decode cX9_centuries 15 = .ok (.iload_n 1, 1) := by decide +kernel
theorem dX9_centuries_16 : decode cX9_centuries 16 = .ok (.bipush 60, 2) := by decide +kernel
theorem dX9_centuries_18 : decode cX9_centuries 18 = .ok (.if_icmp .le 5, 3) := by decide +kernel
theorem dX9_centuries_21 : decode cX9_centuries 21 = .ok (.iconst (-1), 1) := by decide +kernel
theorem dX9_centuries_22 : decode cX9_centuries 22 = .ok (.ireturn, 1) := by decide +kernel
theorem dX9_centuries_23 : decode cX9_centuries 23 = .ok (.aload_n 0, 1) := by decide +kernel
theorem dX9_centuries_24 : decode cX9_centuries 24 = .ok (.lload_n 2, 1) := by decide +kernel
theorem dX9_centuries_25 : decode cX9_centuries 25 = .ok (.putfield 272, 3) := by decide +kernel
theorem dX9_centuries_28 : decode cX9_centuries 28 = .ok (.iconst 0, 1) := by decide +kernel
theorem dX9_centuries_29 : decode cX9_centuries 29 = .ok (.istore 4, 2) := by decide +kernel
theorem dX9_centuries_31 : decode cX9_centuries 31 = .ok (.iload 4, 2) := by decide +kernel
theorem dX9_centuries_33 : decode cX9_centuries 33 = .ok (.iload_n 1, 1) := by decide +kernel
theorem dX9_centuries_34 : decode cX9_centuries 34 = .ok (.if_icmp .ge 66, 3) := by decide +kernel
theorem dX9_centuries_37 : decode cX9_centuries 37 = .ok (.iconst 0, 1) := by decide +kernel
theorem dX9_centuries_38 : decode cX9_centuries 38 = .ok (.istore 5, 2) := by decide +kernel
theorem dX9_centuries_40 : decode cX9_centuries 40 = .ok (.iload 5, 2) := by decide +kernel
theorem dX9_centuries_42 : decode cX9_centuries 42 = .ok (.aload_n 0, 1) := by decide +kernel
theorem dX9_centuries_43 : decode cX9_centuries 43 = .ok (.getfield 21, 3) := by decide +kernel
theorem dX9_centuries_46 : decode cX9_centuries 46 = .ok (.getfield 276, 3) := by decide +kernel
theorem dX9_centuries_49 : decode cX9_centuries 49 = .ok (.if_icmp .ge 38, 3) := by decide +kernel
theorem dX9_centuries_52 : decode cX9_centuries 52 = .ok (.aload_n 0, 1) := by decide +kernel
theorem dX9_centuries_53 : decode cX9_centuries 53 = .ok (.getfield 63, 3) := by decide +kernel
theorem dX9_centuries_56 : decode cX9_centuries 56 = .ok (.iload 5, 2) := by decide +kernel
theorem dX9_centuries_58 : decode cX9_centuries 58 = .ok (.invokevirtual 207, 3) := by decide +kernel
theorem dX9_centuries_61 : decode cX9_centuries 61 = .ok (.ifCond .ne 20, 3) := by decide +kernel
theorem dX9_centuries_64 : decode cX9_centuries 64 = .ok (.aload_n 0, 1) := by decide +kernel
theorem dX9_centuries_65 : decode cX9_centuries 65 = .ok (.iload 5, 2) := by decide +kernel
theorem dX9_centuries_67 : decode cX9_centuries 67 = .ok (.aload_n 0, 1) := by decide +kernel
theorem dX9_centuries_68 : decode cX9_centuries 68 = .ok (.aload_n 0, 1) := by decide +kernel
theorem dX9_centuries_69 : decode cX9_centuries 69 = .ok (.getfield 21, 3) := by decide +kernel
theorem dX9_centuries_72 : decode cX9_centuries 72 = .ok (.getfield 148, 3) := by decide +kernel
theorem dX9_centuries_75 : decode cX9_centuries 75 = .ok (.invokevirtual 279, 3) := by decide +kernel
theorem dX9_centuries_78 : decode cX9_centuries 78 = .ok (.invokevirtual 282, 3) := by decide +kernel
theorem dX9_centuries_81 : decode cX9_centuries 81 = .ok (.iinc 5 1, 3) := by decide +kernel
theorem dX9_centuries_84 : decode cX9_centuries 84 = .ok (.goto (-44), 3) := by decide +kernel
theorem dX9_centuries_87 : decode cX9_centuries 87 = .ok (.aload_n 0, 1) := by decide +kernel
theorem dX9_centuries_88 : decode cX9_centuries 88 = .ok (.iconst 4, 1) := by decide +kernel
theorem dX9_centuries_89 : decode cX9_centuries 89 = .ok (.iconst (-1), 1) := by decide +kernel
theorem dX9_centuries_90 : decode cX9_centuries 90 = .ok (.iconst (-1), 1) := by decide +kernel
theorem dX9_centuries_91 : decode cX9_centuries 91 = .ok (.invokevirtual 254, 3) := by decide +kernel
theorem dX9_centuries_94 : decode cX9_centuries 94 = .ok (.iinc 4 1, 3) := by decide +kernel
theorem dX9_centuries_97 : decode cX9_centuries 97 = .ok (.goto (-66), 3) := by decide +kernel
theorem dX9_centuries_100 : decode cX9_centuries 100 = .ok (.aload_n 0, 1) := by decide +kernel
theorem dX9_centuries_101 : decode cX9_centuries 101 = .ok (.getfield 63, 3) := by decide +kernel
theorem dX9_centuries_104 : decode cX9_centuries 104 = .ok (.getfield 266, 3) := by decide +kernel
theorem dX9_centuries_107 : decode cX9_centuries 107 = .ok (.ireturn, 1) := by decide +kernel
theorem dX9_tryPage_0 : decode cX9_tryPage 0 = .ok (.aload_n 0, 1) := by decide +kernel
theorem dX9_tryPage_1 : decode cX9_tryPage 1 = .ok (.getfield 33, 3) := by decide +kernel
theorem dX9_tryPage_4 : decode cX9_tryPage 4 = .ok (.aload_n 0, 1) := by decide +kernel
theorem dX9_tryPage_5 : decode cX9_tryPage 5 = .ok (.getfield 63, 3) := by decide +kernel
theorem dX9_tryPage_8 : decode cX9_tryPage 8 = .ok (.iconst 0, 1) := by decide +kernel
theorem dX9_tryPage_9 : decode cX9_tryPage 9 = .ok (.iload_n 1, 1) := by decide +kernel
theorem dX9_tryPage_10 : decode cX9_tryPage 10 = .ok (.iload_n 2, 1) := by decide +kernel
theorem dX9_tryPage_11 : decode cX9_tryPage 11 = .ok (.invokevirtual 250, 3) := by decide +kernel
theorem dX9_tryPage_14 : decode cX9_tryPage 14 = .ok (.ifCond .eq 13, 3) := by decide +kernel
theorem dX9_tryPage_17 : decode cX9_tryPage 17 = .ok (.aload_n 0, 1) := by decide +kernel
theorem dX9_tryPage_18 : decode cX9_tryPage 18 = .ok (.iconst 0, 1) := by decide +kernel
theorem dX9_tryPage_19 : decode cX9_tryPage 19 = .ok (.iload_n 1, 1) := by decide +kernel
theorem dX9_tryPage_20 : decode cX9_tryPage 20 = .ok (.iload_n 2, 1) := by decide +kernel
theorem dX9_tryPage_21 : decode cX9_tryPage 21 = .ok (.invokevirtual 254, 3) := by decide +kernel
theorem dX9_tryPage_24 : decode cX9_tryPage 24 = .ok (.goto 57, 3) := by decide +kernel
theorem dX9_tryPage_27 : decode cX9_tryPage 27 = .ok (.aload_n 0, 1) := by decide +kernel
theorem dX9_tryPage_28 : decode cX9_tryPage 28 = .ok (.iload_n 2, 1) := by decide +kernel
theorem dX9_tryPage_29 : decode cX9_tryPage 29 = .ok (.invokevirtual 227, 3) := by decide +kernel
theorem dX9_tryPage_32 : decode cX9_tryPage 32 = .ok (.ifCond .ne 49, 3) := by decide +kernel
theorem dX9_tryPage_35 : decode cX9_tryPage 35 = .ok (.aload_n 0, 1) := by decide +kernel
theorem dX9_tryPage_36 : decode cX9_tryPage 36 = .ok (.getfield 33, 3) := by decide +kernel
theorem dX9_tryPage_39 : decode cX9_tryPage 39 = .ok (.aload_n 0, 1) := by decide +kernel
theorem dX9_tryPage_40 : decode cX9_tryPage 40 = .ok (.getfield 63, 3) := by decide +kernel
theorem dX9_tryPage_43 : decode cX9_tryPage 43 = .ok (.iconst 1, 1) := by decide +kernel
theorem dX9_tryPage_44 : decode cX9_tryPage 44 = .ok (.iload_n 1, 1) := by decide +kernel
theorem dX9_tryPage_45 : decode cX9_tryPage 45 = .ok (.iload_n 2, 1) := by decide +kernel
theorem dX9_tryPage_46 : decode cX9_tryPage 46 = .ok (.invokevirtual 250, 3) := by decide +kernel
theorem dX9_tryPage_49 : decode cX9_tryPage 49 = .ok (.ifCond .eq 32, 3) := by decide +kernel
theorem dX9_tryPage_52 : decode cX9_tryPage 52 = .ok (.aload_n 0, 1) := by decide +kernel
theorem dX9_tryPage_53 : decode cX9_tryPage 53 = .ok (.iconst 1, 1) := by decide +kernel
theorem dX9_tryPage_54 : decode cX9_tryPage 54 = .ok (.iload_n 1, 1) := by decide +kernel
theorem dX9_tryPage_55 : decode cX9_tryPage 55 = .ok (.iload_n 2, 1) := by decide +kernel
theorem dX9_tryPage_56 : decode cX9_tryPage 56 = .ok (.invokevirtual 254, 3) := by decide +kernel
theorem dX9_tryPage_59 : decode cX9_tryPage 59 = .ok (.aload_n 0, 1) := by decide +kernel
theorem dX9_tryPage_60 : decode cX9_tryPage 60 = .ok (.bipush 100, 2) := by decide +kernel
theorem dX9_tryPage_62 : decode cX9_tryPage 62 = .ok (.invokevirtual 279, 3) := by decide +kernel
theorem dX9_tryPage_65 : decode cX9_tryPage 65 = .ok (.aload_n 0, 1) := by decide +kernel
theorem dX9_tryPage_66 : decode cX9_tryPage 66 = .ok (.getfield 221, 3) := by decide +kernel
theorem dX9_tryPage_69 : decode cX9_tryPage 69 = .ok (.if_icmp .ge 12, 3) := by decide +kernel
theorem dX9_tryPage_72 : decode cX9_tryPage 72 = .ok (.aload_n 0, 1) := by decide +kernel
theorem dX9_tryPage_73 : decode cX9_tryPage 73 = .ok (.getfield 63, 3) := by decide +kernel
theorem dX9_tryPage_76 : decode cX9_tryPage 76 = .ok (.iload_n 1, 1) := by decide +kernel
theorem dX9_tryPage_77 : decode cX9_tryPage 77 = .ok (.iload_n 2, 1) := by decide +kernel
theorem dX9_tryPage_78 : decode cX9_tryPage 78 = .ok (.invokevirtual 286, 3) := by decide +kernel
theorem dX9_tryPage_81 : decode cX9_tryPage 81 = .ok (.return_, 1) := by decide +kernel
theorem dX9_draw_0 : decode cX9_draw 0 = .ok (.aload_n 0, 1) := by decide +kernel
theorem dX9_draw_1 : decode cX9_draw 1 = .ok (.aload_n 0, 1) := by decide +kernel
theorem dX9_draw_2 : decode cX9_draw 2 = .ok (.getfield 272, 3) := by decide +kernel
theorem dX9_draw_5 : decode cX9_draw 5 = .ok (.ldc2_w 289, 3) := by decide +kernel
theorem dX9_draw_8 : decode cX9_draw 8 = .ok (.lmul, 1) := by decide +kernel
theorem dX9_draw_9 : decode cX9_draw 9 = .ok (.ldc2_w 291, 3) := by decide +kernel
theorem dX9_draw_12 : decode cX9_draw 12 = .ok (.ladd, 1) := by decide +kernel
theorem dX9_draw_13 : decode cX9_draw 13 = .ok (.putfield 272, 3) := by decide +kernel
theorem dX9_draw_16 : decode cX9_draw 16 = .ok (.iload_n 1, 1) := by decide +kernel
theorem dX9_draw_17 : decode cX9_draw 17 = .ok (.iconst 1, 1) := by decide +kernel
theorem dX9_draw_18 : decode cX9_draw 18 = .ok (.if_icmp .ge 7, 3) := by decide +kernel
theorem dX9_draw_21 : decode cX9_draw 21 = .ok (.iconst 0, 1) := by decide +kernel
theorem dX9_draw_22 : decode cX9_draw 22 = .ok (.goto 14, 3) := by decide +kernel
theorem dX9_draw_25 : decode cX9_draw 25 = .ok (.aload_n 0, 1) := by decide +kernel
theorem dX9_draw_26 : decode cX9_draw 26 = .ok (.getfield 272, 3) := by decide +kernel
theorem dX9_draw_29 : decode cX9_draw 29 = .ok (.bipush 33, 2) := by decide +kernel
theorem dX9_draw_31 : decode cX9_draw 31 = .ok (.lushr, 1) := by decide +kernel
theorem dX9_draw_32 : decode cX9_draw 32 = .ok (.iload_n 1, 1) := by decide +kernel
theorem dX9_draw_33 : decode cX9_draw 33 = .ok (.i2l, 1) := by decide +kernel
theorem dX9_draw_34 : decode cX9_draw 34 = .ok (.lrem, 1) := by decide +kernel
theorem dX9_draw_35 : decode cX9_draw 35 = .ok (.l2i, 1) := by decide +kernel
theorem dX9_draw_36 : decode cX9_draw 36 = .ok (.ireturn, 1) := by decide +kernel
theorem dX9_undo_0 : decode cX9_undo 0 = .ok (.aload_n 0, 1) := by decide +kernel
theorem dX9_undo_1 : decode cX9_undo 1 = .ok (.getfield 73, 3) := by decide +kernel
theorem dX9_undo_4 : decode cX9_undo 4 = .ok (.aload_n 0, 1) := by decide +kernel
theorem dX9_undo_5 : decode cX9_undo 5 = .ok (.getfield 63, 3) := by decide +kernel
theorem dX9_undo_8 : decode cX9_undo 8 = .ok (.invokevirtual 293, 3) := by decide +kernel
theorem dX9_undo_11 : decode cX9_undo 11 = .ok (.ifCond .ne 5, 3) := by decide +kernel
theorem dX9_undo_14 : decode cX9_undo 14 = .ok (.iconst (-1), 1) := by decide +kernel
theorem dX9_undo_15 : decode cX9_undo 15 = .ok (.ireturn, 1) := by decide +kernel
theorem dX9_undo_16 : decode cX9_undo 16 = .ok (.aload_n 0, 1) := by decide +kernel
theorem dX9_undo_17 : decode cX9_undo 17 = .ok (.getfield 80, 3) := by decide +kernel
theorem dX9_undo_20 : decode cX9_undo 20 = .ok (.invokevirtual 297, 3) := by decide +kernel
theorem dX9_undo_23 : decode cX9_undo 23 = .ok (.aload_n 0, 1) := by decide +kernel
theorem dX9_undo_24 : decode cX9_undo 24 = .ok (.getfield 73, 3) := by decide +kernel
theorem dX9_undo_27 : decode cX9_undo 27 = .ok (.getfield 300, 3) := by decide +kernel
theorem dX9_undo_30 : decode cX9_undo 30 = .ok (.ireturn, 1) := by decide +kernel
theorem dX9_log_0 : decode cX9_log 0 = .ok (.aload_n 0, 1) := by decide +kernel
theorem dX9_log_1 : decode cX9_log 1 = .ok (.getfield 80, 3) := by decide +kernel
theorem dX9_log_4 : decode cX9_log 4 = .ok (.iload_n 1, 1) := by decide +kernel
theorem dX9_log_5 : decode cX9_log 5 = .ok (.iload_n 2, 1) := by decide +kernel
theorem dX9_log_6 : decode cX9_log 6 = .ok (.invokevirtual 269, 3) := by decide +kernel
theorem dX9_log_9 : decode cX9_log 9 = .ok (.ireturn, 1) := by decide +kernel
theorem dX9_step_0 : decode cX9_step 0 = .ok (.aload_n 0, 1) := by decide +kernel
theorem dX9_step_1 : decode cX9_step 1 = .ok (.iload_n 1, 1) := by decide +kernel
theorem dX9_step_2 : decode cX9_step 2 = .ok (.invokevirtual 301, 3) := by decide +kernel
theorem dX9_step_5 : decode cX9_step 5 = .ok (.ifCond .eq 17, 3) := by decide +kernel
theorem dX9_step_8 : decode cX9_step 8 = .ok (.aload_n 0, 1) := by decide +kernel
theorem dX9_step_9 : decode cX9_step 9 = .ok (.getfield 55, 3) := by decide +kernel
theorem dX9_step_12 : decode cX9_step 12 = .ok (.iload_n 1, 1) := by decide +kernel
theorem dX9_step_13 : decode cX9_step 13 = .ok (.aaload, 1) := by decide +kernel
theorem dX9_step_14 : decode cX9_step 14 = .ok (.iload_n 2, 1) := by decide +kernel
theorem dX9_step_15 : decode cX9_step 15 = .ok (.iload_n 3, 1) := by decide +kernel
theorem dX9_step_16 : decode cX9_step 16 = .ok (.invokevirtual 304, 3) := by decide +kernel
theorem dX9_step_19 : decode cX9_step 19 = .ok (.goto 6, 3) := by decide +kernel
theorem dX9_step_22 : decode cX9_step 22 = .ok (.ldc_w 307, 3) := by decide +kernel
theorem dX9_step_25 : decode cX9_step 25 = .ok (.ireturn, 1) := by decide +kernel
theorem dX9_hasPlan_0 : decode cX9_hasPlan 0 = .ok (.iload_n 1, 1) := by decide +kernel
theorem dX9_hasPlan_1 : decode cX9_hasPlan 1 = .ok (.ifCond .lt 24, 3) := by decide +kernel
theorem dX9_hasPlan_4 : decode cX9_hasPlan 4 = .ok (.iload_n 1, 1) := by decide +kernel
theorem dX9_hasPlan_5 : decode cX9_hasPlan 5 = .ok (.aload_n 0, 1) := by decide +kernel
theorem dX9_hasPlan_6 : decode cX9_hasPlan 6 = .ok (.getfield 122, 3) := by decide +kernel
theorem dX9_hasPlan_9 : decode cX9_hasPlan 9 = .ok (.if_icmp .ge 16, 3) := by decide +kernel
theorem dX9_hasPlan_12 : decode cX9_hasPlan 12 = .ok (.iload_n 1, 1) := by decide +kernel
theorem dX9_hasPlan_13 : decode cX9_hasPlan 13 = .ok (.aload_n 0, 1) := by decide +kernel
theorem dX9_hasPlan_14 : decode cX9_hasPlan 14 = .ok (.getfield 55, 3) := by decide +kernel
theorem dX9_hasPlan_17 : decode cX9_hasPlan 17 = .ok (.arraylength, 1) := by decide +kernel
theorem dX9_hasPlan_18 : decode cX9_hasPlan 18 = .ok (.if_icmp .ge 7, 3) := by decide +kernel
theorem dX9_hasPlan_21 : decode cX9_hasPlan 21 = .ok (.iconst 1, 1) := by decide +kernel
theorem dX9_hasPlan_22 : decode cX9_hasPlan 22 = .ok (.goto 4, 3) := by decide +kernel
theorem dX9_hasPlan_25 : decode cX9_hasPlan 25 = .ok (.iconst 0, 1) := by decide +kernel
theorem dX9_hasPlan_26 : decode cX9_hasPlan 26 = .ok (.ireturn, 1) := by decide +kernel
theorem dX9_run_0 : decode cX9_run 0 = .ok (.aload_n 0, 1) := by decide +kernel
theorem dX9_run_1 : decode cX9_run 1 = .ok (.getfield 21, 3) := by decide +kernel
theorem dX9_run_4 : decode cX9_run 4 = .ok (.invokevirtual 151, 3) := by decide +kernel
theorem dX9_run_7 : decode cX9_run 7 = .ok (.ifCond .eq 20, 3) := by decide +kernel
theorem dX9_run_10 : decode cX9_run 10 = .ok (.aload_n 0, 1) := by decide +kernel
theorem dX9_run_11 : decode cX9_run 11 = .ok (.iload_n 1, 1) := by decide +kernel
theorem dX9_run_12 : decode cX9_run 12 = .ok (.invokevirtual 301, 3) := by decide +kernel
theorem dX9_run_15 : decode cX9_run 15 = .ok (.ifCond .eq 12, 3) := by decide +kernel
theorem dX9_run_18 : decode cX9_run 18 = .ok (.iload_n 2, 1) := by decide +kernel
theorem dX9_run_19 : decode cX9_run 19 = .ok (.ifCond .lt 8, 3) := by decide +kernel
theorem dX9_run_22 : decode cX9_run 22 = .ok (.iload_n 2, 1) := by decide +kernel
theorem dX9_run_23 : decode cX9_run 23 = .ok (.iconst 1, 1) := by decide +kernel
theorem dX9_run_24 : decode cX9_run 24 = .ok (.if_icmp .le 7, 3) := by decide +kernel
theorem dX9_run_27 : decode cX9_run 27 = .ok (.ldc_w 307, 3) := by decide +kernel
theorem dX9_run_30 : decode cX9_run 30 = .ok (.ireturn, 1) := by decide +kernel
theorem dX9_run_31 : decode cX9_run 31 = .ok (.aload_n 0, 1) := by decide +kernel
theorem dX9_run_32 : decode cX9_run 32 = .ok (.getfield 55, 3) := by decide +kernel
theorem dX9_run_35 : decode cX9_run 35 = .ok (.iload_n 1, 1) := by decide +kernel
theorem dX9_run_36 : decode cX9_run 36 = .ok (.aaload, 1) := by decide +kernel
theorem dX9_run_37 : decode cX9_run 37 = .ok (.astore_n 3, 1) := by decide +kernel
theorem dX9_run_38 : decode cX9_run 38 = .ok (.aload_n 0, 1) := by decide +kernel
theorem dX9_run_39 : decode cX9_run 39 = .ok (.getfield 67, 3) := by decide +kernel
theorem dX9_run_42 : decode cX9_run 42 = .ok (.aload_n 0, 1) := by decide +kernel
theorem dX9_run_43 : decode cX9_run 43 = .ok (.getfield 63, 3) := by decide +kernel
theorem dX9_run_46 : decode cX9_run 46 = .ok (.invokevirtual 308, 3) := by decide +kernel
theorem dX9_run_49 : decode cX9_run 49 = .ok (.iconst 0, 1) := by decide +kernel
theorem dX9_run_50 : decode cX9_run 50 = .ok (.istore 4, 2) := by decide +kernel
theorem dX9_run_52 : decode cX9_run 52 = .ok (.iload 4, 2) := by decide +kernel
theorem dX9_run_54 : decode cX9_run 54 = .ok (.aload_n 3, 1) := by decide +kernel
theorem dX9_run_55 : decode cX9_run 55 = .ok (.getfield 310, 3) := by decide +kernel
theorem dX9_run_58 : decode cX9_run 58 = .ok (.if_icmp .ge 53, 3) := by decide +kernel
theorem dX9_run_61 : decode cX9_run 61 = .ok (.aload_n 0, 1) := by decide +kernel
theorem dX9_run_62 : decode cX9_run 62 = .ok (.aload_n 0, 1) := by decide +kernel
theorem dX9_run_63 : decode cX9_run 63 = .ok (.getfield 67, 3) := by decide +kernel
theorem dX9_run_66 : decode cX9_run 66 = .ok (.aload_n 3, 1) := by decide +kernel
theorem dX9_run_67 : decode cX9_run 67 = .ok (.iload 4, 2) := by decide +kernel
theorem dX9_run_69 : decode cX9_run 69 = .ok (.invokevirtual 311, 3) := by decide +kernel
theorem dX9_run_72 : decode cX9_run 72 = .ok (.ifCond .eq 39, 3) := by decide +kernel
theorem dX9_run_75 : decode cX9_run 75 = .ok (.aload_n 0, 1) := by decide +kernel
theorem dX9_run_76 : decode cX9_run 76 = .ok (.getfield 33, 3) := by decide +kernel
theorem dX9_run_79 : decode cX9_run 79 = .ok (.aload_n 0, 1) := by decide +kernel
theorem dX9_run_80 : decode cX9_run 80 = .ok (.getfield 67, 3) := by decide +kernel
theorem dX9_run_83 : decode cX9_run 83 = .ok (.aload_n 3, 1) := by decide +kernel
theorem dX9_run_84 : decode cX9_run 84 = .ok (.iload 4, 2) := by decide +kernel
theorem dX9_run_86 : decode cX9_run 86 = .ok (.invokevirtual 315, 3) := by decide +kernel
theorem dX9_run_89 : decode cX9_run 89 = .ok (.aload_n 3, 1) := by decide +kernel
theorem dX9_run_90 : decode cX9_run 90 = .ok (.iload 4, 2) := by decide +kernel
theorem dX9_run_92 : decode cX9_run 92 = .ok (.invokevirtual 318, 3) := by decide +kernel
theorem dX9_run_95 : decode cX9_run 95 = .ok (.aload_n 3, 1) := by decide +kernel
theorem dX9_run_96 : decode cX9_run 96 = .ok (.iload 4, 2) := by decide +kernel
theorem dX9_run_98 : decode cX9_run 98 = .ok (.invokevirtual 321, 3) := by decide +kernel
theorem dX9_run_101 : decode cX9_run 101 = .ok (.invokevirtual 242, 3) := by decide +kernel
theorem dX9_run_104 : decode cX9_run 104 = .ok (.pop, 1) := by decide +kernel
theorem dX9_run_105 : decode cX9_run 105 = .ok (.iinc 4 1, 3) := by decide +kernel
theorem dX9_run_108 : decode cX9_run 108 = .ok (.goto (-56), 3) := by decide +kernel
theorem dX9_run_111 : decode cX9_run 111 = .ok (.iload_n 2, 1) := by decide +kernel
theorem dX9_run_112 : decode cX9_run 112 = .ok (.iconst 1, 1) := by decide +kernel
theorem dX9_run_113 : decode cX9_run 113 = .ok (.if_icmp .ne 26, 3) := by decide +kernel
theorem dX9_run_116 : decode cX9_run 116 = .ok (.aload_n 0, 1) := by decide +kernel
theorem dX9_run_117 : decode cX9_run 117 = .ok (.getfield 21, 3) := by decide +kernel
theorem dX9_run_120 : decode cX9_run 120 = .ok (.getfield 148, 3) := by decide +kernel
theorem dX9_run_123 : decode cX9_run 123 = .ok (.aload_n 0, 1) := by decide +kernel
theorem dX9_run_124 : decode cX9_run 124 = .ok (.getfield 33, 3) := by decide +kernel
theorem dX9_run_127 : decode cX9_run 127 = .ok (.aload_n 0, 1) := by decide +kernel
theorem dX9_run_128 : decode cX9_run 128 = .ok (.getfield 67, 3) := by decide +kernel
theorem dX9_run_131 : decode cX9_run 131 = .ok (.invokevirtual 324, 3) := by decide +kernel
theorem dX9_run_134 : decode cX9_run 134 = .ok (.invokestatic 261, 3) := by decide +kernel
theorem dX9_run_137 : decode cX9_run 137 = .ok (.isub, 1) := by decide +kernel
theorem dX9_run_138 : decode cX9_run 138 = .ok (.ireturn, 1) := by decide +kernel
theorem dX9_run_139 : decode cX9_run 139 = .ok (.iload 4, 2) := by decide +kernel
theorem dX9_run_141 : decode cX9_run 141 = .ok (.aload_n 3, 1) := by decide +kernel
theorem dX9_run_142 : decode cX9_run 142 = .ok (.getfield 310, 3) := by decide +kernel
theorem dX9_run_145 : decode cX9_run 145 = .ok (.if_icmp .ne 7, 3) := by decide +kernel
theorem dX9_run_148 : decode cX9_run 148 = .ok (.iconst (-1), 1) := by decide +kernel
theorem dX9_run_149 : decode cX9_run 149 = .ok (.goto 5, 3) := by decide +kernel
theorem dX9_run_152 : decode cX9_run 152 = .ok (.iload 4, 2) := by decide +kernel
theorem dX9_run_154 : decode cX9_run 154 = .ok (.ireturn, 1) := by decide +kernel
theorem dX9_mayStep_0 : decode cX9_mayStep 0 = .ok (.aload_n 0, 1) := by decide +kernel
theorem dX9_mayStep_1 : decode cX9_mayStep 1 = .ok (.getfield 33, 3) := by decide +kernel
theorem dX9_mayStep_4 : decode cX9_mayStep 4 = .ok (.aload_n 1, 1) := by decide +kernel
theorem dX9_mayStep_5 : decode cX9_mayStep 5 = .ok (.aload_n 2, 1) := by decide +kernel
theorem dX9_mayStep_6 : decode cX9_mayStep 6 = .ok (.iload_n 3, 1) := by decide +kernel
theorem dX9_mayStep_7 : decode cX9_mayStep 7 = .ok (.invokevirtual 315, 3) := by decide +kernel
theorem dX9_mayStep_10 : decode cX9_mayStep 10 = .ok (.aload_n 2, 1) := by decide +kernel
theorem dX9_mayStep_11 : decode cX9_mayStep 11 = .ok (.iload_n 3, 1) := by decide +kernel
theorem dX9_mayStep_12 : decode cX9_mayStep 12 = .ok (.invokevirtual 318, 3) := by decide +kernel
theorem dX9_mayStep_15 : decode cX9_mayStep 15 = .ok (.aload_n 2, 1) := by decide +kernel
theorem dX9_mayStep_16 : decode cX9_mayStep 16 = .ok (.iload_n 3, 1) := by decide +kernel
theorem dX9_mayStep_17 : decode cX9_mayStep 17 = .ok (.invokevirtual 321, 3) := by decide +kernel
theorem dX9_mayStep_20 : decode cX9_mayStep 20 = .ok (.invokevirtual 250, 3) := by decide +kernel
theorem dX9_mayStep_23 : decode cX9_mayStep 23 = .ok (.ireturn, 1) := by decide +kernel
theorem dX9_perform_0 : decode cX9_perform 0 = .ok (.aload_n 0, 1) := by decide +kernel
theorem dX9_perform_1 : decode cX9_perform 1 = .ok (.getfield 21, 3) := by decide +kernel
theorem dX9_perform_4 : decode cX9_perform 4 = .ok (.invokevirtual 151, 3) := by decide +kernel
theorem dX9_perform_7 : decode cX9_perform 7 = .ok (.ifCond .eq 11, 3) := by decide +kernel
theorem dX9_perform_10 : decode cX9_perform 10 = .ok (.aload_n 0, 1) := by decide +kernel
theorem dX9_perform_11 : decode cX9_perform 11 = .ok (.iload_n 1, 1) := by decide +kernel
theorem dX9_perform_12 : decode cX9_perform 12 = .ok (.invokevirtual 301, 3) := by decide +kernel
theorem dX9_perform_15 : decode cX9_perform 15 = .ok (.ifCond .ne 5, 3) := by decide +kernel
theorem dX9_perform_18 : decode cX9_perform 18 = .ok (.iconst (-1), 1) := by decide +kernel
theorem dX9_perform_19 : decode cX9_perform 19 = .ok (.ireturn, 1) := by decide +kernel
theorem dX9_perform_20 : decode cX9_perform 20 = .ok (.aload_n 0, 1) := by decide +kernel
theorem dX9_perform_21 : decode cX9_perform 21 = .ok (.getfield 55, 3) := by decide +kernel
theorem dX9_perform_24 : decode cX9_perform 24 = .ok (.iload_n 1, 1) := by decide +kernel
theorem dX9_perform_25 : decode cX9_perform 25 = .ok (.aaload, 1) := by decide +kernel
theorem dX9_perform_26 : decode cX9_perform 26 = .ok (.astore_n 2, 1) := by decide +kernel
theorem dX9_perform_27 : decode cX9_perform 27 = .ok (.iconst 0, 1) := by decide +kernel
theorem dX9_perform_28 : decode cX9_perform 28 = .ok (.istore_n 3, 1) := by decide +kernel
theorem dX9_perform_29 : decode cX9_perform 29 = .ok (.iload_n 3, 1) := by decide +kernel
theorem dX9_perform_30 : decode cX9_perform 30 = .ok (.aload_n 2, 1) := by decide +kernel
theorem dX9_perform_31 : decode cX9_perform 31 = .ok (.getfield 310, 3) := by decide +kernel
theorem dX9_perform_34 : decode cX9_perform 34 = .ok (.if_icmp .ge 41, 3) := by decide +kernel
theorem dX9_perform_37 : decode cX9_perform 37 = .ok (.aload_n 0, 1) := by decide +kernel
theorem dX9_perform_38 : decode cX9_perform 38 = .ok (.aload_n 0, 1) := by decide +kernel
theorem dX9_perform_39 : decode cX9_perform 39 = .ok (.getfield 63, 3) := by decide +kernel
theorem dX9_perform_42 : decode cX9_perform 42 = .ok (.aload_n 2, 1) := by decide +kernel
theorem dX9_perform_43 : decode cX9_perform 43 = .ok (.iload_n 3, 1) := by decide +kernel
theorem dX9_perform_44 : decode cX9_perform 44 = .ok (.invokevirtual 311, 3) := by decide +kernel
theorem dX9_perform_47 : decode cX9_perform 47 = .ok (.ifCond .eq 28, 3) := by decide +kernel
theorem dX9_perform_50 : decode cX9_perform 50 = .ok (.aload_n 0, 1) := by decide +kernel
theorem dX9_perform_51 : decode cX9_perform 51 = .ok (.aload_n 2, 1) := by decide +kernel
theorem dX9_perform_52 : decode cX9_perform 52 = .ok (.iload_n 3, 1) := by decide +kernel
theorem dX9_perform_53 : decode cX9_perform 53 = .ok (.invokevirtual 315, 3) := by decide +kernel
theorem dX9_perform_56 : decode cX9_perform 56 = .ok (.aload_n 2, 1) := by decide +kernel
theorem dX9_perform_57 : decode cX9_perform 57 = .ok (.iload_n 3, 1) := by decide +kernel
theorem dX9_perform_58 : decode cX9_perform 58 = .ok (.invokevirtual 318, 3) := by decide +kernel
theorem dX9_perform_61 : decode cX9_perform 61 = .ok (.aload_n 2, 1) := by decide +kernel
theorem dX9_perform_62 : decode cX9_perform 62 = .ok (.iload_n 3, 1) := by decide +kernel
theorem dX9_perform_63 : decode cX9_perform 63 = .ok (.invokevirtual 321, 3) := by decide +kernel
theorem dX9_perform_66 : decode cX9_perform 66 = .ok (.invokevirtual 254, 3) := by decide +kernel
theorem dX9_perform_69 : decode cX9_perform 69 = .ok (.iinc 3 1, 3) := by decide +kernel
theorem dX9_perform_72 : decode cX9_perform 72 = .ok (.goto (-43), 3) := by decide +kernel
theorem dX9_perform_75 : decode cX9_perform 75 = .ok (.iload_n 3, 1) := by decide +kernel
theorem dX9_perform_76 : decode cX9_perform 76 = .ok (.ireturn, 1) := by decide +kernel
theorem dX9_loss_0 : decode cX9_loss 0 = .ok (.aload_n 0, 1) := by decide +kernel
theorem dX9_loss_1 : decode cX9_loss 1 = .ok (.getfield 21, 3) := by decide +kernel
theorem dX9_loss_4 : decode cX9_loss 4 = .ok (.iload_n 1, 1) := by decide +kernel
theorem dX9_loss_5 : decode cX9_loss 5 = .ok (.invokevirtual 185, 3) := by decide +kernel
theorem dX9_loss_8 : decode cX9_loss 8 = .ok (.ifCond .eq 11, 3) := by decide +kernel
theorem dX9_loss_11 : decode cX9_loss 11 = .ok (.aload_n 0, 1) := by decide +kernel
theorem dX9_loss_12 : decode cX9_loss 12 = .ok (.iload_n 2, 1) := by decide +kernel
theorem dX9_loss_13 : decode cX9_loss 13 = .ok (.invokevirtual 227, 3) := by decide +kernel
theorem dX9_loss_16 : decode cX9_loss 16 = .ok (.ifCond .ne 5, 3) := by decide +kernel
theorem dX9_loss_19 : decode cX9_loss 19 = .ok (.iconst (-1), 1) := by decide +kernel
theorem dX9_loss_20 : decode cX9_loss 20 = .ok (.ireturn, 1) := by decide +kernel
theorem dX9_loss_21 : decode cX9_loss 21 = .ok (.aload_n 0, 1) := by decide +kernel
theorem dX9_loss_22 : decode cX9_loss 22 = .ok (.getfield 33, 3) := by decide +kernel
theorem dX9_loss_25 : decode cX9_loss 25 = .ok (.aload_n 0, 1) := by decide +kernel
theorem dX9_loss_26 : decode cX9_loss 26 = .ok (.getfield 63, 3) := by decide +kernel
theorem dX9_loss_29 : decode cX9_loss 29 = .ok (.iload_n 1, 1) := by decide +kernel
theorem dX9_loss_30 : decode cX9_loss 30 = .ok (.aload_n 0, 1) := by decide +kernel
theorem dX9_loss_31 : decode cX9_loss 31 = .ok (.getfield 21, 3) := by decide +kernel
theorem dX9_loss_34 : decode cX9_loss 34 = .ok (.iload_n 2, 1) := by decide +kernel
theorem dX9_loss_35 : decode cX9_loss 35 = .ok (.invokevirtual 172, 3) := by decide +kernel
theorem dX9_loss_38 : decode cX9_loss 38 = .ok (.invokevirtual 328, 3) := by decide +kernel
theorem dX9_loss_41 : decode cX9_loss 41 = .ok (.ireturn, 1) := by decide +kernel
theorem dX9_left_0 : decode cX9_left 0 = .ok (.aload_n 0, 1) := by decide +kernel
theorem dX9_left_1 : decode cX9_left 1 = .ok (.getfield 21, 3) := by decide +kernel
theorem dX9_left_4 : decode cX9_left 4 = .ok (.invokevirtual 151, 3) := by decide +kernel
theorem dX9_left_7 : decode cX9_left 7 = .ok (.ifCond .eq 13, 3) := by decide +kernel
theorem dX9_left_10 : decode cX9_left 10 = .ok (.iload_n 1, 1) := by decide +kernel
theorem dX9_left_11 : decode cX9_left 11 = .ok (.ifCond .lt 9, 3) := by decide +kernel
theorem dX9_left_14 : decode cX9_left 14 = .ok (.iload_n 1, 1) := by decide +kernel
theorem dX9_left_15 : decode cX9_left 15 = .ok (.bipush 99, 2) := by decide +kernel
theorem dX9_left_17 : decode cX9_left 17 = .ok (.if_icmp .le 5, 3) := by decide +kernel
theorem dX9_left_20 : decode cX9_left 20 = .ok (.iconst (-1), 1) := by decide +kernel
theorem dX9_left_21 : decode cX9_left 21 = .ok (.ireturn, 1) := by decide +kernel
theorem dX9_left_22 : decode cX9_left 22 = .ok (.aload_n 0, 1) := by decide +kernel
theorem dX9_left_23 : decode cX9_left 23 = .ok (.getfield 67, 3) := by decide +kernel
theorem dX9_left_26 : decode cX9_left 26 = .ok (.aload_n 0, 1) := by decide +kernel
theorem dX9_left_27 : decode cX9_left 27 = .ok (.getfield 63, 3) := by decide +kernel
theorem dX9_left_30 : decode cX9_left 30 = .ok (.invokevirtual 308, 3) := by decide +kernel
theorem dX9_left_33 : decode cX9_left 33 = .ok (.iconst 0, 1) := by decide +kernel
theorem dX9_left_34 : decode cX9_left 34 = .ok (.istore_n 2, 1) := by decide +kernel
theorem dX9_left_35 : decode cX9_left 35 = .ok (.iload_n 2, 1) := by decide +kernel
theorem dX9_left_36 : decode cX9_left 36 = .ok (.iload_n 1, 1) := by decide +kernel
theorem dX9_left_37 : decode cX9_left 37 = .ok (.if_icmp .ge 21, 3) := by decide +kernel
theorem dX9_left_40 : decode cX9_left 40 = .ok (.aload_n 0, 1) := by decide +kernel
theorem dX9_left_41 : decode cX9_left 41 = .ok (.getfield 33, 3) := by decide +kernel
theorem dX9_left_44 : decode cX9_left 44 = .ok (.aload_n 0, 1) := by decide +kernel
theorem dX9_left_45 : decode cX9_left 45 = .ok (.getfield 67, 3) := by decide +kernel
theorem dX9_left_48 : decode cX9_left 48 = .ok (.invokevirtual 331, 3) := by decide +kernel
theorem dX9_left_51 : decode cX9_left 51 = .ok (.pop, 1) := by decide +kernel
theorem dX9_left_52 : decode cX9_left 52 = .ok (.iinc 2 1, 3) := by decide +kernel
theorem dX9_left_55 : decode cX9_left 55 = .ok (.goto (-20), 3) := by decide +kernel
theorem dX9_left_58 : decode cX9_left 58 = .ok (.aload_n 0, 1) := by decide +kernel
theorem dX9_left_59 : decode cX9_left 59 = .ok (.getfield 33, 3) := by decide +kernel
theorem dX9_left_62 : decode cX9_left 62 = .ok (.aload_n 0, 1) := by decide +kernel
theorem dX9_left_63 : decode cX9_left 63 = .ok (.getfield 67, 3) := by decide +kernel
theorem dX9_left_66 : decode cX9_left 66 = .ok (.invokevirtual 324, 3) := by decide +kernel
theorem dX9_left_69 : decode cX9_left 69 = .ok (.ireturn, 1) := by decide +kernel
theorem dX9_last_0 : decode cX9_last 0 = .ok (.aload_n 0, 1) := by decide +kernel
theorem dX9_last_1 : decode cX9_last 1 = .ok (.getfield 21, 3) := by decide +kernel
theorem dX9_last_4 : decode cX9_last 4 = .ok (.iload_n 1, 1) := by decide +kernel
theorem dX9_last_5 : decode cX9_last 5 = .ok (.invokevirtual 169, 3) := by decide +kernel
theorem dX9_last_8 : decode cX9_last 8 = .ok (.ifCond .ne 5, 3) := by decide +kernel
theorem dX9_last_11 : decode cX9_last 11 = .ok (.iconst (-1), 1) := by decide +kernel
theorem dX9_last_12 : decode cX9_last 12 = .ok (.ireturn, 1) := by decide +kernel
theorem dX9_last_13 : decode cX9_last 13 = .ok (.aload_n 0, 1) := by decide +kernel
theorem dX9_last_14 : decode cX9_last 14 = .ok (.getfield 67, 3) := by decide +kernel
theorem dX9_last_17 : decode cX9_last 17 = .ok (.aload_n 0, 1) := by decide +kernel
theorem dX9_last_18 : decode cX9_last 18 = .ok (.getfield 63, 3) := by decide +kernel
theorem dX9_last_21 : decode cX9_last 21 = .ok (.invokevirtual 308, 3) := by decide +kernel
theorem dX9_last_24 : decode cX9_last 24 = .ok (.iconst 0, 1) := by decide +kernel
theorem dX9_last_25 : decode cX9_last 25 = .ok (.istore_n 2, 1) := by decide +kernel
theorem dX9_last_26 : decode cX9_last 26 = .ok (.iload_n 2, 1) := by decide +kernel
theorem dX9_last_27 : decode cX9_last 27 = .ok (.bipush 99, 2) := by decide +kernel
theorem dX9_last_29 : decode cX9_last 29 = .ok (.if_icmp .gt 35, 3) := by decide +kernel
theorem dX9_last_32 : decode cX9_last 32 = .ok (.aload_n 0, 1) := by decide +kernel
theorem dX9_last_33 : decode cX9_last 33 = .ok (.getfield 67, 3) := by decide +kernel
theorem dX9_last_36 : decode cX9_last 36 = .ok (.getfield 175, 3) := by decide +kernel
theorem dX9_last_39 : decode cX9_last 39 = .ok (.iload_n 1, 1) := by decide +kernel
theorem dX9_last_40 : decode cX9_last 40 = .ok (.iaload, 1) := by decide +kernel
theorem dX9_last_41 : decode cX9_last 41 = .ok (.ifCond .ne 5, 3) := by decide +kernel
theorem dX9_last_44 : decode cX9_last 44 = .ok (.iload_n 2, 1) := by decide +kernel
theorem dX9_last_45 : decode cX9_last 45 = .ok (.ireturn, 1) := by decide +kernel
theorem dX9_last_46 : decode cX9_last 46 = .ok (.aload_n 0, 1) := by decide +kernel
theorem dX9_last_47 : decode cX9_last 47 = .ok (.getfield 33, 3) := by decide +kernel
theorem dX9_last_50 : decode cX9_last 50 = .ok (.aload_n 0, 1) := by decide +kernel
theorem dX9_last_51 : decode cX9_last 51 = .ok (.getfield 67, 3) := by decide +kernel
theorem dX9_last_54 : decode cX9_last 54 = .ok (.invokevirtual 331, 3) := by decide +kernel
theorem dX9_last_57 : decode cX9_last 57 = .ok (.pop, 1) := by decide +kernel
theorem dX9_last_58 : decode cX9_last 58 = .ok (.iinc 2 1, 3) := by decide +kernel
theorem dX9_last_61 : decode cX9_last 61 = .ok (.goto (-35), 3) := by decide +kernel
theorem dX9_last_64 : decode cX9_last 64 = .ok (.iconst (-1), 1) := by decide +kernel
theorem dX9_last_65 : decode cX9_last 65 = .ok (.ireturn, 1) := by decide +kernel
theorem dX9_order_0 : decode cX9_order 0 = .ok (.aload_n 0, 1) := by decide +kernel
theorem dX9_order_1 : decode cX9_order 1 = .ok (.getfield 21, 3) := by decide +kernel
theorem dX9_order_4 : decode cX9_order 4 = .ok (.iload_n 1, 1) := by decide +kernel
theorem dX9_order_5 : decode cX9_order 5 = .ok (.invokevirtual 185, 3) := by decide +kernel
theorem dX9_order_8 : decode cX9_order 8 = .ok (.ifCond .eq 19, 3) := by decide +kernel
theorem dX9_order_11 : decode cX9_order 11 = .ok (.iload_n 2, 1) := by decide +kernel
theorem dX9_order_12 : decode cX9_order 12 = .ok (.invokestatic 334, 3) := by decide +kernel
theorem dX9_order_15 : decode cX9_order 15 = .ok (.ifCond .eq 12, 3) := by decide +kernel
theorem dX9_order_18 : decode cX9_order 18 = .ok (.iload_n 3, 1) := by decide +kernel
theorem dX9_order_19 : decode cX9_order 19 = .ok (.ifCond .lt 8, 3) := by decide +kernel
theorem dX9_order_22 : decode cX9_order 22 = .ok (.iload_n 3, 1) := by decide +kernel
theorem dX9_order_23 : decode cX9_order 23 = .ok (.iconst 1, 1) := by decide +kernel
theorem dX9_order_24 : decode cX9_order 24 = .ok (.if_icmp .le 7, 3) := by decide +kernel
theorem dX9_order_27 : decode cX9_order 27 = .ok (.ldc_w 307, 3) := by decide +kernel
theorem dX9_order_30 : decode cX9_order 30 = .ok (.ireturn, 1) := by decide +kernel
theorem dX9_order_31 : decode cX9_order 31 = .ok (.aload_n 0, 1) := by decide +kernel
theorem dX9_order_32 : decode cX9_order 32 = .ok (.getfield 42, 3) := by decide +kernel
theorem dX9_order_35 : decode cX9_order 35 = .ok (.aload_n 0, 1) := by decide +kernel
theorem dX9_order_36 : decode cX9_order 36 = .ok (.getfield 63, 3) := by decide +kernel
theorem dX9_order_39 : decode cX9_order 39 = .ok (.iload_n 1, 1) := by decide +kernel
theorem dX9_order_40 : decode cX9_order 40 = .ok (.iload_n 2, 1) := by decide +kernel
theorem dX9_order_41 : decode cX9_order 41 = .ok (.invokevirtual 337, 3) := by decide +kernel
theorem dX9_order_44 : decode cX9_order 44 = .ok (.ifCond .ne 7, 3) := by decide +kernel
theorem dX9_order_47 : decode cX9_order 47 = .ok (.ldc_w 307, 3) := by decide +kernel
theorem dX9_order_50 : decode cX9_order 50 = .ok (.ireturn, 1) := by decide +kernel
theorem dX9_order_51 : decode cX9_order 51 = .ok (.iload_n 3, 1) := by decide +kernel
theorem dX9_order_52 : decode cX9_order 52 = .ok (.ifCond .ne 13, 3) := by decide +kernel
theorem dX9_order_55 : decode cX9_order 55 = .ok (.aload_n 0, 1) := by decide +kernel
theorem dX9_order_56 : decode cX9_order 56 = .ok (.getfield 42, 3) := by decide +kernel
theorem dX9_order_59 : decode cX9_order 59 = .ok (.getfield 341, 3) := by decide +kernel
theorem dX9_order_62 : decode cX9_order 62 = .ok (.goto 10, 3) := by decide +kernel
theorem dX9_order_65 : decode cX9_order 65 = .ok (.aload_n 0, 1) := by decide +kernel
theorem dX9_order_66 : decode cX9_order 66 = .ok (.getfield 42, 3) := by decide +kernel
theorem dX9_order_69 : decode cX9_order 69 = .ok (.getfield 344, 3) := by decide +kernel
theorem dX9_order_72 : decode cX9_order 72 = .ok (.ireturn, 1) := by decide +kernel
theorem dX9_isBook_0 : decode cX9_isBook 0 = .ok (.iload_n 0, 1) := by decide +kernel
theorem dX9_isBook_1 : decode cX9_isBook 1 = .ok (.ifCond .lt 12, 3) := by decide +kernel
theorem dX9_isBook_4 : decode cX9_isBook 4 = .ok (.iload_n 0, 1) := by decide +kernel
theorem dX9_isBook_5 : decode cX9_isBook 5 = .ok (.iconst 5, 1) := by decide +kernel
theorem dX9_isBook_6 : decode cX9_isBook 6 = .ok (.if_icmp .ge 7, 3) := by decide +kernel
theorem dX9_isBook_9 : decode cX9_isBook 9 = .ok (.iconst 1, 1) := by decide +kernel
theorem dX9_isBook_10 : decode cX9_isBook 10 = .ok (.goto 4, 3) := by decide +kernel
theorem dX9_isBook_13 : decode cX9_isBook 13 = .ok (.iconst 0, 1) := by decide +kernel
theorem dX9_isBook_14 : decode cX9_isBook 14 = .ok (.ireturn, 1) := by decide +kernel
theorem dX9_share_0 : decode cX9_share 0 = .ok (.aload_n 0, 1) := by decide +kernel
theorem dX9_share_1 : decode cX9_share 1 = .ok (.getfield 21, 3) := by decide +kernel
theorem dX9_share_4 : decode cX9_share 4 = .ok (.invokevirtual 151, 3) := by decide +kernel
theorem dX9_share_7 : decode cX9_share 7 = .ok (.ifCond .eq 19, 3) := by decide +kernel
theorem dX9_share_10 : decode cX9_share 10 = .ok (.iload_n 1, 1) := by decide +kernel
theorem dX9_share_11 : decode cX9_share 11 = .ok (.invokestatic 334, 3) := by decide +kernel
theorem dX9_share_14 : decode cX9_share 14 = .ok (.ifCond .eq 12, 3) := by decide +kernel
theorem dX9_share_17 : decode cX9_share 17 = .ok (.iload_n 2, 1) := by decide +kernel
theorem dX9_share_18 : decode cX9_share 18 = .ok (.ifCond .lt 8, 3) := by decide +kernel
theorem dX9_share_21 : decode cX9_share 21 = .ok (.iload_n 2, 1) := by decide +kernel
theorem dX9_share_22 : decode cX9_share 22 = .ok (.iconst 1, 1) := by decide +kernel
theorem dX9_share_23 : decode cX9_share 23 = .ok (.if_icmp .le 5, 3) := by decide +kernel
theorem dX9_share_26 : decode cX9_share 26 = .ok (.iconst (-1), 1) := by decide +kernel
theorem dX9_share_27 : decode cX9_share 27 = .ok (.ireturn, 1) := by decide +kernel
theorem dX9_share_28 : decode cX9_share 28 = .ok (.aload_n 0, 1) := by decide +kernel
theorem dX9_share_29 : decode cX9_share 29 = .ok (.getfield 42, 3) := by decide +kernel
theorem dX9_share_32 : decode cX9_share 32 = .ok (.aload_n 0, 1) := by decide +kernel
theorem dX9_share_33 : decode cX9_share 33 = .ok (.getfield 63, 3) := by decide +kernel
theorem dX9_share_36 : decode cX9_share 36 = .ok (.iload_n 1, 1) := by decide +kernel
theorem dX9_share_37 : decode cX9_share 37 = .ok (.invokevirtual 347, 3) := by decide +kernel
theorem dX9_share_40 : decode cX9_share 40 = .ok (.istore_n 3, 1) := by decide +kernel
theorem dX9_share_41 : decode cX9_share 41 = .ok (.iload_n 2, 1) := by decide +kernel
theorem dX9_share_42 : decode cX9_share 42 = .ok (.ifCond .ne 10, 3) := by decide +kernel
theorem dX9_share_45 : decode cX9_share 45 = .ok (.iload_n 3, 1) := by decide +kernel
theorem dX9_share_46 : decode cX9_share 46 = .ok (.invokestatic 261, 3) := by decide +kernel
theorem dX9_share_49 : decode cX9_share 49 = .ok (.goto 11, 3) := by decide +kernel
theorem dX9_share_52 : decode cX9_share 52 = .ok (.aload_n 0, 1) := by decide +kernel
theorem dX9_share_53 : decode cX9_share 53 = .ok (.getfield 42, 3) := by decide +kernel
theorem dX9_share_56 : decode cX9_share 56 = .ok (.iload_n 3, 1) := by decide +kernel
theorem dX9_share_57 : decode cX9_share 57 = .ok (.invokevirtual 351, 3) := by decide +kernel
theorem dX9_share_60 : decode cX9_share 60 = .ok (.ireturn, 1) := by decide +kernel
theorem dX9_who_0 : decode cX9_who 0 = .ok (.aload_n 0, 1) := by decide +kernel
theorem dX9_who_1 : decode cX9_who 1 = .ok (.getfield 21, 3) := by decide +kernel
theorem dX9_who_4 : decode cX9_who 4 = .ok (.invokevirtual 151, 3) := by decide +kernel
theorem dX9_who_7 : decode cX9_who 7 = .ok (.ifCond .eq 25, 3) := by decide +kernel
theorem dX9_who_10 : decode cX9_who 10 = .ok (.iload_n 1, 1) := by decide +kernel
theorem dX9_who_11 : decode cX9_who 11 = .ok (.invokestatic 334, 3) := by decide +kernel
theorem dX9_who_14 : decode cX9_who 14 = .ok (.ifCond .eq 18, 3) := by decide +kernel
theorem dX9_who_17 : decode cX9_who 17 = .ok (.aload_n 0, 1) := by decide +kernel
theorem dX9_who_18 : decode cX9_who 18 = .ok (.getfield 42, 3) := by decide +kernel
theorem dX9_who_21 : decode cX9_who 21 = .ok (.aload_n 0, 1) := by decide +kernel
theorem dX9_who_22 : decode cX9_who 22 = .ok (.getfield 63, 3) := by decide +kernel
theorem dX9_who_25 : decode cX9_who 25 = .ok (.iload_n 1, 1) := by decide +kernel
theorem dX9_who_26 : decode cX9_who 26 = .ok (.invokevirtual 354, 3) := by decide +kernel
theorem dX9_who_29 : decode cX9_who 29 = .ok (.goto 4, 3) := by decide +kernel
theorem dX9_who_32 : decode cX9_who 32 = .ok (.iconst (-1), 1) := by decide +kernel
theorem dX9_who_33 : decode cX9_who 33 = .ok (.ireturn, 1) := by decide +kernel
theorem dX9_first_0 : decode cX9_first 0 = .ok (.aload_n 0, 1) := by decide +kernel
theorem dX9_first_1 : decode cX9_first 1 = .ok (.getfield 33, 3) := by decide +kernel
theorem dX9_first_4 : decode cX9_first 4 = .ok (.aload_n 0, 1) := by decide +kernel
theorem dX9_first_5 : decode cX9_first 5 = .ok (.getfield 63, 3) := by decide +kernel
theorem dX9_first_8 : decode cX9_first 8 = .ok (.invokevirtual 357, 3) := by decide +kernel
theorem dX9_first_11 : decode cX9_first 11 = .ok (.istore_n 1, 1) := by decide +kernel
theorem dX9_first_12 : decode cX9_first 12 = .ok (.iconst (-1), 1) := by decide +kernel
theorem dX9_first_13 : decode cX9_first 13 = .ok (.istore_n 2, 1) := by decide +kernel
theorem dX9_first_14 : decode cX9_first 14 = .ok (.iconst 0, 1) := by decide +kernel
theorem dX9_first_15 : decode cX9_first 15 = .ok (.istore_n 3, 1) := by decide +kernel
theorem dX9_first_16 : decode cX9_first 16 = .ok (.iload_n 3, 1) := by decide +kernel
theorem dX9_first_17 : decode cX9_first 17 = .ok (.aload_n 0, 1) := by decide +kernel
theorem dX9_first_18 : decode cX9_first 18 = .ok (.getfield 21, 3) := by decide +kernel
theorem dX9_first_21 : decode cX9_first 21 = .ok (.getfield 148, 3) := by decide +kernel
theorem dX9_first_24 : decode cX9_first 24 = .ok (.if_icmp .ge 66, 3) := by decide +kernel
theorem dX9_first_27 : decode cX9_first 27 = .ok (.aload_n 0, 1) := by decide +kernel
theorem dX9_first_28 : decode cX9_first 28 = .ok (.iload_n 3, 1) := by decide +kernel
theorem dX9_first_29 : decode cX9_first 29 = .ok (.invokevirtual 227, 3) := by decide +kernel
theorem dX9_first_32 : decode cX9_first 32 = .ok (.ifCond .eq 16, 3) := by decide +kernel
theorem dX9_first_35 : decode cX9_first 35 = .ok (.iload_n 1, 1) := by decide +kernel
theorem dX9_first_36 : decode cX9_first 36 = .ok (.iload_n 3, 1) := by decide +kernel
theorem dX9_first_37 : decode cX9_first 37 = .ok (.ishr, 1) := by decide +kernel
theorem dX9_first_38 : decode cX9_first 38 = .ok (.iconst 1, 1) := by decide +kernel
theorem dX9_first_39 : decode cX9_first 39 = .ok (.iand, 1) := by decide +kernel
theorem dX9_first_40 : decode cX9_first 40 = .ok (.iconst 1, 1) := by decide +kernel
theorem dX9_first_41 : decode cX9_first 41 = .ok (.if_icmp .ne 7, 3) := by decide +kernel
theorem dX9_first_44 : decode cX9_first 44 = .ok (.iconst 1, 1) := by decide +kernel
theorem dX9_first_45 : decode cX9_first 45 = .ok (.goto 4, 3) := by decide +kernel
theorem dX9_first_48 : decode cX9_first 48 = .ok (.iconst 0, 1) := by decide +kernel
theorem dX9_first_49 : decode cX9_first 49 = .ok (.istore 4, 2) := by decide +kernel
theorem dX9_first_51 : decode cX9_first 51 = .ok (.iload 4, 2) := by decide +kernel
theorem dX9_first_53 : decode cX9_first 53 = .ok (.ifCond .eq 31, 3) := by decide +kernel
theorem dX9_first_56 : decode cX9_first 56 = .ok (.iload_n 2, 1) := by decide +kernel
theorem dX9_first_57 : decode cX9_first 57 = .ok (.iconst (-1), 1) := by decide +kernel
theorem dX9_first_58 : decode cX9_first 58 = .ok (.if_icmp .eq 24, 3) := by decide +kernel
theorem dX9_first_61 : decode cX9_first 61 = .ok (.aload_n 0, 1) := by decide +kernel
theorem dX9_first_62 : decode cX9_first 62 = .ok (.getfield 63, 3) := by decide +kernel
theorem dX9_first_65 : decode cX9_first 65 = .ok (.getfield 175, 3) := by decide +kernel
theorem dX9_first_68 : decode cX9_first 68 = .ok (.iload_n 3, 1) := by decide +kernel
theorem dX9_first_69 : decode cX9_first 69 = .ok (.iaload, 1) := by decide +kernel
theorem dX9_first_70 : decode cX9_first 70 = .ok (.aload_n 0, 1) := by decide +kernel
theorem dX9_first_71 : decode cX9_first 71 = .ok (.getfield 63, 3) := by decide +kernel
theorem dX9_first_74 : decode cX9_first 74 = .ok (.getfield 175, 3) := by decide +kernel
theorem dX9_first_77 : decode cX9_first 77 = .ok (.iload_n 2, 1) := by decide +kernel
theorem dX9_first_78 : decode cX9_first 78 = .ok (.iaload, 1) := by decide +kernel
theorem dX9_first_79 : decode cX9_first 79 = .ok (.if_icmp .ge 5, 3) := by decide +kernel
theorem dX9_first_82 : decode cX9_first 82 = .ok (.iload_n 3, 1) := by decide +kernel
theorem dX9_first_83 : decode cX9_first 83 = .ok (.istore_n 2, 1) := by decide +kernel
theorem dX9_first_84 : decode cX9_first 84 = .ok (.iinc 3 1, 3) := by decide +kernel
theorem dX9_first_87 : decode cX9_first 87 = .ok (.goto (-71), 3) := by decide +kernel
theorem dX9_first_90 : decode cX9_first 90 = .ok (.iload_n 2, 1) := by decide +kernel
theorem dX9_first_91 : decode cX9_first 91 = .ok (.ireturn, 1) := by decide +kernel
theorem dX9_placeFor_0 : decode cX9_placeFor 0 = .ok (.aload_n 0, 1) := by decide +kernel
theorem dX9_placeFor_1 : decode cX9_placeFor 1 = .ok (.getfield 21, 3) := by decide +kernel
theorem dX9_placeFor_4 : decode cX9_placeFor 4 = .ok (.iload_n 1, 1) := by decide +kernel
theorem dX9_placeFor_5 : decode cX9_placeFor 5 = .ok (.invokevirtual 169, 3) := by decide +kernel
theorem dX9_placeFor_8 : decode cX9_placeFor 8 = .ok (.ifCond .eq 12, 3) := by decide +kernel
theorem dX9_placeFor_11 : decode cX9_placeFor 11 = .ok (.iload_n 2, 1) := by decide +kernel
theorem dX9_placeFor_12 : decode cX9_placeFor 12 = .ok (.ifCond .lt 8, 3) := by decide +kernel
theorem dX9_placeFor_15 : decode cX9_placeFor 15 = .ok (.iload_n 2, 1) := by decide +kernel
theorem dX9_placeFor_16 : decode cX9_placeFor 16 = .ok (.iconst 1, 1) := by decide +kernel
theorem dX9_placeFor_17 : decode cX9_placeFor 17 = .ok (.if_icmp .le 5, 3) := by decide +kernel
theorem dX9_placeFor_20 : decode cX9_placeFor 20 = .ok (.iconst (-1), 1) := by decide +kernel
theorem dX9_placeFor_21 : decode cX9_placeFor 21 = .ok (.ireturn, 1) := by decide +kernel
theorem dX9_placeFor_22 : decode cX9_placeFor 22 = .ok (.iconst 0, 1) := by decide +kernel
theorem dX9_placeFor_23 : decode cX9_placeFor 23 = .ok (.istore_n 3, 1) := by decide +kernel
theorem dX9_placeFor_24 : decode cX9_placeFor 24 = .ok (.iconst 1, 1) := by decide +kernel
theorem dX9_placeFor_25 : decode cX9_placeFor 25 = .ok (.istore 4, 2) := by decide +kernel
theorem dX9_placeFor_27 : decode cX9_placeFor 27 = .ok (.iload 4, 2) := by decide +kernel
theorem dX9_placeFor_29 : decode cX9_placeFor 29 = .ok (.aload_n 0, 1) := by decide +kernel
theorem dX9_placeFor_30 : decode cX9_placeFor 30 = .ok (.getfield 21, 3) := by decide +kernel
theorem dX9_placeFor_33 : decode cX9_placeFor 33 = .ok (.invokevirtual 360, 3) := by decide +kernel
theorem dX9_placeFor_36 : decode cX9_placeFor 36 = .ok (.if_icmp .ge 42, 3) := by decide +kernel
theorem dX9_placeFor_39 : decode cX9_placeFor 39 = .ok (.aload_n 0, 1) := by decide +kernel
theorem dX9_placeFor_40 : decode cX9_placeFor 40 = .ok (.getfield 42, 3) := by decide +kernel
theorem dX9_placeFor_43 : decode cX9_placeFor 43 = .ok (.aload_n 0, 1) := by decide +kernel
theorem dX9_placeFor_44 : decode cX9_placeFor 44 = .ok (.getfield 63, 3) := by decide +kernel
theorem dX9_placeFor_47 : decode cX9_placeFor 47 = .ok (.iload_n 1, 1) := by decide +kernel
theorem dX9_placeFor_48 : decode cX9_placeFor 48 = .ok (.iload 4, 2) := by decide +kernel
theorem dX9_placeFor_50 : decode cX9_placeFor 50 = .ok (.invokevirtual 363, 3) := by decide +kernel
theorem dX9_placeFor_53 : decode cX9_placeFor 53 = .ok (.aload_n 0, 1) := by decide +kernel
theorem dX9_placeFor_54 : decode cX9_placeFor 54 = .ok (.getfield 42, 3) := by decide +kernel
theorem dX9_placeFor_57 : decode cX9_placeFor 57 = .ok (.aload_n 0, 1) := by decide +kernel
theorem dX9_placeFor_58 : decode cX9_placeFor 58 = .ok (.getfield 63, 3) := by decide +kernel
theorem dX9_placeFor_61 : decode cX9_placeFor 61 = .ok (.iload_n 1, 1) := by decide +kernel
theorem dX9_placeFor_62 : decode cX9_placeFor 62 = .ok (.iload_n 3, 1) := by decide +kernel
theorem dX9_placeFor_63 : decode cX9_placeFor 63 = .ok (.invokevirtual 363, 3) := by decide +kernel
theorem dX9_placeFor_66 : decode cX9_placeFor 66 = .ok (.if_icmp .le 6, 3) := by decide +kernel
theorem dX9_placeFor_69 : decode cX9_placeFor 69 = .ok (.iload 4, 2) := by decide +kernel
theorem dX9_placeFor_71 : decode cX9_placeFor 71 = .ok (.istore_n 3, 1) := by decide +kernel
theorem dX9_placeFor_72 : decode cX9_placeFor 72 = .ok (.iinc 4 1, 3) := by decide +kernel
theorem dX9_placeFor_75 : decode cX9_placeFor 75 = .ok (.goto (-48), 3) := by decide +kernel
theorem dX9_placeFor_78 : decode cX9_placeFor 78 = .ok (.iload_n 2, 1) := by decide +kernel
theorem dX9_placeFor_79 : decode cX9_placeFor 79 = .ok (.ifCond .ne 7, 3) := by decide +kernel
theorem dX9_placeFor_82 : decode cX9_placeFor 82 = .ok (.iload_n 3, 1) := by decide +kernel
theorem dX9_placeFor_83 : decode cX9_placeFor 83 = .ok (.goto 16, 3) := by decide +kernel
theorem dX9_placeFor_86 : decode cX9_placeFor 86 = .ok (.aload_n 0, 1) := by decide +kernel
theorem dX9_placeFor_87 : decode cX9_placeFor 87 = .ok (.getfield 42, 3) := by decide +kernel
theorem dX9_placeFor_90 : decode cX9_placeFor 90 = .ok (.aload_n 0, 1) := by decide +kernel
theorem dX9_placeFor_91 : decode cX9_placeFor 91 = .ok (.getfield 63, 3) := by decide +kernel
theorem dX9_placeFor_94 : decode cX9_placeFor 94 = .ok (.iload_n 1, 1) := by decide +kernel
theorem dX9_placeFor_95 : decode cX9_placeFor 95 = .ok (.iload_n 3, 1) := by decide +kernel
theorem dX9_placeFor_96 : decode cX9_placeFor 96 = .ok (.invokevirtual 363, 3) := by decide +kernel
theorem dX9_placeFor_99 : decode cX9_placeFor 99 = .ok (.ireturn, 1) := by decide +kernel
theorem dX9_needy_0 : decode cX9_needy 0 = .ok (.aload_n 0, 1) := by decide +kernel
theorem dX9_needy_1 : decode cX9_needy 1 = .ok (.getfield 21, 3) := by decide +kernel
theorem dX9_needy_4 : decode cX9_needy 4 = .ok (.invokevirtual 151, 3) := by decide +kernel
theorem dX9_needy_7 : decode cX9_needy 7 = .ok (.ifCond .ne 5, 3) := by decide +kernel
theorem dX9_needy_10 : decode cX9_needy 10 = .ok (.iconst (-1), 1) := by decide +kernel
theorem dX9_needy_11 : decode cX9_needy 11 = .ok (.ireturn, 1) := by decide +kernel
theorem dX9_needy_12 : decode cX9_needy 12 = .ok (.iconst 0, 1) := by decide +kernel
theorem dX9_needy_13 : decode cX9_needy 13 = .ok (.istore_n 1, 1) := by decide +kernel
theorem dX9_needy_14 : decode cX9_needy 14 = .ok (.iconst 0, 1) := by decide +kernel
theorem dX9_needy_15 : decode cX9_needy 15 = .ok (.istore_n 2, 1) := by decide +kernel
theorem dX9_needy_16 : decode cX9_needy 16 = .ok (.iload_n 2, 1) := by decide +kernel
theorem dX9_needy_17 : decode cX9_needy 17 = .ok (.aload_n 0, 1) := by decide +kernel
theorem dX9_needy_18 : decode cX9_needy 18 = .ok (.getfield 21, 3) := by decide +kernel
theorem dX9_needy_21 : decode cX9_needy 21 = .ok (.getfield 276, 3) := by decide +kernel
theorem dX9_needy_24 : decode cX9_needy 24 = .ok (.if_icmp .ge 44, 3) := by decide +kernel
theorem dX9_needy_27 : decode cX9_needy 27 = .ok (.aload_n 0, 1) := by decide +kernel
theorem dX9_needy_28 : decode cX9_needy 28 = .ok (.getfield 21, 3) := by decide +kernel
theorem dX9_needy_31 : decode cX9_needy 31 = .ok (.aload_n 0, 1) := by decide +kernel
theorem dX9_needy_32 : decode cX9_needy 32 = .ok (.getfield 21, 3) := by decide +kernel
theorem dX9_needy_35 : decode cX9_needy 35 = .ok (.iload_n 2, 1) := by decide +kernel
theorem dX9_needy_36 : decode cX9_needy 36 = .ok (.invokevirtual 204, 3) := by decide +kernel
theorem dX9_needy_39 : decode cX9_needy 39 = .ok (.invokevirtual 366, 3) := by decide +kernel
theorem dX9_needy_42 : decode cX9_needy 42 = .ok (.aload_n 0, 1) := by decide +kernel
theorem dX9_needy_43 : decode cX9_needy 43 = .ok (.getfield 63, 3) := by decide +kernel
theorem dX9_needy_46 : decode cX9_needy 46 = .ok (.iload_n 2, 1) := by decide +kernel
theorem dX9_needy_47 : decode cX9_needy 47 = .ok (.invokevirtual 210, 3) := by decide +kernel
theorem dX9_needy_50 : decode cX9_needy 50 = .ok (.iconst (-1), 1) := by decide +kernel
theorem dX9_needy_51 : decode cX9_needy 51 = .ok (.ixor, 1) := by decide +kernel
theorem dX9_needy_52 : decode cX9_needy 52 = .ok (.iand, 1) := by decide +kernel
theorem dX9_needy_53 : decode cX9_needy 53 = .ok (.ifCond .eq 9, 3) := by decide +kernel
theorem dX9_needy_56 : decode cX9_needy 56 = .ok (.iload_n 1, 1) := by decide +kernel
theorem dX9_needy_57 : decode cX9_needy 57 = .ok (.iconst 1, 1) := by decide +kernel
theorem dX9_needy_58 : decode cX9_needy 58 = .ok (.iload_n 2, 1) := by decide +kernel
theorem dX9_needy_59 : decode cX9_needy 59 = .ok (.ishl, 1) := by decide +kernel
theorem dX9_needy_60 : decode cX9_needy 60 = .ok (.ior, 1) := by decide +kernel
theorem dX9_needy_61 : decode cX9_needy 61 = .ok (.istore_n 1, 1) := by decide +kernel
theorem dX9_needy_62 : decode cX9_needy 62 = .ok (.iinc 2 1, 3) := by decide +kernel
theorem dX9_needy_65 : decode cX9_needy 65 = .ok (.goto (-49), 3) := by decide +kernel
theorem dX9_needy_68 : decode cX9_needy 68 = .ok (.iload_n 1, 1) := by decide +kernel
theorem dX9_needy_69 : decode cX9_needy 69 = .ok (.ireturn, 1) := by decide +kernel
theorem dX9_known_0 : decode cX9_known 0 = .ok (.aload_n 0, 1) := by decide +kernel
theorem dX9_known_1 : decode cX9_known 1 = .ok (.getfield 21, 3) := by decide +kernel
theorem dX9_known_4 : decode cX9_known 4 = .ok (.invokevirtual 151, 3) := by decide +kernel
theorem dX9_known_7 : decode cX9_known 7 = .ok (.ifCond .eq 17, 3) := by decide +kernel
theorem dX9_known_10 : decode cX9_known 10 = .ok (.aload_n 0, 1) := by decide +kernel
theorem dX9_known_11 : decode cX9_known 11 = .ok (.getfield 33, 3) := by decide +kernel
theorem dX9_known_14 : decode cX9_known 14 = .ok (.aload_n 0, 1) := by decide +kernel
theorem dX9_known_15 : decode cX9_known 15 = .ok (.getfield 63, 3) := by decide +kernel
theorem dX9_known_18 : decode cX9_known 18 = .ok (.invokevirtual 357, 3) := by decide +kernel
theorem dX9_known_21 : decode cX9_known 21 = .ok (.goto 4, 3) := by decide +kernel
theorem dX9_known_24 : decode cX9_known 24 = .ok (.iconst (-1), 1) := by decide +kernel
theorem dX9_known_25 : decode cX9_known 25 = .ok (.ireturn, 1) := by decide +kernel
theorem dX9_sure_0 : decode cX9_sure 0 = .ok (.aload_n 0, 1) := by decide +kernel
theorem dX9_sure_1 : decode cX9_sure 1 = .ok (.getfield 21, 3) := by decide +kernel
theorem dX9_sure_4 : decode cX9_sure 4 = .ok (.invokevirtual 151, 3) := by decide +kernel
theorem dX9_sure_7 : decode cX9_sure 7 = .ok (.ifCond .ne 5, 3) := by decide +kernel
theorem dX9_sure_10 : decode cX9_sure 10 = .ok (.iconst (-1), 1) := by decide +kernel
theorem dX9_sure_11 : decode cX9_sure 11 = .ok (.ireturn, 1) := by decide +kernel
theorem dX9_sure_12 : decode cX9_sure 12 = .ok (.iconst 0, 1) := by decide +kernel
theorem dX9_sure_13 : decode cX9_sure 13 = .ok (.istore_n 1, 1) := by decide +kernel
theorem dX9_sure_14 : decode cX9_sure 14 = .ok (.iconst 0, 1) := by decide +kernel
theorem dX9_sure_15 : decode cX9_sure 15 = .ok (.istore_n 2, 1) := by decide +kernel
theorem dX9_sure_16 : decode cX9_sure 16 = .ok (.iload_n 2, 1) := by decide +kernel
theorem dX9_sure_17 : decode cX9_sure 17 = .ok (.aload_n 0, 1) := by decide +kernel
theorem dX9_sure_18 : decode cX9_sure 18 = .ok (.getfield 21, 3) := by decide +kernel
theorem dX9_sure_21 : decode cX9_sure 21 = .ok (.getfield 148, 3) := by decide +kernel
theorem dX9_sure_24 : decode cX9_sure 24 = .ok (.if_icmp .ge 46, 3) := by decide +kernel
theorem dX9_sure_27 : decode cX9_sure 27 = .ok (.aload_n 0, 1) := by decide +kernel
theorem dX9_sure_28 : decode cX9_sure 28 = .ok (.getfield 42, 3) := by decide +kernel
theorem dX9_sure_31 : decode cX9_sure 31 = .ok (.aload_n 0, 1) := by decide +kernel
theorem dX9_sure_32 : decode cX9_sure 32 = .ok (.getfield 63, 3) := by decide +kernel
theorem dX9_sure_35 : decode cX9_sure 35 = .ok (.iload_n 2, 1) := by decide +kernel
theorem dX9_sure_36 : decode cX9_sure 36 = .ok (.invokevirtual 369, 3) := by decide +kernel
theorem dX9_sure_39 : decode cX9_sure 39 = .ok (.iconst 2, 1) := by decide +kernel
theorem dX9_sure_40 : decode cX9_sure 40 = .ok (.if_icmp .lt 24, 3) := by decide +kernel
theorem dX9_sure_43 : decode cX9_sure 43 = .ok (.aload_n 0, 1) := by decide +kernel
theorem dX9_sure_44 : decode cX9_sure 44 = .ok (.getfield 42, 3) := by decide +kernel
theorem dX9_sure_47 : decode cX9_sure 47 = .ok (.aload_n 0, 1) := by decide +kernel
theorem dX9_sure_48 : decode cX9_sure 48 = .ok (.getfield 63, 3) := by decide +kernel
theorem dX9_sure_51 : decode cX9_sure 51 = .ok (.iload_n 2, 1) := by decide +kernel
theorem dX9_sure_52 : decode cX9_sure 52 = .ok (.invokevirtual 372, 3) := by decide +kernel
theorem dX9_sure_55 : decode cX9_sure 55 = .ok (.ifCond .ne 9, 3) := by decide +kernel
theorem dX9_sure_58 : decode cX9_sure 58 = .ok (.iload_n 1, 1) := by decide +kernel
theorem dX9_sure_59 : decode cX9_sure 59 = .ok (.iconst 1, 1) := by decide +kernel
theorem dX9_sure_60 : decode cX9_sure 60 = .ok (.iload_n 2, 1) := by decide +kernel
theorem dX9_sure_61 : decode cX9_sure 61 = .ok (.ishl, 1) := by decide +kernel
theorem dX9_sure_62 : decode cX9_sure 62 = .ok (.ior, 1) := by decide +kernel
theorem dX9_sure_63 : decode cX9_sure 63 = .ok (.istore_n 1, 1) := by decide +kernel
theorem dX9_sure_64 : decode cX9_sure 64 = .ok (.iinc 2 1, 3) := by decide +kernel
theorem dX9_sure_67 : decode cX9_sure 67 = .ok (.goto (-51), 3) := by decide +kernel
theorem dX9_sure_70 : decode cX9_sure 70 = .ok (.iload_n 1, 1) := by decide +kernel
theorem dX9_sure_71 : decode cX9_sure 71 = .ok (.ireturn, 1) := by decide +kernel
theorem dX9_split_0 : decode cX9_split 0 = .ok (.aload_n 0, 1) := by decide +kernel
theorem dX9_split_1 : decode cX9_split 1 = .ok (.getfield 21, 3) := by decide +kernel
theorem dX9_split_4 : decode cX9_split 4 = .ok (.invokevirtual 151, 3) := by decide +kernel
theorem dX9_split_7 : decode cX9_split 7 = .ok (.ifCond .ne 5, 3) := by decide +kernel
theorem dX9_split_10 : decode cX9_split 10 = .ok (.iconst (-1), 1) := by decide +kernel
theorem dX9_split_11 : decode cX9_split 11 = .ok (.ireturn, 1) := by decide +kernel
theorem dX9_split_12 : decode cX9_split 12 = .ok (.iconst 0, 1) := by decide +kernel
theorem dX9_split_13 : decode cX9_split 13 = .ok (.istore_n 1, 1) := by decide +kernel
theorem dX9_split_14 : decode cX9_split 14 = .ok (.iconst 0, 1) := by decide +kernel
theorem dX9_split_15 : decode cX9_split 15 = .ok (.istore_n 2, 1) := by decide +kernel
theorem dX9_split_16 : decode cX9_split 16 = .ok (.iload_n 2, 1) := by decide +kernel
theorem dX9_split_17 : decode cX9_split 17 = .ok (.aload_n 0, 1) := by decide +kernel
theorem dX9_split_18 : decode cX9_split 18 = .ok (.getfield 21, 3) := by decide +kernel
theorem dX9_split_21 : decode cX9_split 21 = .ok (.getfield 148, 3) := by decide +kernel
theorem dX9_split_24 : decode cX9_split 24 = .ok (.if_icmp .ge 30, 3) := by decide +kernel
theorem dX9_split_27 : decode cX9_split 27 = .ok (.aload_n 0, 1) := by decide +kernel
theorem dX9_split_28 : decode cX9_split 28 = .ok (.getfield 42, 3) := by decide +kernel
theorem dX9_split_31 : decode cX9_split 31 = .ok (.aload_n 0, 1) := by decide +kernel
theorem dX9_split_32 : decode cX9_split 32 = .ok (.getfield 63, 3) := by decide +kernel
theorem dX9_split_35 : decode cX9_split 35 = .ok (.iload_n 2, 1) := by decide +kernel
theorem dX9_split_36 : decode cX9_split 36 = .ok (.invokevirtual 372, 3) := by decide +kernel
theorem dX9_split_39 : decode cX9_split 39 = .ok (.ifCond .eq 9, 3) := by decide +kernel
theorem dX9_split_42 : decode cX9_split 42 = .ok (.iload_n 1, 1) := by decide +kernel
theorem dX9_split_43 : decode cX9_split 43 = .ok (.iconst 1, 1) := by decide +kernel
theorem dX9_split_44 : decode cX9_split 44 = .ok (.iload_n 2, 1) := by decide +kernel
theorem dX9_split_45 : decode cX9_split 45 = .ok (.ishl, 1) := by decide +kernel
theorem dX9_split_46 : decode cX9_split 46 = .ok (.ior, 1) := by decide +kernel
theorem dX9_split_47 : decode cX9_split 47 = .ok (.istore_n 1, 1) := by decide +kernel
theorem dX9_split_48 : decode cX9_split 48 = .ok (.iinc 2 1, 3) := by decide +kernel
theorem dX9_split_51 : decode cX9_split 51 = .ok (.goto (-35), 3) := by decide +kernel
theorem dX9_split_54 : decode cX9_split 54 = .ok (.iload_n 1, 1) := by decide +kernel
theorem dX9_split_55 : decode cX9_split 55 = .ok (.ireturn, 1) := by decide +kernel
theorem dX9_likely_0 : decode cX9_likely 0 = .ok (.aload_n 0, 1) := by decide +kernel
theorem dX9_likely_1 : decode cX9_likely 1 = .ok (.getfield 21, 3) := by decide +kernel
theorem dX9_likely_4 : decode cX9_likely 4 = .ok (.iload_n 1, 1) := by decide +kernel
theorem dX9_likely_5 : decode cX9_likely 5 = .ok (.invokevirtual 169, 3) := by decide +kernel
theorem dX9_likely_8 : decode cX9_likely 8 = .ok (.ifCond .eq 12, 3) := by decide +kernel
theorem dX9_likely_11 : decode cX9_likely 11 = .ok (.iload_n 2, 1) := by decide +kernel
theorem dX9_likely_12 : decode cX9_likely 12 = .ok (.ifCond .lt 8, 3) := by decide +kernel
theorem dX9_likely_15 : decode cX9_likely 15 = .ok (.iload_n 2, 1) := by decide +kernel
theorem dX9_likely_16 : decode cX9_likely 16 = .ok (.iconst 1, 1) := by decide +kernel
theorem dX9_likely_17 : decode cX9_likely 17 = .ok (.if_icmp .le 5, 3) := by decide +kernel
theorem dX9_likely_20 : decode cX9_likely 20 = .ok (.iconst (-1), 1) := by decide +kernel
theorem dX9_likely_21 : decode cX9_likely 21 = .ok (.ireturn, 1) := by decide +kernel
theorem dX9_likely_22 : decode cX9_likely 22 = .ok (.aload_n 0, 1) := by decide +kernel
theorem dX9_likely_23 : decode cX9_likely 23 = .ok (.iload_n 1, 1) := by decide +kernel
theorem dX9_likely_24 : decode cX9_likely 24 = .ok (.invokevirtual 227, 3) := by decide +kernel
theorem dX9_likely_27 : decode cX9_likely 27 = .ok (.ifCond .ne 20, 3) := by decide +kernel
theorem dX9_likely_30 : decode cX9_likely 30 = .ok (.aload_n 0, 1) := by decide +kernel
theorem dX9_likely_31 : decode cX9_likely 31 = .ok (.getfield 42, 3) := by decide +kernel
theorem dX9_likely_34 : decode cX9_likely 34 = .ok (.aload_n 0, 1) := by decide +kernel
theorem dX9_likely_35 : decode cX9_likely 35 = .ok (.getfield 63, 3) := by decide +kernel
theorem dX9_likely_38 : decode cX9_likely 38 = .ok (.iload_n 1, 1) := by decide +kernel
theorem dX9_likely_39 : decode cX9_likely 39 = .ok (.invokevirtual 369, 3) := by decide +kernel
theorem dX9_likely_42 : decode cX9_likely 42 = .ok (.ifCond .ne 5, 3) := by decide +kernel
theorem dX9_likely_45 : decode cX9_likely 45 = .ok (.iconst (-1), 1) := by decide +kernel
theorem dX9_likely_46 : decode cX9_likely 46 = .ok (.ireturn, 1) := by decide +kernel
theorem dX9_likely_47 : decode cX9_likely 47 = .ok (.iconst 0, 1) := by decide +kernel
theorem dX9_likely_48 : decode cX9_likely 48 = .ok (.istore_n 3, 1) := by decide +kernel
theorem dX9_likely_49 : decode cX9_likely 49 = .ok (.iconst 1, 1) := by decide +kernel
theorem dX9_likely_50 : decode cX9_likely 50 = .ok (.istore 4, 2) := by decide +kernel
theorem dX9_likely_52 : decode cX9_likely 52 = .ok (.iload 4, 2) := by decide +kernel
theorem dX9_likely_54 : decode cX9_likely 54 = .ok (.bipush 10, 2) := by decide +kernel
theorem dX9_likely_56 : decode cX9_likely 56 = .ok (.if_icmp .ge 42, 3) := by decide +kernel
theorem dX9_likely_59 : decode cX9_likely 59 = .ok (.aload_n 0, 1) := by decide +kernel
theorem dX9_likely_60 : decode cX9_likely 60 = .ok (.getfield 42, 3) := by decide +kernel
theorem dX9_likely_63 : decode cX9_likely 63 = .ok (.aload_n 0, 1) := by decide +kernel
theorem dX9_likely_64 : decode cX9_likely 64 = .ok (.getfield 63, 3) := by decide +kernel
theorem dX9_likely_67 : decode cX9_likely 67 = .ok (.iload_n 1, 1) := by decide +kernel
theorem dX9_likely_68 : decode cX9_likely 68 = .ok (.iload 4, 2) := by decide +kernel
theorem dX9_likely_70 : decode cX9_likely 70 = .ok (.invokevirtual 376, 3) := by decide +kernel
theorem dX9_likely_73 : decode cX9_likely 73 = .ok (.aload_n 0, 1) := by decide +kernel
theorem dX9_likely_74 : decode cX9_likely 74 = .ok (.getfield 42, 3) := by decide +kernel
theorem dX9_likely_77 : decode cX9_likely 77 = .ok (.aload_n 0, 1) := by decide +kernel
theorem dX9_likely_78 : decode cX9_likely 78 = .ok (.getfield 63, 3) := by decide +kernel
theorem dX9_likely_81 : decode cX9_likely 81 = .ok (.iload_n 1, 1) := by decide +kernel
theorem dX9_likely_82 : decode cX9_likely 82 = .ok (.iload_n 3, 1) := by decide +kernel
theorem dX9_likely_83 : decode cX9_likely 83 = .ok (.invokevirtual 376, 3) := by decide +kernel
theorem dX9_likely_86 : decode cX9_likely 86 = .ok (.if_icmp .ge 6, 3) := by decide +kernel
theorem dX9_likely_89 : decode cX9_likely 89 = .ok (.iload 4, 2) := by decide +kernel
theorem dX9_likely_91 : decode cX9_likely 91 = .ok (.istore_n 3, 1) := by decide +kernel
theorem dX9_likely_92 : decode cX9_likely 92 = .ok (.iinc 4 1, 3) := by decide +kernel
theorem dX9_likely_95 : decode cX9_likely 95 = .ok (.goto (-43), 3) := by decide +kernel
theorem dX9_likely_98 : decode cX9_likely 98 = .ok (.iload_n 2, 1) := by decide +kernel
theorem dX9_likely_99 : decode cX9_likely 99 = .ok (.ifCond .ne 7, 3) := by decide +kernel
theorem dX9_likely_102 : decode cX9_likely 102 = .ok (.iload_n 3, 1) := by decide +kernel
theorem dX9_likely_103 : decode cX9_likely 103 = .ok (.goto 16, 3) := by decide +kernel
theorem dX9_likely_106 : decode cX9_likely 106 = .ok (.aload_n 0, 1) := by decide +kernel
theorem dX9_likely_107 : decode cX9_likely 107 = .ok (.getfield 42, 3) := by decide +kernel
theorem dX9_likely_110 : decode cX9_likely 110 = .ok (.aload_n 0, 1) := by decide +kernel
theorem dX9_likely_111 : decode cX9_likely 111 = .ok (.getfield 63, 3) := by decide +kernel
theorem dX9_likely_114 : decode cX9_likely 114 = .ok (.iload_n 1, 1) := by decide +kernel
theorem dX9_likely_115 : decode cX9_likely 115 = .ok (.iload_n 3, 1) := by decide +kernel
theorem dX9_likely_116 : decode cX9_likely 116 = .ok (.invokevirtual 376, 3) := by decide +kernel
theorem dX9_likely_119 : decode cX9_likely 119 = .ok (.ireturn, 1) := by decide +kernel
theorem dX9_breathed_0 : decode cX9_breathed 0 = .ok (.aload_n 0, 1) := by decide +kernel
theorem dX9_breathed_1 : decode cX9_breathed 1 = .ok (.iload_n 1, 1) := by decide +kernel
theorem dX9_breathed_2 : decode cX9_breathed 2 = .ok (.invokevirtual 227, 3) := by decide +kernel
theorem dX9_breathed_5 : decode cX9_breathed 5 = .ok (.ifCond .eq 30, 3) := by decide +kernel
theorem dX9_breathed_8 : decode cX9_breathed 8 = .ok (.aload_n 0, 1) := by decide +kernel
theorem dX9_breathed_9 : decode cX9_breathed 9 = .ok (.getfield 21, 3) := by decide +kernel
theorem dX9_breathed_12 : decode cX9_breathed 12 = .ok (.iload_n 2, 1) := by decide +kernel
theorem dX9_breathed_13 : decode cX9_breathed 13 = .ok (.invokevirtual 224, 3) := by decide +kernel
theorem dX9_breathed_16 : decode cX9_breathed 16 = .ok (.ifCond .eq 19, 3) := by decide +kernel
theorem dX9_breathed_19 : decode cX9_breathed 19 = .ok (.iload_n 3, 1) := by decide +kernel
theorem dX9_breathed_20 : decode cX9_breathed 20 = .ok (.ifCond .lt 15, 3) := by decide +kernel
theorem dX9_breathed_23 : decode cX9_breathed 23 = .ok (.iload_n 3, 1) := by decide +kernel
theorem dX9_breathed_24 : decode cX9_breathed 24 = .ok (.bipush 99, 2) := by decide +kernel
theorem dX9_breathed_26 : decode cX9_breathed 26 = .ok (.if_icmp .gt 9, 3) := by decide +kernel
theorem dX9_breathed_29 : decode cX9_breathed 29 = .ok (.iload 4, 2) := by decide +kernel
theorem dX9_breathed_31 : decode cX9_breathed 31 = .ok (.iconst (-1), 1) := by decide +kernel
theorem dX9_breathed_32 : decode cX9_breathed 32 = .ok (.if_icmp .ge 5, 3) := by decide +kernel
theorem dX9_breathed_35 : decode cX9_breathed 35 = .ok (.iconst (-1), 1) := by decide +kernel
theorem dX9_breathed_36 : decode cX9_breathed 36 = .ok (.ireturn, 1) := by decide +kernel
theorem dX9_breathed_37 : decode cX9_breathed 37 = .ok (.iconst 0, 1) := by decide +kernel
theorem dX9_breathed_38 : decode cX9_breathed 38 = .ok (.istore 5, 2) := by decide +kernel
theorem dX9_breathed_40 : decode cX9_breathed 40 = .ok (.iconst 0, 1) := by decide +kernel
theorem dX9_breathed_41 : decode cX9_breathed 41 = .ok (.istore 6, 2) := by decide +kernel
theorem dX9_breathed_43 : decode cX9_breathed 43 = .ok (.iload 6, 2) := by decide +kernel
theorem dX9_breathed_45 : decode cX9_breathed 45 = .ok (.iconst 1, 1) := by decide +kernel
theorem dX9_breathed_46 : decode cX9_breathed 46 = .ok (.aload_n 0, 1) := by decide +kernel
theorem dX9_breathed_47 : decode cX9_breathed 47 = .ok (.getfield 21, 3) := by decide +kernel
theorem dX9_breathed_50 : decode cX9_breathed 50 = .ok (.getfield 276, 3) := by decide +kernel
theorem dX9_breathed_53 : decode cX9_breathed 53 = .ok (.ishl, 1) := by decide +kernel
theorem dX9_breathed_54 : decode cX9_breathed 54 = .ok (.if_icmp .ge 41, 3) := by decide +kernel
theorem dX9_breathed_57 : decode cX9_breathed 57 = .ok (.aload_n 0, 1) := by decide +kernel
theorem dX9_breathed_58 : decode cX9_breathed 58 = .ok (.getfield 42, 3) := by decide +kernel
theorem dX9_breathed_61 : decode cX9_breathed 61 = .ok (.aload_n 0, 1) := by decide +kernel
theorem dX9_breathed_62 : decode cX9_breathed 62 = .ok (.getfield 63, 3) := by decide +kernel
theorem dX9_breathed_65 : decode cX9_breathed 65 = .ok (.iload_n 1, 1) := by decide +kernel
theorem dX9_breathed_66 : decode cX9_breathed 66 = .ok (.iload_n 2, 1) := by decide +kernel
theorem dX9_breathed_67 : decode cX9_breathed 67 = .ok (.iload 6, 2) := by decide +kernel
theorem dX9_breathed_69 : decode cX9_breathed 69 = .ok (.invokevirtual 379, 3) := by decide +kernel
theorem dX9_breathed_72 : decode cX9_breathed 72 = .ok (.iload_n 3, 1) := by decide +kernel
theorem dX9_breathed_73 : decode cX9_breathed 73 = .ok (.if_icmp .ne 16, 3) := by decide +kernel
theorem dX9_breathed_76 : decode cX9_breathed 76 = .ok (.iload 5, 2) := by decide +kernel
theorem dX9_breathed_78 : decode cX9_breathed 78 = .ok (.iload 4, 2) := by decide +kernel
theorem dX9_breathed_80 : decode cX9_breathed 80 = .ok (.if_icmp .ne 6, 3) := by decide +kernel
theorem dX9_breathed_83 : decode cX9_breathed 83 = .ok (.iload 6, 2) := by decide +kernel
theorem dX9_breathed_85 : decode cX9_breathed 85 = .ok (.ireturn, 1) := by decide +kernel
theorem dX9_breathed_86 : decode cX9_breathed 86 = .ok (.iinc 5 1, 3) := by decide +kernel
theorem dX9_breathed_89 : decode cX9_breathed 89 = .ok (.iinc 6 1, 3) := by decide +kernel
theorem dX9_breathed_92 : decode cX9_breathed 92 = .ok (.goto (-49), 3) := by decide +kernel
theorem dX9_breathed_95 : decode cX9_breathed 95 = .ok (.iload 4, 2) := by decide +kernel
theorem dX9_breathed_97 : decode cX9_breathed 97 = .ok (.iconst (-1), 1) := by decide +kernel
theorem dX9_breathed_98 : decode cX9_breathed 98 = .ok (.if_icmp .ne 8, 3) := by decide +kernel
theorem dX9_breathed_101 : decode cX9_breathed 101 = .ok (.iload 5, 2) := by decide +kernel
theorem dX9_breathed_103 : decode cX9_breathed 103 = .ok (.goto 4, 3) := by decide +kernel
theorem dX9_breathed_106 : decode cX9_breathed 106 = .ok (.iconst (-1), 1) := by decide +kernel
theorem dX9_breathed_107 : decode cX9_breathed 107 = .ok (.ireturn, 1) := by decide +kernel
theorem dX9_exam_0 : decode cX9_exam 0 = .ok (.iload_n 1, 1) := by decide +kernel
theorem dX9_exam_1 : decode cX9_exam 1 = .ok (.iconst 1, 1) := by decide +kernel
theorem dX9_exam_2 : decode cX9_exam 2 = .ok (.if_icmp .lt 23, 3) := by decide +kernel
theorem dX9_exam_5 : decode cX9_exam 5 = .ok (.iload_n 1, 1) := by decide +kernel
theorem dX9_exam_6 : decode cX9_exam 6 = .ok (.bipush 12, 2) := by decide +kernel
theorem dX9_exam_8 : decode cX9_exam 8 = .ok (.if_icmp .gt 17, 3) := by decide +kernel
theorem dX9_exam_11 : decode cX9_exam 11 = .ok (.iload_n 2, 1) := by decide +kernel
theorem dX9_exam_12 : decode cX9_exam 12 = .ok (.ifCond .lt 13, 3) := by decide +kernel
theorem dX9_exam_15 : decode cX9_exam 15 = .ok (.iload_n 2, 1) := by decide +kernel
theorem dX9_exam_16 : decode cX9_exam 16 = .ok (.bipush 13, 2) := by decide +kernel
theorem dX9_exam_18 : decode cX9_exam 18 = .ok (.if_icmp .gt 7, 3) := by decide +kernel
theorem dX9_exam_21 : decode cX9_exam 21 = .ok (.iconst 1, 1) := by decide +kernel
theorem dX9_exam_22 : decode cX9_exam 22 = .ok (.goto 4, 3) := by decide +kernel
theorem dX9_exam_25 : decode cX9_exam 25 = .ok (.iconst 0, 1) := by decide +kernel
theorem dX9_exam_26 : decode cX9_exam 26 = .ok (.istore 4, 2) := by decide +kernel
theorem dX9_exam_28 : decode cX9_exam 28 = .ok (.iload 4, 2) := by decide +kernel
theorem dX9_exam_30 : decode cX9_exam 30 = .ok (.ifCond .eq 13, 3) := by decide +kernel
theorem dX9_exam_33 : decode cX9_exam 33 = .ok (.iload_n 3, 1) := by decide +kernel
theorem dX9_exam_34 : decode cX9_exam 34 = .ok (.ifCond .lt 9, 3) := by decide +kernel
theorem dX9_exam_37 : decode cX9_exam 37 = .ok (.iload_n 3, 1) := by decide +kernel
theorem dX9_exam_38 : decode cX9_exam 38 = .ok (.bipush 100, 2) := by decide +kernel
theorem dX9_exam_40 : decode cX9_exam 40 = .ok (.if_icmp .le 5, 3) := by decide +kernel
theorem dX9_exam_43 : decode cX9_exam 43 = .ok (.iconst (-1), 1) := by decide +kernel
theorem dX9_exam_44 : decode cX9_exam 44 = .ok (.ireturn, 1) := by decide +kernel
theorem dX9_exam_45 : decode cX9_exam 45 = .ok (.aload_n 0, 1) := by decide +kernel
theorem dX9_exam_46 : decode cX9_exam 46 = .ok (.getfield 42, 3) := by decide +kernel
theorem dX9_exam_49 : decode cX9_exam 49 = .ok (.iload_n 1, 1) := by decide +kernel
theorem dX9_exam_50 : decode cX9_exam 50 = .ok (.iload_n 2, 1) := by decide +kernel
theorem dX9_exam_51 : decode cX9_exam 51 = .ok (.iload_n 3, 1) := by decide +kernel
theorem dX9_exam_52 : decode cX9_exam 52 = .ok (.invokevirtual 382, 3) := by decide +kernel
theorem dX9_exam_55 : decode cX9_exam 55 = .ok (.ireturn, 1) := by decide +kernel
theorem dX9_learnt_0 : decode cX9_learnt 0 = .ok (.aload_n 0, 1) := by decide +kernel
theorem dX9_learnt_1 : decode cX9_learnt 1 = .ok (.getfield 21, 3) := by decide +kernel
theorem dX9_learnt_4 : decode cX9_learnt 4 = .ok (.iload_n 1, 1) := by decide +kernel
theorem dX9_learnt_5 : decode cX9_learnt 5 = .ok (.invokevirtual 185, 3) := by decide +kernel
theorem dX9_learnt_8 : decode cX9_learnt 8 = .ok (.ifCond .ne 5, 3) := by decide +kernel
theorem dX9_learnt_11 : decode cX9_learnt 11 = .ok (.iconst (-1), 1) := by decide +kernel
theorem dX9_learnt_12 : decode cX9_learnt 12 = .ok (.ireturn, 1) := by decide +kernel
theorem dX9_learnt_13 : decode cX9_learnt 13 = .ok (.iconst 0, 1) := by decide +kernel
theorem dX9_learnt_14 : decode cX9_learnt 14 = .ok (.istore_n 2, 1) := by decide +kernel
theorem dX9_learnt_15 : decode cX9_learnt 15 = .ok (.iconst 0, 1) := by decide +kernel
theorem dX9_learnt_16 : decode cX9_learnt 16 = .ok (.istore_n 3, 1) := by decide +kernel
theorem dX9_learnt_17 : decode cX9_learnt 17 = .ok (.iload_n 3, 1) := by decide +kernel
theorem dX9_learnt_18 : decode cX9_learnt 18 = .ok (.aload_n 0, 1) := by decide +kernel
theorem dX9_learnt_19 : decode cX9_learnt 19 = .ok (.getfield 21, 3) := by decide +kernel
theorem dX9_learnt_22 : decode cX9_learnt 22 = .ok (.getfield 148, 3) := by decide +kernel
theorem dX9_learnt_25 : decode cX9_learnt 25 = .ok (.if_icmp .ge 51, 3) := by decide +kernel
theorem dX9_learnt_28 : decode cX9_learnt 28 = .ok (.aload_n 0, 1) := by decide +kernel
theorem dX9_learnt_29 : decode cX9_learnt 29 = .ok (.getfield 21, 3) := by decide +kernel
theorem dX9_learnt_32 : decode cX9_learnt 32 = .ok (.iload_n 3, 1) := by decide +kernel
theorem dX9_learnt_33 : decode cX9_learnt 33 = .ok (.invokevirtual 179, 3) := by decide +kernel
theorem dX9_learnt_36 : decode cX9_learnt 36 = .ok (.aload_n 0, 1) := by decide +kernel
theorem dX9_learnt_37 : decode cX9_learnt 37 = .ok (.getfield 21, 3) := by decide +kernel
theorem dX9_learnt_40 : decode cX9_learnt 40 = .ok (.iload_n 1, 1) := by decide +kernel
theorem dX9_learnt_41 : decode cX9_learnt 41 = .ok (.invokevirtual 204, 3) := by decide +kernel
theorem dX9_learnt_44 : decode cX9_learnt 44 = .ok (.if_icmp .ne 26, 3) := by decide +kernel
theorem dX9_learnt_47 : decode cX9_learnt 47 = .ok (.aload_n 0, 1) := by decide +kernel
theorem dX9_learnt_48 : decode cX9_learnt 48 = .ok (.getfield 63, 3) := by decide +kernel
theorem dX9_learnt_51 : decode cX9_learnt 51 = .ok (.iload_n 1, 1) := by decide +kernel
theorem dX9_learnt_52 : decode cX9_learnt 52 = .ok (.iload_n 3, 1) := by decide +kernel
theorem dX9_learnt_53 : decode cX9_learnt 53 = .ok (.invokevirtual 213, 3) := by decide +kernel
theorem dX9_learnt_56 : decode cX9_learnt 56 = .ok (.aload_n 0, 1) := by decide +kernel
theorem dX9_learnt_57 : decode cX9_learnt 57 = .ok (.getfield 21, 3) := by decide +kernel
theorem dX9_learnt_60 : decode cX9_learnt 60 = .ok (.iload_n 3, 1) := by decide +kernel
theorem dX9_learnt_61 : decode cX9_learnt 61 = .ok (.invokevirtual 386, 3) := by decide +kernel
theorem dX9_learnt_64 : decode cX9_learnt 64 = .ok (.if_icmp .ne 6, 3) := by decide +kernel
theorem dX9_learnt_67 : decode cX9_learnt 67 = .ok (.iinc 2 1, 3) := by decide +kernel
theorem dX9_learnt_70 : decode cX9_learnt 70 = .ok (.iinc 3 1, 3) := by decide +kernel
theorem dX9_learnt_73 : decode cX9_learnt 73 = .ok (.goto (-56), 3) := by decide +kernel
theorem dX9_learnt_76 : decode cX9_learnt 76 = .ok (.iload_n 2, 1) := by decide +kernel
theorem dX9_learnt_77 : decode cX9_learnt 77 = .ok (.ireturn, 1) := by decide +kernel
theorem dX9_quiet_0 : decode cX9_quiet 0 = .ok (.aload_n 0, 1) := by decide +kernel
theorem dX9_quiet_1 : decode cX9_quiet 1 = .ok (.getfield 21, 3) := by decide +kernel
theorem dX9_quiet_4 : decode cX9_quiet 4 = .ok (.iload_n 1, 1) := by decide +kernel
theorem dX9_quiet_5 : decode cX9_quiet 5 = .ok (.invokevirtual 185, 3) := by decide +kernel
theorem dX9_quiet_8 : decode cX9_quiet 8 = .ok (.ifCond .eq 12, 3) := by decide +kernel
theorem dX9_quiet_11 : decode cX9_quiet 11 = .ok (.iload_n 2, 1) := by decide +kernel
theorem dX9_quiet_12 : decode cX9_quiet 12 = .ok (.ifCond .lt 8, 3) := by decide +kernel
theorem dX9_quiet_15 : decode cX9_quiet 15 = .ok (.iload_n 2, 1) := by decide +kernel
theorem dX9_quiet_16 : decode cX9_quiet 16 = .ok (.iconst 1, 1) := by decide +kernel
theorem dX9_quiet_17 : decode cX9_quiet 17 = .ok (.if_icmp .le 5, 3) := by decide +kernel
theorem dX9_quiet_20 : decode cX9_quiet 20 = .ok (.iconst (-1), 1) := by decide +kernel
theorem dX9_quiet_21 : decode cX9_quiet 21 = .ok (.ireturn, 1) := by decide +kernel
theorem dX9_quiet_22 : decode cX9_quiet 22 = .ok (.iconst 0, 1) := by decide +kernel
theorem dX9_quiet_23 : decode cX9_quiet 23 = .ok (.istore_n 3, 1) := by decide +kernel
theorem dX9_quiet_24 : decode cX9_quiet 24 = .ok (.aload_n 0, 1) := by decide +kernel
theorem dX9_quiet_25 : decode cX9_quiet 25 = .ok (.getfield 33, 3) := by decide +kernel
theorem dX9_quiet_28 : decode cX9_quiet 28 = .ok (.aload_n 0, 1) := by decide +kernel
theorem dX9_quiet_29 : decode cX9_quiet 29 = .ok (.getfield 63, 3) := by decide +kernel
theorem dX9_quiet_32 : decode cX9_quiet 32 = .ok (.iload_n 1, 1) := by decide +kernel
theorem dX9_quiet_33 : decode cX9_quiet 33 = .ok (.iconst 0, 1) := by decide +kernel
theorem dX9_quiet_34 : decode cX9_quiet 34 = .ok (.invokevirtual 328, 3) := by decide +kernel
theorem dX9_quiet_37 : decode cX9_quiet 37 = .ok (.istore 4, 2) := by decide +kernel
theorem dX9_quiet_39 : decode cX9_quiet 39 = .ok (.iconst 1, 1) := by decide +kernel
theorem dX9_quiet_40 : decode cX9_quiet 40 = .ok (.istore 5, 2) := by decide +kernel
theorem dX9_quiet_42 : decode cX9_quiet 42 = .ok (.iload 5, 2) := by decide +kernel
theorem dX9_quiet_44 : decode cX9_quiet 44 = .ok (.aload_n 0, 1) := by decide +kernel
theorem dX9_quiet_45 : decode cX9_quiet 45 = .ok (.getfield 21, 3) := by decide +kernel
theorem dX9_quiet_48 : decode cX9_quiet 48 = .ok (.invokevirtual 360, 3) := by decide +kernel
theorem dX9_quiet_51 : decode cX9_quiet 51 = .ok (.if_icmp .ge 39, 3) := by decide +kernel
theorem dX9_quiet_54 : decode cX9_quiet 54 = .ok (.aload_n 0, 1) := by decide +kernel
theorem dX9_quiet_55 : decode cX9_quiet 55 = .ok (.getfield 33, 3) := by decide +kernel
theorem dX9_quiet_58 : decode cX9_quiet 58 = .ok (.aload_n 0, 1) := by decide +kernel
theorem dX9_quiet_59 : decode cX9_quiet 59 = .ok (.getfield 63, 3) := by decide +kernel
theorem dX9_quiet_62 : decode cX9_quiet 62 = .ok (.iload_n 1, 1) := by decide +kernel
theorem dX9_quiet_63 : decode cX9_quiet 63 = .ok (.iload 5, 2) := by decide +kernel
theorem dX9_quiet_65 : decode cX9_quiet 65 = .ok (.invokevirtual 328, 3) := by decide +kernel
theorem dX9_quiet_68 : decode cX9_quiet 68 = .ok (.istore 6, 2) := by decide +kernel
theorem dX9_quiet_70 : decode cX9_quiet 70 = .ok (.iload 6, 2) := by decide +kernel
theorem dX9_quiet_72 : decode cX9_quiet 72 = .ok (.iload 4, 2) := by decide +kernel
theorem dX9_quiet_74 : decode cX9_quiet 74 = .ok (.if_icmp .ge 10, 3) := by decide +kernel
theorem dX9_quiet_77 : decode cX9_quiet 77 = .ok (.iload 5, 2) := by decide +kernel
theorem dX9_quiet_79 : decode cX9_quiet 79 = .ok (.istore_n 3, 1) := by decide +kernel
theorem dX9_quiet_80 : decode cX9_quiet 80 = .ok (.iload 6, 2) := by decide +kernel
theorem dX9_quiet_82 : decode cX9_quiet 82 = .ok (.istore 4, 2) := by decide +kernel
theorem dX9_quiet_84 : decode cX9_quiet 84 = .ok (.iinc 5 1, 3) := by decide +kernel
theorem dX9_quiet_87 : decode cX9_quiet 87 = .ok (.goto (-45), 3) := by decide +kernel
theorem dX9_quiet_90 : decode cX9_quiet 90 = .ok (.iload_n 2, 1) := by decide +kernel
theorem dX9_quiet_91 : decode cX9_quiet 91 = .ok (.ifCond .ne 7, 3) := by decide +kernel
theorem dX9_quiet_94 : decode cX9_quiet 94 = .ok (.iload_n 3, 1) := by decide +kernel
theorem dX9_quiet_95 : decode cX9_quiet 95 = .ok (.goto 5, 3) := by decide +kernel
theorem dX9_quiet_98 : decode cX9_quiet 98 = .ok (.iload 4, 2) := by decide +kernel
theorem dX9_quiet_100 : decode cX9_quiet 100 = .ok (.ireturn, 1) := by decide +kernel
theorem dX9_far_0 : decode cX9_far 0 = .ok (.aload_n 0, 1) := by decide +kernel
theorem dX9_far_1 : decode cX9_far 1 = .ok (.getfield 21, 3) := by decide +kernel
theorem dX9_far_4 : decode cX9_far 4 = .ok (.invokevirtual 151, 3) := by decide +kernel
theorem dX9_far_7 : decode cX9_far 7 = .ok (.ifCond .ne 5, 3) := by decide +kernel
theorem dX9_far_10 : decode cX9_far 10 = .ok (.iconst (-1), 1) := by decide +kernel
theorem dX9_far_11 : decode cX9_far 11 = .ok (.ireturn, 1) := by decide +kernel
theorem dX9_far_12 : decode cX9_far 12 = .ok (.iconst 0, 1) := by decide +kernel
theorem dX9_far_13 : decode cX9_far 13 = .ok (.istore_n 1, 1) := by decide +kernel
theorem dX9_far_14 : decode cX9_far 14 = .ok (.iconst 0, 1) := by decide +kernel
theorem dX9_far_15 : decode cX9_far 15 = .ok (.istore_n 2, 1) := by decide +kernel
theorem dX9_far_16 : decode cX9_far 16 = .ok (.iload_n 2, 1) := by decide +kernel
theorem dX9_far_17 : decode cX9_far 17 = .ok (.aload_n 0, 1) := by decide +kernel
theorem dX9_far_18 : decode cX9_far 18 = .ok (.getfield 21, 3) := by decide +kernel
theorem dX9_far_21 : decode cX9_far 21 = .ok (.getfield 148, 3) := by decide +kernel
theorem dX9_far_24 : decode cX9_far 24 = .ok (.if_icmp .ge 66, 3) := by decide +kernel
theorem dX9_far_27 : decode cX9_far 27 = .ok (.iconst 0, 1) := by decide +kernel
theorem dX9_far_28 : decode cX9_far 28 = .ok (.istore_n 3, 1) := by decide +kernel
theorem dX9_far_29 : decode cX9_far 29 = .ok (.iload_n 3, 1) := by decide +kernel
theorem dX9_far_30 : decode cX9_far 30 = .ok (.iload_n 2, 1) := by decide +kernel
theorem dX9_far_31 : decode cX9_far 31 = .ok (.if_icmp .ge 53, 3) := by decide +kernel
theorem dX9_far_34 : decode cX9_far 34 = .ok (.aload_n 0, 1) := by decide +kernel
theorem dX9_far_35 : decode cX9_far 35 = .ok (.iload_n 2, 1) := by decide +kernel
theorem dX9_far_36 : decode cX9_far 36 = .ok (.invokevirtual 227, 3) := by decide +kernel
theorem dX9_far_39 : decode cX9_far 39 = .ok (.ifCond .eq 39, 3) := by decide +kernel
theorem dX9_far_42 : decode cX9_far 42 = .ok (.aload_n 0, 1) := by decide +kernel
theorem dX9_far_43 : decode cX9_far 43 = .ok (.iload_n 3, 1) := by decide +kernel
theorem dX9_far_44 : decode cX9_far 44 = .ok (.invokevirtual 227, 3) := by decide +kernel
theorem dX9_far_47 : decode cX9_far 47 = .ok (.ifCond .eq 31, 3) := by decide +kernel
theorem dX9_far_50 : decode cX9_far 50 = .ok (.iload_n 1, 1) := by decide +kernel
theorem dX9_far_51 : decode cX9_far 51 = .ok (.aload_n 0, 1) := by decide +kernel
theorem dX9_far_52 : decode cX9_far 52 = .ok (.getfield 21, 3) := by decide +kernel
theorem dX9_far_55 : decode cX9_far 55 = .ok (.aload_n 0, 1) := by decide +kernel
theorem dX9_far_56 : decode cX9_far 56 = .ok (.getfield 21, 3) := by decide +kernel
theorem dX9_far_59 : decode cX9_far 59 = .ok (.iload_n 2, 1) := by decide +kernel
theorem dX9_far_60 : decode cX9_far 60 = .ok (.invokevirtual 172, 3) := by decide +kernel
theorem dX9_far_63 : decode cX9_far 63 = .ok (.aload_n 0, 1) := by decide +kernel
theorem dX9_far_64 : decode cX9_far 64 = .ok (.getfield 21, 3) := by decide +kernel
theorem dX9_far_67 : decode cX9_far 67 = .ok (.iload_n 3, 1) := by decide +kernel
theorem dX9_far_68 : decode cX9_far 68 = .ok (.invokevirtual 172, 3) := by decide +kernel
theorem dX9_far_71 : decode cX9_far 71 = .ok (.invokevirtual 258, 3) := by decide +kernel
theorem dX9_far_74 : decode cX9_far 74 = .ok (.invokestatic 389, 3) := by decide +kernel
theorem dX9_far_77 : decode cX9_far 77 = .ok (.istore_n 1, 1) := by decide +kernel
theorem dX9_far_78 : decode cX9_far 78 = .ok (.iinc 3 1, 3) := by decide +kernel
theorem dX9_far_81 : decode cX9_far 81 = .ok (.goto (-52), 3) := by decide +kernel
theorem dX9_far_84 : decode cX9_far 84 = .ok (.iinc 2 1, 3) := by decide +kernel
theorem dX9_far_87 : decode cX9_far 87 = .ok (.goto (-71), 3) := by decide +kernel
theorem dX9_far_90 : decode cX9_far 90 = .ok (.iload_n 1, 1) := by decide +kernel
theorem dX9_far_91 : decode cX9_far 91 = .ok (.ireturn, 1) := by decide +kernel
theorem dX9_image_0 : decode cX9_image 0 = .ok (.aload_n 0, 1) := by decide +kernel
theorem dX9_image_1 : decode cX9_image 1 = .ok (.getfield 21, 3) := by decide +kernel
theorem dX9_image_4 : decode cX9_image 4 = .ok (.invokevirtual 151, 3) := by decide +kernel
theorem dX9_image_7 : decode cX9_image 7 = .ok (.ifCond .ne 5, 3) := by decide +kernel
theorem dX9_image_10 : decode cX9_image 10 = .ok (.iconst (-1), 1) := by decide +kernel
theorem dX9_image_11 : decode cX9_image 11 = .ok (.ireturn, 1) := by decide +kernel
theorem dX9_image_12 : decode cX9_image 12 = .ok (.aload_n 0, 1) := by decide +kernel
theorem dX9_image_13 : decode cX9_image 13 = .ok (.getfield 84, 3) := by decide +kernel
theorem dX9_image_16 : decode cX9_image 16 = .ok (.aload_n 0, 1) := by decide +kernel
theorem dX9_image_17 : decode cX9_image 17 = .ok (.getfield 63, 3) := by decide +kernel
theorem dX9_image_20 : decode cX9_image 20 = .ok (.invokevirtual 308, 3) := by decide +kernel
theorem dX9_image_23 : decode cX9_image 23 = .ok (.aload_n 0, 1) := by decide +kernel
theorem dX9_image_24 : decode cX9_image 24 = .ok (.getfield 87, 3) := by decide +kernel
theorem dX9_image_27 : decode cX9_image 27 = .ok (.aload_n 0, 1) := by decide +kernel
theorem dX9_image_28 : decode cX9_image 28 = .ok (.getfield 80, 3) := by decide +kernel
theorem dX9_image_31 : decode cX9_image 31 = .ok (.invokevirtual 394, 3) := by decide +kernel
theorem dX9_image_34 : decode cX9_image 34 = .ok (.aload_n 0, 1) := by decide +kernel
theorem dX9_image_35 : decode cX9_image 35 = .ok (.iconst 1, 1) := by decide +kernel
theorem dX9_image_36 : decode cX9_image 36 = .ok (.putfield 144, 3) := by decide +kernel
theorem dX9_image_39 : decode cX9_image 39 = .ok (.aload_n 0, 1) := by decide +kernel
theorem dX9_image_40 : decode cX9_image 40 = .ok (.getfield 63, 3) := by decide +kernel
theorem dX9_image_43 : decode cX9_image 43 = .ok (.getfield 266, 3) := by decide +kernel
theorem dX9_image_46 : decode cX9_image 46 = .ok (.ireturn, 1) := by decide +kernel
theorem dX9_back_0 : decode cX9_back 0 = .ok (.aload_n 0, 1) := by decide +kernel
theorem dX9_back_1 : decode cX9_back 1 = .ok (.getfield 144, 3) := by decide +kernel
theorem dX9_back_4 : decode cX9_back 4 = .ok (.ifCond .ne 5, 3) := by decide +kernel
theorem dX9_back_7 : decode cX9_back 7 = .ok (.iconst (-1), 1) := by decide +kernel
theorem dX9_back_8 : decode cX9_back 8 = .ok (.ireturn, 1) := by decide +kernel
theorem dX9_back_9 : decode cX9_back 9 = .ok (.aload_n 0, 1) := by decide +kernel
theorem dX9_back_10 : decode cX9_back 10 = .ok (.getfield 63, 3) := by decide +kernel
theorem dX9_back_13 : decode cX9_back 13 = .ok (.aload_n 0, 1) := by decide +kernel
theorem dX9_back_14 : decode cX9_back 14 = .ok (.getfield 84, 3) := by decide +kernel
theorem dX9_back_17 : decode cX9_back 17 = .ok (.invokevirtual 308, 3) := by decide +kernel
theorem dX9_back_20 : decode cX9_back 20 = .ok (.aload_n 0, 1) := by decide +kernel
theorem dX9_back_21 : decode cX9_back 21 = .ok (.getfield 80, 3) := by decide +kernel
theorem dX9_back_24 : decode cX9_back 24 = .ok (.aload_n 0, 1) := by decide +kernel
theorem dX9_back_25 : decode cX9_back 25 = .ok (.getfield 87, 3) := by decide +kernel
theorem dX9_back_28 : decode cX9_back 28 = .ok (.invokevirtual 394, 3) := by decide +kernel
theorem dX9_back_31 : decode cX9_back 31 = .ok (.aload_n 0, 1) := by decide +kernel
theorem dX9_back_32 : decode cX9_back 32 = .ok (.getfield 73, 3) := by decide +kernel
theorem dX9_back_35 : decode cX9_back 35 = .ok (.invokevirtual 140, 3) := by decide +kernel
theorem dX9_back_38 : decode cX9_back 38 = .ok (.aload_n 0, 1) := by decide +kernel
theorem dX9_back_39 : decode cX9_back 39 = .ok (.getfield 63, 3) := by decide +kernel
theorem dX9_back_42 : decode cX9_back 42 = .ok (.getfield 266, 3) := by decide +kernel
theorem dX9_back_45 : decode cX9_back 45 = .ok (.ireturn, 1) := by decide +kernel
theorem dX9_count_0 : decode cX9_count 0 = .ok (.iload_n 1, 1) := by decide +kernel
theorem dX9_count_1 : decode cX9_count 1 = .ok (.tableswitch 178 0 12 #[67, 75, 83, 88, 93, 101, 106, 114, 122, 127, 150, 162, 170], 67) := by decide +kernel
theorem dX9_count_68 : decode cX9_count 68 = .ok (.aload_n 0, 1) := by decide +kernel
theorem dX9_count_69 : decode cX9_count 69 = .ok (.getfield 21, 3) := by decide +kernel
theorem dX9_count_72 : decode cX9_count 72 = .ok (.getfield 148, 3) := by decide +kernel
theorem dX9_count_75 : decode cX9_count 75 = .ok (.ireturn, 1) := by decide +kernel
theorem dX9_count_76 : decode cX9_count 76 = .ok (.aload_n 0, 1) := by decide +kernel
theorem dX9_count_77 : decode cX9_count 77 = .ok (.getfield 21, 3) := by decide +kernel
theorem dX9_count_80 : decode cX9_count 80 = .ok (.getfield 276, 3) := by decide +kernel
theorem dX9_count_83 : decode cX9_count 83 = .ok (.ireturn, 1) := by decide +kernel
theorem dX9_count_84 : decode cX9_count 84 = .ok (.aload_n 0, 1) := by decide +kernel
theorem dX9_count_85 : decode cX9_count 85 = .ok (.getfield 116, 3) := by decide +kernel
theorem dX9_count_88 : decode cX9_count 88 = .ok (.ireturn, 1) := by decide +kernel
theorem dX9_count_89 : decode cX9_count 89 = .ok (.aload_n 0, 1) := by decide +kernel
theorem dX9_count_90 : decode cX9_count 90 = .ok (.getfield 122, 3) := by decide +kernel
theorem dX9_count_93 : decode cX9_count 93 = .ok (.ireturn, 1) := by decide +kernel
theorem dX9_count_94 : decode cX9_count 94 = .ok (.aload_n 0, 1) := by decide +kernel
theorem dX9_count_95 : decode cX9_count 95 = .ok (.getfield 10, 3) := by decide +kernel
theorem dX9_count_98 : decode cX9_count 98 = .ok (.getfield 98, 3) := by decide +kernel
theorem dX9_count_101 : decode cX9_count 101 = .ok (.ireturn, 1) := by decide +kernel
theorem dX9_count_102 : decode cX9_count 102 = .ok (.aload_n 0, 1) := by decide +kernel
theorem dX9_count_103 : decode cX9_count 103 = .ok (.getfield 90, 3) := by decide +kernel
theorem dX9_count_106 : decode cX9_count 106 = .ok (.ireturn, 1) := by decide +kernel
theorem dX9_count_107 : decode cX9_count 107 = .ok (.aload_n 0, 1) := by decide +kernel
theorem dX9_count_108 : decode cX9_count 108 = .ok (.getfield 63, 3) := by decide +kernel
theorem dX9_count_111 : decode cX9_count 111 = .ok (.getfield 266, 3) := by decide +kernel
theorem dX9_count_114 : decode cX9_count 114 = .ok (.ireturn, 1) := by decide +kernel
theorem dX9_count_115 : decode cX9_count 115 = .ok (.aload_n 0, 1) := by decide +kernel
theorem dX9_count_116 : decode cX9_count 116 = .ok (.getfield 21, 3) := by decide +kernel
theorem dX9_count_119 : decode cX9_count 119 = .ok (.invokevirtual 360, 3) := by decide +kernel
theorem dX9_count_122 : decode cX9_count 122 = .ok (.ireturn, 1) := by decide +kernel
theorem dX9_count_123 : decode cX9_count 123 = .ok (.aload_n 0, 1) := by decide +kernel
theorem dX9_count_124 : decode cX9_count 124 = .ok (.getfield 221, 3) := by decide +kernel
theorem dX9_count_127 : decode cX9_count 127 = .ok (.ireturn, 1) := by decide +kernel
theorem dX9_count_128 : decode cX9_count 128 = .ok (.aload_n 0, 1) := by decide +kernel
theorem dX9_count_129 : decode cX9_count 129 = .ok (.getfield 21, 3) := by decide +kernel
theorem dX9_count_132 : decode cX9_count 132 = .ok (.getfield 148, 3) := by decide +kernel
theorem dX9_count_135 : decode cX9_count 135 = .ok (.aload_n 0, 1) := by decide +kernel
theorem dX9_count_136 : decode cX9_count 136 = .ok (.getfield 33, 3) := by decide +kernel
theorem dX9_count_139 : decode cX9_count 139 = .ok (.aload_n 0, 1) := by decide +kernel
theorem dX9_count_140 : decode cX9_count 140 = .ok (.getfield 63, 3) := by decide +kernel
theorem dX9_count_143 : decode cX9_count 143 = .ok (.invokevirtual 324, 3) := by decide +kernel
theorem dX9_count_146 : decode cX9_count 146 = .ok (.invokestatic 261, 3) := by decide +kernel
theorem dX9_count_149 : decode cX9_count 149 = .ok (.isub, 1) := by decide +kernel
theorem dX9_count_150 : decode cX9_count 150 = .ok (.ireturn, 1) := by decide +kernel
theorem dX9_count_151 : decode cX9_count 151 = .ok (.aload_n 0, 1) := by decide +kernel
theorem dX9_count_152 : decode cX9_count 152 = .ok (.getfield 33, 3) := by decide +kernel
theorem dX9_count_155 : decode cX9_count 155 = .ok (.aload_n 0, 1) := by decide +kernel
theorem dX9_count_156 : decode cX9_count 156 = .ok (.getfield 63, 3) := by decide +kernel
theorem dX9_count_159 : decode cX9_count 159 = .ok (.invokevirtual 397, 3) := by decide +kernel
theorem dX9_count_162 : decode cX9_count 162 = .ok (.ireturn, 1) := by decide +kernel
theorem dX9_count_163 : decode cX9_count 163 = .ok (.aload_n 0, 1) := by decide +kernel
theorem dX9_count_164 : decode cX9_count 164 = .ok (.getfield 80, 3) := by decide +kernel
theorem dX9_count_167 : decode cX9_count 167 = .ok (.invokevirtual 400, 3) := by decide +kernel
theorem dX9_count_170 : decode cX9_count 170 = .ok (.ireturn, 1) := by decide +kernel
theorem dX9_count_171 : decode cX9_count 171 = .ok (.aload_n 0, 1) := by decide +kernel
theorem dX9_count_172 : decode cX9_count 172 = .ok (.getfield 73, 3) := by decide +kernel
theorem dX9_count_175 : decode cX9_count 175 = .ok (.getfield 300, 3) := by decide +kernel
theorem dX9_count_178 : decode cX9_count 178 = .ok (.ireturn, 1) := by decide +kernel
theorem dX9_count_179 : decode cX9_count 179 = .ok (.ldc_w 307, 3) := by decide +kernel
theorem dX9_count_182 : decode cX9_count 182 = .ok (.ireturn, 1) := by decide +kernel
