theorem dX10_init_0 : decode cX10_init 0 = .ok (.aload_n 0, 1) := by decide +kernel
theorem dX10_init_1 : decode cX10_init 1 = .ok (.invokespecial 3, 3) := by decide +kernel
theorem dX10_init_4 : decode cX10_init 4 = .ok (.aload_n 0, 1) := by decide +kernel
theorem dX10_init_5 : decode cX10_init 5 = .ok (.sipush 240, 3) := by decide +kernel
theorem dX10_init_8 : decode cX10_init 8 = .ok (.newarray .byte, 2) := by decide +kernel
theorem dX10_init_10 : decode cX10_init 10 = .ok (.putfield 9, 3) := by decide +kernel
theorem dX10_init_13 : decode cX10_init 13 = .ok (.aload_n 0, 1) := by decide +kernel
theorem dX10_init_14 : decode cX10_init 14 = .ok (.sipush 960, 3) := by decide +kernel
theorem dX10_init_17 : decode cX10_init 17 = .ok (.newarray .byte, 2) := by decide +kernel
theorem dX10_init_19 : decode cX10_init 19 = .ok (.putfield 13, 3) := by decide +kernel
theorem dX10_init_22 : decode cX10_init 22 = .ok (.aload_n 0, 1) := by decide +kernel
theorem dX10_init_23 : decode cX10_init 23 = .ok (.iconst 4, 1) := by decide +kernel
theorem dX10_init_24 : decode cX10_init 24 = .ok (.newarray .int, 2) := by decide +kernel
theorem dX10_init_26 : decode cX10_init 26 = .ok (.putfield 16, 3) := by decide +kernel
theorem dX10_init_29 : decode cX10_init 29 = .ok (.aload_n 0, 1) := by decide +kernel
theorem dX10_init_30 : decode cX10_init 30 = .ok (.sipush 128, 3) := by decide +kernel
theorem dX10_init_33 : decode cX10_init 33 = .ok (.newarray .int, 2) := by decide +kernel
theorem dX10_init_35 : decode cX10_init 35 = .ok (.putfield 20, 3) := by decide +kernel
theorem dX10_init_38 : decode cX10_init 38 = .ok (.aload_n 0, 1) := by decide +kernel
theorem dX10_init_39 : decode cX10_init 39 = .ok (.aload_n 0, 1) := by decide +kernel
theorem dX10_init_40 : decode cX10_init 40 = .ok (.getfield 9, 3) := by decide +kernel
theorem dX10_init_43 : decode cX10_init 43 = .ok (.putfield 23, 3) := by decide +kernel
theorem dX10_init_46 : decode cX10_init 46 = .ok (.aload_n 0, 1) := by decide +kernel
theorem dX10_init_47 : decode cX10_init 47 = .ok (.ldc 26, 2) := by decide +kernel
theorem dX10_init_49 : decode cX10_init 49 = .ok (.putfield 28, 3) := by decide +kernel
theorem dX10_init_52 : decode cX10_init 52 = .ok (.aload_n 0, 1) := by decide +kernel
theorem dX10_init_53 : decode cX10_init 53 = .ok (.ldc 32, 2) := by decide +kernel
theorem dX10_init_55 : decode cX10_init 55 = .ok (.putfield 34, 3) := by decide +kernel
theorem dX10_init_58 : decode cX10_init 58 = .ok (.aload_n 0, 1) := by decide +kernel
theorem dX10_init_59 : decode cX10_init 59 = .ok (.iconst 5, 1) := by decide +kernel
theorem dX10_init_60 : decode cX10_init 60 = .ok (.newarray .int, 2) := by decide +kernel
theorem dX10_init_62 : decode cX10_init 62 = .ok (.putfield 37, 3) := by decide +kernel
theorem dX10_init_65 : decode cX10_init 65 = .ok (.aload_n 0, 1) := by decide +kernel
theorem dX10_init_66 : decode cX10_init 66 = .ok (.iconst 5, 1) := by decide +kernel
theorem dX10_init_67 : decode cX10_init 67 = .ok (.newarray .int, 2) := by decide +kernel
theorem dX10_init_69 : decode cX10_init 69 = .ok (.putfield 40, 3) := by decide +kernel
theorem dX10_init_72 : decode cX10_init 72 = .ok (.aload_n 0, 1) := by decide +kernel
theorem dX10_init_73 : decode cX10_init 73 = .ok (.bipush 48, 2) := by decide +kernel
theorem dX10_init_75 : decode cX10_init 75 = .ok (.newarray .int, 2) := by decide +kernel
theorem dX10_init_77 : decode cX10_init 77 = .ok (.putfield 43, 3) := by decide +kernel
theorem dX10_init_80 : decode cX10_init 80 = .ok (.aload_n 0, 1) := by decide +kernel
theorem dX10_init_81 : decode cX10_init 81 = .ok (.bipush 48, 2) := by decide +kernel
theorem dX10_init_83 : decode cX10_init 83 = .ok (.newarray .int, 2) := by decide +kernel
theorem dX10_init_85 : decode cX10_init 85 = .ok (.putfield 46, 3) := by decide +kernel
theorem dX10_init_88 : decode cX10_init 88 = .ok (.aload_n 0, 1) := by decide +kernel
theorem dX10_init_89 : decode cX10_init 89 = .ok (.bipush 24, 2) := by decide +kernel
theorem dX10_init_91 : decode cX10_init 91 = .ok (.newarray .int, 2) := by decide +kernel
theorem dX10_init_93 : decode cX10_init 93 = .ok (.putfield 49, 3) := by decide +kernel
theorem dX10_init_96 : decode cX10_init 96 = .ok (.aload_n 0, 1) := by decide +kernel
theorem dX10_init_97 : decode cX10_init 97 = .ok (.bipush 24, 2) := by decide +kernel
theorem dX10_init_99 : decode cX10_init 99 = .ok (.newarray .int, 2) := by decide +kernel
theorem dX10_init_101 : decode cX10_init 101 = .ok (.putfield 52, 3) := by decide +kernel
theorem dX10_init_104 : decode cX10_init 104 = .ok (.aload_n 0, 1) := by decide +kernel
theorem dX10_init_105 : decode cX10_init 105 = .ok (.sipush 240, 3) := by decide +kernel
theorem dX10_init_108 : decode cX10_init 108 = .ok (.newarray .int, 2) := by decide +kernel
theorem dX10_init_110 : decode cX10_init 110 = .ok (.putfield 55, 3) := by decide +kernel
theorem dX10_init_113 : decode cX10_init 113 = .ok (.aload_n 0, 1) := by decide +kernel
theorem dX10_init_114 : decode cX10_init 114 = .ok (.iconst 5, 1) := by decide +kernel
theorem dX10_init_115 : decode cX10_init 115 = .ok (.newarray .int, 2) := by decide +kernel
theorem dX10_init_117 : decode cX10_init 117 = .ok (.putfield 58, 3) := by decide +kernel
theorem dX10_init_120 : decode cX10_init 120 = .ok (.aload_n 0, 1) := by decide +kernel
theorem dX10_init_121 : decode cX10_init 121 = .ok (.sipush 351, 3) := by decide +kernel
theorem dX10_init_124 : decode cX10_init 124 = .ok (.newarray .int, 2) := by decide +kernel
theorem dX10_init_126 : decode cX10_init 126 = .ok (.putfield 61, 3) := by decide +kernel
theorem dX10_init_129 : decode cX10_init 129 = .ok (.aload_n 0, 1) := by decide +kernel
theorem dX10_init_130 : decode cX10_init 130 = .ok (.sipush 351, 3) := by decide +kernel
theorem dX10_init_133 : decode cX10_init 133 = .ok (.newarray .int, 2) := by decide +kernel
theorem dX10_init_135 : decode cX10_init 135 = .ok (.putfield 64, 3) := by decide +kernel
theorem dX10_init_138 : decode cX10_init 138 = .ok (.aload_n 0, 1) := by decide +kernel
theorem dX10_init_139 : decode cX10_init 139 = .ok (.sipush 1755, 3) := by decide +kernel
theorem dX10_init_142 : decode cX10_init 142 = .ok (.newarray .int, 2) := by decide +kernel
theorem dX10_init_144 : decode cX10_init 144 = .ok (.putfield 67, 3) := by decide +kernel
theorem dX10_init_147 : decode cX10_init 147 = .ok (.aload_n 0, 1) := by decide +kernel
theorem dX10_init_148 : decode cX10_init 148 = .ok (.iconst (-1), 1) := by decide +kernel
theorem dX10_init_149 : decode cX10_init 149 = .ok (.putfield 70, 3) := by decide +kernel
theorem dX10_init_152 : decode cX10_init 152 = .ok (.aload_n 0, 1) := by decide +kernel
theorem dX10_init_153 : decode cX10_init 153 = .ok (.sipush 8191, 3) := by decide +kernel
theorem dX10_init_156 : decode cX10_init 156 = .ok (.newarray .long, 2) := by decide +kernel
theorem dX10_init_158 : decode cX10_init 158 = .ok (.putfield 74, 3) := by decide +kernel
theorem dX10_init_161 : decode cX10_init 161 = .ok (.aload_n 0, 1) := by decide +kernel
theorem dX10_init_162 : decode cX10_init 162 = .ok (.sipush 8191, 3) := by decide +kernel
theorem dX10_init_165 : decode cX10_init 165 = .ok (.newarray .int, 2) := by decide +kernel
theorem dX10_init_167 : decode cX10_init 167 = .ok (.putfield 78, 3) := by decide +kernel
theorem dX10_init_170 : decode cX10_init 170 = .ok (.aload_n 0, 1) := by decide +kernel
theorem dX10_init_171 : decode cX10_init 171 = .ok (.bipush 12, 2) := by decide +kernel
theorem dX10_init_173 : decode cX10_init 173 = .ok (.newarray .int, 2) := by decide +kernel
theorem dX10_init_175 : decode cX10_init 175 = .ok (.putfield 81, 3) := by decide +kernel
theorem dX10_init_178 : decode cX10_init 178 = .ok (.aload_n 0, 1) := by decide +kernel
theorem dX10_init_179 : decode cX10_init 179 = .ok (.sipush 14040, 3) := by decide +kernel
theorem dX10_init_182 : decode cX10_init 182 = .ok (.newarray .int, 2) := by decide +kernel
theorem dX10_init_184 : decode cX10_init 184 = .ok (.putfield 84, 3) := by decide +kernel
theorem dX10_init_187 : decode cX10_init 187 = .ok (.aload_n 0, 1) := by decide +kernel
theorem dX10_init_188 : decode cX10_init 188 = .ok (.bipush 72, 2) := by decide +kernel
theorem dX10_init_190 : decode cX10_init 190 = .ok (.newarray .int, 2) := by decide +kernel
theorem dX10_init_192 : decode cX10_init 192 = .ok (.putfield 87, 3) := by decide +kernel
theorem dX10_init_195 : decode cX10_init 195 = .ok (.aload_n 0, 1) := by decide +kernel
theorem dX10_init_196 : decode cX10_init 196 = .ok (.bipush 14, 2) := by decide +kernel
theorem dX10_init_198 : decode cX10_init 198 = .ok (.newarray .long, 2) := by decide +kernel
theorem dX10_init_200 : decode cX10_init 200 = .ok (.putfield 90, 3) := by decide +kernel
theorem dX10_init_203 : decode cX10_init 203 = .ok (.aload_n 0, 1) := by decide +kernel
theorem dX10_init_204 : decode cX10_init 204 = .ok (.sipush 351, 3) := by decide +kernel
theorem dX10_init_207 : decode cX10_init 207 = .ok (.newarray .int, 2) := by decide +kernel
theorem dX10_init_209 : decode cX10_init 209 = .ok (.putfield 93, 3) := by decide +kernel
theorem dX10_init_212 : decode cX10_init 212 = .ok (.return_, 1) := by decide +kernel
theorem dX10_thrown_0 : decode cX10_thrown 0 = .ok (.aload_n 0, 1) := by decide +kernel
theorem dX10_thrown_1 : decode cX10_thrown 1 = .ok (.getfield 96, 3) := by decide +kernel
theorem dX10_thrown_4 : decode cX10_thrown 4 = .ok (.ireturn, 1) := by decide +kernel
theorem dX10_isIn_0 : decode cX10_isIn 0 = .ok (.lload_n 0, 1) := by decide +kernel
theorem dX10_isIn_1 : decode cX10_isIn 1 = .ok (.lload_n 2, 1) := by decide +kernel
theorem dX10_isIn_2 : decode cX10_isIn 2 = .ok (.lcmp, 1) := by decide +kernel
theorem dX10_isIn_3 : decode cX10_isIn 3 = .ok (.ifCond .lt 14, 3) := by decide +kernel
theorem dX10_isIn_6 : decode cX10_isIn 6 = .ok (.lload_n 0, 1) := by decide +kernel
theorem dX10_isIn_7 : decode cX10_isIn 7 = .ok (.lload 4, 2) := by decide +kernel
theorem dX10_isIn_9 : decode cX10_isIn 9 = .ok (.lcmp, 1) := by decide +kernel
theorem dX10_isIn_10 : decode cX10_isIn 10 = .ok (.ifCond .gt 7, 3) := by decide +kernel
theorem dX10_isIn_13 : decode cX10_isIn 13 = .ok (.iconst 1, 1) := by decide +kernel
theorem dX10_isIn_14 : decode cX10_isIn 14 = .ok (.goto 4, 3) := by decide +kernel
theorem dX10_isIn_17 : decode cX10_isIn 17 = .ok (.iconst 0, 1) := by decide +kernel
theorem dX10_isIn_18 : decode cX10_isIn 18 = .ok (.ireturn, 1) := by decide +kernel
theorem dX10_has_0 : decode cX10_has 0 = .ok (.iload_n 0, 1) := by decide +kernel
theorem dX10_has_1 : decode cX10_has 1 = .ok (.iload_n 1, 1) := by decide +kernel
theorem dX10_has_2 : decode cX10_has 2 = .ok (.ishr, 1) := by decide +kernel
theorem dX10_has_3 : decode cX10_has 3 = .ok (.iconst 1, 1) := by decide +kernel
theorem dX10_has_4 : decode cX10_has 4 = .ok (.iand, 1) := by decide +kernel
theorem dX10_has_5 : decode cX10_has 5 = .ok (.iconst 1, 1) := by decide +kernel
theorem dX10_has_6 : decode cX10_has 6 = .ok (.if_icmp .ne 7, 3) := by decide +kernel
theorem dX10_has_9 : decode cX10_has 9 = .ok (.iconst 1, 1) := by decide +kernel
theorem dX10_has_10 : decode cX10_has 10 = .ok (.goto 4, 3) := by decide +kernel
theorem dX10_has_13 : decode cX10_has 13 = .ok (.iconst 0, 1) := by decide +kernel
theorem dX10_has_14 : decode cX10_has 14 = .ok (.ireturn, 1) := by decide +kernel
theorem dX10_isAmong_0 : decode cX10_isAmong 0 = .ok (.iconst 0, 1) := by decide +kernel
theorem dX10_isAmong_1 : decode cX10_isAmong 1 = .ok (.istore_n 2, 1) := by decide +kernel
theorem dX10_isAmong_2 : decode cX10_isAmong 2 = .ok (.iload_n 2, 1) := by decide +kernel
theorem dX10_isAmong_3 : decode cX10_isAmong 3 = .ok (.aload_n 0, 1) := by decide +kernel
theorem dX10_isAmong_4 : decode cX10_isAmong 4 = .ok (.invokevirtual 99, 3) := by decide +kernel
theorem dX10_isAmong_7 : decode cX10_isAmong 7 = .ok (.if_icmp .ge 20, 3) := by decide +kernel
theorem dX10_isAmong_10 : decode cX10_isAmong 10 = .ok (.aload_n 0, 1) := by decide +kernel
theorem dX10_isAmong_11 : decode cX10_isAmong 11 = .ok (.iload_n 2, 1) := by decide +kernel
theorem dX10_isAmong_12 : decode cX10_isAmong 12 = .ok (.invokevirtual 105, 3) := by decide +kernel
theorem dX10_isAmong_15 : decode cX10_isAmong 15 = .ok (.iload_n 1, 1) := by decide +kernel
theorem dX10_isAmong_16 : decode cX10_isAmong 16 = .ok (.if_icmp .ne 5, 3) := by decide +kernel
theorem dX10_isAmong_19 : decode cX10_isAmong 19 = .ok (.iconst 1, 1) := by decide +kernel
theorem dX10_isAmong_20 : decode cX10_isAmong 20 = .ok (.ireturn, 1) := by decide +kernel
theorem dX10_isAmong_21 : decode cX10_isAmong 21 = .ok (.iinc 2 1, 3) := by decide +kernel
theorem dX10_isAmong_24 : decode cX10_isAmong 24 = .ok (.goto (-22), 3) := by decide +kernel
theorem dX10_isAmong_27 : decode cX10_isAmong 27 = .ok (.iconst 0, 1) := by decide +kernel
theorem dX10_isAmong_28 : decode cX10_isAmong 28 = .ok (.ireturn, 1) := by decide +kernel
theorem dX10_bytesIn_0 : decode cX10_bytesIn 0 = .ok (.iconst 0, 1) := by decide +kernel
theorem dX10_bytesIn_1 : decode cX10_bytesIn 1 = .ok (.istore_n 1, 1) := by decide +kernel
theorem dX10_bytesIn_2 : decode cX10_bytesIn 2 = .ok (.bipush 24, 2) := by decide +kernel
theorem dX10_bytesIn_4 : decode cX10_bytesIn 4 = .ok (.istore_n 2, 1) := by decide +kernel
theorem dX10_bytesIn_5 : decode cX10_bytesIn 5 = .ok (.iload_n 2, 1) := by decide +kernel
theorem dX10_bytesIn_6 : decode cX10_bytesIn 6 = .ok (.ifCond .lt 27, 3) := by decide +kernel
theorem dX10_bytesIn_9 : decode cX10_bytesIn 9 = .ok (.iload_n 1, 1) := by decide +kernel
theorem dX10_bytesIn_10 : decode cX10_bytesIn 10 = .ok (.iload_n 0, 1) := by decide +kernel
theorem dX10_bytesIn_11 : decode cX10_bytesIn 11 = .ok (.iload_n 2, 1) := by decide +kernel
theorem dX10_bytesIn_12 : decode cX10_bytesIn 12 = .ok (.ishr, 1) := by decide +kernel
theorem dX10_bytesIn_13 : decode cX10_bytesIn 13 = .ok (.sipush 255, 3) := by decide +kernel
theorem dX10_bytesIn_16 : decode cX10_bytesIn 16 = .ok (.iand, 1) := by decide +kernel
theorem dX10_bytesIn_17 : decode cX10_bytesIn 17 = .ok (.ifCond .eq 7, 3) := by decide +kernel
theorem dX10_bytesIn_20 : decode cX10_bytesIn 20 = .ok (.iconst 1, 1) := by decide +kernel
theorem dX10_bytesIn_21 : decode cX10_bytesIn 21 = .ok (.goto 4, 3) := by decide +kernel
theorem dX10_bytesIn_24 : decode cX10_bytesIn 24 = .ok (.iconst 0, 1) := by decide +kernel
theorem dX10_bytesIn_25 : decode cX10_bytesIn 25 = .ok (.iadd, 1) := by decide +kernel
theorem dX10_bytesIn_26 : decode cX10_bytesIn 26 = .ok (.istore_n 1, 1) := by decide +kernel
theorem dX10_bytesIn_27 : decode cX10_bytesIn 27 = .ok (.iinc 2 (-8), 3) := by decide +kernel
theorem dX10_bytesIn_30 : decode cX10_bytesIn 30 = .ok (.goto (-25), 3) := by decide +kernel
theorem dX10_bytesIn_33 : decode cX10_bytesIn 33 = .ok (.iload_n 1, 1) := by decide +kernel
theorem dX10_bytesIn_34 : decode cX10_bytesIn 34 = .ok (.ireturn, 1) := by decide +kernel
theorem dX10_put_0 : decode cX10_put 0 = .ok (.bipush 24, 2) := by decide +kernel
theorem dX10_put_2 : decode cX10_put 2 = .ok (.istore_n 2, 1) := by decide +kernel
theorem dX10_put_3 : decode cX10_put 3 = .ok (.iload_n 2, 1) := by decide +kernel
theorem dX10_put_4 : decode cX10_put 4 = .ok (.ifCond .lt 45, 3) := by decide +kernel
theorem dX10_put_7 : decode cX10_put 7 = .ok (.iload_n 1, 1) := by decide +kernel
theorem dX10_put_8 : decode cX10_put 8 = .ok (.iload_n 2, 1) := by decide +kernel
theorem dX10_put_9 : decode cX10_put 9 = .ok (.ishr, 1) := by decide +kernel
theorem dX10_put_10 : decode cX10_put 10 = .ok (.sipush 255, 3) := by decide +kernel
theorem dX10_put_13 : decode cX10_put 13 = .ok (.iand, 1) := by decide +kernel
theorem dX10_put_14 : decode cX10_put 14 = .ok (.ifCond .ne 6, 3) := by decide +kernel
theorem dX10_put_17 : decode cX10_put 17 = .ok (.goto 26, 3) := by decide +kernel
theorem dX10_put_20 : decode cX10_put 20 = .ok (.aload_n 0, 1) := by decide +kernel
theorem dX10_put_21 : decode cX10_put 21 = .ok (.getfield 9, 3) := by decide +kernel
theorem dX10_put_24 : decode cX10_put 24 = .ok (.aload_n 0, 1) := by decide +kernel
theorem dX10_put_25 : decode cX10_put 25 = .ok (.getfield 109, 3) := by decide +kernel
theorem dX10_put_28 : decode cX10_put 28 = .ok (.iload_n 1, 1) := by decide +kernel
theorem dX10_put_29 : decode cX10_put 29 = .ok (.iload_n 2, 1) := by decide +kernel
theorem dX10_put_30 : decode cX10_put 30 = .ok (.ishr, 1) := by decide +kernel
theorem dX10_put_31 : decode cX10_put 31 = .ok (.i2b, 1) := by decide +kernel
theorem dX10_put_32 : decode cX10_put 32 = .ok (.bastore, 1) := by decide +kernel
theorem dX10_put_33 : decode cX10_put 33 = .ok (.aload_n 0, 1) := by decide +kernel
theorem dX10_put_34 : decode cX10_put 34 = .ok (.dup, 1) := by decide +kernel
theorem dX10_put_35 : decode cX10_put 35 = .ok (.getfield 109, 3) := by decide +kernel
theorem dX10_put_38 : decode cX10_put 38 = .ok (.iconst 1, 1) := by decide +kernel
theorem dX10_put_39 : decode cX10_put 39 = .ok (.iadd, 1) := by decide +kernel
theorem dX10_put_40 : decode cX10_put 40 = .ok (.putfield 109, 3) := by decide +kernel
theorem dX10_put_43 : decode cX10_put 43 = .ok (.iinc 2 (-8), 3) := by decide +kernel
theorem dX10_put_46 : decode cX10_put 46 = .ok (.goto (-43), 3) := by decide +kernel
theorem dX10_put_49 : decode cX10_put 49 = .ok (.return_, 1) := by decide +kernel
theorem dX10_feed_0 : decode cX10_feed 0 = .ok (.aload_n 0, 1) := by decide +kernel
theorem dX10_feed_1 : decode cX10_feed 1 = .ok (.iconst 0, 1) := by decide +kernel
theorem dX10_feed_2 : decode cX10_feed 2 = .ok (.putfield 96, 3) := by decide +kernel
theorem dX10_feed_5 : decode cX10_feed 5 = .ok (.aload_n 0, 1) := by decide +kernel
theorem dX10_feed_6 : decode cX10_feed 6 = .ok (.getfield 109, 3) := by decide +kernel
theorem dX10_feed_9 : decode cX10_feed 9 = .ok (.iload_n 1, 1) := by decide +kernel
theorem dX10_feed_10 : decode cX10_feed 10 = .ok (.invokestatic 111, 3) := by decide +kernel
theorem dX10_feed_13 : decode cX10_feed 13 = .ok (.iadd, 1) := by decide +kernel
theorem dX10_feed_14 : decode cX10_feed 14 = .ok (.iload_n 2, 1) := by decide +kernel
theorem dX10_feed_15 : decode cX10_feed 15 = .ok (.invokestatic 111, 3) := by decide +kernel
theorem dX10_feed_18 : decode cX10_feed 18 = .ok (.iadd, 1) := by decide +kernel
theorem dX10_feed_19 : decode cX10_feed 19 = .ok (.iload_n 3, 1) := by decide +kernel
theorem dX10_feed_20 : decode cX10_feed 20 = .ok (.invokestatic 111, 3) := by decide +kernel
theorem dX10_feed_23 : decode cX10_feed 23 = .ok (.iadd, 1) := by decide +kernel
theorem dX10_feed_24 : decode cX10_feed 24 = .ok (.iload 4, 2) := by decide +kernel
theorem dX10_feed_26 : decode cX10_feed 26 = .ok (.invokestatic 111, 3) := by decide +kernel
theorem dX10_feed_29 : decode cX10_feed 29 = .ok (.iadd, 1) := by decide +kernel
theorem dX10_feed_30 : decode cX10_feed 30 = .ok (.iload 5, 2) := by decide +kernel
theorem dX10_feed_32 : decode cX10_feed 32 = .ok (.invokestatic 111, 3) := by decide +kernel
theorem dX10_feed_35 : decode cX10_feed 35 = .ok (.iadd, 1) := by decide +kernel
theorem dX10_feed_36 : decode cX10_feed 36 = .ok (.sipush 240, 3) := by decide +kernel
theorem dX10_feed_39 : decode cX10_feed 39 = .ok (.if_icmp .le 5, 3) := by decide +kernel
theorem dX10_feed_42 : decode cX10_feed 42 = .ok (.iconst (-1), 1) := by decide +kernel
theorem dX10_feed_43 : decode cX10_feed 43 = .ok (.ireturn, 1) := by decide +kernel
theorem dX10_feed_44 : decode cX10_feed 44 = .ok (.aload_n 0, 1) := by decide +kernel
theorem dX10_feed_45 : decode cX10_feed 45 = .ok (.iload_n 1, 1) := by decide +kernel
theorem dX10_feed_46 : decode cX10_feed 46 = .ok (.invokevirtual 115, 3) := by decide +kernel
theorem dX10_feed_49 : decode cX10_feed 49 = .ok (.aload_n 0, 1) := by decide +kernel
theorem dX10_feed_50 : decode cX10_feed 50 = .ok (.iload_n 2, 1) := by decide +kernel
theorem dX10_feed_51 : decode cX10_feed 51 = .ok (.invokevirtual 115, 3) := by decide +kernel
theorem dX10_feed_54 : decode cX10_feed 54 = .ok (.aload_n 0, 1) := by decide +kernel
theorem dX10_feed_55 : decode cX10_feed 55 = .ok (.iload_n 3, 1) := by decide +kernel
theorem dX10_feed_56 : decode cX10_feed 56 = .ok (.invokevirtual 115, 3) := by decide +kernel
theorem dX10_feed_59 : decode cX10_feed 59 = .ok (.aload_n 0, 1) := by decide +kernel
theorem dX10_feed_60 : decode cX10_feed 60 = .ok (.iload 4, 2) := by decide +kernel
theorem dX10_feed_62 : decode cX10_feed 62 = .ok (.invokevirtual 115, 3) := by decide +kernel
theorem dX10_feed_65 : decode cX10_feed 65 = .ok (.aload_n 0, 1) := by decide +kernel
theorem dX10_feed_66 : decode cX10_feed 66 = .ok (.iload 5, 2) := by decide +kernel
theorem dX10_feed_68 : decode cX10_feed 68 = .ok (.invokevirtual 115, 3) := by decide +kernel
theorem dX10_feed_71 : decode cX10_feed 71 = .ok (.aload_n 0, 1) := by decide +kernel
theorem dX10_feed_72 : decode cX10_feed 72 = .ok (.getfield 109, 3) := by decide +kernel
theorem dX10_feed_75 : decode cX10_feed 75 = .ok (.ireturn, 1) := by decide +kernel
theorem dX10_end_0 : decode cX10_end 0 = .ok (.aload_n 0, 1) := by decide +kernel
theorem dX10_end_1 : decode cX10_end 1 = .ok (.iconst 0, 1) := by decide +kernel
theorem dX10_end_2 : decode cX10_end 2 = .ok (.putfield 96, 3) := by decide +kernel
theorem dX10_end_5 : decode cX10_end 5 = .ok (.iload_n 1, 1) := by decide +kernel
theorem dX10_end_6 : decode cX10_end 6 = .ok (.ifCond .lt 11, 3) := by decide +kernel
theorem dX10_end_9 : decode cX10_end 9 = .ok (.iload_n 1, 1) := by decide +kernel
theorem dX10_end_10 : decode cX10_end 10 = .ok (.aload_n 0, 1) := by decide +kernel
theorem dX10_end_11 : decode cX10_end 11 = .ok (.getfield 109, 3) := by decide +kernel
theorem dX10_end_14 : decode cX10_end 14 = .ok (.if_icmp .le 5, 3) := by decide +kernel
theorem dX10_end_17 : decode cX10_end 17 = .ok (.iconst 0, 1) := by decide +kernel
theorem dX10_end_18 : decode cX10_end 18 = .ok (.ireturn, 1) := by decide +kernel
theorem dX10_end_19 : decode cX10_end 19 = .ok (.aload_n 0, 1) := by decide +kernel
theorem dX10_end_20 : decode cX10_end 20 = .ok (.iload_n 1, 1) := by decide +kernel
theorem dX10_end_21 : decode cX10_end 21 = .ok (.putfield 109, 3) := by decide +kernel
theorem dX10_end_24 : decode cX10_end 24 = .ok (.iconst 1, 1) := by decide +kernel
theorem dX10_end_25 : decode cX10_end 25 = .ok (.ireturn, 1) := by decide +kernel
theorem dX10_look_0 : decode cX10_look 0 = .ok (.aload_n 0, 1) := by decide +kernel
theorem dX10_look_1 : decode cX10_look 1 = .ok (.getfield 119, 3) := by decide +kernel
theorem dX10_look_4 : decode cX10_look 4 = .ok (.aload_n 0, 1) := by decide +kernel
theorem dX10_look_5 : decode cX10_look 5 = .ok (.getfield 122, 3) := by decide +kernel
theorem dX10_look_8 : decode cX10_look 8 = .ok (.if_icmp .ge 35, 3) := by decide +kernel
theorem dX10_look_11 : decode cX10_look 11 = .ok (.aload_n 0, 1) := by decide +kernel
theorem dX10_look_12 : decode cX10_look 12 = .ok (.getfield 23, 3) := by decide +kernel
theorem dX10_look_15 : decode cX10_look 15 = .ok (.aload_n 0, 1) := by decide +kernel
theorem dX10_look_16 : decode cX10_look 16 = .ok (.getfield 125, 3) := by decide +kernel
theorem dX10_look_19 : decode cX10_look 19 = .ok (.aload_n 0, 1) := by decide +kernel
theorem dX10_look_20 : decode cX10_look 20 = .ok (.getfield 119, 3) := by decide +kernel
theorem dX10_look_23 : decode cX10_look 23 = .ok (.iadd, 1) := by decide +kernel
theorem dX10_look_24 : decode cX10_look 24 = .ok (.baload, 1) := by decide +kernel
theorem dX10_look_25 : decode cX10_look 25 = .ok (.bipush 32, 2) := by decide +kernel
theorem dX10_look_27 : decode cX10_look 27 = .ok (.if_icmp .ne 16, 3) := by decide +kernel
theorem dX10_look_30 : decode cX10_look 30 = .ok (.aload_n 0, 1) := by decide +kernel
theorem dX10_look_31 : decode cX10_look 31 = .ok (.dup, 1) := by decide +kernel
theorem dX10_look_32 : decode cX10_look 32 = .ok (.getfield 119, 3) := by decide +kernel
theorem dX10_look_35 : decode cX10_look 35 = .ok (.iconst 1, 1) := by decide +kernel
theorem dX10_look_36 : decode cX10_look 36 = .ok (.iadd, 1) := by decide +kernel
theorem dX10_look_37 : decode cX10_look 37 = .ok (.putfield 119, 3) := by decide +kernel
theorem dX10_look_40 : decode cX10_look 40 = .ok (.goto (-40), 3) := by decide +kernel
theorem dX10_look_43 : decode cX10_look 43 = .ok (.aload_n 0, 1) := by decide +kernel
theorem dX10_look_44 : decode cX10_look 44 = .ok (.getfield 119, 3) := by decide +kernel
theorem dX10_look_47 : decode cX10_look 47 = .ok (.aload_n 0, 1) := by decide +kernel
theorem dX10_look_48 : decode cX10_look 48 = .ok (.getfield 122, 3) := by decide +kernel
theorem dX10_look_51 : decode cX10_look 51 = .ok (.if_icmp .ge 24, 3) := by decide +kernel
theorem dX10_look_54 : decode cX10_look 54 = .ok (.aload_n 0, 1) := by decide +kernel
theorem dX10_look_55 : decode cX10_look 55 = .ok (.getfield 23, 3) := by decide +kernel
theorem dX10_look_58 : decode cX10_look 58 = .ok (.aload_n 0, 1) := by decide +kernel
theorem dX10_look_59 : decode cX10_look 59 = .ok (.getfield 125, 3) := by decide +kernel
theorem dX10_look_62 : decode cX10_look 62 = .ok (.aload_n 0, 1) := by decide +kernel
theorem dX10_look_63 : decode cX10_look 63 = .ok (.getfield 119, 3) := by decide +kernel
theorem dX10_look_66 : decode cX10_look 66 = .ok (.iadd, 1) := by decide +kernel
theorem dX10_look_67 : decode cX10_look 67 = .ok (.baload, 1) := by decide +kernel
theorem dX10_look_68 : decode cX10_look 68 = .ok (.sipush 255, 3) := by decide +kernel
theorem dX10_look_71 : decode cX10_look 71 = .ok (.iand, 1) := by decide +kernel
theorem dX10_look_72 : decode cX10_look 72 = .ok (.goto 4, 3) := by decide +kernel
theorem dX10_look_75 : decode cX10_look 75 = .ok (.iconst (-1), 1) := by decide +kernel
theorem dX10_look_76 : decode cX10_look 76 = .ok (.ireturn, 1) := by decide +kernel
theorem dX10_fails_0 : decode cX10_fails 0 = .ok (.aload_n 0, 1) := by decide +kernel
theorem dX10_fails_1 : decode cX10_fails 1 = .ok (.getfield 128, 3) := by decide +kernel
theorem dX10_fails_4 : decode cX10_fails 4 = .ok (.iconst (-1), 1) := by decide +kernel
theorem dX10_fails_5 : decode cX10_fails 5 = .ok (.if_icmp .ne 11, 3) := by decide +kernel
theorem dX10_fails_8 : decode cX10_fails 8 = .ok (.aload_n 0, 1) := by decide +kernel
theorem dX10_fails_9 : decode cX10_fails 9 = .ok (.aload_n 0, 1) := by decide +kernel
theorem dX10_fails_10 : decode cX10_fails 10 = .ok (.getfield 119, 3) := by decide +kernel
theorem dX10_fails_13 : decode cX10_fails 13 = .ok (.putfield 128, 3) := by decide +kernel
theorem dX10_fails_16 : decode cX10_fails 16 = .ok (.iconst 0, 1) := by decide +kernel
theorem dX10_fails_17 : decode cX10_fails 17 = .ok (.ireturn, 1) := by decide +kernel
theorem dX10_goesIn_0 : decode cX10_goesIn 0 = .ok (.aload_n 0, 1) := by decide +kernel
theorem dX10_goesIn_1 : decode cX10_goesIn 1 = .ok (.getfield 131, 3) := by decide +kernel
theorem dX10_goesIn_4 : decode cX10_goesIn 4 = .ok (.bipush 6, 2) := by decide +kernel
theorem dX10_goesIn_6 : decode cX10_goesIn 6 = .ok (.if_icmp .ne 8, 3) := by decide +kernel
theorem dX10_goesIn_9 : decode cX10_goesIn 9 = .ok (.aload_n 0, 1) := by decide +kernel
theorem dX10_goesIn_10 : decode cX10_goesIn 10 = .ok (.invokevirtual 134, 3) := by decide +kernel
theorem dX10_goesIn_13 : decode cX10_goesIn 13 = .ok (.ireturn, 1) := by decide +kernel
theorem dX10_goesIn_14 : decode cX10_goesIn 14 = .ok (.aload_n 0, 1) := by decide +kernel
theorem dX10_goesIn_15 : decode cX10_goesIn 15 = .ok (.dup, 1) := by decide +kernel
theorem dX10_goesIn_16 : decode cX10_goesIn 16 = .ok (.getfield 131, 3) := by decide +kernel
theorem dX10_goesIn_19 : decode cX10_goesIn 19 = .ok (.iconst 1, 1) := by decide +kernel
theorem dX10_goesIn_20 : decode cX10_goesIn 20 = .ok (.iadd, 1) := by decide +kernel
theorem dX10_goesIn_21 : decode cX10_goesIn 21 = .ok (.putfield 131, 3) := by decide +kernel
theorem dX10_goesIn_24 : decode cX10_goesIn 24 = .ok (.aload_n 0, 1) := by decide +kernel
theorem dX10_goesIn_25 : decode cX10_goesIn 25 = .ok (.dup, 1) := by decide +kernel
theorem dX10_goesIn_26 : decode cX10_goesIn 26 = .ok (.getfield 119, 3) := by decide +kernel
theorem dX10_goesIn_29 : decode cX10_goesIn 29 = .ok (.iconst 1, 1) := by decide +kernel
theorem dX10_goesIn_30 : decode cX10_goesIn 30 = .ok (.iadd, 1) := by decide +kernel
theorem dX10_goesIn_31 : decode cX10_goesIn 31 = .ok (.putfield 119, 3) := by decide +kernel
theorem dX10_goesIn_34 : decode cX10_goesIn 34 = .ok (.iconst 1, 1) := by decide +kernel
theorem dX10_goesIn_35 : decode cX10_goesIn 35 = .ok (.ireturn, 1) := by decide +kernel
theorem dX10_takes_0 : decode cX10_takes 0 = .ok (.aload_n 0, 1) := by decide +kernel
theorem dX10_takes_1 : decode cX10_takes 1 = .ok (.getfield 128, 3) := by decide +kernel
theorem dX10_takes_4 : decode cX10_takes 4 = .ok (.iconst (-1), 1) := by decide +kernel
theorem dX10_takes_5 : decode cX10_takes 5 = .ok (.if_icmp .ne 11, 3) := by decide +kernel
theorem dX10_takes_8 : decode cX10_takes 8 = .ok (.aload_n 0, 1) := by decide +kernel
theorem dX10_takes_9 : decode cX10_takes 9 = .ok (.invokevirtual 138, 3) := by decide +kernel
theorem dX10_takes_12 : decode cX10_takes 12 = .ok (.iload_n 1, 1) := by decide +kernel
theorem dX10_takes_13 : decode cX10_takes 13 = .ok (.if_icmp .eq 8, 3) := by decide +kernel
theorem dX10_takes_16 : decode cX10_takes 16 = .ok (.aload_n 0, 1) := by decide +kernel
theorem dX10_takes_17 : decode cX10_takes 17 = .ok (.invokevirtual 134, 3) := by decide +kernel
theorem dX10_takes_20 : decode cX10_takes 20 = .ok (.ireturn, 1) := by decide +kernel
theorem dX10_takes_21 : decode cX10_takes 21 = .ok (.aload_n 0, 1) := by decide +kernel
theorem dX10_takes_22 : decode cX10_takes 22 = .ok (.dup, 1) := by decide +kernel
theorem dX10_takes_23 : decode cX10_takes 23 = .ok (.getfield 119, 3) := by decide +kernel
theorem dX10_takes_26 : decode cX10_takes 26 = .ok (.iconst 1, 1) := by decide +kernel
theorem dX10_takes_27 : decode cX10_takes 27 = .ok (.iadd, 1) := by decide +kernel
theorem dX10_takes_28 : decode cX10_takes 28 = .ok (.putfield 119, 3) := by decide +kernel
theorem dX10_takes_31 : decode cX10_takes 31 = .ok (.iconst 1, 1) := by decide +kernel
theorem dX10_takes_32 : decode cX10_takes 32 = .ok (.ireturn, 1) := by decide +kernel
theorem dX10_isDigit_0 : decode cX10_isDigit 0 = .ok (.aload_n 0, 1) := by decide +kernel
theorem dX10_isDigit_1 : decode cX10_isDigit 1 = .ok (.getfield 119, 3) := by decide +kernel
theorem dX10_isDigit_4 : decode cX10_isDigit 4 = .ok (.aload_n 0, 1) := by decide +kernel
theorem dX10_isDigit_5 : decode cX10_isDigit 5 = .ok (.getfield 122, 3) := by decide +kernel
theorem dX10_isDigit_8 : decode cX10_isDigit 8 = .ok (.if_icmp .ge 45, 3) := by decide +kernel
theorem dX10_isDigit_11 : decode cX10_isDigit 11 = .ok (.aload_n 0, 1) := by decide +kernel
theorem dX10_isDigit_12 : decode cX10_isDigit 12 = .ok (.getfield 23, 3) := by decide +kernel
theorem dX10_isDigit_15 : decode cX10_isDigit 15 = .ok (.aload_n 0, 1) := by decide +kernel
theorem dX10_isDigit_16 : decode cX10_isDigit 16 = .ok (.getfield 125, 3) := by decide +kernel
theorem dX10_isDigit_19 : decode cX10_isDigit 19 = .ok (.aload_n 0, 1) := by decide +kernel
theorem dX10_isDigit_20 : decode cX10_isDigit 20 = .ok (.getfield 119, 3) := by decide +kernel
theorem dX10_isDigit_23 : decode cX10_isDigit 23 = .ok (.iadd, 1) := by decide +kernel
theorem dX10_isDigit_24 : decode cX10_isDigit 24 = .ok (.baload, 1) := by decide +kernel
theorem dX10_isDigit_25 : decode cX10_isDigit 25 = .ok (.bipush 48, 2) := by decide +kernel
theorem dX10_isDigit_27 : decode cX10_isDigit 27 = .ok (.if_icmp .lt 26, 3) := by decide +kernel
theorem dX10_isDigit_30 : decode cX10_isDigit 30 = .ok (.aload_n 0, 1) := by decide +kernel
theorem dX10_isDigit_31 : decode cX10_isDigit 31 = .ok (.getfield 23, 3) := by decide +kernel
theorem dX10_isDigit_34 : decode cX10_isDigit 34 = .ok (.aload_n 0, 1) := by decide +kernel
theorem dX10_isDigit_35 : decode cX10_isDigit 35 = .ok (.getfield 125, 3) := by decide +kernel
theorem dX10_isDigit_38 : decode cX10_isDigit 38 = .ok (.aload_n 0, 1) := by decide +kernel
theorem dX10_isDigit_39 : decode cX10_isDigit 39 = .ok (.getfield 119, 3) := by decide +kernel
theorem dX10_isDigit_42 : decode cX10_isDigit 42 = .ok (.iadd, 1) := by decide +kernel
theorem dX10_isDigit_43 : decode cX10_isDigit 43 = .ok (.baload, 1) := by decide +kernel
theorem dX10_isDigit_44 : decode cX10_isDigit 44 = .ok (.bipush 57, 2) := by decide +kernel
theorem dX10_isDigit_46 : decode cX10_isDigit 46 = .ok (.if_icmp .gt 7, 3) := by decide +kernel
theorem dX10_isDigit_49 : decode cX10_isDigit 49 = .ok (.iconst 1, 1) := by decide +kernel
theorem dX10_isDigit_50 : decode cX10_isDigit 50 = .ok (.goto 4, 3) := by decide +kernel
theorem dX10_isDigit_53 : decode cX10_isDigit 53 = .ok (.iconst 0, 1) := by decide +kernel
theorem dX10_isDigit_54 : decode cX10_isDigit 54 = .ok (.ireturn, 1) := by decide +kernel
theorem dX10_within_0 : decode cX10_within 0 = .ok (.ldc2_w 141, 3) := by decide +kernel
theorem dX10_within_3 : decode cX10_within 3 = .ok (.ldc2_w 143, 3) := by decide +kernel
theorem dX10_within_6 : decode cX10_within 6 = .ok (.lload_n 0, 1) := by decide +kernel
theorem dX10_within_7 : decode cX10_within 7 = .ok (.invokestatic 145, 3) := by decide +kernel
theorem dX10_within_10 : decode cX10_within 10 = .ok (.invokestatic 151, 3) := by decide +kernel
theorem dX10_within_13 : decode cX10_within 13 = .ok (.l2i, 1) := by decide +kernel
theorem dX10_within_14 : decode cX10_within 14 = .ok (.ireturn, 1) := by decide +kernel
theorem dX10_atom_0 : decode cX10_atom 0 = .ok (.aload_n 0, 1) := by decide +kernel
theorem dX10_atom_1 : decode cX10_atom 1 = .ok (.invokevirtual 138, 3) := by decide +kernel
theorem dX10_atom_4 : decode cX10_atom 4 = .ok (.istore_n 1, 1) := by decide +kernel
theorem dX10_atom_5 : decode cX10_atom 5 = .ok (.ldc 32, 2) := by decide +kernel
theorem dX10_atom_7 : decode cX10_atom 7 = .ok (.iload_n 1, 1) := by decide +kernel
theorem dX10_atom_8 : decode cX10_atom 8 = .ok (.invokestatic 154, 3) := by decide +kernel
theorem dX10_atom_11 : decode cX10_atom 11 = .ok (.ifCond .eq 20, 3) := by decide +kernel
theorem dX10_atom_14 : decode cX10_atom 14 = .ok (.aload_n 0, 1) := by decide +kernel
theorem dX10_atom_15 : decode cX10_atom 15 = .ok (.dup, 1) := by decide +kernel
theorem dX10_atom_16 : decode cX10_atom 16 = .ok (.getfield 119, 3) := by decide +kernel
theorem dX10_atom_19 : decode cX10_atom 19 = .ok (.iconst 1, 1) := by decide +kernel
theorem dX10_atom_20 : decode cX10_atom 20 = .ok (.iadd, 1) := by decide +kernel
theorem dX10_atom_21 : decode cX10_atom 21 = .ok (.putfield 119, 3) := by decide +kernel
theorem dX10_atom_24 : decode cX10_atom 24 = .ok (.aload_n 0, 1) := by decide +kernel
theorem dX10_atom_25 : decode cX10_atom 25 = .ok (.getfield 20, 3) := by decide +kernel
theorem dX10_atom_28 : decode cX10_atom 28 = .ok (.iload_n 1, 1) := by decide +kernel
theorem dX10_atom_29 : decode cX10_atom 29 = .ok (.iaload, 1) := by decide +kernel
theorem dX10_atom_30 : decode cX10_atom 30 = .ok (.ireturn, 1) := by decide +kernel
theorem dX10_atom_31 : decode cX10_atom 31 = .ok (.iload_n 1, 1) := by decide +kernel
theorem dX10_atom_32 : decode cX10_atom 32 = .ok (.bipush 91, 2) := by decide +kernel
theorem dX10_atom_34 : decode cX10_atom 34 = .ok (.if_icmp .ne 40, 3) := by decide +kernel
theorem dX10_atom_37 : decode cX10_atom 37 = .ok (.aload_n 0, 1) := by decide +kernel
theorem dX10_atom_38 : decode cX10_atom 38 = .ok (.invokevirtual 158, 3) := by decide +kernel
theorem dX10_atom_41 : decode cX10_atom 41 = .ok (.ifCond .ne 5, 3) := by decide +kernel
theorem dX10_atom_44 : decode cX10_atom 44 = .ok (.iconst 0, 1) := by decide +kernel
theorem dX10_atom_45 : decode cX10_atom 45 = .ok (.ireturn, 1) := by decide +kernel
theorem dX10_atom_46 : decode cX10_atom 46 = .ok (.aload_n 0, 1) := by decide +kernel
theorem dX10_atom_47 : decode cX10_atom 47 = .ok (.invokevirtual 161, 3) := by decide +kernel
theorem dX10_atom_50 : decode cX10_atom 50 = .ok (.istore_n 2, 1) := by decide +kernel
theorem dX10_atom_51 : decode cX10_atom 51 = .ok (.aload_n 0, 1) := by decide +kernel
theorem dX10_atom_52 : decode cX10_atom 52 = .ok (.bipush 93, 2) := by decide +kernel
theorem dX10_atom_54 : decode cX10_atom 54 = .ok (.invokevirtual 164, 3) := by decide +kernel
theorem dX10_atom_57 : decode cX10_atom 57 = .ok (.ifCond .ne 5, 3) := by decide +kernel
theorem dX10_atom_60 : decode cX10_atom 60 = .ok (.iconst 0, 1) := by decide +kernel
theorem dX10_atom_61 : decode cX10_atom 61 = .ok (.ireturn, 1) := by decide +kernel
theorem dX10_atom_62 : decode cX10_atom 62 = .ok (.aload_n 0, 1) := by decide +kernel
theorem dX10_atom_63 : decode cX10_atom 63 = .ok (.dup, 1) := by decide +kernel
theorem dX10_atom_64 : decode cX10_atom 64 = .ok (.getfield 131, 3) := by decide +kernel
theorem dX10_atom_67 : decode cX10_atom 67 = .ok (.iconst 1, 1) := by decide +kernel
theorem dX10_atom_68 : decode cX10_atom 68 = .ok (.isub, 1) := by decide +kernel
theorem dX10_atom_69 : decode cX10_atom 69 = .ok (.putfield 131, 3) := by decide +kernel
theorem dX10_atom_72 : decode cX10_atom 72 = .ok (.iload_n 2, 1) := by decide +kernel
theorem dX10_atom_73 : decode cX10_atom 73 = .ok (.ireturn, 1) := by decide +kernel
theorem dX10_atom_74 : decode cX10_atom 74 = .ok (.aload_n 0, 1) := by decide +kernel
theorem dX10_atom_75 : decode cX10_atom 75 = .ok (.invokevirtual 168, 3) := by decide +kernel
theorem dX10_atom_78 : decode cX10_atom 78 = .ok (.ifCond .ne 8, 3) := by decide +kernel
theorem dX10_atom_81 : decode cX10_atom 81 = .ok (.aload_n 0, 1) := by decide +kernel
theorem dX10_atom_82 : decode cX10_atom 82 = .ok (.invokevirtual 134, 3) := by decide +kernel
theorem dX10_atom_85 : decode cX10_atom 85 = .ok (.pop, 1) := by decide +kernel
theorem dX10_atom_86 : decode cX10_atom 86 = .ok (.iconst 0, 1) := by decide +kernel
theorem dX10_atom_87 : decode cX10_atom 87 = .ok (.istore_n 2, 1) := by decide +kernel
theorem dX10_atom_88 : decode cX10_atom 88 = .ok (.iconst 0, 1) := by decide +kernel
theorem dX10_atom_89 : decode cX10_atom 89 = .ok (.istore_n 3, 1) := by decide +kernel
theorem dX10_atom_90 : decode cX10_atom 90 = .ok (.aload_n 0, 1) := by decide +kernel
theorem dX10_atom_91 : decode cX10_atom 91 = .ok (.invokevirtual 168, 3) := by decide +kernel
theorem dX10_atom_94 : decode cX10_atom 94 = .ok (.ifCond .eq 62, 3) := by decide +kernel
theorem dX10_atom_97 : decode cX10_atom 97 = .ok (.aload_n 0, 1) := by decide +kernel
theorem dX10_atom_98 : decode cX10_atom 98 = .ok (.getfield 128, 3) := by decide +kernel
theorem dX10_atom_101 : decode cX10_atom 101 = .ok (.iconst (-1), 1) := by decide +kernel
theorem dX10_atom_102 : decode cX10_atom 102 = .ok (.if_icmp .ne 54, 3) := by decide +kernel
theorem dX10_atom_105 : decode cX10_atom 105 = .ok (.iload_n 3, 1) := by decide +kernel
theorem dX10_atom_106 : decode cX10_atom 106 = .ok (.iconst 4, 1) := by decide +kernel
theorem dX10_atom_107 : decode cX10_atom 107 = .ok (.if_icmp .ne 10, 3) := by decide +kernel
theorem dX10_atom_110 : decode cX10_atom 110 = .ok (.aload_n 0, 1) := by decide +kernel
theorem dX10_atom_111 : decode cX10_atom 111 = .ok (.invokevirtual 134, 3) := by decide +kernel
theorem dX10_atom_114 : decode cX10_atom 114 = .ok (.pop, 1) := by decide +kernel
theorem dX10_atom_115 : decode cX10_atom 115 = .ok (.iconst 0, 1) := by decide +kernel
theorem dX10_atom_116 : decode cX10_atom 116 = .ok (.ireturn, 1) := by decide +kernel
theorem dX10_atom_117 : decode cX10_atom 117 = .ok (.bipush 10, 2) := by decide +kernel
theorem dX10_atom_119 : decode cX10_atom 119 = .ok (.iload_n 2, 1) := by decide +kernel
theorem dX10_atom_120 : decode cX10_atom 120 = .ok (.imul, 1) := by decide +kernel
theorem dX10_atom_121 : decode cX10_atom 121 = .ok (.aload_n 0, 1) := by decide +kernel
theorem dX10_atom_122 : decode cX10_atom 122 = .ok (.getfield 23, 3) := by decide +kernel
theorem dX10_atom_125 : decode cX10_atom 125 = .ok (.aload_n 0, 1) := by decide +kernel
theorem dX10_atom_126 : decode cX10_atom 126 = .ok (.getfield 125, 3) := by decide +kernel
theorem dX10_atom_129 : decode cX10_atom 129 = .ok (.aload_n 0, 1) := by decide +kernel
theorem dX10_atom_130 : decode cX10_atom 130 = .ok (.getfield 119, 3) := by decide +kernel
theorem dX10_atom_133 : decode cX10_atom 133 = .ok (.iadd, 1) := by decide +kernel
theorem dX10_atom_134 : decode cX10_atom 134 = .ok (.baload, 1) := by decide +kernel
theorem dX10_atom_135 : decode cX10_atom 135 = .ok (.iadd, 1) := by decide +kernel
theorem dX10_atom_136 : decode cX10_atom 136 = .ok (.bipush 48, 2) := by decide +kernel
theorem dX10_atom_138 : decode cX10_atom 138 = .ok (.isub, 1) := by decide +kernel
theorem dX10_atom_139 : decode cX10_atom 139 = .ok (.istore_n 2, 1) := by decide +kernel
theorem dX10_atom_140 : decode cX10_atom 140 = .ok (.aload_n 0, 1) := by decide +kernel
theorem dX10_atom_141 : decode cX10_atom 141 = .ok (.dup, 1) := by decide +kernel
theorem dX10_atom_142 : decode cX10_atom 142 = .ok (.getfield 119, 3) := by decide +kernel
theorem dX10_atom_145 : decode cX10_atom 145 = .ok (.iconst 1, 1) := by decide +kernel
theorem dX10_atom_146 : decode cX10_atom 146 = .ok (.iadd, 1) := by decide +kernel
theorem dX10_atom_147 : decode cX10_atom 147 = .ok (.putfield 119, 3) := by decide +kernel
theorem dX10_atom_150 : decode cX10_atom 150 = .ok (.iinc 3 1, 3) := by decide +kernel
theorem dX10_atom_153 : decode cX10_atom 153 = .ok (.goto (-63), 3) := by decide +kernel
theorem dX10_atom_156 : decode cX10_atom 156 = .ok (.iload_n 2, 1) := by decide +kernel
theorem dX10_atom_157 : decode cX10_atom 157 = .ok (.ireturn, 1) := by decide +kernel
theorem dX10_term_0 : decode cX10_term 0 = .ok (.aload_n 0, 1) := by decide +kernel
theorem dX10_term_1 : decode cX10_term 1 = .ok (.invokevirtual 171, 3) := by decide +kernel
theorem dX10_term_4 : decode cX10_term 4 = .ok (.istore_n 1, 1) := by decide +kernel
theorem dX10_term_5 : decode cX10_term 5 = .ok (.aload_n 0, 1) := by decide +kernel
theorem dX10_term_6 : decode cX10_term 6 = .ok (.getfield 128, 3) := by decide +kernel
theorem dX10_term_9 : decode cX10_term 9 = .ok (.iconst (-1), 1) := by decide +kernel
theorem dX10_term_10 : decode cX10_term 10 = .ok (.if_icmp .ne 84, 3) := by decide +kernel
theorem dX10_term_13 : decode cX10_term 13 = .ok (.aload_n 0, 1) := by decide +kernel
theorem dX10_term_14 : decode cX10_term 14 = .ok (.invokevirtual 138, 3) := by decide +kernel
theorem dX10_term_17 : decode cX10_term 17 = .ok (.bipush 42, 2) := by decide +kernel
theorem dX10_term_19 : decode cX10_term 19 = .ok (.if_icmp .eq 12, 3) := by decide +kernel
theorem dX10_term_22 : decode cX10_term 22 = .ok (.aload_n 0, 1) := by decide +kernel
theorem dX10_term_23 : decode cX10_term 23 = .ok (.invokevirtual 138, 3) := by decide +kernel
theorem dX10_term_26 : decode cX10_term 26 = .ok (.bipush 47, 2) := by decide +kernel
theorem dX10_term_28 : decode cX10_term 28 = .ok (.if_icmp .ne 66, 3) := by decide +kernel
theorem dX10_term_31 : decode cX10_term 31 = .ok (.aload_n 0, 1) := by decide +kernel
theorem dX10_term_32 : decode cX10_term 32 = .ok (.invokevirtual 138, 3) := by decide +kernel
theorem dX10_term_35 : decode cX10_term 35 = .ok (.bipush 42, 2) := by decide +kernel
theorem dX10_term_37 : decode cX10_term 37 = .ok (.if_icmp .ne 7, 3) := by decide +kernel
theorem dX10_term_40 : decode cX10_term 40 = .ok (.iconst 1, 1) := by decide +kernel
theorem dX10_term_41 : decode cX10_term 41 = .ok (.goto 4, 3) := by decide +kernel
theorem dX10_term_44 : decode cX10_term 44 = .ok (.iconst 0, 1) := by decide +kernel
theorem dX10_term_45 : decode cX10_term 45 = .ok (.istore_n 2, 1) := by decide +kernel
theorem dX10_term_46 : decode cX10_term 46 = .ok (.aload_n 0, 1) := by decide +kernel
theorem dX10_term_47 : decode cX10_term 47 = .ok (.dup, 1) := by decide +kernel
theorem dX10_term_48 : decode cX10_term 48 = .ok (.getfield 119, 3) := by decide +kernel
theorem dX10_term_51 : decode cX10_term 51 = .ok (.iconst 1, 1) := by decide +kernel
theorem dX10_term_52 : decode cX10_term 52 = .ok (.iadd, 1) := by decide +kernel
theorem dX10_term_53 : decode cX10_term 53 = .ok (.putfield 119, 3) := by decide +kernel
theorem dX10_term_56 : decode cX10_term 56 = .ok (.aload_n 0, 1) := by decide +kernel
theorem dX10_term_57 : decode cX10_term 57 = .ok (.invokevirtual 171, 3) := by decide +kernel
theorem dX10_term_60 : decode cX10_term 60 = .ok (.i2l, 1) := by decide +kernel
theorem dX10_term_61 : decode cX10_term 61 = .ok (.lstore_n 3, 1) := by decide +kernel
theorem dX10_term_62 : decode cX10_term 62 = .ok (.iload_n 2, 1) := by decide +kernel
theorem dX10_term_63 : decode cX10_term 63 = .ok (.ifCond .eq 10, 3) := by decide +kernel
theorem dX10_term_66 : decode cX10_term 66 = .ok (.iload_n 1, 1) := by decide +kernel
theorem dX10_term_67 : decode cX10_term 67 = .ok (.i2l, 1) := by decide +kernel
theorem dX10_term_68 : decode cX10_term 68 = .ok (.lload_n 3, 1) := by decide +kernel
theorem dX10_term_69 : decode cX10_term 69 = .ok (.lmul, 1) := by decide +kernel
theorem dX10_term_70 : decode cX10_term 70 = .ok (.goto 17, 3) := by decide +kernel
theorem dX10_term_73 : decode cX10_term 73 = .ok (.lload_n 3, 1) := by decide +kernel
theorem dX10_term_74 : decode cX10_term 74 = .ok (.lconst 0, 1) := by decide +kernel
theorem dX10_term_75 : decode cX10_term 75 = .ok (.lcmp, 1) := by decide +kernel
theorem dX10_term_76 : decode cX10_term 76 = .ok (.ifCond .ne 7, 3) := by decide +kernel
theorem dX10_term_79 : decode cX10_term 79 = .ok (.lconst 0, 1) := by decide +kernel
theorem dX10_term_80 : decode cX10_term 80 = .ok (.goto 7, 3) := by decide +kernel
theorem dX10_term_83 : decode cX10_term 83 = .ok (.iload_n 1, 1) := by decide +kernel
theorem dX10_term_84 : decode cX10_term 84 = .ok (.i2l, 1) := by decide +kernel
theorem dX10_term_85 : decode cX10_term 85 = .ok (.lload_n 3, 1) := by decide +kernel
theorem dX10_term_86 : decode cX10_term 86 = .ok (.ldiv, 1) := by decide +kernel
theorem dX10_term_87 : decode cX10_term 87 = .ok (.invokestatic 174, 3) := by decide +kernel
theorem dX10_term_90 : decode cX10_term 90 = .ok (.istore_n 1, 1) := by decide +kernel
theorem dX10_term_91 : decode cX10_term 91 = .ok (.goto (-86), 3) := by decide +kernel
theorem dX10_term_94 : decode cX10_term 94 = .ok (.iload_n 1, 1) := by decide +kernel
theorem dX10_term_95 : decode cX10_term 95 = .ok (.ireturn, 1) := by decide +kernel
theorem dX10_sum_0 : decode cX10_sum 0 = .ok (.aload_n 0, 1) := by decide +kernel
theorem dX10_sum_1 : decode cX10_sum 1 = .ok (.invokevirtual 178, 3) := by decide +kernel
theorem dX10_sum_4 : decode cX10_sum 4 = .ok (.istore_n 1, 1) := by decide +kernel
theorem dX10_sum_5 : decode cX10_sum 5 = .ok (.aload_n 0, 1) := by decide +kernel
theorem dX10_sum_6 : decode cX10_sum 6 = .ok (.getfield 128, 3) := by decide +kernel
theorem dX10_sum_9 : decode cX10_sum 9 = .ok (.iconst (-1), 1) := by decide +kernel
theorem dX10_sum_10 : decode cX10_sum 10 = .ok (.if_icmp .ne 74, 3) := by decide +kernel
theorem dX10_sum_13 : decode cX10_sum 13 = .ok (.aload_n 0, 1) := by decide +kernel
theorem dX10_sum_14 : decode cX10_sum 14 = .ok (.invokevirtual 138, 3) := by decide +kernel
theorem dX10_sum_17 : decode cX10_sum 17 = .ok (.bipush 43, 2) := by decide +kernel
theorem dX10_sum_19 : decode cX10_sum 19 = .ok (.if_icmp .eq 12, 3) := by decide +kernel
theorem dX10_sum_22 : decode cX10_sum 22 = .ok (.aload_n 0, 1) := by decide +kernel
theorem dX10_sum_23 : decode cX10_sum 23 = .ok (.invokevirtual 138, 3) := by decide +kernel
theorem dX10_sum_26 : decode cX10_sum 26 = .ok (.bipush 45, 2) := by decide +kernel
theorem dX10_sum_28 : decode cX10_sum 28 = .ok (.if_icmp .ne 56, 3) := by decide +kernel
theorem dX10_sum_31 : decode cX10_sum 31 = .ok (.aload_n 0, 1) := by decide +kernel
theorem dX10_sum_32 : decode cX10_sum 32 = .ok (.invokevirtual 138, 3) := by decide +kernel
theorem dX10_sum_35 : decode cX10_sum 35 = .ok (.bipush 43, 2) := by decide +kernel
theorem dX10_sum_37 : decode cX10_sum 37 = .ok (.if_icmp .ne 7, 3) := by decide +kernel
theorem dX10_sum_40 : decode cX10_sum 40 = .ok (.iconst 1, 1) := by decide +kernel
theorem dX10_sum_41 : decode cX10_sum 41 = .ok (.goto 4, 3) := by decide +kernel
theorem dX10_sum_44 : decode cX10_sum 44 = .ok (.iconst 0, 1) := by decide +kernel
theorem dX10_sum_45 : decode cX10_sum 45 = .ok (.istore_n 2, 1) := by decide +kernel
theorem dX10_sum_46 : decode cX10_sum 46 = .ok (.aload_n 0, 1) := by decide +kernel
theorem dX10_sum_47 : decode cX10_sum 47 = .ok (.dup, 1) := by decide +kernel
theorem dX10_sum_48 : decode cX10_sum 48 = .ok (.getfield 119, 3) := by decide +kernel
theorem dX10_sum_51 : decode cX10_sum 51 = .ok (.iconst 1, 1) := by decide +kernel
theorem dX10_sum_52 : decode cX10_sum 52 = .ok (.iadd, 1) := by decide +kernel
theorem dX10_sum_53 : decode cX10_sum 53 = .ok (.putfield 119, 3) := by decide +kernel
theorem dX10_sum_56 : decode cX10_sum 56 = .ok (.aload_n 0, 1) := by decide +kernel
theorem dX10_sum_57 : decode cX10_sum 57 = .ok (.invokevirtual 178, 3) := by decide +kernel
theorem dX10_sum_60 : decode cX10_sum 60 = .ok (.i2l, 1) := by decide +kernel
theorem dX10_sum_61 : decode cX10_sum 61 = .ok (.lstore_n 3, 1) := by decide +kernel
theorem dX10_sum_62 : decode cX10_sum 62 = .ok (.iload_n 2, 1) := by decide +kernel
theorem dX10_sum_63 : decode cX10_sum 63 = .ok (.ifCond .eq 10, 3) := by decide +kernel
theorem dX10_sum_66 : decode cX10_sum 66 = .ok (.iload_n 1, 1) := by decide +kernel
theorem dX10_sum_67 : decode cX10_sum 67 = .ok (.i2l, 1) := by decide +kernel
theorem dX10_sum_68 : decode cX10_sum 68 = .ok (.lload_n 3, 1) := by decide +kernel
theorem dX10_sum_69 : decode cX10_sum 69 = .ok (.ladd, 1) := by decide +kernel
theorem dX10_sum_70 : decode cX10_sum 70 = .ok (.goto 7, 3) := by decide +kernel
theorem dX10_sum_73 : decode cX10_sum 73 = .ok (.iload_n 1, 1) := by decide +kernel
theorem dX10_sum_74 : decode cX10_sum 74 = .ok (.i2l, 1) := by decide +kernel
theorem dX10_sum_75 : decode cX10_sum 75 = .ok (.lload_n 3, 1) := by decide +kernel
theorem dX10_sum_76 : decode cX10_sum 76 = .ok (.lsub, 1) := by decide +kernel
theorem dX10_sum_77 : decode cX10_sum 77 = .ok (.invokestatic 174, 3) := by decide +kernel
theorem dX10_sum_80 : decode cX10_sum 80 = .ok (.istore_n 1, 1) := by decide +kernel
theorem dX10_sum_81 : decode cX10_sum 81 = .ok (.goto (-76), 3) := by decide +kernel
theorem dX10_sum_84 : decode cX10_sum 84 = .ok (.iload_n 1, 1) := by decide +kernel
theorem dX10_sum_85 : decode cX10_sum 85 = .ok (.ireturn, 1) := by decide +kernel
theorem dX10_isSign_0 : decode cX10_isSign 0 = .ok (.iload_n 0, 1) := by decide +kernel
theorem dX10_isSign_1 : decode cX10_isSign 1 = .ok (.bipush 61, 2) := by decide +kernel
theorem dX10_isSign_3 : decode cX10_isSign 3 = .ok (.if_icmp .eq 15, 3) := by decide +kernel
theorem dX10_isSign_6 : decode cX10_isSign 6 = .ok (.iload_n 0, 1) := by decide +kernel
theorem dX10_isSign_7 : decode cX10_isSign 7 = .ok (.bipush 60, 2) := by decide +kernel
theorem dX10_isSign_9 : decode cX10_isSign 9 = .ok (.if_icmp .eq 9, 3) := by decide +kernel
theorem dX10_isSign_12 : decode cX10_isSign 12 = .ok (.iload_n 0, 1) := by decide +kernel
theorem dX10_isSign_13 : decode cX10_isSign 13 = .ok (.bipush 62, 2) := by decide +kernel
theorem dX10_isSign_15 : decode cX10_isSign 15 = .ok (.if_icmp .ne 7, 3) := by decide +kernel
theorem dX10_isSign_18 : decode cX10_isSign 18 = .ok (.iconst 1, 1) := by decide +kernel
theorem dX10_isSign_19 : decode cX10_isSign 19 = .ok (.goto 4, 3) := by decide +kernel
theorem dX10_isSign_22 : decode cX10_isSign 22 = .ok (.iconst 0, 1) := by decide +kernel
theorem dX10_isSign_23 : decode cX10_isSign 23 = .ok (.ireturn, 1) := by decide +kernel
theorem dX10_compares_0 : decode cX10_compares 0 = .ok (.iload_n 1, 1) := by decide +kernel
theorem dX10_compares_1 : decode cX10_compares 1 = .ok (.ifCond .eq 7, 3) := by decide +kernel
theorem dX10_compares_4 : decode cX10_compares 4 = .ok (.iload_n 2, 1) := by decide +kernel
theorem dX10_compares_5 : decode cX10_compares 5 = .ok (.goto 7, 3) := by decide +kernel
theorem dX10_compares_8 : decode cX10_compares 8 = .ok (.aload_n 0, 1) := by decide +kernel
theorem dX10_compares_9 : decode cX10_compares 9 = .ok (.invokevirtual 161, 3) := by decide +kernel
theorem dX10_compares_12 : decode cX10_compares 12 = .ok (.istore_n 3, 1) := by decide +kernel
theorem dX10_compares_13 : decode cX10_compares 13 = .ok (.aload_n 0, 1) := by decide +kernel
theorem dX10_compares_14 : decode cX10_compares 14 = .ok (.getfield 128, 3) := by decide +kernel
theorem dX10_compares_17 : decode cX10_compares 17 = .ok (.iconst (-1), 1) := by decide +kernel
theorem dX10_compares_18 : decode cX10_compares 18 = .ok (.if_icmp .eq 5, 3) := by decide +kernel
theorem dX10_compares_21 : decode cX10_compares 21 = .ok (.iconst 0, 1) := by decide +kernel
theorem dX10_compares_22 : decode cX10_compares 22 = .ok (.ireturn, 1) := by decide +kernel
theorem dX10_compares_23 : decode cX10_compares 23 = .ok (.aload_n 0, 1) := by decide +kernel
theorem dX10_compares_24 : decode cX10_compares 24 = .ok (.invokevirtual 138, 3) := by decide +kernel
theorem dX10_compares_27 : decode cX10_compares 27 = .ok (.istore 4, 2) := by decide +kernel
theorem dX10_compares_29 : decode cX10_compares 29 = .ok (.iload 4, 2) := by decide +kernel
theorem dX10_compares_31 : decode cX10_compares 31 = .ok (.invokestatic 181, 3) := by decide +kernel
theorem dX10_compares_34 : decode cX10_compares 34 = .ok (.ifCond .ne 8, 3) := by decide +kernel
theorem dX10_compares_37 : decode cX10_compares 37 = .ok (.aload_n 0, 1) := by decide +kernel
theorem dX10_compares_38 : decode cX10_compares 38 = .ok (.invokevirtual 134, 3) := by decide +kernel
theorem dX10_compares_41 : decode cX10_compares 41 = .ok (.ireturn, 1) := by decide +kernel
theorem dX10_compares_42 : decode cX10_compares 42 = .ok (.aload_n 0, 1) := by decide +kernel
theorem dX10_compares_43 : decode cX10_compares 43 = .ok (.dup, 1) := by decide +kernel
theorem dX10_compares_44 : decode cX10_compares 44 = .ok (.getfield 119, 3) := by decide +kernel
theorem dX10_compares_47 : decode cX10_compares 47 = .ok (.iconst 1, 1) := by decide +kernel
theorem dX10_compares_48 : decode cX10_compares 48 = .ok (.iadd, 1) := by decide +kernel
theorem dX10_compares_49 : decode cX10_compares 49 = .ok (.putfield 119, 3) := by decide +kernel
theorem dX10_compares_52 : decode cX10_compares 52 = .ok (.aload_n 0, 1) := by decide +kernel
theorem dX10_compares_53 : decode cX10_compares 53 = .ok (.invokevirtual 161, 3) := by decide +kernel
theorem dX10_compares_56 : decode cX10_compares 56 = .ok (.istore 5, 2) := by decide +kernel
theorem dX10_compares_58 : decode cX10_compares 58 = .ok (.iload 4, 2) := by decide +kernel
theorem dX10_compares_60 : decode cX10_compares 60 = .ok (.bipush 61, 2) := by decide +kernel
theorem dX10_compares_62 : decode cX10_compares 62 = .ok (.if_icmp .ne 17, 3) := by decide +kernel
theorem dX10_compares_65 : decode cX10_compares 65 = .ok (.iload_n 3, 1) := by decide +kernel
theorem dX10_compares_66 : decode cX10_compares 66 = .ok (.iload 5, 2) := by decide +kernel
theorem dX10_compares_68 : decode cX10_compares 68 = .ok (.if_icmp .ne 7, 3) := by decide +kernel
theorem dX10_compares_71 : decode cX10_compares 71 = .ok (.iconst 1, 1) := by decide +kernel
theorem dX10_compares_72 : decode cX10_compares 72 = .ok (.goto 39, 3) := by decide +kernel
theorem dX10_compares_75 : decode cX10_compares 75 = .ok (.iconst 0, 1) := by decide +kernel
theorem dX10_compares_76 : decode cX10_compares 76 = .ok (.goto 35, 3) := by decide +kernel
theorem dX10_compares_79 : decode cX10_compares 79 = .ok (.iload 4, 2) := by decide +kernel
theorem dX10_compares_81 : decode cX10_compares 81 = .ok (.bipush 60, 2) := by decide +kernel
theorem dX10_compares_83 : decode cX10_compares 83 = .ok (.if_icmp .ne 17, 3) := by decide +kernel
theorem dX10_compares_86 : decode cX10_compares 86 = .ok (.iload_n 3, 1) := by decide +kernel
theorem dX10_compares_87 : decode cX10_compares 87 = .ok (.iload 5, 2) := by decide +kernel
theorem dX10_compares_89 : decode cX10_compares 89 = .ok (.if_icmp .ge 7, 3) := by decide +kernel
theorem dX10_compares_92 : decode cX10_compares 92 = .ok (.iconst 1, 1) := by decide +kernel
theorem dX10_compares_93 : decode cX10_compares 93 = .ok (.goto 18, 3) := by decide +kernel
theorem dX10_compares_96 : decode cX10_compares 96 = .ok (.iconst 0, 1) := by decide +kernel
theorem dX10_compares_97 : decode cX10_compares 97 = .ok (.goto 14, 3) := by decide +kernel
theorem dX10_compares_100 : decode cX10_compares 100 = .ok (.iload_n 3, 1) := by decide +kernel
theorem dX10_compares_101 : decode cX10_compares 101 = .ok (.iload 5, 2) := by decide +kernel
theorem dX10_compares_103 : decode cX10_compares 103 = .ok (.if_icmp .le 7, 3) := by decide +kernel
theorem dX10_compares_106 : decode cX10_compares 106 = .ok (.iconst 1, 1) := by decide +kernel
theorem dX10_compares_107 : decode cX10_compares 107 = .ok (.goto 4, 3) := by decide +kernel
theorem dX10_compares_110 : decode cX10_compares 110 = .ok (.iconst 0, 1) := by decide +kernel
theorem dX10_compares_111 : decode cX10_compares 111 = .ok (.ireturn, 1) := by decide +kernel
theorem dX10_unit_0 : decode cX10_unit 0 = .ok (.aload_n 0, 1) := by decide +kernel
theorem dX10_unit_1 : decode cX10_unit 1 = .ok (.invokevirtual 138, 3) := by decide +kernel
theorem dX10_unit_4 : decode cX10_unit 4 = .ok (.istore_n 1, 1) := by decide +kernel
theorem dX10_unit_5 : decode cX10_unit 5 = .ok (.iload_n 1, 1) := by decide +kernel
theorem dX10_unit_6 : decode cX10_unit 6 = .ok (.bipush 33, 2) := by decide +kernel
theorem dX10_unit_8 : decode cX10_unit 8 = .ok (.if_icmp .ne 37, 3) := by decide +kernel
theorem dX10_unit_11 : decode cX10_unit 11 = .ok (.aload_n 0, 1) := by decide +kernel
theorem dX10_unit_12 : decode cX10_unit 12 = .ok (.invokevirtual 158, 3) := by decide +kernel
theorem dX10_unit_15 : decode cX10_unit 15 = .ok (.ifCond .ne 5, 3) := by decide +kernel
theorem dX10_unit_18 : decode cX10_unit 18 = .ok (.iconst 0, 1) := by decide +kernel
theorem dX10_unit_19 : decode cX10_unit 19 = .ok (.ireturn, 1) := by decide +kernel
theorem dX10_unit_20 : decode cX10_unit 20 = .ok (.aload_n 0, 1) := by decide +kernel
theorem dX10_unit_21 : decode cX10_unit 21 = .ok (.invokevirtual 184, 3) := by decide +kernel
theorem dX10_unit_24 : decode cX10_unit 24 = .ok (.istore_n 2, 1) := by decide +kernel
theorem dX10_unit_25 : decode cX10_unit 25 = .ok (.aload_n 0, 1) := by decide +kernel
theorem dX10_unit_26 : decode cX10_unit 26 = .ok (.dup, 1) := by decide +kernel
theorem dX10_unit_27 : decode cX10_unit 27 = .ok (.getfield 131, 3) := by decide +kernel
theorem dX10_unit_30 : decode cX10_unit 30 = .ok (.iconst 1, 1) := by decide +kernel
theorem dX10_unit_31 : decode cX10_unit 31 = .ok (.isub, 1) := by decide +kernel
theorem dX10_unit_32 : decode cX10_unit 32 = .ok (.putfield 131, 3) := by decide +kernel
theorem dX10_unit_35 : decode cX10_unit 35 = .ok (.iload_n 2, 1) := by decide +kernel
theorem dX10_unit_36 : decode cX10_unit 36 = .ok (.ifCond .ne 7, 3) := by decide +kernel
theorem dX10_unit_39 : decode cX10_unit 39 = .ok (.iconst 1, 1) := by decide +kernel
theorem dX10_unit_40 : decode cX10_unit 40 = .ok (.goto 4, 3) := by decide +kernel
theorem dX10_unit_43 : decode cX10_unit 43 = .ok (.iconst 0, 1) := by decide +kernel
theorem dX10_unit_44 : decode cX10_unit 44 = .ok (.ireturn, 1) := by decide +kernel
theorem dX10_unit_45 : decode cX10_unit 45 = .ok (.iload_n 1, 1) := by decide +kernel
theorem dX10_unit_46 : decode cX10_unit 46 = .ok (.bipush 40, 2) := by decide +kernel
theorem dX10_unit_48 : decode cX10_unit 48 = .ok (.if_icmp .ne 42, 3) := by decide +kernel
theorem dX10_unit_51 : decode cX10_unit 51 = .ok (.aload_n 0, 1) := by decide +kernel
theorem dX10_unit_52 : decode cX10_unit 52 = .ok (.invokevirtual 158, 3) := by decide +kernel
theorem dX10_unit_55 : decode cX10_unit 55 = .ok (.ifCond .ne 5, 3) := by decide +kernel
theorem dX10_unit_58 : decode cX10_unit 58 = .ok (.iconst 0, 1) := by decide +kernel
theorem dX10_unit_59 : decode cX10_unit 59 = .ok (.ireturn, 1) := by decide +kernel
theorem dX10_unit_60 : decode cX10_unit 60 = .ok (.aload_n 0, 1) := by decide +kernel
theorem dX10_unit_61 : decode cX10_unit 61 = .ok (.iconst 0, 1) := by decide +kernel
theorem dX10_unit_62 : decode cX10_unit 62 = .ok (.iconst 0, 1) := by decide +kernel
theorem dX10_unit_63 : decode cX10_unit 63 = .ok (.invokevirtual 187, 3) := by decide +kernel
theorem dX10_unit_66 : decode cX10_unit 66 = .ok (.istore_n 2, 1) := by decide +kernel
theorem dX10_unit_67 : decode cX10_unit 67 = .ok (.aload_n 0, 1) := by decide +kernel
theorem dX10_unit_68 : decode cX10_unit 68 = .ok (.bipush 41, 2) := by decide +kernel
theorem dX10_unit_70 : decode cX10_unit 70 = .ok (.invokevirtual 164, 3) := by decide +kernel
theorem dX10_unit_73 : decode cX10_unit 73 = .ok (.ifCond .ne 5, 3) := by decide +kernel
theorem dX10_unit_76 : decode cX10_unit 76 = .ok (.iconst 0, 1) := by decide +kernel
theorem dX10_unit_77 : decode cX10_unit 77 = .ok (.ireturn, 1) := by decide +kernel
theorem dX10_unit_78 : decode cX10_unit 78 = .ok (.aload_n 0, 1) := by decide +kernel
theorem dX10_unit_79 : decode cX10_unit 79 = .ok (.dup, 1) := by decide +kernel
theorem dX10_unit_80 : decode cX10_unit 80 = .ok (.getfield 131, 3) := by decide +kernel
theorem dX10_unit_83 : decode cX10_unit 83 = .ok (.iconst 1, 1) := by decide +kernel
theorem dX10_unit_84 : decode cX10_unit 84 = .ok (.isub, 1) := by decide +kernel
theorem dX10_unit_85 : decode cX10_unit 85 = .ok (.putfield 131, 3) := by decide +kernel
theorem dX10_unit_88 : decode cX10_unit 88 = .ok (.iload_n 2, 1) := by decide +kernel
theorem dX10_unit_89 : decode cX10_unit 89 = .ok (.ireturn, 1) := by decide +kernel
theorem dX10_unit_90 : decode cX10_unit 90 = .ok (.aload_n 0, 1) := by decide +kernel
theorem dX10_unit_91 : decode cX10_unit 91 = .ok (.iconst 0, 1) := by decide +kernel
theorem dX10_unit_92 : decode cX10_unit 92 = .ok (.iconst 0, 1) := by decide +kernel
theorem dX10_unit_93 : decode cX10_unit 93 = .ok (.invokevirtual 191, 3) := by decide +kernel
theorem dX10_unit_96 : decode cX10_unit 96 = .ok (.ireturn, 1) := by decide +kernel
theorem dX10_part_0 : decode cX10_part 0 = .ok (.iload_n 1, 1) := by decide +kernel
theorem dX10_part_1 : decode cX10_part 1 = .ok (.ifCond .eq 12, 3) := by decide +kernel
theorem dX10_part_4 : decode cX10_part 4 = .ok (.aload_n 0, 1) := by decide +kernel
theorem dX10_part_5 : decode cX10_part 5 = .ok (.iconst 1, 1) := by decide +kernel
theorem dX10_part_6 : decode cX10_part 6 = .ok (.iload_n 2, 1) := by decide +kernel
theorem dX10_part_7 : decode cX10_part 7 = .ok (.invokevirtual 191, 3) := by decide +kernel
theorem dX10_part_10 : decode cX10_part 10 = .ok (.goto 7, 3) := by decide +kernel
theorem dX10_part_13 : decode cX10_part 13 = .ok (.aload_n 0, 1) := by decide +kernel
theorem dX10_part_14 : decode cX10_part 14 = .ok (.invokevirtual 184, 3) := by decide +kernel
theorem dX10_part_17 : decode cX10_part 17 = .ok (.istore_n 3, 1) := by decide +kernel
theorem dX10_part_18 : decode cX10_part 18 = .ok (.aload_n 0, 1) := by decide +kernel
theorem dX10_part_19 : decode cX10_part 19 = .ok (.getfield 128, 3) := by decide +kernel
theorem dX10_part_22 : decode cX10_part 22 = .ok (.iconst (-1), 1) := by decide +kernel
theorem dX10_part_23 : decode cX10_part 23 = .ok (.if_icmp .ne 46, 3) := by decide +kernel
theorem dX10_part_26 : decode cX10_part 26 = .ok (.aload_n 0, 1) := by decide +kernel
theorem dX10_part_27 : decode cX10_part 27 = .ok (.invokevirtual 138, 3) := by decide +kernel
theorem dX10_part_30 : decode cX10_part 30 = .ok (.bipush 38, 2) := by decide +kernel
theorem dX10_part_32 : decode cX10_part 32 = .ok (.if_icmp .ne 37, 3) := by decide +kernel
theorem dX10_part_35 : decode cX10_part 35 = .ok (.aload_n 0, 1) := by decide +kernel
theorem dX10_part_36 : decode cX10_part 36 = .ok (.dup, 1) := by decide +kernel
theorem dX10_part_37 : decode cX10_part 37 = .ok (.getfield 119, 3) := by decide +kernel
theorem dX10_part_40 : decode cX10_part 40 = .ok (.iconst 1, 1) := by decide +kernel
theorem dX10_part_41 : decode cX10_part 41 = .ok (.iadd, 1) := by decide +kernel
theorem dX10_part_42 : decode cX10_part 42 = .ok (.putfield 119, 3) := by decide +kernel
theorem dX10_part_45 : decode cX10_part 45 = .ok (.aload_n 0, 1) := by decide +kernel
theorem dX10_part_46 : decode cX10_part 46 = .ok (.invokevirtual 184, 3) := by decide +kernel
theorem dX10_part_49 : decode cX10_part 49 = .ok (.istore 4, 2) := by decide +kernel
theorem dX10_part_51 : decode cX10_part 51 = .ok (.iload_n 3, 1) := by decide +kernel
theorem dX10_part_52 : decode cX10_part 52 = .ok (.ifCond .eq 12, 3) := by decide +kernel
theorem dX10_part_55 : decode cX10_part 55 = .ok (.iload 4, 2) := by decide +kernel
theorem dX10_part_57 : decode cX10_part 57 = .ok (.ifCond .eq 7, 3) := by decide +kernel
theorem dX10_part_60 : decode cX10_part 60 = .ok (.iconst 1, 1) := by decide +kernel
theorem dX10_part_61 : decode cX10_part 61 = .ok (.goto 4, 3) := by decide +kernel
theorem dX10_part_64 : decode cX10_part 64 = .ok (.iconst 0, 1) := by decide +kernel
theorem dX10_part_65 : decode cX10_part 65 = .ok (.istore_n 3, 1) := by decide +kernel
theorem dX10_part_66 : decode cX10_part 66 = .ok (.goto (-48), 3) := by decide +kernel
theorem dX10_part_69 : decode cX10_part 69 = .ok (.iload_n 3, 1) := by decide +kernel
theorem dX10_part_70 : decode cX10_part 70 = .ok (.ireturn, 1) := by decide +kernel
theorem dX10_condition_0 : decode cX10_condition 0 = .ok (.aload_n 0, 1) := by decide +kernel
theorem dX10_condition_1 : decode cX10_condition 1 = .ok (.iload_n 1, 1) := by decide +kernel
theorem dX10_condition_2 : decode cX10_condition 2 = .ok (.iload_n 2, 1) := by decide +kernel
theorem dX10_condition_3 : decode cX10_condition 3 = .ok (.invokevirtual 194, 3) := by decide +kernel
theorem dX10_condition_6 : decode cX10_condition 6 = .ok (.istore_n 3, 1) := by decide +kernel
theorem dX10_condition_7 : decode cX10_condition 7 = .ok (.aload_n 0, 1) := by decide +kernel
theorem dX10_condition_8 : decode cX10_condition 8 = .ok (.getfield 128, 3) := by decide +kernel
theorem dX10_condition_11 : decode cX10_condition 11 = .ok (.iconst (-1), 1) := by decide +kernel
theorem dX10_condition_12 : decode cX10_condition 12 = .ok (.if_icmp .ne 48, 3) := by decide +kernel
theorem dX10_condition_15 : decode cX10_condition 15 = .ok (.aload_n 0, 1) := by decide +kernel
theorem dX10_condition_16 : decode cX10_condition 16 = .ok (.invokevirtual 138, 3) := by decide +kernel
theorem dX10_condition_19 : decode cX10_condition 19 = .ok (.bipush 124, 2) := by decide +kernel
theorem dX10_condition_21 : decode cX10_condition 21 = .ok (.if_icmp .ne 39, 3) := by decide +kernel
theorem dX10_condition_24 : decode cX10_condition 24 = .ok (.aload_n 0, 1) := by decide +kernel
theorem dX10_condition_25 : decode cX10_condition 25 = .ok (.dup, 1) := by decide +kernel
theorem dX10_condition_26 : decode cX10_condition 26 = .ok (.getfield 119, 3) := by decide +kernel
theorem dX10_condition_29 : decode cX10_condition 29 = .ok (.iconst 1, 1) := by decide +kernel
theorem dX10_condition_30 : decode cX10_condition 30 = .ok (.iadd, 1) := by decide +kernel
theorem dX10_condition_31 : decode cX10_condition 31 = .ok (.putfield 119, 3) := by decide +kernel
theorem dX10_condition_34 : decode cX10_condition 34 = .ok (.aload_n 0, 1) := by decide +kernel
theorem dX10_condition_35 : decode cX10_condition 35 = .ok (.iconst 0, 1) := by decide +kernel
theorem dX10_condition_36 : decode cX10_condition 36 = .ok (.iconst 0, 1) := by decide +kernel
theorem dX10_condition_37 : decode cX10_condition 37 = .ok (.invokevirtual 194, 3) := by decide +kernel
theorem dX10_condition_40 : decode cX10_condition 40 = .ok (.istore 4, 2) := by decide +kernel
theorem dX10_condition_42 : decode cX10_condition 42 = .ok (.iload_n 3, 1) := by decide +kernel
theorem dX10_condition_43 : decode cX10_condition 43 = .ok (.ifCond .ne 8, 3) := by decide +kernel
theorem dX10_condition_46 : decode cX10_condition 46 = .ok (.iload 4, 2) := by decide +kernel
theorem dX10_condition_48 : decode cX10_condition 48 = .ok (.ifCond .eq 7, 3) := by decide +kernel
theorem dX10_condition_51 : decode cX10_condition 51 = .ok (.iconst 1, 1) := by decide +kernel
theorem dX10_condition_52 : decode cX10_condition 52 = .ok (.goto 4, 3) := by decide +kernel
theorem dX10_condition_55 : decode cX10_condition 55 = .ok (.iconst 0, 1) := by decide +kernel
theorem dX10_condition_56 : decode cX10_condition 56 = .ok (.istore_n 3, 1) := by decide +kernel
theorem dX10_condition_57 : decode cX10_condition 57 = .ok (.goto (-50), 3) := by decide +kernel
theorem dX10_condition_60 : decode cX10_condition 60 = .ok (.iload_n 3, 1) := by decide +kernel
theorem dX10_condition_61 : decode cX10_condition 61 = .ok (.ireturn, 1) := by decide +kernel
theorem dX10_clause_0 : decode cX10_clause 0 = .ok (.aload_n 0, 1) := by decide +kernel
theorem dX10_clause_1 : decode cX10_clause 1 = .ok (.invokevirtual 138, 3) := by decide +kernel
theorem dX10_clause_4 : decode cX10_clause 4 = .ok (.istore_n 1, 1) := by decide +kernel
theorem dX10_clause_5 : decode cX10_clause 5 = .ok (.ldc 26, 2) := by decide +kernel
theorem dX10_clause_7 : decode cX10_clause 7 = .ok (.iload_n 1, 1) := by decide +kernel
theorem dX10_clause_8 : decode cX10_clause 8 = .ok (.invokestatic 154, 3) := by decide +kernel
theorem dX10_clause_11 : decode cX10_clause 11 = .ok (.ifCond .ne 9, 3) := by decide +kernel
theorem dX10_clause_14 : decode cX10_clause 14 = .ok (.aload_n 0, 1) := by decide +kernel
theorem dX10_clause_15 : decode cX10_clause 15 = .ok (.invokevirtual 134, 3) := by decide +kernel
theorem dX10_clause_18 : decode cX10_clause 18 = .ok (.pop, 1) := by decide +kernel
theorem dX10_clause_19 : decode cX10_clause 19 = .ok (.return_, 1) := by decide +kernel
theorem dX10_clause_20 : decode cX10_clause 20 = .ok (.aload_n 0, 1) := by decide +kernel
theorem dX10_clause_21 : decode cX10_clause 21 = .ok (.dup, 1) := by decide +kernel
theorem dX10_clause_22 : decode cX10_clause 22 = .ok (.getfield 119, 3) := by decide +kernel
theorem dX10_clause_25 : decode cX10_clause 25 = .ok (.iconst 1, 1) := by decide +kernel
theorem dX10_clause_26 : decode cX10_clause 26 = .ok (.iadd, 1) := by decide +kernel
theorem dX10_clause_27 : decode cX10_clause 27 = .ok (.putfield 119, 3) := by decide +kernel
theorem dX10_clause_30 : decode cX10_clause 30 = .ok (.aload_n 0, 1) := by decide +kernel
theorem dX10_clause_31 : decode cX10_clause 31 = .ok (.bipush 58, 2) := by decide +kernel
theorem dX10_clause_33 : decode cX10_clause 33 = .ok (.invokevirtual 164, 3) := by decide +kernel
theorem dX10_clause_36 : decode cX10_clause 36 = .ok (.ifCond .ne 4, 3) := by decide +kernel
theorem dX10_clause_39 : decode cX10_clause 39 = .ok (.return_, 1) := by decide +kernel
theorem dX10_clause_40 : decode cX10_clause 40 = .ok (.iconst 1, 1) := by decide +kernel
theorem dX10_clause_41 : decode cX10_clause 41 = .ok (.istore_n 2, 1) := by decide +kernel
theorem dX10_clause_42 : decode cX10_clause 42 = .ok (.iconst 0, 1) := by decide +kernel
theorem dX10_clause_43 : decode cX10_clause 43 = .ok (.istore_n 3, 1) := by decide +kernel
theorem dX10_clause_44 : decode cX10_clause 44 = .ok (.aload_n 0, 1) := by decide +kernel
theorem dX10_clause_45 : decode cX10_clause 45 = .ok (.invokevirtual 138, 3) := by decide +kernel
theorem dX10_clause_48 : decode cX10_clause 48 = .ok (.istore 4, 2) := by decide +kernel
theorem dX10_clause_50 : decode cX10_clause 50 = .ok (.iload 4, 2) := by decide +kernel
theorem dX10_clause_52 : decode cX10_clause 52 = .ok (.bipush 33, 2) := by decide +kernel
theorem dX10_clause_54 : decode cX10_clause 54 = .ok (.if_icmp .eq 10, 3) := by decide +kernel
theorem dX10_clause_57 : decode cX10_clause 57 = .ok (.iload 4, 2) := by decide +kernel
theorem dX10_clause_59 : decode cX10_clause 59 = .ok (.bipush 40, 2) := by decide +kernel
theorem dX10_clause_61 : decode cX10_clause 61 = .ok (.if_icmp .ne 28, 3) := by decide +kernel
theorem dX10_clause_64 : decode cX10_clause 64 = .ok (.aload_n 0, 1) := by decide +kernel
theorem dX10_clause_65 : decode cX10_clause 65 = .ok (.iconst 0, 1) := by decide +kernel
theorem dX10_clause_66 : decode cX10_clause 66 = .ok (.iconst 0, 1) := by decide +kernel
theorem dX10_clause_67 : decode cX10_clause 67 = .ok (.invokevirtual 187, 3) := by decide +kernel
theorem dX10_clause_70 : decode cX10_clause 70 = .ok (.istore_n 2, 1) := by decide +kernel
theorem dX10_clause_71 : decode cX10_clause 71 = .ok (.aload_n 0, 1) := by decide +kernel
theorem dX10_clause_72 : decode cX10_clause 72 = .ok (.bipush 63, 2) := by decide +kernel
theorem dX10_clause_74 : decode cX10_clause 74 = .ok (.invokevirtual 164, 3) := by decide +kernel
theorem dX10_clause_77 : decode cX10_clause 77 = .ok (.ifCond .ne 4, 3) := by decide +kernel
theorem dX10_clause_80 : decode cX10_clause 80 = .ok (.return_, 1) := by decide +kernel
theorem dX10_clause_81 : decode cX10_clause 81 = .ok (.aload_n 0, 1) := by decide +kernel
theorem dX10_clause_82 : decode cX10_clause 82 = .ok (.invokevirtual 161, 3) := by decide +kernel
theorem dX10_clause_85 : decode cX10_clause 85 = .ok (.istore_n 3, 1) := by decide +kernel
theorem dX10_clause_86 : decode cX10_clause 86 = .ok (.goto 48, 3) := by decide +kernel
theorem dX10_clause_89 : decode cX10_clause 89 = .ok (.aload_n 0, 1) := by decide +kernel
theorem dX10_clause_90 : decode cX10_clause 90 = .ok (.invokevirtual 161, 3) := by decide +kernel
theorem dX10_clause_93 : decode cX10_clause 93 = .ok (.istore_n 3, 1) := by decide +kernel
theorem dX10_clause_94 : decode cX10_clause 94 = .ok (.aload_n 0, 1) := by decide +kernel
theorem dX10_clause_95 : decode cX10_clause 95 = .ok (.getfield 128, 3) := by decide +kernel
theorem dX10_clause_98 : decode cX10_clause 98 = .ok (.iconst (-1), 1) := by decide +kernel
theorem dX10_clause_99 : decode cX10_clause 99 = .ok (.if_icmp .ne 35, 3) := by decide +kernel
theorem dX10_clause_102 : decode cX10_clause 102 = .ok (.aload_n 0, 1) := by decide +kernel
theorem dX10_clause_103 : decode cX10_clause 103 = .ok (.invokevirtual 138, 3) := by decide +kernel
theorem dX10_clause_106 : decode cX10_clause 106 = .ok (.invokestatic 181, 3) := by decide +kernel
theorem dX10_clause_109 : decode cX10_clause 109 = .ok (.ifCond .eq 25, 3) := by decide +kernel
theorem dX10_clause_112 : decode cX10_clause 112 = .ok (.aload_n 0, 1) := by decide +kernel
theorem dX10_clause_113 : decode cX10_clause 113 = .ok (.iconst 1, 1) := by decide +kernel
theorem dX10_clause_114 : decode cX10_clause 114 = .ok (.iload_n 3, 1) := by decide +kernel
theorem dX10_clause_115 : decode cX10_clause 115 = .ok (.invokevirtual 187, 3) := by decide +kernel
theorem dX10_clause_118 : decode cX10_clause 118 = .ok (.istore_n 2, 1) := by decide +kernel
theorem dX10_clause_119 : decode cX10_clause 119 = .ok (.aload_n 0, 1) := by decide +kernel
theorem dX10_clause_120 : decode cX10_clause 120 = .ok (.bipush 63, 2) := by decide +kernel
theorem dX10_clause_122 : decode cX10_clause 122 = .ok (.invokevirtual 164, 3) := by decide +kernel
theorem dX10_clause_125 : decode cX10_clause 125 = .ok (.ifCond .ne 4, 3) := by decide +kernel
theorem dX10_clause_128 : decode cX10_clause 128 = .ok (.return_, 1) := by decide +kernel
theorem dX10_clause_129 : decode cX10_clause 129 = .ok (.aload_n 0, 1) := by decide +kernel
theorem dX10_clause_130 : decode cX10_clause 130 = .ok (.invokevirtual 161, 3) := by decide +kernel
theorem dX10_clause_133 : decode cX10_clause 133 = .ok (.istore_n 3, 1) := by decide +kernel
theorem dX10_clause_134 : decode cX10_clause 134 = .ok (.aload_n 0, 1) := by decide +kernel
theorem dX10_clause_135 : decode cX10_clause 135 = .ok (.getfield 128, 3) := by decide +kernel
theorem dX10_clause_138 : decode cX10_clause 138 = .ok (.iconst (-1), 1) := by decide +kernel
theorem dX10_clause_139 : decode cX10_clause 139 = .ok (.if_icmp .ne 22, 3) := by decide +kernel
theorem dX10_clause_142 : decode cX10_clause 142 = .ok (.aload_n 0, 1) := by decide +kernel
theorem dX10_clause_143 : decode cX10_clause 143 = .ok (.getfield 197, 3) := by decide +kernel
theorem dX10_clause_146 : decode cX10_clause 146 = .ok (.ifCond .ne 15, 3) := by decide +kernel
theorem dX10_clause_149 : decode cX10_clause 149 = .ok (.iload_n 1, 1) := by decide +kernel
theorem dX10_clause_150 : decode cX10_clause 150 = .ok (.aload_n 0, 1) := by decide +kernel
theorem dX10_clause_151 : decode cX10_clause 151 = .ok (.getfield 201, 3) := by decide +kernel
theorem dX10_clause_154 : decode cX10_clause 154 = .ok (.if_icmp .ne 7, 3) := by decide +kernel
theorem dX10_clause_157 : decode cX10_clause 157 = .ok (.iload_n 2, 1) := by decide +kernel
theorem dX10_clause_158 : decode cX10_clause 158 = .ok (.ifCond .ne 4, 3) := by decide +kernel
theorem dX10_clause_161 : decode cX10_clause 161 = .ok (.return_, 1) := by decide +kernel
theorem dX10_clause_162 : decode cX10_clause 162 = .ok (.aload_n 0, 1) := by decide +kernel
theorem dX10_clause_163 : decode cX10_clause 163 = .ok (.iconst 1, 1) := by decide +kernel
theorem dX10_clause_164 : decode cX10_clause 164 = .ok (.putfield 197, 3) := by decide +kernel
theorem dX10_clause_167 : decode cX10_clause 167 = .ok (.aload_n 0, 1) := by decide +kernel
theorem dX10_clause_168 : decode cX10_clause 168 = .ok (.iload_n 3, 1) := by decide +kernel
theorem dX10_clause_169 : decode cX10_clause 169 = .ok (.putfield 204, 3) := by decide +kernel
theorem dX10_clause_172 : decode cX10_clause 172 = .ok (.return_, 1) := by decide +kernel
theorem dX10_starts_0 : decode cX10_starts 0 = .ok (.aload_n 0, 1) := by decide +kernel
theorem dX10_starts_1 : decode cX10_starts 1 = .ok (.aload_n 1, 1) := by decide +kernel
theorem dX10_starts_2 : decode cX10_starts 2 = .ok (.putfield 23, 3) := by decide +kernel
theorem dX10_starts_5 : decode cX10_starts 5 = .ok (.aload_n 0, 1) := by decide +kernel
theorem dX10_starts_6 : decode cX10_starts 6 = .ok (.iload_n 2, 1) := by decide +kernel
theorem dX10_starts_7 : decode cX10_starts 7 = .ok (.putfield 125, 3) := by decide +kernel
theorem dX10_starts_10 : decode cX10_starts 10 = .ok (.aload_n 0, 1) := by decide +kernel
theorem dX10_starts_11 : decode cX10_starts 11 = .ok (.iload_n 3, 1) := by decide +kernel
theorem dX10_starts_12 : decode cX10_starts 12 = .ok (.putfield 122, 3) := by decide +kernel
theorem dX10_starts_15 : decode cX10_starts 15 = .ok (.aload_n 0, 1) := by decide +kernel
theorem dX10_starts_16 : decode cX10_starts 16 = .ok (.iconst 0, 1) := by decide +kernel
theorem dX10_starts_17 : decode cX10_starts 17 = .ok (.putfield 119, 3) := by decide +kernel
theorem dX10_starts_20 : decode cX10_starts 20 = .ok (.aload_n 0, 1) := by decide +kernel
theorem dX10_starts_21 : decode cX10_starts 21 = .ok (.iconst (-1), 1) := by decide +kernel
theorem dX10_starts_22 : decode cX10_starts 22 = .ok (.putfield 128, 3) := by decide +kernel
theorem dX10_starts_25 : decode cX10_starts 25 = .ok (.return_, 1) := by decide +kernel
theorem dX10_goThrough_0 : decode cX10_goThrough 0 = .ok (.aload_n 0, 1) := by decide +kernel
theorem dX10_goThrough_1 : decode cX10_goThrough 1 = .ok (.aload_n 1, 1) := by decide +kernel
theorem dX10_goThrough_2 : decode cX10_goThrough 2 = .ok (.iload_n 2, 1) := by decide +kernel
theorem dX10_goThrough_3 : decode cX10_goThrough 3 = .ok (.iload_n 3, 1) := by decide +kernel
theorem dX10_goThrough_4 : decode cX10_goThrough 4 = .ok (.invokevirtual 207, 3) := by decide +kernel
theorem dX10_goThrough_7 : decode cX10_goThrough 7 = .ok (.aload_n 0, 1) := by decide +kernel
theorem dX10_goThrough_8 : decode cX10_goThrough 8 = .ok (.bipush 121, 2) := by decide +kernel
theorem dX10_goThrough_10 : decode cX10_goThrough 10 = .ok (.putfield 201, 3) := by decide +kernel
theorem dX10_goThrough_13 : decode cX10_goThrough 13 = .ok (.aload_n 0, 1) := by decide +kernel
theorem dX10_goThrough_14 : decode cX10_goThrough 14 = .ok (.iconst 0, 1) := by decide +kernel
theorem dX10_goThrough_15 : decode cX10_goThrough 15 = .ok (.putfield 131, 3) := by decide +kernel
theorem dX10_goThrough_18 : decode cX10_goThrough 18 = .ok (.aload_n 0, 1) := by decide +kernel
theorem dX10_goThrough_19 : decode cX10_goThrough 19 = .ok (.iconst 0, 1) := by decide +kernel
theorem dX10_goThrough_20 : decode cX10_goThrough 20 = .ok (.putfield 197, 3) := by decide +kernel
theorem dX10_goThrough_23 : decode cX10_goThrough 23 = .ok (.aload_n 0, 1) := by decide +kernel
theorem dX10_goThrough_24 : decode cX10_goThrough 24 = .ok (.iconst 0, 1) := by decide +kernel
theorem dX10_goThrough_25 : decode cX10_goThrough 25 = .ok (.putfield 204, 3) := by decide +kernel
theorem dX10_goThrough_28 : decode cX10_goThrough 28 = .ok (.aload_n 0, 1) := by decide +kernel
theorem dX10_goThrough_29 : decode cX10_goThrough 29 = .ok (.invokevirtual 211, 3) := by decide +kernel
theorem dX10_goThrough_32 : decode cX10_goThrough 32 = .ok (.aload_n 0, 1) := by decide +kernel
theorem dX10_goThrough_33 : decode cX10_goThrough 33 = .ok (.getfield 128, 3) := by decide +kernel
theorem dX10_goThrough_36 : decode cX10_goThrough 36 = .ok (.iconst (-1), 1) := by decide +kernel
theorem dX10_goThrough_37 : decode cX10_goThrough 37 = .ok (.if_icmp .ne 29, 3) := by decide +kernel
theorem dX10_goThrough_40 : decode cX10_goThrough 40 = .ok (.aload_n 0, 1) := by decide +kernel
theorem dX10_goThrough_41 : decode cX10_goThrough 41 = .ok (.invokevirtual 138, 3) := by decide +kernel
theorem dX10_goThrough_44 : decode cX10_goThrough 44 = .ok (.bipush 59, 2) := by decide +kernel
theorem dX10_goThrough_46 : decode cX10_goThrough 46 = .ok (.if_icmp .ne 20, 3) := by decide +kernel
theorem dX10_goThrough_49 : decode cX10_goThrough 49 = .ok (.aload_n 0, 1) := by decide +kernel
theorem dX10_goThrough_50 : decode cX10_goThrough 50 = .ok (.dup, 1) := by decide +kernel
theorem dX10_goThrough_51 : decode cX10_goThrough 51 = .ok (.getfield 119, 3) := by decide +kernel
theorem dX10_goThrough_54 : decode cX10_goThrough 54 = .ok (.iconst 1, 1) := by decide +kernel
theorem dX10_goThrough_55 : decode cX10_goThrough 55 = .ok (.iadd, 1) := by decide +kernel
theorem dX10_goThrough_56 : decode cX10_goThrough 56 = .ok (.putfield 119, 3) := by decide +kernel
theorem dX10_goThrough_59 : decode cX10_goThrough 59 = .ok (.aload_n 0, 1) := by decide +kernel
theorem dX10_goThrough_60 : decode cX10_goThrough 60 = .ok (.invokevirtual 211, 3) := by decide +kernel
theorem dX10_goThrough_63 : decode cX10_goThrough 63 = .ok (.goto (-31), 3) := by decide +kernel
theorem dX10_goThrough_66 : decode cX10_goThrough 66 = .ok (.aload_n 0, 1) := by decide +kernel
theorem dX10_goThrough_67 : decode cX10_goThrough 67 = .ok (.getfield 128, 3) := by decide +kernel
theorem dX10_goThrough_70 : decode cX10_goThrough 70 = .ok (.iconst (-1), 1) := by decide +kernel
theorem dX10_goThrough_71 : decode cX10_goThrough 71 = .ok (.if_icmp .ne 16, 3) := by decide +kernel
theorem dX10_goThrough_74 : decode cX10_goThrough 74 = .ok (.aload_n 0, 1) := by decide +kernel
theorem dX10_goThrough_75 : decode cX10_goThrough 75 = .ok (.invokevirtual 138, 3) := by decide +kernel
theorem dX10_goThrough_78 : decode cX10_goThrough 78 = .ok (.iconst (-1), 1) := by decide +kernel
theorem dX10_goThrough_79 : decode cX10_goThrough 79 = .ok (.if_icmp .eq 8, 3) := by decide +kernel
theorem dX10_goThrough_82 : decode cX10_goThrough 82 = .ok (.aload_n 0, 1) := by decide +kernel
theorem dX10_goThrough_83 : decode cX10_goThrough 83 = .ok (.invokevirtual 134, 3) := by decide +kernel
theorem dX10_goThrough_86 : decode cX10_goThrough 86 = .ok (.pop, 1) := by decide +kernel
theorem dX10_goThrough_87 : decode cX10_goThrough 87 = .ok (.return_, 1) := by decide +kernel
theorem dX10_here_0 : decode cX10_here 0 = .ok (.aload_n 0, 1) := by decide +kernel
theorem dX10_here_1 : decode cX10_here 1 = .ok (.getfield 119, 3) := by decide +kernel
theorem dX10_here_4 : decode cX10_here 4 = .ok (.aload_n 0, 1) := by decide +kernel
theorem dX10_here_5 : decode cX10_here 5 = .ok (.getfield 122, 3) := by decide +kernel
theorem dX10_here_8 : decode cX10_here 8 = .ok (.if_icmp .ge 24, 3) := by decide +kernel
theorem dX10_here_11 : decode cX10_here 11 = .ok (.aload_n 0, 1) := by decide +kernel
theorem dX10_here_12 : decode cX10_here 12 = .ok (.getfield 23, 3) := by decide +kernel
theorem dX10_here_15 : decode cX10_here 15 = .ok (.aload_n 0, 1) := by decide +kernel
theorem dX10_here_16 : decode cX10_here 16 = .ok (.getfield 125, 3) := by decide +kernel
theorem dX10_here_19 : decode cX10_here 19 = .ok (.aload_n 0, 1) := by decide +kernel
theorem dX10_here_20 : decode cX10_here 20 = .ok (.getfield 119, 3) := by decide +kernel
theorem dX10_here_23 : decode cX10_here 23 = .ok (.iadd, 1) := by decide +kernel
theorem dX10_here_24 : decode cX10_here 24 = .ok (.baload, 1) := by decide +kernel
theorem dX10_here_25 : decode cX10_here 25 = .ok (.sipush 255, 3) := by decide +kernel
theorem dX10_here_28 : decode cX10_here 28 = .ok (.iand, 1) := by decide +kernel
theorem dX10_here_29 : decode cX10_here 29 = .ok (.goto 4, 3) := by decide +kernel
theorem dX10_here_32 : decode cX10_here 32 = .ok (.iconst (-1), 1) := by decide +kernel
theorem dX10_here_33 : decode cX10_here 33 = .ok (.ireturn, 1) := by decide +kernel
theorem dX10_spotOf_0 : decode cX10_spotOf 0 = .ok (.iconst 0, 1) := by decide +kernel
theorem dX10_spotOf_1 : decode cX10_spotOf 1 = .ok (.istore_n 2, 1) := by decide +kernel
theorem dX10_spotOf_2 : decode cX10_spotOf 2 = .ok (.iload_n 2, 1) := by decide +kernel
theorem dX10_spotOf_3 : decode cX10_spotOf 3 = .ok (.aload_n 0, 1) := by decide +kernel
theorem dX10_spotOf_4 : decode cX10_spotOf 4 = .ok (.invokevirtual 99, 3) := by decide +kernel
theorem dX10_spotOf_7 : decode cX10_spotOf 7 = .ok (.if_icmp .ge 20, 3) := by decide +kernel
theorem dX10_spotOf_10 : decode cX10_spotOf 10 = .ok (.aload_n 0, 1) := by decide +kernel
theorem dX10_spotOf_11 : decode cX10_spotOf 11 = .ok (.iload_n 2, 1) := by decide +kernel
theorem dX10_spotOf_12 : decode cX10_spotOf 12 = .ok (.invokevirtual 105, 3) := by decide +kernel
theorem dX10_spotOf_15 : decode cX10_spotOf 15 = .ok (.iload_n 1, 1) := by decide +kernel
theorem dX10_spotOf_16 : decode cX10_spotOf 16 = .ok (.if_icmp .ne 5, 3) := by decide +kernel
theorem dX10_spotOf_19 : decode cX10_spotOf 19 = .ok (.iload_n 2, 1) := by decide +kernel
theorem dX10_spotOf_20 : decode cX10_spotOf 20 = .ok (.ireturn, 1) := by decide +kernel
theorem dX10_spotOf_21 : decode cX10_spotOf 21 = .ok (.iinc 2 1, 3) := by decide +kernel
theorem dX10_spotOf_24 : decode cX10_spotOf 24 = .ok (.goto (-22), 3) := by decide +kernel
theorem dX10_spotOf_27 : decode cX10_spotOf 27 = .ok (.iconst (-1), 1) := by decide +kernel
theorem dX10_spotOf_28 : decode cX10_spotOf 28 = .ok (.ireturn, 1) := by decide +kernel
theorem dX10_number_0 : decode cX10_number 0 = .ok (.aload_n 0, 1) := by decide +kernel
theorem dX10_number_1 : decode cX10_number 1 = .ok (.invokevirtual 138, 3) := by decide +kernel
theorem dX10_number_4 : decode cX10_number 4 = .ok (.istore_n 3, 1) := by decide +kernel
theorem dX10_number_5 : decode cX10_number 5 = .ok (.aload_n 0, 1) := by decide +kernel
theorem dX10_number_6 : decode cX10_number 6 = .ok (.invokevirtual 168, 3) := by decide +kernel
theorem dX10_number_9 : decode cX10_number 9 = .ok (.ifCond .ne 10, 3) := by decide +kernel
theorem dX10_number_12 : decode cX10_number 12 = .ok (.aload_n 0, 1) := by decide +kernel
theorem dX10_number_13 : decode cX10_number 13 = .ok (.invokevirtual 134, 3) := by decide +kernel
theorem dX10_number_16 : decode cX10_number 16 = .ok (.pop, 1) := by decide +kernel
theorem dX10_number_17 : decode cX10_number 17 = .ok (.iconst 0, 1) := by decide +kernel
theorem dX10_number_18 : decode cX10_number 18 = .ok (.ireturn, 1) := by decide +kernel
theorem dX10_number_19 : decode cX10_number 19 = .ok (.iload_n 3, 1) := by decide +kernel
theorem dX10_number_20 : decode cX10_number 20 = .ok (.bipush 48, 2) := by decide +kernel
theorem dX10_number_22 : decode cX10_number 22 = .ok (.isub, 1) := by decide +kernel
theorem dX10_number_23 : decode cX10_number 23 = .ok (.istore 4, 2) := by decide +kernel
theorem dX10_number_25 : decode cX10_number 25 = .ok (.aload_n 0, 1) := by decide +kernel
theorem dX10_number_26 : decode cX10_number 26 = .ok (.dup, 1) := by decide +kernel
theorem dX10_number_27 : decode cX10_number 27 = .ok (.getfield 119, 3) := by decide +kernel
theorem dX10_number_30 : decode cX10_number 30 = .ok (.iconst 1, 1) := by decide +kernel
theorem dX10_number_31 : decode cX10_number 31 = .ok (.iadd, 1) := by decide +kernel
theorem dX10_number_32 : decode cX10_number 32 = .ok (.putfield 119, 3) := by decide +kernel
theorem dX10_number_35 : decode cX10_number 35 = .ok (.aload_n 0, 1) := by decide +kernel
theorem dX10_number_36 : decode cX10_number 36 = .ok (.invokevirtual 168, 3) := by decide +kernel
theorem dX10_number_39 : decode cX10_number 39 = .ok (.ifCond .eq 28, 3) := by decide +kernel
theorem dX10_number_42 : decode cX10_number 42 = .ok (.bipush 10, 2) := by decide +kernel
theorem dX10_number_44 : decode cX10_number 44 = .ok (.iload 4, 2) := by decide +kernel
theorem dX10_number_46 : decode cX10_number 46 = .ok (.imul, 1) := by decide +kernel
theorem dX10_number_47 : decode cX10_number 47 = .ok (.aload_n 0, 1) := by decide +kernel
theorem dX10_number_48 : decode cX10_number 48 = .ok (.invokevirtual 214, 3) := by decide +kernel
theorem dX10_number_51 : decode cX10_number 51 = .ok (.iadd, 1) := by decide +kernel
theorem dX10_number_52 : decode cX10_number 52 = .ok (.bipush 48, 2) := by decide +kernel
theorem dX10_number_54 : decode cX10_number 54 = .ok (.isub, 1) := by decide +kernel
theorem dX10_number_55 : decode cX10_number 55 = .ok (.istore 4, 2) := by decide +kernel
theorem dX10_number_57 : decode cX10_number 57 = .ok (.aload_n 0, 1) := by decide +kernel
theorem dX10_number_58 : decode cX10_number 58 = .ok (.dup, 1) := by decide +kernel
theorem dX10_number_59 : decode cX10_number 59 = .ok (.getfield 119, 3) := by decide +kernel
theorem dX10_number_62 : decode cX10_number 62 = .ok (.iconst 1, 1) := by decide +kernel
theorem dX10_number_63 : decode cX10_number 63 = .ok (.iadd, 1) := by decide +kernel
theorem dX10_number_64 : decode cX10_number 64 = .ok (.putfield 119, 3) := by decide +kernel
theorem dX10_number_67 : decode cX10_number 67 = .ok (.aload_n 0, 1) := by decide +kernel
theorem dX10_number_68 : decode cX10_number 68 = .ok (.invokevirtual 168, 3) := by decide +kernel
theorem dX10_number_71 : decode cX10_number 71 = .ok (.ifCond .eq 10, 3) := by decide +kernel
theorem dX10_number_74 : decode cX10_number 74 = .ok (.aload_n 0, 1) := by decide +kernel
theorem dX10_number_75 : decode cX10_number 75 = .ok (.invokevirtual 134, 3) := by decide +kernel
theorem dX10_number_78 : decode cX10_number 78 = .ok (.pop, 1) := by decide +kernel
theorem dX10_number_79 : decode cX10_number 79 = .ok (.iconst 0, 1) := by decide +kernel
theorem dX10_number_80 : decode cX10_number 80 = .ok (.ireturn, 1) := by decide +kernel
theorem dX10_number_81 : decode cX10_number 81 = .ok (.iload 4, 2) := by decide +kernel
theorem dX10_number_83 : decode cX10_number 83 = .ok (.i2l, 1) := by decide +kernel
theorem dX10_number_84 : decode cX10_number 84 = .ok (.iload_n 1, 1) := by decide +kernel
theorem dX10_number_85 : decode cX10_number 85 = .ok (.i2l, 1) := by decide +kernel
theorem dX10_number_86 : decode cX10_number 86 = .ok (.iload_n 2, 1) := by decide +kernel
theorem dX10_number_87 : decode cX10_number 87 = .ok (.i2l, 1) := by decide +kernel
theorem dX10_number_88 : decode cX10_number 88 = .ok (.invokestatic 217, 3) := by decide +kernel
theorem dX10_number_91 : decode cX10_number 91 = .ok (.ifCond .ne 18, 3) := by decide +kernel
theorem dX10_number_94 : decode cX10_number 94 = .ok (.aload_n 0, 1) := by decide +kernel
theorem dX10_number_95 : decode cX10_number 95 = .ok (.dup, 1) := by decide +kernel
theorem dX10_number_96 : decode cX10_number 96 = .ok (.getfield 119, 3) := by decide +kernel
theorem dX10_number_99 : decode cX10_number 99 = .ok (.iconst 1, 1) := by decide +kernel
theorem dX10_number_100 : decode cX10_number 100 = .ok (.isub, 1) := by decide +kernel
theorem dX10_number_101 : decode cX10_number 101 = .ok (.putfield 119, 3) := by decide +kernel
theorem dX10_number_104 : decode cX10_number 104 = .ok (.aload_n 0, 1) := by decide +kernel
theorem dX10_number_105 : decode cX10_number 105 = .ok (.invokevirtual 134, 3) := by decide +kernel
theorem dX10_number_108 : decode cX10_number 108 = .ok (.pop, 1) := by decide +kernel
theorem dX10_number_109 : decode cX10_number 109 = .ok (.iload 4, 2) := by decide +kernel
theorem dX10_number_111 : decode cX10_number 111 = .ok (.ireturn, 1) := by decide +kernel
theorem dX10_mostOf_0 : decode cX10_mostOf 0 = .ok (.iload_n 0, 1) := by decide +kernel
theorem dX10_mostOf_1 : decode cX10_mostOf 1 = .ok (.bipush 115, 2) := by decide +kernel
theorem dX10_mostOf_3 : decode cX10_mostOf 3 = .ok (.if_icmp .ne 34, 3) := by decide +kernel
theorem dX10_mostOf_6 : decode cX10_mostOf 6 = .ok (.iload_n 1, 1) := by decide +kernel
theorem dX10_mostOf_7 : decode cX10_mostOf 7 = .ok (.ifCond .ne 8, 3) := by decide +kernel
theorem dX10_mostOf_10 : decode cX10_mostOf 10 = .ok (.bipush 6, 2) := by decide +kernel
theorem dX10_mostOf_12 : decode cX10_mostOf 12 = .ok (.goto 24, 3) := by decide +kernel
theorem dX10_mostOf_15 : decode cX10_mostOf 15 = .ok (.iload_n 1, 1) := by decide +kernel
theorem dX10_mostOf_16 : decode cX10_mostOf 16 = .ok (.iconst 1, 1) := by decide +kernel
theorem dX10_mostOf_17 : decode cX10_mostOf 17 = .ok (.if_icmp .ne 7, 3) := by decide +kernel
theorem dX10_mostOf_20 : decode cX10_mostOf 20 = .ok (.iconst 5, 1) := by decide +kernel
theorem dX10_mostOf_21 : decode cX10_mostOf 21 = .ok (.goto 15, 3) := by decide +kernel
theorem dX10_mostOf_24 : decode cX10_mostOf 24 = .ok (.iload_n 1, 1) := by decide +kernel
theorem dX10_mostOf_25 : decode cX10_mostOf 25 = .ok (.iconst 3, 1) := by decide +kernel
theorem dX10_mostOf_26 : decode cX10_mostOf 26 = .ok (.if_icmp .ne 8, 3) := by decide +kernel
theorem dX10_mostOf_29 : decode cX10_mostOf 29 = .ok (.bipush 9, 2) := by decide +kernel
theorem dX10_mostOf_31 : decode cX10_mostOf 31 = .ok (.goto 5, 3) := by decide +kernel
theorem dX10_mostOf_34 : decode cX10_mostOf 34 = .ok (.bipush 99, 2) := by decide +kernel
theorem dX10_mostOf_36 : decode cX10_mostOf 36 = .ok (.ireturn, 1) := by decide +kernel
theorem dX10_mostOf_37 : decode cX10_mostOf 37 = .ok (.iload_n 1, 1) := by decide +kernel
theorem dX10_mostOf_38 : decode cX10_mostOf 38 = .ok (.ifCond .ne 6, 3) := by decide +kernel
theorem dX10_mostOf_41 : decode cX10_mostOf 41 = .ok (.bipush 29, 2) := by decide +kernel
theorem dX10_mostOf_43 : decode cX10_mostOf 43 = .ok (.ireturn, 1) := by decide +kernel
theorem dX10_mostOf_44 : decode cX10_mostOf 44 = .ok (.iload_n 0, 1) := by decide +kernel
theorem dX10_mostOf_45 : decode cX10_mostOf 45 = .ok (.bipush 112, 2) := by decide +kernel
theorem dX10_mostOf_47 : decode cX10_mostOf 47 = .ok (.if_icmp .ne 15, 3) := by decide +kernel
theorem dX10_mostOf_50 : decode cX10_mostOf 50 = .ok (.iload_n 1, 1) := by decide +kernel
theorem dX10_mostOf_51 : decode cX10_mostOf 51 = .ok (.iconst 2, 1) := by decide +kernel
theorem dX10_mostOf_52 : decode cX10_mostOf 52 = .ok (.if_icmp .ne 7, 3) := by decide +kernel
theorem dX10_mostOf_55 : decode cX10_mostOf 55 = .ok (.iconst 4, 1) := by decide +kernel
theorem dX10_mostOf_56 : decode cX10_mostOf 56 = .ok (.goto 5, 3) := by decide +kernel
theorem dX10_mostOf_59 : decode cX10_mostOf 59 = .ok (.bipush 9, 2) := by decide +kernel
theorem dX10_mostOf_61 : decode cX10_mostOf 61 = .ok (.ireturn, 1) := by decide +kernel
theorem dX10_mostOf_62 : decode cX10_mostOf 62 = .ok (.iload_n 1, 1) := by decide +kernel
theorem dX10_mostOf_63 : decode cX10_mostOf 63 = .ok (.iconst 3, 1) := by decide +kernel
theorem dX10_mostOf_64 : decode cX10_mostOf 64 = .ok (.if_icmp .ne 7, 3) := by decide +kernel
theorem dX10_mostOf_67 : decode cX10_mostOf 67 = .ok (.iconst 4, 1) := by decide +kernel
theorem dX10_mostOf_68 : decode cX10_mostOf 68 = .ok (.goto 5, 3) := by decide +kernel
theorem dX10_mostOf_71 : decode cX10_mostOf 71 = .ok (.bipush 9, 2) := by decide +kernel
theorem dX10_mostOf_73 : decode cX10_mostOf 73 = .ok (.ireturn, 1) := by decide +kernel
theorem dX10_leastOf_0 : decode cX10_leastOf 0 = .ok (.iload_n 0, 1) := by decide +kernel
theorem dX10_leastOf_1 : decode cX10_leastOf 1 = .ok (.bipush 115, 2) := by decide +kernel
theorem dX10_leastOf_3 : decode cX10_leastOf 3 = .ok (.if_icmp .ne 13, 3) := by decide +kernel
theorem dX10_leastOf_6 : decode cX10_leastOf 6 = .ok (.iload_n 1, 1) := by decide +kernel
theorem dX10_leastOf_7 : decode cX10_leastOf 7 = .ok (.iconst 2, 1) := by decide +kernel
theorem dX10_leastOf_8 : decode cX10_leastOf 8 = .ok (.if_icmp .lt 19, 3) := by decide +kernel
theorem dX10_leastOf_11 : decode cX10_leastOf 11 = .ok (.iload_n 1, 1) := by decide +kernel
theorem dX10_leastOf_12 : decode cX10_leastOf 12 = .ok (.iconst 4, 1) := by decide +kernel
theorem dX10_leastOf_13 : decode cX10_leastOf 13 = .ok (.if_icmp .eq 14, 3) := by decide +kernel
theorem dX10_leastOf_16 : decode cX10_leastOf 16 = .ok (.iload_n 0, 1) := by decide +kernel
theorem dX10_leastOf_17 : decode cX10_leastOf 17 = .ok (.bipush 112, 2) := by decide +kernel
theorem dX10_leastOf_19 : decode cX10_leastOf 19 = .ok (.if_icmp .ne 12, 3) := by decide +kernel
theorem dX10_leastOf_22 : decode cX10_leastOf 22 = .ok (.iload_n 1, 1) := by decide +kernel
theorem dX10_leastOf_23 : decode cX10_leastOf 23 = .ok (.iconst 1, 1) := by decide +kernel
theorem dX10_leastOf_24 : decode cX10_leastOf 24 = .ok (.if_icmp .ne 7, 3) := by decide +kernel
theorem dX10_leastOf_27 : decode cX10_leastOf 27 = .ok (.iconst 1, 1) := by decide +kernel
theorem dX10_leastOf_28 : decode cX10_leastOf 28 = .ok (.goto 4, 3) := by decide +kernel
theorem dX10_leastOf_31 : decode cX10_leastOf 31 = .ok (.iconst 0, 1) := by decide +kernel
theorem dX10_leastOf_32 : decode cX10_leastOf 32 = .ok (.ireturn, 1) := by decide +kernel
theorem dX10_usual_0 : decode cX10_usual 0 = .ok (.iload_n 0, 1) := by decide +kernel
theorem dX10_usual_1 : decode cX10_usual 1 = .ok (.bipush 115, 2) := by decide +kernel
theorem dX10_usual_3 : decode cX10_usual 3 = .ok (.if_icmp .ne 42, 3) := by decide +kernel
theorem dX10_usual_6 : decode cX10_usual 6 = .ok (.iload_n 1, 1) := by decide +kernel
theorem dX10_usual_7 : decode cX10_usual 7 = .ok (.ifCond .ne 7, 3) := by decide +kernel
theorem dX10_usual_10 : decode cX10_usual 10 = .ok (.iconst 5, 1) := by decide +kernel
theorem dX10_usual_11 : decode cX10_usual 11 = .ok (.goto 33, 3) := by decide +kernel
theorem dX10_usual_14 : decode cX10_usual 14 = .ok (.iload_n 1, 1) := by decide +kernel
theorem dX10_usual_15 : decode cX10_usual 15 = .ok (.iconst 1, 1) := by decide +kernel
theorem dX10_usual_16 : decode cX10_usual 16 = .ok (.if_icmp .ne 7, 3) := by decide +kernel
theorem dX10_usual_19 : decode cX10_usual 19 = .ok (.iconst 4, 1) := by decide +kernel
theorem dX10_usual_20 : decode cX10_usual 20 = .ok (.goto 24, 3) := by decide +kernel
theorem dX10_usual_23 : decode cX10_usual 23 = .ok (.iload_n 1, 1) := by decide +kernel
theorem dX10_usual_24 : decode cX10_usual 24 = .ok (.iconst 2, 1) := by decide +kernel
theorem dX10_usual_25 : decode cX10_usual 25 = .ok (.if_icmp .ne 8, 3) := by decide +kernel
theorem dX10_usual_28 : decode cX10_usual 28 = .ok (.bipush 40, 2) := by decide +kernel
theorem dX10_usual_30 : decode cX10_usual 30 = .ok (.goto 14, 3) := by decide +kernel
theorem dX10_usual_33 : decode cX10_usual 33 = .ok (.iload_n 1, 1) := by decide +kernel
theorem dX10_usual_34 : decode cX10_usual 34 = .ok (.iconst 3, 1) := by decide +kernel
theorem dX10_usual_35 : decode cX10_usual 35 = .ok (.if_icmp .ne 7, 3) := by decide +kernel
theorem dX10_usual_38 : decode cX10_usual 38 = .ok (.iconst 1, 1) := by decide +kernel
theorem dX10_usual_39 : decode cX10_usual 39 = .ok (.goto 5, 3) := by decide +kernel
theorem dX10_usual_42 : decode cX10_usual 42 = .ok (.bipush 60, 2) := by decide +kernel
theorem dX10_usual_44 : decode cX10_usual 44 = .ok (.ireturn, 1) := by decide +kernel
theorem dX10_usual_45 : decode cX10_usual 45 = .ok (.iload_n 0, 1) := by decide +kernel
theorem dX10_usual_46 : decode cX10_usual 46 = .ok (.bipush 112, 2) := by decide +kernel
theorem dX10_usual_48 : decode cX10_usual 48 = .ok (.if_icmp .ne 14, 3) := by decide +kernel
theorem dX10_usual_51 : decode cX10_usual 51 = .ok (.iload_n 1, 1) := by decide +kernel
theorem dX10_usual_52 : decode cX10_usual 52 = .ok (.iconst 1, 1) := by decide +kernel
theorem dX10_usual_53 : decode cX10_usual 53 = .ok (.if_icmp .ne 7, 3) := by decide +kernel
theorem dX10_usual_56 : decode cX10_usual 56 = .ok (.iconst 5, 1) := by decide +kernel
theorem dX10_usual_57 : decode cX10_usual 57 = .ok (.goto 4, 3) := by decide +kernel
theorem dX10_usual_60 : decode cX10_usual 60 = .ok (.iconst 0, 1) := by decide +kernel
theorem dX10_usual_61 : decode cX10_usual 61 = .ok (.ireturn, 1) := by decide +kernel
theorem dX10_usual_62 : decode cX10_usual 62 = .ok (.iload_n 1, 1) := by decide +kernel
theorem dX10_usual_63 : decode cX10_usual 63 = .ok (.iconst 1, 1) := by decide +kernel
theorem dX10_usual_64 : decode cX10_usual 64 = .ok (.if_icmp .eq 8, 3) := by decide +kernel
theorem dX10_usual_67 : decode cX10_usual 67 = .ok (.iload_n 1, 1) := by decide +kernel
theorem dX10_usual_68 : decode cX10_usual 68 = .ok (.iconst 2, 1) := by decide +kernel
theorem dX10_usual_69 : decode cX10_usual 69 = .ok (.if_icmp .ne 7, 3) := by decide +kernel
theorem dX10_usual_72 : decode cX10_usual 72 = .ok (.iconst 3, 1) := by decide +kernel
theorem dX10_usual_73 : decode cX10_usual 73 = .ok (.goto 4, 3) := by decide +kernel
theorem dX10_usual_76 : decode cX10_usual 76 = .ok (.iconst 0, 1) := by decide +kernel
theorem dX10_usual_77 : decode cX10_usual 77 = .ok (.ireturn, 1) := by decide +kernel
theorem dX10_readItems_0 : decode cX10_readItems 0 = .ok (.iconst 0, 1) := by decide +kernel
theorem dX10_readItems_1 : decode cX10_readItems 1 = .ok (.istore 5, 2) := by decide +kernel
theorem dX10_readItems_3 : decode cX10_readItems 3 = .ok (.iload 5, 2) := by decide +kernel
theorem dX10_readItems_5 : decode cX10_readItems 5 = .ok (.aload 4, 2) := by decide +kernel
theorem dX10_readItems_7 : decode cX10_readItems 7 = .ok (.invokevirtual 99, 3) := by decide +kernel
theorem dX10_readItems_10 : decode cX10_readItems 10 = .ok (.if_icmp .ge 21, 3) := by decide +kernel
theorem dX10_readItems_13 : decode cX10_readItems 13 = .ok (.aload_n 2, 1) := by decide +kernel
theorem dX10_readItems_14 : decode cX10_readItems 14 = .ok (.iload_n 3, 1) := by decide +kernel
theorem dX10_readItems_15 : decode cX10_readItems 15 = .ok (.iload 5, 2) := by decide +kernel
theorem dX10_readItems_17 : decode cX10_readItems 17 = .ok (.iadd, 1) := by decide +kernel
theorem dX10_readItems_18 : decode cX10_readItems 18 = .ok (.iload_n 1, 1) := by decide +kernel
theorem dX10_readItems_19 : decode cX10_readItems 19 = .ok (.iload 5, 2) := by decide +kernel
theorem dX10_readItems_21 : decode cX10_readItems 21 = .ok (.invokestatic 221, 3) := by decide +kernel
theorem dX10_readItems_24 : decode cX10_readItems 24 = .ok (.iastore, 1) := by decide +kernel
theorem dX10_readItems_25 : decode cX10_readItems 25 = .ok (.iinc 5 1, 3) := by decide +kernel
theorem dX10_readItems_28 : decode cX10_readItems 28 = .ok (.goto (-25), 3) := by decide +kernel
theorem dX10_readItems_31 : decode cX10_readItems 31 = .ok (.iconst 0, 1) := by decide +kernel
theorem dX10_readItems_32 : decode cX10_readItems 32 = .ok (.istore 5, 2) := by decide +kernel
theorem dX10_readItems_34 : decode cX10_readItems 34 = .ok (.aload 4, 2) := by decide +kernel
theorem dX10_readItems_36 : decode cX10_readItems 36 = .ok (.aload_n 0, 1) := by decide +kernel
theorem dX10_readItems_37 : decode cX10_readItems 37 = .ok (.invokevirtual 138, 3) := by decide +kernel
theorem dX10_readItems_40 : decode cX10_readItems 40 = .ok (.invokestatic 225, 3) := by decide +kernel
theorem dX10_readItems_43 : decode cX10_readItems 43 = .ok (.istore 6, 2) := by decide +kernel
theorem dX10_readItems_45 : decode cX10_readItems 45 = .ok (.iload 6, 2) := by decide +kernel
theorem dX10_readItems_47 : decode cX10_readItems 47 = .ok (.iconst (-1), 1) := by decide +kernel
theorem dX10_readItems_48 : decode cX10_readItems 48 = .ok (.if_icmp .eq 90, 3) := by decide +kernel
theorem dX10_readItems_51 : decode cX10_readItems 51 = .ok (.aload_n 0, 1) := by decide +kernel
theorem dX10_readItems_52 : decode cX10_readItems 52 = .ok (.getfield 128, 3) := by decide +kernel
theorem dX10_readItems_55 : decode cX10_readItems 55 = .ok (.iconst (-1), 1) := by decide +kernel
theorem dX10_readItems_56 : decode cX10_readItems 56 = .ok (.if_icmp .ne 82, 3) := by decide +kernel
theorem dX10_readItems_59 : decode cX10_readItems 59 = .ok (.iload 5, 2) := by decide +kernel
theorem dX10_readItems_61 : decode cX10_readItems 61 = .ok (.iload 6, 2) := by decide +kernel
theorem dX10_readItems_63 : decode cX10_readItems 63 = .ok (.invokestatic 229, 3) := by decide +kernel
theorem dX10_readItems_66 : decode cX10_readItems 66 = .ok (.ifCond .eq 9, 3) := by decide +kernel
theorem dX10_readItems_69 : decode cX10_readItems 69 = .ok (.aload_n 0, 1) := by decide +kernel
theorem dX10_readItems_70 : decode cX10_readItems 70 = .ok (.invokevirtual 134, 3) := by decide +kernel
theorem dX10_readItems_73 : decode cX10_readItems 73 = .ok (.pop, 1) := by decide +kernel
theorem dX10_readItems_74 : decode cX10_readItems 74 = .ok (.return_, 1) := by decide +kernel
theorem dX10_readItems_75 : decode cX10_readItems 75 = .ok (.iload 5, 2) := by decide +kernel
theorem dX10_readItems_77 : decode cX10_readItems 77 = .ok (.iconst 1, 1) := by decide +kernel
theorem dX10_readItems_78 : decode cX10_readItems 78 = .ok (.iload 6, 2) := by decide +kernel
theorem dX10_readItems_80 : decode cX10_readItems 80 = .ok (.ishl, 1) := by decide +kernel
theorem dX10_readItems_81 : decode cX10_readItems 81 = .ok (.ior, 1) := by decide +kernel
theorem dX10_readItems_82 : decode cX10_readItems 82 = .ok (.istore 5, 2) := by decide +kernel
theorem dX10_readItems_84 : decode cX10_readItems 84 = .ok (.aload_n 0, 1) := by decide +kernel
theorem dX10_readItems_85 : decode cX10_readItems 85 = .ok (.dup, 1) := by decide +kernel
theorem dX10_readItems_86 : decode cX10_readItems 86 = .ok (.getfield 119, 3) := by decide +kernel
theorem dX10_readItems_89 : decode cX10_readItems 89 = .ok (.iconst 1, 1) := by decide +kernel
theorem dX10_readItems_90 : decode cX10_readItems 90 = .ok (.iadd, 1) := by decide +kernel
theorem dX10_readItems_91 : decode cX10_readItems 91 = .ok (.putfield 119, 3) := by decide +kernel
theorem dX10_readItems_94 : decode cX10_readItems 94 = .ok (.aload_n 2, 1) := by decide +kernel
theorem dX10_readItems_95 : decode cX10_readItems 95 = .ok (.iload_n 3, 1) := by decide +kernel
theorem dX10_readItems_96 : decode cX10_readItems 96 = .ok (.iload 6, 2) := by decide +kernel
theorem dX10_readItems_98 : decode cX10_readItems 98 = .ok (.iadd, 1) := by decide +kernel
theorem dX10_readItems_99 : decode cX10_readItems 99 = .ok (.aload_n 0, 1) := by decide +kernel
theorem dX10_readItems_100 : decode cX10_readItems 100 = .ok (.iload_n 1, 1) := by decide +kernel
theorem dX10_readItems_101 : decode cX10_readItems 101 = .ok (.iload 6, 2) := by decide +kernel
theorem dX10_readItems_103 : decode cX10_readItems 103 = .ok (.invokestatic 233, 3) := by decide +kernel
theorem dX10_readItems_106 : decode cX10_readItems 106 = .ok (.iload_n 1, 1) := by decide +kernel
theorem dX10_readItems_107 : decode cX10_readItems 107 = .ok (.iload 6, 2) := by decide +kernel
theorem dX10_readItems_109 : decode cX10_readItems 109 = .ok (.invokestatic 236, 3) := by decide +kernel
theorem dX10_readItems_112 : decode cX10_readItems 112 = .ok (.invokevirtual 239, 3) := by decide +kernel
theorem dX10_readItems_115 : decode cX10_readItems 115 = .ok (.iastore, 1) := by decide +kernel
theorem dX10_readItems_116 : decode cX10_readItems 116 = .ok (.aload_n 0, 1) := by decide +kernel
theorem dX10_readItems_117 : decode cX10_readItems 117 = .ok (.getfield 128, 3) := by decide +kernel
theorem dX10_readItems_120 : decode cX10_readItems 120 = .ok (.iconst (-1), 1) := by decide +kernel
theorem dX10_readItems_121 : decode cX10_readItems 121 = .ok (.if_icmp .ne (-76), 3) := by decide +kernel
theorem dX10_readItems_124 : decode cX10_readItems 124 = .ok (.aload 4, 2) := by decide +kernel
theorem dX10_readItems_126 : decode cX10_readItems 126 = .ok (.aload_n 0, 1) := by decide +kernel
theorem dX10_readItems_127 : decode cX10_readItems 127 = .ok (.invokevirtual 138, 3) := by decide +kernel
theorem dX10_readItems_130 : decode cX10_readItems 130 = .ok (.invokestatic 225, 3) := by decide +kernel
theorem dX10_readItems_133 : decode cX10_readItems 133 = .ok (.istore 6, 2) := by decide +kernel
theorem dX10_readItems_135 : decode cX10_readItems 135 = .ok (.goto (-90), 3) := by decide +kernel
theorem dX10_readItems_138 : decode cX10_readItems 138 = .ok (.return_, 1) := by decide +kernel
theorem dX10_readClause_0 : decode cX10_readClause 0 = .ok (.aload_n 0, 1) := by decide +kernel
theorem dX10_readClause_1 : decode cX10_readClause 1 = .ok (.invokevirtual 138, 3) := by decide +kernel
theorem dX10_readClause_4 : decode cX10_readClause 4 = .ok (.istore_n 1, 1) := by decide +kernel
theorem dX10_readClause_5 : decode cX10_readClause 5 = .ok (.iload_n 1, 1) := by decide +kernel
theorem dX10_readClause_6 : decode cX10_readClause 6 = .ok (.bipush 115, 2) := by decide +kernel
theorem dX10_readClause_8 : decode cX10_readClause 8 = .ok (.if_icmp .ne 10, 3) := by decide +kernel
theorem dX10_readClause_11 : decode cX10_readClause 11 = .ok (.aload_n 0, 1) := by decide +kernel
theorem dX10_readClause_12 : decode cX10_readClause 12 = .ok (.getfield 242, 3) := by decide +kernel
theorem dX10_readClause_15 : decode cX10_readClause 15 = .ok (.ifCond .eq 33, 3) := by decide +kernel
theorem dX10_readClause_18 : decode cX10_readClause 18 = .ok (.iload_n 1, 1) := by decide +kernel
theorem dX10_readClause_19 : decode cX10_readClause 19 = .ok (.bipush 112, 2) := by decide +kernel
theorem dX10_readClause_21 : decode cX10_readClause 21 = .ok (.if_icmp .ne 12, 3) := by decide +kernel
theorem dX10_readClause_24 : decode cX10_readClause 24 = .ok (.aload_n 0, 1) := by decide +kernel
theorem dX10_readClause_25 : decode cX10_readClause 25 = .ok (.getfield 245, 3) := by decide +kernel
theorem dX10_readClause_28 : decode cX10_readClause 28 = .ok (.bipush 12, 2) := by decide +kernel
theorem dX10_readClause_30 : decode cX10_readClause 30 = .ok (.if_icmp .lt 18, 3) := by decide +kernel
theorem dX10_readClause_33 : decode cX10_readClause 33 = .ok (.iload_n 1, 1) := by decide +kernel
theorem dX10_readClause_34 : decode cX10_readClause 34 = .ok (.bipush 114, 2) := by decide +kernel
theorem dX10_readClause_36 : decode cX10_readClause 36 = .ok (.if_icmp .ne 16, 3) := by decide +kernel
theorem dX10_readClause_39 : decode cX10_readClause 39 = .ok (.aload_n 0, 1) := by decide +kernel
theorem dX10_readClause_40 : decode cX10_readClause 40 = .ok (.getfield 248, 3) := by decide +kernel
theorem dX10_readClause_43 : decode cX10_readClause 43 = .ok (.bipush 6, 2) := by decide +kernel
theorem dX10_readClause_45 : decode cX10_readClause 45 = .ok (.if_icmp .ge 7, 3) := by decide +kernel
theorem dX10_readClause_48 : decode cX10_readClause 48 = .ok (.iconst 1, 1) := by decide +kernel
theorem dX10_readClause_49 : decode cX10_readClause 49 = .ok (.goto 4, 3) := by decide +kernel
theorem dX10_readClause_52 : decode cX10_readClause 52 = .ok (.iconst 0, 1) := by decide +kernel
theorem dX10_readClause_53 : decode cX10_readClause 53 = .ok (.istore_n 2, 1) := by decide +kernel
theorem dX10_readClause_54 : decode cX10_readClause 54 = .ok (.iload_n 2, 1) := by decide +kernel
theorem dX10_readClause_55 : decode cX10_readClause 55 = .ok (.ifCond .ne 9, 3) := by decide +kernel
theorem dX10_readClause_58 : decode cX10_readClause 58 = .ok (.aload_n 0, 1) := by decide +kernel
theorem dX10_readClause_59 : decode cX10_readClause 59 = .ok (.invokevirtual 134, 3) := by decide +kernel
theorem dX10_readClause_62 : decode cX10_readClause 62 = .ok (.pop, 1) := by decide +kernel
theorem dX10_readClause_63 : decode cX10_readClause 63 = .ok (.return_, 1) := by decide +kernel
theorem dX10_readClause_64 : decode cX10_readClause 64 = .ok (.aload_n 0, 1) := by decide +kernel
theorem dX10_readClause_65 : decode cX10_readClause 65 = .ok (.dup, 1) := by decide +kernel
theorem dX10_readClause_66 : decode cX10_readClause 66 = .ok (.getfield 119, 3) := by decide +kernel
theorem dX10_readClause_69 : decode cX10_readClause 69 = .ok (.iconst 1, 1) := by decide +kernel
theorem dX10_readClause_70 : decode cX10_readClause 70 = .ok (.iadd, 1) := by decide +kernel
theorem dX10_readClause_71 : decode cX10_readClause 71 = .ok (.putfield 119, 3) := by decide +kernel
theorem dX10_readClause_74 : decode cX10_readClause 74 = .ok (.iload_n 1, 1) := by decide +kernel
theorem dX10_readClause_75 : decode cX10_readClause 75 = .ok (.bipush 115, 2) := by decide +kernel
theorem dX10_readClause_77 : decode cX10_readClause 77 = .ok (.if_icmp .ne 23, 3) := by decide +kernel
theorem dX10_readClause_80 : decode cX10_readClause 80 = .ok (.aload_n 0, 1) := by decide +kernel
theorem dX10_readClause_81 : decode cX10_readClause 81 = .ok (.iconst 1, 1) := by decide +kernel
theorem dX10_readClause_82 : decode cX10_readClause 82 = .ok (.putfield 242, 3) := by decide +kernel
theorem dX10_readClause_85 : decode cX10_readClause 85 = .ok (.aload_n 0, 1) := by decide +kernel
theorem dX10_readClause_86 : decode cX10_readClause 86 = .ok (.iload_n 1, 1) := by decide +kernel
theorem dX10_readClause_87 : decode cX10_readClause 87 = .ok (.aload_n 0, 1) := by decide +kernel
theorem dX10_readClause_88 : decode cX10_readClause 88 = .ok (.getfield 40, 3) := by decide +kernel
theorem dX10_readClause_91 : decode cX10_readClause 91 = .ok (.iconst 0, 1) := by decide +kernel
theorem dX10_readClause_92 : decode cX10_readClause 92 = .ok (.ldc 251, 2) := by decide +kernel
theorem dX10_readClause_94 : decode cX10_readClause 94 = .ok (.invokevirtual 253, 3) := by decide +kernel
theorem dX10_readClause_97 : decode cX10_readClause 97 = .ok (.goto 72, 3) := by decide +kernel
theorem dX10_readClause_100 : decode cX10_readClause 100 = .ok (.iload_n 1, 1) := by decide +kernel
theorem dX10_readClause_101 : decode cX10_readClause 101 = .ok (.bipush 112, 2) := by decide +kernel
theorem dX10_readClause_103 : decode cX10_readClause 103 = .ok (.if_icmp .ne 36, 3) := by decide +kernel
theorem dX10_readClause_106 : decode cX10_readClause 106 = .ok (.aload_n 0, 1) := by decide +kernel
theorem dX10_readClause_107 : decode cX10_readClause 107 = .ok (.dup, 1) := by decide +kernel
theorem dX10_readClause_108 : decode cX10_readClause 108 = .ok (.getfield 245, 3) := by decide +kernel
theorem dX10_readClause_111 : decode cX10_readClause 111 = .ok (.iconst 1, 1) := by decide +kernel
theorem dX10_readClause_112 : decode cX10_readClause 112 = .ok (.iadd, 1) := by decide +kernel
theorem dX10_readClause_113 : decode cX10_readClause 113 = .ok (.putfield 245, 3) := by decide +kernel
theorem dX10_readClause_116 : decode cX10_readClause 116 = .ok (.aload_n 0, 1) := by decide +kernel
theorem dX10_readClause_117 : decode cX10_readClause 117 = .ok (.iload_n 1, 1) := by decide +kernel
theorem dX10_readClause_118 : decode cX10_readClause 118 = .ok (.aload_n 0, 1) := by decide +kernel
theorem dX10_readClause_119 : decode cX10_readClause 119 = .ok (.getfield 46, 3) := by decide +kernel
theorem dX10_readClause_122 : decode cX10_readClause 122 = .ok (.iconst 4, 1) := by decide +kernel
theorem dX10_readClause_123 : decode cX10_readClause 123 = .ok (.aload_n 0, 1) := by decide +kernel
theorem dX10_readClause_124 : decode cX10_readClause 124 = .ok (.getfield 245, 3) := by decide +kernel
theorem dX10_readClause_127 : decode cX10_readClause 127 = .ok (.iconst 1, 1) := by decide +kernel
theorem dX10_readClause_128 : decode cX10_readClause 128 = .ok (.isub, 1) := by decide +kernel
theorem dX10_readClause_129 : decode cX10_readClause 129 = .ok (.imul, 1) := by decide +kernel
theorem dX10_readClause_130 : decode cX10_readClause 130 = .ok (.ldc_w 257, 3) := by decide +kernel
theorem dX10_readClause_133 : decode cX10_readClause 133 = .ok (.invokevirtual 253, 3) := by decide +kernel
theorem dX10_readClause_136 : decode cX10_readClause 136 = .ok (.goto 33, 3) := by decide +kernel
theorem dX10_readClause_139 : decode cX10_readClause 139 = .ok (.aload_n 0, 1) := by decide +kernel
theorem dX10_readClause_140 : decode cX10_readClause 140 = .ok (.dup, 1) := by decide +kernel
theorem dX10_readClause_141 : decode cX10_readClause 141 = .ok (.getfield 248, 3) := by decide +kernel
theorem dX10_readClause_144 : decode cX10_readClause 144 = .ok (.iconst 1, 1) := by decide +kernel
theorem dX10_readClause_145 : decode cX10_readClause 145 = .ok (.iadd, 1) := by decide +kernel
theorem dX10_readClause_146 : decode cX10_readClause 146 = .ok (.putfield 248, 3) := by decide +kernel
theorem dX10_readClause_149 : decode cX10_readClause 149 = .ok (.aload_n 0, 1) := by decide +kernel
theorem dX10_readClause_150 : decode cX10_readClause 150 = .ok (.iload_n 1, 1) := by decide +kernel
theorem dX10_readClause_151 : decode cX10_readClause 151 = .ok (.aload_n 0, 1) := by decide +kernel
theorem dX10_readClause_152 : decode cX10_readClause 152 = .ok (.getfield 52, 3) := by decide +kernel
theorem dX10_readClause_155 : decode cX10_readClause 155 = .ok (.iconst 4, 1) := by decide +kernel
theorem dX10_readClause_156 : decode cX10_readClause 156 = .ok (.aload_n 0, 1) := by decide +kernel
theorem dX10_readClause_157 : decode cX10_readClause 157 = .ok (.getfield 248, 3) := by decide +kernel
theorem dX10_readClause_160 : decode cX10_readClause 160 = .ok (.iconst 1, 1) := by decide +kernel
theorem dX10_readClause_161 : decode cX10_readClause 161 = .ok (.isub, 1) := by decide +kernel
theorem dX10_readClause_162 : decode cX10_readClause 162 = .ok (.imul, 1) := by decide +kernel
theorem dX10_readClause_163 : decode cX10_readClause 163 = .ok (.ldc_w 259, 3) := by decide +kernel
theorem dX10_readClause_166 : decode cX10_readClause 166 = .ok (.invokevirtual 253, 3) := by decide +kernel
theorem dX10_readClause_169 : decode cX10_readClause 169 = .ok (.return_, 1) := by decide +kernel
theorem dX10_isWhole_0 : decode cX10_isWhole 0 = .ok (.aload_n 0, 1) := by decide +kernel
theorem dX10_isWhole_1 : decode cX10_isWhole 1 = .ok (.getfield 40, 3) := by decide +kernel
theorem dX10_isWhole_4 : decode cX10_isWhole 4 = .ok (.iconst 0, 1) := by decide +kernel
theorem dX10_isWhole_5 : decode cX10_isWhole 5 = .ok (.iaload, 1) := by decide +kernel
theorem dX10_isWhole_6 : decode cX10_isWhole 6 = .ok (.aload_n 0, 1) := by decide +kernel
theorem dX10_isWhole_7 : decode cX10_isWhole 7 = .ok (.getfield 40, 3) := by decide +kernel
theorem dX10_isWhole_10 : decode cX10_isWhole 10 = .ok (.iconst 1, 1) := by decide +kernel
theorem dX10_isWhole_11 : decode cX10_isWhole 11 = .ok (.iaload, 1) := by decide +kernel
theorem dX10_isWhole_12 : decode cX10_isWhole 12 = .ok (.imul, 1) := by decide +kernel
theorem dX10_isWhole_13 : decode cX10_isWhole 13 = .ok (.istore_n 1, 1) := by decide +kernel
theorem dX10_isWhole_14 : decode cX10_isWhole 14 = .ok (.aload_n 0, 1) := by decide +kernel
theorem dX10_isWhole_15 : decode cX10_isWhole 15 = .ok (.getfield 245, 3) := by decide +kernel
theorem dX10_isWhole_18 : decode cX10_isWhole 18 = .ok (.ifCond .le 14, 3) := by decide +kernel
theorem dX10_isWhole_21 : decode cX10_isWhole 21 = .ok (.aload_n 0, 1) := by decide +kernel
theorem dX10_isWhole_22 : decode cX10_isWhole 22 = .ok (.getfield 248, 3) := by decide +kernel
theorem dX10_isWhole_25 : decode cX10_isWhole 25 = .ok (.ifCond .le 7, 3) := by decide +kernel
theorem dX10_isWhole_28 : decode cX10_isWhole 28 = .ok (.iconst 1, 1) := by decide +kernel
theorem dX10_isWhole_29 : decode cX10_isWhole 29 = .ok (.goto 4, 3) := by decide +kernel
theorem dX10_isWhole_32 : decode cX10_isWhole 32 = .ok (.iconst 0, 1) := by decide +kernel
theorem dX10_isWhole_33 : decode cX10_isWhole 33 = .ok (.istore_n 2, 1) := by decide +kernel
theorem dX10_isWhole_34 : decode cX10_isWhole 34 = .ok (.iconst 0, 1) := by decide +kernel
theorem dX10_isWhole_35 : decode cX10_isWhole 35 = .ok (.istore_n 3, 1) := by decide +kernel
theorem dX10_isWhole_36 : decode cX10_isWhole 36 = .ok (.iload_n 3, 1) := by decide +kernel
theorem dX10_isWhole_37 : decode cX10_isWhole 37 = .ok (.aload_n 0, 1) := by decide +kernel
theorem dX10_isWhole_38 : decode cX10_isWhole 38 = .ok (.getfield 245, 3) := by decide +kernel
theorem dX10_isWhole_41 : decode cX10_isWhole 41 = .ok (.if_icmp .ge 31, 3) := by decide +kernel
theorem dX10_isWhole_44 : decode cX10_isWhole 44 = .ok (.iload_n 2, 1) := by decide +kernel
theorem dX10_isWhole_45 : decode cX10_isWhole 45 = .ok (.ifCond .eq 19, 3) := by decide +kernel
theorem dX10_isWhole_48 : decode cX10_isWhole 48 = .ok (.aload_n 0, 1) := by decide +kernel
theorem dX10_isWhole_49 : decode cX10_isWhole 49 = .ok (.getfield 46, 3) := by decide +kernel
theorem dX10_isWhole_52 : decode cX10_isWhole 52 = .ok (.iconst 4, 1) := by decide +kernel
theorem dX10_isWhole_53 : decode cX10_isWhole 53 = .ok (.iload_n 3, 1) := by decide +kernel
theorem dX10_isWhole_54 : decode cX10_isWhole 54 = .ok (.imul, 1) := by decide +kernel
theorem dX10_isWhole_55 : decode cX10_isWhole 55 = .ok (.iaload, 1) := by decide +kernel
theorem dX10_isWhole_56 : decode cX10_isWhole 56 = .ok (.iload_n 1, 1) := by decide +kernel
theorem dX10_isWhole_57 : decode cX10_isWhole 57 = .ok (.if_icmp .ge 7, 3) := by decide +kernel
theorem dX10_isWhole_60 : decode cX10_isWhole 60 = .ok (.iconst 1, 1) := by decide +kernel
theorem dX10_isWhole_61 : decode cX10_isWhole 61 = .ok (.goto 4, 3) := by decide +kernel
theorem dX10_isWhole_64 : decode cX10_isWhole 64 = .ok (.iconst 0, 1) := by decide +kernel
theorem dX10_isWhole_65 : decode cX10_isWhole 65 = .ok (.istore_n 2, 1) := by decide +kernel
theorem dX10_isWhole_66 : decode cX10_isWhole 66 = .ok (.iinc 3 1, 3) := by decide +kernel
theorem dX10_isWhole_69 : decode cX10_isWhole 69 = .ok (.goto (-33), 3) := by decide +kernel
theorem dX10_isWhole_72 : decode cX10_isWhole 72 = .ok (.iconst 0, 1) := by decide +kernel
theorem dX10_isWhole_73 : decode cX10_isWhole 73 = .ok (.istore_n 3, 1) := by decide +kernel
theorem dX10_isWhole_74 : decode cX10_isWhole 74 = .ok (.iload_n 3, 1) := by decide +kernel
theorem dX10_isWhole_75 : decode cX10_isWhole 75 = .ok (.aload_n 0, 1) := by decide +kernel
theorem dX10_isWhole_76 : decode cX10_isWhole 76 = .ok (.getfield 248, 3) := by decide +kernel
theorem dX10_isWhole_79 : decode cX10_isWhole 79 = .ok (.if_icmp .ge 31, 3) := by decide +kernel
theorem dX10_isWhole_82 : decode cX10_isWhole 82 = .ok (.iload_n 2, 1) := by decide +kernel
theorem dX10_isWhole_83 : decode cX10_isWhole 83 = .ok (.ifCond .eq 19, 3) := by decide +kernel
theorem dX10_isWhole_86 : decode cX10_isWhole 86 = .ok (.aload_n 0, 1) := by decide +kernel
theorem dX10_isWhole_87 : decode cX10_isWhole 87 = .ok (.getfield 52, 3) := by decide +kernel
theorem dX10_isWhole_90 : decode cX10_isWhole 90 = .ok (.iconst 4, 1) := by decide +kernel
theorem dX10_isWhole_91 : decode cX10_isWhole 91 = .ok (.iload_n 3, 1) := by decide +kernel
theorem dX10_isWhole_92 : decode cX10_isWhole 92 = .ok (.imul, 1) := by decide +kernel
theorem dX10_isWhole_93 : decode cX10_isWhole 93 = .ok (.iaload, 1) := by decide +kernel
theorem dX10_isWhole_94 : decode cX10_isWhole 94 = .ok (.iload_n 1, 1) := by decide +kernel
theorem dX10_isWhole_95 : decode cX10_isWhole 95 = .ok (.if_icmp .ge 7, 3) := by decide +kernel
theorem dX10_isWhole_98 : decode cX10_isWhole 98 = .ok (.iconst 1, 1) := by decide +kernel
theorem dX10_isWhole_99 : decode cX10_isWhole 99 = .ok (.goto 4, 3) := by decide +kernel
theorem dX10_isWhole_102 : decode cX10_isWhole 102 = .ok (.iconst 0, 1) := by decide +kernel
theorem dX10_isWhole_103 : decode cX10_isWhole 103 = .ok (.istore_n 2, 1) := by decide +kernel
theorem dX10_isWhole_104 : decode cX10_isWhole 104 = .ok (.iinc 3 1, 3) := by decide +kernel
theorem dX10_isWhole_107 : decode cX10_isWhole 107 = .ok (.goto (-33), 3) := by decide +kernel
theorem dX10_isWhole_110 : decode cX10_isWhole 110 = .ok (.iload_n 2, 1) := by decide +kernel
theorem dX10_isWhole_111 : decode cX10_isWhole 111 = .ok (.ireturn, 1) := by decide +kernel
theorem dX10_readHall_0 : decode cX10_readHall 0 = .ok (.aload_n 0, 1) := by decide +kernel
theorem dX10_readHall_1 : decode cX10_readHall 1 = .ok (.aload_n 0, 1) := by decide +kernel
theorem dX10_readHall_2 : decode cX10_readHall 2 = .ok (.getfield 9, 3) := by decide +kernel
theorem dX10_readHall_5 : decode cX10_readHall 5 = .ok (.iconst 0, 1) := by decide +kernel
theorem dX10_readHall_6 : decode cX10_readHall 6 = .ok (.aload_n 0, 1) := by decide +kernel
theorem dX10_readHall_7 : decode cX10_readHall 7 = .ok (.getfield 109, 3) := by decide +kernel
theorem dX10_readHall_10 : decode cX10_readHall 10 = .ok (.invokevirtual 207, 3) := by decide +kernel
theorem dX10_readHall_13 : decode cX10_readHall 13 = .ok (.aload_n 0, 1) := by decide +kernel
theorem dX10_readHall_14 : decode cX10_readHall 14 = .ok (.iconst 0, 1) := by decide +kernel
theorem dX10_readHall_15 : decode cX10_readHall 15 = .ok (.putfield 245, 3) := by decide +kernel
theorem dX10_readHall_18 : decode cX10_readHall 18 = .ok (.aload_n 0, 1) := by decide +kernel
theorem dX10_readHall_19 : decode cX10_readHall 19 = .ok (.iconst 0, 1) := by decide +kernel
theorem dX10_readHall_20 : decode cX10_readHall 20 = .ok (.putfield 248, 3) := by decide +kernel
theorem dX10_readHall_23 : decode cX10_readHall 23 = .ok (.aload_n 0, 1) := by decide +kernel
theorem dX10_readHall_24 : decode cX10_readHall 24 = .ok (.iconst 0, 1) := by decide +kernel
theorem dX10_readHall_25 : decode cX10_readHall 25 = .ok (.putfield 242, 3) := by decide +kernel
theorem dX10_readHall_28 : decode cX10_readHall 28 = .ok (.iconst 0, 1) := by decide +kernel
theorem dX10_readHall_29 : decode cX10_readHall 29 = .ok (.istore_n 1, 1) := by decide +kernel
theorem dX10_readHall_30 : decode cX10_readHall 30 = .ok (.iload_n 1, 1) := by decide +kernel
theorem dX10_readHall_31 : decode cX10_readHall 31 = .ok (.iconst 5, 1) := by decide +kernel
theorem dX10_readHall_32 : decode cX10_readHall 32 = .ok (.if_icmp .ge 21, 3) := by decide +kernel
theorem dX10_readHall_35 : decode cX10_readHall 35 = .ok (.aload_n 0, 1) := by decide +kernel
theorem dX10_readHall_36 : decode cX10_readHall 36 = .ok (.getfield 40, 3) := by decide +kernel
theorem dX10_readHall_39 : decode cX10_readHall 39 = .ok (.iload_n 1, 1) := by decide +kernel
theorem dX10_readHall_40 : decode cX10_readHall 40 = .ok (.bipush 115, 2) := by decide +kernel
theorem dX10_readHall_42 : decode cX10_readHall 42 = .ok (.iload_n 1, 1) := by decide +kernel
theorem dX10_readHall_43 : decode cX10_readHall 43 = .ok (.invokestatic 221, 3) := by decide +kernel
theorem dX10_readHall_46 : decode cX10_readHall 46 = .ok (.iastore, 1) := by decide +kernel
theorem dX10_readHall_47 : decode cX10_readHall 47 = .ok (.iinc 1 1, 3) := by decide +kernel
theorem dX10_readHall_50 : decode cX10_readHall 50 = .ok (.goto (-20), 3) := by decide +kernel
theorem dX10_readHall_53 : decode cX10_readHall 53 = .ok (.iconst 1, 1) := by decide +kernel
theorem dX10_readHall_54 : decode cX10_readHall 54 = .ok (.istore_n 1, 1) := by decide +kernel
theorem dX10_readHall_55 : decode cX10_readHall 55 = .ok (.iload_n 1, 1) := by decide +kernel
theorem dX10_readHall_56 : decode cX10_readHall 56 = .ok (.ifCond .eq 55, 3) := by decide +kernel
theorem dX10_readHall_59 : decode cX10_readHall 59 = .ok (.aload_n 0, 1) := by decide +kernel
theorem dX10_readHall_60 : decode cX10_readHall 60 = .ok (.getfield 128, 3) := by decide +kernel
theorem dX10_readHall_63 : decode cX10_readHall 63 = .ok (.iconst (-1), 1) := by decide +kernel
theorem dX10_readHall_64 : decode cX10_readHall 64 = .ok (.if_icmp .ne 47, 3) := by decide +kernel
theorem dX10_readHall_67 : decode cX10_readHall 67 = .ok (.aload_n 0, 1) := by decide +kernel
theorem dX10_readHall_68 : decode cX10_readHall 68 = .ok (.invokevirtual 261, 3) := by decide +kernel
theorem dX10_readHall_71 : decode cX10_readHall 71 = .ok (.aload_n 0, 1) := by decide +kernel
theorem dX10_readHall_72 : decode cX10_readHall 72 = .ok (.getfield 128, 3) := by decide +kernel
theorem dX10_readHall_75 : decode cX10_readHall 75 = .ok (.iconst (-1), 1) := by decide +kernel
theorem dX10_readHall_76 : decode cX10_readHall 76 = .ok (.if_icmp .ne 16, 3) := by decide +kernel
theorem dX10_readHall_79 : decode cX10_readHall 79 = .ok (.aload_n 0, 1) := by decide +kernel
theorem dX10_readHall_80 : decode cX10_readHall 80 = .ok (.invokevirtual 138, 3) := by decide +kernel
theorem dX10_readHall_83 : decode cX10_readHall 83 = .ok (.bipush 59, 2) := by decide +kernel
theorem dX10_readHall_85 : decode cX10_readHall 85 = .ok (.if_icmp .ne 7, 3) := by decide +kernel
theorem dX10_readHall_88 : decode cX10_readHall 88 = .ok (.iconst 1, 1) := by decide +kernel
theorem dX10_readHall_89 : decode cX10_readHall 89 = .ok (.goto 4, 3) := by decide +kernel
theorem dX10_readHall_92 : decode cX10_readHall 92 = .ok (.iconst 0, 1) := by decide +kernel
theorem dX10_readHall_93 : decode cX10_readHall 93 = .ok (.istore_n 1, 1) := by decide +kernel
theorem dX10_readHall_94 : decode cX10_readHall 94 = .ok (.iload_n 1, 1) := by decide +kernel
theorem dX10_readHall_95 : decode cX10_readHall 95 = .ok (.ifCond .eq (-40), 3) := by decide +kernel
theorem dX10_readHall_98 : decode cX10_readHall 98 = .ok (.aload_n 0, 1) := by decide +kernel
theorem dX10_readHall_99 : decode cX10_readHall 99 = .ok (.dup, 1) := by decide +kernel
theorem dX10_readHall_100 : decode cX10_readHall 100 = .ok (.getfield 119, 3) := by decide +kernel
theorem dX10_readHall_103 : decode cX10_readHall 103 = .ok (.iconst 1, 1) := by decide +kernel
theorem dX10_readHall_104 : decode cX10_readHall 104 = .ok (.iadd, 1) := by decide +kernel
theorem dX10_readHall_105 : decode cX10_readHall 105 = .ok (.putfield 119, 3) := by decide +kernel
theorem dX10_readHall_108 : decode cX10_readHall 108 = .ok (.goto (-53), 3) := by decide +kernel
theorem dX10_readHall_111 : decode cX10_readHall 111 = .ok (.aload_n 0, 1) := by decide +kernel
theorem dX10_readHall_112 : decode cX10_readHall 112 = .ok (.getfield 128, 3) := by decide +kernel
theorem dX10_readHall_115 : decode cX10_readHall 115 = .ok (.iconst (-1), 1) := by decide +kernel
theorem dX10_readHall_116 : decode cX10_readHall 116 = .ok (.if_icmp .ne 23, 3) := by decide +kernel
theorem dX10_readHall_119 : decode cX10_readHall 119 = .ok (.aload_n 0, 1) := by decide +kernel
theorem dX10_readHall_120 : decode cX10_readHall 120 = .ok (.invokevirtual 138, 3) := by decide +kernel
theorem dX10_readHall_123 : decode cX10_readHall 123 = .ok (.iconst (-1), 1) := by decide +kernel
theorem dX10_readHall_124 : decode cX10_readHall 124 = .ok (.if_icmp .ne 10, 3) := by decide +kernel
theorem dX10_readHall_127 : decode cX10_readHall 127 = .ok (.aload_n 0, 1) := by decide +kernel
theorem dX10_readHall_128 : decode cX10_readHall 128 = .ok (.invokevirtual 264, 3) := by decide +kernel
theorem dX10_readHall_131 : decode cX10_readHall 131 = .ok (.ifCond .ne 8, 3) := by decide +kernel
theorem dX10_readHall_134 : decode cX10_readHall 134 = .ok (.aload_n 0, 1) := by decide +kernel
theorem dX10_readHall_135 : decode cX10_readHall 135 = .ok (.invokevirtual 134, 3) := by decide +kernel
theorem dX10_readHall_138 : decode cX10_readHall 138 = .ok (.pop, 1) := by decide +kernel
theorem dX10_readHall_139 : decode cX10_readHall 139 = .ok (.return_, 1) := by decide +kernel
theorem dX10_readStep_0 : decode cX10_readStep 0 = .ok (.ldc_w 267, 3) := by decide +kernel
theorem dX10_readStep_3 : decode cX10_readStep 3 = .ok (.aload_n 0, 1) := by decide +kernel
theorem dX10_readStep_4 : decode cX10_readStep 4 = .ok (.invokevirtual 138, 3) := by decide +kernel
theorem dX10_readStep_7 : decode cX10_readStep 7 = .ok (.invokestatic 225, 3) := by decide +kernel
theorem dX10_readStep_10 : decode cX10_readStep 10 = .ok (.istore_n 2, 1) := by decide +kernel
theorem dX10_readStep_11 : decode cX10_readStep 11 = .ok (.iload_n 2, 1) := by decide +kernel
theorem dX10_readStep_12 : decode cX10_readStep 12 = .ok (.iconst (-1), 1) := by decide +kernel
theorem dX10_readStep_13 : decode cX10_readStep 13 = .ok (.if_icmp .ne 9, 3) := by decide +kernel
theorem dX10_readStep_16 : decode cX10_readStep 16 = .ok (.aload_n 0, 1) := by decide +kernel
theorem dX10_readStep_17 : decode cX10_readStep 17 = .ok (.invokevirtual 134, 3) := by decide +kernel
theorem dX10_readStep_20 : decode cX10_readStep 20 = .ok (.pop, 1) := by decide +kernel
theorem dX10_readStep_21 : decode cX10_readStep 21 = .ok (.return_, 1) := by decide +kernel
theorem dX10_readStep_22 : decode cX10_readStep 22 = .ok (.aload_n 0, 1) := by decide +kernel
theorem dX10_readStep_23 : decode cX10_readStep 23 = .ok (.dup, 1) := by decide +kernel
theorem dX10_readStep_24 : decode cX10_readStep 24 = .ok (.getfield 119, 3) := by decide +kernel
theorem dX10_readStep_27 : decode cX10_readStep 27 = .ok (.iconst 1, 1) := by decide +kernel
theorem dX10_readStep_28 : decode cX10_readStep 28 = .ok (.iadd, 1) := by decide +kernel
theorem dX10_readStep_29 : decode cX10_readStep 29 = .ok (.putfield 119, 3) := by decide +kernel
theorem dX10_readStep_32 : decode cX10_readStep 32 = .ok (.aload_n 0, 1) := by decide +kernel
theorem dX10_readStep_33 : decode cX10_readStep 33 = .ok (.getfield 55, 3) := by decide +kernel
theorem dX10_readStep_36 : decode cX10_readStep 36 = .ok (.iload_n 1, 1) := by decide +kernel
theorem dX10_readStep_37 : decode cX10_readStep 37 = .ok (.iload_n 2, 1) := by decide +kernel
theorem dX10_readStep_38 : decode cX10_readStep 38 = .ok (.iastore, 1) := by decide +kernel
theorem dX10_readStep_39 : decode cX10_readStep 39 = .ok (.aload_n 0, 1) := by decide +kernel
theorem dX10_readStep_40 : decode cX10_readStep 40 = .ok (.getfield 55, 3) := by decide +kernel
theorem dX10_readStep_43 : decode cX10_readStep 43 = .ok (.iload_n 1, 1) := by decide +kernel
theorem dX10_readStep_44 : decode cX10_readStep 44 = .ok (.iconst 1, 1) := by decide +kernel
theorem dX10_readStep_45 : decode cX10_readStep 45 = .ok (.iadd, 1) := by decide +kernel
theorem dX10_readStep_46 : decode cX10_readStep 46 = .ok (.iconst (-1), 1) := by decide +kernel
theorem dX10_readStep_47 : decode cX10_readStep 47 = .ok (.iastore, 1) := by decide +kernel
theorem dX10_readStep_48 : decode cX10_readStep 48 = .ok (.aload_n 0, 1) := by decide +kernel
theorem dX10_readStep_49 : decode cX10_readStep 49 = .ok (.getfield 55, 3) := by decide +kernel
theorem dX10_readStep_52 : decode cX10_readStep 52 = .ok (.iload_n 1, 1) := by decide +kernel
theorem dX10_readStep_53 : decode cX10_readStep 53 = .ok (.iconst 2, 1) := by decide +kernel
theorem dX10_readStep_54 : decode cX10_readStep 54 = .ok (.iadd, 1) := by decide +kernel
theorem dX10_readStep_55 : decode cX10_readStep 55 = .ok (.iconst (-1), 1) := by decide +kernel
theorem dX10_readStep_56 : decode cX10_readStep 56 = .ok (.iastore, 1) := by decide +kernel
theorem dX10_readStep_57 : decode cX10_readStep 57 = .ok (.iload_n 2, 1) := by decide +kernel
theorem dX10_readStep_58 : decode cX10_readStep 58 = .ok (.iconst 3, 1) := by decide +kernel
theorem dX10_readStep_59 : decode cX10_readStep 59 = .ok (.if_icmp .ne 4, 3) := by decide +kernel
theorem dX10_readStep_62 : decode cX10_readStep 62 = .ok (.return_, 1) := by decide +kernel
theorem dX10_readStep_63 : decode cX10_readStep 63 = .ok (.aload_n 0, 1) := by decide +kernel
theorem dX10_readStep_64 : decode cX10_readStep 64 = .ok (.invokevirtual 138, 3) := by decide +kernel
theorem dX10_readStep_67 : decode cX10_readStep 67 = .ok (.istore_n 3, 1) := by decide +kernel
theorem dX10_readStep_68 : decode cX10_readStep 68 = .ok (.aload_n 0, 1) := by decide +kernel
theorem dX10_readStep_69 : decode cX10_readStep 69 = .ok (.invokevirtual 168, 3) := by decide +kernel
theorem dX10_readStep_72 : decode cX10_readStep 72 = .ok (.ifCond .ne 9, 3) := by decide +kernel
theorem dX10_readStep_75 : decode cX10_readStep 75 = .ok (.aload_n 0, 1) := by decide +kernel
theorem dX10_readStep_76 : decode cX10_readStep 76 = .ok (.invokevirtual 134, 3) := by decide +kernel
theorem dX10_readStep_79 : decode cX10_readStep 79 = .ok (.pop, 1) := by decide +kernel
theorem dX10_readStep_80 : decode cX10_readStep 80 = .ok (.return_, 1) := by decide +kernel
theorem dX10_readStep_81 : decode cX10_readStep 81 = .ok (.aload_n 0, 1) := by decide +kernel
theorem dX10_readStep_82 : decode cX10_readStep 82 = .ok (.getfield 55, 3) := by decide +kernel
theorem dX10_readStep_85 : decode cX10_readStep 85 = .ok (.iload_n 1, 1) := by decide +kernel
theorem dX10_readStep_86 : decode cX10_readStep 86 = .ok (.iconst 1, 1) := by decide +kernel
theorem dX10_readStep_87 : decode cX10_readStep 87 = .ok (.iadd, 1) := by decide +kernel
theorem dX10_readStep_88 : decode cX10_readStep 88 = .ok (.iload_n 3, 1) := by decide +kernel
theorem dX10_readStep_89 : decode cX10_readStep 89 = .ok (.bipush 48, 2) := by decide +kernel
theorem dX10_readStep_91 : decode cX10_readStep 91 = .ok (.isub, 1) := by decide +kernel
theorem dX10_readStep_92 : decode cX10_readStep 92 = .ok (.iastore, 1) := by decide +kernel
theorem dX10_readStep_93 : decode cX10_readStep 93 = .ok (.aload_n 0, 1) := by decide +kernel
theorem dX10_readStep_94 : decode cX10_readStep 94 = .ok (.dup, 1) := by decide +kernel
theorem dX10_readStep_95 : decode cX10_readStep 95 = .ok (.getfield 119, 3) := by decide +kernel
theorem dX10_readStep_98 : decode cX10_readStep 98 = .ok (.iconst 1, 1) := by decide +kernel
theorem dX10_readStep_99 : decode cX10_readStep 99 = .ok (.iadd, 1) := by decide +kernel
theorem dX10_readStep_100 : decode cX10_readStep 100 = .ok (.putfield 119, 3) := by decide +kernel
theorem dX10_readStep_103 : decode cX10_readStep 103 = .ok (.aload_n 0, 1) := by decide +kernel
theorem dX10_readStep_104 : decode cX10_readStep 104 = .ok (.getfield 55, 3) := by decide +kernel
theorem dX10_readStep_107 : decode cX10_readStep 107 = .ok (.iload_n 1, 1) := by decide +kernel
theorem dX10_readStep_108 : decode cX10_readStep 108 = .ok (.iconst 2, 1) := by decide +kernel
theorem dX10_readStep_109 : decode cX10_readStep 109 = .ok (.iadd, 1) := by decide +kernel
theorem dX10_readStep_110 : decode cX10_readStep 110 = .ok (.aload_n 0, 1) := by decide +kernel
theorem dX10_readStep_111 : decode cX10_readStep 111 = .ok (.iconst 0, 1) := by decide +kernel
theorem dX10_readStep_112 : decode cX10_readStep 112 = .ok (.iload_n 2, 1) := by decide +kernel
theorem dX10_readStep_113 : decode cX10_readStep 113 = .ok (.iconst 2, 1) := by decide +kernel
theorem dX10_readStep_114 : decode cX10_readStep 114 = .ok (.if_icmp .ne 8, 3) := by decide +kernel
theorem dX10_readStep_117 : decode cX10_readStep 117 = .ok (.bipush 29, 2) := by decide +kernel
theorem dX10_readStep_119 : decode cX10_readStep 119 = .ok (.goto 5, 3) := by decide +kernel
theorem dX10_readStep_122 : decode cX10_readStep 122 = .ok (.bipush 11, 2) := by decide +kernel
theorem dX10_readStep_124 : decode cX10_readStep 124 = .ok (.invokevirtual 239, 3) := by decide +kernel
theorem dX10_readStep_127 : decode cX10_readStep 127 = .ok (.iastore, 1) := by decide +kernel
theorem dX10_readStep_128 : decode cX10_readStep 128 = .ok (.return_, 1) := by decide +kernel
theorem dX10_readPlan_0 : decode cX10_readPlan 0 = .ok (.aload_n 0, 1) := by decide +kernel
theorem dX10_readPlan_1 : decode cX10_readPlan 1 = .ok (.aload_n 0, 1) := by decide +kernel
theorem dX10_readPlan_2 : decode cX10_readPlan 2 = .ok (.getfield 9, 3) := by decide +kernel
theorem dX10_readPlan_5 : decode cX10_readPlan 5 = .ok (.iconst 0, 1) := by decide +kernel
theorem dX10_readPlan_6 : decode cX10_readPlan 6 = .ok (.aload_n 0, 1) := by decide +kernel
theorem dX10_readPlan_7 : decode cX10_readPlan 7 = .ok (.getfield 109, 3) := by decide +kernel
theorem dX10_readPlan_10 : decode cX10_readPlan 10 = .ok (.invokevirtual 207, 3) := by decide +kernel
theorem dX10_readPlan_13 : decode cX10_readPlan 13 = .ok (.iconst 0, 1) := by decide +kernel
theorem dX10_readPlan_14 : decode cX10_readPlan 14 = .ok (.istore_n 1, 1) := by decide +kernel
theorem dX10_readPlan_15 : decode cX10_readPlan 15 = .ok (.iconst 1, 1) := by decide +kernel
theorem dX10_readPlan_16 : decode cX10_readPlan 16 = .ok (.istore_n 2, 1) := by decide +kernel
theorem dX10_readPlan_17 : decode cX10_readPlan 17 = .ok (.iload_n 2, 1) := by decide +kernel
theorem dX10_readPlan_18 : decode cX10_readPlan 18 = .ok (.ifCond .eq 73, 3) := by decide +kernel
theorem dX10_readPlan_21 : decode cX10_readPlan 21 = .ok (.aload_n 0, 1) := by decide +kernel
theorem dX10_readPlan_22 : decode cX10_readPlan 22 = .ok (.iconst 3, 1) := by decide +kernel
theorem dX10_readPlan_23 : decode cX10_readPlan 23 = .ok (.bipush 64, 2) := by decide +kernel
theorem dX10_readPlan_25 : decode cX10_readPlan 25 = .ok (.iload_n 1, 1) := by decide +kernel
theorem dX10_readPlan_26 : decode cX10_readPlan 26 = .ok (.iadd, 1) := by decide +kernel
theorem dX10_readPlan_27 : decode cX10_readPlan 27 = .ok (.imul, 1) := by decide +kernel
theorem dX10_readPlan_28 : decode cX10_readPlan 28 = .ok (.invokevirtual 269, 3) := by decide +kernel
theorem dX10_readPlan_31 : decode cX10_readPlan 31 = .ok (.aload_n 0, 1) := by decide +kernel
theorem dX10_readPlan_32 : decode cX10_readPlan 32 = .ok (.getfield 128, 3) := by decide +kernel
theorem dX10_readPlan_35 : decode cX10_readPlan 35 = .ok (.iconst (-1), 1) := by decide +kernel
theorem dX10_readPlan_36 : decode cX10_readPlan 36 = .ok (.if_icmp .eq 4, 3) := by decide +kernel
theorem dX10_readPlan_39 : decode cX10_readPlan 39 = .ok (.return_, 1) := by decide +kernel
theorem dX10_readPlan_40 : decode cX10_readPlan 40 = .ok (.iinc 1 1, 3) := by decide +kernel
theorem dX10_readPlan_43 : decode cX10_readPlan 43 = .ok (.aload_n 0, 1) := by decide +kernel
theorem dX10_readPlan_44 : decode cX10_readPlan 44 = .ok (.invokevirtual 138, 3) := by decide +kernel
theorem dX10_readPlan_47 : decode cX10_readPlan 47 = .ok (.bipush 59, 2) := by decide +kernel
theorem dX10_readPlan_49 : decode cX10_readPlan 49 = .ok (.if_icmp .ne 7, 3) := by decide +kernel
theorem dX10_readPlan_52 : decode cX10_readPlan 52 = .ok (.iconst 1, 1) := by decide +kernel
theorem dX10_readPlan_53 : decode cX10_readPlan 53 = .ok (.goto 4, 3) := by decide +kernel
theorem dX10_readPlan_56 : decode cX10_readPlan 56 = .ok (.iconst 0, 1) := by decide +kernel
theorem dX10_readPlan_57 : decode cX10_readPlan 57 = .ok (.istore_n 2, 1) := by decide +kernel
theorem dX10_readPlan_58 : decode cX10_readPlan 58 = .ok (.iload_n 2, 1) := by decide +kernel
theorem dX10_readPlan_59 : decode cX10_readPlan 59 = .ok (.ifCond .eq 15, 3) := by decide +kernel
theorem dX10_readPlan_62 : decode cX10_readPlan 62 = .ok (.iload_n 1, 1) := by decide +kernel
theorem dX10_readPlan_63 : decode cX10_readPlan 63 = .ok (.bipush 16, 2) := by decide +kernel
theorem dX10_readPlan_65 : decode cX10_readPlan 65 = .ok (.if_icmp .ne 9, 3) := by decide +kernel
theorem dX10_readPlan_68 : decode cX10_readPlan 68 = .ok (.aload_n 0, 1) := by decide +kernel
theorem dX10_readPlan_69 : decode cX10_readPlan 69 = .ok (.invokevirtual 134, 3) := by decide +kernel
theorem dX10_readPlan_72 : decode cX10_readPlan 72 = .ok (.pop, 1) := by decide +kernel
theorem dX10_readPlan_73 : decode cX10_readPlan 73 = .ok (.return_, 1) := by decide +kernel
theorem dX10_readPlan_74 : decode cX10_readPlan 74 = .ok (.iload_n 2, 1) := by decide +kernel
theorem dX10_readPlan_75 : decode cX10_readPlan 75 = .ok (.ifCond .eq (-58), 3) := by decide +kernel
theorem dX10_readPlan_78 : decode cX10_readPlan 78 = .ok (.aload_n 0, 1) := by decide +kernel
theorem dX10_readPlan_79 : decode cX10_readPlan 79 = .ok (.dup, 1) := by decide +kernel
theorem dX10_readPlan_80 : decode cX10_readPlan 80 = .ok (.getfield 119, 3) := by decide +kernel
theorem dX10_readPlan_83 : decode cX10_readPlan 83 = .ok (.iconst 1, 1) := by decide +kernel
theorem dX10_readPlan_84 : decode cX10_readPlan 84 = .ok (.iadd, 1) := by decide +kernel
theorem dX10_readPlan_85 : decode cX10_readPlan 85 = .ok (.putfield 119, 3) := by decide +kernel
theorem dX10_readPlan_88 : decode cX10_readPlan 88 = .ok (.goto (-71), 3) := by decide +kernel
theorem dX10_readPlan_91 : decode cX10_readPlan 91 = .ok (.aload_n 0, 1) := by decide +kernel
theorem dX10_readPlan_92 : decode cX10_readPlan 92 = .ok (.getfield 58, 3) := by decide +kernel
theorem dX10_readPlan_95 : decode cX10_readPlan 95 = .ok (.iconst 4, 1) := by decide +kernel
theorem dX10_readPlan_96 : decode cX10_readPlan 96 = .ok (.iload_n 1, 1) := by decide +kernel
theorem dX10_readPlan_97 : decode cX10_readPlan 97 = .ok (.iastore, 1) := by decide +kernel
theorem dX10_readPlan_98 : decode cX10_readPlan 98 = .ok (.aload_n 0, 1) := by decide +kernel
theorem dX10_readPlan_99 : decode cX10_readPlan 99 = .ok (.invokevirtual 138, 3) := by decide +kernel
theorem dX10_readPlan_102 : decode cX10_readPlan 102 = .ok (.iconst (-1), 1) := by decide +kernel
theorem dX10_readPlan_103 : decode cX10_readPlan 103 = .ok (.if_icmp .eq 8, 3) := by decide +kernel
theorem dX10_readPlan_106 : decode cX10_readPlan 106 = .ok (.aload_n 0, 1) := by decide +kernel
theorem dX10_readPlan_107 : decode cX10_readPlan 107 = .ok (.invokevirtual 134, 3) := by decide +kernel
theorem dX10_readPlan_110 : decode cX10_readPlan 110 = .ok (.pop, 1) := by decide +kernel
theorem dX10_readPlan_111 : decode cX10_readPlan 111 = .ok (.return_, 1) := by decide +kernel
theorem dX10_fault_0 : decode cX10_fault 0 = .ok (.aload_n 0, 1) := by decide +kernel
theorem dX10_fault_1 : decode cX10_fault 1 = .ok (.iconst 0, 1) := by decide +kernel
theorem dX10_fault_2 : decode cX10_fault 2 = .ok (.putfield 96, 3) := by decide +kernel
theorem dX10_fault_5 : decode cX10_fault 5 = .ok (.iload_n 1, 1) := by decide +kernel
theorem dX10_fault_6 : decode cX10_fault 6 = .ok (.i2l, 1) := by decide +kernel
theorem dX10_fault_7 : decode cX10_fault 7 = .ok (.lconst 0, 1) := by decide +kernel
theorem dX10_fault_8 : decode cX10_fault 8 = .ok (.ldc2_w 272, 3) := by decide +kernel
theorem dX10_fault_11 : decode cX10_fault 11 = .ok (.invokestatic 217, 3) := by decide +kernel
theorem dX10_fault_14 : decode cX10_fault 14 = .ok (.ifCond .ne 6, 3) := by decide +kernel
theorem dX10_fault_17 : decode cX10_fault 17 = .ok (.bipush (-2), 2) := by decide +kernel
theorem dX10_fault_19 : decode cX10_fault 19 = .ok (.ireturn, 1) := by decide +kernel
theorem dX10_fault_20 : decode cX10_fault 20 = .ok (.iload_n 1, 1) := by decide +kernel
theorem dX10_fault_21 : decode cX10_fault 21 = .ok (.ifCond .ne 7, 3) := by decide +kernel
theorem dX10_fault_24 : decode cX10_fault 24 = .ok (.aload_n 0, 1) := by decide +kernel
theorem dX10_fault_25 : decode cX10_fault 25 = .ok (.invokevirtual 274, 3) := by decide +kernel
theorem dX10_fault_28 : decode cX10_fault 28 = .ok (.iload_n 1, 1) := by decide +kernel
theorem dX10_fault_29 : decode cX10_fault 29 = .ok (.iconst 1, 1) := by decide +kernel
theorem dX10_fault_30 : decode cX10_fault 30 = .ok (.if_icmp .ne 16, 3) := by decide +kernel
theorem dX10_fault_33 : decode cX10_fault 33 = .ok (.aload_n 0, 1) := by decide +kernel
theorem dX10_fault_34 : decode cX10_fault 34 = .ok (.aload_n 0, 1) := by decide +kernel
theorem dX10_fault_35 : decode cX10_fault 35 = .ok (.getfield 9, 3) := by decide +kernel
theorem dX10_fault_38 : decode cX10_fault 38 = .ok (.iconst 0, 1) := by decide +kernel
theorem dX10_fault_39 : decode cX10_fault 39 = .ok (.aload_n 0, 1) := by decide +kernel
theorem dX10_fault_40 : decode cX10_fault 40 = .ok (.getfield 109, 3) := by decide +kernel
theorem dX10_fault_43 : decode cX10_fault 43 = .ok (.invokevirtual 277, 3) := by decide +kernel
theorem dX10_fault_46 : decode cX10_fault 46 = .ok (.iload_n 1, 1) := by decide +kernel
theorem dX10_fault_47 : decode cX10_fault 47 = .ok (.iconst 2, 1) := by decide +kernel
theorem dX10_fault_48 : decode cX10_fault 48 = .ok (.if_icmp .ne 7, 3) := by decide +kernel
theorem dX10_fault_51 : decode cX10_fault 51 = .ok (.aload_n 0, 1) := by decide +kernel
theorem dX10_fault_52 : decode cX10_fault 52 = .ok (.invokevirtual 280, 3) := by decide +kernel
theorem dX10_fault_55 : decode cX10_fault 55 = .ok (.aload_n 0, 1) := by decide +kernel
theorem dX10_fault_56 : decode cX10_fault 56 = .ok (.getfield 128, 3) := by decide +kernel
theorem dX10_fault_59 : decode cX10_fault 59 = .ok (.ireturn, 1) := by decide +kernel
theorem dX10_text_0 : decode cX10_text 0 = .ok (.aload_n 0, 1) := by decide +kernel
theorem dX10_text_1 : decode cX10_text 1 = .ok (.iconst 0, 1) := by decide +kernel
theorem dX10_text_2 : decode cX10_text 2 = .ok (.putfield 96, 3) := by decide +kernel
theorem dX10_text_5 : decode cX10_text 5 = .ok (.iload_n 1, 1) := by decide +kernel
theorem dX10_text_6 : decode cX10_text 6 = .ok (.i2l, 1) := by decide +kernel
theorem dX10_text_7 : decode cX10_text 7 = .ok (.lconst 0, 1) := by decide +kernel
theorem dX10_text_8 : decode cX10_text 8 = .ok (.ldc2_w 272, 3) := by decide +kernel
theorem dX10_text_11 : decode cX10_text 11 = .ok (.invokestatic 217, 3) := by decide +kernel
theorem dX10_text_14 : decode cX10_text 14 = .ok (.ifCond .eq 38, 3) := by decide +kernel
theorem dX10_text_17 : decode cX10_text 17 = .ok (.iload_n 1, 1) := by decide +kernel
theorem dX10_text_18 : decode cX10_text 18 = .ok (.iconst 1, 1) := by decide +kernel
theorem dX10_text_19 : decode cX10_text 19 = .ok (.if_icmp .ne 11, 3) := by decide +kernel
theorem dX10_text_22 : decode cX10_text 22 = .ok (.aload_n 0, 1) := by decide +kernel
theorem dX10_text_23 : decode cX10_text 23 = .ok (.getfield 283, 3) := by decide +kernel
theorem dX10_text_26 : decode cX10_text 26 = .ok (.iconst 4, 1) := by decide +kernel
theorem dX10_text_27 : decode cX10_text 27 = .ok (.if_icmp .eq 25, 3) := by decide +kernel
theorem dX10_text_30 : decode cX10_text 30 = .ok (.iload_n 1, 1) := by decide +kernel
theorem dX10_text_31 : decode cX10_text 31 = .ok (.iconst 2, 1) := by decide +kernel
theorem dX10_text_32 : decode cX10_text 32 = .ok (.if_icmp .ne 11, 3) := by decide +kernel
theorem dX10_text_35 : decode cX10_text 35 = .ok (.aload_n 0, 1) := by decide +kernel
theorem dX10_text_36 : decode cX10_text 36 = .ok (.getfield 286, 3) := by decide +kernel
theorem dX10_text_39 : decode cX10_text 39 = .ok (.iconst 4, 1) := by decide +kernel
theorem dX10_text_40 : decode cX10_text 40 = .ok (.if_icmp .eq 12, 3) := by decide +kernel
theorem dX10_text_43 : decode cX10_text 43 = .ok (.aload_n 0, 1) := by decide +kernel
theorem dX10_text_44 : decode cX10_text 44 = .ok (.iload_n 1, 1) := by decide +kernel
theorem dX10_text_45 : decode cX10_text 45 = .ok (.invokevirtual 289, 3) := by decide +kernel
theorem dX10_text_48 : decode cX10_text 48 = .ok (.iconst (-1), 1) := by decide +kernel
theorem dX10_text_49 : decode cX10_text 49 = .ok (.if_icmp .eq 5, 3) := by decide +kernel
theorem dX10_text_52 : decode cX10_text 52 = .ok (.iconst (-1), 1) := by decide +kernel
theorem dX10_text_53 : decode cX10_text 53 = .ok (.ireturn, 1) := by decide +kernel
theorem dX10_text_54 : decode cX10_text 54 = .ok (.aload_n 0, 1) := by decide +kernel
theorem dX10_text_55 : decode cX10_text 55 = .ok (.getfield 109, 3) := by decide +kernel
theorem dX10_text_58 : decode cX10_text 58 = .ok (.istore_n 2, 1) := by decide +kernel
theorem dX10_text_59 : decode cX10_text 59 = .ok (.aload_n 0, 1) := by decide +kernel
theorem dX10_text_60 : decode cX10_text 60 = .ok (.iconst 0, 1) := by decide +kernel
theorem dX10_text_61 : decode cX10_text 61 = .ok (.putfield 109, 3) := by decide +kernel
theorem dX10_text_64 : decode cX10_text 64 = .ok (.iload_n 1, 1) := by decide +kernel
theorem dX10_text_65 : decode cX10_text 65 = .ok (.iconst 1, 1) := by decide +kernel
theorem dX10_text_66 : decode cX10_text 66 = .ok (.if_icmp .ne 64, 3) := by decide +kernel
theorem dX10_text_69 : decode cX10_text 69 = .ok (.iconst 0, 1) := by decide +kernel
theorem dX10_text_70 : decode cX10_text 70 = .ok (.istore_n 3, 1) := by decide +kernel
theorem dX10_text_71 : decode cX10_text 71 = .ok (.iload_n 3, 1) := by decide +kernel
theorem dX10_text_72 : decode cX10_text 72 = .ok (.iload_n 2, 1) := by decide +kernel
theorem dX10_text_73 : decode cX10_text 73 = .ok (.if_icmp .ge 30, 3) := by decide +kernel
theorem dX10_text_76 : decode cX10_text 76 = .ok (.aload_n 0, 1) := by decide +kernel
theorem dX10_text_77 : decode cX10_text 77 = .ok (.getfield 13, 3) := by decide +kernel
theorem dX10_text_80 : decode cX10_text 80 = .ok (.sipush 240, 3) := by decide +kernel
theorem dX10_text_83 : decode cX10_text 83 = .ok (.aload_n 0, 1) := by decide +kernel
theorem dX10_text_84 : decode cX10_text 84 = .ok (.getfield 283, 3) := by decide +kernel
theorem dX10_text_87 : decode cX10_text 87 = .ok (.imul, 1) := by decide +kernel
theorem dX10_text_88 : decode cX10_text 88 = .ok (.iload_n 3, 1) := by decide +kernel
theorem dX10_text_89 : decode cX10_text 89 = .ok (.iadd, 1) := by decide +kernel
theorem dX10_text_90 : decode cX10_text 90 = .ok (.aload_n 0, 1) := by decide +kernel
theorem dX10_text_91 : decode cX10_text 91 = .ok (.getfield 9, 3) := by decide +kernel
theorem dX10_text_94 : decode cX10_text 94 = .ok (.iload_n 3, 1) := by decide +kernel
theorem dX10_text_95 : decode cX10_text 95 = .ok (.baload, 1) := by decide +kernel
theorem dX10_text_96 : decode cX10_text 96 = .ok (.bastore, 1) := by decide +kernel
theorem dX10_text_97 : decode cX10_text 97 = .ok (.iinc 3 1, 3) := by decide +kernel
theorem dX10_text_100 : decode cX10_text 100 = .ok (.goto (-29), 3) := by decide +kernel
theorem dX10_text_103 : decode cX10_text 103 = .ok (.aload_n 0, 1) := by decide +kernel
theorem dX10_text_104 : decode cX10_text 104 = .ok (.getfield 16, 3) := by decide +kernel
theorem dX10_text_107 : decode cX10_text 107 = .ok (.aload_n 0, 1) := by decide +kernel
theorem dX10_text_108 : decode cX10_text 108 = .ok (.getfield 283, 3) := by decide +kernel
theorem dX10_text_111 : decode cX10_text 111 = .ok (.iload_n 2, 1) := by decide +kernel
theorem dX10_text_112 : decode cX10_text 112 = .ok (.iastore, 1) := by decide +kernel
theorem dX10_text_113 : decode cX10_text 113 = .ok (.aload_n 0, 1) := by decide +kernel
theorem dX10_text_114 : decode cX10_text 114 = .ok (.dup, 1) := by decide +kernel
theorem dX10_text_115 : decode cX10_text 115 = .ok (.getfield 283, 3) := by decide +kernel
theorem dX10_text_118 : decode cX10_text 118 = .ok (.iconst 1, 1) := by decide +kernel
theorem dX10_text_119 : decode cX10_text 119 = .ok (.iadd, 1) := by decide +kernel
theorem dX10_text_120 : decode cX10_text 120 = .ok (.putfield 283, 3) := by decide +kernel
theorem dX10_text_123 : decode cX10_text 123 = .ok (.aload_n 0, 1) := by decide +kernel
theorem dX10_text_124 : decode cX10_text 124 = .ok (.getfield 283, 3) := by decide +kernel
theorem dX10_text_127 : decode cX10_text 127 = .ok (.iconst 1, 1) := by decide +kernel
theorem dX10_text_128 : decode cX10_text 128 = .ok (.isub, 1) := by decide +kernel
theorem dX10_text_129 : decode cX10_text 129 = .ok (.ireturn, 1) := by decide +kernel
theorem dX10_text_130 : decode cX10_text 130 = .ok (.iload_n 1, 1) := by decide +kernel
theorem dX10_text_131 : decode cX10_text 131 = .ok (.iconst 2, 1) := by decide +kernel
theorem dX10_text_132 : decode cX10_text 132 = .ok (.if_icmp .ne 73, 3) := by decide +kernel
theorem dX10_text_135 : decode cX10_text 135 = .ok (.iconst 0, 1) := by decide +kernel
theorem dX10_text_136 : decode cX10_text 136 = .ok (.istore_n 3, 1) := by decide +kernel
theorem dX10_text_137 : decode cX10_text 137 = .ok (.iload_n 3, 1) := by decide +kernel
theorem dX10_text_138 : decode cX10_text 138 = .ok (.bipush 48, 2) := by decide +kernel
theorem dX10_text_140 : decode cX10_text 140 = .ok (.if_icmp .ge 33, 3) := by decide +kernel
theorem dX10_text_143 : decode cX10_text 143 = .ok (.aload_n 0, 1) := by decide +kernel
theorem dX10_text_144 : decode cX10_text 144 = .ok (.getfield 55, 3) := by decide +kernel
theorem dX10_text_147 : decode cX10_text 147 = .ok (.bipush 48, 2) := by decide +kernel
theorem dX10_text_149 : decode cX10_text 149 = .ok (.aload_n 0, 1) := by decide +kernel
theorem dX10_text_150 : decode cX10_text 150 = .ok (.getfield 286, 3) := by decide +kernel
theorem dX10_text_153 : decode cX10_text 153 = .ok (.imul, 1) := by decide +kernel
theorem dX10_text_154 : decode cX10_text 154 = .ok (.iload_n 3, 1) := by decide +kernel
theorem dX10_text_155 : decode cX10_text 155 = .ok (.iadd, 1) := by decide +kernel
theorem dX10_text_156 : decode cX10_text 156 = .ok (.aload_n 0, 1) := by decide +kernel
theorem dX10_text_157 : decode cX10_text 157 = .ok (.getfield 55, 3) := by decide +kernel
theorem dX10_text_160 : decode cX10_text 160 = .ok (.sipush 192, 3) := by decide +kernel
theorem dX10_text_163 : decode cX10_text 163 = .ok (.iload_n 3, 1) := by decide +kernel
theorem dX10_text_164 : decode cX10_text 164 = .ok (.iadd, 1) := by decide +kernel
theorem dX10_text_165 : decode cX10_text 165 = .ok (.iaload, 1) := by decide +kernel
theorem dX10_text_166 : decode cX10_text 166 = .ok (.iastore, 1) := by decide +kernel
theorem dX10_text_167 : decode cX10_text 167 = .ok (.iinc 3 1, 3) := by decide +kernel
theorem dX10_text_170 : decode cX10_text 170 = .ok (.goto (-33), 3) := by decide +kernel
theorem dX10_text_173 : decode cX10_text 173 = .ok (.aload_n 0, 1) := by decide +kernel
theorem dX10_text_174 : decode cX10_text 174 = .ok (.getfield 58, 3) := by decide +kernel
theorem dX10_text_177 : decode cX10_text 177 = .ok (.aload_n 0, 1) := by decide +kernel
theorem dX10_text_178 : decode cX10_text 178 = .ok (.getfield 286, 3) := by decide +kernel
theorem dX10_text_181 : decode cX10_text 181 = .ok (.aload_n 0, 1) := by decide +kernel
theorem dX10_text_182 : decode cX10_text 182 = .ok (.getfield 58, 3) := by decide +kernel
theorem dX10_text_185 : decode cX10_text 185 = .ok (.iconst 4, 1) := by decide +kernel
theorem dX10_text_186 : decode cX10_text 186 = .ok (.iaload, 1) := by decide +kernel
theorem dX10_text_187 : decode cX10_text 187 = .ok (.iastore, 1) := by decide +kernel
theorem dX10_text_188 : decode cX10_text 188 = .ok (.aload_n 0, 1) := by decide +kernel
theorem dX10_text_189 : decode cX10_text 189 = .ok (.dup, 1) := by decide +kernel
theorem dX10_text_190 : decode cX10_text 190 = .ok (.getfield 286, 3) := by decide +kernel
theorem dX10_text_193 : decode cX10_text 193 = .ok (.iconst 1, 1) := by decide +kernel
theorem dX10_text_194 : decode cX10_text 194 = .ok (.iadd, 1) := by decide +kernel
theorem dX10_text_195 : decode cX10_text 195 = .ok (.putfield 286, 3) := by decide +kernel
theorem dX10_text_198 : decode cX10_text 198 = .ok (.aload_n 0, 1) := by decide +kernel
theorem dX10_text_199 : decode cX10_text 199 = .ok (.getfield 286, 3) := by decide +kernel
theorem dX10_text_202 : decode cX10_text 202 = .ok (.iconst 1, 1) := by decide +kernel
theorem dX10_text_203 : decode cX10_text 203 = .ok (.isub, 1) := by decide +kernel
theorem dX10_text_204 : decode cX10_text 204 = .ok (.ireturn, 1) := by decide +kernel
theorem dX10_text_205 : decode cX10_text 205 = .ok (.aload_n 0, 1) := by decide +kernel
theorem dX10_text_206 : decode cX10_text 206 = .ok (.aload_n 0, 1) := by decide +kernel
theorem dX10_text_207 : decode cX10_text 207 = .ok (.getfield 245, 3) := by decide +kernel
theorem dX10_text_210 : decode cX10_text 210 = .ok (.putfield 291, 3) := by decide +kernel
theorem dX10_text_213 : decode cX10_text 213 = .ok (.aload_n 0, 1) := by decide +kernel
theorem dX10_text_214 : decode cX10_text 214 = .ok (.aload_n 0, 1) := by decide +kernel
theorem dX10_text_215 : decode cX10_text 215 = .ok (.getfield 248, 3) := by decide +kernel
theorem dX10_text_218 : decode cX10_text 218 = .ok (.putfield 294, 3) := by decide +kernel
theorem dX10_text_221 : decode cX10_text 221 = .ok (.iconst 0, 1) := by decide +kernel
theorem dX10_text_222 : decode cX10_text 222 = .ok (.istore_n 3, 1) := by decide +kernel
theorem dX10_text_223 : decode cX10_text 223 = .ok (.iload_n 3, 1) := by decide +kernel
theorem dX10_text_224 : decode cX10_text 224 = .ok (.iconst 5, 1) := by decide +kernel
theorem dX10_text_225 : decode cX10_text 225 = .ok (.if_icmp .ge 21, 3) := by decide +kernel
theorem dX10_text_228 : decode cX10_text 228 = .ok (.aload_n 0, 1) := by decide +kernel
theorem dX10_text_229 : decode cX10_text 229 = .ok (.getfield 37, 3) := by decide +kernel
theorem dX10_text_232 : decode cX10_text 232 = .ok (.iload_n 3, 1) := by decide +kernel
theorem dX10_text_233 : decode cX10_text 233 = .ok (.aload_n 0, 1) := by decide +kernel
theorem dX10_text_234 : decode cX10_text 234 = .ok (.getfield 40, 3) := by decide +kernel
theorem dX10_text_237 : decode cX10_text 237 = .ok (.iload_n 3, 1) := by decide +kernel
theorem dX10_text_238 : decode cX10_text 238 = .ok (.iaload, 1) := by decide +kernel
theorem dX10_text_239 : decode cX10_text 239 = .ok (.iastore, 1) := by decide +kernel
theorem dX10_text_240 : decode cX10_text 240 = .ok (.iinc 3 1, 3) := by decide +kernel
theorem dX10_text_243 : decode cX10_text 243 = .ok (.goto (-20), 3) := by decide +kernel
theorem dX10_text_246 : decode cX10_text 246 = .ok (.iconst 0, 1) := by decide +kernel
theorem dX10_text_247 : decode cX10_text 247 = .ok (.istore_n 3, 1) := by decide +kernel
theorem dX10_text_248 : decode cX10_text 248 = .ok (.iload_n 3, 1) := by decide +kernel
theorem dX10_text_249 : decode cX10_text 249 = .ok (.bipush 48, 2) := by decide +kernel
theorem dX10_text_251 : decode cX10_text 251 = .ok (.if_icmp .ge 21, 3) := by decide +kernel
theorem dX10_text_254 : decode cX10_text 254 = .ok (.aload_n 0, 1) := by decide +kernel
theorem dX10_text_255 : decode cX10_text 255 = .ok (.getfield 43, 3) := by decide +kernel
theorem dX10_text_258 : decode cX10_text 258 = .ok (.iload_n 3, 1) := by decide +kernel
theorem dX10_text_259 : decode cX10_text 259 = .ok (.aload_n 0, 1) := by decide +kernel
theorem dX10_text_260 : decode cX10_text 260 = .ok (.getfield 46, 3) := by decide +kernel
theorem dX10_text_263 : decode cX10_text 263 = .ok (.iload_n 3, 1) := by decide +kernel
theorem dX10_text_264 : decode cX10_text 264 = .ok (.iaload, 1) := by decide +kernel
theorem dX10_text_265 : decode cX10_text 265 = .ok (.iastore, 1) := by decide +kernel
theorem dX10_text_266 : decode cX10_text 266 = .ok (.iinc 3 1, 3) := by decide +kernel
theorem dX10_text_269 : decode cX10_text 269 = .ok (.goto (-21), 3) := by decide +kernel
theorem dX10_text_272 : decode cX10_text 272 = .ok (.iconst 0, 1) := by decide +kernel
theorem dX10_text_273 : decode cX10_text 273 = .ok (.istore_n 3, 1) := by decide +kernel
theorem dX10_text_274 : decode cX10_text 274 = .ok (.iload_n 3, 1) := by decide +kernel
theorem dX10_text_275 : decode cX10_text 275 = .ok (.bipush 24, 2) := by decide +kernel
theorem dX10_text_277 : decode cX10_text 277 = .ok (.if_icmp .ge 21, 3) := by decide +kernel
theorem dX10_text_280 : decode cX10_text 280 = .ok (.aload_n 0, 1) := by decide +kernel
theorem dX10_text_281 : decode cX10_text 281 = .ok (.getfield 49, 3) := by decide +kernel
theorem dX10_text_284 : decode cX10_text 284 = .ok (.iload_n 3, 1) := by decide +kernel
theorem dX10_text_285 : decode cX10_text 285 = .ok (.aload_n 0, 1) := by decide +kernel
theorem dX10_text_286 : decode cX10_text 286 = .ok (.getfield 52, 3) := by decide +kernel
theorem dX10_text_289 : decode cX10_text 289 = .ok (.iload_n 3, 1) := by decide +kernel
theorem dX10_text_290 : decode cX10_text 290 = .ok (.iaload, 1) := by decide +kernel
theorem dX10_text_291 : decode cX10_text 291 = .ok (.iastore, 1) := by decide +kernel
theorem dX10_text_292 : decode cX10_text 292 = .ok (.iinc 3 1, 3) := by decide +kernel
theorem dX10_text_295 : decode cX10_text 295 = .ok (.goto (-21), 3) := by decide +kernel
theorem dX10_text_298 : decode cX10_text 298 = .ok (.aload_n 0, 1) := by decide +kernel
theorem dX10_text_299 : decode cX10_text 299 = .ok (.aload_n 0, 1) := by decide +kernel
theorem dX10_text_300 : decode cX10_text 300 = .ok (.getfield 37, 3) := by decide +kernel
theorem dX10_text_303 : decode cX10_text 303 = .ok (.iconst 0, 1) := by decide +kernel
theorem dX10_text_304 : decode cX10_text 304 = .ok (.iaload, 1) := by decide +kernel
theorem dX10_text_305 : decode cX10_text 305 = .ok (.aload_n 0, 1) := by decide +kernel
theorem dX10_text_306 : decode cX10_text 306 = .ok (.getfield 37, 3) := by decide +kernel
theorem dX10_text_309 : decode cX10_text 309 = .ok (.iconst 1, 1) := by decide +kernel
theorem dX10_text_310 : decode cX10_text 310 = .ok (.iaload, 1) := by decide +kernel
theorem dX10_text_311 : decode cX10_text 311 = .ok (.imul, 1) := by decide +kernel
theorem dX10_text_312 : decode cX10_text 312 = .ok (.putfield 297, 3) := by decide +kernel
theorem dX10_text_315 : decode cX10_text 315 = .ok (.iconst 0, 1) := by decide +kernel
theorem dX10_text_316 : decode cX10_text 316 = .ok (.istore_n 3, 1) := by decide +kernel
theorem dX10_text_317 : decode cX10_text 317 = .ok (.iload_n 3, 1) := by decide +kernel
theorem dX10_text_318 : decode cX10_text 318 = .ok (.sipush 351, 3) := by decide +kernel
theorem dX10_text_321 : decode cX10_text 321 = .ok (.if_icmp .ge 16, 3) := by decide +kernel
theorem dX10_text_324 : decode cX10_text 324 = .ok (.aload_n 0, 1) := by decide +kernel
theorem dX10_text_325 : decode cX10_text 325 = .ok (.getfield 61, 3) := by decide +kernel
theorem dX10_text_328 : decode cX10_text 328 = .ok (.iload_n 3, 1) := by decide +kernel
theorem dX10_text_329 : decode cX10_text 329 = .ok (.iconst 0, 1) := by decide +kernel
theorem dX10_text_330 : decode cX10_text 330 = .ok (.iastore, 1) := by decide +kernel
theorem dX10_text_331 : decode cX10_text 331 = .ok (.iinc 3 1, 3) := by decide +kernel
theorem dX10_text_334 : decode cX10_text 334 = .ok (.goto (-17), 3) := by decide +kernel
theorem dX10_text_337 : decode cX10_text 337 = .ok (.iconst 0, 1) := by decide +kernel
theorem dX10_text_338 : decode cX10_text 338 = .ok (.istore_n 3, 1) := by decide +kernel
theorem dX10_text_339 : decode cX10_text 339 = .ok (.iload_n 3, 1) := by decide +kernel
theorem dX10_text_340 : decode cX10_text 340 = .ok (.aload_n 0, 1) := by decide +kernel
theorem dX10_text_341 : decode cX10_text 341 = .ok (.getfield 291, 3) := by decide +kernel
theorem dX10_text_344 : decode cX10_text 344 = .ok (.if_icmp .ge 47, 3) := by decide +kernel
theorem dX10_text_347 : decode cX10_text 347 = .ok (.aload_n 0, 1) := by decide +kernel
theorem dX10_text_348 : decode cX10_text 348 = .ok (.getfield 61, 3) := by decide +kernel
theorem dX10_text_351 : decode cX10_text 351 = .ok (.iconst 2, 1) := by decide +kernel
theorem dX10_text_352 : decode cX10_text 352 = .ok (.iload_n 3, 1) := by decide +kernel
theorem dX10_text_353 : decode cX10_text 353 = .ok (.imul, 1) := by decide +kernel
theorem dX10_text_354 : decode cX10_text 354 = .ok (.aload_n 0, 1) := by decide +kernel
theorem dX10_text_355 : decode cX10_text 355 = .ok (.getfield 43, 3) := by decide +kernel
theorem dX10_text_358 : decode cX10_text 358 = .ok (.iconst 4, 1) := by decide +kernel
theorem dX10_text_359 : decode cX10_text 359 = .ok (.iload_n 3, 1) := by decide +kernel
theorem dX10_text_360 : decode cX10_text 360 = .ok (.imul, 1) := by decide +kernel
theorem dX10_text_361 : decode cX10_text 361 = .ok (.iconst 1, 1) := by decide +kernel
theorem dX10_text_362 : decode cX10_text 362 = .ok (.iadd, 1) := by decide +kernel
theorem dX10_text_363 : decode cX10_text 363 = .ok (.iaload, 1) := by decide +kernel
theorem dX10_text_364 : decode cX10_text 364 = .ok (.iastore, 1) := by decide +kernel
theorem dX10_text_365 : decode cX10_text 365 = .ok (.aload_n 0, 1) := by decide +kernel
theorem dX10_text_366 : decode cX10_text 366 = .ok (.getfield 61, 3) := by decide +kernel
theorem dX10_text_369 : decode cX10_text 369 = .ok (.iconst 2, 1) := by decide +kernel
theorem dX10_text_370 : decode cX10_text 370 = .ok (.iload_n 3, 1) := by decide +kernel
theorem dX10_text_371 : decode cX10_text 371 = .ok (.imul, 1) := by decide +kernel
theorem dX10_text_372 : decode cX10_text 372 = .ok (.iconst 1, 1) := by decide +kernel
theorem dX10_text_373 : decode cX10_text 373 = .ok (.iadd, 1) := by decide +kernel
theorem dX10_text_374 : decode cX10_text 374 = .ok (.aload_n 0, 1) := by decide +kernel
theorem dX10_text_375 : decode cX10_text 375 = .ok (.getfield 43, 3) := by decide +kernel
theorem dX10_text_378 : decode cX10_text 378 = .ok (.iconst 4, 1) := by decide +kernel
theorem dX10_text_379 : decode cX10_text 379 = .ok (.iload_n 3, 1) := by decide +kernel
theorem dX10_text_380 : decode cX10_text 380 = .ok (.imul, 1) := by decide +kernel
theorem dX10_text_381 : decode cX10_text 381 = .ok (.iconst 3, 1) := by decide +kernel
theorem dX10_text_382 : decode cX10_text 382 = .ok (.iadd, 1) := by decide +kernel
theorem dX10_text_383 : decode cX10_text 383 = .ok (.iaload, 1) := by decide +kernel
theorem dX10_text_384 : decode cX10_text 384 = .ok (.iastore, 1) := by decide +kernel
theorem dX10_text_385 : decode cX10_text 385 = .ok (.iinc 3 1, 3) := by decide +kernel
theorem dX10_text_388 : decode cX10_text 388 = .ok (.goto (-49), 3) := by decide +kernel
theorem dX10_text_391 : decode cX10_text 391 = .ok (.iconst 0, 1) := by decide +kernel
theorem dX10_text_392 : decode cX10_text 392 = .ok (.istore_n 3, 1) := by decide +kernel
theorem dX10_text_393 : decode cX10_text 393 = .ok (.iload_n 3, 1) := by decide +kernel
theorem dX10_text_394 : decode cX10_text 394 = .ok (.aload_n 0, 1) := by decide +kernel
theorem dX10_text_395 : decode cX10_text 395 = .ok (.getfield 294, 3) := by decide +kernel
theorem dX10_text_398 : decode cX10_text 398 = .ok (.if_icmp .ge 29, 3) := by decide +kernel
theorem dX10_text_401 : decode cX10_text 401 = .ok (.aload_n 0, 1) := by decide +kernel
theorem dX10_text_402 : decode cX10_text 402 = .ok (.getfield 61, 3) := by decide +kernel
theorem dX10_text_405 : decode cX10_text 405 = .ok (.bipush 24, 2) := by decide +kernel
theorem dX10_text_407 : decode cX10_text 407 = .ok (.bipush 14, 2) := by decide +kernel
theorem dX10_text_409 : decode cX10_text 409 = .ok (.iload_n 3, 1) := by decide +kernel
theorem dX10_text_410 : decode cX10_text 410 = .ok (.imul, 1) := by decide +kernel
theorem dX10_text_411 : decode cX10_text 411 = .ok (.iadd, 1) := by decide +kernel
theorem dX10_text_412 : decode cX10_text 412 = .ok (.aload_n 0, 1) := by decide +kernel
theorem dX10_text_413 : decode cX10_text 413 = .ok (.getfield 49, 3) := by decide +kernel
theorem dX10_text_416 : decode cX10_text 416 = .ok (.iconst 4, 1) := by decide +kernel
theorem dX10_text_417 : decode cX10_text 417 = .ok (.iload_n 3, 1) := by decide +kernel
theorem dX10_text_418 : decode cX10_text 418 = .ok (.imul, 1) := by decide +kernel
theorem dX10_text_419 : decode cX10_text 419 = .ok (.iaload, 1) := by decide +kernel
theorem dX10_text_420 : decode cX10_text 420 = .ok (.iastore, 1) := by decide +kernel
theorem dX10_text_421 : decode cX10_text 421 = .ok (.iinc 3 1, 3) := by decide +kernel
theorem dX10_text_424 : decode cX10_text 424 = .ok (.goto (-31), 3) := by decide +kernel
theorem dX10_text_427 : decode cX10_text 427 = .ok (.aload_n 0, 1) := by decide +kernel
theorem dX10_text_428 : decode cX10_text 428 = .ok (.getfield 61, 3) := by decide +kernel
theorem dX10_text_431 : decode cX10_text 431 = .ok (.bipush 108, 2) := by decide +kernel
theorem dX10_text_433 : decode cX10_text 433 = .ok (.aload_n 0, 1) := by decide +kernel
theorem dX10_text_434 : decode cX10_text 434 = .ok (.getfield 37, 3) := by decide +kernel
theorem dX10_text_437 : decode cX10_text 437 = .ok (.iconst 2, 1) := by decide +kernel
theorem dX10_text_438 : decode cX10_text 438 = .ok (.iaload, 1) := by decide +kernel
theorem dX10_text_439 : decode cX10_text 439 = .ok (.iastore, 1) := by decide +kernel
theorem dX10_text_440 : decode cX10_text 440 = .ok (.aload_n 0, 1) := by decide +kernel
theorem dX10_text_441 : decode cX10_text 441 = .ok (.iconst 0, 1) := by decide +kernel
