theorem dX0_init_0 : decode cX0_init 0 = .ok (.aload_n 0, 1) := by decide +kernel
theorem dX0_init_1 : decode cX0_init 1 = .ok (.invokespecial 3, 3) := by decide +kernel
theorem dX0_init_4 : decode cX0_init 4 = .ok (.aload_n 0, 1) := by decide +kernel
theorem dX0_init_5 : decode cX0_init 5 = .ok (.bipush 6, 2) := by decide +kernel
theorem dX0_init_7 : decode cX0_init 7 = .ok (.anewarray 9, 3) := by decide +kernel
theorem dX0_init_10 : decode cX0_init 10 = .ok (.putfield 11, 3) := by decide +kernel
theorem dX0_init_13 : decode cX0_init 13 = .ok (.aload_n 0, 1) := by decide +kernel
theorem dX0_init_14 : decode cX0_init 14 = .ok (.bipush 64, 2) := by decide +kernel
theorem dX0_init_16 : decode cX0_init 16 = .ok (.newarray .int, 2) := by decide +kernel
theorem dX0_init_18 : decode cX0_init 18 = .ok (.putfield 17, 3) := by decide +kernel
theorem dX0_init_21 : decode cX0_init 21 = .ok (.aload_n 0, 1) := by decide +kernel
theorem dX0_init_22 : decode cX0_init 22 = .ok (.bipush 6, 2) := by decide +kernel
theorem dX0_init_24 : decode cX0_init 24 = .ok (.newarray .int, 2) := by decide +kernel
theorem dX0_init_26 : decode cX0_init 26 = .ok (.putfield 21, 3) := by decide +kernel
theorem dX0_init_29 : decode cX0_init 29 = .ok (.aload_n 0, 1) := by decide +kernel
theorem dX0_init_30 : decode cX0_init 30 = .ok (.bipush 14, 2) := by decide +kernel
theorem dX0_init_32 : decode cX0_init 32 = .ok (.newarray .long, 2) := by decide +kernel
theorem dX0_init_34 : decode cX0_init 34 = .ok (.putfield 24, 3) := by decide +kernel
theorem dX0_init_37 : decode cX0_init 37 = .ok (.aload_n 0, 1) := by decide +kernel
theorem dX0_init_38 : decode cX0_init 38 = .ok (.aload_n 1, 1) := by decide +kernel
theorem dX0_init_39 : decode cX0_init 39 = .ok (.putfield 28, 3) := by decide +kernel
theorem dX0_init_42 : decode cX0_init 42 = .ok (.aload_n 0, 1) := by decide +kernel
theorem dX0_init_43 : decode cX0_init 43 = .ok (.aload_n 2, 1) := by decide +kernel
theorem dX0_init_44 : decode cX0_init 44 = .ok (.putfield 32, 3) := by decide +kernel
theorem dX0_init_47 : decode cX0_init 47 = .ok (.iconst 0, 1) := by decide +kernel
theorem dX0_init_48 : decode cX0_init 48 = .ok (.istore_n 3, 1) := by decide +kernel
theorem dX0_init_49 : decode cX0_init 49 = .ok (.iload_n 3, 1) := by decide +kernel
theorem dX0_init_50 : decode cX0_init 50 = .ok (.aload_n 0, 1) := by decide +kernel
theorem dX0_init_51 : decode cX0_init 51 = .ok (.getfield 11, 3) := by decide +kernel
theorem dX0_init_54 : decode cX0_init 54 = .ok (.arraylength, 1) := by decide +kernel
theorem dX0_init_55 : decode cX0_init 55 = .ok (.if_icmp .ge 22, 3) := by decide +kernel
theorem dX0_init_58 : decode cX0_init 58 = .ok (.aload_n 0, 1) := by decide +kernel
theorem dX0_init_59 : decode cX0_init 59 = .ok (.getfield 11, 3) := by decide +kernel
theorem dX0_init_62 : decode cX0_init 62 = .ok (.iload_n 3, 1) := by decide +kernel
theorem dX0_init_63 : decode cX0_init 63 = .ok (.new 9, 3) := by decide +kernel
theorem dX0_init_66 : decode cX0_init 66 = .ok (.dup, 1) := by decide +kernel
theorem dX0_init_67 : decode cX0_init 67 = .ok (.invokespecial 36, 3) := by decide +kernel
theorem dX0_init_70 : decode cX0_init 70 = .ok (.aastore, 1) := by decide +kernel
theorem dX0_init_71 : decode cX0_init 71 = .ok (.iinc 3 1, 3) := by decide +kernel
theorem dX0_init_74 : decode cX0_init 74 = .ok (.goto (-25), 3) := by decide +kernel
theorem dX0_init_77 : decode cX0_init 77 = .ok (.return_, 1) := by decide +kernel
theorem dX0_findOrder_0 : decode cX0_findOrder 0 = .ok (.aload_n 0, 1) := by decide +kernel
theorem dX0_findOrder_1 : decode cX0_findOrder 1 = .ok (.getfield 32, 3) := by decide +kernel
theorem dX0_findOrder_4 : decode cX0_findOrder 4 = .ok (.aload_n 1, 1) := by decide +kernel
theorem dX0_findOrder_5 : decode cX0_findOrder 5 = .ok (.invokevirtual 37, 3) := by decide +kernel
theorem dX0_findOrder_8 : decode cX0_findOrder 8 = .ok (.aload_n 0, 1) := by decide +kernel
theorem dX0_findOrder_9 : decode cX0_findOrder 9 = .ok (.getfield 28, 3) := by decide +kernel
theorem dX0_findOrder_12 : decode cX0_findOrder 12 = .ok (.iload_n 3, 1) := by decide +kernel
theorem dX0_findOrder_13 : decode cX0_findOrder 13 = .ok (.invokevirtual 43, 3) := by decide +kernel
theorem dX0_findOrder_16 : decode cX0_findOrder 16 = .ok (.iand, 1) := by decide +kernel
theorem dX0_findOrder_17 : decode cX0_findOrder 17 = .ok (.istore 4, 2) := by decide +kernel
theorem dX0_findOrder_19 : decode cX0_findOrder 19 = .ok (.iload 4, 2) := by decide +kernel
theorem dX0_findOrder_21 : decode cX0_findOrder 21 = .ok (.ifCond .eq 12, 3) := by decide +kernel
theorem dX0_findOrder_24 : decode cX0_findOrder 24 = .ok (.iload 4, 2) := by decide +kernel
theorem dX0_findOrder_26 : decode cX0_findOrder 26 = .ok (.invokestatic 49, 3) := by decide +kernel
theorem dX0_findOrder_29 : decode cX0_findOrder 29 = .ok (.iconst 5, 1) := by decide +kernel
theorem dX0_findOrder_30 : decode cX0_findOrder 30 = .ok (.if_icmp .le 5, 3) := by decide +kernel
theorem dX0_findOrder_33 : decode cX0_findOrder 33 = .ok (.iconst 0, 1) := by decide +kernel
theorem dX0_findOrder_34 : decode cX0_findOrder 34 = .ok (.ireturn, 1) := by decide +kernel
theorem dX0_findOrder_35 : decode cX0_findOrder 35 = .ok (.aload_n 0, 1) := by decide +kernel
theorem dX0_findOrder_36 : decode cX0_findOrder 36 = .ok (.iconst (-1), 1) := by decide +kernel
theorem dX0_findOrder_37 : decode cX0_findOrder 37 = .ok (.putfield 54, 3) := by decide +kernel
theorem dX0_findOrder_40 : decode cX0_findOrder 40 = .ok (.aload_n 0, 1) := by decide +kernel
theorem dX0_findOrder_41 : decode cX0_findOrder 41 = .ok (.iconst (-1), 1) := by decide +kernel
theorem dX0_findOrder_42 : decode cX0_findOrder 42 = .ok (.putfield 58, 3) := by decide +kernel
theorem dX0_findOrder_45 : decode cX0_findOrder 45 = .ok (.aload_n 0, 1) := by decide +kernel
theorem dX0_findOrder_46 : decode cX0_findOrder 46 = .ok (.getfield 11, 3) := by decide +kernel
theorem dX0_findOrder_49 : decode cX0_findOrder 49 = .ok (.iconst 0, 1) := by decide +kernel
theorem dX0_findOrder_50 : decode cX0_findOrder 50 = .ok (.aaload, 1) := by decide +kernel
theorem dX0_findOrder_51 : decode cX0_findOrder 51 = .ok (.aload_n 1, 1) := by decide +kernel
theorem dX0_findOrder_52 : decode cX0_findOrder 52 = .ok (.invokevirtual 61, 3) := by decide +kernel
theorem dX0_findOrder_55 : decode cX0_findOrder 55 = .ok (.aload_n 1, 1) := by decide +kernel
theorem dX0_findOrder_56 : decode cX0_findOrder 56 = .ok (.iload_n 2, 1) := by decide +kernel
theorem dX0_findOrder_57 : decode cX0_findOrder 57 = .ok (.invokevirtual 65, 3) := by decide +kernel
theorem dX0_findOrder_60 : decode cX0_findOrder 60 = .ok (.ifCond .eq 17, 3) := by decide +kernel
theorem dX0_findOrder_63 : decode cX0_findOrder 63 = .ok (.aload_n 0, 1) := by decide +kernel
theorem dX0_findOrder_64 : decode cX0_findOrder 64 = .ok (.getfield 32, 3) := by decide +kernel
theorem dX0_findOrder_67 : decode cX0_findOrder 67 = .ok (.aload_n 0, 1) := by decide +kernel
theorem dX0_findOrder_68 : decode cX0_findOrder 68 = .ok (.getfield 11, 3) := by decide +kernel
theorem dX0_findOrder_71 : decode cX0_findOrder 71 = .ok (.iconst 0, 1) := by decide +kernel
theorem dX0_findOrder_72 : decode cX0_findOrder 72 = .ok (.aaload, 1) := by decide +kernel
theorem dX0_findOrder_73 : decode cX0_findOrder 73 = .ok (.invokevirtual 69, 3) := by decide +kernel
theorem dX0_findOrder_76 : decode cX0_findOrder 76 = .ok (.pop, 1) := by decide +kernel
theorem dX0_findOrder_77 : decode cX0_findOrder 77 = .ok (.aload_n 0, 1) := by decide +kernel
theorem dX0_findOrder_78 : decode cX0_findOrder 78 = .ok (.iconst 0, 1) := by decide +kernel
theorem dX0_findOrder_79 : decode cX0_findOrder 79 = .ok (.iload_n 2, 1) := by decide +kernel
theorem dX0_findOrder_80 : decode cX0_findOrder 80 = .ok (.iload 4, 2) := by decide +kernel
theorem dX0_findOrder_82 : decode cX0_findOrder 82 = .ok (.iconst 0, 1) := by decide +kernel
theorem dX0_findOrder_83 : decode cX0_findOrder 83 = .ok (.iconst 0, 1) := by decide +kernel
theorem dX0_findOrder_84 : decode cX0_findOrder 84 = .ok (.invokevirtual 72, 3) := by decide +kernel
theorem dX0_findOrder_87 : decode cX0_findOrder 87 = .ok (.aload_n 0, 1) := by decide +kernel
theorem dX0_findOrder_88 : decode cX0_findOrder 88 = .ok (.getfield 54, 3) := by decide +kernel
theorem dX0_findOrder_91 : decode cX0_findOrder 91 = .ok (.iconst (-1), 1) := by decide +kernel
theorem dX0_findOrder_92 : decode cX0_findOrder 92 = .ok (.if_icmp .eq 7, 3) := by decide +kernel
theorem dX0_findOrder_95 : decode cX0_findOrder 95 = .ok (.iconst 1, 1) := by decide +kernel
theorem dX0_findOrder_96 : decode cX0_findOrder 96 = .ok (.goto 4, 3) := by decide +kernel
theorem dX0_findOrder_99 : decode cX0_findOrder 99 = .ok (.iconst 0, 1) := by decide +kernel
theorem dX0_findOrder_100 : decode cX0_findOrder 100 = .ok (.ireturn, 1) := by decide +kernel
theorem dX0_tryRows_0 : decode cX0_tryRows 0 = .ok (.aload_n 0, 1) := by decide +kernel
theorem dX0_tryRows_1 : decode cX0_tryRows 1 = .ok (.getfield 54, 3) := by decide +kernel
theorem dX0_tryRows_4 : decode cX0_tryRows 4 = .ok (.iconst (-1), 1) := by decide +kernel
theorem dX0_tryRows_5 : decode cX0_tryRows 5 = .ok (.if_icmp .eq 13, 3) := by decide +kernel
theorem dX0_tryRows_8 : decode cX0_tryRows 8 = .ok (.iload 5, 2) := by decide +kernel
theorem dX0_tryRows_10 : decode cX0_tryRows 10 = .ok (.aload_n 0, 1) := by decide +kernel
theorem dX0_tryRows_11 : decode cX0_tryRows 11 = .ok (.getfield 54, 3) := by decide +kernel
theorem dX0_tryRows_14 : decode cX0_tryRows 14 = .ok (.if_icmp .lt 4, 3) := by decide +kernel
theorem dX0_tryRows_17 : decode cX0_tryRows 17 = .ok (.return_, 1) := by decide +kernel
theorem dX0_tryRows_18 : decode cX0_tryRows 18 = .ok (.iload_n 3, 1) := by decide +kernel
theorem dX0_tryRows_19 : decode cX0_tryRows 19 = .ok (.ifCond .ne 16, 3) := by decide +kernel
theorem dX0_tryRows_22 : decode cX0_tryRows 22 = .ok (.aload_n 0, 1) := by decide +kernel
theorem dX0_tryRows_23 : decode cX0_tryRows 23 = .ok (.iload 5, 2) := by decide +kernel
theorem dX0_tryRows_25 : decode cX0_tryRows 25 = .ok (.putfield 54, 3) := by decide +kernel
theorem dX0_tryRows_28 : decode cX0_tryRows 28 = .ok (.aload_n 0, 1) := by decide +kernel
theorem dX0_tryRows_29 : decode cX0_tryRows 29 = .ok (.iload 4, 2) := by decide +kernel
theorem dX0_tryRows_31 : decode cX0_tryRows 31 = .ok (.putfield 58, 3) := by decide +kernel
theorem dX0_tryRows_34 : decode cX0_tryRows 34 = .ok (.return_, 1) := by decide +kernel
theorem dX0_tryRows_35 : decode cX0_tryRows 35 = .ok (.iload_n 1, 1) := by decide +kernel
theorem dX0_tryRows_36 : decode cX0_tryRows 36 = .ok (.ifCond .lt 14, 3) := by decide +kernel
theorem dX0_tryRows_39 : decode cX0_tryRows 39 = .ok (.iload_n 1, 1) := by decide +kernel
theorem dX0_tryRows_40 : decode cX0_tryRows 40 = .ok (.iconst 1, 1) := by decide +kernel
theorem dX0_tryRows_41 : decode cX0_tryRows 41 = .ok (.iadd, 1) := by decide +kernel
theorem dX0_tryRows_42 : decode cX0_tryRows 42 = .ok (.aload_n 0, 1) := by decide +kernel
theorem dX0_tryRows_43 : decode cX0_tryRows 43 = .ok (.getfield 11, 3) := by decide +kernel
theorem dX0_tryRows_46 : decode cX0_tryRows 46 = .ok (.arraylength, 1) := by decide +kernel
theorem dX0_tryRows_47 : decode cX0_tryRows 47 = .ok (.if_icmp .lt 4, 3) := by decide +kernel
theorem dX0_tryRows_50 : decode cX0_tryRows 50 = .ok (.return_, 1) := by decide +kernel
theorem dX0_tryRows_51 : decode cX0_tryRows 51 = .ok (.iconst 0, 1) := by decide +kernel
theorem dX0_tryRows_52 : decode cX0_tryRows 52 = .ok (.istore 6, 2) := by decide +kernel
theorem dX0_tryRows_54 : decode cX0_tryRows 54 = .ok (.iload 6, 2) := by decide +kernel
theorem dX0_tryRows_56 : decode cX0_tryRows 56 = .ok (.aload_n 0, 1) := by decide +kernel
theorem dX0_tryRows_57 : decode cX0_tryRows 57 = .ok (.getfield 28, 3) := by decide +kernel
theorem dX0_tryRows_60 : decode cX0_tryRows 60 = .ok (.getfield 76, 3) := by decide +kernel
theorem dX0_tryRows_63 : decode cX0_tryRows 63 = .ok (.if_icmp .ge 114, 3) := by decide +kernel
theorem dX0_tryRows_66 : decode cX0_tryRows 66 = .ok (.iload_n 3, 1) := by decide +kernel
theorem dX0_tryRows_67 : decode cX0_tryRows 67 = .ok (.iload 6, 2) := by decide +kernel
theorem dX0_tryRows_69 : decode cX0_tryRows 69 = .ok (.ishr, 1) := by decide +kernel
theorem dX0_tryRows_70 : decode cX0_tryRows 70 = .ok (.iconst 1, 1) := by decide +kernel
theorem dX0_tryRows_71 : decode cX0_tryRows 71 = .ok (.iand, 1) := by decide +kernel
theorem dX0_tryRows_72 : decode cX0_tryRows 72 = .ok (.iconst 1, 1) := by decide +kernel
theorem dX0_tryRows_73 : decode cX0_tryRows 73 = .ok (.if_icmp .ne 98, 3) := by decide +kernel
theorem dX0_tryRows_76 : decode cX0_tryRows 76 = .ok (.aload_n 0, 1) := by decide +kernel
theorem dX0_tryRows_77 : decode cX0_tryRows 77 = .ok (.getfield 32, 3) := by decide +kernel
theorem dX0_tryRows_80 : decode cX0_tryRows 80 = .ok (.aload_n 0, 1) := by decide +kernel
theorem dX0_tryRows_81 : decode cX0_tryRows 81 = .ok (.getfield 11, 3) := by decide +kernel
theorem dX0_tryRows_84 : decode cX0_tryRows 84 = .ok (.iload_n 1, 1) := by decide +kernel
theorem dX0_tryRows_85 : decode cX0_tryRows 85 = .ok (.aaload, 1) := by decide +kernel
theorem dX0_tryRows_86 : decode cX0_tryRows 86 = .ok (.iconst 0, 1) := by decide +kernel
theorem dX0_tryRows_87 : decode cX0_tryRows 87 = .ok (.iload_n 2, 1) := by decide +kernel
theorem dX0_tryRows_88 : decode cX0_tryRows 88 = .ok (.iload 6, 2) := by decide +kernel
theorem dX0_tryRows_90 : decode cX0_tryRows 90 = .ok (.invokevirtual 79, 3) := by decide +kernel
theorem dX0_tryRows_93 : decode cX0_tryRows 93 = .ok (.ifCond .eq 78, 3) := by decide +kernel
theorem dX0_tryRows_96 : decode cX0_tryRows 96 = .ok (.aload_n 0, 1) := by decide +kernel
theorem dX0_tryRows_97 : decode cX0_tryRows 97 = .ok (.getfield 11, 3) := by decide +kernel
theorem dX0_tryRows_100 : decode cX0_tryRows 100 = .ok (.iload_n 1, 1) := by decide +kernel
theorem dX0_tryRows_101 : decode cX0_tryRows 101 = .ok (.iconst 1, 1) := by decide +kernel
theorem dX0_tryRows_102 : decode cX0_tryRows 102 = .ok (.iadd, 1) := by decide +kernel
theorem dX0_tryRows_103 : decode cX0_tryRows 103 = .ok (.aaload, 1) := by decide +kernel
theorem dX0_tryRows_104 : decode cX0_tryRows 104 = .ok (.astore 7, 2) := by decide +kernel
theorem dX0_tryRows_106 : decode cX0_tryRows 106 = .ok (.aload 7, 2) := by decide +kernel
theorem dX0_tryRows_108 : decode cX0_tryRows 108 = .ok (.aload_n 0, 1) := by decide +kernel
theorem dX0_tryRows_109 : decode cX0_tryRows 109 = .ok (.getfield 11, 3) := by decide +kernel
theorem dX0_tryRows_112 : decode cX0_tryRows 112 = .ok (.iload_n 1, 1) := by decide +kernel
theorem dX0_tryRows_113 : decode cX0_tryRows 113 = .ok (.aaload, 1) := by decide +kernel
theorem dX0_tryRows_114 : decode cX0_tryRows 114 = .ok (.invokevirtual 61, 3) := by decide +kernel
theorem dX0_tryRows_117 : decode cX0_tryRows 117 = .ok (.aload_n 0, 1) := by decide +kernel
theorem dX0_tryRows_118 : decode cX0_tryRows 118 = .ok (.getfield 32, 3) := by decide +kernel
theorem dX0_tryRows_121 : decode cX0_tryRows 121 = .ok (.aload 7, 2) := by decide +kernel
theorem dX0_tryRows_123 : decode cX0_tryRows 123 = .ok (.iconst 0, 1) := by decide +kernel
theorem dX0_tryRows_124 : decode cX0_tryRows 124 = .ok (.iload_n 2, 1) := by decide +kernel
theorem dX0_tryRows_125 : decode cX0_tryRows 125 = .ok (.iload 6, 2) := by decide +kernel
theorem dX0_tryRows_127 : decode cX0_tryRows 127 = .ok (.invokevirtual 83, 3) := by decide +kernel
theorem dX0_tryRows_130 : decode cX0_tryRows 130 = .ok (.istore 8, 2) := by decide +kernel
theorem dX0_tryRows_132 : decode cX0_tryRows 132 = .ok (.aload_n 0, 1) := by decide +kernel
theorem dX0_tryRows_133 : decode cX0_tryRows 133 = .ok (.getfield 32, 3) := by decide +kernel
theorem dX0_tryRows_136 : decode cX0_tryRows 136 = .ok (.aload 7, 2) := by decide +kernel
theorem dX0_tryRows_138 : decode cX0_tryRows 138 = .ok (.invokevirtual 69, 3) := by decide +kernel
theorem dX0_tryRows_141 : decode cX0_tryRows 141 = .ok (.pop, 1) := by decide +kernel
theorem dX0_tryRows_142 : decode cX0_tryRows 142 = .ok (.aload_n 0, 1) := by decide +kernel
theorem dX0_tryRows_143 : decode cX0_tryRows 143 = .ok (.iload_n 1, 1) := by decide +kernel
theorem dX0_tryRows_144 : decode cX0_tryRows 144 = .ok (.iconst 1, 1) := by decide +kernel
theorem dX0_tryRows_145 : decode cX0_tryRows 145 = .ok (.iadd, 1) := by decide +kernel
theorem dX0_tryRows_146 : decode cX0_tryRows 146 = .ok (.iload_n 2, 1) := by decide +kernel
theorem dX0_tryRows_147 : decode cX0_tryRows 147 = .ok (.iload_n 3, 1) := by decide +kernel
theorem dX0_tryRows_148 : decode cX0_tryRows 148 = .ok (.iconst 1, 1) := by decide +kernel
theorem dX0_tryRows_149 : decode cX0_tryRows 149 = .ok (.iload 6, 2) := by decide +kernel
theorem dX0_tryRows_151 : decode cX0_tryRows 151 = .ok (.ishl, 1) := by decide +kernel
theorem dX0_tryRows_152 : decode cX0_tryRows 152 = .ok (.iconst (-1), 1) := by decide +kernel
theorem dX0_tryRows_153 : decode cX0_tryRows 153 = .ok (.ixor, 1) := by decide +kernel
theorem dX0_tryRows_154 : decode cX0_tryRows 154 = .ok (.iand, 1) := by decide +kernel
theorem dX0_tryRows_155 : decode cX0_tryRows 155 = .ok (.iload 4, 2) := by decide +kernel
theorem dX0_tryRows_157 : decode cX0_tryRows 157 = .ok (.bipush 12, 2) := by decide +kernel
theorem dX0_tryRows_159 : decode cX0_tryRows 159 = .ok (.imul, 1) := by decide +kernel
theorem dX0_tryRows_160 : decode cX0_tryRows 160 = .ok (.iload 6, 2) := by decide +kernel
theorem dX0_tryRows_162 : decode cX0_tryRows 162 = .ok (.iadd, 1) := by decide +kernel
theorem dX0_tryRows_163 : decode cX0_tryRows 163 = .ok (.iload 5, 2) := by decide +kernel
theorem dX0_tryRows_165 : decode cX0_tryRows 165 = .ok (.iload 8, 2) := by decide +kernel
theorem dX0_tryRows_167 : decode cX0_tryRows 167 = .ok (.iadd, 1) := by decide +kernel
theorem dX0_tryRows_168 : decode cX0_tryRows 168 = .ok (.invokevirtual 72, 3) := by decide +kernel
theorem dX0_tryRows_171 : decode cX0_tryRows 171 = .ok (.iinc 6 1, 3) := by decide +kernel
theorem dX0_tryRows_174 : decode cX0_tryRows 174 = .ok (.goto (-120), 3) := by decide +kernel
theorem dX0_tryRows_177 : decode cX0_tryRows 177 = .ok (.return_, 1) := by decide +kernel
theorem dX0_findShare_0 : decode cX0_findShare 0 = .ok (.aload_n 0, 1) := by decide +kernel
theorem dX0_findShare_1 : decode cX0_findShare 1 = .ok (.getfield 17, 3) := by decide +kernel
theorem dX0_findShare_4 : decode cX0_findShare 4 = .ok (.ldc 87, 2) := by decide +kernel
theorem dX0_findShare_6 : decode cX0_findShare 6 = .ok (.invokestatic 88, 3) := by decide +kernel
theorem dX0_findShare_9 : decode cX0_findShare 9 = .ok (.aload_n 0, 1) := by decide +kernel
theorem dX0_findShare_10 : decode cX0_findShare 10 = .ok (.getfield 17, 3) := by decide +kernel
theorem dX0_findShare_13 : decode cX0_findShare 13 = .ok (.iconst 0, 1) := by decide +kernel
theorem dX0_findShare_14 : decode cX0_findShare 14 = .ok (.iconst 0, 1) := by decide +kernel
theorem dX0_findShare_15 : decode cX0_findShare 15 = .ok (.iastore, 1) := by decide +kernel
theorem dX0_findShare_16 : decode cX0_findShare 16 = .ok (.aload_n 0, 1) := by decide +kernel
theorem dX0_findShare_17 : decode cX0_findShare 17 = .ok (.getfield 32, 3) := by decide +kernel
theorem dX0_findShare_20 : decode cX0_findShare 20 = .ok (.aload_n 1, 1) := by decide +kernel
theorem dX0_findShare_21 : decode cX0_findShare 21 = .ok (.invokevirtual 37, 3) := by decide +kernel
theorem dX0_findShare_24 : decode cX0_findShare 24 = .ok (.aload_n 0, 1) := by decide +kernel
theorem dX0_findShare_25 : decode cX0_findShare 25 = .ok (.getfield 28, 3) := by decide +kernel
theorem dX0_findShare_28 : decode cX0_findShare 28 = .ok (.iload_n 2, 1) := by decide +kernel
theorem dX0_findShare_29 : decode cX0_findShare 29 = .ok (.invokevirtual 43, 3) := by decide +kernel
theorem dX0_findShare_32 : decode cX0_findShare 32 = .ok (.iand, 1) := by decide +kernel
theorem dX0_findShare_33 : decode cX0_findShare 33 = .ok (.istore_n 3, 1) := by decide +kernel
theorem dX0_findShare_34 : decode cX0_findShare 34 = .ok (.iconst 0, 1) := by decide +kernel
theorem dX0_findShare_35 : decode cX0_findShare 35 = .ok (.istore 4, 2) := by decide +kernel
theorem dX0_findShare_37 : decode cX0_findShare 37 = .ok (.iload 4, 2) := by decide +kernel
theorem dX0_findShare_39 : decode cX0_findShare 39 = .ok (.aload_n 0, 1) := by decide +kernel
theorem dX0_findShare_40 : decode cX0_findShare 40 = .ok (.getfield 28, 3) := by decide +kernel
theorem dX0_findShare_43 : decode cX0_findShare 43 = .ok (.getfield 76, 3) := by decide +kernel
theorem dX0_findShare_46 : decode cX0_findShare 46 = .ok (.if_icmp .ge 33, 3) := by decide +kernel
theorem dX0_findShare_49 : decode cX0_findShare 49 = .ok (.iload_n 3, 1) := by decide +kernel
theorem dX0_findShare_50 : decode cX0_findShare 50 = .ok (.iload 4, 2) := by decide +kernel
theorem dX0_findShare_52 : decode cX0_findShare 52 = .ok (.ishr, 1) := by decide +kernel
theorem dX0_findShare_53 : decode cX0_findShare 53 = .ok (.iconst 1, 1) := by decide +kernel
theorem dX0_findShare_54 : decode cX0_findShare 54 = .ok (.iand, 1) := by decide +kernel
theorem dX0_findShare_55 : decode cX0_findShare 55 = .ok (.iconst 1, 1) := by decide +kernel
theorem dX0_findShare_56 : decode cX0_findShare 56 = .ok (.if_icmp .ne 17, 3) := by decide +kernel
theorem dX0_findShare_59 : decode cX0_findShare 59 = .ok (.aload_n 0, 1) := by decide +kernel
theorem dX0_findShare_60 : decode cX0_findShare 60 = .ok (.aload_n 1, 1) := by decide +kernel
theorem dX0_findShare_61 : decode cX0_findShare 61 = .ok (.aload_n 0, 1) := by decide +kernel
theorem dX0_findShare_62 : decode cX0_findShare 62 = .ok (.getfield 28, 3) := by decide +kernel
theorem dX0_findShare_65 : decode cX0_findShare 65 = .ok (.iload 4, 2) := by decide +kernel
theorem dX0_findShare_67 : decode cX0_findShare 67 = .ok (.invokevirtual 94, 3) := by decide +kernel
theorem dX0_findShare_70 : decode cX0_findShare 70 = .ok (.invokevirtual 97, 3) := by decide +kernel
theorem dX0_findShare_73 : decode cX0_findShare 73 = .ok (.iinc 4 1, 3) := by decide +kernel
theorem dX0_findShare_76 : decode cX0_findShare 76 = .ok (.goto (-39), 3) := by decide +kernel
theorem dX0_findShare_79 : decode cX0_findShare 79 = .ok (.iconst 0, 1) := by decide +kernel
theorem dX0_findShare_80 : decode cX0_findShare 80 = .ok (.istore 4, 2) := by decide +kernel
theorem dX0_findShare_82 : decode cX0_findShare 82 = .ok (.iconst 1, 1) := by decide +kernel
theorem dX0_findShare_83 : decode cX0_findShare 83 = .ok (.istore 5, 2) := by decide +kernel
theorem dX0_findShare_85 : decode cX0_findShare 85 = .ok (.iload 5, 2) := by decide +kernel
theorem dX0_findShare_87 : decode cX0_findShare 87 = .ok (.aload_n 0, 1) := by decide +kernel
theorem dX0_findShare_88 : decode cX0_findShare 88 = .ok (.getfield 17, 3) := by decide +kernel
theorem dX0_findShare_91 : decode cX0_findShare 91 = .ok (.arraylength, 1) := by decide +kernel
theorem dX0_findShare_92 : decode cX0_findShare 92 = .ok (.if_icmp .ge 65, 3) := by decide +kernel
theorem dX0_findShare_95 : decode cX0_findShare 95 = .ok (.iload 5, 2) := by decide +kernel
theorem dX0_findShare_97 : decode cX0_findShare 97 = .ok (.invokestatic 49, 3) := by decide +kernel
theorem dX0_findShare_100 : decode cX0_findShare 100 = .ok (.iload 4, 2) := by decide +kernel
theorem dX0_findShare_102 : decode cX0_findShare 102 = .ok (.invokestatic 49, 3) := by decide +kernel
theorem dX0_findShare_105 : decode cX0_findShare 105 = .ok (.isub, 1) := by decide +kernel
theorem dX0_findShare_106 : decode cX0_findShare 106 = .ok (.istore 6, 2) := by decide +kernel
theorem dX0_findShare_108 : decode cX0_findShare 108 = .ok (.aload_n 0, 1) := by decide +kernel
theorem dX0_findShare_109 : decode cX0_findShare 109 = .ok (.getfield 17, 3) := by decide +kernel
theorem dX0_findShare_112 : decode cX0_findShare 112 = .ok (.iload 5, 2) := by decide +kernel
theorem dX0_findShare_114 : decode cX0_findShare 114 = .ok (.iaload, 1) := by decide +kernel
theorem dX0_findShare_115 : decode cX0_findShare 115 = .ok (.ldc 87, 2) := by decide +kernel
theorem dX0_findShare_117 : decode cX0_findShare 117 = .ok (.if_icmp .ge 34, 3) := by decide +kernel
theorem dX0_findShare_120 : decode cX0_findShare 120 = .ok (.iload 6, 2) := by decide +kernel
theorem dX0_findShare_122 : decode cX0_findShare 122 = .ok (.ifCond .gt 25, 3) := by decide +kernel
theorem dX0_findShare_125 : decode cX0_findShare 125 = .ok (.iload 6, 2) := by decide +kernel
theorem dX0_findShare_127 : decode cX0_findShare 127 = .ok (.ifCond .ne 24, 3) := by decide +kernel
theorem dX0_findShare_130 : decode cX0_findShare 130 = .ok (.aload_n 0, 1) := by decide +kernel
theorem dX0_findShare_131 : decode cX0_findShare 131 = .ok (.getfield 17, 3) := by decide +kernel
theorem dX0_findShare_134 : decode cX0_findShare 134 = .ok (.iload 5, 2) := by decide +kernel
theorem dX0_findShare_136 : decode cX0_findShare 136 = .ok (.iaload, 1) := by decide +kernel
theorem dX0_findShare_137 : decode cX0_findShare 137 = .ok (.aload_n 0, 1) := by decide +kernel
theorem dX0_findShare_138 : decode cX0_findShare 138 = .ok (.getfield 17, 3) := by decide +kernel
theorem dX0_findShare_141 : decode cX0_findShare 141 = .ok (.iload 4, 2) := by decide +kernel
theorem dX0_findShare_143 : decode cX0_findShare 143 = .ok (.iaload, 1) := by decide +kernel
theorem dX0_findShare_144 : decode cX0_findShare 144 = .ok (.if_icmp .ge 7, 3) := by decide +kernel
theorem dX0_findShare_147 : decode cX0_findShare 147 = .ok (.iload 5, 2) := by decide +kernel
theorem dX0_findShare_149 : decode cX0_findShare 149 = .ok (.istore 4, 2) := by decide +kernel
theorem dX0_findShare_151 : decode cX0_findShare 151 = .ok (.iinc 5 1, 3) := by decide +kernel
theorem dX0_findShare_154 : decode cX0_findShare 154 = .ok (.goto (-69), 3) := by decide +kernel
theorem dX0_findShare_157 : decode cX0_findShare 157 = .ok (.iload 4, 2) := by decide +kernel
theorem dX0_findShare_159 : decode cX0_findShare 159 = .ok (.ireturn, 1) := by decide +kernel
theorem dX0_shareOut_0 : decode cX0_shareOut 0 = .ok (.iconst 0, 1) := by decide +kernel
theorem dX0_shareOut_1 : decode cX0_shareOut 1 = .ok (.istore_n 3, 1) := by decide +kernel
theorem dX0_shareOut_2 : decode cX0_shareOut 2 = .ok (.iload_n 3, 1) := by decide +kernel
theorem dX0_shareOut_3 : decode cX0_shareOut 3 = .ok (.aload_n 0, 1) := by decide +kernel
theorem dX0_shareOut_4 : decode cX0_shareOut 4 = .ok (.getfield 21, 3) := by decide +kernel
theorem dX0_shareOut_7 : decode cX0_shareOut 7 = .ok (.arraylength, 1) := by decide +kernel
theorem dX0_shareOut_8 : decode cX0_shareOut 8 = .ok (.if_icmp .ge 43, 3) := by decide +kernel
theorem dX0_shareOut_11 : decode cX0_shareOut 11 = .ok (.aload_n 0, 1) := by decide +kernel
theorem dX0_shareOut_12 : decode cX0_shareOut 12 = .ok (.getfield 21, 3) := by decide +kernel
theorem dX0_shareOut_15 : decode cX0_shareOut 15 = .ok (.iload_n 3, 1) := by decide +kernel
theorem dX0_shareOut_16 : decode cX0_shareOut 16 = .ok (.aload_n 0, 1) := by decide +kernel
theorem dX0_shareOut_17 : decode cX0_shareOut 17 = .ok (.getfield 32, 3) := by decide +kernel
theorem dX0_shareOut_20 : decode cX0_shareOut 20 = .ok (.aload_n 1, 1) := by decide +kernel
theorem dX0_shareOut_21 : decode cX0_shareOut 21 = .ok (.iload_n 3, 1) := by decide +kernel
theorem dX0_shareOut_22 : decode cX0_shareOut 22 = .ok (.iload_n 2, 1) := by decide +kernel
theorem dX0_shareOut_23 : decode cX0_shareOut 23 = .ok (.invokevirtual 101, 3) := by decide +kernel
theorem dX0_shareOut_26 : decode cX0_shareOut 26 = .ok (.ifCond .eq 16, 3) := by decide +kernel
theorem dX0_shareOut_29 : decode cX0_shareOut 29 = .ok (.aload_n 0, 1) := by decide +kernel
theorem dX0_shareOut_30 : decode cX0_shareOut 30 = .ok (.getfield 32, 3) := by decide +kernel
theorem dX0_shareOut_33 : decode cX0_shareOut 33 = .ok (.aload_n 1, 1) := by decide +kernel
theorem dX0_shareOut_34 : decode cX0_shareOut 34 = .ok (.iload_n 3, 1) := by decide +kernel
theorem dX0_shareOut_35 : decode cX0_shareOut 35 = .ok (.iload_n 2, 1) := by decide +kernel
theorem dX0_shareOut_36 : decode cX0_shareOut 36 = .ok (.invokevirtual 105, 3) := by decide +kernel
theorem dX0_shareOut_39 : decode cX0_shareOut 39 = .ok (.goto 5, 3) := by decide +kernel
theorem dX0_shareOut_42 : decode cX0_shareOut 42 = .ok (.ldc 87, 2) := by decide +kernel
theorem dX0_shareOut_44 : decode cX0_shareOut 44 = .ok (.iastore, 1) := by decide +kernel
theorem dX0_shareOut_45 : decode cX0_shareOut 45 = .ok (.iinc 3 1, 3) := by decide +kernel
theorem dX0_shareOut_48 : decode cX0_shareOut 48 = .ok (.goto (-46), 3) := by decide +kernel
theorem dX0_shareOut_51 : decode cX0_shareOut 51 = .ok (.aload_n 0, 1) := by decide +kernel
theorem dX0_shareOut_52 : decode cX0_shareOut 52 = .ok (.getfield 17, 3) := by decide +kernel
theorem dX0_shareOut_55 : decode cX0_shareOut 55 = .ok (.arraylength, 1) := by decide +kernel
theorem dX0_shareOut_56 : decode cX0_shareOut 56 = .ok (.iconst 1, 1) := by decide +kernel
theorem dX0_shareOut_57 : decode cX0_shareOut 57 = .ok (.isub, 1) := by decide +kernel
theorem dX0_shareOut_58 : decode cX0_shareOut 58 = .ok (.istore_n 3, 1) := by decide +kernel
theorem dX0_shareOut_59 : decode cX0_shareOut 59 = .ok (.iload_n 3, 1) := by decide +kernel
theorem dX0_shareOut_60 : decode cX0_shareOut 60 = .ok (.ifCond .le 74, 3) := by decide +kernel
theorem dX0_shareOut_63 : decode cX0_shareOut 63 = .ok (.iconst 0, 1) := by decide +kernel
theorem dX0_shareOut_64 : decode cX0_shareOut 64 = .ok (.istore 4, 2) := by decide +kernel
theorem dX0_shareOut_66 : decode cX0_shareOut 66 = .ok (.iload 4, 2) := by decide +kernel
theorem dX0_shareOut_68 : decode cX0_shareOut 68 = .ok (.aload_n 0, 1) := by decide +kernel
theorem dX0_shareOut_69 : decode cX0_shareOut 69 = .ok (.getfield 21, 3) := by decide +kernel
theorem dX0_shareOut_72 : decode cX0_shareOut 72 = .ok (.arraylength, 1) := by decide +kernel
theorem dX0_shareOut_73 : decode cX0_shareOut 73 = .ok (.if_icmp .ge 55, 3) := by decide +kernel
theorem dX0_shareOut_76 : decode cX0_shareOut 76 = .ok (.iload_n 3, 1) := by decide +kernel
theorem dX0_shareOut_77 : decode cX0_shareOut 77 = .ok (.iconst 1, 1) := by decide +kernel
theorem dX0_shareOut_78 : decode cX0_shareOut 78 = .ok (.iload 4, 2) := by decide +kernel
theorem dX0_shareOut_80 : decode cX0_shareOut 80 = .ok (.ishl, 1) := by decide +kernel
theorem dX0_shareOut_81 : decode cX0_shareOut 81 = .ok (.iconst (-1), 1) := by decide +kernel
theorem dX0_shareOut_82 : decode cX0_shareOut 82 = .ok (.ixor, 1) := by decide +kernel
theorem dX0_shareOut_83 : decode cX0_shareOut 83 = .ok (.iand, 1) := by decide +kernel
theorem dX0_shareOut_84 : decode cX0_shareOut 84 = .ok (.istore 5, 2) := by decide +kernel
theorem dX0_shareOut_86 : decode cX0_shareOut 86 = .ok (.iload 5, 2) := by decide +kernel
theorem dX0_shareOut_88 : decode cX0_shareOut 88 = .ok (.iload_n 3, 1) := by decide +kernel
theorem dX0_shareOut_89 : decode cX0_shareOut 89 = .ok (.if_icmp .eq 33, 3) := by decide +kernel
theorem dX0_shareOut_92 : decode cX0_shareOut 92 = .ok (.aload_n 0, 1) := by decide +kernel
theorem dX0_shareOut_93 : decode cX0_shareOut 93 = .ok (.getfield 17, 3) := by decide +kernel
theorem dX0_shareOut_96 : decode cX0_shareOut 96 = .ok (.iload_n 3, 1) := by decide +kernel
theorem dX0_shareOut_97 : decode cX0_shareOut 97 = .ok (.aload_n 0, 1) := by decide +kernel
theorem dX0_shareOut_98 : decode cX0_shareOut 98 = .ok (.getfield 17, 3) := by decide +kernel
theorem dX0_shareOut_101 : decode cX0_shareOut 101 = .ok (.iload_n 3, 1) := by decide +kernel
theorem dX0_shareOut_102 : decode cX0_shareOut 102 = .ok (.iaload, 1) := by decide +kernel
theorem dX0_shareOut_103 : decode cX0_shareOut 103 = .ok (.aload_n 0, 1) := by decide +kernel
theorem dX0_shareOut_104 : decode cX0_shareOut 104 = .ok (.getfield 17, 3) := by decide +kernel
theorem dX0_shareOut_107 : decode cX0_shareOut 107 = .ok (.iload 5, 2) := by decide +kernel
theorem dX0_shareOut_109 : decode cX0_shareOut 109 = .ok (.iaload, 1) := by decide +kernel
theorem dX0_shareOut_110 : decode cX0_shareOut 110 = .ok (.aload_n 0, 1) := by decide +kernel
theorem dX0_shareOut_111 : decode cX0_shareOut 111 = .ok (.getfield 21, 3) := by decide +kernel
theorem dX0_shareOut_114 : decode cX0_shareOut 114 = .ok (.iload 4, 2) := by decide +kernel
theorem dX0_shareOut_116 : decode cX0_shareOut 116 = .ok (.iaload, 1) := by decide +kernel
theorem dX0_shareOut_117 : decode cX0_shareOut 117 = .ok (.iadd, 1) := by decide +kernel
theorem dX0_shareOut_118 : decode cX0_shareOut 118 = .ok (.invokestatic 109, 3) := by decide +kernel
theorem dX0_shareOut_121 : decode cX0_shareOut 121 = .ok (.iastore, 1) := by decide +kernel
theorem dX0_shareOut_122 : decode cX0_shareOut 122 = .ok (.iinc 4 1, 3) := by decide +kernel
theorem dX0_shareOut_125 : decode cX0_shareOut 125 = .ok (.goto (-59), 3) := by decide +kernel
theorem dX0_shareOut_128 : decode cX0_shareOut 128 = .ok (.iinc 3 (-1), 3) := by decide +kernel
theorem dX0_shareOut_131 : decode cX0_shareOut 131 = .ok (.goto (-72), 3) := by decide +kernel
theorem dX0_shareOut_134 : decode cX0_shareOut 134 = .ok (.return_, 1) := by decide +kernel
theorem dX0_shareLoss_0 : decode cX0_shareLoss 0 = .ok (.iload_n 1, 1) := by decide +kernel
theorem dX0_shareLoss_1 : decode cX0_shareLoss 1 = .ok (.ifCond .lt 21, 3) := by decide +kernel
theorem dX0_shareLoss_4 : decode cX0_shareLoss 4 = .ok (.iload_n 1, 1) := by decide +kernel
theorem dX0_shareLoss_5 : decode cX0_shareLoss 5 = .ok (.aload_n 0, 1) := by decide +kernel
theorem dX0_shareLoss_6 : decode cX0_shareLoss 6 = .ok (.getfield 17, 3) := by decide +kernel
theorem dX0_shareLoss_9 : decode cX0_shareLoss 9 = .ok (.arraylength, 1) := by decide +kernel
theorem dX0_shareLoss_10 : decode cX0_shareLoss 10 = .ok (.if_icmp .ge 12, 3) := by decide +kernel
theorem dX0_shareLoss_13 : decode cX0_shareLoss 13 = .ok (.aload_n 0, 1) := by decide +kernel
theorem dX0_shareLoss_14 : decode cX0_shareLoss 14 = .ok (.getfield 17, 3) := by decide +kernel
theorem dX0_shareLoss_17 : decode cX0_shareLoss 17 = .ok (.iload_n 1, 1) := by decide +kernel
theorem dX0_shareLoss_18 : decode cX0_shareLoss 18 = .ok (.iaload, 1) := by decide +kernel
theorem dX0_shareLoss_19 : decode cX0_shareLoss 19 = .ok (.goto 4, 3) := by decide +kernel
theorem dX0_shareLoss_22 : decode cX0_shareLoss 22 = .ok (.iconst (-1), 1) := by decide +kernel
theorem dX0_shareLoss_23 : decode cX0_shareLoss 23 = .ok (.ireturn, 1) := by decide +kernel
theorem dX0_fewestWhoKnow_0 : decode cX0_fewestWhoKnow 0 = .ok (.aload_n 0, 1) := by decide +kernel
theorem dX0_fewestWhoKnow_1 : decode cX0_fewestWhoKnow 1 = .ok (.getfield 28, 3) := by decide +kernel
theorem dX0_fewestWhoKnow_4 : decode cX0_fewestWhoKnow 4 = .ok (.iload_n 2, 1) := by decide +kernel
theorem dX0_fewestWhoKnow_5 : decode cX0_fewestWhoKnow 5 = .ok (.invokevirtual 43, 3) := by decide +kernel
theorem dX0_fewestWhoKnow_8 : decode cX0_fewestWhoKnow 8 = .ok (.istore_n 3, 1) := by decide +kernel
theorem dX0_fewestWhoKnow_9 : decode cX0_fewestWhoKnow 9 = .ok (.iconst (-1), 1) := by decide +kernel
theorem dX0_fewestWhoKnow_10 : decode cX0_fewestWhoKnow 10 = .ok (.istore 4, 2) := by decide +kernel
theorem dX0_fewestWhoKnow_12 : decode cX0_fewestWhoKnow 12 = .ok (.iconst 0, 1) := by decide +kernel
theorem dX0_fewestWhoKnow_13 : decode cX0_fewestWhoKnow 13 = .ok (.istore 5, 2) := by decide +kernel
theorem dX0_fewestWhoKnow_15 : decode cX0_fewestWhoKnow 15 = .ok (.iload 5, 2) := by decide +kernel
theorem dX0_fewestWhoKnow_17 : decode cX0_fewestWhoKnow 17 = .ok (.iconst 1, 1) := by decide +kernel
theorem dX0_fewestWhoKnow_18 : decode cX0_fewestWhoKnow 18 = .ok (.aload_n 0, 1) := by decide +kernel
theorem dX0_fewestWhoKnow_19 : decode cX0_fewestWhoKnow 19 = .ok (.getfield 28, 3) := by decide +kernel
theorem dX0_fewestWhoKnow_22 : decode cX0_fewestWhoKnow 22 = .ok (.getfield 115, 3) := by decide +kernel
theorem dX0_fewestWhoKnow_25 : decode cX0_fewestWhoKnow 25 = .ok (.ishl, 1) := by decide +kernel
theorem dX0_fewestWhoKnow_26 : decode cX0_fewestWhoKnow 26 = .ok (.if_icmp .ge 58, 3) := by decide +kernel
theorem dX0_fewestWhoKnow_29 : decode cX0_fewestWhoKnow 29 = .ok (.iload 4, 2) := by decide +kernel
theorem dX0_fewestWhoKnow_31 : decode cX0_fewestWhoKnow 31 = .ok (.iconst (-1), 1) := by decide +kernel
theorem dX0_fewestWhoKnow_32 : decode cX0_fewestWhoKnow 32 = .ok (.if_icmp .eq 16, 3) := by decide +kernel
theorem dX0_fewestWhoKnow_35 : decode cX0_fewestWhoKnow 35 = .ok (.iload 5, 2) := by decide +kernel
theorem dX0_fewestWhoKnow_37 : decode cX0_fewestWhoKnow 37 = .ok (.invokestatic 49, 3) := by decide +kernel
theorem dX0_fewestWhoKnow_40 : decode cX0_fewestWhoKnow 40 = .ok (.iload 4, 2) := by decide +kernel
theorem dX0_fewestWhoKnow_42 : decode cX0_fewestWhoKnow 42 = .ok (.invokestatic 49, 3) := by decide +kernel
theorem dX0_fewestWhoKnow_45 : decode cX0_fewestWhoKnow 45 = .ok (.if_icmp .ge 7, 3) := by decide +kernel
theorem dX0_fewestWhoKnow_48 : decode cX0_fewestWhoKnow 48 = .ok (.iconst 1, 1) := by decide +kernel
theorem dX0_fewestWhoKnow_49 : decode cX0_fewestWhoKnow 49 = .ok (.goto 4, 3) := by decide +kernel
theorem dX0_fewestWhoKnow_52 : decode cX0_fewestWhoKnow 52 = .ok (.iconst 0, 1) := by decide +kernel
theorem dX0_fewestWhoKnow_53 : decode cX0_fewestWhoKnow 53 = .ok (.istore 6, 2) := by decide +kernel
theorem dX0_fewestWhoKnow_55 : decode cX0_fewestWhoKnow 55 = .ok (.iload 6, 2) := by decide +kernel
theorem dX0_fewestWhoKnow_57 : decode cX0_fewestWhoKnow 57 = .ok (.ifCond .eq 21, 3) := by decide +kernel
theorem dX0_fewestWhoKnow_60 : decode cX0_fewestWhoKnow 60 = .ok (.iload_n 3, 1) := by decide +kernel
theorem dX0_fewestWhoKnow_61 : decode cX0_fewestWhoKnow 61 = .ok (.aload_n 0, 1) := by decide +kernel
theorem dX0_fewestWhoKnow_62 : decode cX0_fewestWhoKnow 62 = .ok (.aload_n 1, 1) := by decide +kernel
theorem dX0_fewestWhoKnow_63 : decode cX0_fewestWhoKnow 63 = .ok (.iload 5, 2) := by decide +kernel
theorem dX0_fewestWhoKnow_65 : decode cX0_fewestWhoKnow 65 = .ok (.invokevirtual 118, 3) := by decide +kernel
theorem dX0_fewestWhoKnow_68 : decode cX0_fewestWhoKnow 68 = .ok (.iconst (-1), 1) := by decide +kernel
theorem dX0_fewestWhoKnow_69 : decode cX0_fewestWhoKnow 69 = .ok (.ixor, 1) := by decide +kernel
theorem dX0_fewestWhoKnow_70 : decode cX0_fewestWhoKnow 70 = .ok (.iand, 1) := by decide +kernel
theorem dX0_fewestWhoKnow_71 : decode cX0_fewestWhoKnow 71 = .ok (.ifCond .ne 7, 3) := by decide +kernel
theorem dX0_fewestWhoKnow_74 : decode cX0_fewestWhoKnow 74 = .ok (.iload 5, 2) := by decide +kernel
theorem dX0_fewestWhoKnow_76 : decode cX0_fewestWhoKnow 76 = .ok (.istore 4, 2) := by decide +kernel
theorem dX0_fewestWhoKnow_78 : decode cX0_fewestWhoKnow 78 = .ok (.iinc 5 1, 3) := by decide +kernel
theorem dX0_fewestWhoKnow_81 : decode cX0_fewestWhoKnow 81 = .ok (.goto (-66), 3) := by decide +kernel
theorem dX0_fewestWhoKnow_84 : decode cX0_fewestWhoKnow 84 = .ok (.iload 4, 2) := by decide +kernel
theorem dX0_fewestWhoKnow_86 : decode cX0_fewestWhoKnow 86 = .ok (.ireturn, 1) := by decide +kernel
theorem dX0_knownBySet_0 : decode cX0_knownBySet 0 = .ok (.iconst 0, 1) := by decide +kernel
theorem dX0_knownBySet_1 : decode cX0_knownBySet 1 = .ok (.istore_n 3, 1) := by decide +kernel
theorem dX0_knownBySet_2 : decode cX0_knownBySet 2 = .ok (.iconst 0, 1) := by decide +kernel
theorem dX0_knownBySet_3 : decode cX0_knownBySet 3 = .ok (.istore 4, 2) := by decide +kernel
theorem dX0_knownBySet_5 : decode cX0_knownBySet 5 = .ok (.iload 4, 2) := by decide +kernel
theorem dX0_knownBySet_7 : decode cX0_knownBySet 7 = .ok (.aload_n 0, 1) := by decide +kernel
theorem dX0_knownBySet_8 : decode cX0_knownBySet 8 = .ok (.getfield 28, 3) := by decide +kernel
theorem dX0_knownBySet_11 : decode cX0_knownBySet 11 = .ok (.getfield 115, 3) := by decide +kernel
theorem dX0_knownBySet_14 : decode cX0_knownBySet 14 = .ok (.if_icmp .ge 28, 3) := by decide +kernel
theorem dX0_knownBySet_17 : decode cX0_knownBySet 17 = .ok (.iload_n 2, 1) := by decide +kernel
theorem dX0_knownBySet_18 : decode cX0_knownBySet 18 = .ok (.iload 4, 2) := by decide +kernel
theorem dX0_knownBySet_20 : decode cX0_knownBySet 20 = .ok (.ishr, 1) := by decide +kernel
theorem dX0_knownBySet_21 : decode cX0_knownBySet 21 = .ok (.iconst 1, 1) := by decide +kernel
theorem dX0_knownBySet_22 : decode cX0_knownBySet 22 = .ok (.iand, 1) := by decide +kernel
theorem dX0_knownBySet_23 : decode cX0_knownBySet 23 = .ok (.iconst 1, 1) := by decide +kernel
theorem dX0_knownBySet_24 : decode cX0_knownBySet 24 = .ok (.if_icmp .ne 12, 3) := by decide +kernel
theorem dX0_knownBySet_27 : decode cX0_knownBySet 27 = .ok (.iload_n 3, 1) := by decide +kernel
theorem dX0_knownBySet_28 : decode cX0_knownBySet 28 = .ok (.aload_n 1, 1) := by decide +kernel
theorem dX0_knownBySet_29 : decode cX0_knownBySet 29 = .ok (.iload 4, 2) := by decide +kernel
theorem dX0_knownBySet_31 : decode cX0_knownBySet 31 = .ok (.invokevirtual 122, 3) := by decide +kernel
theorem dX0_knownBySet_34 : decode cX0_knownBySet 34 = .ok (.ior, 1) := by decide +kernel
theorem dX0_knownBySet_35 : decode cX0_knownBySet 35 = .ok (.istore_n 3, 1) := by decide +kernel
theorem dX0_knownBySet_36 : decode cX0_knownBySet 36 = .ok (.iinc 4 1, 3) := by decide +kernel
theorem dX0_knownBySet_39 : decode cX0_knownBySet 39 = .ok (.goto (-34), 3) := by decide +kernel
theorem dX0_knownBySet_42 : decode cX0_knownBySet 42 = .ok (.iload_n 3, 1) := by decide +kernel
theorem dX0_knownBySet_43 : decode cX0_knownBySet 43 = .ok (.ireturn, 1) := by decide +kernel
theorem dX0_stepsToOthers_0 : decode cX0_stepsToOthers 0 = .ok (.iconst (-1), 1) := by decide +kernel
theorem dX0_stepsToOthers_1 : decode cX0_stepsToOthers 1 = .ok (.istore 4, 2) := by decide +kernel
theorem dX0_stepsToOthers_3 : decode cX0_stepsToOthers 3 = .ok (.iconst 0, 1) := by decide +kernel
theorem dX0_stepsToOthers_4 : decode cX0_stepsToOthers 4 = .ok (.istore 5, 2) := by decide +kernel
theorem dX0_stepsToOthers_6 : decode cX0_stepsToOthers 6 = .ok (.iload 5, 2) := by decide +kernel
theorem dX0_stepsToOthers_8 : decode cX0_stepsToOthers 8 = .ok (.aload_n 0, 1) := by decide +kernel
theorem dX0_stepsToOthers_9 : decode cX0_stepsToOthers 9 = .ok (.getfield 28, 3) := by decide +kernel
theorem dX0_stepsToOthers_12 : decode cX0_stepsToOthers 12 = .ok (.getfield 76, 3) := by decide +kernel
theorem dX0_stepsToOthers_15 : decode cX0_stepsToOthers 15 = .ok (.if_icmp .ge 64, 3) := by decide +kernel
theorem dX0_stepsToOthers_18 : decode cX0_stepsToOthers 18 = .ok (.iload 5, 2) := by decide +kernel
theorem dX0_stepsToOthers_20 : decode cX0_stepsToOthers 20 = .ok (.iload_n 2, 1) := by decide +kernel
theorem dX0_stepsToOthers_21 : decode cX0_stepsToOthers 21 = .ok (.if_icmp .eq 52, 3) := by decide +kernel
theorem dX0_stepsToOthers_24 : decode cX0_stepsToOthers 24 = .ok (.aload_n 1, 1) := by decide +kernel
theorem dX0_stepsToOthers_25 : decode cX0_stepsToOthers 25 = .ok (.getfield 125, 3) := by decide +kernel
theorem dX0_stepsToOthers_28 : decode cX0_stepsToOthers 28 = .ok (.iload 5, 2) := by decide +kernel
theorem dX0_stepsToOthers_30 : decode cX0_stepsToOthers 30 = .ok (.iaload, 1) := by decide +kernel
theorem dX0_stepsToOthers_31 : decode cX0_stepsToOthers 31 = .ok (.ifCond .le 42, 3) := by decide +kernel
theorem dX0_stepsToOthers_34 : decode cX0_stepsToOthers 34 = .ok (.aload_n 0, 1) := by decide +kernel
theorem dX0_stepsToOthers_35 : decode cX0_stepsToOthers 35 = .ok (.getfield 28, 3) := by decide +kernel
theorem dX0_stepsToOthers_38 : decode cX0_stepsToOthers 38 = .ok (.iload_n 3, 1) := by decide +kernel
theorem dX0_stepsToOthers_39 : decode cX0_stepsToOthers 39 = .ok (.aload_n 0, 1) := by decide +kernel
theorem dX0_stepsToOthers_40 : decode cX0_stepsToOthers 40 = .ok (.getfield 28, 3) := by decide +kernel
theorem dX0_stepsToOthers_43 : decode cX0_stepsToOthers 43 = .ok (.iload 5, 2) := by decide +kernel
theorem dX0_stepsToOthers_45 : decode cX0_stepsToOthers 45 = .ok (.invokevirtual 94, 3) := by decide +kernel
theorem dX0_stepsToOthers_48 : decode cX0_stepsToOthers 48 = .ok (.invokevirtual 128, 3) := by decide +kernel
theorem dX0_stepsToOthers_51 : decode cX0_stepsToOthers 51 = .ok (.istore 6, 2) := by decide +kernel
theorem dX0_stepsToOthers_53 : decode cX0_stepsToOthers 53 = .ok (.iload 4, 2) := by decide +kernel
theorem dX0_stepsToOthers_55 : decode cX0_stepsToOthers 55 = .ok (.iconst (-1), 1) := by decide +kernel
theorem dX0_stepsToOthers_56 : decode cX0_stepsToOthers 56 = .ok (.if_icmp .ne 8, 3) := by decide +kernel
theorem dX0_stepsToOthers_59 : decode cX0_stepsToOthers 59 = .ok (.iload 6, 2) := by decide +kernel
theorem dX0_stepsToOthers_61 : decode cX0_stepsToOthers 61 = .ok (.goto 10, 3) := by decide +kernel
theorem dX0_stepsToOthers_64 : decode cX0_stepsToOthers 64 = .ok (.iload 4, 2) := by decide +kernel
theorem dX0_stepsToOthers_66 : decode cX0_stepsToOthers 66 = .ok (.iload 6, 2) := by decide +kernel
theorem dX0_stepsToOthers_68 : decode cX0_stepsToOthers 68 = .ok (.invokestatic 109, 3) := by decide +kernel
theorem dX0_stepsToOthers_71 : decode cX0_stepsToOthers 71 = .ok (.istore 4, 2) := by decide +kernel
theorem dX0_stepsToOthers_73 : decode cX0_stepsToOthers 73 = .ok (.iinc 5 1, 3) := by decide +kernel
theorem dX0_stepsToOthers_76 : decode cX0_stepsToOthers 76 = .ok (.goto (-70), 3) := by decide +kernel
theorem dX0_stepsToOthers_79 : decode cX0_stepsToOthers 79 = .ok (.iload 4, 2) := by decide +kernel
theorem dX0_stepsToOthers_81 : decode cX0_stepsToOthers 81 = .ok (.ireturn, 1) := by decide +kernel
theorem dX0_knowers_0 : decode cX0_knowers 0 = .ok (.iconst 0, 1) := by decide +kernel
theorem dX0_knowers_1 : decode cX0_knowers 1 = .ok (.istore_n 3, 1) := by decide +kernel
theorem dX0_knowers_2 : decode cX0_knowers 2 = .ok (.iconst 0, 1) := by decide +kernel
theorem dX0_knowers_3 : decode cX0_knowers 3 = .ok (.istore 4, 2) := by decide +kernel
theorem dX0_knowers_5 : decode cX0_knowers 5 = .ok (.iload 4, 2) := by decide +kernel
theorem dX0_knowers_7 : decode cX0_knowers 7 = .ok (.aload_n 0, 1) := by decide +kernel
theorem dX0_knowers_8 : decode cX0_knowers 8 = .ok (.getfield 28, 3) := by decide +kernel
theorem dX0_knowers_11 : decode cX0_knowers 11 = .ok (.getfield 115, 3) := by decide +kernel
theorem dX0_knowers_14 : decode cX0_knowers 14 = .ok (.if_icmp .ge 23, 3) := by decide +kernel
theorem dX0_knowers_17 : decode cX0_knowers 17 = .ok (.aload_n 1, 1) := by decide +kernel
theorem dX0_knowers_18 : decode cX0_knowers 18 = .ok (.iload 4, 2) := by decide +kernel
theorem dX0_knowers_20 : decode cX0_knowers 20 = .ok (.iload_n 2, 1) := by decide +kernel
theorem dX0_knowers_21 : decode cX0_knowers 21 = .ok (.invokevirtual 131, 3) := by decide +kernel
theorem dX0_knowers_24 : decode cX0_knowers 24 = .ok (.iconst (-1), 1) := by decide +kernel
theorem dX0_knowers_25 : decode cX0_knowers 25 = .ok (.if_icmp .eq 6, 3) := by decide +kernel
theorem dX0_knowers_28 : decode cX0_knowers 28 = .ok (.iinc 3 1, 3) := by decide +kernel
theorem dX0_knowers_31 : decode cX0_knowers 31 = .ok (.iinc 4 1, 3) := by decide +kernel
theorem dX0_knowers_34 : decode cX0_knowers 34 = .ok (.goto (-29), 3) := by decide +kernel
theorem dX0_knowers_37 : decode cX0_knowers 37 = .ok (.iload_n 3, 1) := by decide +kernel
theorem dX0_knowers_38 : decode cX0_knowers 38 = .ok (.ireturn, 1) := by decide +kernel
theorem dX0_isSplit_0 : decode cX0_isSplit 0 = .ok (.iconst (-1), 1) := by decide +kernel
theorem dX0_isSplit_1 : decode cX0_isSplit 1 = .ok (.istore_n 3, 1) := by decide +kernel
theorem dX0_isSplit_2 : decode cX0_isSplit 2 = .ok (.iconst 0, 1) := by decide +kernel
theorem dX0_isSplit_3 : decode cX0_isSplit 3 = .ok (.istore 4, 2) := by decide +kernel
theorem dX0_isSplit_5 : decode cX0_isSplit 5 = .ok (.iload 4, 2) := by decide +kernel
theorem dX0_isSplit_7 : decode cX0_isSplit 7 = .ok (.aload_n 0, 1) := by decide +kernel
theorem dX0_isSplit_8 : decode cX0_isSplit 8 = .ok (.getfield 28, 3) := by decide +kernel
theorem dX0_isSplit_11 : decode cX0_isSplit 11 = .ok (.getfield 115, 3) := by decide +kernel
theorem dX0_isSplit_14 : decode cX0_isSplit 14 = .ok (.if_icmp .ge 50, 3) := by decide +kernel
theorem dX0_isSplit_17 : decode cX0_isSplit 17 = .ok (.aload_n 1, 1) := by decide +kernel
theorem dX0_isSplit_18 : decode cX0_isSplit 18 = .ok (.iload 4, 2) := by decide +kernel
theorem dX0_isSplit_20 : decode cX0_isSplit 20 = .ok (.iload_n 2, 1) := by decide +kernel
theorem dX0_isSplit_21 : decode cX0_isSplit 21 = .ok (.invokevirtual 131, 3) := by decide +kernel
theorem dX0_isSplit_24 : decode cX0_isSplit 24 = .ok (.istore 5, 2) := by decide +kernel
theorem dX0_isSplit_26 : decode cX0_isSplit 26 = .ok (.iload 5, 2) := by decide +kernel
theorem dX0_isSplit_28 : decode cX0_isSplit 28 = .ok (.iconst (-1), 1) := by decide +kernel
theorem dX0_isSplit_29 : decode cX0_isSplit 29 = .ok (.if_icmp .eq 16, 3) := by decide +kernel
theorem dX0_isSplit_32 : decode cX0_isSplit 32 = .ok (.iload_n 3, 1) := by decide +kernel
theorem dX0_isSplit_33 : decode cX0_isSplit 33 = .ok (.iconst (-1), 1) := by decide +kernel
theorem dX0_isSplit_34 : decode cX0_isSplit 34 = .ok (.if_icmp .eq 11, 3) := by decide +kernel
theorem dX0_isSplit_37 : decode cX0_isSplit 37 = .ok (.iload 5, 2) := by decide +kernel
theorem dX0_isSplit_39 : decode cX0_isSplit 39 = .ok (.iload_n 3, 1) := by decide +kernel
theorem dX0_isSplit_40 : decode cX0_isSplit 40 = .ok (.if_icmp .eq 5, 3) := by decide +kernel
theorem dX0_isSplit_43 : decode cX0_isSplit 43 = .ok (.iconst 1, 1) := by decide +kernel
theorem dX0_isSplit_44 : decode cX0_isSplit 44 = .ok (.ireturn, 1) := by decide +kernel
theorem dX0_isSplit_45 : decode cX0_isSplit 45 = .ok (.iload 5, 2) := by decide +kernel
theorem dX0_isSplit_47 : decode cX0_isSplit 47 = .ok (.iconst (-1), 1) := by decide +kernel
theorem dX0_isSplit_48 : decode cX0_isSplit 48 = .ok (.if_icmp .ne 7, 3) := by decide +kernel
theorem dX0_isSplit_51 : decode cX0_isSplit 51 = .ok (.iload_n 3, 1) := by decide +kernel
theorem dX0_isSplit_52 : decode cX0_isSplit 52 = .ok (.goto 5, 3) := by decide +kernel
theorem dX0_isSplit_55 : decode cX0_isSplit 55 = .ok (.iload 5, 2) := by decide +kernel
theorem dX0_isSplit_57 : decode cX0_isSplit 57 = .ok (.istore_n 3, 1) := by decide +kernel
theorem dX0_isSplit_58 : decode cX0_isSplit 58 = .ok (.iinc 4 1, 3) := by decide +kernel
theorem dX0_isSplit_61 : decode cX0_isSplit 61 = .ok (.goto (-56), 3) := by decide +kernel
theorem dX0_isSplit_64 : decode cX0_isSplit 64 = .ok (.iconst 0, 1) := by decide +kernel
theorem dX0_isSplit_65 : decode cX0_isSplit 65 = .ok (.ireturn, 1) := by decide +kernel
theorem dX0_apartFrom_0 : decode cX0_apartFrom 0 = .ok (.aload_n 0, 1) := by decide +kernel
theorem dX0_apartFrom_1 : decode cX0_apartFrom 1 = .ok (.getfield 28, 3) := by decide +kernel
theorem dX0_apartFrom_4 : decode cX0_apartFrom 4 = .ok (.iload_n 2, 1) := by decide +kernel
theorem dX0_apartFrom_5 : decode cX0_apartFrom 5 = .ok (.invokevirtual 134, 3) := by decide +kernel
theorem dX0_apartFrom_8 : decode cX0_apartFrom 8 = .ok (.ifCond .ne 5, 3) := by decide +kernel
theorem dX0_apartFrom_11 : decode cX0_apartFrom 11 = .ok (.iconst 0, 1) := by decide +kernel
theorem dX0_apartFrom_12 : decode cX0_apartFrom 12 = .ok (.ireturn, 1) := by decide +kernel
theorem dX0_apartFrom_13 : decode cX0_apartFrom 13 = .ok (.aload_n 1, 1) := by decide +kernel
theorem dX0_apartFrom_14 : decode cX0_apartFrom 14 = .ok (.getfield 125, 3) := by decide +kernel
theorem dX0_apartFrom_17 : decode cX0_apartFrom 17 = .ok (.iload_n 2, 1) := by decide +kernel
theorem dX0_apartFrom_18 : decode cX0_apartFrom 18 = .ok (.iaload, 1) := by decide +kernel
theorem dX0_apartFrom_19 : decode cX0_apartFrom 19 = .ok (.ifCond .le 16, 3) := by decide +kernel
theorem dX0_apartFrom_22 : decode cX0_apartFrom 22 = .ok (.aload_n 1, 1) := by decide +kernel
theorem dX0_apartFrom_23 : decode cX0_apartFrom 23 = .ok (.getfield 137, 3) := by decide +kernel
theorem dX0_apartFrom_26 : decode cX0_apartFrom 26 = .ok (.iload_n 2, 1) := by decide +kernel
theorem dX0_apartFrom_27 : decode cX0_apartFrom 27 = .ok (.iaload, 1) := by decide +kernel
theorem dX0_apartFrom_28 : decode cX0_apartFrom 28 = .ok (.iload_n 3, 1) := by decide +kernel
theorem dX0_apartFrom_29 : decode cX0_apartFrom 29 = .ok (.invokestatic 140, 3) := by decide +kernel
theorem dX0_apartFrom_32 : decode cX0_apartFrom 32 = .ok (.goto 4, 3) := by decide +kernel
theorem dX0_apartFrom_35 : decode cX0_apartFrom 35 = .ok (.iconst 0, 1) := by decide +kernel
theorem dX0_apartFrom_36 : decode cX0_apartFrom 36 = .ok (.istore 4, 2) := by decide +kernel
theorem dX0_apartFrom_38 : decode cX0_apartFrom 38 = .ok (.iconst 0, 1) := by decide +kernel
theorem dX0_apartFrom_39 : decode cX0_apartFrom 39 = .ok (.istore 5, 2) := by decide +kernel
theorem dX0_apartFrom_41 : decode cX0_apartFrom 41 = .ok (.iload 5, 2) := by decide +kernel
theorem dX0_apartFrom_43 : decode cX0_apartFrom 43 = .ok (.aload_n 0, 1) := by decide +kernel
theorem dX0_apartFrom_44 : decode cX0_apartFrom 44 = .ok (.getfield 28, 3) := by decide +kernel
theorem dX0_apartFrom_47 : decode cX0_apartFrom 47 = .ok (.getfield 115, 3) := by decide +kernel
theorem dX0_apartFrom_50 : decode cX0_apartFrom 50 = .ok (.if_icmp .ge 39, 3) := by decide +kernel
theorem dX0_apartFrom_53 : decode cX0_apartFrom 53 = .ok (.aload_n 1, 1) := by decide +kernel
theorem dX0_apartFrom_54 : decode cX0_apartFrom 54 = .ok (.iload 5, 2) := by decide +kernel
theorem dX0_apartFrom_56 : decode cX0_apartFrom 56 = .ok (.iload_n 2, 1) := by decide +kernel
theorem dX0_apartFrom_57 : decode cX0_apartFrom 57 = .ok (.invokevirtual 131, 3) := by decide +kernel
theorem dX0_apartFrom_60 : decode cX0_apartFrom 60 = .ok (.istore 6, 2) := by decide +kernel
theorem dX0_apartFrom_62 : decode cX0_apartFrom 62 = .ok (.iload 4, 2) := by decide +kernel
theorem dX0_apartFrom_64 : decode cX0_apartFrom 64 = .ok (.iload 6, 2) := by decide +kernel
theorem dX0_apartFrom_66 : decode cX0_apartFrom 66 = .ok (.iconst (-1), 1) := by decide +kernel
theorem dX0_apartFrom_67 : decode cX0_apartFrom 67 = .ok (.if_icmp .ne 7, 3) := by decide +kernel
theorem dX0_apartFrom_70 : decode cX0_apartFrom 70 = .ok (.iconst 0, 1) := by decide +kernel
theorem dX0_apartFrom_71 : decode cX0_apartFrom 71 = .ok (.goto 9, 3) := by decide +kernel
theorem dX0_apartFrom_74 : decode cX0_apartFrom 74 = .ok (.iload 6, 2) := by decide +kernel
theorem dX0_apartFrom_76 : decode cX0_apartFrom 76 = .ok (.iload_n 3, 1) := by decide +kernel
theorem dX0_apartFrom_77 : decode cX0_apartFrom 77 = .ok (.invokestatic 140, 3) := by decide +kernel
theorem dX0_apartFrom_80 : decode cX0_apartFrom 80 = .ok (.iadd, 1) := by decide +kernel
theorem dX0_apartFrom_81 : decode cX0_apartFrom 81 = .ok (.istore 4, 2) := by decide +kernel
theorem dX0_apartFrom_83 : decode cX0_apartFrom 83 = .ok (.iinc 5 1, 3) := by decide +kernel
theorem dX0_apartFrom_86 : decode cX0_apartFrom 86 = .ok (.goto (-45), 3) := by decide +kernel
theorem dX0_apartFrom_89 : decode cX0_apartFrom 89 = .ok (.iload 4, 2) := by decide +kernel
theorem dX0_apartFrom_91 : decode cX0_apartFrom 91 = .ok (.ireturn, 1) := by decide +kernel
theorem dX0_turn_0 : decode cX0_turn 0 = .ok (.iload_n 0, 1) := by decide +kernel
theorem dX0_turn_1 : decode cX0_turn 1 = .ok (.iload_n 1, 1) := by decide +kernel
theorem dX0_turn_2 : decode cX0_turn 2 = .ok (.isub, 1) := by decide +kernel
theorem dX0_turn_3 : decode cX0_turn 3 = .ok (.invokestatic 143, 3) := by decide +kernel
theorem dX0_turn_6 : decode cX0_turn 6 = .ok (.istore_n 2, 1) := by decide +kernel
theorem dX0_turn_7 : decode cX0_turn 7 = .ok (.iload_n 2, 1) := by decide +kernel
theorem dX0_turn_8 : decode cX0_turn 8 = .ok (.bipush 10, 2) := by decide +kernel
theorem dX0_turn_10 : decode cX0_turn 10 = .ok (.iload_n 2, 1) := by decide +kernel
theorem dX0_turn_11 : decode cX0_turn 11 = .ok (.isub, 1) := by decide +kernel
theorem dX0_turn_12 : decode cX0_turn 12 = .ok (.invokestatic 109, 3) := by decide +kernel
theorem dX0_turn_15 : decode cX0_turn 15 = .ok (.ireturn, 1) := by decide +kernel
theorem dX0_meltOfSet_0 : decode cX0_meltOfSet 0 = .ok (.iload 4, 2) := by decide +kernel
theorem dX0_meltOfSet_2 : decode cX0_meltOfSet 2 = .ok (.invokestatic 49, 3) := by decide +kernel
theorem dX0_meltOfSet_5 : decode cX0_meltOfSet 5 = .ok (.iconst 1, 1) := by decide +kernel
theorem dX0_meltOfSet_6 : decode cX0_meltOfSet 6 = .ok (.isub, 1) := by decide +kernel
theorem dX0_meltOfSet_7 : decode cX0_meltOfSet 7 = .ok (.istore 5, 2) := by decide +kernel
theorem dX0_meltOfSet_9 : decode cX0_meltOfSet 9 = .ok (.iconst 0, 1) := by decide +kernel
theorem dX0_meltOfSet_10 : decode cX0_meltOfSet 10 = .ok (.istore 6, 2) := by decide +kernel
theorem dX0_meltOfSet_12 : decode cX0_meltOfSet 12 = .ok (.iconst 0, 1) := by decide +kernel
theorem dX0_meltOfSet_13 : decode cX0_meltOfSet 13 = .ok (.istore 7, 2) := by decide +kernel
theorem dX0_meltOfSet_15 : decode cX0_meltOfSet 15 = .ok (.iload 7, 2) := by decide +kernel
theorem dX0_meltOfSet_17 : decode cX0_meltOfSet 17 = .ok (.aload_n 0, 1) := by decide +kernel
theorem dX0_meltOfSet_18 : decode cX0_meltOfSet 18 = .ok (.getfield 28, 3) := by decide +kernel
theorem dX0_meltOfSet_21 : decode cX0_meltOfSet 21 = .ok (.getfield 115, 3) := by decide +kernel
theorem dX0_meltOfSet_24 : decode cX0_meltOfSet 24 = .ok (.if_icmp .ge 39, 3) := by decide +kernel
theorem dX0_meltOfSet_27 : decode cX0_meltOfSet 27 = .ok (.iload 4, 2) := by decide +kernel
theorem dX0_meltOfSet_29 : decode cX0_meltOfSet 29 = .ok (.iload 7, 2) := by decide +kernel
theorem dX0_meltOfSet_31 : decode cX0_meltOfSet 31 = .ok (.ishr, 1) := by decide +kernel
theorem dX0_meltOfSet_32 : decode cX0_meltOfSet 32 = .ok (.iconst 1, 1) := by decide +kernel
theorem dX0_meltOfSet_33 : decode cX0_meltOfSet 33 = .ok (.iand, 1) := by decide +kernel
theorem dX0_meltOfSet_34 : decode cX0_meltOfSet 34 = .ok (.iconst 1, 1) := by decide +kernel
theorem dX0_meltOfSet_35 : decode cX0_meltOfSet 35 = .ok (.if_icmp .ne 22, 3) := by decide +kernel
theorem dX0_meltOfSet_38 : decode cX0_meltOfSet 38 = .ok (.iload 6, 2) := by decide +kernel
theorem dX0_meltOfSet_40 : decode cX0_meltOfSet 40 = .ok (.aload_n 0, 1) := by decide +kernel
theorem dX0_meltOfSet_41 : decode cX0_meltOfSet 41 = .ok (.getfield 32, 3) := by decide +kernel
theorem dX0_meltOfSet_44 : decode cX0_meltOfSet 44 = .ok (.aload_n 1, 1) := by decide +kernel
theorem dX0_meltOfSet_45 : decode cX0_meltOfSet 45 = .ok (.iload 7, 2) := by decide +kernel
theorem dX0_meltOfSet_47 : decode cX0_meltOfSet 47 = .ok (.iload_n 2, 1) := by decide +kernel
theorem dX0_meltOfSet_48 : decode cX0_meltOfSet 48 = .ok (.iload_n 3, 1) := by decide +kernel
theorem dX0_meltOfSet_49 : decode cX0_meltOfSet 49 = .ok (.iload 5, 2) := by decide +kernel
theorem dX0_meltOfSet_51 : decode cX0_meltOfSet 51 = .ok (.invokevirtual 146, 3) := by decide +kernel
theorem dX0_meltOfSet_54 : decode cX0_meltOfSet 54 = .ok (.iadd, 1) := by decide +kernel
theorem dX0_meltOfSet_55 : decode cX0_meltOfSet 55 = .ok (.istore 6, 2) := by decide +kernel
theorem dX0_meltOfSet_57 : decode cX0_meltOfSet 57 = .ok (.iinc 7 1, 3) := by decide +kernel
theorem dX0_meltOfSet_60 : decode cX0_meltOfSet 60 = .ok (.goto (-45), 3) := by decide +kernel
theorem dX0_meltOfSet_63 : decode cX0_meltOfSet 63 = .ok (.iload 6, 2) := by decide +kernel
theorem dX0_meltOfSet_65 : decode cX0_meltOfSet 65 = .ok (.ireturn, 1) := by decide +kernel
theorem dX0_passing_0 : decode cX0_passing 0 = .ok (.aload_n 0, 1) := by decide +kernel
theorem dX0_passing_1 : decode cX0_passing 1 = .ok (.getfield 24, 3) := by decide +kernel
theorem dX0_passing_4 : decode cX0_passing 4 = .ok (.lconst 0, 1) := by decide +kernel
theorem dX0_passing_5 : decode cX0_passing 5 = .ok (.invokestatic 150, 3) := by decide +kernel
theorem dX0_passing_8 : decode cX0_passing 8 = .ok (.aload_n 0, 1) := by decide +kernel
theorem dX0_passing_9 : decode cX0_passing 9 = .ok (.getfield 24, 3) := by decide +kernel
theorem dX0_passing_12 : decode cX0_passing 12 = .ok (.iconst 0, 1) := by decide +kernel
theorem dX0_passing_13 : decode cX0_passing 13 = .ok (.ldc2_w 153, 3) := by decide +kernel
theorem dX0_passing_16 : decode cX0_passing 16 = .ok (.lastore, 1) := by decide +kernel
theorem dX0_passing_17 : decode cX0_passing 17 = .ok (.iconst 0, 1) := by decide +kernel
theorem dX0_passing_18 : decode cX0_passing 18 = .ok (.istore 4, 2) := by decide +kernel
theorem dX0_passing_20 : decode cX0_passing 20 = .ok (.iload 4, 2) := by decide +kernel
theorem dX0_passing_22 : decode cX0_passing 22 = .ok (.iload_n 1, 1) := by decide +kernel
theorem dX0_passing_23 : decode cX0_passing 23 = .ok (.if_icmp .ge 71, 3) := by decide +kernel
theorem dX0_passing_26 : decode cX0_passing 26 = .ok (.iload 4, 2) := by decide +kernel
theorem dX0_passing_28 : decode cX0_passing 28 = .ok (.bipush 12, 2) := by decide +kernel
theorem dX0_passing_30 : decode cX0_passing 30 = .ok (.invokestatic 109, 3) := by decide +kernel
theorem dX0_passing_33 : decode cX0_passing 33 = .ok (.istore 5, 2) := by decide +kernel
theorem dX0_passing_35 : decode cX0_passing 35 = .ok (.iload 5, 2) := by decide +kernel
theorem dX0_passing_37 : decode cX0_passing 37 = .ok (.ifCond .lt 51, 3) := by decide +kernel
theorem dX0_passing_40 : decode cX0_passing 40 = .ok (.aload_n 0, 1) := by decide +kernel
theorem dX0_passing_41 : decode cX0_passing 41 = .ok (.getfield 24, 3) := by decide +kernel
theorem dX0_passing_44 : decode cX0_passing 44 = .ok (.iload 5, 2) := by decide +kernel
theorem dX0_passing_46 : decode cX0_passing 46 = .ok (.laload, 1) := by decide +kernel
theorem dX0_passing_47 : decode cX0_passing 47 = .ok (.iload_n 3, 1) := by decide +kernel
theorem dX0_passing_48 : decode cX0_passing 48 = .ok (.i2l, 1) := by decide +kernel
theorem dX0_passing_49 : decode cX0_passing 49 = .ok (.lmul, 1) := by decide +kernel
theorem dX0_passing_50 : decode cX0_passing 50 = .ok (.ldc2_w 155, 3) := by decide +kernel
theorem dX0_passing_53 : decode cX0_passing 53 = .ok (.ldiv, 1) := by decide +kernel
theorem dX0_passing_54 : decode cX0_passing 54 = .ok (.lstore 6, 2) := by decide +kernel
theorem dX0_passing_56 : decode cX0_passing 56 = .ok (.aload_n 0, 1) := by decide +kernel
theorem dX0_passing_57 : decode cX0_passing 57 = .ok (.getfield 24, 3) := by decide +kernel
theorem dX0_passing_60 : decode cX0_passing 60 = .ok (.iload 5, 2) := by decide +kernel
theorem dX0_passing_62 : decode cX0_passing 62 = .ok (.dup2, 1) := by decide +kernel
theorem dX0_passing_63 : decode cX0_passing 63 = .ok (.laload, 1) := by decide +kernel
theorem dX0_passing_64 : decode cX0_passing 64 = .ok (.lload 6, 2) := by decide +kernel
theorem dX0_passing_66 : decode cX0_passing 66 = .ok (.lsub, 1) := by decide +kernel
theorem dX0_passing_67 : decode cX0_passing 67 = .ok (.lastore, 1) := by decide +kernel
theorem dX0_passing_68 : decode cX0_passing 68 = .ok (.aload_n 0, 1) := by decide +kernel
theorem dX0_passing_69 : decode cX0_passing 69 = .ok (.getfield 24, 3) := by decide +kernel
theorem dX0_passing_72 : decode cX0_passing 72 = .ok (.iload 5, 2) := by decide +kernel
theorem dX0_passing_74 : decode cX0_passing 74 = .ok (.iconst 1, 1) := by decide +kernel
theorem dX0_passing_75 : decode cX0_passing 75 = .ok (.iadd, 1) := by decide +kernel
theorem dX0_passing_76 : decode cX0_passing 76 = .ok (.dup2, 1) := by decide +kernel
theorem dX0_passing_77 : decode cX0_passing 77 = .ok (.laload, 1) := by decide +kernel
theorem dX0_passing_78 : decode cX0_passing 78 = .ok (.lload 6, 2) := by decide +kernel
theorem dX0_passing_80 : decode cX0_passing 80 = .ok (.ladd, 1) := by decide +kernel
theorem dX0_passing_81 : decode cX0_passing 81 = .ok (.lastore, 1) := by decide +kernel
theorem dX0_passing_82 : decode cX0_passing 82 = .ok (.iinc 5 (-1), 3) := by decide +kernel
theorem dX0_passing_85 : decode cX0_passing 85 = .ok (.goto (-50), 3) := by decide +kernel
theorem dX0_passing_88 : decode cX0_passing 88 = .ok (.iinc 4 1, 3) := by decide +kernel
theorem dX0_passing_91 : decode cX0_passing 91 = .ok (.goto (-71), 3) := by decide +kernel
theorem dX0_passing_94 : decode cX0_passing 94 = .ok (.lconst 0, 1) := by decide +kernel
theorem dX0_passing_95 : decode cX0_passing 95 = .ok (.lstore 4, 2) := by decide +kernel
theorem dX0_passing_97 : decode cX0_passing 97 = .ok (.iconst 0, 1) := by decide +kernel
theorem dX0_passing_98 : decode cX0_passing 98 = .ok (.iload_n 2, 1) := by decide +kernel
theorem dX0_passing_99 : decode cX0_passing 99 = .ok (.invokestatic 157, 3) := by decide +kernel
theorem dX0_passing_102 : decode cX0_passing 102 = .ok (.istore 6, 2) := by decide +kernel
theorem dX0_passing_104 : decode cX0_passing 104 = .ok (.iload 6, 2) := by decide +kernel
theorem dX0_passing_106 : decode cX0_passing 106 = .ok (.aload_n 0, 1) := by decide +kernel
theorem dX0_passing_107 : decode cX0_passing 107 = .ok (.getfield 24, 3) := by decide +kernel
theorem dX0_passing_110 : decode cX0_passing 110 = .ok (.arraylength, 1) := by decide +kernel
theorem dX0_passing_111 : decode cX0_passing 111 = .ok (.if_icmp .ge 21, 3) := by decide +kernel
theorem dX0_passing_114 : decode cX0_passing 114 = .ok (.lload 4, 2) := by decide +kernel
theorem dX0_passing_116 : decode cX0_passing 116 = .ok (.aload_n 0, 1) := by decide +kernel
theorem dX0_passing_117 : decode cX0_passing 117 = .ok (.getfield 24, 3) := by decide +kernel
theorem dX0_passing_120 : decode cX0_passing 120 = .ok (.iload 6, 2) := by decide +kernel
theorem dX0_passing_122 : decode cX0_passing 122 = .ok (.laload, 1) := by decide +kernel
theorem dX0_passing_123 : decode cX0_passing 123 = .ok (.ladd, 1) := by decide +kernel
theorem dX0_passing_124 : decode cX0_passing 124 = .ok (.lstore 4, 2) := by decide +kernel
theorem dX0_passing_126 : decode cX0_passing 126 = .ok (.iinc 6 1, 3) := by decide +kernel
theorem dX0_passing_129 : decode cX0_passing 129 = .ok (.goto (-25), 3) := by decide +kernel
theorem dX0_passing_132 : decode cX0_passing 132 = .ok (.lload 4, 2) := by decide +kernel
theorem dX0_passing_134 : decode cX0_passing 134 = .ok (.l2i, 1) := by decide +kernel
theorem dX0_passing_135 : decode cX0_passing 135 = .ok (.ireturn, 1) := by decide +kernel
theorem dX1_init_0 : decode cX1_init 0 = .ok (.aload_n 0, 1) := by decide +kernel
theorem dX1_init_1 : decode cX1_init 1 = .ok (.invokespecial 3, 3) := by decide +kernel
theorem dX1_init_4 : decode cX1_init 4 = .ok (.aload_n 0, 1) := by decide +kernel
theorem dX1_init_5 : decode cX1_init 5 = .ok (.iconst 5, 1) := by decide +kernel
theorem dX1_init_6 : decode cX1_init 6 = .ok (.newarray .int, 2) := by decide +kernel
theorem dX1_init_8 : decode cX1_init 8 = .ok (.putfield 9, 3) := by decide +kernel
theorem dX1_init_11 : decode cX1_init 11 = .ok (.aload_n 0, 1) := by decide +kernel
theorem dX1_init_12 : decode cX1_init 12 = .ok (.bipush 48, 2) := by decide +kernel
theorem dX1_init_14 : decode cX1_init 14 = .ok (.newarray .int, 2) := by decide +kernel
theorem dX1_init_16 : decode cX1_init 16 = .ok (.putfield 15, 3) := by decide +kernel
theorem dX1_init_19 : decode cX1_init 19 = .ok (.aload_n 0, 1) := by decide +kernel
theorem dX1_init_20 : decode cX1_init 20 = .ok (.bipush 24, 2) := by decide +kernel
theorem dX1_init_22 : decode cX1_init 22 = .ok (.newarray .int, 2) := by decide +kernel
theorem dX1_init_24 : decode cX1_init 24 = .ok (.putfield 18, 3) := by decide +kernel
theorem dX1_init_27 : decode cX1_init 27 = .ok (.aload_n 0, 1) := by decide +kernel
theorem dX1_init_28 : decode cX1_init 28 = .ok (.aload_n 1, 1) := by decide +kernel
theorem dX1_init_29 : decode cX1_init 29 = .ok (.putfield 21, 3) := by decide +kernel
theorem dX1_init_32 : decode cX1_init 32 = .ok (.return_, 1) := by decide +kernel
theorem dX1_takeFrom_0 : decode cX1_takeFrom 0 = .ok (.aload_n 1, 1) := by decide +kernel
theorem dX1_takeFrom_1 : decode cX1_takeFrom 1 = .ok (.getfield 9, 3) := by decide +kernel
theorem dX1_takeFrom_4 : decode cX1_takeFrom 4 = .ok (.iconst 0, 1) := by decide +kernel
theorem dX1_takeFrom_5 : decode cX1_takeFrom 5 = .ok (.aload_n 0, 1) := by decide +kernel
theorem dX1_takeFrom_6 : decode cX1_takeFrom 6 = .ok (.getfield 9, 3) := by decide +kernel
theorem dX1_takeFrom_9 : decode cX1_takeFrom 9 = .ok (.iconst 0, 1) := by decide +kernel
theorem dX1_takeFrom_10 : decode cX1_takeFrom 10 = .ok (.aload_n 0, 1) := by decide +kernel
theorem dX1_takeFrom_11 : decode cX1_takeFrom 11 = .ok (.getfield 9, 3) := by decide +kernel
theorem dX1_takeFrom_14 : decode cX1_takeFrom 14 = .ok (.arraylength, 1) := by decide +kernel
theorem dX1_takeFrom_15 : decode cX1_takeFrom 15 = .ok (.invokestatic 25, 3) := by decide +kernel
theorem dX1_takeFrom_18 : decode cX1_takeFrom 18 = .ok (.aload_n 1, 1) := by decide +kernel
theorem dX1_takeFrom_19 : decode cX1_takeFrom 19 = .ok (.getfield 15, 3) := by decide +kernel
theorem dX1_takeFrom_22 : decode cX1_takeFrom 22 = .ok (.iconst 0, 1) := by decide +kernel
theorem dX1_takeFrom_23 : decode cX1_takeFrom 23 = .ok (.aload_n 0, 1) := by decide +kernel
theorem dX1_takeFrom_24 : decode cX1_takeFrom 24 = .ok (.getfield 15, 3) := by decide +kernel
theorem dX1_takeFrom_27 : decode cX1_takeFrom 27 = .ok (.iconst 0, 1) := by decide +kernel
theorem dX1_takeFrom_28 : decode cX1_takeFrom 28 = .ok (.aload_n 0, 1) := by decide +kernel
theorem dX1_takeFrom_29 : decode cX1_takeFrom 29 = .ok (.getfield 15, 3) := by decide +kernel
theorem dX1_takeFrom_32 : decode cX1_takeFrom 32 = .ok (.arraylength, 1) := by decide +kernel
theorem dX1_takeFrom_33 : decode cX1_takeFrom 33 = .ok (.invokestatic 25, 3) := by decide +kernel
theorem dX1_takeFrom_36 : decode cX1_takeFrom 36 = .ok (.aload_n 1, 1) := by decide +kernel
theorem dX1_takeFrom_37 : decode cX1_takeFrom 37 = .ok (.getfield 18, 3) := by decide +kernel
theorem dX1_takeFrom_40 : decode cX1_takeFrom 40 = .ok (.iconst 0, 1) := by decide +kernel
theorem dX1_takeFrom_41 : decode cX1_takeFrom 41 = .ok (.aload_n 0, 1) := by decide +kernel
theorem dX1_takeFrom_42 : decode cX1_takeFrom 42 = .ok (.getfield 18, 3) := by decide +kernel
theorem dX1_takeFrom_45 : decode cX1_takeFrom 45 = .ok (.iconst 0, 1) := by decide +kernel
theorem dX1_takeFrom_46 : decode cX1_takeFrom 46 = .ok (.aload_n 0, 1) := by decide +kernel
theorem dX1_takeFrom_47 : decode cX1_takeFrom 47 = .ok (.getfield 18, 3) := by decide +kernel
theorem dX1_takeFrom_50 : decode cX1_takeFrom 50 = .ok (.arraylength, 1) := by decide +kernel
theorem dX1_takeFrom_51 : decode cX1_takeFrom 51 = .ok (.invokestatic 25, 3) := by decide +kernel
theorem dX1_takeFrom_54 : decode cX1_takeFrom 54 = .ok (.aload_n 0, 1) := by decide +kernel
theorem dX1_takeFrom_55 : decode cX1_takeFrom 55 = .ok (.aload_n 1, 1) := by decide +kernel
theorem dX1_takeFrom_56 : decode cX1_takeFrom 56 = .ok (.getfield 31, 3) := by decide +kernel
theorem dX1_takeFrom_59 : decode cX1_takeFrom 59 = .ok (.putfield 31, 3) := by decide +kernel
theorem dX1_takeFrom_62 : decode cX1_takeFrom 62 = .ok (.aload_n 0, 1) := by decide +kernel
theorem dX1_takeFrom_63 : decode cX1_takeFrom 63 = .ok (.aload_n 1, 1) := by decide +kernel
theorem dX1_takeFrom_64 : decode cX1_takeFrom 64 = .ok (.getfield 35, 3) := by decide +kernel
theorem dX1_takeFrom_67 : decode cX1_takeFrom 67 = .ok (.putfield 35, 3) := by decide +kernel
theorem dX1_takeFrom_70 : decode cX1_takeFrom 70 = .ok (.return_, 1) := by decide +kernel
theorem dX1_isOpen_0 : decode cX1_isOpen 0 = .ok (.aload_n 0, 1) := by decide +kernel
theorem dX1_isOpen_1 : decode cX1_isOpen 1 = .ok (.getfield 31, 3) := by decide +kernel
theorem dX1_isOpen_4 : decode cX1_isOpen 4 = .ok (.ifCond .le 7, 3) := by decide +kernel
theorem dX1_isOpen_7 : decode cX1_isOpen 7 = .ok (.iconst 1, 1) := by decide +kernel
theorem dX1_isOpen_8 : decode cX1_isOpen 8 = .ok (.goto 4, 3) := by decide +kernel
theorem dX1_isOpen_11 : decode cX1_isOpen 11 = .ok (.iconst 0, 1) := by decide +kernel
theorem dX1_isOpen_12 : decode cX1_isOpen 12 = .ok (.ireturn, 1) := by decide +kernel
theorem dX1_width_0 : decode cX1_width 0 = .ok (.aload_n 0, 1) := by decide +kernel
theorem dX1_width_1 : decode cX1_width 1 = .ok (.getfield 9, 3) := by decide +kernel
theorem dX1_width_4 : decode cX1_width 4 = .ok (.iconst 0, 1) := by decide +kernel
theorem dX1_width_5 : decode cX1_width 5 = .ok (.iaload, 1) := by decide +kernel
theorem dX1_width_6 : decode cX1_width 6 = .ok (.ireturn, 1) := by decide +kernel
theorem dX1_height_0 : decode cX1_height 0 = .ok (.aload_n 0, 1) := by decide +kernel
theorem dX1_height_1 : decode cX1_height 1 = .ok (.getfield 9, 3) := by decide +kernel
theorem dX1_height_4 : decode cX1_height 4 = .ok (.iconst 1, 1) := by decide +kernel
theorem dX1_height_5 : decode cX1_height 5 = .ok (.iaload, 1) := by decide +kernel
theorem dX1_height_6 : decode cX1_height 6 = .ok (.ireturn, 1) := by decide +kernel
theorem dX1_coldAtFirst_0 : decode cX1_coldAtFirst 0 = .ok (.aload_n 0, 1) := by decide +kernel
theorem dX1_coldAtFirst_1 : decode cX1_coldAtFirst 1 = .ok (.getfield 9, 3) := by decide +kernel
theorem dX1_coldAtFirst_4 : decode cX1_coldAtFirst 4 = .ok (.iconst 2, 1) := by decide +kernel
theorem dX1_coldAtFirst_5 : decode cX1_coldAtFirst 5 = .ok (.iaload, 1) := by decide +kernel
theorem dX1_coldAtFirst_6 : decode cX1_coldAtFirst 6 = .ok (.ireturn, 1) := by decide +kernel
theorem dX1_coldFall_0 : decode cX1_coldFall 0 = .ok (.aload_n 0, 1) := by decide +kernel
theorem dX1_coldFall_1 : decode cX1_coldFall 1 = .ok (.getfield 9, 3) := by decide +kernel
theorem dX1_coldFall_4 : decode cX1_coldFall 4 = .ok (.iconst 3, 1) := by decide +kernel
theorem dX1_coldFall_5 : decode cX1_coldFall 5 = .ok (.iaload, 1) := by decide +kernel
theorem dX1_coldFall_6 : decode cX1_coldFall 6 = .ok (.ireturn, 1) := by decide +kernel
theorem dX1_april_0 : decode cX1_april 0 = .ok (.aload_n 0, 1) := by decide +kernel
theorem dX1_april_1 : decode cX1_april 1 = .ok (.getfield 9, 3) := by decide +kernel
theorem dX1_april_4 : decode cX1_april 4 = .ok (.iconst 4, 1) := by decide +kernel
theorem dX1_april_5 : decode cX1_april 5 = .ok (.iaload, 1) := by decide +kernel
theorem dX1_april_6 : decode cX1_april 6 = .ok (.ireturn, 1) := by decide +kernel
theorem dX1_cells_0 : decode cX1_cells 0 = .ok (.aload_n 0, 1) := by decide +kernel
theorem dX1_cells_1 : decode cX1_cells 1 = .ok (.getfield 9, 3) := by decide +kernel
theorem dX1_cells_4 : decode cX1_cells 4 = .ok (.iconst 0, 1) := by decide +kernel
theorem dX1_cells_5 : decode cX1_cells 5 = .ok (.iaload, 1) := by decide +kernel
theorem dX1_cells_6 : decode cX1_cells 6 = .ok (.aload_n 0, 1) := by decide +kernel
theorem dX1_cells_7 : decode cX1_cells 7 = .ok (.getfield 9, 3) := by decide +kernel
theorem dX1_cells_10 : decode cX1_cells 10 = .ok (.iconst 1, 1) := by decide +kernel
theorem dX1_cells_11 : decode cX1_cells 11 = .ok (.iaload, 1) := by decide +kernel
theorem dX1_cells_12 : decode cX1_cells 12 = .ok (.imul, 1) := by decide +kernel
theorem dX1_cells_13 : decode cX1_cells 13 = .ok (.ireturn, 1) := by decide +kernel
theorem dX1_hasCell_0 : decode cX1_hasCell 0 = .ok (.iload_n 1, 1) := by decide +kernel
theorem dX1_hasCell_1 : decode cX1_hasCell 1 = .ok (.ifCond .lt 15, 3) := by decide +kernel
theorem dX1_hasCell_4 : decode cX1_hasCell 4 = .ok (.iload_n 1, 1) := by decide +kernel
theorem dX1_hasCell_5 : decode cX1_hasCell 5 = .ok (.aload_n 0, 1) := by decide +kernel
theorem dX1_hasCell_6 : decode cX1_hasCell 6 = .ok (.invokevirtual 38, 3) := by decide +kernel
theorem dX1_hasCell_9 : decode cX1_hasCell 9 = .ok (.if_icmp .ge 7, 3) := by decide +kernel
theorem dX1_hasCell_12 : decode cX1_hasCell 12 = .ok (.iconst 1, 1) := by decide +kernel
theorem dX1_hasCell_13 : decode cX1_hasCell 13 = .ok (.goto 4, 3) := by decide +kernel
theorem dX1_hasCell_16 : decode cX1_hasCell 16 = .ok (.iconst 0, 1) := by decide +kernel
theorem dX1_hasCell_17 : decode cX1_hasCell 17 = .ok (.ireturn, 1) := by decide +kernel
theorem dX1_hasPage_0 : decode cX1_hasPage 0 = .ok (.iload_n 1, 1) := by decide +kernel
theorem dX1_hasPage_1 : decode cX1_hasPage 1 = .ok (.ifCond .lt 15, 3) := by decide +kernel
theorem dX1_hasPage_4 : decode cX1_hasPage 4 = .ok (.iload_n 1, 1) := by decide +kernel
theorem dX1_hasPage_5 : decode cX1_hasPage 5 = .ok (.aload_n 0, 1) := by decide +kernel
theorem dX1_hasPage_6 : decode cX1_hasPage 6 = .ok (.getfield 31, 3) := by decide +kernel
theorem dX1_hasPage_9 : decode cX1_hasPage 9 = .ok (.if_icmp .ge 7, 3) := by decide +kernel
theorem dX1_hasPage_12 : decode cX1_hasPage 12 = .ok (.iconst 1, 1) := by decide +kernel
theorem dX1_hasPage_13 : decode cX1_hasPage 13 = .ok (.goto 4, 3) := by decide +kernel
theorem dX1_hasPage_16 : decode cX1_hasPage 16 = .ok (.iconst 0, 1) := by decide +kernel
theorem dX1_hasPage_17 : decode cX1_hasPage 17 = .ok (.ireturn, 1) := by decide +kernel
theorem dX1_hasReader_0 : decode cX1_hasReader 0 = .ok (.iload_n 1, 1) := by decide +kernel
theorem dX1_hasReader_1 : decode cX1_hasReader 1 = .ok (.ifCond .lt 15, 3) := by decide +kernel
theorem dX1_hasReader_4 : decode cX1_hasReader 4 = .ok (.iload_n 1, 1) := by decide +kernel
theorem dX1_hasReader_5 : decode cX1_hasReader 5 = .ok (.aload_n 0, 1) := by decide +kernel
theorem dX1_hasReader_6 : decode cX1_hasReader 6 = .ok (.getfield 35, 3) := by decide +kernel
theorem dX1_hasReader_9 : decode cX1_hasReader 9 = .ok (.if_icmp .ge 7, 3) := by decide +kernel
theorem dX1_hasReader_12 : decode cX1_hasReader 12 = .ok (.iconst 1, 1) := by decide +kernel
theorem dX1_hasReader_13 : decode cX1_hasReader 13 = .ok (.goto 4, 3) := by decide +kernel
theorem dX1_hasReader_16 : decode cX1_hasReader 16 = .ok (.iconst 0, 1) := by decide +kernel
theorem dX1_hasReader_17 : decode cX1_hasReader 17 = .ok (.ireturn, 1) := by decide +kernel
theorem dX1_pageItem_0 : decode cX1_pageItem 0 = .ok (.iload_n 1, 1) := by decide +kernel
theorem dX1_pageItem_1 : decode cX1_pageItem 1 = .ok (.ifCond .lt 30, 3) := by decide +kernel
theorem dX1_pageItem_4 : decode cX1_pageItem 4 = .ok (.iload_n 1, 1) := by decide +kernel
theorem dX1_pageItem_5 : decode cX1_pageItem 5 = .ok (.bipush 12, 2) := by decide +kernel
theorem dX1_pageItem_7 : decode cX1_pageItem 7 = .ok (.if_icmp .ge 24, 3) := by decide +kernel
theorem dX1_pageItem_10 : decode cX1_pageItem 10 = .ok (.iload_n 1, 1) := by decide +kernel
theorem dX1_pageItem_11 : decode cX1_pageItem 11 = .ok (.aload_n 0, 1) := by decide +kernel
theorem dX1_pageItem_12 : decode cX1_pageItem 12 = .ok (.getfield 31, 3) := by decide +kernel
theorem dX1_pageItem_15 : decode cX1_pageItem 15 = .ok (.if_icmp .ge 16, 3) := by decide +kernel
theorem dX1_pageItem_18 : decode cX1_pageItem 18 = .ok (.iload_n 2, 1) := by decide +kernel
theorem dX1_pageItem_19 : decode cX1_pageItem 19 = .ok (.ifCond .lt 12, 3) := by decide +kernel
theorem dX1_pageItem_22 : decode cX1_pageItem 22 = .ok (.iload_n 2, 1) := by decide +kernel
theorem dX1_pageItem_23 : decode cX1_pageItem 23 = .ok (.iconst 4, 1) := by decide +kernel
theorem dX1_pageItem_24 : decode cX1_pageItem 24 = .ok (.if_icmp .ge 7, 3) := by decide +kernel
theorem dX1_pageItem_27 : decode cX1_pageItem 27 = .ok (.iconst 1, 1) := by decide +kernel
theorem dX1_pageItem_28 : decode cX1_pageItem 28 = .ok (.goto 4, 3) := by decide +kernel
theorem dX1_pageItem_31 : decode cX1_pageItem 31 = .ok (.iconst 0, 1) := by decide +kernel
theorem dX1_pageItem_32 : decode cX1_pageItem 32 = .ok (.istore_n 3, 1) := by decide +kernel
theorem dX1_pageItem_33 : decode cX1_pageItem 33 = .ok (.iload_n 3, 1) := by decide +kernel
theorem dX1_pageItem_34 : decode cX1_pageItem 34 = .ok (.ifCond .eq 16, 3) := by decide +kernel
theorem dX1_pageItem_37 : decode cX1_pageItem 37 = .ok (.aload_n 0, 1) := by decide +kernel
theorem dX1_pageItem_38 : decode cX1_pageItem 38 = .ok (.getfield 15, 3) := by decide +kernel
theorem dX1_pageItem_41 : decode cX1_pageItem 41 = .ok (.iload_n 1, 1) := by decide +kernel
theorem dX1_pageItem_42 : decode cX1_pageItem 42 = .ok (.iconst 4, 1) := by decide +kernel
theorem dX1_pageItem_43 : decode cX1_pageItem 43 = .ok (.imul, 1) := by decide +kernel
theorem dX1_pageItem_44 : decode cX1_pageItem 44 = .ok (.iload_n 2, 1) := by decide +kernel
theorem dX1_pageItem_45 : decode cX1_pageItem 45 = .ok (.iadd, 1) := by decide +kernel
theorem dX1_pageItem_46 : decode cX1_pageItem 46 = .ok (.iaload, 1) := by decide +kernel
theorem dX1_pageItem_47 : decode cX1_pageItem 47 = .ok (.goto 4, 3) := by decide +kernel
theorem dX1_pageItem_50 : decode cX1_pageItem 50 = .ok (.iconst (-1), 1) := by decide +kernel
theorem dX1_pageItem_51 : decode cX1_pageItem 51 = .ok (.ireturn, 1) := by decide +kernel
theorem dX1_readerItem_0 : decode cX1_readerItem 0 = .ok (.iload_n 1, 1) := by decide +kernel
theorem dX1_readerItem_1 : decode cX1_readerItem 1 = .ok (.ifCond .lt 30, 3) := by decide +kernel
theorem dX1_readerItem_4 : decode cX1_readerItem 4 = .ok (.iload_n 1, 1) := by decide +kernel
theorem dX1_readerItem_5 : decode cX1_readerItem 5 = .ok (.bipush 6, 2) := by decide +kernel
theorem dX1_readerItem_7 : decode cX1_readerItem 7 = .ok (.if_icmp .ge 24, 3) := by decide +kernel
theorem dX1_readerItem_10 : decode cX1_readerItem 10 = .ok (.iload_n 1, 1) := by decide +kernel
theorem dX1_readerItem_11 : decode cX1_readerItem 11 = .ok (.aload_n 0, 1) := by decide +kernel
theorem dX1_readerItem_12 : decode cX1_readerItem 12 = .ok (.getfield 35, 3) := by decide +kernel
theorem dX1_readerItem_15 : decode cX1_readerItem 15 = .ok (.if_icmp .ge 16, 3) := by decide +kernel
theorem dX1_readerItem_18 : decode cX1_readerItem 18 = .ok (.iload_n 2, 1) := by decide +kernel
theorem dX1_readerItem_19 : decode cX1_readerItem 19 = .ok (.ifCond .lt 12, 3) := by decide +kernel
theorem dX1_readerItem_22 : decode cX1_readerItem 22 = .ok (.iload_n 2, 1) := by decide +kernel
theorem dX1_readerItem_23 : decode cX1_readerItem 23 = .ok (.iconst 4, 1) := by decide +kernel
theorem dX1_readerItem_24 : decode cX1_readerItem 24 = .ok (.if_icmp .ge 7, 3) := by decide +kernel
theorem dX1_readerItem_27 : decode cX1_readerItem 27 = .ok (.iconst 1, 1) := by decide +kernel
theorem dX1_readerItem_28 : decode cX1_readerItem 28 = .ok (.goto 4, 3) := by decide +kernel
theorem dX1_readerItem_31 : decode cX1_readerItem 31 = .ok (.iconst 0, 1) := by decide +kernel
theorem dX1_readerItem_32 : decode cX1_readerItem 32 = .ok (.istore_n 3, 1) := by decide +kernel
theorem dX1_readerItem_33 : decode cX1_readerItem 33 = .ok (.iload_n 3, 1) := by decide +kernel
theorem dX1_readerItem_34 : decode cX1_readerItem 34 = .ok (.ifCond .eq 16, 3) := by decide +kernel
theorem dX1_readerItem_37 : decode cX1_readerItem 37 = .ok (.aload_n 0, 1) := by decide +kernel
theorem dX1_readerItem_38 : decode cX1_readerItem 38 = .ok (.getfield 18, 3) := by decide +kernel
theorem dX1_readerItem_41 : decode cX1_readerItem 41 = .ok (.iload_n 1, 1) := by decide +kernel
theorem dX1_readerItem_42 : decode cX1_readerItem 42 = .ok (.iconst 4, 1) := by decide +kernel
theorem dX1_readerItem_43 : decode cX1_readerItem 43 = .ok (.imul, 1) := by decide +kernel
theorem dX1_readerItem_44 : decode cX1_readerItem 44 = .ok (.iload_n 2, 1) := by decide +kernel
theorem dX1_readerItem_45 : decode cX1_readerItem 45 = .ok (.iadd, 1) := by decide +kernel
theorem dX1_readerItem_46 : decode cX1_readerItem 46 = .ok (.iaload, 1) := by decide +kernel
theorem dX1_readerItem_47 : decode cX1_readerItem 47 = .ok (.goto 4, 3) := by decide +kernel
theorem dX1_readerItem_50 : decode cX1_readerItem 50 = .ok (.iconst (-1), 1) := by decide +kernel
theorem dX1_readerItem_51 : decode cX1_readerItem 51 = .ok (.ireturn, 1) := by decide +kernel
theorem dX1_pageCell_0 : decode cX1_pageCell 0 = .ok (.aload_n 0, 1) := by decide +kernel
theorem dX1_pageCell_1 : decode cX1_pageCell 1 = .ok (.iload_n 1, 1) := by decide +kernel
theorem dX1_pageCell_2 : decode cX1_pageCell 2 = .ok (.iconst 0, 1) := by decide +kernel
theorem dX1_pageCell_3 : decode cX1_pageCell 3 = .ok (.invokevirtual 42, 3) := by decide +kernel
theorem dX1_pageCell_6 : decode cX1_pageCell 6 = .ok (.ireturn, 1) := by decide +kernel
theorem dX1_pageDepth_0 : decode cX1_pageDepth 0 = .ok (.aload_n 0, 1) := by decide +kernel
theorem dX1_pageDepth_1 : decode cX1_pageDepth 1 = .ok (.iload_n 1, 1) := by decide +kernel
theorem dX1_pageDepth_2 : decode cX1_pageDepth 2 = .ok (.iconst 1, 1) := by decide +kernel
theorem dX1_pageDepth_3 : decode cX1_pageDepth 3 = .ok (.invokevirtual 42, 3) := by decide +kernel
theorem dX1_pageDepth_6 : decode cX1_pageDepth 6 = .ok (.ireturn, 1) := by decide +kernel
theorem dX1_pageBook_0 : decode cX1_pageBook 0 = .ok (.aload_n 0, 1) := by decide +kernel
theorem dX1_pageBook_1 : decode cX1_pageBook 1 = .ok (.iload_n 1, 1) := by decide +kernel
theorem dX1_pageBook_2 : decode cX1_pageBook 2 = .ok (.iconst 2, 1) := by decide +kernel
theorem dX1_pageBook_3 : decode cX1_pageBook 3 = .ok (.invokevirtual 42, 3) := by decide +kernel
theorem dX1_pageBook_6 : decode cX1_pageBook 6 = .ok (.ireturn, 1) := by decide +kernel
theorem dX1_pageSays_0 : decode cX1_pageSays 0 = .ok (.aload_n 0, 1) := by decide +kernel
theorem dX1_pageSays_1 : decode cX1_pageSays 1 = .ok (.iload_n 1, 1) := by decide +kernel
theorem dX1_pageSays_2 : decode cX1_pageSays 2 = .ok (.iconst 3, 1) := by decide +kernel
theorem dX1_pageSays_3 : decode cX1_pageSays 3 = .ok (.invokevirtual 42, 3) := by decide +kernel
theorem dX1_pageSays_6 : decode cX1_pageSays 6 = .ok (.ireturn, 1) := by decide +kernel
theorem dX1_readerCell_0 : decode cX1_readerCell 0 = .ok (.aload_n 0, 1) := by decide +kernel
theorem dX1_readerCell_1 : decode cX1_readerCell 1 = .ok (.iload_n 1, 1) := by decide +kernel
theorem dX1_readerCell_2 : decode cX1_readerCell 2 = .ok (.iconst 0, 1) := by decide +kernel
theorem dX1_readerCell_3 : decode cX1_readerCell 3 = .ok (.invokevirtual 46, 3) := by decide +kernel
theorem dX1_readerCell_6 : decode cX1_readerCell 6 = .ok (.ireturn, 1) := by decide +kernel
theorem dX1_breath_0 : decode cX1_breath 0 = .ok (.aload_n 0, 1) := by decide +kernel
theorem dX1_breath_1 : decode cX1_breath 1 = .ok (.iload_n 1, 1) := by decide +kernel
theorem dX1_breath_2 : decode cX1_breath 2 = .ok (.iconst 1, 1) := by decide +kernel
theorem dX1_breath_3 : decode cX1_breath 3 = .ok (.invokevirtual 46, 3) := by decide +kernel
theorem dX1_breath_6 : decode cX1_breath 6 = .ok (.ireturn, 1) := by decide +kernel
theorem dX1_speed_0 : decode cX1_speed 0 = .ok (.aload_n 0, 1) := by decide +kernel
theorem dX1_speed_1 : decode cX1_speed 1 = .ok (.iload_n 1, 1) := by decide +kernel
theorem dX1_speed_2 : decode cX1_speed 2 = .ok (.iconst 2, 1) := by decide +kernel
theorem dX1_speed_3 : decode cX1_speed 3 = .ok (.invokevirtual 46, 3) := by decide +kernel
theorem dX1_speed_6 : decode cX1_speed 6 = .ok (.ireturn, 1) := by decide +kernel
theorem dX1_need_0 : decode cX1_need 0 = .ok (.aload_n 0, 1) := by decide +kernel
theorem dX1_need_1 : decode cX1_need 1 = .ok (.iload_n 1, 1) := by decide +kernel
theorem dX1_need_2 : decode cX1_need 2 = .ok (.iconst 3, 1) := by decide +kernel
theorem dX1_need_3 : decode cX1_need 3 = .ok (.invokevirtual 46, 3) := by decide +kernel
theorem dX1_need_6 : decode cX1_need 6 = .ok (.ireturn, 1) := by decide +kernel
theorem dX1_pagesOf_0 : decode cX1_pagesOf 0 = .ok (.iconst 0, 1) := by decide +kernel
theorem dX1_pagesOf_1 : decode cX1_pagesOf 1 = .ok (.istore_n 2, 1) := by decide +kernel
theorem dX1_pagesOf_2 : decode cX1_pagesOf 2 = .ok (.iconst 0, 1) := by decide +kernel
theorem dX1_pagesOf_3 : decode cX1_pagesOf 3 = .ok (.istore_n 3, 1) := by decide +kernel
theorem dX1_pagesOf_4 : decode cX1_pagesOf 4 = .ok (.iload_n 3, 1) := by decide +kernel
theorem dX1_pagesOf_5 : decode cX1_pagesOf 5 = .ok (.aload_n 0, 1) := by decide +kernel
theorem dX1_pagesOf_6 : decode cX1_pagesOf 6 = .ok (.getfield 31, 3) := by decide +kernel
theorem dX1_pagesOf_9 : decode cX1_pagesOf 9 = .ok (.if_icmp .ge 24, 3) := by decide +kernel
theorem dX1_pagesOf_12 : decode cX1_pagesOf 12 = .ok (.aload_n 0, 1) := by decide +kernel
theorem dX1_pagesOf_13 : decode cX1_pagesOf 13 = .ok (.iload_n 3, 1) := by decide +kernel
theorem dX1_pagesOf_14 : decode cX1_pagesOf 14 = .ok (.invokevirtual 49, 3) := by decide +kernel
theorem dX1_pagesOf_17 : decode cX1_pagesOf 17 = .ok (.iload_n 1, 1) := by decide +kernel
theorem dX1_pagesOf_18 : decode cX1_pagesOf 18 = .ok (.if_icmp .ne 9, 3) := by decide +kernel
theorem dX1_pagesOf_21 : decode cX1_pagesOf 21 = .ok (.iload_n 2, 1) := by decide +kernel
theorem dX1_pagesOf_22 : decode cX1_pagesOf 22 = .ok (.iconst 1, 1) := by decide +kernel
theorem dX1_pagesOf_23 : decode cX1_pagesOf 23 = .ok (.iload_n 3, 1) := by decide +kernel
theorem dX1_pagesOf_24 : decode cX1_pagesOf 24 = .ok (.ishl, 1) := by decide +kernel
theorem dX1_pagesOf_25 : decode cX1_pagesOf 25 = .ok (.ior, 1) := by decide +kernel
theorem dX1_pagesOf_26 : decode cX1_pagesOf 26 = .ok (.istore_n 2, 1) := by decide +kernel
theorem dX1_pagesOf_27 : decode cX1_pagesOf 27 = .ok (.iinc 3 1, 3) := by decide +kernel
theorem dX1_pagesOf_30 : decode cX1_pagesOf 30 = .ok (.goto (-26), 3) := by decide +kernel
theorem dX1_pagesOf_33 : decode cX1_pagesOf 33 = .ok (.iload_n 2, 1) := by decide +kernel
theorem dX1_pagesOf_34 : decode cX1_pagesOf 34 = .ok (.ireturn, 1) := by decide +kernel
theorem dX1_steps_0 : decode cX1_steps 0 = .ok (.aload_n 0, 1) := by decide +kernel
theorem dX1_steps_1 : decode cX1_steps 1 = .ok (.invokevirtual 53, 3) := by decide +kernel
theorem dX1_steps_4 : decode cX1_steps 4 = .ok (.istore_n 3, 1) := by decide +kernel
theorem dX1_steps_5 : decode cX1_steps 5 = .ok (.iload_n 3, 1) := by decide +kernel
theorem dX1_steps_6 : decode cX1_steps 6 = .ok (.iconst 1, 1) := by decide +kernel
theorem dX1_steps_7 : decode cX1_steps 7 = .ok (.if_icmp .ge 5, 3) := by decide +kernel
theorem dX1_steps_10 : decode cX1_steps 10 = .ok (.iconst 0, 1) := by decide +kernel
theorem dX1_steps_11 : decode cX1_steps 11 = .ok (.ireturn, 1) := by decide +kernel
theorem dX1_steps_12 : decode cX1_steps 12 = .ok (.iload_n 1, 1) := by decide +kernel
theorem dX1_steps_13 : decode cX1_steps 13 = .ok (.iload_n 3, 1) := by decide +kernel
theorem dX1_steps_14 : decode cX1_steps 14 = .ok (.idiv, 1) := by decide +kernel
theorem dX1_steps_15 : decode cX1_steps 15 = .ok (.iload_n 2, 1) := by decide +kernel
theorem dX1_steps_16 : decode cX1_steps 16 = .ok (.iload_n 3, 1) := by decide +kernel
theorem dX1_steps_17 : decode cX1_steps 17 = .ok (.idiv, 1) := by decide +kernel
theorem dX1_steps_18 : decode cX1_steps 18 = .ok (.isub, 1) := by decide +kernel
theorem dX1_steps_19 : decode cX1_steps 19 = .ok (.invokestatic 56, 3) := by decide +kernel
theorem dX1_steps_22 : decode cX1_steps 22 = .ok (.iload_n 1, 1) := by decide +kernel
theorem dX1_steps_23 : decode cX1_steps 23 = .ok (.iload_n 3, 1) := by decide +kernel
theorem dX1_steps_24 : decode cX1_steps 24 = .ok (.irem, 1) := by decide +kernel
theorem dX1_steps_25 : decode cX1_steps 25 = .ok (.iload_n 2, 1) := by decide +kernel
theorem dX1_steps_26 : decode cX1_steps 26 = .ok (.iload_n 3, 1) := by decide +kernel
theorem dX1_steps_27 : decode cX1_steps 27 = .ok (.irem, 1) := by decide +kernel
theorem dX1_steps_28 : decode cX1_steps 28 = .ok (.isub, 1) := by decide +kernel
theorem dX1_steps_29 : decode cX1_steps 29 = .ok (.invokestatic 56, 3) := by decide +kernel
theorem dX1_steps_32 : decode cX1_steps 32 = .ok (.iadd, 1) := by decide +kernel
theorem dX1_steps_33 : decode cX1_steps 33 = .ok (.ireturn, 1) := by decide +kernel
theorem dX1_parse_0 : decode cX1_parse 0 = .ok (.aload_n 0, 1) := by decide +kernel
theorem dX1_parse_1 : decode cX1_parse 1 = .ok (.iconst 0, 1) := by decide +kernel
theorem dX1_parse_2 : decode cX1_parse 2 = .ok (.putfield 31, 3) := by decide +kernel
theorem dX1_parse_5 : decode cX1_parse 5 = .ok (.aload_n 0, 1) := by decide +kernel
theorem dX1_parse_6 : decode cX1_parse 6 = .ok (.iconst 0, 1) := by decide +kernel
theorem dX1_parse_7 : decode cX1_parse 7 = .ok (.putfield 35, 3) := by decide +kernel
theorem dX1_parse_10 : decode cX1_parse 10 = .ok (.aload_n 0, 1) := by decide +kernel
theorem dX1_parse_11 : decode cX1_parse 11 = .ok (.iconst 0, 1) := by decide +kernel
theorem dX1_parse_12 : decode cX1_parse 12 = .ok (.putfield 61, 3) := by decide +kernel
theorem dX1_parse_15 : decode cX1_parse 15 = .ok (.getstatic 65, 3) := by decide +kernel
theorem dX1_parse_18 : decode cX1_parse 18 = .ok (.iconst 0, 1) := by decide +kernel
theorem dX1_parse_19 : decode cX1_parse 19 = .ok (.aload_n 0, 1) := by decide +kernel
theorem dX1_parse_20 : decode cX1_parse 20 = .ok (.getfield 9, 3) := by decide +kernel
theorem dX1_parse_23 : decode cX1_parse 23 = .ok (.iconst 0, 1) := by decide +kernel
theorem dX1_parse_24 : decode cX1_parse 24 = .ok (.aload_n 0, 1) := by decide +kernel
theorem dX1_parse_25 : decode cX1_parse 25 = .ok (.getfield 9, 3) := by decide +kernel
theorem dX1_parse_28 : decode cX1_parse 28 = .ok (.arraylength, 1) := by decide +kernel
theorem dX1_parse_29 : decode cX1_parse 29 = .ok (.invokestatic 25, 3) := by decide +kernel
theorem dX1_parse_32 : decode cX1_parse 32 = .ok (.aload_n 0, 1) := by decide +kernel
theorem dX1_parse_33 : decode cX1_parse 33 = .ok (.getfield 21, 3) := by decide +kernel
theorem dX1_parse_36 : decode cX1_parse 36 = .ok (.invokevirtual 68, 3) := by decide +kernel
theorem dX1_parse_39 : decode cX1_parse 39 = .ok (.iconst 1, 1) := by decide +kernel
theorem dX1_parse_40 : decode cX1_parse 40 = .ok (.istore_n 1, 1) := by decide +kernel
theorem dX1_parse_41 : decode cX1_parse 41 = .ok (.iconst 0, 1) := by decide +kernel
theorem dX1_parse_42 : decode cX1_parse 42 = .ok (.istore_n 2, 1) := by decide +kernel
theorem dX1_parse_43 : decode cX1_parse 43 = .ok (.iload_n 1, 1) := by decide +kernel
theorem dX1_parse_44 : decode cX1_parse 44 = .ok (.ifCond .eq 35, 3) := by decide +kernel
theorem dX1_parse_47 : decode cX1_parse 47 = .ok (.iload_n 2, 1) := by decide +kernel
theorem dX1_parse_48 : decode cX1_parse 48 = .ok (.sipush 240, 3) := by decide +kernel
theorem dX1_parse_51 : decode cX1_parse 51 = .ok (.if_icmp .gt 28, 3) := by decide +kernel
theorem dX1_parse_54 : decode cX1_parse 54 = .ok (.aload_n 0, 1) := by decide +kernel
theorem dX1_parse_55 : decode cX1_parse 55 = .ok (.invokevirtual 73, 3) := by decide +kernel
theorem dX1_parse_58 : decode cX1_parse 58 = .ok (.ifCond .ne 5, 3) := by decide +kernel
theorem dX1_parse_61 : decode cX1_parse 61 = .ok (.iconst 0, 1) := by decide +kernel
theorem dX1_parse_62 : decode cX1_parse 62 = .ok (.ireturn, 1) := by decide +kernel
theorem dX1_parse_63 : decode cX1_parse 63 = .ok (.aload_n 0, 1) := by decide +kernel
theorem dX1_parse_64 : decode cX1_parse 64 = .ok (.getfield 21, 3) := by decide +kernel
theorem dX1_parse_67 : decode cX1_parse 67 = .ok (.bipush 59, 2) := by decide +kernel
theorem dX1_parse_69 : decode cX1_parse 69 = .ok (.invokevirtual 77, 3) := by decide +kernel
theorem dX1_parse_72 : decode cX1_parse 72 = .ok (.istore_n 1, 1) := by decide +kernel
theorem dX1_parse_73 : decode cX1_parse 73 = .ok (.iinc 2 1, 3) := by decide +kernel
theorem dX1_parse_76 : decode cX1_parse 76 = .ok (.goto (-33), 3) := by decide +kernel
theorem dX1_parse_79 : decode cX1_parse 79 = .ok (.aload_n 0, 1) := by decide +kernel
theorem dX1_parse_80 : decode cX1_parse 80 = .ok (.getfield 21, 3) := by decide +kernel
theorem dX1_parse_83 : decode cX1_parse 83 = .ok (.invokevirtual 81, 3) := by decide +kernel
theorem dX1_parse_86 : decode cX1_parse 86 = .ok (.iconst (-1), 1) := by decide +kernel
theorem dX1_parse_87 : decode cX1_parse 87 = .ok (.if_icmp .ne 17, 3) := by decide +kernel
theorem dX1_parse_90 : decode cX1_parse 90 = .ok (.aload_n 0, 1) := by decide +kernel
theorem dX1_parse_91 : decode cX1_parse 91 = .ok (.invokevirtual 84, 3) := by decide +kernel
theorem dX1_parse_94 : decode cX1_parse 94 = .ok (.ifCond .eq 10, 3) := by decide +kernel
theorem dX1_parse_97 : decode cX1_parse 97 = .ok (.aload_n 0, 1) := by decide +kernel
theorem dX1_parse_98 : decode cX1_parse 98 = .ok (.invokevirtual 87, 3) := by decide +kernel
theorem dX1_parse_101 : decode cX1_parse 101 = .ok (.ifCond .ne 13, 3) := by decide +kernel
theorem dX1_parse_104 : decode cX1_parse 104 = .ok (.aload_n 0, 1) := by decide +kernel
theorem dX1_parse_105 : decode cX1_parse 105 = .ok (.getfield 21, 3) := by decide +kernel
theorem dX1_parse_108 : decode cX1_parse 108 = .ok (.invokevirtual 90, 3) := by decide +kernel
theorem dX1_parse_111 : decode cX1_parse 111 = .ok (.ifCond .eq 7, 3) := by decide +kernel
theorem dX1_parse_114 : decode cX1_parse 114 = .ok (.iconst 1, 1) := by decide +kernel
theorem dX1_parse_115 : decode cX1_parse 115 = .ok (.goto 4, 3) := by decide +kernel
theorem dX1_parse_118 : decode cX1_parse 118 = .ok (.iconst 0, 1) := by decide +kernel
theorem dX1_parse_119 : decode cX1_parse 119 = .ok (.ireturn, 1) := by decide +kernel
theorem dX1_clause_0 : decode cX1_clause 0 = .ok (.aload_n 0, 1) := by decide +kernel
theorem dX1_clause_1 : decode cX1_clause 1 = .ok (.getfield 21, 3) := by decide +kernel
theorem dX1_clause_4 : decode cX1_clause 4 = .ok (.invokevirtual 81, 3) := by decide +kernel
theorem dX1_clause_7 : decode cX1_clause 7 = .ok (.tableswitch 99 112 115 #[51, 99, 75, 29], 29) := by decide +kernel
theorem dX1_clause_36 : decode cX1_clause 36 = .ok (.aload_n 0, 1) := by decide +kernel
theorem dX1_clause_37 : decode cX1_clause 37 = .ok (.getfield 61, 3) := by decide +kernel
theorem dX1_clause_40 : decode cX1_clause 40 = .ok (.ifCond .eq 13, 3) := by decide +kernel
theorem dX1_clause_43 : decode cX1_clause 43 = .ok (.aload_n 0, 1) := by decide +kernel
theorem dX1_clause_44 : decode cX1_clause 44 = .ok (.getfield 21, 3) := by decide +kernel
theorem dX1_clause_47 : decode cX1_clause 47 = .ok (.invokevirtual 90, 3) := by decide +kernel
theorem dX1_clause_50 : decode cX1_clause 50 = .ok (.goto 7, 3) := by decide +kernel
theorem dX1_clause_53 : decode cX1_clause 53 = .ok (.aload_n 0, 1) := by decide +kernel
theorem dX1_clause_54 : decode cX1_clause 54 = .ok (.invokevirtual 93, 3) := by decide +kernel
theorem dX1_clause_57 : decode cX1_clause 57 = .ok (.ireturn, 1) := by decide +kernel
theorem dX1_clause_58 : decode cX1_clause 58 = .ok (.aload_n 0, 1) := by decide +kernel
theorem dX1_clause_59 : decode cX1_clause 59 = .ok (.getfield 31, 3) := by decide +kernel
theorem dX1_clause_62 : decode cX1_clause 62 = .ok (.bipush 12, 2) := by decide +kernel
theorem dX1_clause_64 : decode cX1_clause 64 = .ok (.if_icmp .ge 10, 3) := by decide +kernel
theorem dX1_clause_67 : decode cX1_clause 67 = .ok (.aload_n 0, 1) := by decide +kernel
theorem dX1_clause_68 : decode cX1_clause 68 = .ok (.invokevirtual 96, 3) := by decide +kernel
theorem dX1_clause_71 : decode cX1_clause 71 = .ok (.goto 10, 3) := by decide +kernel
theorem dX1_clause_74 : decode cX1_clause 74 = .ok (.aload_n 0, 1) := by decide +kernel
theorem dX1_clause_75 : decode cX1_clause 75 = .ok (.getfield 21, 3) := by decide +kernel
theorem dX1_clause_78 : decode cX1_clause 78 = .ok (.invokevirtual 90, 3) := by decide +kernel
theorem dX1_clause_81 : decode cX1_clause 81 = .ok (.ireturn, 1) := by decide +kernel
theorem dX1_clause_82 : decode cX1_clause 82 = .ok (.aload_n 0, 1) := by decide +kernel
theorem dX1_clause_83 : decode cX1_clause 83 = .ok (.getfield 35, 3) := by decide +kernel
theorem dX1_clause_86 : decode cX1_clause 86 = .ok (.bipush 6, 2) := by decide +kernel
theorem dX1_clause_88 : decode cX1_clause 88 = .ok (.if_icmp .ge 10, 3) := by decide +kernel
theorem dX1_clause_91 : decode cX1_clause 91 = .ok (.aload_n 0, 1) := by decide +kernel
theorem dX1_clause_92 : decode cX1_clause 92 = .ok (.invokevirtual 99, 3) := by decide +kernel
theorem dX1_clause_95 : decode cX1_clause 95 = .ok (.goto 10, 3) := by decide +kernel
theorem dX1_clause_98 : decode cX1_clause 98 = .ok (.aload_n 0, 1) := by decide +kernel
theorem dX1_clause_99 : decode cX1_clause 99 = .ok (.getfield 21, 3) := by decide +kernel
theorem dX1_clause_102 : decode cX1_clause 102 = .ok (.invokevirtual 90, 3) := by decide +kernel
theorem dX1_clause_105 : decode cX1_clause 105 = .ok (.ireturn, 1) := by decide +kernel
theorem dX1_clause_106 : decode cX1_clause 106 = .ok (.aload_n 0, 1) := by decide +kernel
theorem dX1_clause_107 : decode cX1_clause 107 = .ok (.getfield 21, 3) := by decide +kernel
theorem dX1_clause_110 : decode cX1_clause 110 = .ok (.invokevirtual 90, 3) := by decide +kernel
theorem dX1_clause_113 : decode cX1_clause 113 = .ok (.ireturn, 1) := by decide +kernel
theorem dX1_ruleClause_0 : decode cX1_ruleClause 0 = .ok (.aload_n 0, 1) := by decide +kernel
theorem dX1_ruleClause_1 : decode cX1_ruleClause 1 = .ok (.iconst 1, 1) := by decide +kernel
theorem dX1_ruleClause_2 : decode cX1_ruleClause 2 = .ok (.putfield 61, 3) := by decide +kernel
theorem dX1_ruleClause_5 : decode cX1_ruleClause 5 = .ok (.aload_n 0, 1) := by decide +kernel
theorem dX1_ruleClause_6 : decode cX1_ruleClause 6 = .ok (.iconst 0, 1) := by decide +kernel
theorem dX1_ruleClause_7 : decode cX1_ruleClause 7 = .ok (.aload_n 0, 1) := by decide +kernel
theorem dX1_ruleClause_8 : decode cX1_ruleClause 8 = .ok (.getfield 9, 3) := by decide +kernel
theorem dX1_ruleClause_11 : decode cX1_ruleClause 11 = .ok (.iconst 0, 1) := by decide +kernel
theorem dX1_ruleClause_12 : decode cX1_ruleClause 12 = .ok (.invokevirtual 102, 3) := by decide +kernel
theorem dX1_ruleClause_15 : decode cX1_ruleClause 15 = .ok (.ireturn, 1) := by decide +kernel
theorem dX1_pageClause_0 : decode cX1_pageClause 0 = .ok (.aload_n 0, 1) := by decide +kernel
theorem dX1_pageClause_1 : decode cX1_pageClause 1 = .ok (.getfield 31, 3) := by decide +kernel
theorem dX1_pageClause_4 : decode cX1_pageClause 4 = .ok (.iconst 4, 1) := by decide +kernel
theorem dX1_pageClause_5 : decode cX1_pageClause 5 = .ok (.imul, 1) := by decide +kernel
theorem dX1_pageClause_6 : decode cX1_pageClause 6 = .ok (.istore_n 1, 1) := by decide +kernel
theorem dX1_pageClause_7 : decode cX1_pageClause 7 = .ok (.getstatic 106, 3) := by decide +kernel
theorem dX1_pageClause_10 : decode cX1_pageClause 10 = .ok (.iconst 0, 1) := by decide +kernel
theorem dX1_pageClause_11 : decode cX1_pageClause 11 = .ok (.aload_n 0, 1) := by decide +kernel
theorem dX1_pageClause_12 : decode cX1_pageClause 12 = .ok (.getfield 15, 3) := by decide +kernel
theorem dX1_pageClause_15 : decode cX1_pageClause 15 = .ok (.iload_n 1, 1) := by decide +kernel
theorem dX1_pageClause_16 : decode cX1_pageClause 16 = .ok (.iconst 4, 1) := by decide +kernel
theorem dX1_pageClause_17 : decode cX1_pageClause 17 = .ok (.invokestatic 25, 3) := by decide +kernel
theorem dX1_pageClause_20 : decode cX1_pageClause 20 = .ok (.aload_n 0, 1) := by decide +kernel
theorem dX1_pageClause_21 : decode cX1_pageClause 21 = .ok (.dup, 1) := by decide +kernel
theorem dX1_pageClause_22 : decode cX1_pageClause 22 = .ok (.getfield 31, 3) := by decide +kernel
theorem dX1_pageClause_25 : decode cX1_pageClause 25 = .ok (.iconst 1, 1) := by decide +kernel
theorem dX1_pageClause_26 : decode cX1_pageClause 26 = .ok (.iadd, 1) := by decide +kernel
theorem dX1_pageClause_27 : decode cX1_pageClause 27 = .ok (.putfield 31, 3) := by decide +kernel
theorem dX1_pageClause_30 : decode cX1_pageClause 30 = .ok (.aload_n 0, 1) := by decide +kernel
theorem dX1_pageClause_31 : decode cX1_pageClause 31 = .ok (.iconst 1, 1) := by decide +kernel
theorem dX1_pageClause_32 : decode cX1_pageClause 32 = .ok (.aload_n 0, 1) := by decide +kernel
theorem dX1_pageClause_33 : decode cX1_pageClause 33 = .ok (.getfield 15, 3) := by decide +kernel
theorem dX1_pageClause_36 : decode cX1_pageClause 36 = .ok (.iload_n 1, 1) := by decide +kernel
theorem dX1_pageClause_37 : decode cX1_pageClause 37 = .ok (.invokevirtual 102, 3) := by decide +kernel
theorem dX1_pageClause_40 : decode cX1_pageClause 40 = .ok (.ireturn, 1) := by decide +kernel
theorem dX1_readerClause_0 : decode cX1_readerClause 0 = .ok (.aload_n 0, 1) := by decide +kernel
theorem dX1_readerClause_1 : decode cX1_readerClause 1 = .ok (.getfield 35, 3) := by decide +kernel
theorem dX1_readerClause_4 : decode cX1_readerClause 4 = .ok (.iconst 4, 1) := by decide +kernel
theorem dX1_readerClause_5 : decode cX1_readerClause 5 = .ok (.imul, 1) := by decide +kernel
theorem dX1_readerClause_6 : decode cX1_readerClause 6 = .ok (.istore_n 1, 1) := by decide +kernel
theorem dX1_readerClause_7 : decode cX1_readerClause 7 = .ok (.getstatic 109, 3) := by decide +kernel
theorem dX1_readerClause_10 : decode cX1_readerClause 10 = .ok (.iconst 0, 1) := by decide +kernel
theorem dX1_readerClause_11 : decode cX1_readerClause 11 = .ok (.aload_n 0, 1) := by decide +kernel
theorem dX1_readerClause_12 : decode cX1_readerClause 12 = .ok (.getfield 18, 3) := by decide +kernel
theorem dX1_readerClause_15 : decode cX1_readerClause 15 = .ok (.iload_n 1, 1) := by decide +kernel
theorem dX1_readerClause_16 : decode cX1_readerClause 16 = .ok (.iconst 4, 1) := by decide +kernel
theorem dX1_readerClause_17 : decode cX1_readerClause 17 = .ok (.invokestatic 25, 3) := by decide +kernel
theorem dX1_readerClause_20 : decode cX1_readerClause 20 = .ok (.aload_n 0, 1) := by decide +kernel
theorem dX1_readerClause_21 : decode cX1_readerClause 21 = .ok (.dup, 1) := by decide +kernel
theorem dX1_readerClause_22 : decode cX1_readerClause 22 = .ok (.getfield 35, 3) := by decide +kernel
theorem dX1_readerClause_25 : decode cX1_readerClause 25 = .ok (.iconst 1, 1) := by decide +kernel
theorem dX1_readerClause_26 : decode cX1_readerClause 26 = .ok (.iadd, 1) := by decide +kernel
theorem dX1_readerClause_27 : decode cX1_readerClause 27 = .ok (.putfield 35, 3) := by decide +kernel
theorem dX1_readerClause_30 : decode cX1_readerClause 30 = .ok (.aload_n 0, 1) := by decide +kernel
theorem dX1_readerClause_31 : decode cX1_readerClause 31 = .ok (.iconst 2, 1) := by decide +kernel
theorem dX1_readerClause_32 : decode cX1_readerClause 32 = .ok (.aload_n 0, 1) := by decide +kernel
theorem dX1_readerClause_33 : decode cX1_readerClause 33 = .ok (.getfield 18, 3) := by decide +kernel
theorem dX1_readerClause_36 : decode cX1_readerClause 36 = .ok (.iload_n 1, 1) := by decide +kernel
theorem dX1_readerClause_37 : decode cX1_readerClause 37 = .ok (.invokevirtual 102, 3) := by decide +kernel
theorem dX1_readerClause_40 : decode cX1_readerClause 40 = .ok (.ireturn, 1) := by decide +kernel
theorem dX1_items_0 : decode cX1_items 0 = .ok (.iload_n 1, 1) := by decide +kernel
theorem dX1_items_1 : decode cX1_items 1 = .ok (.ifCond .ne 8, 3) := by decide +kernel
theorem dX1_items_4 : decode cX1_items 4 = .ok (.ldc 112, 2) := by decide +kernel
theorem dX1_items_6 : decode cX1_items 6 = .ok (.goto 15, 3) := by decide +kernel
theorem dX1_items_9 : decode cX1_items 9 = .ok (.iload_n 1, 1) := by decide +kernel
theorem dX1_items_10 : decode cX1_items 10 = .ok (.iconst 1, 1) := by decide +kernel
theorem dX1_items_11 : decode cX1_items 11 = .ok (.if_icmp .ne 8, 3) := by decide +kernel
theorem dX1_items_14 : decode cX1_items 14 = .ok (.ldc 114, 2) := by decide +kernel
theorem dX1_items_16 : decode cX1_items 16 = .ok (.goto 5, 3) := by decide +kernel
theorem dX1_items_19 : decode cX1_items 19 = .ok (.ldc 116, 2) := by decide +kernel
theorem dX1_items_21 : decode cX1_items 21 = .ok (.astore 4, 2) := by decide +kernel
theorem dX1_items_23 : decode cX1_items 23 = .ok (.iload_n 1, 1) := by decide +kernel
theorem dX1_items_24 : decode cX1_items 24 = .ok (.ifCond .ne 9, 3) := by decide +kernel
theorem dX1_items_27 : decode cX1_items 27 = .ok (.getstatic 118, 3) := by decide +kernel
theorem dX1_items_30 : decode cX1_items 30 = .ok (.goto 17, 3) := by decide +kernel
theorem dX1_items_33 : decode cX1_items 33 = .ok (.iload_n 1, 1) := by decide +kernel
theorem dX1_items_34 : decode cX1_items 34 = .ok (.iconst 1, 1) := by decide +kernel
theorem dX1_items_35 : decode cX1_items 35 = .ok (.if_icmp .ne 9, 3) := by decide +kernel
theorem dX1_items_38 : decode cX1_items 38 = .ok (.getstatic 121, 3) := by decide +kernel
theorem dX1_items_41 : decode cX1_items 41 = .ok (.goto 6, 3) := by decide +kernel
theorem dX1_items_44 : decode cX1_items 44 = .ok (.getstatic 124, 3) := by decide +kernel
theorem dX1_items_47 : decode cX1_items 47 = .ok (.astore 5, 2) := by decide +kernel
theorem dX1_items_49 : decode cX1_items 49 = .ok (.iload_n 1, 1) := by decide +kernel
theorem dX1_items_50 : decode cX1_items 50 = .ok (.ifCond .ne 9, 3) := by decide +kernel
theorem dX1_items_53 : decode cX1_items 53 = .ok (.getstatic 127, 3) := by decide +kernel
theorem dX1_items_56 : decode cX1_items 56 = .ok (.goto 17, 3) := by decide +kernel
theorem dX1_items_59 : decode cX1_items 59 = .ok (.iload_n 1, 1) := by decide +kernel
theorem dX1_items_60 : decode cX1_items 60 = .ok (.iconst 1, 1) := by decide +kernel
theorem dX1_items_61 : decode cX1_items 61 = .ok (.if_icmp .ne 9, 3) := by decide +kernel
theorem dX1_items_64 : decode cX1_items 64 = .ok (.getstatic 130, 3) := by decide +kernel
theorem dX1_items_67 : decode cX1_items 67 = .ok (.goto 6, 3) := by decide +kernel
theorem dX1_items_70 : decode cX1_items 70 = .ok (.getstatic 133, 3) := by decide +kernel
theorem dX1_items_73 : decode cX1_items 73 = .ok (.astore 6, 2) := by decide +kernel
theorem dX1_items_75 : decode cX1_items 75 = .ok (.iconst 0, 1) := by decide +kernel
theorem dX1_items_76 : decode cX1_items 76 = .ok (.istore 7, 2) := by decide +kernel
theorem dX1_items_78 : decode cX1_items 78 = .ok (.aload_n 0, 1) := by decide +kernel
theorem dX1_items_79 : decode cX1_items 79 = .ok (.getfield 21, 3) := by decide +kernel
theorem dX1_items_82 : decode cX1_items 82 = .ok (.dup, 1) := by decide +kernel
theorem dX1_items_83 : decode cX1_items 83 = .ok (.getfield 136, 3) := by decide +kernel
theorem dX1_items_86 : decode cX1_items 86 = .ok (.iconst 1, 1) := by decide +kernel
theorem dX1_items_87 : decode cX1_items 87 = .ok (.iadd, 1) := by decide +kernel
theorem dX1_items_88 : decode cX1_items 88 = .ok (.putfield 136, 3) := by decide +kernel
theorem dX1_items_91 : decode cX1_items 91 = .ok (.iconst 0, 1) := by decide +kernel
theorem dX1_items_92 : decode cX1_items 92 = .ok (.istore 8, 2) := by decide +kernel
theorem dX1_items_94 : decode cX1_items 94 = .ok (.iload 8, 2) := by decide +kernel
theorem dX1_items_96 : decode cX1_items 96 = .ok (.aload 4, 2) := by decide +kernel
theorem dX1_items_98 : decode cX1_items 98 = .ok (.invokevirtual 139, 3) := by decide +kernel
theorem dX1_items_101 : decode cX1_items 101 = .ok (.if_icmp .gt 120, 3) := by decide +kernel
theorem dX1_items_104 : decode cX1_items 104 = .ok (.aload_n 0, 1) := by decide +kernel
theorem dX1_items_105 : decode cX1_items 105 = .ok (.getfield 21, 3) := by decide +kernel
theorem dX1_items_108 : decode cX1_items 108 = .ok (.aload 4, 2) := by decide +kernel
theorem dX1_items_110 : decode cX1_items 110 = .ok (.invokevirtual 144, 3) := by decide +kernel
theorem dX1_items_113 : decode cX1_items 113 = .ok (.istore 9, 2) := by decide +kernel
theorem dX1_items_115 : decode cX1_items 115 = .ok (.iload 9, 2) := by decide +kernel
theorem dX1_items_117 : decode cX1_items 117 = .ok (.ifCond .lt 11, 3) := by decide +kernel
theorem dX1_items_120 : decode cX1_items 120 = .ok (.iload 9, 2) := by decide +kernel
theorem dX1_items_122 : decode cX1_items 122 = .ok (.aload 5, 2) := by decide +kernel
theorem dX1_items_124 : decode cX1_items 124 = .ok (.arraylength, 1) := by decide +kernel
theorem dX1_items_125 : decode cX1_items 125 = .ok (.if_icmp .lt 5, 3) := by decide +kernel
theorem dX1_items_128 : decode cX1_items 128 = .ok (.iconst 1, 1) := by decide +kernel
theorem dX1_items_129 : decode cX1_items 129 = .ok (.ireturn, 1) := by decide +kernel
theorem dX1_items_130 : decode cX1_items 130 = .ok (.iload 7, 2) := by decide +kernel
theorem dX1_items_132 : decode cX1_items 132 = .ok (.iload 9, 2) := by decide +kernel
theorem dX1_items_134 : decode cX1_items 134 = .ok (.ishr, 1) := by decide +kernel
theorem dX1_items_135 : decode cX1_items 135 = .ok (.iconst 1, 1) := by decide +kernel
theorem dX1_items_136 : decode cX1_items 136 = .ok (.iand, 1) := by decide +kernel
theorem dX1_items_137 : decode cX1_items 137 = .ok (.iconst 1, 1) := by decide +kernel
theorem dX1_items_138 : decode cX1_items 138 = .ok (.if_icmp .ne 11, 3) := by decide +kernel
theorem dX1_items_141 : decode cX1_items 141 = .ok (.aload_n 0, 1) := by decide +kernel
theorem dX1_items_142 : decode cX1_items 142 = .ok (.getfield 21, 3) := by decide +kernel
theorem dX1_items_145 : decode cX1_items 145 = .ok (.invokevirtual 90, 3) := by decide +kernel
theorem dX1_items_148 : decode cX1_items 148 = .ok (.ireturn, 1) := by decide +kernel
theorem dX1_items_149 : decode cX1_items 149 = .ok (.iload 7, 2) := by decide +kernel
theorem dX1_items_151 : decode cX1_items 151 = .ok (.iconst 1, 1) := by decide +kernel
theorem dX1_items_152 : decode cX1_items 152 = .ok (.iload 9, 2) := by decide +kernel
theorem dX1_items_154 : decode cX1_items 154 = .ok (.ishl, 1) := by decide +kernel
theorem dX1_items_155 : decode cX1_items 155 = .ok (.ior, 1) := by decide +kernel
theorem dX1_items_156 : decode cX1_items 156 = .ok (.istore 7, 2) := by decide +kernel
theorem dX1_items_158 : decode cX1_items 158 = .ok (.aload_n 0, 1) := by decide +kernel
theorem dX1_items_159 : decode cX1_items 159 = .ok (.getfield 21, 3) := by decide +kernel
theorem dX1_items_162 : decode cX1_items 162 = .ok (.dup, 1) := by decide +kernel
theorem dX1_items_163 : decode cX1_items 163 = .ok (.getfield 136, 3) := by decide +kernel
theorem dX1_items_166 : decode cX1_items 166 = .ok (.iconst 1, 1) := by decide +kernel
theorem dX1_items_167 : decode cX1_items 167 = .ok (.iadd, 1) := by decide +kernel
theorem dX1_items_168 : decode cX1_items 168 = .ok (.putfield 136, 3) := by decide +kernel
theorem dX1_items_171 : decode cX1_items 171 = .ok (.aload_n 0, 1) := by decide +kernel
theorem dX1_items_172 : decode cX1_items 172 = .ok (.getfield 21, 3) := by decide +kernel
theorem dX1_items_175 : decode cX1_items 175 = .ok (.iconst 2, 1) := by decide +kernel
theorem dX1_items_176 : decode cX1_items 176 = .ok (.aload 5, 2) := by decide +kernel
theorem dX1_items_178 : decode cX1_items 178 = .ok (.iload 9, 2) := by decide +kernel
theorem dX1_items_180 : decode cX1_items 180 = .ok (.iaload, 1) := by decide +kernel
theorem dX1_items_181 : decode cX1_items 181 = .ok (.aload 6, 2) := by decide +kernel
theorem dX1_items_183 : decode cX1_items 183 = .ok (.iload 9, 2) := by decide +kernel
theorem dX1_items_185 : decode cX1_items 185 = .ok (.iaload, 1) := by decide +kernel
theorem dX1_items_186 : decode cX1_items 186 = .ok (.invokevirtual 148, 3) := by decide +kernel
theorem dX1_items_189 : decode cX1_items 189 = .ok (.istore 10, 2) := by decide +kernel
theorem dX1_items_191 : decode cX1_items 191 = .ok (.iload 10, 2) := by decide +kernel
theorem dX1_items_193 : decode cX1_items 193 = .ok (.ifCond .lt 12, 3) := by decide +kernel
theorem dX1_items_196 : decode cX1_items 196 = .ok (.iload_n 3, 1) := by decide +kernel
theorem dX1_items_197 : decode cX1_items 197 = .ok (.iload 9, 2) := by decide +kernel
theorem dX1_items_199 : decode cX1_items 199 = .ok (.iadd, 1) := by decide +kernel
theorem dX1_items_200 : decode cX1_items 200 = .ok (.aload_n 2, 1) := by decide +kernel
theorem dX1_items_201 : decode cX1_items 201 = .ok (.arraylength, 1) := by decide +kernel
theorem dX1_items_202 : decode cX1_items 202 = .ok (.if_icmp .lt 5, 3) := by decide +kernel
theorem dX1_items_205 : decode cX1_items 205 = .ok (.iconst 0, 1) := by decide +kernel
theorem dX1_items_206 : decode cX1_items 206 = .ok (.ireturn, 1) := by decide +kernel
theorem dX1_items_207 : decode cX1_items 207 = .ok (.aload_n 2, 1) := by decide +kernel
theorem dX1_items_208 : decode cX1_items 208 = .ok (.iload_n 3, 1) := by decide +kernel
theorem dX1_items_209 : decode cX1_items 209 = .ok (.iload 9, 2) := by decide +kernel
theorem dX1_items_211 : decode cX1_items 211 = .ok (.iadd, 1) := by decide +kernel
theorem dX1_items_212 : decode cX1_items 212 = .ok (.iload 10, 2) := by decide +kernel
theorem dX1_items_214 : decode cX1_items 214 = .ok (.iastore, 1) := by decide +kernel
theorem dX1_items_215 : decode cX1_items 215 = .ok (.iinc 8 1, 3) := by decide +kernel
theorem dX1_items_218 : decode cX1_items 218 = .ok (.goto (-124), 3) := by decide +kernel
theorem dX1_items_221 : decode cX1_items 221 = .ok (.iconst 1, 1) := by decide +kernel
theorem dX1_items_222 : decode cX1_items 222 = .ok (.ireturn, 1) := by decide +kernel
theorem dX1_isPeopled_0 : decode cX1_isPeopled 0 = .ok (.aload_n 0, 1) := by decide +kernel
theorem dX1_isPeopled_1 : decode cX1_isPeopled 1 = .ok (.getfield 31, 3) := by decide +kernel
theorem dX1_isPeopled_4 : decode cX1_isPeopled 4 = .ok (.ifCond .le 14, 3) := by decide +kernel
theorem dX1_isPeopled_7 : decode cX1_isPeopled 7 = .ok (.aload_n 0, 1) := by decide +kernel
theorem dX1_isPeopled_8 : decode cX1_isPeopled 8 = .ok (.getfield 35, 3) := by decide +kernel
theorem dX1_isPeopled_11 : decode cX1_isPeopled 11 = .ok (.ifCond .le 7, 3) := by decide +kernel
theorem dX1_isPeopled_14 : decode cX1_isPeopled 14 = .ok (.iconst 1, 1) := by decide +kernel
theorem dX1_isPeopled_15 : decode cX1_isPeopled 15 = .ok (.goto 4, 3) := by decide +kernel
theorem dX1_isPeopled_18 : decode cX1_isPeopled 18 = .ok (.iconst 0, 1) := by decide +kernel
theorem dX1_isPeopled_19 : decode cX1_isPeopled 19 = .ok (.ireturn, 1) := by decide +kernel
theorem dX1_cellsFit_0 : decode cX1_cellsFit 0 = .ok (.iconst 0, 1) := by decide +kernel
theorem dX1_cellsFit_1 : decode cX1_cellsFit 1 = .ok (.istore_n 1, 1) := by decide +kernel
theorem dX1_cellsFit_2 : decode cX1_cellsFit 2 = .ok (.iload_n 1, 1) := by decide +kernel
theorem dX1_cellsFit_3 : decode cX1_cellsFit 3 = .ok (.aload_n 0, 1) := by decide +kernel
theorem dX1_cellsFit_4 : decode cX1_cellsFit 4 = .ok (.getfield 31, 3) := by decide +kernel
theorem dX1_cellsFit_7 : decode cX1_cellsFit 7 = .ok (.if_icmp .ge 23, 3) := by decide +kernel
theorem dX1_cellsFit_10 : decode cX1_cellsFit 10 = .ok (.aload_n 0, 1) := by decide +kernel
theorem dX1_cellsFit_11 : decode cX1_cellsFit 11 = .ok (.aload_n 0, 1) := by decide +kernel
theorem dX1_cellsFit_12 : decode cX1_cellsFit 12 = .ok (.iload_n 1, 1) := by decide +kernel
theorem dX1_cellsFit_13 : decode cX1_cellsFit 13 = .ok (.invokevirtual 152, 3) := by decide +kernel
theorem dX1_cellsFit_16 : decode cX1_cellsFit 16 = .ok (.invokevirtual 155, 3) := by decide +kernel
theorem dX1_cellsFit_19 : decode cX1_cellsFit 19 = .ok (.ifCond .ne 5, 3) := by decide +kernel
theorem dX1_cellsFit_22 : decode cX1_cellsFit 22 = .ok (.iconst 0, 1) := by decide +kernel
theorem dX1_cellsFit_23 : decode cX1_cellsFit 23 = .ok (.ireturn, 1) := by decide +kernel
theorem dX1_cellsFit_24 : decode cX1_cellsFit 24 = .ok (.iinc 1 1, 3) := by decide +kernel
theorem dX1_cellsFit_27 : decode cX1_cellsFit 27 = .ok (.goto (-25), 3) := by decide +kernel
theorem dX1_cellsFit_30 : decode cX1_cellsFit 30 = .ok (.iconst 0, 1) := by decide +kernel
theorem dX1_cellsFit_31 : decode cX1_cellsFit 31 = .ok (.istore_n 1, 1) := by decide +kernel
theorem dX1_cellsFit_32 : decode cX1_cellsFit 32 = .ok (.iload_n 1, 1) := by decide +kernel
theorem dX1_cellsFit_33 : decode cX1_cellsFit 33 = .ok (.aload_n 0, 1) := by decide +kernel
theorem dX1_cellsFit_34 : decode cX1_cellsFit 34 = .ok (.getfield 35, 3) := by decide +kernel
theorem dX1_cellsFit_37 : decode cX1_cellsFit 37 = .ok (.if_icmp .ge 23, 3) := by decide +kernel
theorem dX1_cellsFit_40 : decode cX1_cellsFit 40 = .ok (.aload_n 0, 1) := by decide +kernel
theorem dX1_cellsFit_41 : decode cX1_cellsFit 41 = .ok (.aload_n 0, 1) := by decide +kernel
theorem dX1_cellsFit_42 : decode cX1_cellsFit 42 = .ok (.iload_n 1, 1) := by decide +kernel
theorem dX1_cellsFit_43 : decode cX1_cellsFit 43 = .ok (.invokevirtual 158, 3) := by decide +kernel
theorem dX1_cellsFit_46 : decode cX1_cellsFit 46 = .ok (.invokevirtual 155, 3) := by decide +kernel
theorem dX1_cellsFit_49 : decode cX1_cellsFit 49 = .ok (.ifCond .ne 5, 3) := by decide +kernel
theorem dX1_cellsFit_52 : decode cX1_cellsFit 52 = .ok (.iconst 0, 1) := by decide +kernel
theorem dX1_cellsFit_53 : decode cX1_cellsFit 53 = .ok (.ireturn, 1) := by decide +kernel
theorem dX1_cellsFit_54 : decode cX1_cellsFit 54 = .ok (.iinc 1 1, 3) := by decide +kernel
theorem dX1_cellsFit_57 : decode cX1_cellsFit 57 = .ok (.goto (-25), 3) := by decide +kernel
theorem dX1_cellsFit_60 : decode cX1_cellsFit 60 = .ok (.iconst 1, 1) := by decide +kernel
theorem dX1_cellsFit_61 : decode cX1_cellsFit 61 = .ok (.ireturn, 1) := by decide +kernel
theorem dX2_init_0 : decode cX2_init 0 = .ok (.aload_n 0, 1) := by decide +kernel
theorem dX2_init_1 : decode cX2_init 1 = .ok (.invokespecial 3, 3) := by decide +kernel
theorem dX2_init_4 : decode cX2_init 4 = .ok (.aload_n 0, 1) := by decide +kernel
theorem dX2_init_5 : decode cX2_init 5 = .ok (.sipush 400, 3) := by decide +kernel
theorem dX2_init_8 : decode cX2_init 8 = .ok (.newarray .int, 2) := by decide +kernel
theorem dX2_init_10 : decode cX2_init 10 = .ok (.putfield 11, 3) := by decide +kernel
theorem dX2_init_13 : decode cX2_init 13 = .ok (.return_, 1) := by decide +kernel
theorem dX2_clear_0 : decode cX2_clear 0 = .ok (.aload_n 0, 1) := by decide +kernel
theorem dX2_clear_1 : decode cX2_clear 1 = .ok (.iconst 0, 1) := by decide +kernel
theorem dX2_clear_2 : decode cX2_clear 2 = .ok (.putfield 15, 3) := by decide +kernel
theorem dX2_clear_5 : decode cX2_clear 5 = .ok (.aload_n 0, 1) := by decide +kernel
theorem dX2_clear_6 : decode cX2_clear 6 = .ok (.iconst 0, 1) := by decide +kernel
theorem dX2_clear_7 : decode cX2_clear 7 = .ok (.putfield 19, 3) := by decide +kernel
theorem dX2_clear_10 : decode cX2_clear 10 = .ok (.return_, 1) := by decide +kernel
theorem dX2_takeFrom_0 : decode cX2_takeFrom 0 = .ok (.aload_n 1, 1) := by decide +kernel
theorem dX2_takeFrom_1 : decode cX2_takeFrom 1 = .ok (.getfield 11, 3) := by decide +kernel
theorem dX2_takeFrom_4 : decode cX2_takeFrom 4 = .ok (.iconst 0, 1) := by decide +kernel
theorem dX2_takeFrom_5 : decode cX2_takeFrom 5 = .ok (.aload_n 0, 1) := by decide +kernel
theorem dX2_takeFrom_6 : decode cX2_takeFrom 6 = .ok (.getfield 11, 3) := by decide +kernel
theorem dX2_takeFrom_9 : decode cX2_takeFrom 9 = .ok (.iconst 0, 1) := by decide +kernel
theorem dX2_takeFrom_10 : decode cX2_takeFrom 10 = .ok (.aload_n 0, 1) := by decide +kernel
theorem dX2_takeFrom_11 : decode cX2_takeFrom 11 = .ok (.getfield 11, 3) := by decide +kernel
theorem dX2_takeFrom_14 : decode cX2_takeFrom 14 = .ok (.arraylength, 1) := by decide +kernel
theorem dX2_takeFrom_15 : decode cX2_takeFrom 15 = .ok (.invokestatic 22, 3) := by decide +kernel
theorem dX2_takeFrom_18 : decode cX2_takeFrom 18 = .ok (.aload_n 0, 1) := by decide +kernel
theorem dX2_takeFrom_19 : decode cX2_takeFrom 19 = .ok (.aload_n 1, 1) := by decide +kernel
theorem dX2_takeFrom_20 : decode cX2_takeFrom 20 = .ok (.getfield 15, 3) := by decide +kernel
theorem dX2_takeFrom_23 : decode cX2_takeFrom 23 = .ok (.putfield 15, 3) := by decide +kernel
theorem dX2_takeFrom_26 : decode cX2_takeFrom 26 = .ok (.aload_n 0, 1) := by decide +kernel
theorem dX2_takeFrom_27 : decode cX2_takeFrom 27 = .ok (.aload_n 1, 1) := by decide +kernel
theorem dX2_takeFrom_28 : decode cX2_takeFrom 28 = .ok (.getfield 19, 3) := by decide +kernel
theorem dX2_takeFrom_31 : decode cX2_takeFrom 31 = .ok (.putfield 19, 3) := by decide +kernel
theorem dX2_takeFrom_34 : decode cX2_takeFrom 34 = .ok (.return_, 1) := by decide +kernel
theorem dX2_add_0 : decode cX2_add 0 = .ok (.aload_n 0, 1) := by decide +kernel
theorem dX2_add_1 : decode cX2_add 1 = .ok (.getfield 19, 3) := by decide +kernel
theorem dX2_add_4 : decode cX2_add 4 = .ok (.iconst 4, 1) := by decide +kernel
theorem dX2_add_5 : decode cX2_add 5 = .ok (.imul, 1) := by decide +kernel
theorem dX2_add_6 : decode cX2_add 6 = .ok (.istore 5, 2) := by decide +kernel
theorem dX2_add_8 : decode cX2_add 8 = .ok (.iload 5, 2) := by decide +kernel
theorem dX2_add_10 : decode cX2_add 10 = .ok (.ifCond .lt 15, 3) := by decide +kernel
theorem dX2_add_13 : decode cX2_add 13 = .ok (.iload 5, 2) := by decide +kernel
theorem dX2_add_15 : decode cX2_add 15 = .ok (.iconst 4, 1) := by decide +kernel
theorem dX2_add_16 : decode cX2_add 16 = .ok (.iadd, 1) := by decide +kernel
theorem dX2_add_17 : decode cX2_add 17 = .ok (.aload_n 0, 1) := by decide +kernel
theorem dX2_add_18 : decode cX2_add 18 = .ok (.getfield 11, 3) := by decide +kernel
theorem dX2_add_21 : decode cX2_add 21 = .ok (.arraylength, 1) := by decide +kernel
theorem dX2_add_22 : decode cX2_add 22 = .ok (.if_icmp .le 4, 3) := by decide +kernel
theorem dX2_add_25 : decode cX2_add 25 = .ok (.return_, 1) := by decide +kernel
theorem dX2_add_26 : decode cX2_add 26 = .ok (.aload_n 0, 1) := by decide +kernel
theorem dX2_add_27 : decode cX2_add 27 = .ok (.getfield 11, 3) := by decide +kernel
theorem dX2_add_30 : decode cX2_add 30 = .ok (.iload 5, 2) := by decide +kernel
theorem dX2_add_32 : decode cX2_add 32 = .ok (.iload_n 1, 1) := by decide +kernel
theorem dX2_add_33 : decode cX2_add 33 = .ok (.iastore, 1) := by decide +kernel
theorem dX2_add_34 : decode cX2_add 34 = .ok (.aload_n 0, 1) := by decide +kernel
theorem dX2_add_35 : decode cX2_add 35 = .ok (.getfield 11, 3) := by decide +kernel
theorem dX2_add_38 : decode cX2_add 38 = .ok (.iload 5, 2) := by decide +kernel
theorem dX2_add_40 : decode cX2_add 40 = .ok (.iconst 1, 1) := by decide +kernel
theorem dX2_add_41 : decode cX2_add 41 = .ok (.iadd, 1) := by decide +kernel
theorem dX2_add_42 : decode cX2_add 42 = .ok (.iload_n 2, 1) := by decide +kernel
theorem dX2_add_43 : decode cX2_add 43 = .ok (.iastore, 1) := by decide +kernel
theorem dX2_add_44 : decode cX2_add 44 = .ok (.aload_n 0, 1) := by decide +kernel
theorem dX2_add_45 : decode cX2_add 45 = .ok (.getfield 11, 3) := by decide +kernel
theorem dX2_add_48 : decode cX2_add 48 = .ok (.iload 5, 2) := by decide +kernel
theorem dX2_add_50 : decode cX2_add 50 = .ok (.iconst 2, 1) := by decide +kernel
theorem dX2_add_51 : decode cX2_add 51 = .ok (.iadd, 1) := by decide +kernel
theorem dX2_add_52 : decode cX2_add 52 = .ok (.iload_n 3, 1) := by decide +kernel
theorem dX2_add_53 : decode cX2_add 53 = .ok (.iastore, 1) := by decide +kernel
theorem dX2_add_54 : decode cX2_add 54 = .ok (.aload_n 0, 1) := by decide +kernel
theorem dX2_add_55 : decode cX2_add 55 = .ok (.getfield 11, 3) := by decide +kernel
theorem dX2_add_58 : decode cX2_add 58 = .ok (.iload 5, 2) := by decide +kernel
theorem dX2_add_60 : decode cX2_add 60 = .ok (.iconst 3, 1) := by decide +kernel
theorem dX2_add_61 : decode cX2_add 61 = .ok (.iadd, 1) := by decide +kernel
theorem dX2_add_62 : decode cX2_add 62 = .ok (.iload 4, 2) := by decide +kernel
theorem dX2_add_64 : decode cX2_add 64 = .ok (.iastore, 1) := by decide +kernel
theorem dX2_add_65 : decode cX2_add 65 = .ok (.aload_n 0, 1) := by decide +kernel
theorem dX2_add_66 : decode cX2_add 66 = .ok (.aload_n 0, 1) := by decide +kernel
theorem dX2_add_67 : decode cX2_add 67 = .ok (.getfield 19, 3) := by decide +kernel
theorem dX2_add_70 : decode cX2_add 70 = .ok (.iconst 1, 1) := by decide +kernel
theorem dX2_add_71 : decode cX2_add 71 = .ok (.iadd, 1) := by decide +kernel
theorem dX2_add_72 : decode cX2_add 72 = .ok (.bipush 100, 2) := by decide +kernel
theorem dX2_add_74 : decode cX2_add 74 = .ok (.irem, 1) := by decide +kernel
theorem dX2_add_75 : decode cX2_add 75 = .ok (.putfield 19, 3) := by decide +kernel
theorem dX2_add_78 : decode cX2_add 78 = .ok (.aload_n 0, 1) := by decide +kernel
theorem dX2_add_79 : decode cX2_add 79 = .ok (.bipush 100, 2) := by decide +kernel
theorem dX2_add_81 : decode cX2_add 81 = .ok (.aload_n 0, 1) := by decide +kernel
theorem dX2_add_82 : decode cX2_add 82 = .ok (.getfield 15, 3) := by decide +kernel
theorem dX2_add_85 : decode cX2_add 85 = .ok (.iconst 1, 1) := by decide +kernel
theorem dX2_add_86 : decode cX2_add 86 = .ok (.iadd, 1) := by decide +kernel
theorem dX2_add_87 : decode cX2_add 87 = .ok (.invokestatic 28, 3) := by decide +kernel
theorem dX2_add_90 : decode cX2_add 90 = .ok (.putfield 15, 3) := by decide +kernel
theorem dX2_add_93 : decode cX2_add 93 = .ok (.return_, 1) := by decide +kernel
theorem dX2_dropLatest_0 : decode cX2_dropLatest 0 = .ok (.aload_n 0, 1) := by decide +kernel
theorem dX2_dropLatest_1 : decode cX2_dropLatest 1 = .ok (.getfield 15, 3) := by decide +kernel
theorem dX2_dropLatest_4 : decode cX2_dropLatest 4 = .ok (.ifCond .le 29, 3) := by decide +kernel
theorem dX2_dropLatest_7 : decode cX2_dropLatest 7 = .ok (.aload_n 0, 1) := by decide +kernel
theorem dX2_dropLatest_8 : decode cX2_dropLatest 8 = .ok (.dup, 1) := by decide +kernel
theorem dX2_dropLatest_9 : decode cX2_dropLatest 9 = .ok (.getfield 15, 3) := by decide +kernel
theorem dX2_dropLatest_12 : decode cX2_dropLatest 12 = .ok (.iconst 1, 1) := by decide +kernel
theorem dX2_dropLatest_13 : decode cX2_dropLatest 13 = .ok (.isub, 1) := by decide +kernel
theorem dX2_dropLatest_14 : decode cX2_dropLatest 14 = .ok (.putfield 15, 3) := by decide +kernel
theorem dX2_dropLatest_17 : decode cX2_dropLatest 17 = .ok (.aload_n 0, 1) := by decide +kernel
theorem dX2_dropLatest_18 : decode cX2_dropLatest 18 = .ok (.aload_n 0, 1) := by decide +kernel
theorem dX2_dropLatest_19 : decode cX2_dropLatest 19 = .ok (.getfield 19, 3) := by decide +kernel
theorem dX2_dropLatest_22 : decode cX2_dropLatest 22 = .ok (.bipush 100, 2) := by decide +kernel
theorem dX2_dropLatest_24 : decode cX2_dropLatest 24 = .ok (.iadd, 1) := by decide +kernel
theorem dX2_dropLatest_25 : decode cX2_dropLatest 25 = .ok (.iconst 1, 1) := by decide +kernel
theorem dX2_dropLatest_26 : decode cX2_dropLatest 26 = .ok (.isub, 1) := by decide +kernel
theorem dX2_dropLatest_27 : decode cX2_dropLatest 27 = .ok (.bipush 100, 2) := by decide +kernel
theorem dX2_dropLatest_29 : decode cX2_dropLatest 29 = .ok (.irem, 1) := by decide +kernel
theorem dX2_dropLatest_30 : decode cX2_dropLatest 30 = .ok (.putfield 19, 3) := by decide +kernel
theorem dX2_dropLatest_33 : decode cX2_dropLatest 33 = .ok (.return_, 1) := by decide +kernel
theorem dX2_told_0 : decode cX2_told 0 = .ok (.aload_n 0, 1) := by decide +kernel
theorem dX2_told_1 : decode cX2_told 1 = .ok (.getfield 15, 3) := by decide +kernel
theorem dX2_told_4 : decode cX2_told 4 = .ok (.bipush 60, 2) := by decide +kernel
theorem dX2_told_6 : decode cX2_told 6 = .ok (.invokestatic 28, 3) := by decide +kernel
theorem dX2_told_9 : decode cX2_told 9 = .ok (.ireturn, 1) := by decide +kernel
theorem dX2_entry_0 : decode cX2_entry 0 = .ok (.iload_n 1, 1) := by decide +kernel
theorem dX2_entry_1 : decode cX2_entry 1 = .ok (.ifCond .lt 20, 3) := by decide +kernel
theorem dX2_entry_4 : decode cX2_entry 4 = .ok (.iload_n 1, 1) := by decide +kernel
theorem dX2_entry_5 : decode cX2_entry 5 = .ok (.aload_n 0, 1) := by decide +kernel
theorem dX2_entry_6 : decode cX2_entry 6 = .ok (.invokevirtual 34, 3) := by decide +kernel
theorem dX2_entry_9 : decode cX2_entry 9 = .ok (.if_icmp .ge 12, 3) := by decide +kernel
theorem dX2_entry_12 : decode cX2_entry 12 = .ok (.iload_n 2, 1) := by decide +kernel
theorem dX2_entry_13 : decode cX2_entry 13 = .ok (.ifCond .lt 8, 3) := by decide +kernel
theorem dX2_entry_16 : decode cX2_entry 16 = .ok (.iload_n 2, 1) := by decide +kernel
theorem dX2_entry_17 : decode cX2_entry 17 = .ok (.iconst 4, 1) := by decide +kernel
theorem dX2_entry_18 : decode cX2_entry 18 = .ok (.if_icmp .lt 6, 3) := by decide +kernel
theorem dX2_entry_21 : decode cX2_entry 21 = .ok (.ldc 38, 2) := by decide +kernel
theorem dX2_entry_23 : decode cX2_entry 23 = .ok (.ireturn, 1) := by decide +kernel
theorem dX2_entry_24 : decode cX2_entry 24 = .ok (.aload_n 0, 1) := by decide +kernel
theorem dX2_entry_25 : decode cX2_entry 25 = .ok (.getfield 19, 3) := by decide +kernel
theorem dX2_entry_28 : decode cX2_entry 28 = .ok (.bipush 100, 2) := by decide +kernel
theorem dX2_entry_30 : decode cX2_entry 30 = .ok (.iadd, 1) := by decide +kernel
theorem dX2_entry_31 : decode cX2_entry 31 = .ok (.iconst 1, 1) := by decide +kernel
theorem dX2_entry_32 : decode cX2_entry 32 = .ok (.isub, 1) := by decide +kernel
theorem dX2_entry_33 : decode cX2_entry 33 = .ok (.iload_n 1, 1) := by decide +kernel
theorem dX2_entry_34 : decode cX2_entry 34 = .ok (.isub, 1) := by decide +kernel
theorem dX2_entry_35 : decode cX2_entry 35 = .ok (.bipush 100, 2) := by decide +kernel
theorem dX2_entry_37 : decode cX2_entry 37 = .ok (.irem, 1) := by decide +kernel
theorem dX2_entry_38 : decode cX2_entry 38 = .ok (.istore_n 3, 1) := by decide +kernel
theorem dX2_entry_39 : decode cX2_entry 39 = .ok (.iload_n 3, 1) := by decide +kernel
theorem dX2_entry_40 : decode cX2_entry 40 = .ok (.ifCond .ge 8, 3) := by decide +kernel
theorem dX2_entry_43 : decode cX2_entry 43 = .ok (.ldc 38, 2) := by decide +kernel
theorem dX2_entry_45 : decode cX2_entry 45 = .ok (.goto 13, 3) := by decide +kernel
theorem dX2_entry_48 : decode cX2_entry 48 = .ok (.aload_n 0, 1) := by decide +kernel
theorem dX2_entry_49 : decode cX2_entry 49 = .ok (.getfield 11, 3) := by decide +kernel
theorem dX2_entry_52 : decode cX2_entry 52 = .ok (.iload_n 3, 1) := by decide +kernel
theorem dX2_entry_53 : decode cX2_entry 53 = .ok (.iconst 4, 1) := by decide +kernel
theorem dX2_entry_54 : decode cX2_entry 54 = .ok (.imul, 1) := by decide +kernel
theorem dX2_entry_55 : decode cX2_entry 55 = .ok (.iload_n 2, 1) := by decide +kernel
theorem dX2_entry_56 : decode cX2_entry 56 = .ok (.iadd, 1) := by decide +kernel
theorem dX2_entry_57 : decode cX2_entry 57 = .ok (.iaload, 1) := by decide +kernel
theorem dX2_entry_58 : decode cX2_entry 58 = .ok (.ireturn, 1) := by decide +kernel
theorem dX3_init_0 : decode cX3_init 0 = .ok (.aload_n 0, 1) := by decide +kernel
theorem dX3_init_1 : decode cX3_init 1 = .ok (.invokespecial 3, 3) := by decide +kernel
theorem dX3_init_4 : decode cX3_init 4 = .ok (.aload_n 0, 1) := by decide +kernel
theorem dX3_init_5 : decode cX3_init 5 = .ok (.sipush 242, 3) := by decide +kernel
theorem dX3_init_8 : decode cX3_init 8 = .ok (.newarray .int, 2) := by decide +kernel
theorem dX3_init_10 : decode cX3_init 10 = .ok (.putfield 11, 3) := by decide +kernel
theorem dX3_init_13 : decode cX3_init 13 = .ok (.aload_n 0, 1) := by decide +kernel
theorem dX3_init_14 : decode cX3_init 14 = .ok (.sipush 242, 3) := by decide +kernel
theorem dX3_init_17 : decode cX3_init 17 = .ok (.newarray .int, 2) := by decide +kernel
theorem dX3_init_19 : decode cX3_init 19 = .ok (.putfield 15, 3) := by decide +kernel
theorem dX3_init_22 : decode cX3_init 22 = .ok (.aload_n 0, 1) := by decide +kernel
theorem dX3_init_23 : decode cX3_init 23 = .ok (.sipush 242, 3) := by decide +kernel
theorem dX3_init_26 : decode cX3_init 26 = .ok (.newarray .int, 2) := by decide +kernel
theorem dX3_init_28 : decode cX3_init 28 = .ok (.putfield 18, 3) := by decide +kernel
theorem dX3_init_31 : decode cX3_init 31 = .ok (.aload_n 0, 1) := by decide +kernel
theorem dX3_init_32 : decode cX3_init 32 = .ok (.aload_n 1, 1) := by decide +kernel
theorem dX3_init_33 : decode cX3_init 33 = .ok (.putfield 21, 3) := by decide +kernel
theorem dX3_init_36 : decode cX3_init 36 = .ok (.return_, 1) := by decide +kernel
theorem dX3_parse_0 : decode cX3_parse 0 = .ok (.aload_n 0, 1) := by decide +kernel
theorem dX3_parse_1 : decode cX3_parse 1 = .ok (.iconst 0, 1) := by decide +kernel
theorem dX3_parse_2 : decode cX3_parse 2 = .ok (.putfield 25, 3) := by decide +kernel
theorem dX3_parse_5 : decode cX3_parse 5 = .ok (.aload_n 0, 1) := by decide +kernel
theorem dX3_parse_6 : decode cX3_parse 6 = .ok (.getfield 21, 3) := by decide +kernel
theorem dX3_parse_9 : decode cX3_parse 9 = .ok (.invokevirtual 29, 3) := by decide +kernel
theorem dX3_parse_12 : decode cX3_parse 12 = .ok (.iconst 1, 1) := by decide +kernel
theorem dX3_parse_13 : decode cX3_parse 13 = .ok (.istore_n 1, 1) := by decide +kernel
theorem dX3_parse_14 : decode cX3_parse 14 = .ok (.iconst 0, 1) := by decide +kernel
theorem dX3_parse_15 : decode cX3_parse 15 = .ok (.istore_n 2, 1) := by decide +kernel
theorem dX3_parse_16 : decode cX3_parse 16 = .ok (.iload_n 1, 1) := by decide +kernel
theorem dX3_parse_17 : decode cX3_parse 17 = .ok (.ifCond .eq 35, 3) := by decide +kernel
theorem dX3_parse_20 : decode cX3_parse 20 = .ok (.iload_n 2, 1) := by decide +kernel
theorem dX3_parse_21 : decode cX3_parse 21 = .ok (.sipush 240, 3) := by decide +kernel
theorem dX3_parse_24 : decode cX3_parse 24 = .ok (.if_icmp .gt 28, 3) := by decide +kernel
theorem dX3_parse_27 : decode cX3_parse 27 = .ok (.aload_n 0, 1) := by decide +kernel
theorem dX3_parse_28 : decode cX3_parse 28 = .ok (.invokevirtual 34, 3) := by decide +kernel
theorem dX3_parse_31 : decode cX3_parse 31 = .ok (.ifCond .ne 5, 3) := by decide +kernel
theorem dX3_parse_34 : decode cX3_parse 34 = .ok (.iconst 0, 1) := by decide +kernel
theorem dX3_parse_35 : decode cX3_parse 35 = .ok (.ireturn, 1) := by decide +kernel
theorem dX3_parse_36 : decode cX3_parse 36 = .ok (.aload_n 0, 1) := by decide +kernel
theorem dX3_parse_37 : decode cX3_parse 37 = .ok (.getfield 21, 3) := by decide +kernel
theorem dX3_parse_40 : decode cX3_parse 40 = .ok (.bipush 59, 2) := by decide +kernel
theorem dX3_parse_42 : decode cX3_parse 42 = .ok (.invokevirtual 38, 3) := by decide +kernel
theorem dX3_parse_45 : decode cX3_parse 45 = .ok (.istore_n 1, 1) := by decide +kernel
theorem dX3_parse_46 : decode cX3_parse 46 = .ok (.iinc 2 1, 3) := by decide +kernel
theorem dX3_parse_49 : decode cX3_parse 49 = .ok (.goto (-33), 3) := by decide +kernel
theorem dX3_parse_52 : decode cX3_parse 52 = .ok (.aload_n 0, 1) := by decide +kernel
theorem dX3_parse_53 : decode cX3_parse 53 = .ok (.getfield 21, 3) := by decide +kernel
theorem dX3_parse_56 : decode cX3_parse 56 = .ok (.invokevirtual 42, 3) := by decide +kernel
theorem dX3_parse_59 : decode cX3_parse 59 = .ok (.iconst (-1), 1) := by decide +kernel
theorem dX3_parse_60 : decode cX3_parse 60 = .ok (.if_icmp .eq 13, 3) := by decide +kernel
theorem dX3_parse_63 : decode cX3_parse 63 = .ok (.aload_n 0, 1) := by decide +kernel
theorem dX3_parse_64 : decode cX3_parse 64 = .ok (.getfield 21, 3) := by decide +kernel
theorem dX3_parse_67 : decode cX3_parse 67 = .ok (.invokevirtual 46, 3) := by decide +kernel
theorem dX3_parse_70 : decode cX3_parse 70 = .ok (.ifCond .eq 7, 3) := by decide +kernel
theorem dX3_parse_73 : decode cX3_parse 73 = .ok (.iconst 1, 1) := by decide +kernel
theorem dX3_parse_74 : decode cX3_parse 74 = .ok (.goto 4, 3) := by decide +kernel
theorem dX3_parse_77 : decode cX3_parse 77 = .ok (.iconst 0, 1) := by decide +kernel
theorem dX3_parse_78 : decode cX3_parse 78 = .ok (.ireturn, 1) := by decide +kernel
theorem dX3_emit_0 : decode cX3_emit 0 = .ok (.aload_n 0, 1) := by decide +kernel
theorem dX3_emit_1 : decode cX3_emit 1 = .ok (.getfield 25, 3) := by decide +kernel
theorem dX3_emit_4 : decode cX3_emit 4 = .ok (.aload_n 0, 1) := by decide +kernel
theorem dX3_emit_5 : decode cX3_emit 5 = .ok (.getfield 11, 3) := by decide +kernel
theorem dX3_emit_8 : decode cX3_emit 8 = .ok (.arraylength, 1) := by decide +kernel
theorem dX3_emit_9 : decode cX3_emit 9 = .ok (.if_icmp .ge 33, 3) := by decide +kernel
theorem dX3_emit_12 : decode cX3_emit 12 = .ok (.aload_n 0, 1) := by decide +kernel
theorem dX3_emit_13 : decode cX3_emit 13 = .ok (.getfield 11, 3) := by decide +kernel
theorem dX3_emit_16 : decode cX3_emit 16 = .ok (.aload_n 0, 1) := by decide +kernel
theorem dX3_emit_17 : decode cX3_emit 17 = .ok (.getfield 25, 3) := by decide +kernel
theorem dX3_emit_20 : decode cX3_emit 20 = .ok (.iload_n 1, 1) := by decide +kernel
theorem dX3_emit_21 : decode cX3_emit 21 = .ok (.iastore, 1) := by decide +kernel
theorem dX3_emit_22 : decode cX3_emit 22 = .ok (.aload_n 0, 1) := by decide +kernel
theorem dX3_emit_23 : decode cX3_emit 23 = .ok (.getfield 15, 3) := by decide +kernel
theorem dX3_emit_26 : decode cX3_emit 26 = .ok (.aload_n 0, 1) := by decide +kernel
theorem dX3_emit_27 : decode cX3_emit 27 = .ok (.getfield 25, 3) := by decide +kernel
theorem dX3_emit_30 : decode cX3_emit 30 = .ok (.iload_n 2, 1) := by decide +kernel
theorem dX3_emit_31 : decode cX3_emit 31 = .ok (.iastore, 1) := by decide +kernel
theorem dX3_emit_32 : decode cX3_emit 32 = .ok (.aload_n 0, 1) := by decide +kernel
theorem dX3_emit_33 : decode cX3_emit 33 = .ok (.dup, 1) := by decide +kernel
theorem dX3_emit_34 : decode cX3_emit 34 = .ok (.getfield 25, 3) := by decide +kernel
theorem dX3_emit_37 : decode cX3_emit 37 = .ok (.iconst 1, 1) := by decide +kernel
theorem dX3_emit_38 : decode cX3_emit 38 = .ok (.iadd, 1) := by decide +kernel
theorem dX3_emit_39 : decode cX3_emit 39 = .ok (.putfield 25, 3) := by decide +kernel
theorem dX3_emit_42 : decode cX3_emit 42 = .ok (.return_, 1) := by decide +kernel
theorem dX3_clause_0 : decode cX3_clause 0 = .ok (.aload_n 0, 1) := by decide +kernel
theorem dX3_clause_1 : decode cX3_clause 1 = .ok (.getfield 21, 3) := by decide +kernel
theorem dX3_clause_4 : decode cX3_clause 4 = .ok (.bipush 121, 2) := by decide +kernel
theorem dX3_clause_6 : decode cX3_clause 6 = .ok (.invokevirtual 49, 3) := by decide +kernel
theorem dX3_clause_9 : decode cX3_clause 9 = .ok (.ifCond .eq 15, 3) := by decide +kernel
theorem dX3_clause_12 : decode cX3_clause 12 = .ok (.aload_n 0, 1) := by decide +kernel
theorem dX3_clause_13 : decode cX3_clause 13 = .ok (.getfield 21, 3) := by decide +kernel
theorem dX3_clause_16 : decode cX3_clause 16 = .ok (.bipush 58, 2) := by decide +kernel
theorem dX3_clause_18 : decode cX3_clause 18 = .ok (.invokevirtual 49, 3) := by decide +kernel
theorem dX3_clause_21 : decode cX3_clause 21 = .ok (.ifCond .ne 5, 3) := by decide +kernel
theorem dX3_clause_24 : decode cX3_clause 24 = .ok (.iconst 0, 1) := by decide +kernel
theorem dX3_clause_25 : decode cX3_clause 25 = .ok (.ireturn, 1) := by decide +kernel
theorem dX3_clause_26 : decode cX3_clause 26 = .ok (.aload_n 0, 1) := by decide +kernel
theorem dX3_clause_27 : decode cX3_clause 27 = .ok (.getfield 21, 3) := by decide +kernel
theorem dX3_clause_30 : decode cX3_clause 30 = .ok (.invokevirtual 42, 3) := by decide +kernel
theorem dX3_clause_33 : decode cX3_clause 33 = .ok (.istore_n 1, 1) := by decide +kernel
theorem dX3_clause_34 : decode cX3_clause 34 = .ok (.iload_n 1, 1) := by decide +kernel
theorem dX3_clause_35 : decode cX3_clause 35 = .ok (.bipush 33, 2) := by decide +kernel
theorem dX3_clause_37 : decode cX3_clause 37 = .ok (.if_icmp .eq 13, 3) := by decide +kernel
theorem dX3_clause_40 : decode cX3_clause 40 = .ok (.iload_n 1, 1) := by decide +kernel
theorem dX3_clause_41 : decode cX3_clause 41 = .ok (.bipush 40, 2) := by decide +kernel
theorem dX3_clause_43 : decode cX3_clause 43 = .ok (.if_icmp .eq 7, 3) := by decide +kernel
theorem dX3_clause_46 : decode cX3_clause 46 = .ok (.iconst 1, 1) := by decide +kernel
theorem dX3_clause_47 : decode cX3_clause 47 = .ok (.goto 4, 3) := by decide +kernel
theorem dX3_clause_50 : decode cX3_clause 50 = .ok (.iconst 0, 1) := by decide +kernel
theorem dX3_clause_51 : decode cX3_clause 51 = .ok (.istore_n 2, 1) := by decide +kernel
theorem dX3_clause_52 : decode cX3_clause 52 = .ok (.iload_n 2, 1) := by decide +kernel
theorem dX3_clause_53 : decode cX3_clause 53 = .ok (.ifCond .eq 13, 3) := by decide +kernel
theorem dX3_clause_56 : decode cX3_clause 56 = .ok (.aload_n 0, 1) := by decide +kernel
theorem dX3_clause_57 : decode cX3_clause 57 = .ok (.iconst 0, 1) := by decide +kernel
theorem dX3_clause_58 : decode cX3_clause 58 = .ok (.invokevirtual 52, 3) := by decide +kernel
theorem dX3_clause_61 : decode cX3_clause 61 = .ok (.ifCond .ne 5, 3) := by decide +kernel
theorem dX3_clause_64 : decode cX3_clause 64 = .ok (.iconst 0, 1) := by decide +kernel
theorem dX3_clause_65 : decode cX3_clause 65 = .ok (.ireturn, 1) := by decide +kernel
theorem dX3_clause_66 : decode cX3_clause 66 = .ok (.iload_n 2, 1) := by decide +kernel
theorem dX3_clause_67 : decode cX3_clause 67 = .ok (.ifCond .eq 16, 3) := by decide +kernel
theorem dX3_clause_70 : decode cX3_clause 70 = .ok (.aload_n 0, 1) := by decide +kernel
theorem dX3_clause_71 : decode cX3_clause 71 = .ok (.getfield 21, 3) := by decide +kernel
theorem dX3_clause_74 : decode cX3_clause 74 = .ok (.invokevirtual 42, 3) := by decide +kernel
theorem dX3_clause_77 : decode cX3_clause 77 = .ok (.invokestatic 55, 3) := by decide +kernel
theorem dX3_clause_80 : decode cX3_clause 80 = .ok (.ifCond .eq 43, 3) := by decide +kernel
theorem dX3_clause_83 : decode cX3_clause 83 = .ok (.aload_n 0, 1) := by decide +kernel
theorem dX3_clause_84 : decode cX3_clause 84 = .ok (.iconst 0, 1) := by decide +kernel
theorem dX3_clause_85 : decode cX3_clause 85 = .ok (.iload_n 2, 1) := by decide +kernel
theorem dX3_clause_86 : decode cX3_clause 86 = .ok (.invokevirtual 58, 3) := by decide +kernel
theorem dX3_clause_89 : decode cX3_clause 89 = .ok (.ifCond .eq 15, 3) := by decide +kernel
theorem dX3_clause_92 : decode cX3_clause 92 = .ok (.aload_n 0, 1) := by decide +kernel
theorem dX3_clause_93 : decode cX3_clause 93 = .ok (.getfield 21, 3) := by decide +kernel
theorem dX3_clause_96 : decode cX3_clause 96 = .ok (.bipush 63, 2) := by decide +kernel
theorem dX3_clause_98 : decode cX3_clause 98 = .ok (.invokevirtual 49, 3) := by decide +kernel
theorem dX3_clause_101 : decode cX3_clause 101 = .ok (.ifCond .ne 5, 3) := by decide +kernel
theorem dX3_clause_104 : decode cX3_clause 104 = .ok (.iconst 0, 1) := by decide +kernel
theorem dX3_clause_105 : decode cX3_clause 105 = .ok (.ireturn, 1) := by decide +kernel
theorem dX3_clause_106 : decode cX3_clause 106 = .ok (.aload_n 0, 1) := by decide +kernel
theorem dX3_clause_107 : decode cX3_clause 107 = .ok (.bipush 63, 2) := by decide +kernel
theorem dX3_clause_109 : decode cX3_clause 109 = .ok (.iconst 0, 1) := by decide +kernel
theorem dX3_clause_110 : decode cX3_clause 110 = .ok (.invokevirtual 62, 3) := by decide +kernel
theorem dX3_clause_113 : decode cX3_clause 113 = .ok (.aload_n 0, 1) := by decide +kernel
theorem dX3_clause_114 : decode cX3_clause 114 = .ok (.iconst 0, 1) := by decide +kernel
theorem dX3_clause_115 : decode cX3_clause 115 = .ok (.invokevirtual 52, 3) := by decide +kernel
theorem dX3_clause_118 : decode cX3_clause 118 = .ok (.ifCond .ne 5, 3) := by decide +kernel
theorem dX3_clause_121 : decode cX3_clause 121 = .ok (.iconst 0, 1) := by decide +kernel
theorem dX3_clause_122 : decode cX3_clause 122 = .ok (.ireturn, 1) := by decide +kernel
theorem dX3_clause_123 : decode cX3_clause 123 = .ok (.aload_n 0, 1) := by decide +kernel
theorem dX3_clause_124 : decode cX3_clause 124 = .ok (.bipush 59, 2) := by decide +kernel
theorem dX3_clause_126 : decode cX3_clause 126 = .ok (.iconst 0, 1) := by decide +kernel
theorem dX3_clause_127 : decode cX3_clause 127 = .ok (.invokevirtual 62, 3) := by decide +kernel
theorem dX3_clause_130 : decode cX3_clause 130 = .ok (.iconst 1, 1) := by decide +kernel
theorem dX3_clause_131 : decode cX3_clause 131 = .ok (.ireturn, 1) := by decide +kernel
theorem dX3_isComparison_0 : decode cX3_isComparison 0 = .ok (.iload_n 0, 1) := by decide +kernel
theorem dX3_isComparison_1 : decode cX3_isComparison 1 = .ok (.bipush 61, 2) := by decide +kernel
theorem dX3_isComparison_3 : decode cX3_isComparison 3 = .ok (.if_icmp .eq 15, 3) := by decide +kernel
theorem dX3_isComparison_6 : decode cX3_isComparison 6 = .ok (.iload_n 0, 1) := by decide +kernel
theorem dX3_isComparison_7 : decode cX3_isComparison 7 = .ok (.bipush 60, 2) := by decide +kernel
theorem dX3_isComparison_9 : decode cX3_isComparison 9 = .ok (.if_icmp .eq 9, 3) := by decide +kernel
theorem dX3_isComparison_12 : decode cX3_isComparison 12 = .ok (.iload_n 0, 1) := by decide +kernel
theorem dX3_isComparison_13 : decode cX3_isComparison 13 = .ok (.bipush 62, 2) := by decide +kernel
theorem dX3_isComparison_15 : decode cX3_isComparison 15 = .ok (.if_icmp .ne 7, 3) := by decide +kernel
theorem dX3_isComparison_18 : decode cX3_isComparison 18 = .ok (.iconst 1, 1) := by decide +kernel
theorem dX3_isComparison_19 : decode cX3_isComparison 19 = .ok (.goto 4, 3) := by decide +kernel
theorem dX3_isComparison_22 : decode cX3_isComparison 22 = .ok (.iconst 0, 1) := by decide +kernel
theorem dX3_isComparison_23 : decode cX3_isComparison 23 = .ok (.ireturn, 1) := by decide +kernel
theorem dX3_condition_0 : decode cX3_condition 0 = .ok (.aload_n 0, 1) := by decide +kernel
theorem dX3_condition_1 : decode cX3_condition 1 = .ok (.iload_n 1, 1) := by decide +kernel
theorem dX3_condition_2 : decode cX3_condition 2 = .ok (.iload_n 2, 1) := by decide +kernel
theorem dX3_condition_3 : decode cX3_condition 3 = .ok (.invokevirtual 66, 3) := by decide +kernel
theorem dX3_condition_6 : decode cX3_condition 6 = .ok (.ifCond .ne 5, 3) := by decide +kernel
theorem dX3_condition_9 : decode cX3_condition 9 = .ok (.iconst 0, 1) := by decide +kernel
theorem dX3_condition_10 : decode cX3_condition 10 = .ok (.ireturn, 1) := by decide +kernel
theorem dX3_condition_11 : decode cX3_condition 11 = .ok (.iconst 0, 1) := by decide +kernel
theorem dX3_condition_12 : decode cX3_condition 12 = .ok (.istore_n 3, 1) := by decide +kernel
theorem dX3_condition_13 : decode cX3_condition 13 = .ok (.iload_n 3, 1) := by decide +kernel
theorem dX3_condition_14 : decode cX3_condition 14 = .ok (.sipush 240, 3) := by decide +kernel
theorem dX3_condition_17 : decode cX3_condition 17 = .ok (.if_icmp .gt 39, 3) := by decide +kernel
theorem dX3_condition_20 : decode cX3_condition 20 = .ok (.aload_n 0, 1) := by decide +kernel
theorem dX3_condition_21 : decode cX3_condition 21 = .ok (.getfield 21, 3) := by decide +kernel
theorem dX3_condition_24 : decode cX3_condition 24 = .ok (.bipush 124, 2) := by decide +kernel
theorem dX3_condition_26 : decode cX3_condition 26 = .ok (.invokevirtual 38, 3) := by decide +kernel
theorem dX3_condition_29 : decode cX3_condition 29 = .ok (.ifCond .eq 27, 3) := by decide +kernel
theorem dX3_condition_32 : decode cX3_condition 32 = .ok (.aload_n 0, 1) := by decide +kernel
theorem dX3_condition_33 : decode cX3_condition 33 = .ok (.iload_n 1, 1) := by decide +kernel
theorem dX3_condition_34 : decode cX3_condition 34 = .ok (.iconst 0, 1) := by decide +kernel
theorem dX3_condition_35 : decode cX3_condition 35 = .ok (.invokevirtual 66, 3) := by decide +kernel
theorem dX3_condition_38 : decode cX3_condition 38 = .ok (.ifCond .ne 5, 3) := by decide +kernel
theorem dX3_condition_41 : decode cX3_condition 41 = .ok (.iconst 0, 1) := by decide +kernel
theorem dX3_condition_42 : decode cX3_condition 42 = .ok (.ireturn, 1) := by decide +kernel
theorem dX3_condition_43 : decode cX3_condition 43 = .ok (.aload_n 0, 1) := by decide +kernel
theorem dX3_condition_44 : decode cX3_condition 44 = .ok (.bipush 124, 2) := by decide +kernel
theorem dX3_condition_46 : decode cX3_condition 46 = .ok (.iconst 0, 1) := by decide +kernel
theorem dX3_condition_47 : decode cX3_condition 47 = .ok (.invokevirtual 62, 3) := by decide +kernel
theorem dX3_condition_50 : decode cX3_condition 50 = .ok (.iinc 3 1, 3) := by decide +kernel
theorem dX3_condition_53 : decode cX3_condition 53 = .ok (.goto (-40), 3) := by decide +kernel
theorem dX3_condition_56 : decode cX3_condition 56 = .ok (.iconst 1, 1) := by decide +kernel
theorem dX3_condition_57 : decode cX3_condition 57 = .ok (.ireturn, 1) := by decide +kernel
theorem dX3_truth_0 : decode cX3_truth 0 = .ok (.aload_n 0, 1) := by decide +kernel
theorem dX3_truth_1 : decode cX3_truth 1 = .ok (.iload_n 1, 1) := by decide +kernel
theorem dX3_truth_2 : decode cX3_truth 2 = .ok (.iload_n 2, 1) := by decide +kernel
theorem dX3_truth_3 : decode cX3_truth 3 = .ok (.invokevirtual 69, 3) := by decide +kernel
theorem dX3_truth_6 : decode cX3_truth 6 = .ok (.ifCond .ne 5, 3) := by decide +kernel
theorem dX3_truth_9 : decode cX3_truth 9 = .ok (.iconst 0, 1) := by decide +kernel
theorem dX3_truth_10 : decode cX3_truth 10 = .ok (.ireturn, 1) := by decide +kernel
theorem dX3_truth_11 : decode cX3_truth 11 = .ok (.iconst 0, 1) := by decide +kernel
theorem dX3_truth_12 : decode cX3_truth 12 = .ok (.istore_n 3, 1) := by decide +kernel
theorem dX3_truth_13 : decode cX3_truth 13 = .ok (.iload_n 3, 1) := by decide +kernel
theorem dX3_truth_14 : decode cX3_truth 14 = .ok (.sipush 240, 3) := by decide +kernel
theorem dX3_truth_17 : decode cX3_truth 17 = .ok (.if_icmp .gt 39, 3) := by decide +kernel
theorem dX3_truth_20 : decode cX3_truth 20 = .ok (.aload_n 0, 1) := by decide +kernel
theorem dX3_truth_21 : decode cX3_truth 21 = .ok (.getfield 21, 3) := by decide +kernel
theorem dX3_truth_24 : decode cX3_truth 24 = .ok (.bipush 38, 2) := by decide +kernel
theorem dX3_truth_26 : decode cX3_truth 26 = .ok (.invokevirtual 38, 3) := by decide +kernel
theorem dX3_truth_29 : decode cX3_truth 29 = .ok (.ifCond .eq 27, 3) := by decide +kernel
theorem dX3_truth_32 : decode cX3_truth 32 = .ok (.aload_n 0, 1) := by decide +kernel
theorem dX3_truth_33 : decode cX3_truth 33 = .ok (.iload_n 1, 1) := by decide +kernel
theorem dX3_truth_34 : decode cX3_truth 34 = .ok (.iconst 0, 1) := by decide +kernel
theorem dX3_truth_35 : decode cX3_truth 35 = .ok (.invokevirtual 69, 3) := by decide +kernel
theorem dX3_truth_38 : decode cX3_truth 38 = .ok (.ifCond .ne 5, 3) := by decide +kernel
theorem dX3_truth_41 : decode cX3_truth 41 = .ok (.iconst 0, 1) := by decide +kernel
theorem dX3_truth_42 : decode cX3_truth 42 = .ok (.ireturn, 1) := by decide +kernel
theorem dX3_truth_43 : decode cX3_truth 43 = .ok (.aload_n 0, 1) := by decide +kernel
theorem dX3_truth_44 : decode cX3_truth 44 = .ok (.bipush 38, 2) := by decide +kernel
theorem dX3_truth_46 : decode cX3_truth 46 = .ok (.iconst 0, 1) := by decide +kernel
theorem dX3_truth_47 : decode cX3_truth 47 = .ok (.invokevirtual 62, 3) := by decide +kernel
theorem dX3_truth_50 : decode cX3_truth 50 = .ok (.iinc 3 1, 3) := by decide +kernel
theorem dX3_truth_53 : decode cX3_truth 53 = .ok (.goto (-40), 3) := by decide +kernel
theorem dX3_truth_56 : decode cX3_truth 56 = .ok (.iconst 1, 1) := by decide +kernel
theorem dX3_truth_57 : decode cX3_truth 57 = .ok (.ireturn, 1) := by decide +kernel
theorem dX3_unit_0 : decode cX3_unit 0 = .ok (.aload_n 0, 1) := by decide +kernel
theorem dX3_unit_1 : decode cX3_unit 1 = .ok (.getfield 21, 3) := by decide +kernel
theorem dX3_unit_4 : decode cX3_unit 4 = .ok (.invokevirtual 42, 3) := by decide +kernel
theorem dX3_unit_7 : decode cX3_unit 7 = .ok (.istore_n 3, 1) := by decide +kernel
theorem dX3_unit_8 : decode cX3_unit 8 = .ok (.iload_n 2, 1) := by decide +kernel
theorem dX3_unit_9 : decode cX3_unit 9 = .ok (.ifCond .ne 38, 3) := by decide +kernel
theorem dX3_unit_12 : decode cX3_unit 12 = .ok (.iload_n 3, 1) := by decide +kernel
theorem dX3_unit_13 : decode cX3_unit 13 = .ok (.bipush 33, 2) := by decide +kernel
theorem dX3_unit_15 : decode cX3_unit 15 = .ok (.if_icmp .eq 9, 3) := by decide +kernel
theorem dX3_unit_18 : decode cX3_unit 18 = .ok (.iload_n 3, 1) := by decide +kernel
theorem dX3_unit_19 : decode cX3_unit 19 = .ok (.bipush 40, 2) := by decide +kernel
theorem dX3_unit_21 : decode cX3_unit 21 = .ok (.if_icmp .ne 26, 3) := by decide +kernel
theorem dX3_unit_24 : decode cX3_unit 24 = .ok (.iload_n 1, 1) := by decide +kernel
theorem dX3_unit_25 : decode cX3_unit 25 = .ok (.bipush 6, 2) := by decide +kernel
theorem dX3_unit_27 : decode cX3_unit 27 = .ok (.if_icmp .ge 12, 3) := by decide +kernel
theorem dX3_unit_30 : decode cX3_unit 30 = .ok (.aload_n 0, 1) := by decide +kernel
theorem dX3_unit_31 : decode cX3_unit 31 = .ok (.iload_n 1, 1) := by decide +kernel
theorem dX3_unit_32 : decode cX3_unit 32 = .ok (.iload_n 3, 1) := by decide +kernel
theorem dX3_unit_33 : decode cX3_unit 33 = .ok (.invokevirtual 72, 3) := by decide +kernel
theorem dX3_unit_36 : decode cX3_unit 36 = .ok (.goto 10, 3) := by decide +kernel
theorem dX3_unit_39 : decode cX3_unit 39 = .ok (.aload_n 0, 1) := by decide +kernel
theorem dX3_unit_40 : decode cX3_unit 40 = .ok (.getfield 21, 3) := by decide +kernel
theorem dX3_unit_43 : decode cX3_unit 43 = .ok (.invokevirtual 46, 3) := by decide +kernel
theorem dX3_unit_46 : decode cX3_unit 46 = .ok (.ireturn, 1) := by decide +kernel
theorem dX3_unit_47 : decode cX3_unit 47 = .ok (.iload_n 2, 1) := by decide +kernel
theorem dX3_unit_48 : decode cX3_unit 48 = .ok (.ifCond .ne 13, 3) := by decide +kernel
theorem dX3_unit_51 : decode cX3_unit 51 = .ok (.aload_n 0, 1) := by decide +kernel
theorem dX3_unit_52 : decode cX3_unit 52 = .ok (.iload_n 1, 1) := by decide +kernel
theorem dX3_unit_53 : decode cX3_unit 53 = .ok (.invokevirtual 52, 3) := by decide +kernel
theorem dX3_unit_56 : decode cX3_unit 56 = .ok (.ifCond .ne 5, 3) := by decide +kernel
theorem dX3_unit_59 : decode cX3_unit 59 = .ok (.iconst 0, 1) := by decide +kernel
theorem dX3_unit_60 : decode cX3_unit 60 = .ok (.ireturn, 1) := by decide +kernel
theorem dX3_unit_61 : decode cX3_unit 61 = .ok (.aload_n 0, 1) := by decide +kernel
theorem dX3_unit_62 : decode cX3_unit 62 = .ok (.getfield 21, 3) := by decide +kernel
theorem dX3_unit_65 : decode cX3_unit 65 = .ok (.invokevirtual 42, 3) := by decide +kernel
theorem dX3_unit_68 : decode cX3_unit 68 = .ok (.istore 4, 2) := by decide +kernel
theorem dX3_unit_70 : decode cX3_unit 70 = .ok (.iload 4, 2) := by decide +kernel
theorem dX3_unit_72 : decode cX3_unit 72 = .ok (.invokestatic 55, 3) := by decide +kernel
theorem dX3_unit_75 : decode cX3_unit 75 = .ok (.ifCond .ne 11, 3) := by decide +kernel
theorem dX3_unit_78 : decode cX3_unit 78 = .ok (.aload_n 0, 1) := by decide +kernel
theorem dX3_unit_79 : decode cX3_unit 79 = .ok (.getfield 21, 3) := by decide +kernel
theorem dX3_unit_82 : decode cX3_unit 82 = .ok (.invokevirtual 46, 3) := by decide +kernel
theorem dX3_unit_85 : decode cX3_unit 85 = .ok (.ireturn, 1) := by decide +kernel
theorem dX3_unit_86 : decode cX3_unit 86 = .ok (.aload_n 0, 1) := by decide +kernel
theorem dX3_unit_87 : decode cX3_unit 87 = .ok (.getfield 21, 3) := by decide +kernel
theorem dX3_unit_90 : decode cX3_unit 90 = .ok (.dup, 1) := by decide +kernel
theorem dX3_unit_91 : decode cX3_unit 91 = .ok (.getfield 76, 3) := by decide +kernel
theorem dX3_unit_94 : decode cX3_unit 94 = .ok (.iconst 1, 1) := by decide +kernel
theorem dX3_unit_95 : decode cX3_unit 95 = .ok (.iadd, 1) := by decide +kernel
theorem dX3_unit_96 : decode cX3_unit 96 = .ok (.putfield 76, 3) := by decide +kernel
theorem dX3_unit_99 : decode cX3_unit 99 = .ok (.aload_n 0, 1) := by decide +kernel
theorem dX3_unit_100 : decode cX3_unit 100 = .ok (.iload_n 1, 1) := by decide +kernel
theorem dX3_unit_101 : decode cX3_unit 101 = .ok (.invokevirtual 52, 3) := by decide +kernel
theorem dX3_unit_104 : decode cX3_unit 104 = .ok (.ifCond .ne 5, 3) := by decide +kernel
theorem dX3_unit_107 : decode cX3_unit 107 = .ok (.iconst 0, 1) := by decide +kernel
theorem dX3_unit_108 : decode cX3_unit 108 = .ok (.ireturn, 1) := by decide +kernel
theorem dX3_unit_109 : decode cX3_unit 109 = .ok (.aload_n 0, 1) := by decide +kernel
theorem dX3_unit_110 : decode cX3_unit 110 = .ok (.iload 4, 2) := by decide +kernel
theorem dX3_unit_112 : decode cX3_unit 112 = .ok (.iconst 0, 1) := by decide +kernel
theorem dX3_unit_113 : decode cX3_unit 113 = .ok (.invokevirtual 62, 3) := by decide +kernel
theorem dX3_unit_116 : decode cX3_unit 116 = .ok (.iconst 1, 1) := by decide +kernel
theorem dX3_unit_117 : decode cX3_unit 117 = .ok (.ireturn, 1) := by decide +kernel
theorem dX3_nestedUnit_0 : decode cX3_nestedUnit 0 = .ok (.aload_n 0, 1) := by decide +kernel
theorem dX3_nestedUnit_1 : decode cX3_nestedUnit 1 = .ok (.getfield 21, 3) := by decide +kernel
theorem dX3_nestedUnit_4 : decode cX3_nestedUnit 4 = .ok (.dup, 1) := by decide +kernel
theorem dX3_nestedUnit_5 : decode cX3_nestedUnit 5 = .ok (.getfield 76, 3) := by decide +kernel
theorem dX3_nestedUnit_8 : decode cX3_nestedUnit 8 = .ok (.iconst 1, 1) := by decide +kernel
theorem dX3_nestedUnit_9 : decode cX3_nestedUnit 9 = .ok (.iadd, 1) := by decide +kernel
theorem dX3_nestedUnit_10 : decode cX3_nestedUnit 10 = .ok (.putfield 76, 3) := by decide +kernel
theorem dX3_nestedUnit_13 : decode cX3_nestedUnit 13 = .ok (.iload_n 2, 1) := by decide +kernel
theorem dX3_nestedUnit_14 : decode cX3_nestedUnit 14 = .ok (.bipush 40, 2) := by decide +kernel
theorem dX3_nestedUnit_16 : decode cX3_nestedUnit 16 = .ok (.if_icmp .ne 32, 3) := by decide +kernel
theorem dX3_nestedUnit_19 : decode cX3_nestedUnit 19 = .ok (.aload_n 0, 1) := by decide +kernel
theorem dX3_nestedUnit_20 : decode cX3_nestedUnit 20 = .ok (.iload_n 1, 1) := by decide +kernel
theorem dX3_nestedUnit_21 : decode cX3_nestedUnit 21 = .ok (.iconst 1, 1) := by decide +kernel
theorem dX3_nestedUnit_22 : decode cX3_nestedUnit 22 = .ok (.iadd, 1) := by decide +kernel
theorem dX3_nestedUnit_23 : decode cX3_nestedUnit 23 = .ok (.iconst 0, 1) := by decide +kernel
theorem dX3_nestedUnit_24 : decode cX3_nestedUnit 24 = .ok (.invokevirtual 58, 3) := by decide +kernel
theorem dX3_nestedUnit_27 : decode cX3_nestedUnit 27 = .ok (.ifCond .eq 19, 3) := by decide +kernel
theorem dX3_nestedUnit_30 : decode cX3_nestedUnit 30 = .ok (.aload_n 0, 1) := by decide +kernel
theorem dX3_nestedUnit_31 : decode cX3_nestedUnit 31 = .ok (.getfield 21, 3) := by decide +kernel
theorem dX3_nestedUnit_34 : decode cX3_nestedUnit 34 = .ok (.bipush 41, 2) := by decide +kernel
theorem dX3_nestedUnit_36 : decode cX3_nestedUnit 36 = .ok (.invokevirtual 49, 3) := by decide +kernel
theorem dX3_nestedUnit_39 : decode cX3_nestedUnit 39 = .ok (.ifCond .eq 7, 3) := by decide +kernel
theorem dX3_nestedUnit_42 : decode cX3_nestedUnit 42 = .ok (.iconst 1, 1) := by decide +kernel
theorem dX3_nestedUnit_43 : decode cX3_nestedUnit 43 = .ok (.goto 4, 3) := by decide +kernel
theorem dX3_nestedUnit_46 : decode cX3_nestedUnit 46 = .ok (.iconst 0, 1) := by decide +kernel
theorem dX3_nestedUnit_47 : decode cX3_nestedUnit 47 = .ok (.ireturn, 1) := by decide +kernel
theorem dX3_nestedUnit_48 : decode cX3_nestedUnit 48 = .ok (.aload_n 0, 1) := by decide +kernel
theorem dX3_nestedUnit_49 : decode cX3_nestedUnit 49 = .ok (.iload_n 1, 1) := by decide +kernel
theorem dX3_nestedUnit_50 : decode cX3_nestedUnit 50 = .ok (.iconst 1, 1) := by decide +kernel
theorem dX3_nestedUnit_51 : decode cX3_nestedUnit 51 = .ok (.iadd, 1) := by decide +kernel
theorem dX3_nestedUnit_52 : decode cX3_nestedUnit 52 = .ok (.iconst 0, 1) := by decide +kernel
theorem dX3_nestedUnit_53 : decode cX3_nestedUnit 53 = .ok (.invokevirtual 69, 3) := by decide +kernel
theorem dX3_nestedUnit_56 : decode cX3_nestedUnit 56 = .ok (.ifCond .ne 5, 3) := by decide +kernel
theorem dX3_nestedUnit_59 : decode cX3_nestedUnit 59 = .ok (.iconst 0, 1) := by decide +kernel
theorem dX3_nestedUnit_60 : decode cX3_nestedUnit 60 = .ok (.ireturn, 1) := by decide +kernel
theorem dX3_nestedUnit_61 : decode cX3_nestedUnit 61 = .ok (.aload_n 0, 1) := by decide +kernel
theorem dX3_nestedUnit_62 : decode cX3_nestedUnit 62 = .ok (.bipush 33, 2) := by decide +kernel
theorem dX3_nestedUnit_64 : decode cX3_nestedUnit 64 = .ok (.iconst 0, 1) := by decide +kernel
theorem dX3_nestedUnit_65 : decode cX3_nestedUnit 65 = .ok (.invokevirtual 62, 3) := by decide +kernel
theorem dX3_nestedUnit_68 : decode cX3_nestedUnit 68 = .ok (.iconst 1, 1) := by decide +kernel
theorem dX3_nestedUnit_69 : decode cX3_nestedUnit 69 = .ok (.ireturn, 1) := by decide +kernel
theorem dX3_sum_0 : decode cX3_sum 0 = .ok (.aload_n 0, 1) := by decide +kernel
theorem dX3_sum_1 : decode cX3_sum 1 = .ok (.iload_n 1, 1) := by decide +kernel
theorem dX3_sum_2 : decode cX3_sum 2 = .ok (.invokevirtual 79, 3) := by decide +kernel
theorem dX3_sum_5 : decode cX3_sum 5 = .ok (.ifCond .ne 5, 3) := by decide +kernel
theorem dX3_sum_8 : decode cX3_sum 8 = .ok (.iconst 0, 1) := by decide +kernel
theorem dX3_sum_9 : decode cX3_sum 9 = .ok (.ireturn, 1) := by decide +kernel
theorem dX3_sum_10 : decode cX3_sum 10 = .ok (.aload_n 0, 1) := by decide +kernel
theorem dX3_sum_11 : decode cX3_sum 11 = .ok (.getfield 21, 3) := by decide +kernel
theorem dX3_sum_14 : decode cX3_sum 14 = .ok (.invokevirtual 42, 3) := by decide +kernel
theorem dX3_sum_17 : decode cX3_sum 17 = .ok (.istore_n 2, 1) := by decide +kernel
theorem dX3_sum_18 : decode cX3_sum 18 = .ok (.iconst 0, 1) := by decide +kernel
theorem dX3_sum_19 : decode cX3_sum 19 = .ok (.istore_n 3, 1) := by decide +kernel
theorem dX3_sum_20 : decode cX3_sum 20 = .ok (.iload_n 3, 1) := by decide +kernel
theorem dX3_sum_21 : decode cX3_sum 21 = .ok (.sipush 240, 3) := by decide +kernel
theorem dX3_sum_24 : decode cX3_sum 24 = .ok (.if_icmp .gt 58, 3) := by decide +kernel
theorem dX3_sum_27 : decode cX3_sum 27 = .ok (.iload_n 2, 1) := by decide +kernel
theorem dX3_sum_28 : decode cX3_sum 28 = .ok (.bipush 43, 2) := by decide +kernel
theorem dX3_sum_30 : decode cX3_sum 30 = .ok (.if_icmp .eq 9, 3) := by decide +kernel
theorem dX3_sum_33 : decode cX3_sum 33 = .ok (.iload_n 2, 1) := by decide +kernel
theorem dX3_sum_34 : decode cX3_sum 34 = .ok (.bipush 45, 2) := by decide +kernel
theorem dX3_sum_36 : decode cX3_sum 36 = .ok (.if_icmp .ne 46, 3) := by decide +kernel
theorem dX3_sum_39 : decode cX3_sum 39 = .ok (.aload_n 0, 1) := by decide +kernel
theorem dX3_sum_40 : decode cX3_sum 40 = .ok (.getfield 21, 3) := by decide +kernel
theorem dX3_sum_43 : decode cX3_sum 43 = .ok (.dup, 1) := by decide +kernel
theorem dX3_sum_44 : decode cX3_sum 44 = .ok (.getfield 76, 3) := by decide +kernel
theorem dX3_sum_47 : decode cX3_sum 47 = .ok (.iconst 1, 1) := by decide +kernel
theorem dX3_sum_48 : decode cX3_sum 48 = .ok (.iadd, 1) := by decide +kernel
theorem dX3_sum_49 : decode cX3_sum 49 = .ok (.putfield 76, 3) := by decide +kernel
theorem dX3_sum_52 : decode cX3_sum 52 = .ok (.aload_n 0, 1) := by decide +kernel
theorem dX3_sum_53 : decode cX3_sum 53 = .ok (.iload_n 1, 1) := by decide +kernel
theorem dX3_sum_54 : decode cX3_sum 54 = .ok (.invokevirtual 79, 3) := by decide +kernel
theorem dX3_sum_57 : decode cX3_sum 57 = .ok (.ifCond .ne 5, 3) := by decide +kernel
theorem dX3_sum_60 : decode cX3_sum 60 = .ok (.iconst 0, 1) := by decide +kernel
theorem dX3_sum_61 : decode cX3_sum 61 = .ok (.ireturn, 1) := by decide +kernel
theorem dX3_sum_62 : decode cX3_sum 62 = .ok (.aload_n 0, 1) := by decide +kernel
theorem dX3_sum_63 : decode cX3_sum 63 = .ok (.iload_n 2, 1) := by decide +kernel
theorem dX3_sum_64 : decode cX3_sum 64 = .ok (.iconst 0, 1) := by decide +kernel
theorem dX3_sum_65 : decode cX3_sum 65 = .ok (.invokevirtual 62, 3) := by decide +kernel
theorem dX3_sum_68 : decode cX3_sum 68 = .ok (.aload_n 0, 1) := by decide +kernel
theorem dX3_sum_69 : decode cX3_sum 69 = .ok (.getfield 21, 3) := by decide +kernel
theorem dX3_sum_72 : decode cX3_sum 72 = .ok (.invokevirtual 42, 3) := by decide +kernel
theorem dX3_sum_75 : decode cX3_sum 75 = .ok (.istore_n 2, 1) := by decide +kernel
theorem dX3_sum_76 : decode cX3_sum 76 = .ok (.iinc 3 1, 3) := by decide +kernel
theorem dX3_sum_79 : decode cX3_sum 79 = .ok (.goto (-59), 3) := by decide +kernel
theorem dX3_sum_82 : decode cX3_sum 82 = .ok (.iconst 1, 1) := by decide +kernel
theorem dX3_sum_83 : decode cX3_sum 83 = .ok (.ireturn, 1) := by decide +kernel
theorem dX3_term_0 : decode cX3_term 0 = .ok (.aload_n 0, 1) := by decide +kernel
theorem dX3_term_1 : decode cX3_term 1 = .ok (.iload_n 1, 1) := by decide +kernel
theorem dX3_term_2 : decode cX3_term 2 = .ok (.invokevirtual 82, 3) := by decide +kernel
theorem dX3_term_5 : decode cX3_term 5 = .ok (.ifCond .ne 5, 3) := by decide +kernel
theorem dX3_term_8 : decode cX3_term 8 = .ok (.iconst 0, 1) := by decide +kernel
theorem dX3_term_9 : decode cX3_term 9 = .ok (.ireturn, 1) := by decide +kernel
theorem dX3_term_10 : decode cX3_term 10 = .ok (.aload_n 0, 1) := by decide +kernel
theorem dX3_term_11 : decode cX3_term 11 = .ok (.getfield 21, 3) := by decide +kernel
theorem dX3_term_14 : decode cX3_term 14 = .ok (.invokevirtual 42, 3) := by decide +kernel
theorem dX3_term_17 : decode cX3_term 17 = .ok (.istore_n 2, 1) := by decide +kernel
theorem dX3_term_18 : decode cX3_term 18 = .ok (.iconst 0, 1) := by decide +kernel
theorem dX3_term_19 : decode cX3_term 19 = .ok (.istore_n 3, 1) := by decide +kernel
theorem dX3_term_20 : decode cX3_term 20 = .ok (.iload_n 3, 1) := by decide +kernel
theorem dX3_term_21 : decode cX3_term 21 = .ok (.sipush 240, 3) := by decide +kernel
theorem dX3_term_24 : decode cX3_term 24 = .ok (.if_icmp .gt 58, 3) := by decide +kernel
theorem dX3_term_27 : decode cX3_term 27 = .ok (.iload_n 2, 1) := by decide +kernel
theorem dX3_term_28 : decode cX3_term 28 = .ok (.bipush 42, 2) := by decide +kernel
theorem dX3_term_30 : decode cX3_term 30 = .ok (.if_icmp .eq 9, 3) := by decide +kernel
theorem dX3_term_33 : decode cX3_term 33 = .ok (.iload_n 2, 1) := by decide +kernel
theorem dX3_term_34 : decode cX3_term 34 = .ok (.bipush 47, 2) := by decide +kernel
theorem dX3_term_36 : decode cX3_term 36 = .ok (.if_icmp .ne 46, 3) := by decide +kernel
theorem dX3_term_39 : decode cX3_term 39 = .ok (.aload_n 0, 1) := by decide +kernel
theorem dX3_term_40 : decode cX3_term 40 = .ok (.getfield 21, 3) := by decide +kernel
theorem dX3_term_43 : decode cX3_term 43 = .ok (.dup, 1) := by decide +kernel
theorem dX3_term_44 : decode cX3_term 44 = .ok (.getfield 76, 3) := by decide +kernel
theorem dX3_term_47 : decode cX3_term 47 = .ok (.iconst 1, 1) := by decide +kernel
theorem dX3_term_48 : decode cX3_term 48 = .ok (.iadd, 1) := by decide +kernel
theorem dX3_term_49 : decode cX3_term 49 = .ok (.putfield 76, 3) := by decide +kernel
theorem dX3_term_52 : decode cX3_term 52 = .ok (.aload_n 0, 1) := by decide +kernel
theorem dX3_term_53 : decode cX3_term 53 = .ok (.iload_n 1, 1) := by decide +kernel
theorem dX3_term_54 : decode cX3_term 54 = .ok (.invokevirtual 82, 3) := by decide +kernel
theorem dX3_term_57 : decode cX3_term 57 = .ok (.ifCond .ne 5, 3) := by decide +kernel
theorem dX3_term_60 : decode cX3_term 60 = .ok (.iconst 0, 1) := by decide +kernel
theorem dX3_term_61 : decode cX3_term 61 = .ok (.ireturn, 1) := by decide +kernel
theorem dX3_term_62 : decode cX3_term 62 = .ok (.aload_n 0, 1) := by decide +kernel
theorem dX3_term_63 : decode cX3_term 63 = .ok (.iload_n 2, 1) := by decide +kernel
theorem dX3_term_64 : decode cX3_term 64 = .ok (.iconst 0, 1) := by decide +kernel
theorem dX3_term_65 : decode cX3_term 65 = .ok (.invokevirtual 62, 3) := by decide +kernel
theorem dX3_term_68 : decode cX3_term 68 = .ok (.aload_n 0, 1) := by decide +kernel
theorem dX3_term_69 : decode cX3_term 69 = .ok (.getfield 21, 3) := by decide +kernel
theorem dX3_term_72 : decode cX3_term 72 = .ok (.invokevirtual 42, 3) := by decide +kernel
theorem dX3_term_75 : decode cX3_term 75 = .ok (.istore_n 2, 1) := by decide +kernel
theorem dX3_term_76 : decode cX3_term 76 = .ok (.iinc 3 1, 3) := by decide +kernel
theorem dX3_term_79 : decode cX3_term 79 = .ok (.goto (-59), 3) := by decide +kernel
theorem dX3_term_82 : decode cX3_term 82 = .ok (.iconst 1, 1) := by decide +kernel
theorem dX3_term_83 : decode cX3_term 83 = .ok (.ireturn, 1) := by decide +kernel
theorem dX3_atom_0 : decode cX3_atom 0 = .ok (.aload_n 0, 1) := by decide +kernel
theorem dX3_atom_1 : decode cX3_atom 1 = .ok (.getfield 21, 3) := by decide +kernel
theorem dX3_atom_4 : decode cX3_atom 4 = .ok (.ldc 85, 2) := by decide +kernel
theorem dX3_atom_6 : decode cX3_atom 6 = .ok (.invokevirtual 87, 3) := by decide +kernel
theorem dX3_atom_9 : decode cX3_atom 9 = .ok (.istore_n 2, 1) := by decide +kernel
theorem dX3_atom_10 : decode cX3_atom 10 = .ok (.iload_n 2, 1) := by decide +kernel
theorem dX3_atom_11 : decode cX3_atom 11 = .ok (.ifCond .lt 25, 3) := by decide +kernel
theorem dX3_atom_14 : decode cX3_atom 14 = .ok (.aload_n 0, 1) := by decide +kernel
theorem dX3_atom_15 : decode cX3_atom 15 = .ok (.getfield 21, 3) := by decide +kernel
theorem dX3_atom_18 : decode cX3_atom 18 = .ok (.dup, 1) := by decide +kernel
theorem dX3_atom_19 : decode cX3_atom 19 = .ok (.getfield 76, 3) := by decide +kernel
theorem dX3_atom_22 : decode cX3_atom 22 = .ok (.iconst 1, 1) := by decide +kernel
theorem dX3_atom_23 : decode cX3_atom 23 = .ok (.iadd, 1) := by decide +kernel
theorem dX3_atom_24 : decode cX3_atom 24 = .ok (.putfield 76, 3) := by decide +kernel
theorem dX3_atom_27 : decode cX3_atom 27 = .ok (.aload_n 0, 1) := by decide +kernel
theorem dX3_atom_28 : decode cX3_atom 28 = .ok (.bipush 97, 2) := by decide +kernel
theorem dX3_atom_30 : decode cX3_atom 30 = .ok (.iload_n 2, 1) := by decide +kernel
theorem dX3_atom_31 : decode cX3_atom 31 = .ok (.invokevirtual 62, 3) := by decide +kernel
theorem dX3_atom_34 : decode cX3_atom 34 = .ok (.iconst 1, 1) := by decide +kernel
theorem dX3_atom_35 : decode cX3_atom 35 = .ok (.ireturn, 1) := by decide +kernel
theorem dX3_atom_36 : decode cX3_atom 36 = .ok (.aload_n 0, 1) := by decide +kernel
theorem dX3_atom_37 : decode cX3_atom 37 = .ok (.getfield 21, 3) := by decide +kernel
theorem dX3_atom_40 : decode cX3_atom 40 = .ok (.invokevirtual 42, 3) := by decide +kernel
theorem dX3_atom_43 : decode cX3_atom 43 = .ok (.bipush 91, 2) := by decide +kernel
theorem dX3_atom_45 : decode cX3_atom 45 = .ok (.if_icmp .ne 58, 3) := by decide +kernel
theorem dX3_atom_48 : decode cX3_atom 48 = .ok (.iload_n 1, 1) := by decide +kernel
theorem dX3_atom_49 : decode cX3_atom 49 = .ok (.bipush 6, 2) := by decide +kernel
theorem dX3_atom_51 : decode cX3_atom 51 = .ok (.if_icmp .lt 11, 3) := by decide +kernel
theorem dX3_atom_54 : decode cX3_atom 54 = .ok (.aload_n 0, 1) := by decide +kernel
theorem dX3_atom_55 : decode cX3_atom 55 = .ok (.getfield 21, 3) := by decide +kernel
theorem dX3_atom_58 : decode cX3_atom 58 = .ok (.invokevirtual 46, 3) := by decide +kernel
theorem dX3_atom_61 : decode cX3_atom 61 = .ok (.ireturn, 1) := by decide +kernel
theorem dX3_atom_62 : decode cX3_atom 62 = .ok (.aload_n 0, 1) := by decide +kernel
theorem dX3_atom_63 : decode cX3_atom 63 = .ok (.getfield 21, 3) := by decide +kernel
theorem dX3_atom_66 : decode cX3_atom 66 = .ok (.dup, 1) := by decide +kernel
theorem dX3_atom_67 : decode cX3_atom 67 = .ok (.getfield 76, 3) := by decide +kernel
theorem dX3_atom_70 : decode cX3_atom 70 = .ok (.iconst 1, 1) := by decide +kernel
theorem dX3_atom_71 : decode cX3_atom 71 = .ok (.iadd, 1) := by decide +kernel
theorem dX3_atom_72 : decode cX3_atom 72 = .ok (.putfield 76, 3) := by decide +kernel
theorem dX3_atom_75 : decode cX3_atom 75 = .ok (.aload_n 0, 1) := by decide +kernel
theorem dX3_atom_76 : decode cX3_atom 76 = .ok (.iload_n 1, 1) := by decide +kernel
theorem dX3_atom_77 : decode cX3_atom 77 = .ok (.iconst 1, 1) := by decide +kernel
theorem dX3_atom_78 : decode cX3_atom 78 = .ok (.iadd, 1) := by decide +kernel
theorem dX3_atom_79 : decode cX3_atom 79 = .ok (.invokevirtual 52, 3) := by decide +kernel
theorem dX3_atom_82 : decode cX3_atom 82 = .ok (.ifCond .eq 19, 3) := by decide +kernel
theorem dX3_atom_85 : decode cX3_atom 85 = .ok (.aload_n 0, 1) := by decide +kernel
theorem dX3_atom_86 : decode cX3_atom 86 = .ok (.getfield 21, 3) := by decide +kernel
theorem dX3_atom_89 : decode cX3_atom 89 = .ok (.bipush 93, 2) := by decide +kernel
theorem dX3_atom_91 : decode cX3_atom 91 = .ok (.invokevirtual 49, 3) := by decide +kernel
theorem dX3_atom_94 : decode cX3_atom 94 = .ok (.ifCond .eq 7, 3) := by decide +kernel
theorem dX3_atom_97 : decode cX3_atom 97 = .ok (.iconst 1, 1) := by decide +kernel
theorem dX3_atom_98 : decode cX3_atom 98 = .ok (.goto 4, 3) := by decide +kernel
theorem dX3_atom_101 : decode cX3_atom 101 = .ok (.iconst 0, 1) := by decide +kernel
theorem dX3_atom_102 : decode cX3_atom 102 = .ok (.ireturn, 1) := by decide +kernel
theorem dX3_atom_103 : decode cX3_atom 103 = .ok (.aload_n 0, 1) := by decide +kernel
theorem dX3_atom_104 : decode cX3_atom 104 = .ok (.getfield 21, 3) := by decide +kernel
theorem dX3_atom_107 : decode cX3_atom 107 = .ok (.iconst 4, 1) := by decide +kernel
theorem dX3_atom_108 : decode cX3_atom 108 = .ok (.iconst 0, 1) := by decide +kernel
theorem dX3_atom_109 : decode cX3_atom 109 = .ok (.sipush 9999, 3) := by decide +kernel
theorem dX3_atom_112 : decode cX3_atom 112 = .ok (.invokevirtual 91, 3) := by decide +kernel
theorem dX3_atom_115 : decode cX3_atom 115 = .ok (.istore_n 3, 1) := by decide +kernel
theorem dX3_atom_116 : decode cX3_atom 116 = .ok (.aload_n 0, 1) := by decide +kernel
theorem dX3_atom_117 : decode cX3_atom 117 = .ok (.bipush 48, 2) := by decide +kernel
theorem dX3_atom_119 : decode cX3_atom 119 = .ok (.iload_n 3, 1) := by decide +kernel
theorem dX3_atom_120 : decode cX3_atom 120 = .ok (.invokevirtual 62, 3) := by decide +kernel
theorem dX3_atom_123 : decode cX3_atom 123 = .ok (.iload_n 3, 1) := by decide +kernel
theorem dX3_atom_124 : decode cX3_atom 124 = .ok (.ifCond .lt 7, 3) := by decide +kernel
theorem dX3_atom_127 : decode cX3_atom 127 = .ok (.iconst 1, 1) := by decide +kernel
theorem dX3_atom_128 : decode cX3_atom 128 = .ok (.goto 4, 3) := by decide +kernel
theorem dX3_atom_131 : decode cX3_atom 131 = .ok (.iconst 0, 1) := by decide +kernel
theorem dX3_atom_132 : decode cX3_atom 132 = .ok (.ireturn, 1) := by decide +kernel
theorem dX3_worth_0 : decode cX3_worth 0 = .ok (.iconst 0, 1) := by decide +kernel
theorem dX3_worth_1 : decode cX3_worth 1 = .ok (.istore_n 2, 1) := by decide +kernel
theorem dX3_worth_2 : decode cX3_worth 2 = .ok (.iconst 0, 1) := by decide +kernel
theorem dX3_worth_3 : decode cX3_worth 3 = .ok (.istore_n 3, 1) := by decide +kernel
theorem dX3_worth_4 : decode cX3_worth 4 = .ok (.iconst 0, 1) := by decide +kernel
theorem dX3_worth_5 : decode cX3_worth 5 = .ok (.istore 4, 2) := by decide +kernel
theorem dX3_worth_7 : decode cX3_worth 7 = .ok (.iload 4, 2) := by decide +kernel
theorem dX3_worth_9 : decode cX3_worth 9 = .ok (.aload_n 0, 1) := by decide +kernel
theorem dX3_worth_10 : decode cX3_worth 10 = .ok (.getfield 25, 3) := by decide +kernel
theorem dX3_worth_13 : decode cX3_worth 13 = .ok (.if_icmp .ge 273, 3) := by decide +kernel
theorem dX3_worth_16 : decode cX3_worth 16 = .ok (.iload 4, 2) := by decide +kernel
theorem dX3_worth_18 : decode cX3_worth 18 = .ok (.aload_n 0, 1) := by decide +kernel
theorem dX3_worth_19 : decode cX3_worth 19 = .ok (.getfield 11, 3) := by decide +kernel
theorem dX3_worth_22 : decode cX3_worth 22 = .ok (.arraylength, 1) := by decide +kernel
theorem dX3_worth_23 : decode cX3_worth 23 = .ok (.if_icmp .ge 263, 3) := by decide +kernel
theorem dX3_worth_26 : decode cX3_worth 26 = .ok (.aload_n 0, 1) := by decide +kernel
theorem dX3_worth_27 : decode cX3_worth 27 = .ok (.getfield 11, 3) := by decide +kernel
theorem dX3_worth_30 : decode cX3_worth 30 = .ok (.iload 4, 2) := by decide +kernel
theorem dX3_worth_32 : decode cX3_worth 32 = .ok (.iaload, 1) := by decide +kernel
theorem dX3_worth_33 : decode cX3_worth 33 = .ok (.istore 5, 2) := by decide +kernel
theorem dX3_worth_35 : decode cX3_worth 35 = .ok (.iload_n 3, 1) := by decide +kernel
theorem dX3_worth_36 : decode cX3_worth 36 = .ok (.ifCond .eq 19, 3) := by decide +kernel
theorem dX3_worth_39 : decode cX3_worth 39 = .ok (.iload 5, 2) := by decide +kernel
theorem dX3_worth_41 : decode cX3_worth 41 = .ok (.bipush 59, 2) := by decide +kernel
theorem dX3_worth_43 : decode cX3_worth 43 = .ok (.if_icmp .eq 7, 3) := by decide +kernel
theorem dX3_worth_46 : decode cX3_worth 46 = .ok (.iconst 1, 1) := by decide +kernel
theorem dX3_worth_47 : decode cX3_worth 47 = .ok (.goto 4, 3) := by decide +kernel
theorem dX3_worth_50 : decode cX3_worth 50 = .ok (.iconst 0, 1) := by decide +kernel
theorem dX3_worth_51 : decode cX3_worth 51 = .ok (.istore_n 3, 1) := by decide +kernel
theorem dX3_worth_52 : decode cX3_worth 52 = .ok (.goto 228, 3) := by decide +kernel
theorem dX3_worth_55 : decode cX3_worth 55 = .ok (.iload 5, 2) := by decide +kernel
theorem dX3_worth_57 : decode cX3_worth 57 = .ok (.bipush 59, 2) := by decide +kernel
theorem dX3_worth_59 : decode cX3_worth 59 = .ok (.if_icmp .ne 29, 3) := by decide +kernel
theorem dX3_worth_62 : decode cX3_worth 62 = .ok (.iload_n 2, 1) := by decide +kernel
theorem dX3_worth_63 : decode cX3_worth 63 = .ok (.ifCond .le 23, 3) := by decide +kernel
theorem dX3_worth_66 : decode cX3_worth 66 = .ok (.iload_n 2, 1) := by decide +kernel
theorem dX3_worth_67 : decode cX3_worth 67 = .ok (.aload_n 0, 1) := by decide +kernel
theorem dX3_worth_68 : decode cX3_worth 68 = .ok (.getfield 18, 3) := by decide +kernel
theorem dX3_worth_71 : decode cX3_worth 71 = .ok (.arraylength, 1) := by decide +kernel
theorem dX3_worth_72 : decode cX3_worth 72 = .ok (.if_icmp .gt 14, 3) := by decide +kernel
theorem dX3_worth_75 : decode cX3_worth 75 = .ok (.aload_n 0, 1) := by decide +kernel
theorem dX3_worth_76 : decode cX3_worth 76 = .ok (.getfield 18, 3) := by decide +kernel
theorem dX3_worth_79 : decode cX3_worth 79 = .ok (.iload_n 2, 1) := by decide +kernel
theorem dX3_worth_80 : decode cX3_worth 80 = .ok (.iconst 1, 1) := by decide +kernel
theorem dX3_worth_81 : decode cX3_worth 81 = .ok (.isub, 1) := by decide +kernel
theorem dX3_worth_82 : decode cX3_worth 82 = .ok (.iaload, 1) := by decide +kernel
theorem dX3_worth_83 : decode cX3_worth 83 = .ok (.goto 4, 3) := by decide +kernel
theorem dX3_worth_86 : decode cX3_worth 86 = .ok (.iconst 0, 1) := by decide +kernel
theorem dX3_worth_87 : decode cX3_worth 87 = .ok (.ireturn, 1) := by decide +kernel
theorem dX3_worth_88 : decode cX3_worth 88 = .ok (.iload 5, 2) := by decide +kernel
theorem dX3_worth_90 : decode cX3_worth 90 = .ok (.bipush 63, 2) := by decide +kernel
theorem dX3_worth_92 : decode cX3_worth 92 = .ok (.if_icmp .ne 30, 3) := by decide +kernel
theorem dX3_worth_95 : decode cX3_worth 95 = .ok (.iinc 2 (-1), 3) := by decide +kernel
theorem dX3_worth_98 : decode cX3_worth 98 = .ok (.iload_n 2, 1) := by decide +kernel
theorem dX3_worth_99 : decode cX3_worth 99 = .ok (.ifCond .lt 12, 3) := by decide +kernel
theorem dX3_worth_102 : decode cX3_worth 102 = .ok (.aload_n 0, 1) := by decide +kernel
theorem dX3_worth_103 : decode cX3_worth 103 = .ok (.getfield 18, 3) := by decide +kernel
theorem dX3_worth_106 : decode cX3_worth 106 = .ok (.iload_n 2, 1) := by decide +kernel
theorem dX3_worth_107 : decode cX3_worth 107 = .ok (.iaload, 1) := by decide +kernel
theorem dX3_worth_108 : decode cX3_worth 108 = .ok (.ifCond .ne 7, 3) := by decide +kernel
theorem dX3_worth_111 : decode cX3_worth 111 = .ok (.iconst 1, 1) := by decide +kernel
theorem dX3_worth_112 : decode cX3_worth 112 = .ok (.goto 4, 3) := by decide +kernel
theorem dX3_worth_115 : decode cX3_worth 115 = .ok (.iconst 0, 1) := by decide +kernel
theorem dX3_worth_116 : decode cX3_worth 116 = .ok (.istore_n 3, 1) := by decide +kernel
theorem dX3_worth_117 : decode cX3_worth 117 = .ok (.iconst 0, 1) := by decide +kernel
theorem dX3_worth_118 : decode cX3_worth 118 = .ok (.istore_n 2, 1) := by decide +kernel
theorem dX3_worth_119 : decode cX3_worth 119 = .ok (.goto 161, 3) := by decide +kernel
theorem dX3_worth_122 : decode cX3_worth 122 = .ok (.iload_n 2, 1) := by decide +kernel
theorem dX3_worth_123 : decode cX3_worth 123 = .ok (.aload_n 0, 1) := by decide +kernel
theorem dX3_worth_124 : decode cX3_worth 124 = .ok (.getfield 18, 3) := by decide +kernel
theorem dX3_worth_127 : decode cX3_worth 127 = .ok (.arraylength, 1) := by decide +kernel
theorem dX3_worth_128 : decode cX3_worth 128 = .ok (.if_icmp .lt 5, 3) := by decide +kernel
theorem dX3_worth_131 : decode cX3_worth 131 = .ok (.iconst 0, 1) := by decide +kernel
theorem dX3_worth_132 : decode cX3_worth 132 = .ok (.ireturn, 1) := by decide +kernel
theorem dX3_worth_133 : decode cX3_worth 133 = .ok (.iload 5, 2) := by decide +kernel
theorem dX3_worth_135 : decode cX3_worth 135 = .ok (.bipush 48, 2) := by decide +kernel
theorem dX3_worth_137 : decode cX3_worth 137 = .ok (.if_icmp .ne 22, 3) := by decide +kernel
theorem dX3_worth_140 : decode cX3_worth 140 = .ok (.aload_n 0, 1) := by decide +kernel
theorem dX3_worth_141 : decode cX3_worth 141 = .ok (.getfield 18, 3) := by decide +kernel
theorem dX3_worth_144 : decode cX3_worth 144 = .ok (.iload_n 2, 1) := by decide +kernel
theorem dX3_worth_145 : decode cX3_worth 145 = .ok (.aload_n 0, 1) := by decide +kernel
theorem dX3_worth_146 : decode cX3_worth 146 = .ok (.getfield 15, 3) := by decide +kernel
theorem dX3_worth_149 : decode cX3_worth 149 = .ok (.iload 4, 2) := by decide +kernel
theorem dX3_worth_151 : decode cX3_worth 151 = .ok (.iaload, 1) := by decide +kernel
theorem dX3_worth_152 : decode cX3_worth 152 = .ok (.iastore, 1) := by decide +kernel
theorem dX3_worth_153 : decode cX3_worth 153 = .ok (.iinc 2 1, 3) := by decide +kernel
theorem dX3_worth_156 : decode cX3_worth 156 = .ok (.goto 124, 3) := by decide +kernel
theorem dX3_worth_159 : decode cX3_worth 159 = .ok (.iload 5, 2) := by decide +kernel
theorem dX3_worth_161 : decode cX3_worth 161 = .ok (.bipush 97, 2) := by decide +kernel
theorem dX3_worth_163 : decode cX3_worth 163 = .ok (.if_icmp .ne 50, 3) := by decide +kernel
theorem dX3_worth_166 : decode cX3_worth 166 = .ok (.aload_n 0, 1) := by decide +kernel
theorem dX3_worth_167 : decode cX3_worth 167 = .ok (.getfield 18, 3) := by decide +kernel
theorem dX3_worth_170 : decode cX3_worth 170 = .ok (.iload_n 2, 1) := by decide +kernel
theorem dX3_worth_171 : decode cX3_worth 171 = .ok (.aload_n 0, 1) := by decide +kernel
theorem dX3_worth_172 : decode cX3_worth 172 = .ok (.getfield 15, 3) := by decide +kernel
theorem dX3_worth_175 : decode cX3_worth 175 = .ok (.iload 4, 2) := by decide +kernel
theorem dX3_worth_177 : decode cX3_worth 177 = .ok (.iaload, 1) := by decide +kernel
theorem dX3_worth_178 : decode cX3_worth 178 = .ok (.ifCond .lt 27, 3) := by decide +kernel
theorem dX3_worth_181 : decode cX3_worth 181 = .ok (.aload_n 0, 1) := by decide +kernel
theorem dX3_worth_182 : decode cX3_worth 182 = .ok (.getfield 15, 3) := by decide +kernel
theorem dX3_worth_185 : decode cX3_worth 185 = .ok (.iload 4, 2) := by decide +kernel
theorem dX3_worth_187 : decode cX3_worth 187 = .ok (.iaload, 1) := by decide +kernel
theorem dX3_worth_188 : decode cX3_worth 188 = .ok (.aload_n 1, 1) := by decide +kernel
theorem dX3_worth_189 : decode cX3_worth 189 = .ok (.arraylength, 1) := by decide +kernel
theorem dX3_worth_190 : decode cX3_worth 190 = .ok (.if_icmp .ge 15, 3) := by decide +kernel
theorem dX3_worth_193 : decode cX3_worth 193 = .ok (.aload_n 1, 1) := by decide +kernel
theorem dX3_worth_194 : decode cX3_worth 194 = .ok (.aload_n 0, 1) := by decide +kernel
theorem dX3_worth_195 : decode cX3_worth 195 = .ok (.getfield 15, 3) := by decide +kernel
theorem dX3_worth_198 : decode cX3_worth 198 = .ok (.iload 4, 2) := by decide +kernel
theorem dX3_worth_200 : decode cX3_worth 200 = .ok (.iaload, 1) := by decide +kernel
theorem dX3_worth_201 : decode cX3_worth 201 = .ok (.iaload, 1) := by decide +kernel
theorem dX3_worth_202 : decode cX3_worth 202 = .ok (.goto 4, 3) := by decide +kernel
theorem dX3_worth_205 : decode cX3_worth 205 = .ok (.iconst 0, 1) := by decide +kernel
theorem dX3_worth_206 : decode cX3_worth 206 = .ok (.iastore, 1) := by decide +kernel
theorem dX3_worth_207 : decode cX3_worth 207 = .ok (.iinc 2 1, 3) := by decide +kernel
theorem dX3_worth_210 : decode cX3_worth 210 = .ok (.goto 70, 3) := by decide +kernel
theorem dX3_worth_213 : decode cX3_worth 213 = .ok (.iload 5, 2) := by decide +kernel
theorem dX3_worth_215 : decode cX3_worth 215 = .ok (.bipush 33, 2) := by decide +kernel
theorem dX3_worth_217 : decode cX3_worth 217 = .ok (.if_icmp .ne 28, 3) := by decide +kernel
theorem dX3_worth_220 : decode cX3_worth 220 = .ok (.iload_n 2, 1) := by decide +kernel
theorem dX3_worth_221 : decode cX3_worth 221 = .ok (.ifCond .le 24, 3) := by decide +kernel
theorem dX3_worth_224 : decode cX3_worth 224 = .ok (.aload_n 0, 1) := by decide +kernel
theorem dX3_worth_225 : decode cX3_worth 225 = .ok (.getfield 18, 3) := by decide +kernel
theorem dX3_worth_228 : decode cX3_worth 228 = .ok (.iload_n 2, 1) := by decide +kernel
theorem dX3_worth_229 : decode cX3_worth 229 = .ok (.iconst 1, 1) := by decide +kernel
theorem dX3_worth_230 : decode cX3_worth 230 = .ok (.isub, 1) := by decide +kernel
theorem dX3_worth_231 : decode cX3_worth 231 = .ok (.iconst 1, 1) := by decide +kernel
theorem dX3_worth_232 : decode cX3_worth 232 = .ok (.aload_n 0, 1) := by decide +kernel
theorem dX3_worth_233 : decode cX3_worth 233 = .ok (.getfield 18, 3) := by decide +kernel
theorem dX3_worth_236 : decode cX3_worth 236 = .ok (.iload_n 2, 1) := by decide +kernel
theorem dX3_worth_237 : decode cX3_worth 237 = .ok (.iconst 1, 1) := by decide +kernel
theorem dX3_worth_238 : decode cX3_worth 238 = .ok (.isub, 1) := by decide +kernel
theorem dX3_worth_239 : decode cX3_worth 239 = .ok (.iaload, 1) := by decide +kernel
theorem dX3_worth_240 : decode cX3_worth 240 = .ok (.isub, 1) := by decide +kernel
theorem dX3_worth_241 : decode cX3_worth 241 = .ok (.iastore, 1) := by decide +kernel
theorem dX3_worth_242 : decode cX3_worth 242 = .ok (.goto 38, 3) := by decide +kernel
theorem dX3_worth_245 : decode cX3_worth 245 = .ok (.iload_n 2, 1) := by decide +kernel
theorem dX3_worth_246 : decode cX3_worth 246 = .ok (.iconst 1, 1) := by decide +kernel
theorem dX3_worth_247 : decode cX3_worth 247 = .ok (.if_icmp .le 33, 3) := by decide +kernel
theorem dX3_worth_250 : decode cX3_worth 250 = .ok (.iinc 2 (-1), 3) := by decide +kernel
theorem dX3_worth_253 : decode cX3_worth 253 = .ok (.aload_n 0, 1) := by decide +kernel
theorem dX3_worth_254 : decode cX3_worth 254 = .ok (.getfield 18, 3) := by decide +kernel
theorem dX3_worth_257 : decode cX3_worth 257 = .ok (.iload_n 2, 1) := by decide +kernel
theorem dX3_worth_258 : decode cX3_worth 258 = .ok (.iconst 1, 1) := by decide +kernel
theorem dX3_worth_259 : decode cX3_worth 259 = .ok (.isub, 1) := by decide +kernel
theorem dX3_worth_260 : decode cX3_worth 260 = .ok (.iload 5, 2) := by decide +kernel
theorem dX3_worth_262 : decode cX3_worth 262 = .ok (.aload_n 0, 1) := by decide +kernel
theorem dX3_worth_263 : decode cX3_worth 263 = .ok (.getfield 18, 3) := by decide +kernel
theorem dX3_worth_266 : decode cX3_worth 266 = .ok (.iload_n 2, 1) := by decide +kernel
theorem dX3_worth_267 : decode cX3_worth 267 = .ok (.iconst 1, 1) := by decide +kernel
theorem dX3_worth_268 : decode cX3_worth 268 = .ok (.isub, 1) := by decide +kernel
theorem dX3_worth_269 : decode cX3_worth 269 = .ok (.iaload, 1) := by decide +kernel
theorem dX3_worth_270 : decode cX3_worth 270 = .ok (.aload_n 0, 1) := by decide +kernel
theorem dX3_worth_271 : decode cX3_worth 271 = .ok (.getfield 18, 3) := by decide +kernel
theorem dX3_worth_274 : decode cX3_worth 274 = .ok (.iload_n 2, 1) := by decide +kernel
theorem dX3_worth_275 : decode cX3_worth 275 = .ok (.iaload, 1) := by decide +kernel
theorem dX3_worth_276 : decode cX3_worth 276 = .ok (.invokestatic 95, 3) := by decide +kernel
theorem dX3_worth_279 : decode cX3_worth 279 = .ok (.iastore, 1) := by decide +kernel
theorem dX3_worth_280 : decode cX3_worth 280 = .ok (.iinc 4 1, 3) := by decide +kernel
theorem dX3_worth_283 : decode cX3_worth 283 = .ok (.goto (-276), 3) := by decide +kernel
theorem dX3_worth_286 : decode cX3_worth 286 = .ok (.iconst 0, 1) := by decide +kernel
theorem dX3_worth_287 : decode cX3_worth 287 = .ok (.ireturn, 1) := by decide +kernel
theorem dX3_joined_0 : decode cX3_joined 0 = .ok (.lconst 0, 1) := by decide +kernel
theorem dX3_joined_1 : decode cX3_joined 1 = .ok (.lstore_n 3, 1) := by decide +kernel
theorem dX3_joined_2 : decode cX3_joined 2 = .ok (.iload_n 0, 1) := by decide +kernel
theorem dX3_joined_3 : decode cX3_joined 3 = .ok (.tableswitch 206 38 62 #[198, 206, 206, 206, 131, 113, 206, 122, 206, 140, 206, 206, 206, 206, 206, 206, 206, 206, 206, 206, 206, 206, 170, 156, 184], 113) := by decide +kernel
theorem dX3_joined_116 : decode cX3_joined 116 = .ok (.iload_n 1, 1) := by decide +kernel
theorem dX3_joined_117 : decode cX3_joined 117 = .ok (.i2l, 1) := by decide +kernel
theorem dX3_joined_118 : decode cX3_joined 118 = .ok (.iload_n 2, 1) := by decide +kernel
theorem dX3_joined_119 : decode cX3_joined 119 = .ok (.i2l, 1) := by decide +kernel
theorem dX3_joined_120 : decode cX3_joined 120 = .ok (.ladd, 1) := by decide +kernel
theorem dX3_joined_121 : decode cX3_joined 121 = .ok (.lstore_n 3, 1) := by decide +kernel
theorem dX3_joined_122 : decode cX3_joined 122 = .ok (.goto 92, 3) := by decide +kernel
theorem dX3_joined_125 : decode cX3_joined 125 = .ok (.iload_n 1, 1) := by decide +kernel
theorem dX3_joined_126 : decode cX3_joined 126 = .ok (.i2l, 1) := by decide +kernel
theorem dX3_joined_127 : decode cX3_joined 127 = .ok (.iload_n 2, 1) := by decide +kernel
theorem dX3_joined_128 : decode cX3_joined 128 = .ok (.i2l, 1) := by decide +kernel
theorem dX3_joined_129 : decode cX3_joined 129 = .ok (.lsub, 1) := by decide +kernel
theorem dX3_joined_130 : decode cX3_joined 130 = .ok (.lstore_n 3, 1) := by decide +kernel
theorem dX3_joined_131 : decode cX3_joined 131 = .ok (.goto 83, 3) := by decide +kernel
theorem dX3_joined_134 : decode cX3_joined 134 = .ok (.iload_n 1, 1) := by decide +kernel
theorem dX3_joined_135 : decode cX3_joined 135 = .ok (.i2l, 1) := by decide +kernel
theorem dX3_joined_136 : decode cX3_joined 136 = .ok (.iload_n 2, 1) := by decide +kernel
theorem dX3_joined_137 : decode cX3_joined 137 = .ok (.i2l, 1) := by decide +kernel
theorem dX3_joined_138 : decode cX3_joined 138 = .ok (.lmul, 1) := by decide +kernel
theorem dX3_joined_139 : decode cX3_joined 139 = .ok (.lstore_n 3, 1) := by decide +kernel
theorem dX3_joined_140 : decode cX3_joined 140 = .ok (.goto 74, 3) := by decide +kernel
theorem dX3_joined_143 : decode cX3_joined 143 = .ok (.iload_n 2, 1) := by decide +kernel
theorem dX3_joined_144 : decode cX3_joined 144 = .ok (.ifCond .ne 7, 3) := by decide +kernel
theorem dX3_joined_147 : decode cX3_joined 147 = .ok (.lconst 0, 1) := by decide +kernel
theorem dX3_joined_148 : decode cX3_joined 148 = .ok (.goto 7, 3) := by decide +kernel
theorem dX3_joined_151 : decode cX3_joined 151 = .ok (.iload_n 1, 1) := by decide +kernel
theorem dX3_joined_152 : decode cX3_joined 152 = .ok (.iload_n 2, 1) := by decide +kernel
theorem dX3_joined_153 : decode cX3_joined 153 = .ok (.idiv, 1) := by decide +kernel
theorem dX3_joined_154 : decode cX3_joined 154 = .ok (.i2l, 1) := by decide +kernel
theorem dX3_joined_155 : decode cX3_joined 155 = .ok (.lstore_n 3, 1) := by decide +kernel
theorem dX3_joined_156 : decode cX3_joined 156 = .ok (.goto 58, 3) := by decide +kernel
theorem dX3_joined_159 : decode cX3_joined 159 = .ok (.iload_n 1, 1) := by decide +kernel
theorem dX3_joined_160 : decode cX3_joined 160 = .ok (.iload_n 2, 1) := by decide +kernel
theorem dX3_joined_161 : decode cX3_joined 161 = .ok (.if_icmp .ne 7, 3) := by decide +kernel
theorem dX3_joined_164 : decode cX3_joined 164 = .ok (.lconst 1, 1) := by decide +kernel
theorem dX3_joined_165 : decode cX3_joined 165 = .ok (.goto 4, 3) := by decide +kernel
theorem dX3_joined_168 : decode cX3_joined 168 = .ok (.lconst 0, 1) := by decide +kernel
theorem dX3_joined_169 : decode cX3_joined 169 = .ok (.lstore_n 3, 1) := by decide +kernel
theorem dX3_joined_170 : decode cX3_joined 170 = .ok (.goto 44, 3) := by decide +kernel
theorem dX3_joined_173 : decode cX3_joined 173 = .ok (.iload_n 1, 1) := by decide +kernel
theorem dX3_joined_174 : decode cX3_joined 174 = .ok (.iload_n 2, 1) := by decide +kernel
theorem dX3_joined_175 : decode cX3_joined 175 = .ok (.if_icmp .ge 7, 3) := by decide +kernel
theorem dX3_joined_178 : decode cX3_joined 178 = .ok (.lconst 1, 1) := by decide +kernel
theorem dX3_joined_179 : decode cX3_joined 179 = .ok (.goto 4, 3) := by decide +kernel
theorem dX3_joined_182 : decode cX3_joined 182 = .ok (.lconst 0, 1) := by decide +kernel
theorem dX3_joined_183 : decode cX3_joined 183 = .ok (.lstore_n 3, 1) := by decide +kernel
theorem dX3_joined_184 : decode cX3_joined 184 = .ok (.goto 30, 3) := by decide +kernel
theorem dX3_joined_187 : decode cX3_joined 187 = .ok (.iload_n 1, 1) := by decide +kernel
theorem dX3_joined_188 : decode cX3_joined 188 = .ok (.iload_n 2, 1) := by decide +kernel
theorem dX3_joined_189 : decode cX3_joined 189 = .ok (.if_icmp .le 7, 3) := by decide +kernel
theorem dX3_joined_192 : decode cX3_joined 192 = .ok (.lconst 1, 1) := by decide +kernel
theorem dX3_joined_193 : decode cX3_joined 193 = .ok (.goto 4, 3) := by decide +kernel
theorem dX3_joined_196 : decode cX3_joined 196 = .ok (.lconst 0, 1) := by decide +kernel
theorem dX3_joined_197 : decode cX3_joined 197 = .ok (.lstore_n 3, 1) := by decide +kernel
theorem dX3_joined_198 : decode cX3_joined 198 = .ok (.goto 16, 3) := by decide +kernel
theorem dX3_joined_201 : decode cX3_joined 201 = .ok (.iload_n 1, 1) := by decide +kernel
theorem dX3_joined_202 : decode cX3_joined 202 = .ok (.iload_n 2, 1) := by decide +kernel
theorem dX3_joined_203 : decode cX3_joined 203 = .ok (.iand, 1) := by decide +kernel
theorem dX3_joined_204 : decode cX3_joined 204 = .ok (.i2l, 1) := by decide +kernel
theorem dX3_joined_205 : decode cX3_joined 205 = .ok (.lstore_n 3, 1) := by decide +kernel
theorem dX3_joined_206 : decode cX3_joined 206 = .ok (.goto 8, 3) := by decide +kernel
theorem dX3_joined_209 : decode cX3_joined 209 = .ok (.iload_n 1, 1) := by decide +kernel
theorem dX3_joined_210 : decode cX3_joined 210 = .ok (.iload_n 2, 1) := by decide +kernel
theorem dX3_joined_211 : decode cX3_joined 211 = .ok (.ior, 1) := by decide +kernel
theorem dX3_joined_212 : decode cX3_joined 212 = .ok (.i2l, 1) := by decide +kernel
theorem dX3_joined_213 : decode cX3_joined 213 = .ok (.lstore_n 3, 1) := by decide +kernel
theorem dX3_joined_214 : decode cX3_joined 214 = .ok (.lload_n 3, 1) := by decide +kernel
theorem dX3_joined_215 : decode cX3_joined 215 = .ok (.ldc2_w 98, 3) := by decide +kernel
theorem dX3_joined_218 : decode cX3_joined 218 = .ok (.lcmp, 1) := by decide +kernel
theorem dX3_joined_219 : decode cX3_joined 219 = .ok (.ifCond .le 8, 3) := by decide +kernel
theorem dX3_joined_222 : decode cX3_joined 222 = .ok (.ldc 100, 2) := by decide +kernel
theorem dX3_joined_224 : decode cX3_joined 224 = .ok (.goto 18, 3) := by decide +kernel
theorem dX3_joined_227 : decode cX3_joined 227 = .ok (.lload_n 3, 1) := by decide +kernel
theorem dX3_joined_228 : decode cX3_joined 228 = .ok (.ldc2_w 101, 3) := by decide +kernel
theorem dX3_joined_231 : decode cX3_joined 231 = .ok (.lcmp, 1) := by decide +kernel
theorem dX3_joined_232 : decode cX3_joined 232 = .ok (.ifCond .ge 8, 3) := by decide +kernel
theorem dX3_joined_235 : decode cX3_joined 235 = .ok (.ldc 103, 2) := by decide +kernel
theorem dX3_joined_237 : decode cX3_joined 237 = .ok (.goto 5, 3) := by decide +kernel
theorem dX3_joined_240 : decode cX3_joined 240 = .ok (.lload_n 3, 1) := by decide +kernel
theorem dX3_joined_241 : decode cX3_joined 241 = .ok (.l2i, 1) := by decide +kernel
theorem dX3_joined_242 : decode cX3_joined 242 = .ok (.ireturn, 1) := by decide +kernel
theorem dX4_init_0 : decode cX4_init 0 = .ok (.aload_n 0, 1) := by decide +kernel
theorem dX4_init_1 : decode cX4_init 1 = .ok (.invokespecial 3, 3) := by decide +kernel
theorem dX4_init_4 : decode cX4_init 4 = .ok (.aload_n 0, 1) := by decide +kernel
theorem dX4_init_5 : decode cX4_init 5 = .ok (.bipush 40, 2) := by decide +kernel
theorem dX4_init_7 : decode cX4_init 7 = .ok (.anewarray 9, 3) := by decide +kernel
theorem dX4_init_10 : decode cX4_init 10 = .ok (.putfield 11, 3) := by decide +kernel
theorem dX4_init_13 : decode cX4_init 13 = .ok (.iconst 0, 1) := by decide +kernel
theorem dX4_init_14 : decode cX4_init 14 = .ok (.istore_n 1, 1) := by decide +kernel
theorem dX4_init_15 : decode cX4_init 15 = .ok (.iload_n 1, 1) := by decide +kernel
theorem dX4_init_16 : decode cX4_init 16 = .ok (.aload_n 0, 1) := by decide +kernel
theorem dX4_init_17 : decode cX4_init 17 = .ok (.getfield 11, 3) := by decide +kernel
theorem dX4_init_20 : decode cX4_init 20 = .ok (.arraylength, 1) := by decide +kernel
theorem dX4_init_21 : decode cX4_init 21 = .ok (.if_icmp .ge 22, 3) := by decide +kernel
theorem dX4_init_24 : decode cX4_init 24 = .ok (.aload_n 0, 1) := by decide +kernel
theorem dX4_init_25 : decode cX4_init 25 = .ok (.getfield 11, 3) := by decide +kernel
theorem dX4_init_28 : decode cX4_init 28 = .ok (.iload_n 1, 1) := by decide +kernel
theorem dX4_init_29 : decode cX4_init 29 = .ok (.new 9, 3) := by decide +kernel
theorem dX4_init_32 : decode cX4_init 32 = .ok (.dup, 1) := by decide +kernel
theorem dX4_init_33 : decode cX4_init 33 = .ok (.invokespecial 17, 3) := by decide +kernel
theorem dX4_init_36 : decode cX4_init 36 = .ok (.aastore, 1) := by decide +kernel
theorem dX4_init_37 : decode cX4_init 37 = .ok (.iinc 1 1, 3) := by decide +kernel
theorem dX4_init_40 : decode cX4_init 40 = .ok (.goto (-25), 3) := by decide +kernel
theorem dX4_init_43 : decode cX4_init 43 = .ok (.return_, 1) := by decide +kernel
theorem dX4_clear_0 : decode cX4_clear 0 = .ok (.aload_n 0, 1) := by decide +kernel
theorem dX4_clear_1 : decode cX4_clear 1 = .ok (.iconst 0, 1) := by decide +kernel
theorem dX4_clear_2 : decode cX4_clear 2 = .ok (.putfield 18, 3) := by decide +kernel
theorem dX4_clear_5 : decode cX4_clear 5 = .ok (.aload_n 0, 1) := by decide +kernel
theorem dX4_clear_6 : decode cX4_clear 6 = .ok (.iconst 0, 1) := by decide +kernel
theorem dX4_clear_7 : decode cX4_clear 7 = .ok (.putfield 22, 3) := by decide +kernel
theorem dX4_clear_10 : decode cX4_clear 10 = .ok (.return_, 1) := by decide +kernel
theorem dX4_keep_0 : decode cX4_keep 0 = .ok (.aload_n 0, 1) := by decide +kernel
theorem dX4_keep_1 : decode cX4_keep 1 = .ok (.getfield 22, 3) := by decide +kernel
theorem dX4_keep_4 : decode cX4_keep 4 = .ok (.ifCond .lt 15, 3) := by decide +kernel
theorem dX4_keep_7 : decode cX4_keep 7 = .ok (.aload_n 0, 1) := by decide +kernel
theorem dX4_keep_8 : decode cX4_keep 8 = .ok (.getfield 22, 3) := by decide +kernel
theorem dX4_keep_11 : decode cX4_keep 11 = .ok (.aload_n 0, 1) := by decide +kernel
theorem dX4_keep_12 : decode cX4_keep 12 = .ok (.getfield 11, 3) := by decide +kernel
theorem dX4_keep_15 : decode cX4_keep 15 = .ok (.arraylength, 1) := by decide +kernel
theorem dX4_keep_16 : decode cX4_keep 16 = .ok (.if_icmp .lt 4, 3) := by decide +kernel
theorem dX4_keep_19 : decode cX4_keep 19 = .ok (.return_, 1) := by decide +kernel
theorem dX4_keep_20 : decode cX4_keep 20 = .ok (.aload_n 0, 1) := by decide +kernel
theorem dX4_keep_21 : decode cX4_keep 21 = .ok (.getfield 11, 3) := by decide +kernel
theorem dX4_keep_24 : decode cX4_keep 24 = .ok (.aload_n 0, 1) := by decide +kernel
theorem dX4_keep_25 : decode cX4_keep 25 = .ok (.getfield 22, 3) := by decide +kernel
theorem dX4_keep_28 : decode cX4_keep 28 = .ok (.aaload, 1) := by decide +kernel
theorem dX4_keep_29 : decode cX4_keep 29 = .ok (.aload_n 1, 1) := by decide +kernel
theorem dX4_keep_30 : decode cX4_keep 30 = .ok (.invokevirtual 25, 3) := by decide +kernel
theorem dX4_keep_33 : decode cX4_keep 33 = .ok (.aload_n 0, 1) := by decide +kernel
theorem dX4_keep_34 : decode cX4_keep 34 = .ok (.aload_n 0, 1) := by decide +kernel
theorem dX4_keep_35 : decode cX4_keep 35 = .ok (.getfield 22, 3) := by decide +kernel
theorem dX4_keep_38 : decode cX4_keep 38 = .ok (.iconst 1, 1) := by decide +kernel
theorem dX4_keep_39 : decode cX4_keep 39 = .ok (.iadd, 1) := by decide +kernel
theorem dX4_keep_40 : decode cX4_keep 40 = .ok (.bipush 40, 2) := by decide +kernel
theorem dX4_keep_42 : decode cX4_keep 42 = .ok (.irem, 1) := by decide +kernel
theorem dX4_keep_43 : decode cX4_keep 43 = .ok (.putfield 22, 3) := by decide +kernel
theorem dX4_keep_46 : decode cX4_keep 46 = .ok (.aload_n 0, 1) := by decide +kernel
theorem dX4_keep_47 : decode cX4_keep 47 = .ok (.bipush 40, 2) := by decide +kernel
theorem dX4_keep_49 : decode cX4_keep 49 = .ok (.aload_n 0, 1) := by decide +kernel
theorem dX4_keep_50 : decode cX4_keep 50 = .ok (.getfield 18, 3) := by decide +kernel
theorem dX4_keep_53 : decode cX4_keep 53 = .ok (.iconst 1, 1) := by decide +kernel
theorem dX4_keep_54 : decode cX4_keep 54 = .ok (.iadd, 1) := by decide +kernel
theorem dX4_keep_55 : decode cX4_keep 55 = .ok (.invokestatic 29, 3) := by decide +kernel
theorem dX4_keep_58 : decode cX4_keep 58 = .ok (.putfield 18, 3) := by decide +kernel
theorem dX4_keep_61 : decode cX4_keep 61 = .ok (.return_, 1) := by decide +kernel
theorem dX4_giveBack_0 : decode cX4_giveBack 0 = .ok (.aload_n 0, 1) := by decide +kernel
theorem dX4_giveBack_1 : decode cX4_giveBack 1 = .ok (.getfield 22, 3) := by decide +kernel
theorem dX4_giveBack_4 : decode cX4_giveBack 4 = .ok (.bipush 40, 2) := by decide +kernel
theorem dX4_giveBack_6 : decode cX4_giveBack 6 = .ok (.iadd, 1) := by decide +kernel
theorem dX4_giveBack_7 : decode cX4_giveBack 7 = .ok (.iconst 1, 1) := by decide +kernel
theorem dX4_giveBack_8 : decode cX4_giveBack 8 = .ok (.isub, 1) := by decide +kernel
theorem dX4_giveBack_9 : decode cX4_giveBack 9 = .ok (.bipush 40, 2) := by decide +kernel
theorem dX4_giveBack_11 : decode cX4_giveBack 11 = .ok (.irem, 1) := by decide +kernel
theorem dX4_giveBack_12 : decode cX4_giveBack 12 = .ok (.istore_n 2, 1) := by decide +kernel
theorem dX4_giveBack_13 : decode cX4_giveBack 13 = .ok (.aload_n 0, 1) := by decide +kernel
theorem dX4_giveBack_14 : decode cX4_giveBack 14 = .ok (.getfield 18, 3) := by decide +kernel
theorem dX4_giveBack_17 : decode cX4_giveBack 17 = .ok (.iconst 1, 1) := by decide +kernel
theorem dX4_giveBack_18 : decode cX4_giveBack 18 = .ok (.if_icmp .lt 7, 3) := by decide +kernel
theorem dX4_giveBack_21 : decode cX4_giveBack 21 = .ok (.iload_n 2, 1) := by decide +kernel
theorem dX4_giveBack_22 : decode cX4_giveBack 22 = .ok (.ifCond .ge 5, 3) := by decide +kernel
theorem dX4_giveBack_25 : decode cX4_giveBack 25 = .ok (.iconst 0, 1) := by decide +kernel
theorem dX4_giveBack_26 : decode cX4_giveBack 26 = .ok (.ireturn, 1) := by decide +kernel
theorem dX4_giveBack_27 : decode cX4_giveBack 27 = .ok (.aload_n 1, 1) := by decide +kernel
theorem dX4_giveBack_28 : decode cX4_giveBack 28 = .ok (.aload_n 0, 1) := by decide +kernel
theorem dX4_giveBack_29 : decode cX4_giveBack 29 = .ok (.getfield 11, 3) := by decide +kernel
theorem dX4_giveBack_32 : decode cX4_giveBack 32 = .ok (.iload_n 2, 1) := by decide +kernel
theorem dX4_giveBack_33 : decode cX4_giveBack 33 = .ok (.aaload, 1) := by decide +kernel
theorem dX4_giveBack_34 : decode cX4_giveBack 34 = .ok (.invokevirtual 25, 3) := by decide +kernel
theorem dX4_giveBack_37 : decode cX4_giveBack 37 = .ok (.aload_n 0, 1) := by decide +kernel
theorem dX4_giveBack_38 : decode cX4_giveBack 38 = .ok (.iload_n 2, 1) := by decide +kernel
theorem dX4_giveBack_39 : decode cX4_giveBack 39 = .ok (.putfield 22, 3) := by decide +kernel
theorem dX4_giveBack_42 : decode cX4_giveBack 42 = .ok (.aload_n 0, 1) := by decide +kernel
theorem dX4_giveBack_43 : decode cX4_giveBack 43 = .ok (.dup, 1) := by decide +kernel
theorem dX4_giveBack_44 : decode cX4_giveBack 44 = .ok (.getfield 18, 3) := by decide +kernel
theorem dX4_giveBack_47 : decode cX4_giveBack 47 = .ok (.iconst 1, 1) := by decide +kernel
theorem dX4_giveBack_48 : decode cX4_giveBack 48 = .ok (.isub, 1) := by decide +kernel
theorem dX4_giveBack_49 : decode cX4_giveBack 49 = .ok (.putfield 18, 3) := by decide +kernel
theorem dX4_giveBack_52 : decode cX4_giveBack 52 = .ok (.iconst 1, 1) := by decide +kernel
theorem dX4_giveBack_53 : decode cX4_giveBack 53 = .ok (.ireturn, 1) := by decide +kernel
theorem dX5_init_0 : decode cX5_init 0 = .ok (.aload_n 0, 1) := by decide +kernel
theorem dX5_init_1 : decode cX5_init 1 = .ok (.invokespecial 3, 3) := by decide +kernel
theorem dX5_init_4 : decode cX5_init 4 = .ok (.aload_n 0, 1) := by decide +kernel
theorem dX5_init_5 : decode cX5_init 5 = .ok (.bipush 16, 2) := by decide +kernel
theorem dX5_init_7 : decode cX5_init 7 = .ok (.newarray .int, 2) := by decide +kernel
theorem dX5_init_9 : decode cX5_init 9 = .ok (.putfield 9, 3) := by decide +kernel
theorem dX5_init_12 : decode cX5_init 12 = .ok (.aload_n 0, 1) := by decide +kernel
theorem dX5_init_13 : decode cX5_init 13 = .ok (.bipush 16, 2) := by decide +kernel
theorem dX5_init_15 : decode cX5_init 15 = .ok (.newarray .int, 2) := by decide +kernel
theorem dX5_init_17 : decode cX5_init 17 = .ok (.putfield 15, 3) := by decide +kernel
theorem dX5_init_20 : decode cX5_init 20 = .ok (.aload_n 0, 1) := by decide +kernel
theorem dX5_init_21 : decode cX5_init 21 = .ok (.bipush 16, 2) := by decide +kernel
theorem dX5_init_23 : decode cX5_init 23 = .ok (.newarray .int, 2) := by decide +kernel
theorem dX5_init_25 : decode cX5_init 25 = .ok (.putfield 18, 3) := by decide +kernel
theorem dX5_init_28 : decode cX5_init 28 = .ok (.aload_n 0, 1) := by decide +kernel
theorem dX5_init_29 : decode cX5_init 29 = .ok (.aload_n 1, 1) := by decide +kernel
theorem dX5_init_30 : decode cX5_init 30 = .ok (.putfield 21, 3) := by decide +kernel
theorem dX5_init_33 : decode cX5_init 33 = .ok (.return_, 1) := by decide +kernel
theorem dX5_parse_0 : decode cX5_parse 0 = .ok (.aload_n 0, 1) := by decide +kernel
theorem dX5_parse_1 : decode cX5_parse 1 = .ok (.iconst 0, 1) := by decide +kernel
theorem dX5_parse_2 : decode cX5_parse 2 = .ok (.putfield 25, 3) := by decide +kernel
theorem dX5_parse_5 : decode cX5_parse 5 = .ok (.aload_n 0, 1) := by decide +kernel
theorem dX5_parse_6 : decode cX5_parse 6 = .ok (.getfield 21, 3) := by decide +kernel
theorem dX5_parse_9 : decode cX5_parse 9 = .ok (.invokevirtual 29, 3) := by decide +kernel
theorem dX5_parse_12 : decode cX5_parse 12 = .ok (.iconst 1, 1) := by decide +kernel
theorem dX5_parse_13 : decode cX5_parse 13 = .ok (.istore_n 1, 1) := by decide +kernel
theorem dX5_parse_14 : decode cX5_parse 14 = .ok (.iconst 0, 1) := by decide +kernel
theorem dX5_parse_15 : decode cX5_parse 15 = .ok (.istore_n 2, 1) := by decide +kernel
theorem dX5_parse_16 : decode cX5_parse 16 = .ok (.iload_n 1, 1) := by decide +kernel
theorem dX5_parse_17 : decode cX5_parse 17 = .ok (.ifCond .eq 51, 3) := by decide +kernel
theorem dX5_parse_20 : decode cX5_parse 20 = .ok (.iload_n 2, 1) := by decide +kernel
theorem dX5_parse_21 : decode cX5_parse 21 = .ok (.bipush 16, 2) := by decide +kernel
theorem dX5_parse_23 : decode cX5_parse 23 = .ok (.if_icmp .ge 45, 3) := by decide +kernel
theorem dX5_parse_26 : decode cX5_parse 26 = .ok (.aload_n 0, 1) := by decide +kernel
theorem dX5_parse_27 : decode cX5_parse 27 = .ok (.invokevirtual 34, 3) := by decide +kernel
theorem dX5_parse_30 : decode cX5_parse 30 = .ok (.ifCond .ne 5, 3) := by decide +kernel
theorem dX5_parse_33 : decode cX5_parse 33 = .ok (.iconst 0, 1) := by decide +kernel
theorem dX5_parse_34 : decode cX5_parse 34 = .ok (.ireturn, 1) := by decide +kernel
theorem dX5_parse_35 : decode cX5_parse 35 = .ok (.aload_n 0, 1) := by decide +kernel
theorem dX5_parse_36 : decode cX5_parse 36 = .ok (.getfield 25, 3) := by decide +kernel
theorem dX5_parse_39 : decode cX5_parse 39 = .ok (.bipush 16, 2) := by decide +kernel
theorem dX5_parse_41 : decode cX5_parse 41 = .ok (.if_icmp .ge 19, 3) := by decide +kernel
theorem dX5_parse_44 : decode cX5_parse 44 = .ok (.aload_n 0, 1) := by decide +kernel
theorem dX5_parse_45 : decode cX5_parse 45 = .ok (.getfield 21, 3) := by decide +kernel
theorem dX5_parse_48 : decode cX5_parse 48 = .ok (.bipush 59, 2) := by decide +kernel
theorem dX5_parse_50 : decode cX5_parse 50 = .ok (.invokevirtual 38, 3) := by decide +kernel
theorem dX5_parse_53 : decode cX5_parse 53 = .ok (.ifCond .eq 7, 3) := by decide +kernel
theorem dX5_parse_56 : decode cX5_parse 56 = .ok (.iconst 1, 1) := by decide +kernel
theorem dX5_parse_57 : decode cX5_parse 57 = .ok (.goto 4, 3) := by decide +kernel
theorem dX5_parse_60 : decode cX5_parse 60 = .ok (.iconst 0, 1) := by decide +kernel
theorem dX5_parse_61 : decode cX5_parse 61 = .ok (.istore_n 1, 1) := by decide +kernel
theorem dX5_parse_62 : decode cX5_parse 62 = .ok (.iinc 2 1, 3) := by decide +kernel
theorem dX5_parse_65 : decode cX5_parse 65 = .ok (.goto (-49), 3) := by decide +kernel
theorem dX5_parse_68 : decode cX5_parse 68 = .ok (.aload_n 0, 1) := by decide +kernel
theorem dX5_parse_69 : decode cX5_parse 69 = .ok (.getfield 21, 3) := by decide +kernel
theorem dX5_parse_72 : decode cX5_parse 72 = .ok (.invokevirtual 42, 3) := by decide +kernel
theorem dX5_parse_75 : decode cX5_parse 75 = .ok (.iconst (-1), 1) := by decide +kernel
theorem dX5_parse_76 : decode cX5_parse 76 = .ok (.if_icmp .eq 13, 3) := by decide +kernel
theorem dX5_parse_79 : decode cX5_parse 79 = .ok (.aload_n 0, 1) := by decide +kernel
theorem dX5_parse_80 : decode cX5_parse 80 = .ok (.getfield 21, 3) := by decide +kernel
theorem dX5_parse_83 : decode cX5_parse 83 = .ok (.invokevirtual 46, 3) := by decide +kernel
theorem dX5_parse_86 : decode cX5_parse 86 = .ok (.ifCond .eq 7, 3) := by decide +kernel
theorem dX5_parse_89 : decode cX5_parse 89 = .ok (.iconst 1, 1) := by decide +kernel
theorem dX5_parse_90 : decode cX5_parse 90 = .ok (.goto 4, 3) := by decide +kernel
theorem dX5_parse_93 : decode cX5_parse 93 = .ok (.iconst 0, 1) := by decide +kernel
theorem dX5_parse_94 : decode cX5_parse 94 = .ok (.ireturn, 1) := by decide +kernel
theorem dX5_stepText_0 : decode cX5_stepText 0 = .ok (.aload_n 0, 1) := by decide +kernel
theorem dX5_stepText_1 : decode cX5_stepText 1 = .ok (.getfield 21, 3) := by decide +kernel
theorem dX5_stepText_4 : decode cX5_stepText 4 = .ok (.ldc 49, 2) := by decide +kernel
theorem dX5_stepText_6 : decode cX5_stepText 6 = .ok (.invokevirtual 51, 3) := by decide +kernel
theorem dX5_stepText_9 : decode cX5_stepText 9 = .ok (.istore_n 1, 1) := by decide +kernel
theorem dX5_stepText_10 : decode cX5_stepText 10 = .ok (.iload_n 1, 1) := by decide +kernel
theorem dX5_stepText_11 : decode cX5_stepText 11 = .ok (.ifCond .ge 11, 3) := by decide +kernel
theorem dX5_stepText_14 : decode cX5_stepText 14 = .ok (.aload_n 0, 1) := by decide +kernel
theorem dX5_stepText_15 : decode cX5_stepText 15 = .ok (.getfield 21, 3) := by decide +kernel
theorem dX5_stepText_18 : decode cX5_stepText 18 = .ok (.invokevirtual 46, 3) := by decide +kernel
theorem dX5_stepText_21 : decode cX5_stepText 21 = .ok (.ireturn, 1) := by decide +kernel
theorem dX5_stepText_22 : decode cX5_stepText 22 = .ok (.aload_n 0, 1) := by decide +kernel
theorem dX5_stepText_23 : decode cX5_stepText 23 = .ok (.getfield 21, 3) := by decide +kernel
theorem dX5_stepText_26 : decode cX5_stepText 26 = .ok (.dup, 1) := by decide +kernel
theorem dX5_stepText_27 : decode cX5_stepText 27 = .ok (.getfield 55, 3) := by decide +kernel
theorem dX5_stepText_30 : decode cX5_stepText 30 = .ok (.iconst 1, 1) := by decide +kernel
theorem dX5_stepText_31 : decode cX5_stepText 31 = .ok (.iadd, 1) := by decide +kernel
theorem dX5_stepText_32 : decode cX5_stepText 32 = .ok (.putfield 55, 3) := by decide +kernel
theorem dX5_stepText_35 : decode cX5_stepText 35 = .ok (.iload_n 1, 1) := by decide +kernel
theorem dX5_stepText_36 : decode cX5_stepText 36 = .ok (.iconst 3, 1) := by decide +kernel
theorem dX5_stepText_37 : decode cX5_stepText 37 = .ok (.if_icmp .ne 11, 3) := by decide +kernel
theorem dX5_stepText_40 : decode cX5_stepText 40 = .ok (.aload_n 0, 1) := by decide +kernel
theorem dX5_stepText_41 : decode cX5_stepText 41 = .ok (.iload_n 1, 1) := by decide +kernel
theorem dX5_stepText_42 : decode cX5_stepText 42 = .ok (.iconst (-1), 1) := by decide +kernel
theorem dX5_stepText_43 : decode cX5_stepText 43 = .ok (.iconst (-1), 1) := by decide +kernel
theorem dX5_stepText_44 : decode cX5_stepText 44 = .ok (.invokevirtual 58, 3) := by decide +kernel
theorem dX5_stepText_47 : decode cX5_stepText 47 = .ok (.ireturn, 1) := by decide +kernel
theorem dX5_stepText_48 : decode cX5_stepText 48 = .ok (.aload_n 0, 1) := by decide +kernel
theorem dX5_stepText_49 : decode cX5_stepText 49 = .ok (.getfield 21, 3) := by decide +kernel
theorem dX5_stepText_52 : decode cX5_stepText 52 = .ok (.invokevirtual 42, 3) := by decide +kernel
theorem dX5_stepText_55 : decode cX5_stepText 55 = .ok (.bipush 48, 2) := by decide +kernel
theorem dX5_stepText_57 : decode cX5_stepText 57 = .ok (.isub, 1) := by decide +kernel
theorem dX5_stepText_58 : decode cX5_stepText 58 = .ok (.istore_n 2, 1) := by decide +kernel
theorem dX5_stepText_59 : decode cX5_stepText 59 = .ok (.iload_n 2, 1) := by decide +kernel
theorem dX5_stepText_60 : decode cX5_stepText 60 = .ok (.ifCond .lt 9, 3) := by decide +kernel
theorem dX5_stepText_63 : decode cX5_stepText 63 = .ok (.iload_n 2, 1) := by decide +kernel
theorem dX5_stepText_64 : decode cX5_stepText 64 = .ok (.bipush 9, 2) := by decide +kernel
theorem dX5_stepText_66 : decode cX5_stepText 66 = .ok (.if_icmp .le 11, 3) := by decide +kernel
theorem dX5_stepText_69 : decode cX5_stepText 69 = .ok (.aload_n 0, 1) := by decide +kernel
theorem dX5_stepText_70 : decode cX5_stepText 70 = .ok (.getfield 21, 3) := by decide +kernel
theorem dX5_stepText_73 : decode cX5_stepText 73 = .ok (.invokevirtual 46, 3) := by decide +kernel
theorem dX5_stepText_76 : decode cX5_stepText 76 = .ok (.ireturn, 1) := by decide +kernel
theorem dX5_stepText_77 : decode cX5_stepText 77 = .ok (.aload_n 0, 1) := by decide +kernel
theorem dX5_stepText_78 : decode cX5_stepText 78 = .ok (.getfield 21, 3) := by decide +kernel
theorem dX5_stepText_81 : decode cX5_stepText 81 = .ok (.dup, 1) := by decide +kernel
theorem dX5_stepText_82 : decode cX5_stepText 82 = .ok (.getfield 55, 3) := by decide +kernel
theorem dX5_stepText_85 : decode cX5_stepText 85 = .ok (.iconst 1, 1) := by decide +kernel
theorem dX5_stepText_86 : decode cX5_stepText 86 = .ok (.iadd, 1) := by decide +kernel
theorem dX5_stepText_87 : decode cX5_stepText 87 = .ok (.putfield 55, 3) := by decide +kernel
theorem dX5_stepText_90 : decode cX5_stepText 90 = .ok (.aload_n 0, 1) := by decide +kernel
theorem dX5_stepText_91 : decode cX5_stepText 91 = .ok (.getfield 21, 3) := by decide +kernel
theorem dX5_stepText_94 : decode cX5_stepText 94 = .ok (.iconst 2, 1) := by decide +kernel
theorem dX5_stepText_95 : decode cX5_stepText 95 = .ok (.iconst 0, 1) := by decide +kernel
theorem dX5_stepText_96 : decode cX5_stepText 96 = .ok (.iload_n 1, 1) := by decide +kernel
theorem dX5_stepText_97 : decode cX5_stepText 97 = .ok (.iconst 2, 1) := by decide +kernel
theorem dX5_stepText_98 : decode cX5_stepText 98 = .ok (.if_icmp .ne 8, 3) := by decide +kernel
theorem dX5_stepText_101 : decode cX5_stepText 101 = .ok (.bipush 29, 2) := by decide +kernel
theorem dX5_stepText_103 : decode cX5_stepText 103 = .ok (.goto 5, 3) := by decide +kernel
theorem dX5_stepText_106 : decode cX5_stepText 106 = .ok (.bipush 11, 2) := by decide +kernel
theorem dX5_stepText_108 : decode cX5_stepText 108 = .ok (.invokevirtual 62, 3) := by decide +kernel
theorem dX5_stepText_111 : decode cX5_stepText 111 = .ok (.istore_n 3, 1) := by decide +kernel
theorem dX5_stepText_112 : decode cX5_stepText 112 = .ok (.iload_n 3, 1) := by decide +kernel
theorem dX5_stepText_113 : decode cX5_stepText 113 = .ok (.ifCond .lt 17, 3) := by decide +kernel
theorem dX5_stepText_116 : decode cX5_stepText 116 = .ok (.aload_n 0, 1) := by decide +kernel
theorem dX5_stepText_117 : decode cX5_stepText 117 = .ok (.iload_n 1, 1) := by decide +kernel
theorem dX5_stepText_118 : decode cX5_stepText 118 = .ok (.iload_n 2, 1) := by decide +kernel
theorem dX5_stepText_119 : decode cX5_stepText 119 = .ok (.iload_n 3, 1) := by decide +kernel
theorem dX5_stepText_120 : decode cX5_stepText 120 = .ok (.invokevirtual 58, 3) := by decide +kernel
theorem dX5_stepText_123 : decode cX5_stepText 123 = .ok (.ifCond .eq 7, 3) := by decide +kernel
theorem dX5_stepText_126 : decode cX5_stepText 126 = .ok (.iconst 1, 1) := by decide +kernel
theorem dX5_stepText_127 : decode cX5_stepText 127 = .ok (.goto 4, 3) := by decide +kernel
theorem dX5_stepText_130 : decode cX5_stepText 130 = .ok (.iconst 0, 1) := by decide +kernel
theorem dX5_stepText_131 : decode cX5_stepText 131 = .ok (.ireturn, 1) := by decide +kernel
theorem dX5_add_0 : decode cX5_add 0 = .ok (.aload_n 0, 1) := by decide +kernel
theorem dX5_add_1 : decode cX5_add 1 = .ok (.getfield 25, 3) := by decide +kernel
theorem dX5_add_4 : decode cX5_add 4 = .ok (.bipush 16, 2) := by decide +kernel
theorem dX5_add_6 : decode cX5_add 6 = .ok (.if_icmp .lt 5, 3) := by decide +kernel
theorem dX5_add_9 : decode cX5_add 9 = .ok (.iconst 0, 1) := by decide +kernel
theorem dX5_add_10 : decode cX5_add 10 = .ok (.ireturn, 1) := by decide +kernel
theorem dX5_add_11 : decode cX5_add 11 = .ok (.aload_n 0, 1) := by decide +kernel
theorem dX5_add_12 : decode cX5_add 12 = .ok (.getfield 9, 3) := by decide +kernel
theorem dX5_add_15 : decode cX5_add 15 = .ok (.aload_n 0, 1) := by decide +kernel
theorem dX5_add_16 : decode cX5_add 16 = .ok (.getfield 25, 3) := by decide +kernel
theorem dX5_add_19 : decode cX5_add 19 = .ok (.iload_n 1, 1) := by decide +kernel
theorem dX5_add_20 : decode cX5_add 20 = .ok (.iastore, 1) := by decide +kernel
theorem dX5_add_21 : decode cX5_add 21 = .ok (.aload_n 0, 1) := by decide +kernel
theorem dX5_add_22 : decode cX5_add 22 = .ok (.getfield 15, 3) := by decide +kernel
theorem dX5_add_25 : decode cX5_add 25 = .ok (.aload_n 0, 1) := by decide +kernel
theorem dX5_add_26 : decode cX5_add 26 = .ok (.getfield 25, 3) := by decide +kernel
theorem dX5_add_29 : decode cX5_add 29 = .ok (.iload_n 2, 1) := by decide +kernel
theorem dX5_add_30 : decode cX5_add 30 = .ok (.iastore, 1) := by decide +kernel
theorem dX5_add_31 : decode cX5_add 31 = .ok (.aload_n 0, 1) := by decide +kernel
theorem dX5_add_32 : decode cX5_add 32 = .ok (.getfield 18, 3) := by decide +kernel
theorem dX5_add_35 : decode cX5_add 35 = .ok (.aload_n 0, 1) := by decide +kernel
theorem dX5_add_36 : decode cX5_add 36 = .ok (.getfield 25, 3) := by decide +kernel
theorem dX5_add_39 : decode cX5_add 39 = .ok (.iload_n 3, 1) := by decide +kernel
theorem dX5_add_40 : decode cX5_add 40 = .ok (.iastore, 1) := by decide +kernel
theorem dX5_add_41 : decode cX5_add 41 = .ok (.aload_n 0, 1) := by decide +kernel
theorem dX5_add_42 : decode cX5_add 42 = .ok (.dup, 1) := by decide +kernel
theorem dX5_add_43 : decode cX5_add 43 = .ok (.getfield 25, 3) := by decide +kernel
theorem dX5_add_46 : decode cX5_add 46 = .ok (.iconst 1, 1) := by decide +kernel
theorem dX5_add_47 : decode cX5_add 47 = .ok (.iadd, 1) := by decide +kernel
theorem dX5_add_48 : decode cX5_add 48 = .ok (.putfield 25, 3) := by decide +kernel
theorem dX5_add_51 : decode cX5_add 51 = .ok (.iconst 1, 1) := by decide +kernel
theorem dX5_add_52 : decode cX5_add 52 = .ok (.ireturn, 1) := by decide +kernel
theorem dX5_hasStep_0 : decode cX5_hasStep 0 = .ok (.iload_n 1, 1) := by decide +kernel
theorem dX5_hasStep_1 : decode cX5_hasStep 1 = .ok (.ifCond .lt 21, 3) := by decide +kernel
theorem dX5_hasStep_4 : decode cX5_hasStep 4 = .ok (.iload_n 1, 1) := by decide +kernel
theorem dX5_hasStep_5 : decode cX5_hasStep 5 = .ok (.aload_n 0, 1) := by decide +kernel
theorem dX5_hasStep_6 : decode cX5_hasStep 6 = .ok (.getfield 25, 3) := by decide +kernel
theorem dX5_hasStep_9 : decode cX5_hasStep 9 = .ok (.if_icmp .ge 13, 3) := by decide +kernel
theorem dX5_hasStep_12 : decode cX5_hasStep 12 = .ok (.iload_n 1, 1) := by decide +kernel
theorem dX5_hasStep_13 : decode cX5_hasStep 13 = .ok (.bipush 16, 2) := by decide +kernel
theorem dX5_hasStep_15 : decode cX5_hasStep 15 = .ok (.if_icmp .ge 7, 3) := by decide +kernel
theorem dX5_hasStep_18 : decode cX5_hasStep 18 = .ok (.iconst 1, 1) := by decide +kernel
theorem dX5_hasStep_19 : decode cX5_hasStep 19 = .ok (.goto 4, 3) := by decide +kernel
theorem dX5_hasStep_22 : decode cX5_hasStep 22 = .ok (.iconst 0, 1) := by decide +kernel
theorem dX5_hasStep_23 : decode cX5_hasStep 23 = .ok (.ireturn, 1) := by decide +kernel
theorem dX5_tellStep_0 : decode cX5_tellStep 0 = .ok (.aload_n 0, 1) := by decide +kernel
theorem dX5_tellStep_1 : decode cX5_tellStep 1 = .ok (.iload_n 1, 1) := by decide +kernel
theorem dX5_tellStep_2 : decode cX5_tellStep 2 = .ok (.invokevirtual 66, 3) := by decide +kernel
theorem dX5_tellStep_5 : decode cX5_tellStep 5 = .ok (.ifCond .ne 6, 3) := by decide +kernel
theorem dX5_tellStep_8 : decode cX5_tellStep 8 = .ok (.ldc 69, 2) := by decide +kernel
theorem dX5_tellStep_10 : decode cX5_tellStep 10 = .ok (.ireturn, 1) := by decide +kernel
theorem dX5_tellStep_11 : decode cX5_tellStep 11 = .ok (.iload_n 2, 1) := by decide +kernel
theorem dX5_tellStep_12 : decode cX5_tellStep 12 = .ok (.tableswitch 49 0 2 #[28, 35, 42], 28) := by decide +kernel
theorem dX5_tellStep_40 : decode cX5_tellStep 40 = .ok (.aload_n 0, 1) := by decide +kernel
theorem dX5_tellStep_41 : decode cX5_tellStep 41 = .ok (.getfield 9, 3) := by decide +kernel
theorem dX5_tellStep_44 : decode cX5_tellStep 44 = .ok (.iload_n 1, 1) := by decide +kernel
theorem dX5_tellStep_45 : decode cX5_tellStep 45 = .ok (.iaload, 1) := by decide +kernel
theorem dX5_tellStep_46 : decode cX5_tellStep 46 = .ok (.ireturn, 1) := by decide +kernel
theorem dX5_tellStep_47 : decode cX5_tellStep 47 = .ok (.aload_n 0, 1) := by decide +kernel
theorem dX5_tellStep_48 : decode cX5_tellStep 48 = .ok (.getfield 15, 3) := by decide +kernel
theorem dX5_tellStep_51 : decode cX5_tellStep 51 = .ok (.iload_n 1, 1) := by decide +kernel
theorem dX5_tellStep_52 : decode cX5_tellStep 52 = .ok (.iaload, 1) := by decide +kernel
theorem dX5_tellStep_53 : decode cX5_tellStep 53 = .ok (.ireturn, 1) := by decide +kernel
theorem dX5_tellStep_54 : decode cX5_tellStep 54 = .ok (.aload_n 0, 1) := by decide +kernel
theorem dX5_tellStep_55 : decode cX5_tellStep 55 = .ok (.getfield 18, 3) := by decide +kernel
theorem dX5_tellStep_58 : decode cX5_tellStep 58 = .ok (.iload_n 1, 1) := by decide +kernel
theorem dX5_tellStep_59 : decode cX5_tellStep 59 = .ok (.iaload, 1) := by decide +kernel
theorem dX5_tellStep_60 : decode cX5_tellStep 60 = .ok (.ireturn, 1) := by decide +kernel
theorem dX5_tellStep_61 : decode cX5_tellStep 61 = .ok (.ldc 69, 2) := by decide +kernel
theorem dX5_tellStep_63 : decode cX5_tellStep 63 = .ok (.ireturn, 1) := by decide +kernel
theorem dX5_actOf_0 : decode cX5_actOf 0 = .ok (.aload_n 0, 1) := by decide +kernel
theorem dX5_actOf_1 : decode cX5_actOf 1 = .ok (.iload_n 1, 1) := by decide +kernel
theorem dX5_actOf_2 : decode cX5_actOf 2 = .ok (.invokevirtual 66, 3) := by decide +kernel
theorem dX5_actOf_5 : decode cX5_actOf 5 = .ok (.ifCond .ne 5, 3) := by decide +kernel
theorem dX5_actOf_8 : decode cX5_actOf 8 = .ok (.iconst (-1), 1) := by decide +kernel
theorem dX5_actOf_9 : decode cX5_actOf 9 = .ok (.ireturn, 1) := by decide +kernel
theorem dX5_actOf_10 : decode cX5_actOf 10 = .ok (.aload_n 0, 1) := by decide +kernel
theorem dX5_actOf_11 : decode cX5_actOf 11 = .ok (.getfield 9, 3) := by decide +kernel
theorem dX5_actOf_14 : decode cX5_actOf 14 = .ok (.iload_n 1, 1) := by decide +kernel
theorem dX5_actOf_15 : decode cX5_actOf 15 = .ok (.iaload, 1) := by decide +kernel
theorem dX5_actOf_16 : decode cX5_actOf 16 = .ok (.iconst 3, 1) := by decide +kernel
theorem dX5_actOf_17 : decode cX5_actOf 17 = .ok (.if_icmp .ne 7, 3) := by decide +kernel
theorem dX5_actOf_20 : decode cX5_actOf 20 = .ok (.iconst 4, 1) := by decide +kernel
theorem dX5_actOf_21 : decode cX5_actOf 21 = .ok (.goto 9, 3) := by decide +kernel
theorem dX5_actOf_24 : decode cX5_actOf 24 = .ok (.aload_n 0, 1) := by decide +kernel
theorem dX5_actOf_25 : decode cX5_actOf 25 = .ok (.getfield 9, 3) := by decide +kernel
theorem dX5_actOf_28 : decode cX5_actOf 28 = .ok (.iload_n 1, 1) := by decide +kernel
theorem dX5_actOf_29 : decode cX5_actOf 29 = .ok (.iaload, 1) := by decide +kernel
theorem dX5_actOf_30 : decode cX5_actOf 30 = .ok (.ireturn, 1) := by decide +kernel
theorem dX5_readerOf_0 : decode cX5_readerOf 0 = .ok (.aload_n 0, 1) := by decide +kernel
theorem dX5_readerOf_1 : decode cX5_readerOf 1 = .ok (.iload_n 1, 1) := by decide +kernel
theorem dX5_readerOf_2 : decode cX5_readerOf 2 = .ok (.invokevirtual 66, 3) := by decide +kernel
theorem dX5_readerOf_5 : decode cX5_readerOf 5 = .ok (.ifCond .eq 12, 3) := by decide +kernel
theorem dX5_readerOf_8 : decode cX5_readerOf 8 = .ok (.aload_n 0, 1) := by decide +kernel
theorem dX5_readerOf_9 : decode cX5_readerOf 9 = .ok (.getfield 15, 3) := by decide +kernel
theorem dX5_readerOf_12 : decode cX5_readerOf 12 = .ok (.iload_n 1, 1) := by decide +kernel
theorem dX5_readerOf_13 : decode cX5_readerOf 13 = .ok (.iaload, 1) := by decide +kernel
theorem dX5_readerOf_14 : decode cX5_readerOf 14 = .ok (.goto 4, 3) := by decide +kernel
theorem dX5_readerOf_17 : decode cX5_readerOf 17 = .ok (.iconst (-1), 1) := by decide +kernel
theorem dX5_readerOf_18 : decode cX5_readerOf 18 = .ok (.ireturn, 1) := by decide +kernel
theorem dX5_targetOf_0 : decode cX5_targetOf 0 = .ok (.aload_n 0, 1) := by decide +kernel
theorem dX5_targetOf_1 : decode cX5_targetOf 1 = .ok (.iload_n 1, 1) := by decide +kernel
theorem dX5_targetOf_2 : decode cX5_targetOf 2 = .ok (.invokevirtual 66, 3) := by decide +kernel
theorem dX5_targetOf_5 : decode cX5_targetOf 5 = .ok (.ifCond .eq 12, 3) := by decide +kernel
theorem dX5_targetOf_8 : decode cX5_targetOf 8 = .ok (.aload_n 0, 1) := by decide +kernel
theorem dX5_targetOf_9 : decode cX5_targetOf 9 = .ok (.getfield 18, 3) := by decide +kernel
theorem dX5_targetOf_12 : decode cX5_targetOf 12 = .ok (.iload_n 1, 1) := by decide +kernel
theorem dX5_targetOf_13 : decode cX5_targetOf 13 = .ok (.iaload, 1) := by decide +kernel
theorem dX5_targetOf_14 : decode cX5_targetOf 14 = .ok (.goto 4, 3) := by decide +kernel
theorem dX5_targetOf_17 : decode cX5_targetOf 17 = .ok (.iconst (-1), 1) := by decide +kernel
theorem dX5_targetOf_18 : decode cX5_targetOf 18 = .ok (.ireturn, 1) := by decide +kernel
theorem dX6_init_0 : decode cX6_init 0 = .ok (.aload_n 0, 1) := by decide +kernel
theorem dX6_init_1 : decode cX6_init 1 = .ok (.invokespecial 3, 3) := by decide +kernel
theorem dX6_init_4 : decode cX6_init 4 = .ok (.aload_n 0, 1) := by decide +kernel
theorem dX6_init_5 : decode cX6_init 5 = .ok (.bipush 12, 2) := by decide +kernel
theorem dX6_init_7 : decode cX6_init 7 = .ok (.newarray .int, 2) := by decide +kernel
theorem dX6_init_9 : decode cX6_init 9 = .ok (.putfield 9, 3) := by decide +kernel
theorem dX6_init_12 : decode cX6_init 12 = .ok (.aload_n 0, 1) := by decide +kernel
theorem dX6_init_13 : decode cX6_init 13 = .ok (.bipush 12, 2) := by decide +kernel
theorem dX6_init_15 : decode cX6_init 15 = .ok (.newarray .int, 2) := by decide +kernel
theorem dX6_init_17 : decode cX6_init 17 = .ok (.putfield 15, 3) := by decide +kernel
theorem dX6_init_20 : decode cX6_init 20 = .ok (.aload_n 0, 1) := by decide +kernel
theorem dX6_init_21 : decode cX6_init 21 = .ok (.bipush 6, 2) := by decide +kernel
theorem dX6_init_23 : decode cX6_init 23 = .ok (.newarray .int, 2) := by decide +kernel
theorem dX6_init_25 : decode cX6_init 25 = .ok (.putfield 18, 3) := by decide +kernel
theorem dX6_init_28 : decode cX6_init 28 = .ok (.aload_n 0, 1) := by decide +kernel
theorem dX6_init_29 : decode cX6_init 29 = .ok (.bipush 72, 2) := by decide +kernel
theorem dX6_init_31 : decode cX6_init 31 = .ok (.newarray .int, 2) := by decide +kernel
theorem dX6_init_33 : decode cX6_init 33 = .ok (.putfield 21, 3) := by decide +kernel
theorem dX6_init_36 : decode cX6_init 36 = .ok (.return_, 1) := by decide +kernel
theorem dX6_takeFrom_0 : decode cX6_takeFrom 0 = .ok (.aload_n 1, 1) := by decide +kernel
theorem dX6_takeFrom_1 : decode cX6_takeFrom 1 = .ok (.getfield 9, 3) := by decide +kernel
theorem dX6_takeFrom_4 : decode cX6_takeFrom 4 = .ok (.iconst 0, 1) := by decide +kernel
theorem dX6_takeFrom_5 : decode cX6_takeFrom 5 = .ok (.aload_n 0, 1) := by decide +kernel
theorem dX6_takeFrom_6 : decode cX6_takeFrom 6 = .ok (.getfield 9, 3) := by decide +kernel
theorem dX6_takeFrom_9 : decode cX6_takeFrom 9 = .ok (.iconst 0, 1) := by decide +kernel
theorem dX6_takeFrom_10 : decode cX6_takeFrom 10 = .ok (.aload_n 0, 1) := by decide +kernel
theorem dX6_takeFrom_11 : decode cX6_takeFrom 11 = .ok (.getfield 9, 3) := by decide +kernel
theorem dX6_takeFrom_14 : decode cX6_takeFrom 14 = .ok (.arraylength, 1) := by decide +kernel
theorem dX6_takeFrom_15 : decode cX6_takeFrom 15 = .ok (.invokestatic 24, 3) := by decide +kernel
theorem dX6_takeFrom_18 : decode cX6_takeFrom 18 = .ok (.aload_n 1, 1) := by decide +kernel
theorem dX6_takeFrom_19 : decode cX6_takeFrom 19 = .ok (.getfield 15, 3) := by decide +kernel
theorem dX6_takeFrom_22 : decode cX6_takeFrom 22 = .ok (.iconst 0, 1) := by decide +kernel
theorem dX6_takeFrom_23 : decode cX6_takeFrom 23 = .ok (.aload_n 0, 1) := by decide +kernel
theorem dX6_takeFrom_24 : decode cX6_takeFrom 24 = .ok (.getfield 15, 3) := by decide +kernel
theorem dX6_takeFrom_27 : decode cX6_takeFrom 27 = .ok (.iconst 0, 1) := by decide +kernel
theorem dX6_takeFrom_28 : decode cX6_takeFrom 28 = .ok (.aload_n 0, 1) := by decide +kernel
theorem dX6_takeFrom_29 : decode cX6_takeFrom 29 = .ok (.getfield 15, 3) := by decide +kernel
theorem dX6_takeFrom_32 : decode cX6_takeFrom 32 = .ok (.arraylength, 1) := by decide +kernel
theorem dX6_takeFrom_33 : decode cX6_takeFrom 33 = .ok (.invokestatic 24, 3) := by decide +kernel
theorem dX6_takeFrom_36 : decode cX6_takeFrom 36 = .ok (.aload_n 1, 1) := by decide +kernel
theorem dX6_takeFrom_37 : decode cX6_takeFrom 37 = .ok (.getfield 18, 3) := by decide +kernel
theorem dX6_takeFrom_40 : decode cX6_takeFrom 40 = .ok (.iconst 0, 1) := by decide +kernel
theorem dX6_takeFrom_41 : decode cX6_takeFrom 41 = .ok (.aload_n 0, 1) := by decide +kernel
theorem dX6_takeFrom_42 : decode cX6_takeFrom 42 = .ok (.getfield 18, 3) := by decide +kernel
theorem dX6_takeFrom_45 : decode cX6_takeFrom 45 = .ok (.iconst 0, 1) := by decide +kernel
theorem dX6_takeFrom_46 : decode cX6_takeFrom 46 = .ok (.aload_n 0, 1) := by decide +kernel
theorem dX6_takeFrom_47 : decode cX6_takeFrom 47 = .ok (.getfield 18, 3) := by decide +kernel
theorem dX6_takeFrom_50 : decode cX6_takeFrom 50 = .ok (.arraylength, 1) := by decide +kernel
theorem dX6_takeFrom_51 : decode cX6_takeFrom 51 = .ok (.invokestatic 24, 3) := by decide +kernel
theorem dX6_takeFrom_54 : decode cX6_takeFrom 54 = .ok (.aload_n 1, 1) := by decide +kernel
theorem dX6_takeFrom_55 : decode cX6_takeFrom 55 = .ok (.getfield 21, 3) := by decide +kernel
theorem dX6_takeFrom_58 : decode cX6_takeFrom 58 = .ok (.iconst 0, 1) := by decide +kernel
theorem dX6_takeFrom_59 : decode cX6_takeFrom 59 = .ok (.aload_n 0, 1) := by decide +kernel
theorem dX6_takeFrom_60 : decode cX6_takeFrom 60 = .ok (.getfield 21, 3) := by decide +kernel
theorem dX6_takeFrom_63 : decode cX6_takeFrom 63 = .ok (.iconst 0, 1) := by decide +kernel
theorem dX6_takeFrom_64 : decode cX6_takeFrom 64 = .ok (.aload_n 0, 1) := by decide +kernel
theorem dX6_takeFrom_65 : decode cX6_takeFrom 65 = .ok (.getfield 21, 3) := by decide +kernel
theorem dX6_takeFrom_68 : decode cX6_takeFrom 68 = .ok (.arraylength, 1) := by decide +kernel
theorem dX6_takeFrom_69 : decode cX6_takeFrom 69 = .ok (.invokestatic 24, 3) := by decide +kernel
theorem dX6_takeFrom_72 : decode cX6_takeFrom 72 = .ok (.aload_n 0, 1) := by decide +kernel
theorem dX6_takeFrom_73 : decode cX6_takeFrom 73 = .ok (.aload_n 1, 1) := by decide +kernel
theorem dX6_takeFrom_74 : decode cX6_takeFrom 74 = .ok (.getfield 30, 3) := by decide +kernel
theorem dX6_takeFrom_77 : decode cX6_takeFrom 77 = .ok (.putfield 30, 3) := by decide +kernel
theorem dX6_takeFrom_80 : decode cX6_takeFrom 80 = .ok (.aload_n 0, 1) := by decide +kernel
theorem dX6_takeFrom_81 : decode cX6_takeFrom 81 = .ok (.aload_n 1, 1) := by decide +kernel
theorem dX6_takeFrom_82 : decode cX6_takeFrom 82 = .ok (.getfield 34, 3) := by decide +kernel
theorem dX6_takeFrom_85 : decode cX6_takeFrom 85 = .ok (.putfield 34, 3) := by decide +kernel
theorem dX6_takeFrom_88 : decode cX6_takeFrom 88 = .ok (.aload_n 0, 1) := by decide +kernel
theorem dX6_takeFrom_89 : decode cX6_takeFrom 89 = .ok (.aload_n 1, 1) := by decide +kernel
theorem dX6_takeFrom_90 : decode cX6_takeFrom 90 = .ok (.getfield 37, 3) := by decide +kernel
theorem dX6_takeFrom_93 : decode cX6_takeFrom 93 = .ok (.putfield 37, 3) := by decide +kernel
theorem dX6_takeFrom_96 : decode cX6_takeFrom 96 = .ok (.return_, 1) := by decide +kernel
theorem dX6_startIn_0 : decode cX6_startIn 0 = .ok (.iconst 0, 1) := by decide +kernel
theorem dX6_startIn_1 : decode cX6_startIn 1 = .ok (.istore_n 2, 1) := by decide +kernel
theorem dX6_startIn_2 : decode cX6_startIn 2 = .ok (.iload_n 2, 1) := by decide +kernel
theorem dX6_startIn_3 : decode cX6_startIn 3 = .ok (.bipush 12, 2) := by decide +kernel
theorem dX6_startIn_5 : decode cX6_startIn 5 = .ok (.if_icmp .ge 55, 3) := by decide +kernel
theorem dX6_startIn_8 : decode cX6_startIn 8 = .ok (.aload_n 0, 1) := by decide +kernel
theorem dX6_startIn_9 : decode cX6_startIn 9 = .ok (.getfield 9, 3) := by decide +kernel
theorem dX6_startIn_12 : decode cX6_startIn 12 = .ok (.iload_n 2, 1) := by decide +kernel
theorem dX6_startIn_13 : decode cX6_startIn 13 = .ok (.aload_n 1, 1) := by decide +kernel
theorem dX6_startIn_14 : decode cX6_startIn 14 = .ok (.iload_n 2, 1) := by decide +kernel
theorem dX6_startIn_15 : decode cX6_startIn 15 = .ok (.invokevirtual 40, 3) := by decide +kernel
theorem dX6_startIn_18 : decode cX6_startIn 18 = .ok (.ifCond .eq 11, 3) := by decide +kernel
theorem dX6_startIn_21 : decode cX6_startIn 21 = .ok (.aload_n 1, 1) := by decide +kernel
theorem dX6_startIn_22 : decode cX6_startIn 22 = .ok (.iload_n 2, 1) := by decide +kernel
theorem dX6_startIn_23 : decode cX6_startIn 23 = .ok (.invokevirtual 46, 3) := by decide +kernel
theorem dX6_startIn_26 : decode cX6_startIn 26 = .ok (.goto 4, 3) := by decide +kernel
theorem dX6_startIn_29 : decode cX6_startIn 29 = .ok (.iconst 0, 1) := by decide +kernel
theorem dX6_startIn_30 : decode cX6_startIn 30 = .ok (.iastore, 1) := by decide +kernel
theorem dX6_startIn_31 : decode cX6_startIn 31 = .ok (.aload_n 0, 1) := by decide +kernel
theorem dX6_startIn_32 : decode cX6_startIn 32 = .ok (.getfield 15, 3) := by decide +kernel
theorem dX6_startIn_35 : decode cX6_startIn 35 = .ok (.iload_n 2, 1) := by decide +kernel
theorem dX6_startIn_36 : decode cX6_startIn 36 = .ok (.aload_n 1, 1) := by decide +kernel
theorem dX6_startIn_37 : decode cX6_startIn 37 = .ok (.iload_n 2, 1) := by decide +kernel
theorem dX6_startIn_38 : decode cX6_startIn 38 = .ok (.invokevirtual 40, 3) := by decide +kernel
theorem dX6_startIn_41 : decode cX6_startIn 41 = .ok (.ifCond .eq 11, 3) := by decide +kernel
theorem dX6_startIn_44 : decode cX6_startIn 44 = .ok (.aload_n 1, 1) := by decide +kernel
theorem dX6_startIn_45 : decode cX6_startIn 45 = .ok (.iload_n 2, 1) := by decide +kernel
theorem dX6_startIn_46 : decode cX6_startIn 46 = .ok (.invokevirtual 50, 3) := by decide +kernel
theorem dX6_startIn_49 : decode cX6_startIn 49 = .ok (.goto 4, 3) := by decide +kernel
theorem dX6_startIn_52 : decode cX6_startIn 52 = .ok (.iconst 0, 1) := by decide +kernel
theorem dX6_startIn_53 : decode cX6_startIn 53 = .ok (.iastore, 1) := by decide +kernel
theorem dX6_startIn_54 : decode cX6_startIn 54 = .ok (.iinc 2 1, 3) := by decide +kernel
theorem dX6_startIn_57 : decode cX6_startIn 57 = .ok (.goto (-55), 3) := by decide +kernel
theorem dX6_startIn_60 : decode cX6_startIn 60 = .ok (.iconst 0, 1) := by decide +kernel
theorem dX6_startIn_61 : decode cX6_startIn 61 = .ok (.istore_n 2, 1) := by decide +kernel
theorem dX6_startIn_62 : decode cX6_startIn 62 = .ok (.iload_n 2, 1) := by decide +kernel
theorem dX6_startIn_63 : decode cX6_startIn 63 = .ok (.bipush 6, 2) := by decide +kernel
theorem dX6_startIn_65 : decode cX6_startIn 65 = .ok (.if_icmp .ge 32, 3) := by decide +kernel
theorem dX6_startIn_68 : decode cX6_startIn 68 = .ok (.aload_n 0, 1) := by decide +kernel
theorem dX6_startIn_69 : decode cX6_startIn 69 = .ok (.getfield 18, 3) := by decide +kernel
theorem dX6_startIn_72 : decode cX6_startIn 72 = .ok (.iload_n 2, 1) := by decide +kernel
theorem dX6_startIn_73 : decode cX6_startIn 73 = .ok (.aload_n 1, 1) := by decide +kernel
theorem dX6_startIn_74 : decode cX6_startIn 74 = .ok (.iload_n 2, 1) := by decide +kernel
theorem dX6_startIn_75 : decode cX6_startIn 75 = .ok (.invokevirtual 53, 3) := by decide +kernel
theorem dX6_startIn_78 : decode cX6_startIn 78 = .ok (.ifCond .eq 11, 3) := by decide +kernel
theorem dX6_startIn_81 : decode cX6_startIn 81 = .ok (.aload_n 1, 1) := by decide +kernel
theorem dX6_startIn_82 : decode cX6_startIn 82 = .ok (.iload_n 2, 1) := by decide +kernel
theorem dX6_startIn_83 : decode cX6_startIn 83 = .ok (.invokevirtual 56, 3) := by decide +kernel
theorem dX6_startIn_86 : decode cX6_startIn 86 = .ok (.goto 4, 3) := by decide +kernel
theorem dX6_startIn_89 : decode cX6_startIn 89 = .ok (.iconst 0, 1) := by decide +kernel
theorem dX6_startIn_90 : decode cX6_startIn 90 = .ok (.iastore, 1) := by decide +kernel
theorem dX6_startIn_91 : decode cX6_startIn 91 = .ok (.iinc 2 1, 3) := by decide +kernel
theorem dX6_startIn_94 : decode cX6_startIn 94 = .ok (.goto (-32), 3) := by decide +kernel
theorem dX6_startIn_97 : decode cX6_startIn 97 = .ok (.aload_n 0, 1) := by decide +kernel
theorem dX6_startIn_98 : decode cX6_startIn 98 = .ok (.getfield 21, 3) := by decide +kernel
theorem dX6_startIn_101 : decode cX6_startIn 101 = .ok (.iconst (-1), 1) := by decide +kernel
theorem dX6_startIn_102 : decode cX6_startIn 102 = .ok (.invokestatic 59, 3) := by decide +kernel
theorem dX6_startIn_105 : decode cX6_startIn 105 = .ok (.aload_n 0, 1) := by decide +kernel
theorem dX6_startIn_106 : decode cX6_startIn 106 = .ok (.iconst 0, 1) := by decide +kernel
theorem dX6_startIn_107 : decode cX6_startIn 107 = .ok (.putfield 30, 3) := by decide +kernel
theorem dX6_startIn_110 : decode cX6_startIn 110 = .ok (.aload_n 0, 1) := by decide +kernel
theorem dX6_startIn_111 : decode cX6_startIn 111 = .ok (.aload_n 1, 1) := by decide +kernel
theorem dX6_startIn_112 : decode cX6_startIn 112 = .ok (.invokevirtual 65, 3) := by decide +kernel
theorem dX6_startIn_115 : decode cX6_startIn 115 = .ok (.putfield 34, 3) := by decide +kernel
theorem dX6_startIn_118 : decode cX6_startIn 118 = .ok (.aload_n 0, 1) := by decide +kernel
theorem dX6_startIn_119 : decode cX6_startIn 119 = .ok (.iconst 0, 1) := by decide +kernel
theorem dX6_startIn_120 : decode cX6_startIn 120 = .ok (.putfield 37, 3) := by decide +kernel
theorem dX6_startIn_123 : decode cX6_startIn 123 = .ok (.return_, 1) := by decide +kernel
theorem dX6_hasDone_0 : decode cX6_hasDone 0 = .ok (.aload_n 0, 1) := by decide +kernel
theorem dX6_hasDone_1 : decode cX6_hasDone 1 = .ok (.getfield 30, 3) := by decide +kernel
theorem dX6_hasDone_4 : decode cX6_hasDone 4 = .ok (.iload_n 1, 1) := by decide +kernel
theorem dX6_hasDone_5 : decode cX6_hasDone 5 = .ok (.ishr, 1) := by decide +kernel
theorem dX6_hasDone_6 : decode cX6_hasDone 6 = .ok (.iconst 1, 1) := by decide +kernel
theorem dX6_hasDone_7 : decode cX6_hasDone 7 = .ok (.iand, 1) := by decide +kernel
theorem dX6_hasDone_8 : decode cX6_hasDone 8 = .ok (.iconst 1, 1) := by decide +kernel
theorem dX6_hasDone_9 : decode cX6_hasDone 9 = .ok (.if_icmp .ne 7, 3) := by decide +kernel
theorem dX6_hasDone_12 : decode cX6_hasDone 12 = .ok (.iconst 1, 1) := by decide +kernel
theorem dX6_hasDone_13 : decode cX6_hasDone 13 = .ok (.goto 4, 3) := by decide +kernel
theorem dX6_hasDone_16 : decode cX6_hasDone 16 = .ok (.iconst 0, 1) := by decide +kernel
theorem dX6_hasDone_17 : decode cX6_hasDone 17 = .ok (.ireturn, 1) := by decide +kernel
theorem dX6_isMemory_0 : decode cX6_isMemory 0 = .ok (.iload_n 0, 1) := by decide +kernel
theorem dX6_isMemory_1 : decode cX6_isMemory 1 = .ok (.ifCond .lt 23, 3) := by decide +kernel
theorem dX6_isMemory_4 : decode cX6_isMemory 4 = .ok (.iload_n 0, 1) := by decide +kernel
theorem dX6_isMemory_5 : decode cX6_isMemory 5 = .ok (.bipush 6, 2) := by decide +kernel
theorem dX6_isMemory_7 : decode cX6_isMemory 7 = .ok (.if_icmp .ge 17, 3) := by decide +kernel
theorem dX6_isMemory_10 : decode cX6_isMemory 10 = .ok (.iload_n 1, 1) := by decide +kernel
theorem dX6_isMemory_11 : decode cX6_isMemory 11 = .ok (.ifCond .lt 13, 3) := by decide +kernel
theorem dX6_isMemory_14 : decode cX6_isMemory 14 = .ok (.iload_n 1, 1) := by decide +kernel
theorem dX6_isMemory_15 : decode cX6_isMemory 15 = .ok (.bipush 12, 2) := by decide +kernel
theorem dX6_isMemory_17 : decode cX6_isMemory 17 = .ok (.if_icmp .ge 7, 3) := by decide +kernel
theorem dX6_isMemory_20 : decode cX6_isMemory 20 = .ok (.iconst 1, 1) := by decide +kernel
theorem dX6_isMemory_21 : decode cX6_isMemory 21 = .ok (.goto 4, 3) := by decide +kernel
theorem dX6_isMemory_24 : decode cX6_isMemory 24 = .ok (.iconst 0, 1) := by decide +kernel
theorem dX6_isMemory_25 : decode cX6_isMemory 25 = .ok (.ireturn, 1) := by decide +kernel
theorem dX6_recall_0 : decode cX6_recall 0 = .ok (.iload_n 1, 1) := by decide +kernel
theorem dX6_recall_1 : decode cX6_recall 1 = .ok (.iload_n 2, 1) := by decide +kernel
theorem dX6_recall_2 : decode cX6_recall 2 = .ok (.invokestatic 69, 3) := by decide +kernel
theorem dX6_recall_5 : decode cX6_recall 5 = .ok (.ifCond .eq 17, 3) := by decide +kernel
theorem dX6_recall_8 : decode cX6_recall 8 = .ok (.aload_n 0, 1) := by decide +kernel
theorem dX6_recall_9 : decode cX6_recall 9 = .ok (.getfield 21, 3) := by decide +kernel
theorem dX6_recall_12 : decode cX6_recall 12 = .ok (.iload_n 1, 1) := by decide +kernel
theorem dX6_recall_13 : decode cX6_recall 13 = .ok (.bipush 12, 2) := by decide +kernel
theorem dX6_recall_15 : decode cX6_recall 15 = .ok (.imul, 1) := by decide +kernel
theorem dX6_recall_16 : decode cX6_recall 16 = .ok (.iload_n 2, 1) := by decide +kernel
theorem dX6_recall_17 : decode cX6_recall 17 = .ok (.iadd, 1) := by decide +kernel
theorem dX6_recall_18 : decode cX6_recall 18 = .ok (.iaload, 1) := by decide +kernel
theorem dX6_recall_19 : decode cX6_recall 19 = .ok (.goto 4, 3) := by decide +kernel
theorem dX6_recall_22 : decode cX6_recall 22 = .ok (.iconst (-1), 1) := by decide +kernel
theorem dX6_recall_23 : decode cX6_recall 23 = .ok (.ireturn, 1) := by decide +kernel
theorem dX6_learn_0 : decode cX6_learn 0 = .ok (.iload_n 1, 1) := by decide +kernel
theorem dX6_learn_1 : decode cX6_learn 1 = .ok (.iload_n 2, 1) := by decide +kernel
theorem dX6_learn_2 : decode cX6_learn 2 = .ok (.invokestatic 69, 3) := by decide +kernel
theorem dX6_learn_5 : decode cX6_learn 5 = .ok (.ifCond .eq 15, 3) := by decide +kernel
theorem dX6_learn_8 : decode cX6_learn 8 = .ok (.aload_n 0, 1) := by decide +kernel
theorem dX6_learn_9 : decode cX6_learn 9 = .ok (.getfield 21, 3) := by decide +kernel
theorem dX6_learn_12 : decode cX6_learn 12 = .ok (.iload_n 1, 1) := by decide +kernel
theorem dX6_learn_13 : decode cX6_learn 13 = .ok (.bipush 12, 2) := by decide +kernel
theorem dX6_learn_15 : decode cX6_learn 15 = .ok (.imul, 1) := by decide +kernel
theorem dX6_learn_16 : decode cX6_learn 16 = .ok (.iload_n 2, 1) := by decide +kernel
theorem dX6_learn_17 : decode cX6_learn 17 = .ok (.iadd, 1) := by decide +kernel
theorem dX6_learn_18 : decode cX6_learn 18 = .ok (.iload_n 3, 1) := by decide +kernel
theorem dX6_learn_19 : decode cX6_learn 19 = .ok (.iastore, 1) := by decide +kernel
theorem dX6_learn_20 : decode cX6_learn 20 = .ok (.return_, 1) := by decide +kernel
theorem dX6_pagesKnownBy_0 : decode cX6_pagesKnownBy 0 = .ok (.iconst 0, 1) := by decide +kernel
theorem dX6_pagesKnownBy_1 : decode cX6_pagesKnownBy 1 = .ok (.istore_n 2, 1) := by decide +kernel
theorem dX6_pagesKnownBy_2 : decode cX6_pagesKnownBy 2 = .ok (.iconst 0, 1) := by decide +kernel
theorem dX6_pagesKnownBy_3 : decode cX6_pagesKnownBy 3 = .ok (.istore_n 3, 1) := by decide +kernel
theorem dX6_pagesKnownBy_4 : decode cX6_pagesKnownBy 4 = .ok (.iload_n 3, 1) := by decide +kernel
theorem dX6_pagesKnownBy_5 : decode cX6_pagesKnownBy 5 = .ok (.bipush 12, 2) := by decide +kernel
theorem dX6_pagesKnownBy_7 : decode cX6_pagesKnownBy 7 = .ok (.if_icmp .ge 25, 3) := by decide +kernel
theorem dX6_pagesKnownBy_10 : decode cX6_pagesKnownBy 10 = .ok (.aload_n 0, 1) := by decide +kernel
theorem dX6_pagesKnownBy_11 : decode cX6_pagesKnownBy 11 = .ok (.iload_n 1, 1) := by decide +kernel
theorem dX6_pagesKnownBy_12 : decode cX6_pagesKnownBy 12 = .ok (.iload_n 3, 1) := by decide +kernel
theorem dX6_pagesKnownBy_13 : decode cX6_pagesKnownBy 13 = .ok (.invokevirtual 73, 3) := by decide +kernel
theorem dX6_pagesKnownBy_16 : decode cX6_pagesKnownBy 16 = .ok (.iconst (-1), 1) := by decide +kernel
theorem dX6_pagesKnownBy_17 : decode cX6_pagesKnownBy 17 = .ok (.if_icmp .eq 9, 3) := by decide +kernel
theorem dX6_pagesKnownBy_20 : decode cX6_pagesKnownBy 20 = .ok (.iload_n 2, 1) := by decide +kernel
theorem dX6_pagesKnownBy_21 : decode cX6_pagesKnownBy 21 = .ok (.iconst 1, 1) := by decide +kernel
theorem dX6_pagesKnownBy_22 : decode cX6_pagesKnownBy 22 = .ok (.iload_n 3, 1) := by decide +kernel
theorem dX6_pagesKnownBy_23 : decode cX6_pagesKnownBy 23 = .ok (.ishl, 1) := by decide +kernel
theorem dX6_pagesKnownBy_24 : decode cX6_pagesKnownBy 24 = .ok (.ior, 1) := by decide +kernel
theorem dX6_pagesKnownBy_25 : decode cX6_pagesKnownBy 25 = .ok (.istore_n 2, 1) := by decide +kernel
theorem dX6_pagesKnownBy_26 : decode cX6_pagesKnownBy 26 = .ok (.iinc 3 1, 3) := by decide +kernel
theorem dX6_pagesKnownBy_29 : decode cX6_pagesKnownBy 29 = .ok (.goto (-25), 3) := by decide +kernel
theorem dX6_pagesKnownBy_32 : decode cX6_pagesKnownBy 32 = .ok (.iload_n 2, 1) := by decide +kernel
theorem dX6_pagesKnownBy_33 : decode cX6_pagesKnownBy 33 = .ok (.ireturn, 1) := by decide +kernel
theorem dX6_lose_0 : decode cX6_lose 0 = .ok (.iload_n 1, 1) := by decide +kernel
theorem dX6_lose_1 : decode cX6_lose 1 = .ok (.ifCond .lt 9, 3) := by decide +kernel
theorem dX6_lose_4 : decode cX6_lose 4 = .ok (.iload_n 1, 1) := by decide +kernel
theorem dX6_lose_5 : decode cX6_lose 5 = .ok (.bipush 12, 2) := by decide +kernel
theorem dX6_lose_7 : decode cX6_lose 7 = .ok (.if_icmp .lt 5, 3) := by decide +kernel
theorem dX6_lose_10 : decode cX6_lose 10 = .ok (.iconst 0, 1) := by decide +kernel
theorem dX6_lose_11 : decode cX6_lose 11 = .ok (.ireturn, 1) := by decide +kernel
theorem dX6_lose_12 : decode cX6_lose 12 = .ok (.aload_n 0, 1) := by decide +kernel
theorem dX6_lose_13 : decode cX6_lose 13 = .ok (.getfield 9, 3) := by decide +kernel
theorem dX6_lose_16 : decode cX6_lose 16 = .ok (.iload_n 1, 1) := by decide +kernel
theorem dX6_lose_17 : decode cX6_lose 17 = .ok (.iaload, 1) := by decide +kernel
theorem dX6_lose_18 : decode cX6_lose 18 = .ok (.iload_n 2, 1) := by decide +kernel
theorem dX6_lose_19 : decode cX6_lose 19 = .ok (.invokestatic 77, 3) := by decide +kernel
theorem dX6_lose_22 : decode cX6_lose 22 = .ok (.istore_n 3, 1) := by decide +kernel
theorem dX6_lose_23 : decode cX6_lose 23 = .ok (.aload_n 0, 1) := by decide +kernel
theorem dX6_lose_24 : decode cX6_lose 24 = .ok (.getfield 9, 3) := by decide +kernel
theorem dX6_lose_27 : decode cX6_lose 27 = .ok (.iload_n 1, 1) := by decide +kernel
theorem dX6_lose_28 : decode cX6_lose 28 = .ok (.dup2, 1) := by decide +kernel
theorem dX6_lose_29 : decode cX6_lose 29 = .ok (.iaload, 1) := by decide +kernel
theorem dX6_lose_30 : decode cX6_lose 30 = .ok (.iload_n 3, 1) := by decide +kernel
theorem dX6_lose_31 : decode cX6_lose 31 = .ok (.isub, 1) := by decide +kernel
theorem dX6_lose_32 : decode cX6_lose 32 = .ok (.iastore, 1) := by decide +kernel
theorem dX6_lose_33 : decode cX6_lose 33 = .ok (.iload_n 3, 1) := by decide +kernel
theorem dX6_lose_34 : decode cX6_lose 34 = .ok (.ireturn, 1) := by decide +kernel
theorem dX6_slip_0 : decode cX6_slip 0 = .ok (.iload_n 1, 1) := by decide +kernel
theorem dX6_slip_1 : decode cX6_slip 1 = .ok (.iload_n 2, 1) := by decide +kernel
theorem dX6_slip_2 : decode cX6_slip 2 = .ok (.invokestatic 69, 3) := by decide +kernel
theorem dX6_slip_5 : decode cX6_slip 5 = .ok (.ifCond .eq 32, 3) := by decide +kernel
theorem dX6_slip_8 : decode cX6_slip 8 = .ok (.aload_n 0, 1) := by decide +kernel
theorem dX6_slip_9 : decode cX6_slip 9 = .ok (.getfield 15, 3) := by decide +kernel
theorem dX6_slip_12 : decode cX6_slip 12 = .ok (.iload_n 2, 1) := by decide +kernel
theorem dX6_slip_13 : decode cX6_slip 13 = .ok (.aload_n 0, 1) := by decide +kernel
theorem dX6_slip_14 : decode cX6_slip 14 = .ok (.getfield 15, 3) := by decide +kernel
theorem dX6_slip_17 : decode cX6_slip 17 = .ok (.iload_n 2, 1) := by decide +kernel
theorem dX6_slip_18 : decode cX6_slip 18 = .ok (.iaload, 1) := by decide +kernel
theorem dX6_slip_19 : decode cX6_slip 19 = .ok (.iconst 1, 1) := by decide +kernel
theorem dX6_slip_20 : decode cX6_slip 20 = .ok (.iadd, 1) := by decide +kernel
theorem dX6_slip_21 : decode cX6_slip 21 = .ok (.bipush 10, 2) := by decide +kernel
theorem dX6_slip_23 : decode cX6_slip 23 = .ok (.irem, 1) := by decide +kernel
theorem dX6_slip_24 : decode cX6_slip 24 = .ok (.iastore, 1) := by decide +kernel
theorem dX6_slip_25 : decode cX6_slip 25 = .ok (.aload_n 0, 1) := by decide +kernel
theorem dX6_slip_26 : decode cX6_slip 26 = .ok (.iload_n 1, 1) := by decide +kernel
theorem dX6_slip_27 : decode cX6_slip 27 = .ok (.iload_n 2, 1) := by decide +kernel
theorem dX6_slip_28 : decode cX6_slip 28 = .ok (.aload_n 0, 1) := by decide +kernel
theorem dX6_slip_29 : decode cX6_slip 29 = .ok (.getfield 15, 3) := by decide +kernel
theorem dX6_slip_32 : decode cX6_slip 32 = .ok (.iload_n 2, 1) := by decide +kernel
theorem dX6_slip_33 : decode cX6_slip 33 = .ok (.iaload, 1) := by decide +kernel
theorem dX6_slip_34 : decode cX6_slip 34 = .ok (.invokevirtual 82, 3) := by decide +kernel
theorem dX6_slip_37 : decode cX6_slip 37 = .ok (.return_, 1) := by decide +kernel
theorem dX7_init_0 : decode cX7_init 0 = .ok (.aload_n 0, 1) := by decide +kernel
theorem dX7_init_1 : decode cX7_init 1 = .ok (.invokespecial 3, 3) := by decide +kernel
theorem dX7_init_4 : decode cX7_init 4 = .ok (.aload_n 0, 1) := by decide +kernel
theorem dX7_init_5 : decode cX7_init 5 = .ok (.sipush 240, 3) := by decide +kernel
theorem dX7_init_8 : decode cX7_init 8 = .ok (.newarray .int, 2) := by decide +kernel
theorem dX7_init_10 : decode cX7_init 10 = .ok (.putfield 9, 3) := by decide +kernel
theorem dX7_init_13 : decode cX7_init 13 = .ok (.aload_n 0, 1) := by decide +kernel
theorem dX7_init_14 : decode cX7_init 14 = .ok (.iconst (-1), 1) := by decide +kernel
theorem dX7_init_15 : decode cX7_init 15 = .ok (.putfield 15, 3) := by decide +kernel
theorem dX7_init_18 : decode cX7_init 18 = .ok (.return_, 1) := by decide +kernel
theorem dX7_append_0 : decode cX7_append 0 = .ok (.bipush 24, 2) := by decide +kernel
theorem dX7_append_2 : decode cX7_append 2 = .ok (.istore_n 2, 1) := by decide +kernel
theorem dX7_append_3 : decode cX7_append 3 = .ok (.iload_n 2, 1) := by decide +kernel
theorem dX7_append_4 : decode cX7_append 4 = .ok (.ifCond .lt 53, 3) := by decide +kernel
theorem dX7_append_7 : decode cX7_append 7 = .ok (.iload_n 1, 1) := by decide +kernel
theorem dX7_append_8 : decode cX7_append 8 = .ok (.iload_n 2, 1) := by decide +kernel
theorem dX7_append_9 : decode cX7_append 9 = .ok (.iushr, 1) := by decide +kernel
theorem dX7_append_10 : decode cX7_append 10 = .ok (.sipush 255, 3) := by decide +kernel
theorem dX7_append_13 : decode cX7_append 13 = .ok (.iand, 1) := by decide +kernel
theorem dX7_append_14 : decode cX7_append 14 = .ok (.istore_n 3, 1) := by decide +kernel
theorem dX7_append_15 : decode cX7_append 15 = .ok (.iload_n 3, 1) := by decide +kernel
theorem dX7_append_16 : decode cX7_append 16 = .ok (.ifCond .eq 35, 3) := by decide +kernel
theorem dX7_append_19 : decode cX7_append 19 = .ok (.aload_n 0, 1) := by decide +kernel
theorem dX7_append_20 : decode cX7_append 20 = .ok (.getfield 19, 3) := by decide +kernel
theorem dX7_append_23 : decode cX7_append 23 = .ok (.aload_n 0, 1) := by decide +kernel
theorem dX7_append_24 : decode cX7_append 24 = .ok (.getfield 9, 3) := by decide +kernel
theorem dX7_append_27 : decode cX7_append 27 = .ok (.arraylength, 1) := by decide +kernel
theorem dX7_append_28 : decode cX7_append 28 = .ok (.if_icmp .ge 23, 3) := by decide +kernel
theorem dX7_append_31 : decode cX7_append 31 = .ok (.aload_n 0, 1) := by decide +kernel
theorem dX7_append_32 : decode cX7_append 32 = .ok (.getfield 9, 3) := by decide +kernel
theorem dX7_append_35 : decode cX7_append 35 = .ok (.aload_n 0, 1) := by decide +kernel
theorem dX7_append_36 : decode cX7_append 36 = .ok (.getfield 19, 3) := by decide +kernel
theorem dX7_append_39 : decode cX7_append 39 = .ok (.iload_n 3, 1) := by decide +kernel
theorem dX7_append_40 : decode cX7_append 40 = .ok (.iastore, 1) := by decide +kernel
theorem dX7_append_41 : decode cX7_append 41 = .ok (.aload_n 0, 1) := by decide +kernel
theorem dX7_append_42 : decode cX7_append 42 = .ok (.dup, 1) := by decide +kernel
theorem dX7_append_43 : decode cX7_append 43 = .ok (.getfield 19, 3) := by decide +kernel
theorem dX7_append_46 : decode cX7_append 46 = .ok (.iconst 1, 1) := by decide +kernel
theorem dX7_append_47 : decode cX7_append 47 = .ok (.iadd, 1) := by decide +kernel
theorem dX7_append_48 : decode cX7_append 48 = .ok (.putfield 19, 3) := by decide +kernel
theorem dX7_append_51 : decode cX7_append 51 = .ok (.iinc 2 (-8), 3) := by decide +kernel
theorem dX7_append_54 : decode cX7_append 54 = .ok (.goto (-51), 3) := by decide +kernel
theorem dX7_append_57 : decode cX7_append 57 = .ok (.return_, 1) := by decide +kernel
theorem dX7_rewind_0 : decode cX7_rewind 0 = .ok (.aload_n 0, 1) := by decide +kernel
theorem dX7_rewind_1 : decode cX7_rewind 1 = .ok (.iconst 0, 1) := by decide +kernel
theorem dX7_rewind_2 : decode cX7_rewind 2 = .ok (.putfield 22, 3) := by decide +kernel
theorem dX7_rewind_5 : decode cX7_rewind 5 = .ok (.aload_n 0, 1) := by decide +kernel
theorem dX7_rewind_6 : decode cX7_rewind 6 = .ok (.iconst (-1), 1) := by decide +kernel
theorem dX7_rewind_7 : decode cX7_rewind 7 = .ok (.putfield 15, 3) := by decide +kernel
theorem dX7_rewind_10 : decode cX7_rewind 10 = .ok (.return_, 1) := by decide +kernel
theorem dX7_next_0 : decode cX7_next 0 = .ok (.aload_n 0, 1) := by decide +kernel
theorem dX7_next_1 : decode cX7_next 1 = .ok (.getfield 22, 3) := by decide +kernel
theorem dX7_next_4 : decode cX7_next 4 = .ok (.aload_n 0, 1) := by decide +kernel
theorem dX7_next_5 : decode cX7_next 5 = .ok (.getfield 19, 3) := by decide +kernel
theorem dX7_next_8 : decode cX7_next 8 = .ok (.if_icmp .ge 30, 3) := by decide +kernel
theorem dX7_next_11 : decode cX7_next 11 = .ok (.aload_n 0, 1) := by decide +kernel
theorem dX7_next_12 : decode cX7_next 12 = .ok (.getfield 9, 3) := by decide +kernel
theorem dX7_next_15 : decode cX7_next 15 = .ok (.aload_n 0, 1) := by decide +kernel
theorem dX7_next_16 : decode cX7_next 16 = .ok (.getfield 22, 3) := by decide +kernel
theorem dX7_next_19 : decode cX7_next 19 = .ok (.iaload, 1) := by decide +kernel
theorem dX7_next_20 : decode cX7_next 20 = .ok (.bipush 32, 2) := by decide +kernel
theorem dX7_next_22 : decode cX7_next 22 = .ok (.if_icmp .ne 16, 3) := by decide +kernel
theorem dX7_next_25 : decode cX7_next 25 = .ok (.aload_n 0, 1) := by decide +kernel
theorem dX7_next_26 : decode cX7_next 26 = .ok (.dup, 1) := by decide +kernel
theorem dX7_next_27 : decode cX7_next 27 = .ok (.getfield 22, 3) := by decide +kernel
theorem dX7_next_30 : decode cX7_next 30 = .ok (.iconst 1, 1) := by decide +kernel
theorem dX7_next_31 : decode cX7_next 31 = .ok (.iadd, 1) := by decide +kernel
theorem dX7_next_32 : decode cX7_next 32 = .ok (.putfield 22, 3) := by decide +kernel
theorem dX7_next_35 : decode cX7_next 35 = .ok (.goto (-35), 3) := by decide +kernel
theorem dX7_next_38 : decode cX7_next 38 = .ok (.aload_n 0, 1) := by decide +kernel
theorem dX7_next_39 : decode cX7_next 39 = .ok (.getfield 22, 3) := by decide +kernel
theorem dX7_next_42 : decode cX7_next 42 = .ok (.aload_n 0, 1) := by decide +kernel
theorem dX7_next_43 : decode cX7_next 43 = .ok (.getfield 19, 3) := by decide +kernel
theorem dX7_next_46 : decode cX7_next 46 = .ok (.if_icmp .ge 15, 3) := by decide +kernel
theorem dX7_next_49 : decode cX7_next 49 = .ok (.aload_n 0, 1) := by decide +kernel
theorem dX7_next_50 : decode cX7_next 50 = .ok (.getfield 9, 3) := by decide +kernel
theorem dX7_next_53 : decode cX7_next 53 = .ok (.aload_n 0, 1) := by decide +kernel
theorem dX7_next_54 : decode cX7_next 54 = .ok (.getfield 22, 3) := by decide +kernel
theorem dX7_next_57 : decode cX7_next 57 = .ok (.iaload, 1) := by decide +kernel
theorem dX7_next_58 : decode cX7_next 58 = .ok (.goto 4, 3) := by decide +kernel
theorem dX7_next_61 : decode cX7_next 61 = .ok (.iconst (-1), 1) := by decide +kernel
theorem dX7_next_62 : decode cX7_next 62 = .ok (.ireturn, 1) := by decide +kernel
theorem dX7_goOver_0 : decode cX7_goOver 0 = .ok (.aload_n 0, 1) := by decide +kernel
theorem dX7_goOver_1 : decode cX7_goOver 1 = .ok (.invokevirtual 25, 3) := by decide +kernel
theorem dX7_goOver_4 : decode cX7_goOver 4 = .ok (.iload_n 1, 1) := by decide +kernel
theorem dX7_goOver_5 : decode cX7_goOver 5 = .ok (.if_icmp .eq 5, 3) := by decide +kernel
theorem dX7_goOver_8 : decode cX7_goOver 8 = .ok (.iconst 0, 1) := by decide +kernel
theorem dX7_goOver_9 : decode cX7_goOver 9 = .ok (.ireturn, 1) := by decide +kernel
theorem dX7_goOver_10 : decode cX7_goOver 10 = .ok (.aload_n 0, 1) := by decide +kernel
theorem dX7_goOver_11 : decode cX7_goOver 11 = .ok (.dup, 1) := by decide +kernel
theorem dX7_goOver_12 : decode cX7_goOver 12 = .ok (.getfield 22, 3) := by decide +kernel
theorem dX7_goOver_15 : decode cX7_goOver 15 = .ok (.iconst 1, 1) := by decide +kernel
theorem dX7_goOver_16 : decode cX7_goOver 16 = .ok (.iadd, 1) := by decide +kernel
theorem dX7_goOver_17 : decode cX7_goOver 17 = .ok (.putfield 22, 3) := by decide +kernel
theorem dX7_goOver_20 : decode cX7_goOver 20 = .ok (.iconst 1, 1) := by decide +kernel
theorem dX7_goOver_21 : decode cX7_goOver 21 = .ok (.ireturn, 1) := by decide +kernel
theorem dX7_expect_0 : decode cX7_expect 0 = .ok (.aload_n 0, 1) := by decide +kernel
theorem dX7_expect_1 : decode cX7_expect 1 = .ok (.invokevirtual 25, 3) := by decide +kernel
theorem dX7_expect_4 : decode cX7_expect 4 = .ok (.iload_n 1, 1) := by decide +kernel
theorem dX7_expect_5 : decode cX7_expect 5 = .ok (.if_icmp .eq 8, 3) := by decide +kernel
theorem dX7_expect_8 : decode cX7_expect 8 = .ok (.aload_n 0, 1) := by decide +kernel
theorem dX7_expect_9 : decode cX7_expect 9 = .ok (.invokevirtual 29, 3) := by decide +kernel
theorem dX7_expect_12 : decode cX7_expect 12 = .ok (.ireturn, 1) := by decide +kernel
theorem dX7_expect_13 : decode cX7_expect 13 = .ok (.aload_n 0, 1) := by decide +kernel
theorem dX7_expect_14 : decode cX7_expect 14 = .ok (.dup, 1) := by decide +kernel
theorem dX7_expect_15 : decode cX7_expect 15 = .ok (.getfield 22, 3) := by decide +kernel
theorem dX7_expect_18 : decode cX7_expect 18 = .ok (.iconst 1, 1) := by decide +kernel
theorem dX7_expect_19 : decode cX7_expect 19 = .ok (.iadd, 1) := by decide +kernel
theorem dX7_expect_20 : decode cX7_expect 20 = .ok (.putfield 22, 3) := by decide +kernel
theorem dX7_expect_23 : decode cX7_expect 23 = .ok (.iconst 1, 1) := by decide +kernel
theorem dX7_expect_24 : decode cX7_expect 24 = .ok (.ireturn, 1) := by decide +kernel
theorem dX7_wrongHere_0 : decode cX7_wrongHere 0 = .ok (.aload_n 0, 1) := by decide +kernel
theorem dX7_wrongHere_1 : decode cX7_wrongHere 1 = .ok (.aload_n 0, 1) := by decide +kernel
theorem dX7_wrongHere_2 : decode cX7_wrongHere 2 = .ok (.getfield 22, 3) := by decide +kernel
theorem dX7_wrongHere_5 : decode cX7_wrongHere 5 = .ok (.putfield 15, 3) := by decide +kernel
theorem dX7_wrongHere_8 : decode cX7_wrongHere 8 = .ok (.iconst 0, 1) := by decide +kernel
theorem dX7_wrongHere_9 : decode cX7_wrongHere 9 = .ok (.ireturn, 1) := by decide +kernel
theorem dX7_isDigit_0 : decode cX7_isDigit 0 = .ok (.iload_n 0, 1) := by decide +kernel
theorem dX7_isDigit_1 : decode cX7_isDigit 1 = .ok (.bipush 48, 2) := by decide +kernel
theorem dX7_isDigit_3 : decode cX7_isDigit 3 = .ok (.if_icmp .lt 13, 3) := by decide +kernel
theorem dX7_isDigit_6 : decode cX7_isDigit 6 = .ok (.iload_n 0, 1) := by decide +kernel
theorem dX7_isDigit_7 : decode cX7_isDigit 7 = .ok (.bipush 57, 2) := by decide +kernel
theorem dX7_isDigit_9 : decode cX7_isDigit 9 = .ok (.if_icmp .gt 7, 3) := by decide +kernel
theorem dX7_isDigit_12 : decode cX7_isDigit 12 = .ok (.iconst 1, 1) := by decide +kernel
theorem dX7_isDigit_13 : decode cX7_isDigit 13 = .ok (.goto 4, 3) := by decide +kernel
theorem dX7_isDigit_16 : decode cX7_isDigit 16 = .ok (.iconst 0, 1) := by decide +kernel
theorem dX7_isDigit_17 : decode cX7_isDigit 17 = .ok (.ireturn, 1) := by decide +kernel
theorem dX7_number_0 : decode cX7_number 0 = .ok (.aload_n 0, 1) := by decide +kernel
theorem dX7_number_1 : decode cX7_number 1 = .ok (.invokevirtual 25, 3) := by decide +kernel
theorem dX7_number_4 : decode cX7_number 4 = .ok (.invokestatic 33, 3) := by decide +kernel
theorem dX7_number_7 : decode cX7_number 7 = .ok (.ifCond .ne 10, 3) := by decide +kernel
theorem dX7_number_10 : decode cX7_number 10 = .ok (.aload_n 0, 1) := by decide +kernel
theorem dX7_number_11 : decode cX7_number 11 = .ok (.invokevirtual 29, 3) := by decide +kernel
theorem dX7_number_14 : decode cX7_number 14 = .ok (.pop, 1) := by decide +kernel
theorem dX7_number_15 : decode cX7_number 15 = .ok (.iconst (-1), 1) := by decide +kernel
theorem dX7_number_16 : decode cX7_number 16 = .ok (.ireturn, 1) := by decide +kernel
theorem dX7_number_17 : decode cX7_number 17 = .ok (.iconst 0, 1) := by decide +kernel
theorem dX7_number_18 : decode cX7_number 18 = .ok (.istore 4, 2) := by decide +kernel
theorem dX7_number_20 : decode cX7_number 20 = .ok (.iconst 0, 1) := by decide +kernel
theorem dX7_number_21 : decode cX7_number 21 = .ok (.istore 5, 2) := by decide +kernel
theorem dX7_number_23 : decode cX7_number 23 = .ok (.aload_n 0, 1) := by decide +kernel
theorem dX7_number_24 : decode cX7_number 24 = .ok (.getfield 22, 3) := by decide +kernel
theorem dX7_number_27 : decode cX7_number 27 = .ok (.aload_n 0, 1) := by decide +kernel
theorem dX7_number_28 : decode cX7_number 28 = .ok (.getfield 19, 3) := by decide +kernel
theorem dX7_number_31 : decode cX7_number 31 = .ok (.if_icmp .ge 67, 3) := by decide +kernel
theorem dX7_number_34 : decode cX7_number 34 = .ok (.aload_n 0, 1) := by decide +kernel
theorem dX7_number_35 : decode cX7_number 35 = .ok (.getfield 9, 3) := by decide +kernel
theorem dX7_number_38 : decode cX7_number 38 = .ok (.aload_n 0, 1) := by decide +kernel
theorem dX7_number_39 : decode cX7_number 39 = .ok (.getfield 22, 3) := by decide +kernel
theorem dX7_number_42 : decode cX7_number 42 = .ok (.iaload, 1) := by decide +kernel
theorem dX7_number_43 : decode cX7_number 43 = .ok (.invokestatic 33, 3) := by decide +kernel
theorem dX7_number_46 : decode cX7_number 46 = .ok (.ifCond .eq 52, 3) := by decide +kernel
theorem dX7_number_49 : decode cX7_number 49 = .ok (.iload 5, 2) := by decide +kernel
theorem dX7_number_51 : decode cX7_number 51 = .ok (.iload_n 1, 1) := by decide +kernel
theorem dX7_number_52 : decode cX7_number 52 = .ok (.if_icmp .ne 10, 3) := by decide +kernel
theorem dX7_number_55 : decode cX7_number 55 = .ok (.aload_n 0, 1) := by decide +kernel
theorem dX7_number_56 : decode cX7_number 56 = .ok (.invokevirtual 29, 3) := by decide +kernel
theorem dX7_number_59 : decode cX7_number 59 = .ok (.pop, 1) := by decide +kernel
theorem dX7_number_60 : decode cX7_number 60 = .ok (.iconst (-1), 1) := by decide +kernel
theorem dX7_number_61 : decode cX7_number 61 = .ok (.ireturn, 1) := by decide +kernel
theorem dX7_number_62 : decode cX7_number 62 = .ok (.iload 4, 2) := by decide +kernel
theorem dX7_number_64 : decode cX7_number 64 = .ok (.bipush 10, 2) := by decide +kernel
theorem dX7_number_66 : decode cX7_number 66 = .ok (.imul, 1) := by decide +kernel
theorem dX7_number_67 : decode cX7_number 67 = .ok (.aload_n 0, 1) := by decide +kernel
theorem dX7_number_68 : decode cX7_number 68 = .ok (.getfield 9, 3) := by decide +kernel
theorem dX7_number_71 : decode cX7_number 71 = .ok (.aload_n 0, 1) := by decide +kernel
theorem dX7_number_72 : decode cX7_number 72 = .ok (.getfield 22, 3) := by decide +kernel
theorem dX7_number_75 : decode cX7_number 75 = .ok (.iaload, 1) := by decide +kernel
theorem dX7_number_76 : decode cX7_number 76 = .ok (.iadd, 1) := by decide +kernel
theorem dX7_number_77 : decode cX7_number 77 = .ok (.bipush 48, 2) := by decide +kernel
theorem dX7_number_79 : decode cX7_number 79 = .ok (.isub, 1) := by decide +kernel
theorem dX7_number_80 : decode cX7_number 80 = .ok (.istore 4, 2) := by decide +kernel
theorem dX7_number_82 : decode cX7_number 82 = .ok (.iinc 5 1, 3) := by decide +kernel
theorem dX7_number_85 : decode cX7_number 85 = .ok (.aload_n 0, 1) := by decide +kernel
theorem dX7_number_86 : decode cX7_number 86 = .ok (.dup, 1) := by decide +kernel
theorem dX7_number_87 : decode cX7_number 87 = .ok (.getfield 22, 3) := by decide +kernel
theorem dX7_number_90 : decode cX7_number 90 = .ok (.iconst 1, 1) := by decide +kernel
theorem dX7_number_91 : decode cX7_number 91 = .ok (.iadd, 1) := by decide +kernel
theorem dX7_number_92 : decode cX7_number 92 = .ok (.putfield 22, 3) := by decide +kernel
theorem dX7_number_95 : decode cX7_number 95 = .ok (.goto (-72), 3) := by decide +kernel
theorem dX7_number_98 : decode cX7_number 98 = .ok (.iload 4, 2) := by decide +kernel
theorem dX7_number_100 : decode cX7_number 100 = .ok (.iload_n 2, 1) := by decide +kernel
theorem dX7_number_101 : decode cX7_number 101 = .ok (.if_icmp .lt 9, 3) := by decide +kernel
theorem dX7_number_104 : decode cX7_number 104 = .ok (.iload 4, 2) := by decide +kernel
theorem dX7_number_106 : decode cX7_number 106 = .ok (.iload_n 3, 1) := by decide +kernel
theorem dX7_number_107 : decode cX7_number 107 = .ok (.if_icmp .le 15, 3) := by decide +kernel
theorem dX7_number_110 : decode cX7_number 110 = .ok (.aload_n 0, 1) := by decide +kernel
theorem dX7_number_111 : decode cX7_number 111 = .ok (.aload_n 0, 1) := by decide +kernel
theorem dX7_number_112 : decode cX7_number 112 = .ok (.getfield 22, 3) := by decide +kernel
theorem dX7_number_115 : decode cX7_number 115 = .ok (.iconst 1, 1) := by decide +kernel
theorem dX7_number_116 : decode cX7_number 116 = .ok (.isub, 1) := by decide +kernel
theorem dX7_number_117 : decode cX7_number 117 = .ok (.putfield 15, 3) := by decide +kernel
theorem dX7_number_120 : decode cX7_number 120 = .ok (.iconst (-1), 1) := by decide +kernel
theorem dX7_number_121 : decode cX7_number 121 = .ok (.ireturn, 1) := by decide +kernel
theorem dX7_number_122 : decode cX7_number 122 = .ok (.iload 4, 2) := by decide +kernel
theorem dX7_number_124 : decode cX7_number 124 = .ok (.ireturn, 1) := by decide +kernel
theorem dX7_nextOf_0 : decode cX7_nextOf 0 = .ok (.aload_n 0, 1) := by decide +kernel
theorem dX7_nextOf_1 : decode cX7_nextOf 1 = .ok (.invokevirtual 25, 3) := by decide +kernel
theorem dX7_nextOf_4 : decode cX7_nextOf 4 = .ok (.istore_n 2, 1) := by decide +kernel
theorem dX7_nextOf_5 : decode cX7_nextOf 5 = .ok (.iload_n 2, 1) := by decide +kernel
theorem dX7_nextOf_6 : decode cX7_nextOf 6 = .ok (.ifCond .ge 7, 3) := by decide +kernel
theorem dX7_nextOf_9 : decode cX7_nextOf 9 = .ok (.iconst (-1), 1) := by decide +kernel
theorem dX7_nextOf_10 : decode cX7_nextOf 10 = .ok (.goto 9, 3) := by decide +kernel
theorem dX7_nextOf_13 : decode cX7_nextOf 13 = .ok (.aload_n 1, 1) := by decide +kernel
theorem dX7_nextOf_14 : decode cX7_nextOf 14 = .ok (.iload_n 2, 1) := by decide +kernel
theorem dX7_nextOf_15 : decode cX7_nextOf 15 = .ok (.i2c, 1) := by decide +kernel
theorem dX7_nextOf_16 : decode cX7_nextOf 16 = .ok (.invokevirtual 37, 3) := by decide +kernel
theorem dX7_nextOf_19 : decode cX7_nextOf 19 = .ok (.ireturn, 1) := by decide +kernel
theorem dX8_init_0 : decode cX8_init 0 = .ok (.aload_n 0, 1) := by decide +kernel
theorem dX8_init_1 : decode cX8_init 1 = .ok (.invokespecial 3, 3) := by decide +kernel
theorem dX8_init_4 : decode cX8_init 4 = .ok (.aload_n 0, 1) := by decide +kernel
theorem dX8_init_5 : decode cX8_init 5 = .ok (.bipush 6, 2) := by decide +kernel
theorem dX8_init_7 : decode cX8_init 7 = .ok (.newarray .int, 2) := by decide +kernel
theorem dX8_init_9 : decode cX8_init 9 = .ok (.putfield 9, 3) := by decide +kernel
theorem dX8_init_12 : decode cX8_init 12 = .ok (.aload_n 0, 1) := by decide +kernel
theorem dX8_init_13 : decode cX8_init 13 = .ok (.aload_n 1, 1) := by decide +kernel
theorem dX8_init_14 : decode cX8_init 14 = .ok (.putfield 15, 3) := by decide +kernel
theorem dX8_init_17 : decode cX8_init 17 = .ok (.return_, 1) := by decide +kernel
theorem dX8_othersIn_0 : decode cX8_othersIn 0 = .ok (.iconst 0, 1) := by decide +kernel
theorem dX8_othersIn_1 : decode cX8_othersIn 1 = .ok (.istore 4, 2) := by decide +kernel
theorem dX8_othersIn_3 : decode cX8_othersIn 3 = .ok (.iconst 0, 1) := by decide +kernel
theorem dX8_othersIn_4 : decode cX8_othersIn 4 = .ok (.istore 5, 2) := by decide +kernel
theorem dX8_othersIn_6 : decode cX8_othersIn 6 = .ok (.iload 5, 2) := by decide +kernel
theorem dX8_othersIn_8 : decode cX8_othersIn 8 = .ok (.aload_n 0, 1) := by decide +kernel
theorem dX8_othersIn_9 : decode cX8_othersIn 9 = .ok (.getfield 15, 3) := by decide +kernel
theorem dX8_othersIn_12 : decode cX8_othersIn 12 = .ok (.getfield 19, 3) := by decide +kernel
theorem dX8_othersIn_15 : decode cX8_othersIn 15 = .ok (.if_icmp .ge 29, 3) := by decide +kernel
theorem dX8_othersIn_18 : decode cX8_othersIn 18 = .ok (.iload 5, 2) := by decide +kernel
theorem dX8_othersIn_20 : decode cX8_othersIn 20 = .ok (.iload_n 2, 1) := by decide +kernel
theorem dX8_othersIn_21 : decode cX8_othersIn 21 = .ok (.if_icmp .eq 17, 3) := by decide +kernel
theorem dX8_othersIn_24 : decode cX8_othersIn 24 = .ok (.aload_n 1, 1) := by decide +kernel
theorem dX8_othersIn_25 : decode cX8_othersIn 25 = .ok (.getfield 25, 3) := by decide +kernel
theorem dX8_othersIn_28 : decode cX8_othersIn 28 = .ok (.iload 5, 2) := by decide +kernel
theorem dX8_othersIn_30 : decode cX8_othersIn 30 = .ok (.iaload, 1) := by decide +kernel
theorem dX8_othersIn_31 : decode cX8_othersIn 31 = .ok (.iload_n 3, 1) := by decide +kernel
theorem dX8_othersIn_32 : decode cX8_othersIn 32 = .ok (.if_icmp .ne 6, 3) := by decide +kernel
theorem dX8_othersIn_35 : decode cX8_othersIn 35 = .ok (.iinc 4 1, 3) := by decide +kernel
theorem dX8_othersIn_38 : decode cX8_othersIn 38 = .ok (.iinc 5 1, 3) := by decide +kernel
theorem dX8_othersIn_41 : decode cX8_othersIn 41 = .ok (.goto (-35), 3) := by decide +kernel
theorem dX8_othersIn_44 : decode cX8_othersIn 44 = .ok (.iload 4, 2) := by decide +kernel
theorem dX8_othersIn_46 : decode cX8_othersIn 46 = .ok (.ireturn, 1) := by decide +kernel
theorem dX8_meltBy_0 : decode cX8_meltBy 0 = .ok (.aload_n 0, 1) := by decide +kernel
theorem dX8_meltBy_1 : decode cX8_meltBy 1 = .ok (.getfield 15, 3) := by decide +kernel
theorem dX8_meltBy_4 : decode cX8_meltBy 4 = .ok (.iload 4, 2) := by decide +kernel
theorem dX8_meltBy_6 : decode cX8_meltBy 6 = .ok (.aload_n 0, 1) := by decide +kernel
theorem dX8_meltBy_7 : decode cX8_meltBy 7 = .ok (.getfield 15, 3) := by decide +kernel
theorem dX8_meltBy_10 : decode cX8_meltBy 10 = .ok (.iload_n 3, 1) := by decide +kernel
theorem dX8_meltBy_11 : decode cX8_meltBy 11 = .ok (.invokevirtual 30, 3) := by decide +kernel
theorem dX8_meltBy_14 : decode cX8_meltBy 14 = .ok (.invokevirtual 34, 3) := by decide +kernel
theorem dX8_meltBy_17 : decode cX8_meltBy 17 = .ok (.istore 6, 2) := by decide +kernel
theorem dX8_meltBy_19 : decode cX8_meltBy 19 = .ok (.iload 6, 2) := by decide +kernel
theorem dX8_meltBy_21 : decode cX8_meltBy 21 = .ok (.iconst 1, 1) := by decide +kernel
theorem dX8_meltBy_22 : decode cX8_meltBy 22 = .ok (.if_icmp .gt 14, 3) := by decide +kernel
theorem dX8_meltBy_25 : decode cX8_meltBy 25 = .ok (.aload_n 0, 1) := by decide +kernel
theorem dX8_meltBy_26 : decode cX8_meltBy 26 = .ok (.getfield 15, 3) := by decide +kernel
theorem dX8_meltBy_29 : decode cX8_meltBy 29 = .ok (.iload_n 3, 1) := by decide +kernel
theorem dX8_meltBy_30 : decode cX8_meltBy 30 = .ok (.invokevirtual 38, 3) := by decide +kernel
theorem dX8_meltBy_33 : decode cX8_meltBy 33 = .ok (.ifCond .ne 5, 3) := by decide +kernel
theorem dX8_meltBy_36 : decode cX8_meltBy 36 = .ok (.iconst 0, 1) := by decide +kernel
theorem dX8_meltBy_37 : decode cX8_meltBy 37 = .ok (.ireturn, 1) := by decide +kernel
theorem dX8_meltBy_38 : decode cX8_meltBy 38 = .ok (.aload_n 0, 1) := by decide +kernel
theorem dX8_meltBy_39 : decode cX8_meltBy 39 = .ok (.getfield 15, 3) := by decide +kernel
theorem dX8_meltBy_42 : decode cX8_meltBy 42 = .ok (.iload_n 2, 1) := by decide +kernel
theorem dX8_meltBy_43 : decode cX8_meltBy 43 = .ok (.invokevirtual 42, 3) := by decide +kernel
theorem dX8_meltBy_46 : decode cX8_meltBy 46 = .ok (.aload_n 1, 1) := by decide +kernel
theorem dX8_meltBy_47 : decode cX8_meltBy 47 = .ok (.getfield 45, 3) := by decide +kernel
theorem dX8_meltBy_50 : decode cX8_meltBy 50 = .ok (.bipush 20, 2) := by decide +kernel
theorem dX8_meltBy_52 : decode cX8_meltBy 52 = .ok (.idiv, 1) := by decide +kernel
theorem dX8_meltBy_53 : decode cX8_meltBy 53 = .ok (.isub, 1) := by decide +kernel
theorem dX8_meltBy_54 : decode cX8_meltBy 54 = .ok (.iconst 1, 1) := by decide +kernel
theorem dX8_meltBy_55 : decode cX8_meltBy 55 = .ok (.iadd, 1) := by decide +kernel
theorem dX8_meltBy_56 : decode cX8_meltBy 56 = .ok (.iload 6, 2) := by decide +kernel
theorem dX8_meltBy_58 : decode cX8_meltBy 58 = .ok (.isub, 1) := by decide +kernel
theorem dX8_meltBy_59 : decode cX8_meltBy 59 = .ok (.istore 7, 2) := by decide +kernel
theorem dX8_meltBy_61 : decode cX8_meltBy 61 = .ok (.aload_n 0, 1) := by decide +kernel
theorem dX8_meltBy_62 : decode cX8_meltBy 62 = .ok (.getfield 48, 3) := by decide +kernel
theorem dX8_meltBy_65 : decode cX8_meltBy 65 = .ok (.ifnull 78, 3) := by decide +kernel
theorem dX8_meltBy_68 : decode cX8_meltBy 68 = .ok (.aload_n 0, 1) := by decide +kernel
theorem dX8_meltBy_69 : decode cX8_meltBy 69 = .ok (.getfield 9, 3) := by decide +kernel
theorem dX8_meltBy_72 : decode cX8_meltBy 72 = .ok (.iconst 0, 1) := by decide +kernel
theorem dX8_meltBy_73 : decode cX8_meltBy 73 = .ok (.aload_n 0, 1) := by decide +kernel
theorem dX8_meltBy_74 : decode cX8_meltBy 74 = .ok (.getfield 15, 3) := by decide +kernel
theorem dX8_meltBy_77 : decode cX8_meltBy 77 = .ok (.iload_n 2, 1) := by decide +kernel
theorem dX8_meltBy_78 : decode cX8_meltBy 78 = .ok (.invokevirtual 42, 3) := by decide +kernel
theorem dX8_meltBy_81 : decode cX8_meltBy 81 = .ok (.iastore, 1) := by decide +kernel
theorem dX8_meltBy_82 : decode cX8_meltBy 82 = .ok (.aload_n 0, 1) := by decide +kernel
theorem dX8_meltBy_83 : decode cX8_meltBy 83 = .ok (.getfield 9, 3) := by decide +kernel
theorem dX8_meltBy_86 : decode cX8_meltBy 86 = .ok (.iconst 1, 1) := by decide +kernel
theorem dX8_meltBy_87 : decode cX8_meltBy 87 = .ok (.aload_n 1, 1) := by decide +kernel
theorem dX8_meltBy_88 : decode cX8_meltBy 88 = .ok (.getfield 45, 3) := by decide +kernel
theorem dX8_meltBy_91 : decode cX8_meltBy 91 = .ok (.iastore, 1) := by decide +kernel
theorem dX8_meltBy_92 : decode cX8_meltBy 92 = .ok (.aload_n 0, 1) := by decide +kernel
theorem dX8_meltBy_93 : decode cX8_meltBy 93 = .ok (.getfield 9, 3) := by decide +kernel
theorem dX8_meltBy_96 : decode cX8_meltBy 96 = .ok (.iconst 2, 1) := by decide +kernel
theorem dX8_meltBy_97 : decode cX8_meltBy 97 = .ok (.aload_n 1, 1) := by decide +kernel
theorem dX8_meltBy_98 : decode cX8_meltBy 98 = .ok (.getfield 52, 3) := by decide +kernel
theorem dX8_meltBy_101 : decode cX8_meltBy 101 = .ok (.iload_n 3, 1) := by decide +kernel
theorem dX8_meltBy_102 : decode cX8_meltBy 102 = .ok (.iaload, 1) := by decide +kernel
theorem dX8_meltBy_103 : decode cX8_meltBy 103 = .ok (.iastore, 1) := by decide +kernel
theorem dX8_meltBy_104 : decode cX8_meltBy 104 = .ok (.aload_n 0, 1) := by decide +kernel
theorem dX8_meltBy_105 : decode cX8_meltBy 105 = .ok (.getfield 9, 3) := by decide +kernel
theorem dX8_meltBy_108 : decode cX8_meltBy 108 = .ok (.iconst 3, 1) := by decide +kernel
theorem dX8_meltBy_109 : decode cX8_meltBy 109 = .ok (.iload 6, 2) := by decide +kernel
theorem dX8_meltBy_111 : decode cX8_meltBy 111 = .ok (.iastore, 1) := by decide +kernel
theorem dX8_meltBy_112 : decode cX8_meltBy 112 = .ok (.aload_n 0, 1) := by decide +kernel
theorem dX8_meltBy_113 : decode cX8_meltBy 113 = .ok (.getfield 9, 3) := by decide +kernel
theorem dX8_meltBy_116 : decode cX8_meltBy 116 = .ok (.iconst 4, 1) := by decide +kernel
theorem dX8_meltBy_117 : decode cX8_meltBy 117 = .ok (.iload 5, 2) := by decide +kernel
theorem dX8_meltBy_119 : decode cX8_meltBy 119 = .ok (.iastore, 1) := by decide +kernel
theorem dX8_meltBy_120 : decode cX8_meltBy 120 = .ok (.aload_n 0, 1) := by decide +kernel
theorem dX8_meltBy_121 : decode cX8_meltBy 121 = .ok (.getfield 9, 3) := by decide +kernel
theorem dX8_meltBy_124 : decode cX8_meltBy 124 = .ok (.iconst 5, 1) := by decide +kernel
theorem dX8_meltBy_125 : decode cX8_meltBy 125 = .ok (.aload_n 1, 1) := by decide +kernel
theorem dX8_meltBy_126 : decode cX8_meltBy 126 = .ok (.getfield 55, 3) := by decide +kernel
theorem dX8_meltBy_129 : decode cX8_meltBy 129 = .ok (.iastore, 1) := by decide +kernel
theorem dX8_meltBy_130 : decode cX8_meltBy 130 = .ok (.aload_n 0, 1) := by decide +kernel
theorem dX8_meltBy_131 : decode cX8_meltBy 131 = .ok (.getfield 48, 3) := by decide +kernel
theorem dX8_meltBy_134 : decode cX8_meltBy 134 = .ok (.aload_n 0, 1) := by decide +kernel
theorem dX8_meltBy_135 : decode cX8_meltBy 135 = .ok (.getfield 9, 3) := by decide +kernel
theorem dX8_meltBy_138 : decode cX8_meltBy 138 = .ok (.invokevirtual 58, 3) := by decide +kernel
theorem dX8_meltBy_141 : decode cX8_meltBy 141 = .ok (.istore 7, 2) := by decide +kernel
theorem dX8_meltBy_143 : decode cX8_meltBy 143 = .ok (.iconst 0, 1) := by decide +kernel
theorem dX8_meltBy_144 : decode cX8_meltBy 144 = .ok (.bipush 9, 2) := by decide +kernel
theorem dX8_meltBy_146 : decode cX8_meltBy 146 = .ok (.iload 7, 2) := by decide +kernel
theorem dX8_meltBy_148 : decode cX8_meltBy 148 = .ok (.invokestatic 64, 3) := by decide +kernel
theorem dX8_meltBy_151 : decode cX8_meltBy 151 = .ok (.invokestatic 69, 3) := by decide +kernel
theorem dX8_meltBy_154 : decode cX8_meltBy 154 = .ok (.ireturn, 1) := by decide +kernel
theorem dX8_lossIn_0 : decode cX8_lossIn 0 = .ok (.aload_n 0, 1) := by decide +kernel
theorem dX8_lossIn_1 : decode cX8_lossIn 1 = .ok (.aload_n 1, 1) := by decide +kernel
theorem dX8_lossIn_2 : decode cX8_lossIn 2 = .ok (.iload_n 2, 1) := by decide +kernel
theorem dX8_lossIn_3 : decode cX8_lossIn 3 = .ok (.iload_n 3, 1) := by decide +kernel
theorem dX8_lossIn_4 : decode cX8_lossIn 4 = .ok (.invokevirtual 72, 3) := by decide +kernel
theorem dX8_lossIn_7 : decode cX8_lossIn 7 = .ok (.istore 4, 2) := by decide +kernel
theorem dX8_lossIn_9 : decode cX8_lossIn 9 = .ok (.iconst 0, 1) := by decide +kernel
theorem dX8_lossIn_10 : decode cX8_lossIn 10 = .ok (.istore 5, 2) := by decide +kernel
theorem dX8_lossIn_12 : decode cX8_lossIn 12 = .ok (.iconst 0, 1) := by decide +kernel
theorem dX8_lossIn_13 : decode cX8_lossIn 13 = .ok (.istore 6, 2) := by decide +kernel
theorem dX8_lossIn_15 : decode cX8_lossIn 15 = .ok (.iload 6, 2) := by decide +kernel
theorem dX8_lossIn_17 : decode cX8_lossIn 17 = .ok (.aload_n 0, 1) := by decide +kernel
theorem dX8_lossIn_18 : decode cX8_lossIn 18 = .ok (.getfield 15, 3) := by decide +kernel
theorem dX8_lossIn_21 : decode cX8_lossIn 21 = .ok (.getfield 76, 3) := by decide +kernel
theorem dX8_lossIn_24 : decode cX8_lossIn 24 = .ok (.if_icmp .ge 45, 3) := by decide +kernel
theorem dX8_lossIn_27 : decode cX8_lossIn 27 = .ok (.aload_n 1, 1) := by decide +kernel
theorem dX8_lossIn_28 : decode cX8_lossIn 28 = .ok (.getfield 52, 3) := by decide +kernel
theorem dX8_lossIn_31 : decode cX8_lossIn 31 = .ok (.iload 6, 2) := by decide +kernel
theorem dX8_lossIn_33 : decode cX8_lossIn 33 = .ok (.iaload, 1) := by decide +kernel
theorem dX8_lossIn_34 : decode cX8_lossIn 34 = .ok (.ifCond .le 29, 3) := by decide +kernel
theorem dX8_lossIn_37 : decode cX8_lossIn 37 = .ok (.iload 5, 2) := by decide +kernel
theorem dX8_lossIn_39 : decode cX8_lossIn 39 = .ok (.aload_n 1, 1) := by decide +kernel
theorem dX8_lossIn_40 : decode cX8_lossIn 40 = .ok (.getfield 52, 3) := by decide +kernel
theorem dX8_lossIn_43 : decode cX8_lossIn 43 = .ok (.iload 6, 2) := by decide +kernel
theorem dX8_lossIn_45 : decode cX8_lossIn 45 = .ok (.iaload, 1) := by decide +kernel
theorem dX8_lossIn_46 : decode cX8_lossIn 46 = .ok (.aload_n 0, 1) := by decide +kernel
theorem dX8_lossIn_47 : decode cX8_lossIn 47 = .ok (.aload_n 1, 1) := by decide +kernel
theorem dX8_lossIn_48 : decode cX8_lossIn 48 = .ok (.iload_n 2, 1) := by decide +kernel
theorem dX8_lossIn_49 : decode cX8_lossIn 49 = .ok (.iload 6, 2) := by decide +kernel
theorem dX8_lossIn_51 : decode cX8_lossIn 51 = .ok (.iload_n 3, 1) := by decide +kernel
theorem dX8_lossIn_52 : decode cX8_lossIn 52 = .ok (.iload 4, 2) := by decide +kernel
theorem dX8_lossIn_54 : decode cX8_lossIn 54 = .ok (.invokevirtual 79, 3) := by decide +kernel
theorem dX8_lossIn_57 : decode cX8_lossIn 57 = .ok (.invokestatic 64, 3) := by decide +kernel
theorem dX8_lossIn_60 : decode cX8_lossIn 60 = .ok (.iadd, 1) := by decide +kernel
theorem dX8_lossIn_61 : decode cX8_lossIn 61 = .ok (.istore 5, 2) := by decide +kernel
theorem dX8_lossIn_63 : decode cX8_lossIn 63 = .ok (.iinc 6 1, 3) := by decide +kernel
theorem dX8_lossIn_66 : decode cX8_lossIn 66 = .ok (.goto (-51), 3) := by decide +kernel
theorem dX8_lossIn_69 : decode cX8_lossIn 69 = .ok (.iload 5, 2) := by decide +kernel
theorem dX8_lossIn_71 : decode cX8_lossIn 71 = .ok (.ireturn, 1) := by decide +kernel
theorem dX8_breathe_0 : decode cX8_breathe 0 = .ok (.aload_n 0, 1) := by decide +kernel
theorem dX8_breathe_1 : decode cX8_breathe 1 = .ok (.aload_n 1, 1) := by decide +kernel
theorem dX8_breathe_2 : decode cX8_breathe 2 = .ok (.iload_n 2, 1) := by decide +kernel
theorem dX8_breathe_3 : decode cX8_breathe 3 = .ok (.iload_n 3, 1) := by decide +kernel
theorem dX8_breathe_4 : decode cX8_breathe 4 = .ok (.invokevirtual 72, 3) := by decide +kernel
theorem dX8_breathe_7 : decode cX8_breathe 7 = .ok (.istore 4, 2) := by decide +kernel
theorem dX8_breathe_9 : decode cX8_breathe 9 = .ok (.iconst 0, 1) := by decide +kernel
theorem dX8_breathe_10 : decode cX8_breathe 10 = .ok (.istore 5, 2) := by decide +kernel
theorem dX8_breathe_12 : decode cX8_breathe 12 = .ok (.iconst 0, 1) := by decide +kernel
theorem dX8_breathe_13 : decode cX8_breathe 13 = .ok (.istore 6, 2) := by decide +kernel
theorem dX8_breathe_15 : decode cX8_breathe 15 = .ok (.iload 6, 2) := by decide +kernel
theorem dX8_breathe_17 : decode cX8_breathe 17 = .ok (.aload_n 0, 1) := by decide +kernel
theorem dX8_breathe_18 : decode cX8_breathe 18 = .ok (.getfield 15, 3) := by decide +kernel
theorem dX8_breathe_21 : decode cX8_breathe 21 = .ok (.getfield 76, 3) := by decide +kernel
theorem dX8_breathe_24 : decode cX8_breathe 24 = .ok (.if_icmp .ge 41, 3) := by decide +kernel
theorem dX8_breathe_27 : decode cX8_breathe 27 = .ok (.aload_n 1, 1) := by decide +kernel
theorem dX8_breathe_28 : decode cX8_breathe 28 = .ok (.getfield 52, 3) := by decide +kernel
theorem dX8_breathe_31 : decode cX8_breathe 31 = .ok (.iload 6, 2) := by decide +kernel
theorem dX8_breathe_33 : decode cX8_breathe 33 = .ok (.iaload, 1) := by decide +kernel
theorem dX8_breathe_34 : decode cX8_breathe 34 = .ok (.ifCond .le 25, 3) := by decide +kernel
theorem dX8_breathe_37 : decode cX8_breathe 37 = .ok (.iload 5, 2) := by decide +kernel
theorem dX8_breathe_39 : decode cX8_breathe 39 = .ok (.aload_n 1, 1) := by decide +kernel
theorem dX8_breathe_40 : decode cX8_breathe 40 = .ok (.iload 6, 2) := by decide +kernel
theorem dX8_breathe_42 : decode cX8_breathe 42 = .ok (.aload_n 0, 1) := by decide +kernel
theorem dX8_breathe_43 : decode cX8_breathe 43 = .ok (.aload_n 1, 1) := by decide +kernel
theorem dX8_breathe_44 : decode cX8_breathe 44 = .ok (.iload_n 2, 1) := by decide +kernel
theorem dX8_breathe_45 : decode cX8_breathe 45 = .ok (.iload 6, 2) := by decide +kernel
theorem dX8_breathe_47 : decode cX8_breathe 47 = .ok (.iload_n 3, 1) := by decide +kernel
theorem dX8_breathe_48 : decode cX8_breathe 48 = .ok (.iload 4, 2) := by decide +kernel
theorem dX8_breathe_50 : decode cX8_breathe 50 = .ok (.invokevirtual 79, 3) := by decide +kernel
theorem dX8_breathe_53 : decode cX8_breathe 53 = .ok (.invokevirtual 83, 3) := by decide +kernel
theorem dX8_breathe_56 : decode cX8_breathe 56 = .ok (.iadd, 1) := by decide +kernel
theorem dX8_breathe_57 : decode cX8_breathe 57 = .ok (.istore 5, 2) := by decide +kernel
theorem dX8_breathe_59 : decode cX8_breathe 59 = .ok (.iinc 6 1, 3) := by decide +kernel
theorem dX8_breathe_62 : decode cX8_breathe 62 = .ok (.goto (-47), 3) := by decide +kernel
theorem dX8_breathe_65 : decode cX8_breathe 65 = .ok (.iload 5, 2) := by decide +kernel
theorem dX8_breathe_67 : decode cX8_breathe 67 = .ok (.ireturn, 1) := by decide +kernel
theorem dX8_reaches_0 : decode cX8_reaches 0 = .ok (.aload_n 0, 1) := by decide +kernel
theorem dX8_reaches_1 : decode cX8_reaches 1 = .ok (.getfield 15, 3) := by decide +kernel
theorem dX8_reaches_4 : decode cX8_reaches 4 = .ok (.iload_n 2, 1) := by decide +kernel
theorem dX8_reaches_5 : decode cX8_reaches 5 = .ok (.invokevirtual 86, 3) := by decide +kernel
theorem dX8_reaches_8 : decode cX8_reaches 8 = .ok (.ifCond .eq 32, 3) := by decide +kernel
theorem dX8_reaches_11 : decode cX8_reaches 11 = .ok (.aload_n 0, 1) := by decide +kernel
theorem dX8_reaches_12 : decode cX8_reaches 12 = .ok (.getfield 15, 3) := by decide +kernel
theorem dX8_reaches_15 : decode cX8_reaches 15 = .ok (.aload_n 1, 1) := by decide +kernel
theorem dX8_reaches_16 : decode cX8_reaches 16 = .ok (.getfield 25, 3) := by decide +kernel
theorem dX8_reaches_19 : decode cX8_reaches 19 = .ok (.iload_n 2, 1) := by decide +kernel
theorem dX8_reaches_20 : decode cX8_reaches 20 = .ok (.iaload, 1) := by decide +kernel
theorem dX8_reaches_21 : decode cX8_reaches 21 = .ok (.iload_n 3, 1) := by decide +kernel
theorem dX8_reaches_22 : decode cX8_reaches 22 = .ok (.invokevirtual 34, 3) := by decide +kernel
theorem dX8_reaches_25 : decode cX8_reaches 25 = .ok (.aload_n 0, 1) := by decide +kernel
theorem dX8_reaches_26 : decode cX8_reaches 26 = .ok (.getfield 15, 3) := by decide +kernel
theorem dX8_reaches_29 : decode cX8_reaches 29 = .ok (.iload_n 2, 1) := by decide +kernel
theorem dX8_reaches_30 : decode cX8_reaches 30 = .ok (.invokevirtual 89, 3) := by decide +kernel
theorem dX8_reaches_33 : decode cX8_reaches 33 = .ok (.if_icmp .gt 7, 3) := by decide +kernel
theorem dX8_reaches_36 : decode cX8_reaches 36 = .ok (.iconst 1, 1) := by decide +kernel
theorem dX8_reaches_37 : decode cX8_reaches 37 = .ok (.goto 4, 3) := by decide +kernel
theorem dX8_reaches_40 : decode cX8_reaches 40 = .ok (.iconst 0, 1) := by decide +kernel
theorem dX8_reaches_41 : decode cX8_reaches 41 = .ok (.ireturn, 1) := by decide +kernel
theorem dX8_may_0 : decode cX8_may 0 = .ok (.iload_n 2, 1) := by decide +kernel
theorem dX8_may_1 : decode cX8_may 1 = .ok (.iconst 4, 1) := by decide +kernel
theorem dX8_may_2 : decode cX8_may 2 = .ok (.if_icmp .ne 11, 3) := by decide +kernel
theorem dX8_may_5 : decode cX8_may 5 = .ok (.aload_n 0, 1) := by decide +kernel
theorem dX8_may_6 : decode cX8_may 6 = .ok (.getfield 15, 3) := by decide +kernel
theorem dX8_may_9 : decode cX8_may 9 = .ok (.invokevirtual 92, 3) := by decide +kernel
theorem dX8_may_12 : decode cX8_may 12 = .ok (.ireturn, 1) := by decide +kernel
theorem dX8_may_13 : decode cX8_may 13 = .ok (.iload_n 2, 1) := by decide +kernel
theorem dX8_may_14 : decode cX8_may 14 = .ok (.iconst 5, 1) := by decide +kernel
theorem dX8_may_15 : decode cX8_may 15 = .ok (.if_icmp .ne 13, 3) := by decide +kernel
theorem dX8_may_18 : decode cX8_may 18 = .ok (.aload_n 0, 1) := by decide +kernel
theorem dX8_may_19 : decode cX8_may 19 = .ok (.getfield 15, 3) := by decide +kernel
theorem dX8_may_22 : decode cX8_may 22 = .ok (.iload 4, 2) := by decide +kernel
theorem dX8_may_24 : decode cX8_may 24 = .ok (.invokevirtual 96, 3) := by decide +kernel
theorem dX8_may_27 : decode cX8_may 27 = .ok (.ireturn, 1) := by decide +kernel
theorem dX8_may_28 : decode cX8_may 28 = .ok (.aload_n 0, 1) := by decide +kernel
theorem dX8_may_29 : decode cX8_may 29 = .ok (.getfield 15, 3) := by decide +kernel
theorem dX8_may_32 : decode cX8_may 32 = .ok (.iload_n 3, 1) := by decide +kernel
theorem dX8_may_33 : decode cX8_may 33 = .ok (.invokevirtual 86, 3) := by decide +kernel
theorem dX8_may_36 : decode cX8_may 36 = .ok (.ifCond .eq 11, 3) := by decide +kernel
theorem dX8_may_39 : decode cX8_may 39 = .ok (.aload_n 1, 1) := by decide +kernel
theorem dX8_may_40 : decode cX8_may 40 = .ok (.iload_n 3, 1) := by decide +kernel
theorem dX8_may_41 : decode cX8_may 41 = .ok (.invokevirtual 99, 3) := by decide +kernel
theorem dX8_may_44 : decode cX8_may 44 = .ok (.ifCond .eq 5, 3) := by decide +kernel
theorem dX8_may_47 : decode cX8_may 47 = .ok (.iconst 0, 1) := by decide +kernel
theorem dX8_may_48 : decode cX8_may 48 = .ok (.ireturn, 1) := by decide +kernel
theorem dX8_may_49 : decode cX8_may 49 = .ok (.iload_n 2, 1) := by decide +kernel
theorem dX8_may_50 : decode cX8_may 50 = .ok (.tableswitch 203 0 3 #[30, 76, 123, 163], 30) := by decide +kernel
theorem dX8_may_80 : decode cX8_may 80 = .ok (.aload_n 0, 1) := by decide +kernel
theorem dX8_may_81 : decode cX8_may 81 = .ok (.getfield 15, 3) := by decide +kernel
theorem dX8_may_84 : decode cX8_may 84 = .ok (.iload 4, 2) := by decide +kernel
theorem dX8_may_86 : decode cX8_may 86 = .ok (.invokevirtual 38, 3) := by decide +kernel
theorem dX8_may_89 : decode cX8_may 89 = .ok (.ifCond .eq 35, 3) := by decide +kernel
theorem dX8_may_92 : decode cX8_may 92 = .ok (.aload_n 1, 1) := by decide +kernel
theorem dX8_may_93 : decode cX8_may 93 = .ok (.getfield 52, 3) := by decide +kernel
theorem dX8_may_96 : decode cX8_may 96 = .ok (.iload 4, 2) := by decide +kernel
theorem dX8_may_98 : decode cX8_may 98 = .ok (.iaload, 1) := by decide +kernel
theorem dX8_may_99 : decode cX8_may 99 = .ok (.ifCond .le 25, 3) := by decide +kernel
theorem dX8_may_102 : decode cX8_may 102 = .ok (.aload_n 0, 1) := by decide +kernel
theorem dX8_may_103 : decode cX8_may 103 = .ok (.aload_n 1, 1) := by decide +kernel
theorem dX8_may_104 : decode cX8_may 104 = .ok (.iload_n 3, 1) := by decide +kernel
theorem dX8_may_105 : decode cX8_may 105 = .ok (.aload_n 0, 1) := by decide +kernel
theorem dX8_may_106 : decode cX8_may 106 = .ok (.getfield 15, 3) := by decide +kernel
theorem dX8_may_109 : decode cX8_may 109 = .ok (.iload 4, 2) := by decide +kernel
theorem dX8_may_111 : decode cX8_may 111 = .ok (.invokevirtual 30, 3) := by decide +kernel
theorem dX8_may_114 : decode cX8_may 114 = .ok (.invokevirtual 102, 3) := by decide +kernel
theorem dX8_may_117 : decode cX8_may 117 = .ok (.ifCond .eq 7, 3) := by decide +kernel
theorem dX8_may_120 : decode cX8_may 120 = .ok (.iconst 1, 1) := by decide +kernel
theorem dX8_may_121 : decode cX8_may 121 = .ok (.goto 4, 3) := by decide +kernel
theorem dX8_may_124 : decode cX8_may 124 = .ok (.iconst 0, 1) := by decide +kernel
theorem dX8_may_125 : decode cX8_may 125 = .ok (.ireturn, 1) := by decide +kernel
theorem dX8_may_126 : decode cX8_may 126 = .ok (.aload_n 0, 1) := by decide +kernel
theorem dX8_may_127 : decode cX8_may 127 = .ok (.getfield 15, 3) := by decide +kernel
theorem dX8_may_130 : decode cX8_may 130 = .ok (.iload 4, 2) := by decide +kernel
theorem dX8_may_132 : decode cX8_may 132 = .ok (.invokevirtual 38, 3) := by decide +kernel
theorem dX8_may_135 : decode cX8_may 135 = .ok (.ifCond .eq 36, 3) := by decide +kernel
theorem dX8_may_138 : decode cX8_may 138 = .ok (.aload_n 1, 1) := by decide +kernel
theorem dX8_may_139 : decode cX8_may 139 = .ok (.iload_n 3, 1) := by decide +kernel
theorem dX8_may_140 : decode cX8_may 140 = .ok (.iload 4, 2) := by decide +kernel
theorem dX8_may_142 : decode cX8_may 142 = .ok (.invokevirtual 106, 3) := by decide +kernel
theorem dX8_may_145 : decode cX8_may 145 = .ok (.iconst (-1), 1) := by decide +kernel
theorem dX8_may_146 : decode cX8_may 146 = .ok (.if_icmp .eq 25, 3) := by decide +kernel
theorem dX8_may_149 : decode cX8_may 149 = .ok (.aload_n 0, 1) := by decide +kernel
theorem dX8_may_150 : decode cX8_may 150 = .ok (.aload_n 1, 1) := by decide +kernel
theorem dX8_may_151 : decode cX8_may 151 = .ok (.iload_n 3, 1) := by decide +kernel
theorem dX8_may_152 : decode cX8_may 152 = .ok (.aload_n 0, 1) := by decide +kernel
theorem dX8_may_153 : decode cX8_may 153 = .ok (.getfield 15, 3) := by decide +kernel
theorem dX8_may_156 : decode cX8_may 156 = .ok (.iload 4, 2) := by decide +kernel
theorem dX8_may_158 : decode cX8_may 158 = .ok (.invokevirtual 30, 3) := by decide +kernel
theorem dX8_may_161 : decode cX8_may 161 = .ok (.invokevirtual 102, 3) := by decide +kernel
theorem dX8_may_164 : decode cX8_may 164 = .ok (.ifCond .eq 7, 3) := by decide +kernel
theorem dX8_may_167 : decode cX8_may 167 = .ok (.iconst 1, 1) := by decide +kernel
theorem dX8_may_168 : decode cX8_may 168 = .ok (.goto 4, 3) := by decide +kernel
theorem dX8_may_171 : decode cX8_may 171 = .ok (.iconst 0, 1) := by decide +kernel
theorem dX8_may_172 : decode cX8_may 172 = .ok (.ireturn, 1) := by decide +kernel
theorem dX8_may_173 : decode cX8_may 173 = .ok (.aload_n 0, 1) := by decide +kernel
theorem dX8_may_174 : decode cX8_may 174 = .ok (.getfield 15, 3) := by decide +kernel
theorem dX8_may_177 : decode cX8_may 177 = .ok (.iload 4, 2) := by decide +kernel
theorem dX8_may_179 : decode cX8_may 179 = .ok (.invokevirtual 96, 3) := by decide +kernel
theorem dX8_may_182 : decode cX8_may 182 = .ok (.ifCond .eq 29, 3) := by decide +kernel
theorem dX8_may_185 : decode cX8_may 185 = .ok (.aload_n 1, 1) := by decide +kernel
theorem dX8_may_186 : decode cX8_may 186 = .ok (.getfield 25, 3) := by decide +kernel
theorem dX8_may_189 : decode cX8_may 189 = .ok (.iload_n 3, 1) := by decide +kernel
theorem dX8_may_190 : decode cX8_may 190 = .ok (.iaload, 1) := by decide +kernel
theorem dX8_may_191 : decode cX8_may 191 = .ok (.iload 4, 2) := by decide +kernel
theorem dX8_may_193 : decode cX8_may 193 = .ok (.if_icmp .eq 18, 3) := by decide +kernel
theorem dX8_may_196 : decode cX8_may 196 = .ok (.aload_n 0, 1) := by decide +kernel
theorem dX8_may_197 : decode cX8_may 197 = .ok (.aload_n 1, 1) := by decide +kernel
theorem dX8_may_198 : decode cX8_may 198 = .ok (.iload_n 3, 1) := by decide +kernel
theorem dX8_may_199 : decode cX8_may 199 = .ok (.iload 4, 2) := by decide +kernel
theorem dX8_may_201 : decode cX8_may 201 = .ok (.invokevirtual 102, 3) := by decide +kernel
theorem dX8_may_204 : decode cX8_may 204 = .ok (.ifCond .eq 7, 3) := by decide +kernel
theorem dX8_may_207 : decode cX8_may 207 = .ok (.iconst 1, 1) := by decide +kernel
theorem dX8_may_208 : decode cX8_may 208 = .ok (.goto 4, 3) := by decide +kernel
theorem dX8_may_211 : decode cX8_may 211 = .ok (.iconst 0, 1) := by decide +kernel
theorem dX8_may_212 : decode cX8_may 212 = .ok (.ireturn, 1) := by decide +kernel
theorem dX8_may_213 : decode cX8_may 213 = .ok (.aload_n 0, 1) := by decide +kernel
theorem dX8_may_214 : decode cX8_may 214 = .ok (.getfield 15, 3) := by decide +kernel
theorem dX8_may_217 : decode cX8_may 217 = .ok (.iload 4, 2) := by decide +kernel
theorem dX8_may_219 : decode cX8_may 219 = .ok (.invokevirtual 86, 3) := by decide +kernel
theorem dX8_may_222 : decode cX8_may 222 = .ok (.ifCond .eq 29, 3) := by decide +kernel
theorem dX8_may_225 : decode cX8_may 225 = .ok (.iload 4, 2) := by decide +kernel
theorem dX8_may_227 : decode cX8_may 227 = .ok (.iload_n 3, 1) := by decide +kernel
theorem dX8_may_228 : decode cX8_may 228 = .ok (.if_icmp .eq 23, 3) := by decide +kernel
theorem dX8_may_231 : decode cX8_may 231 = .ok (.aload_n 1, 1) := by decide +kernel
theorem dX8_may_232 : decode cX8_may 232 = .ok (.getfield 25, 3) := by decide +kernel
theorem dX8_may_235 : decode cX8_may 235 = .ok (.iload 4, 2) := by decide +kernel
theorem dX8_may_237 : decode cX8_may 237 = .ok (.iaload, 1) := by decide +kernel
theorem dX8_may_238 : decode cX8_may 238 = .ok (.aload_n 1, 1) := by decide +kernel
theorem dX8_may_239 : decode cX8_may 239 = .ok (.getfield 25, 3) := by decide +kernel
theorem dX8_may_242 : decode cX8_may 242 = .ok (.iload_n 3, 1) := by decide +kernel
theorem dX8_may_243 : decode cX8_may 243 = .ok (.iaload, 1) := by decide +kernel
theorem dX8_may_244 : decode cX8_may 244 = .ok (.if_icmp .ne 7, 3) := by decide +kernel
theorem dX8_may_247 : decode cX8_may 247 = .ok (.iconst 1, 1) := by decide +kernel
theorem dX8_may_248 : decode cX8_may 248 = .ok (.goto 4, 3) := by decide +kernel
theorem dX8_may_251 : decode cX8_may 251 = .ok (.iconst 0, 1) := by decide +kernel
theorem dX8_may_252 : decode cX8_may 252 = .ok (.ireturn, 1) := by decide +kernel
theorem dX8_may_253 : decode cX8_may 253 = .ok (.iconst 0, 1) := by decide +kernel
theorem dX8_may_254 : decode cX8_may 254 = .ok (.ireturn, 1) := by decide +kernel
theorem dX8_carryOut_0 : decode cX8_carryOut 0 = .ok (.iload_n 2, 1) := by decide +kernel
theorem dX8_carryOut_1 : decode cX8_carryOut 1 = .ok (.iconst 4, 1) := by decide +kernel
theorem dX8_carryOut_2 : decode cX8_carryOut 2 = .ok (.if_icmp .ne 9, 3) := by decide +kernel
theorem dX8_carryOut_5 : decode cX8_carryOut 5 = .ok (.aload_n 0, 1) := by decide +kernel
theorem dX8_carryOut_6 : decode cX8_carryOut 6 = .ok (.aload_n 1, 1) := by decide +kernel
theorem dX8_carryOut_7 : decode cX8_carryOut 7 = .ok (.invokevirtual 109, 3) := by decide +kernel
theorem dX8_carryOut_10 : decode cX8_carryOut 10 = .ok (.ireturn, 1) := by decide +kernel
theorem dX8_carryOut_11 : decode cX8_carryOut 11 = .ok (.iload_n 2, 1) := by decide +kernel
theorem dX8_carryOut_12 : decode cX8_carryOut 12 = .ok (.iconst 5, 1) := by decide +kernel
theorem dX8_carryOut_13 : decode cX8_carryOut 13 = .ok (.if_icmp .ne 11, 3) := by decide +kernel
theorem dX8_carryOut_16 : decode cX8_carryOut 16 = .ok (.aload_n 0, 1) := by decide +kernel
theorem dX8_carryOut_17 : decode cX8_carryOut 17 = .ok (.aload_n 1, 1) := by decide +kernel
theorem dX8_carryOut_18 : decode cX8_carryOut 18 = .ok (.iload 4, 2) := by decide +kernel
theorem dX8_carryOut_20 : decode cX8_carryOut 20 = .ok (.invokevirtual 113, 3) := by decide +kernel
theorem dX8_carryOut_23 : decode cX8_carryOut 23 = .ok (.ireturn, 1) := by decide +kernel
theorem dX8_carryOut_24 : decode cX8_carryOut 24 = .ok (.aload_n 0, 1) := by decide +kernel
theorem dX8_carryOut_25 : decode cX8_carryOut 25 = .ok (.getfield 15, 3) := by decide +kernel
theorem dX8_carryOut_28 : decode cX8_carryOut 28 = .ok (.iload_n 3, 1) := by decide +kernel
theorem dX8_carryOut_29 : decode cX8_carryOut 29 = .ok (.invokevirtual 86, 3) := by decide +kernel
theorem dX8_carryOut_32 : decode cX8_carryOut 32 = .ok (.ifCond .ne 5, 3) := by decide +kernel
theorem dX8_carryOut_35 : decode cX8_carryOut 35 = .ok (.iconst 0, 1) := by decide +kernel
theorem dX8_carryOut_36 : decode cX8_carryOut 36 = .ok (.ireturn, 1) := by decide +kernel
theorem dX8_carryOut_37 : decode cX8_carryOut 37 = .ok (.aload_n 1, 1) := by decide +kernel
theorem dX8_carryOut_38 : decode cX8_carryOut 38 = .ok (.dup, 1) := by decide +kernel
theorem dX8_carryOut_39 : decode cX8_carryOut 39 = .ok (.getfield 117, 3) := by decide +kernel
theorem dX8_carryOut_42 : decode cX8_carryOut 42 = .ok (.iconst 1, 1) := by decide +kernel
theorem dX8_carryOut_43 : decode cX8_carryOut 43 = .ok (.iload_n 3, 1) := by decide +kernel
theorem dX8_carryOut_44 : decode cX8_carryOut 44 = .ok (.ishl, 1) := by decide +kernel
theorem dX8_carryOut_45 : decode cX8_carryOut 45 = .ok (.ior, 1) := by decide +kernel
theorem dX8_carryOut_46 : decode cX8_carryOut 46 = .ok (.putfield 117, 3) := by decide +kernel
theorem dX8_carryOut_49 : decode cX8_carryOut 49 = .ok (.iload_n 2, 1) := by decide +kernel
theorem dX8_carryOut_50 : decode cX8_carryOut 50 = .ok (.iconst 3, 1) := by decide +kernel
theorem dX8_carryOut_51 : decode cX8_carryOut 51 = .ok (.if_icmp .ne 13, 3) := by decide +kernel
theorem dX8_carryOut_54 : decode cX8_carryOut 54 = .ok (.aload_n 0, 1) := by decide +kernel
theorem dX8_carryOut_55 : decode cX8_carryOut 55 = .ok (.aload_n 1, 1) := by decide +kernel
theorem dX8_carryOut_56 : decode cX8_carryOut 56 = .ok (.iload_n 3, 1) := by decide +kernel
theorem dX8_carryOut_57 : decode cX8_carryOut 57 = .ok (.iload 4, 2) := by decide +kernel
theorem dX8_carryOut_59 : decode cX8_carryOut 59 = .ok (.invokevirtual 120, 3) := by decide +kernel
theorem dX8_carryOut_62 : decode cX8_carryOut 62 = .ok (.iconst 0, 1) := by decide +kernel
theorem dX8_carryOut_63 : decode cX8_carryOut 63 = .ok (.ireturn, 1) := by decide +kernel
theorem dX8_carryOut_64 : decode cX8_carryOut 64 = .ok (.iload_n 2, 1) := by decide +kernel
theorem dX8_carryOut_65 : decode cX8_carryOut 65 = .ok (.iconst 2, 1) := by decide +kernel
theorem dX8_carryOut_66 : decode cX8_carryOut 66 = .ok (.if_icmp .ne 13, 3) := by decide +kernel
theorem dX8_carryOut_69 : decode cX8_carryOut 69 = .ok (.aload_n 1, 1) := by decide +kernel
theorem dX8_carryOut_70 : decode cX8_carryOut 70 = .ok (.getfield 25, 3) := by decide +kernel
theorem dX8_carryOut_73 : decode cX8_carryOut 73 = .ok (.iload_n 3, 1) := by decide +kernel
theorem dX8_carryOut_74 : decode cX8_carryOut 74 = .ok (.iload 4, 2) := by decide +kernel
theorem dX8_carryOut_76 : decode cX8_carryOut 76 = .ok (.iastore, 1) := by decide +kernel
theorem dX8_carryOut_77 : decode cX8_carryOut 77 = .ok (.iconst 0, 1) := by decide +kernel
theorem dX8_carryOut_78 : decode cX8_carryOut 78 = .ok (.ireturn, 1) := by decide +kernel
theorem dX8_carryOut_79 : decode cX8_carryOut 79 = .ok (.aload_n 0, 1) := by decide +kernel
theorem dX8_carryOut_80 : decode cX8_carryOut 80 = .ok (.getfield 15, 3) := by decide +kernel
theorem dX8_carryOut_83 : decode cX8_carryOut 83 = .ok (.iload 4, 2) := by decide +kernel
theorem dX8_carryOut_85 : decode cX8_carryOut 85 = .ok (.invokevirtual 38, 3) := by decide +kernel
theorem dX8_carryOut_88 : decode cX8_carryOut 88 = .ok (.ifCond .ne 5, 3) := by decide +kernel
theorem dX8_carryOut_91 : decode cX8_carryOut 91 = .ok (.iconst 0, 1) := by decide +kernel
theorem dX8_carryOut_92 : decode cX8_carryOut 92 = .ok (.ireturn, 1) := by decide +kernel
theorem dX8_carryOut_93 : decode cX8_carryOut 93 = .ok (.aload_n 1, 1) := by decide +kernel
theorem dX8_carryOut_94 : decode cX8_carryOut 94 = .ok (.getfield 25, 3) := by decide +kernel
theorem dX8_carryOut_97 : decode cX8_carryOut 97 = .ok (.iload_n 3, 1) := by decide +kernel
theorem dX8_carryOut_98 : decode cX8_carryOut 98 = .ok (.aload_n 0, 1) := by decide +kernel
theorem dX8_carryOut_99 : decode cX8_carryOut 99 = .ok (.getfield 15, 3) := by decide +kernel
theorem dX8_carryOut_102 : decode cX8_carryOut 102 = .ok (.iload 4, 2) := by decide +kernel
theorem dX8_carryOut_104 : decode cX8_carryOut 104 = .ok (.invokevirtual 30, 3) := by decide +kernel
theorem dX8_carryOut_107 : decode cX8_carryOut 107 = .ok (.iastore, 1) := by decide +kernel
theorem dX8_carryOut_108 : decode cX8_carryOut 108 = .ok (.iload_n 2, 1) := by decide +kernel
theorem dX8_carryOut_109 : decode cX8_carryOut 109 = .ok (.iconst 1, 1) := by decide +kernel
theorem dX8_carryOut_110 : decode cX8_carryOut 110 = .ok (.if_icmp .ne 28, 3) := by decide +kernel
theorem dX8_carryOut_113 : decode cX8_carryOut 113 = .ok (.aload_n 1, 1) := by decide +kernel
theorem dX8_carryOut_114 : decode cX8_carryOut 114 = .ok (.getfield 52, 3) := by decide +kernel
theorem dX8_carryOut_117 : decode cX8_carryOut 117 = .ok (.iload 4, 2) := by decide +kernel
theorem dX8_carryOut_119 : decode cX8_carryOut 119 = .ok (.bipush 9, 2) := by decide +kernel
theorem dX8_carryOut_121 : decode cX8_carryOut 121 = .ok (.iastore, 1) := by decide +kernel
theorem dX8_carryOut_122 : decode cX8_carryOut 122 = .ok (.aload_n 1, 1) := by decide +kernel
theorem dX8_carryOut_123 : decode cX8_carryOut 123 = .ok (.getfield 124, 3) := by decide +kernel
theorem dX8_carryOut_126 : decode cX8_carryOut 126 = .ok (.iload 4, 2) := by decide +kernel
theorem dX8_carryOut_128 : decode cX8_carryOut 128 = .ok (.aload_n 1, 1) := by decide +kernel
theorem dX8_carryOut_129 : decode cX8_carryOut 129 = .ok (.iload_n 3, 1) := by decide +kernel
theorem dX8_carryOut_130 : decode cX8_carryOut 130 = .ok (.iload 4, 2) := by decide +kernel
theorem dX8_carryOut_132 : decode cX8_carryOut 132 = .ok (.invokevirtual 106, 3) := by decide +kernel
theorem dX8_carryOut_135 : decode cX8_carryOut 135 = .ok (.iastore, 1) := by decide +kernel
theorem dX8_carryOut_136 : decode cX8_carryOut 136 = .ok (.iconst 0, 1) := by decide +kernel
theorem dX8_carryOut_137 : decode cX8_carryOut 137 = .ok (.ireturn, 1) := by decide +kernel
theorem dX8_carryOut_138 : decode cX8_carryOut 138 = .ok (.aload_n 1, 1) := by decide +kernel
theorem dX8_carryOut_139 : decode cX8_carryOut 139 = .ok (.iload_n 3, 1) := by decide +kernel
theorem dX8_carryOut_140 : decode cX8_carryOut 140 = .ok (.iload 4, 2) := by decide +kernel
theorem dX8_carryOut_142 : decode cX8_carryOut 142 = .ok (.aload_n 1, 1) := by decide +kernel
theorem dX8_carryOut_143 : decode cX8_carryOut 143 = .ok (.getfield 124, 3) := by decide +kernel
theorem dX8_carryOut_146 : decode cX8_carryOut 146 = .ok (.iload 4, 2) := by decide +kernel
theorem dX8_carryOut_148 : decode cX8_carryOut 148 = .ok (.iaload, 1) := by decide +kernel
theorem dX8_carryOut_149 : decode cX8_carryOut 149 = .ok (.invokevirtual 127, 3) := by decide +kernel
theorem dX8_carryOut_152 : decode cX8_carryOut 152 = .ok (.aload_n 0, 1) := by decide +kernel
theorem dX8_carryOut_153 : decode cX8_carryOut 153 = .ok (.aload_n 1, 1) := by decide +kernel
theorem dX8_carryOut_154 : decode cX8_carryOut 154 = .ok (.iload_n 3, 1) := by decide +kernel
theorem dX8_carryOut_155 : decode cX8_carryOut 155 = .ok (.aload_n 1, 1) := by decide +kernel
theorem dX8_carryOut_156 : decode cX8_carryOut 156 = .ok (.getfield 25, 3) := by decide +kernel
theorem dX8_carryOut_159 : decode cX8_carryOut 159 = .ok (.iload_n 3, 1) := by decide +kernel
theorem dX8_carryOut_160 : decode cX8_carryOut 160 = .ok (.iaload, 1) := by decide +kernel
theorem dX8_carryOut_161 : decode cX8_carryOut 161 = .ok (.invokevirtual 131, 3) := by decide +kernel
theorem dX8_carryOut_164 : decode cX8_carryOut 164 = .ok (.ireturn, 1) := by decide +kernel
theorem dX8_passOn_0 : decode cX8_passOn 0 = .ok (.iconst 0, 1) := by decide +kernel
theorem dX8_passOn_1 : decode cX8_passOn 1 = .ok (.istore 4, 2) := by decide +kernel
theorem dX8_passOn_3 : decode cX8_passOn 3 = .ok (.iload 4, 2) := by decide +kernel
theorem dX8_passOn_5 : decode cX8_passOn 5 = .ok (.aload_n 0, 1) := by decide +kernel
theorem dX8_passOn_6 : decode cX8_passOn 6 = .ok (.getfield 15, 3) := by decide +kernel
theorem dX8_passOn_9 : decode cX8_passOn 9 = .ok (.getfield 76, 3) := by decide +kernel
theorem dX8_passOn_12 : decode cX8_passOn 12 = .ok (.if_icmp .ge 34, 3) := by decide +kernel
theorem dX8_passOn_15 : decode cX8_passOn 15 = .ok (.aload_n 1, 1) := by decide +kernel
theorem dX8_passOn_16 : decode cX8_passOn 16 = .ok (.iload_n 3, 1) := by decide +kernel
theorem dX8_passOn_17 : decode cX8_passOn 17 = .ok (.iload 4, 2) := by decide +kernel
theorem dX8_passOn_19 : decode cX8_passOn 19 = .ok (.invokevirtual 106, 3) := by decide +kernel
theorem dX8_passOn_22 : decode cX8_passOn 22 = .ok (.iconst (-1), 1) := by decide +kernel
theorem dX8_passOn_23 : decode cX8_passOn 23 = .ok (.if_icmp .ne 17, 3) := by decide +kernel
theorem dX8_passOn_26 : decode cX8_passOn 26 = .ok (.aload_n 1, 1) := by decide +kernel
theorem dX8_passOn_27 : decode cX8_passOn 27 = .ok (.iload_n 3, 1) := by decide +kernel
theorem dX8_passOn_28 : decode cX8_passOn 28 = .ok (.iload 4, 2) := by decide +kernel
theorem dX8_passOn_30 : decode cX8_passOn 30 = .ok (.aload_n 1, 1) := by decide +kernel
theorem dX8_passOn_31 : decode cX8_passOn 31 = .ok (.iload_n 2, 1) := by decide +kernel
theorem dX8_passOn_32 : decode cX8_passOn 32 = .ok (.iload 4, 2) := by decide +kernel
theorem dX8_passOn_34 : decode cX8_passOn 34 = .ok (.invokevirtual 106, 3) := by decide +kernel
theorem dX8_passOn_37 : decode cX8_passOn 37 = .ok (.invokevirtual 127, 3) := by decide +kernel
theorem dX8_passOn_40 : decode cX8_passOn 40 = .ok (.iinc 4 1, 3) := by decide +kernel
theorem dX8_passOn_43 : decode cX8_passOn 43 = .ok (.goto (-40), 3) := by decide +kernel
theorem dX8_passOn_46 : decode cX8_passOn 46 = .ok (.return_, 1) := by decide +kernel
theorem dX8_nibble_0 : decode cX8_nibble 0 = .ok (.iconst 0, 1) := by decide +kernel
theorem dX8_nibble_1 : decode cX8_nibble 1 = .ok (.istore_n 3, 1) := by decide +kernel
theorem dX8_nibble_2 : decode cX8_nibble 2 = .ok (.iconst 0, 1) := by decide +kernel
theorem dX8_nibble_3 : decode cX8_nibble 3 = .ok (.istore 4, 2) := by decide +kernel
theorem dX8_nibble_5 : decode cX8_nibble 5 = .ok (.iload 4, 2) := by decide +kernel
theorem dX8_nibble_7 : decode cX8_nibble 7 = .ok (.aload_n 0, 1) := by decide +kernel
theorem dX8_nibble_8 : decode cX8_nibble 8 = .ok (.getfield 15, 3) := by decide +kernel
theorem dX8_nibble_11 : decode cX8_nibble 11 = .ok (.getfield 76, 3) := by decide +kernel
theorem dX8_nibble_14 : decode cX8_nibble 14 = .ok (.if_icmp .ge 32, 3) := by decide +kernel
theorem dX8_nibble_17 : decode cX8_nibble 17 = .ok (.aload_n 0, 1) := by decide +kernel
theorem dX8_nibble_18 : decode cX8_nibble 18 = .ok (.getfield 15, 3) := by decide +kernel
theorem dX8_nibble_21 : decode cX8_nibble 21 = .ok (.iload 4, 2) := by decide +kernel
theorem dX8_nibble_23 : decode cX8_nibble 23 = .ok (.invokevirtual 30, 3) := by decide +kernel
theorem dX8_nibble_26 : decode cX8_nibble 26 = .ok (.iload_n 2, 1) := by decide +kernel
theorem dX8_nibble_27 : decode cX8_nibble 27 = .ok (.if_icmp .ne 13, 3) := by decide +kernel
theorem dX8_nibble_30 : decode cX8_nibble 30 = .ok (.iload_n 3, 1) := by decide +kernel
theorem dX8_nibble_31 : decode cX8_nibble 31 = .ok (.aload_n 1, 1) := by decide +kernel
theorem dX8_nibble_32 : decode cX8_nibble 32 = .ok (.iload 4, 2) := by decide +kernel
theorem dX8_nibble_34 : decode cX8_nibble 34 = .ok (.iconst 3, 1) := by decide +kernel
theorem dX8_nibble_35 : decode cX8_nibble 35 = .ok (.invokevirtual 83, 3) := by decide +kernel
theorem dX8_nibble_38 : decode cX8_nibble 38 = .ok (.iadd, 1) := by decide +kernel
theorem dX8_nibble_39 : decode cX8_nibble 39 = .ok (.istore_n 3, 1) := by decide +kernel
theorem dX8_nibble_40 : decode cX8_nibble 40 = .ok (.iinc 4 1, 3) := by decide +kernel
theorem dX8_nibble_43 : decode cX8_nibble 43 = .ok (.goto (-38), 3) := by decide +kernel
theorem dX8_nibble_46 : decode cX8_nibble 46 = .ok (.iload_n 3, 1) := by decide +kernel
theorem dX8_nibble_47 : decode cX8_nibble 47 = .ok (.ireturn, 1) := by decide +kernel
theorem dX8_fallNight_0 : decode cX8_fallNight 0 = .ok (.aload_n 1, 1) := by decide +kernel
theorem dX8_fallNight_1 : decode cX8_fallNight 1 = .ok (.dup, 1) := by decide +kernel
theorem dX8_fallNight_2 : decode cX8_fallNight 2 = .ok (.getfield 55, 3) := by decide +kernel
theorem dX8_fallNight_5 : decode cX8_fallNight 5 = .ok (.iconst 1, 1) := by decide +kernel
theorem dX8_fallNight_6 : decode cX8_fallNight 6 = .ok (.iadd, 1) := by decide +kernel
theorem dX8_fallNight_7 : decode cX8_fallNight 7 = .ok (.putfield 55, 3) := by decide +kernel
theorem dX8_fallNight_10 : decode cX8_fallNight 10 = .ok (.aload_n 1, 1) := by decide +kernel
theorem dX8_fallNight_11 : decode cX8_fallNight 11 = .ok (.iconst 0, 1) := by decide +kernel
theorem dX8_fallNight_12 : decode cX8_fallNight 12 = .ok (.aload_n 1, 1) := by decide +kernel
theorem dX8_fallNight_13 : decode cX8_fallNight 13 = .ok (.getfield 45, 3) := by decide +kernel
theorem dX8_fallNight_16 : decode cX8_fallNight 16 = .ok (.aload_n 0, 1) := by decide +kernel
theorem dX8_fallNight_17 : decode cX8_fallNight 17 = .ok (.getfield 15, 3) := by decide +kernel
theorem dX8_fallNight_20 : decode cX8_fallNight 20 = .ok (.invokevirtual 134, 3) := by decide +kernel
theorem dX8_fallNight_23 : decode cX8_fallNight 23 = .ok (.isub, 1) := by decide +kernel
theorem dX8_fallNight_24 : decode cX8_fallNight 24 = .ok (.invokestatic 69, 3) := by decide +kernel
theorem dX8_fallNight_27 : decode cX8_fallNight 27 = .ok (.putfield 45, 3) := by decide +kernel
theorem dX8_fallNight_30 : decode cX8_fallNight 30 = .ok (.aload_n 1, 1) := by decide +kernel
theorem dX8_fallNight_31 : decode cX8_fallNight 31 = .ok (.iconst 0, 1) := by decide +kernel
theorem dX8_fallNight_32 : decode cX8_fallNight 32 = .ok (.putfield 117, 3) := by decide +kernel
theorem dX8_fallNight_35 : decode cX8_fallNight 35 = .ok (.aload_n 1, 1) := by decide +kernel
theorem dX8_fallNight_36 : decode cX8_fallNight 36 = .ok (.getfield 45, 3) := by decide +kernel
theorem dX8_fallNight_39 : decode cX8_fallNight 39 = .ok (.ifCond .le 19, 3) := by decide +kernel
theorem dX8_fallNight_42 : decode cX8_fallNight 42 = .ok (.aload_n 1, 1) := by decide +kernel
theorem dX8_fallNight_43 : decode cX8_fallNight 43 = .ok (.getfield 55, 3) := by decide +kernel
theorem dX8_fallNight_46 : decode cX8_fallNight 46 = .ok (.aload_n 0, 1) := by decide +kernel
theorem dX8_fallNight_47 : decode cX8_fallNight 47 = .ok (.getfield 15, 3) := by decide +kernel
theorem dX8_fallNight_50 : decode cX8_fallNight 50 = .ok (.invokevirtual 138, 3) := by decide +kernel
theorem dX8_fallNight_53 : decode cX8_fallNight 53 = .ok (.if_icmp .ge 5, 3) := by decide +kernel
theorem dX8_fallNight_56 : decode cX8_fallNight 56 = .ok (.iconst 0, 1) := by decide +kernel
theorem dX8_fallNight_57 : decode cX8_fallNight 57 = .ok (.ireturn, 1) := by decide +kernel
theorem dX8_fallNight_58 : decode cX8_fallNight 58 = .ok (.iconst 0, 1) := by decide +kernel
theorem dX8_fallNight_59 : decode cX8_fallNight 59 = .ok (.istore_n 2, 1) := by decide +kernel
theorem dX8_fallNight_60 : decode cX8_fallNight 60 = .ok (.iconst 0, 1) := by decide +kernel
theorem dX8_fallNight_61 : decode cX8_fallNight 61 = .ok (.istore_n 3, 1) := by decide +kernel
theorem dX8_fallNight_62 : decode cX8_fallNight 62 = .ok (.iload_n 3, 1) := by decide +kernel
theorem dX8_fallNight_63 : decode cX8_fallNight 63 = .ok (.aload_n 0, 1) := by decide +kernel
theorem dX8_fallNight_64 : decode cX8_fallNight 64 = .ok (.getfield 15, 3) := by decide +kernel
theorem dX8_fallNight_67 : decode cX8_fallNight 67 = .ok (.getfield 76, 3) := by decide +kernel
theorem dX8_fallNight_70 : decode cX8_fallNight 70 = .ok (.if_icmp .ge 18, 3) := by decide +kernel
theorem dX8_fallNight_73 : decode cX8_fallNight 73 = .ok (.iload_n 2, 1) := by decide +kernel
theorem dX8_fallNight_74 : decode cX8_fallNight 74 = .ok (.aload_n 1, 1) := by decide +kernel
theorem dX8_fallNight_75 : decode cX8_fallNight 75 = .ok (.iload_n 3, 1) := by decide +kernel
theorem dX8_fallNight_76 : decode cX8_fallNight 76 = .ok (.iconst 1, 1) := by decide +kernel
theorem dX8_fallNight_77 : decode cX8_fallNight 77 = .ok (.invokevirtual 83, 3) := by decide +kernel
theorem dX8_fallNight_80 : decode cX8_fallNight 80 = .ok (.iadd, 1) := by decide +kernel
theorem dX8_fallNight_81 : decode cX8_fallNight 81 = .ok (.istore_n 2, 1) := by decide +kernel
theorem dX8_fallNight_82 : decode cX8_fallNight 82 = .ok (.iinc 3 1, 3) := by decide +kernel
theorem dX8_fallNight_85 : decode cX8_fallNight 85 = .ok (.goto (-23), 3) := by decide +kernel
theorem dX8_fallNight_88 : decode cX8_fallNight 88 = .ok (.iload_n 2, 1) := by decide +kernel
theorem dX8_fallNight_89 : decode cX8_fallNight 89 = .ok (.ireturn, 1) := by decide +kernel
theorem dX8_pagesThere_0 : decode cX8_pagesThere 0 = .ok (.iconst 0, 1) := by decide +kernel
theorem dX8_pagesThere_1 : decode cX8_pagesThere 1 = .ok (.istore_n 2, 1) := by decide +kernel
theorem dX8_pagesThere_2 : decode cX8_pagesThere 2 = .ok (.iconst 0, 1) := by decide +kernel
theorem dX8_pagesThere_3 : decode cX8_pagesThere 3 = .ok (.istore_n 3, 1) := by decide +kernel
theorem dX8_pagesThere_4 : decode cX8_pagesThere 4 = .ok (.iload_n 3, 1) := by decide +kernel
theorem dX8_pagesThere_5 : decode cX8_pagesThere 5 = .ok (.aload_n 0, 1) := by decide +kernel
theorem dX8_pagesThere_6 : decode cX8_pagesThere 6 = .ok (.getfield 15, 3) := by decide +kernel
theorem dX8_pagesThere_9 : decode cX8_pagesThere 9 = .ok (.getfield 76, 3) := by decide +kernel
theorem dX8_pagesThere_12 : decode cX8_pagesThere 12 = .ok (.if_icmp .ge 24, 3) := by decide +kernel
theorem dX8_pagesThere_15 : decode cX8_pagesThere 15 = .ok (.aload_n 1, 1) := by decide +kernel
theorem dX8_pagesThere_16 : decode cX8_pagesThere 16 = .ok (.getfield 52, 3) := by decide +kernel
theorem dX8_pagesThere_19 : decode cX8_pagesThere 19 = .ok (.iload_n 3, 1) := by decide +kernel
theorem dX8_pagesThere_20 : decode cX8_pagesThere 20 = .ok (.iaload, 1) := by decide +kernel
theorem dX8_pagesThere_21 : decode cX8_pagesThere 21 = .ok (.ifCond .le 9, 3) := by decide +kernel
theorem dX8_pagesThere_24 : decode cX8_pagesThere 24 = .ok (.iload_n 2, 1) := by decide +kernel
theorem dX8_pagesThere_25 : decode cX8_pagesThere 25 = .ok (.iconst 1, 1) := by decide +kernel
theorem dX8_pagesThere_26 : decode cX8_pagesThere 26 = .ok (.iload_n 3, 1) := by decide +kernel
theorem dX8_pagesThere_27 : decode cX8_pagesThere 27 = .ok (.ishl, 1) := by decide +kernel
theorem dX8_pagesThere_28 : decode cX8_pagesThere 28 = .ok (.ior, 1) := by decide +kernel
theorem dX8_pagesThere_29 : decode cX8_pagesThere 29 = .ok (.istore_n 2, 1) := by decide +kernel
theorem dX8_pagesThere_30 : decode cX8_pagesThere 30 = .ok (.iinc 3 1, 3) := by decide +kernel
theorem dX8_pagesThere_33 : decode cX8_pagesThere 33 = .ok (.goto (-29), 3) := by decide +kernel
theorem dX8_pagesThere_36 : decode cX8_pagesThere 36 = .ok (.iload_n 2, 1) := by decide +kernel
theorem dX8_pagesThere_37 : decode cX8_pagesThere 37 = .ok (.ireturn, 1) := by decide +kernel
theorem dX8_pagesKnown_0 : decode cX8_pagesKnown 0 = .ok (.iconst 0, 1) := by decide +kernel
theorem dX8_pagesKnown_1 : decode cX8_pagesKnown 1 = .ok (.istore_n 2, 1) := by decide +kernel
theorem dX8_pagesKnown_2 : decode cX8_pagesKnown 2 = .ok (.iconst 0, 1) := by decide +kernel
theorem dX8_pagesKnown_3 : decode cX8_pagesKnown 3 = .ok (.istore_n 3, 1) := by decide +kernel
theorem dX8_pagesKnown_4 : decode cX8_pagesKnown 4 = .ok (.iload_n 3, 1) := by decide +kernel
theorem dX8_pagesKnown_5 : decode cX8_pagesKnown 5 = .ok (.aload_n 0, 1) := by decide +kernel
theorem dX8_pagesKnown_6 : decode cX8_pagesKnown 6 = .ok (.getfield 15, 3) := by decide +kernel
theorem dX8_pagesKnown_9 : decode cX8_pagesKnown 9 = .ok (.getfield 19, 3) := by decide +kernel
theorem dX8_pagesKnown_12 : decode cX8_pagesKnown 12 = .ok (.if_icmp .ge 17, 3) := by decide +kernel
theorem dX8_pagesKnown_15 : decode cX8_pagesKnown 15 = .ok (.iload_n 2, 1) := by decide +kernel
theorem dX8_pagesKnown_16 : decode cX8_pagesKnown 16 = .ok (.aload_n 1, 1) := by decide +kernel
theorem dX8_pagesKnown_17 : decode cX8_pagesKnown 17 = .ok (.iload_n 3, 1) := by decide +kernel
theorem dX8_pagesKnown_18 : decode cX8_pagesKnown 18 = .ok (.invokevirtual 141, 3) := by decide +kernel
theorem dX8_pagesKnown_21 : decode cX8_pagesKnown 21 = .ok (.ior, 1) := by decide +kernel
theorem dX8_pagesKnown_22 : decode cX8_pagesKnown 22 = .ok (.istore_n 2, 1) := by decide +kernel
theorem dX8_pagesKnown_23 : decode cX8_pagesKnown 23 = .ok (.iinc 3 1, 3) := by decide +kernel
theorem dX8_pagesKnown_26 : decode cX8_pagesKnown 26 = .ok (.goto (-22), 3) := by decide +kernel
theorem dX8_pagesKnown_29 : decode cX8_pagesKnown 29 = .ok (.iload_n 2, 1) := by decide +kernel
theorem dX8_pagesKnown_30 : decode cX8_pagesKnown 30 = .ok (.ireturn, 1) := by decide +kernel
theorem dX8_depthInAll_0 : decode cX8_depthInAll 0 = .ok (.iconst 0, 1) := by decide +kernel
theorem dX8_depthInAll_1 : decode cX8_depthInAll 1 = .ok (.istore_n 2, 1) := by decide +kernel
theorem dX8_depthInAll_2 : decode cX8_depthInAll 2 = .ok (.iconst 0, 1) := by decide +kernel
theorem dX8_depthInAll_3 : decode cX8_depthInAll 3 = .ok (.istore_n 3, 1) := by decide +kernel
theorem dX8_depthInAll_4 : decode cX8_depthInAll 4 = .ok (.iload_n 3, 1) := by decide +kernel
theorem dX8_depthInAll_5 : decode cX8_depthInAll 5 = .ok (.aload_n 0, 1) := by decide +kernel
theorem dX8_depthInAll_6 : decode cX8_depthInAll 6 = .ok (.getfield 15, 3) := by decide +kernel
theorem dX8_depthInAll_9 : decode cX8_depthInAll 9 = .ok (.getfield 76, 3) := by decide +kernel
theorem dX8_depthInAll_12 : decode cX8_depthInAll 12 = .ok (.if_icmp .ge 18, 3) := by decide +kernel
theorem dX8_depthInAll_15 : decode cX8_depthInAll 15 = .ok (.iload_n 2, 1) := by decide +kernel
theorem dX8_depthInAll_16 : decode cX8_depthInAll 16 = .ok (.aload_n 1, 1) := by decide +kernel
theorem dX8_depthInAll_17 : decode cX8_depthInAll 17 = .ok (.getfield 52, 3) := by decide +kernel
theorem dX8_depthInAll_20 : decode cX8_depthInAll 20 = .ok (.iload_n 3, 1) := by decide +kernel
theorem dX8_depthInAll_21 : decode cX8_depthInAll 21 = .ok (.iaload, 1) := by decide +kernel
theorem dX8_depthInAll_22 : decode cX8_depthInAll 22 = .ok (.iadd, 1) := by decide +kernel
theorem dX8_depthInAll_23 : decode cX8_depthInAll 23 = .ok (.istore_n 2, 1) := by decide +kernel
theorem dX8_depthInAll_24 : decode cX8_depthInAll 24 = .ok (.iinc 3 1, 3) := by decide +kernel
theorem dX8_depthInAll_27 : decode cX8_depthInAll 27 = .ok (.goto (-23), 3) := by decide +kernel
theorem dX8_depthInAll_30 : decode cX8_depthInAll 30 = .ok (.iload_n 2, 1) := by decide +kernel
theorem dX8_depthInAll_31 : decode cX8_depthInAll 31 = .ok (.ireturn, 1) := by decide +kernel
