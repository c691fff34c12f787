theorem dX10_text_442 : decode cX10_text 442 = .ok (.putfield 300, 3) := by decide +kernel
theorem dX10_text_445 : decode cX10_text 445 = .ok (.aload_n 0, 1) := by decide +kernel
theorem dX10_text_446 : decode cX10_text 446 = .ok (.iconst 0, 1) := by decide +kernel
theorem dX10_text_447 : decode cX10_text 447 = .ok (.putfield 303, 3) := by decide +kernel
theorem dX10_text_450 : decode cX10_text 450 = .ok (.aload_n 0, 1) := by decide +kernel
theorem dX10_text_451 : decode cX10_text 451 = .ok (.getfield 291, 3) := by decide +kernel
theorem dX10_text_454 : decode cX10_text 454 = .ok (.ireturn, 1) := by decide +kernel
theorem dX10_copy_0 : decode cX10_copy 0 = .ok (.iconst 0, 1) := by decide +kernel
theorem dX10_copy_1 : decode cX10_copy 1 = .ok (.istore_n 2, 1) := by decide +kernel
theorem dX10_copy_2 : decode cX10_copy 2 = .ok (.iload_n 2, 1) := by decide +kernel
theorem dX10_copy_3 : decode cX10_copy 3 = .ok (.sipush 351, 3) := by decide +kernel
theorem dX10_copy_6 : decode cX10_copy 6 = .ok (.if_icmp .ge 15, 3) := by decide +kernel
theorem dX10_copy_9 : decode cX10_copy 9 = .ok (.aload_n 1, 1) := by decide +kernel
theorem dX10_copy_10 : decode cX10_copy 10 = .ok (.iload_n 2, 1) := by decide +kernel
theorem dX10_copy_11 : decode cX10_copy 11 = .ok (.aload_n 0, 1) := by decide +kernel
theorem dX10_copy_12 : decode cX10_copy 12 = .ok (.iload_n 2, 1) := by decide +kernel
theorem dX10_copy_13 : decode cX10_copy 13 = .ok (.iaload, 1) := by decide +kernel
theorem dX10_copy_14 : decode cX10_copy 14 = .ok (.iastore, 1) := by decide +kernel
theorem dX10_copy_15 : decode cX10_copy 15 = .ok (.iinc 2 1, 3) := by decide +kernel
theorem dX10_copy_18 : decode cX10_copy 18 = .ok (.goto (-16), 3) := by decide +kernel
theorem dX10_copy_21 : decode cX10_copy 21 = .ok (.return_, 1) := by decide +kernel
theorem dX10_isCell_0 : decode cX10_isCell 0 = .ok (.iload_n 1, 1) := by decide +kernel
theorem dX10_isCell_1 : decode cX10_isCell 1 = .ok (.ifCond .lt 15, 3) := by decide +kernel
theorem dX10_isCell_4 : decode cX10_isCell 4 = .ok (.iload_n 1, 1) := by decide +kernel
theorem dX10_isCell_5 : decode cX10_isCell 5 = .ok (.aload_n 0, 1) := by decide +kernel
theorem dX10_isCell_6 : decode cX10_isCell 6 = .ok (.getfield 297, 3) := by decide +kernel
theorem dX10_isCell_9 : decode cX10_isCell 9 = .ok (.if_icmp .ge 7, 3) := by decide +kernel
theorem dX10_isCell_12 : decode cX10_isCell 12 = .ok (.iconst 1, 1) := by decide +kernel
theorem dX10_isCell_13 : decode cX10_isCell 13 = .ok (.goto 4, 3) := by decide +kernel
theorem dX10_isCell_16 : decode cX10_isCell 16 = .ok (.iconst 0, 1) := by decide +kernel
theorem dX10_isCell_17 : decode cX10_isCell 17 = .ok (.ireturn, 1) := by decide +kernel
theorem dX10_isPage_0 : decode cX10_isPage 0 = .ok (.iload_n 1, 1) := by decide +kernel
theorem dX10_isPage_1 : decode cX10_isPage 1 = .ok (.ifCond .lt 15, 3) := by decide +kernel
theorem dX10_isPage_4 : decode cX10_isPage 4 = .ok (.iload_n 1, 1) := by decide +kernel
theorem dX10_isPage_5 : decode cX10_isPage 5 = .ok (.aload_n 0, 1) := by decide +kernel
theorem dX10_isPage_6 : decode cX10_isPage 6 = .ok (.getfield 291, 3) := by decide +kernel
theorem dX10_isPage_9 : decode cX10_isPage 9 = .ok (.if_icmp .ge 7, 3) := by decide +kernel
theorem dX10_isPage_12 : decode cX10_isPage 12 = .ok (.iconst 1, 1) := by decide +kernel
theorem dX10_isPage_13 : decode cX10_isPage 13 = .ok (.goto 4, 3) := by decide +kernel
theorem dX10_isPage_16 : decode cX10_isPage 16 = .ok (.iconst 0, 1) := by decide +kernel
theorem dX10_isPage_17 : decode cX10_isPage 17 = .ok (.ireturn, 1) := by decide +kernel
theorem dX10_isReader_0 : decode cX10_isReader 0 = .ok (.iload_n 1, 1) := by decide +kernel
theorem dX10_isReader_1 : decode cX10_isReader 1 = .ok (.ifCond .lt 15, 3) := by decide +kernel
theorem dX10_isReader_4 : decode cX10_isReader 4 = .ok (.iload_n 1, 1) := by decide +kernel
theorem dX10_isReader_5 : decode cX10_isReader 5 = .ok (.aload_n 0, 1) := by decide +kernel
theorem dX10_isReader_6 : decode cX10_isReader 6 = .ok (.getfield 294, 3) := by decide +kernel
theorem dX10_isReader_9 : decode cX10_isReader 9 = .ok (.if_icmp .ge 7, 3) := by decide +kernel
theorem dX10_isReader_12 : decode cX10_isReader 12 = .ok (.iconst 1, 1) := by decide +kernel
theorem dX10_isReader_13 : decode cX10_isReader 13 = .ok (.goto 4, 3) := by decide +kernel
theorem dX10_isReader_16 : decode cX10_isReader 16 = .ok (.iconst 0, 1) := by decide +kernel
theorem dX10_isReader_17 : decode cX10_isReader 17 = .ok (.ireturn, 1) := by decide +kernel
theorem dX10_apart_0 : decode cX10_apart 0 = .ok (.iload_n 1, 1) := by decide +kernel
theorem dX10_apart_1 : decode cX10_apart 1 = .ok (.aload_n 0, 1) := by decide +kernel
theorem dX10_apart_2 : decode cX10_apart 2 = .ok (.getfield 37, 3) := by decide +kernel
theorem dX10_apart_5 : decode cX10_apart 5 = .ok (.iconst 0, 1) := by decide +kernel
theorem dX10_apart_6 : decode cX10_apart 6 = .ok (.iaload, 1) := by decide +kernel
theorem dX10_apart_7 : decode cX10_apart 7 = .ok (.irem, 1) := by decide +kernel
theorem dX10_apart_8 : decode cX10_apart 8 = .ok (.iload_n 2, 1) := by decide +kernel
theorem dX10_apart_9 : decode cX10_apart 9 = .ok (.aload_n 0, 1) := by decide +kernel
theorem dX10_apart_10 : decode cX10_apart 10 = .ok (.getfield 37, 3) := by decide +kernel
theorem dX10_apart_13 : decode cX10_apart 13 = .ok (.iconst 0, 1) := by decide +kernel
theorem dX10_apart_14 : decode cX10_apart 14 = .ok (.iaload, 1) := by decide +kernel
theorem dX10_apart_15 : decode cX10_apart 15 = .ok (.irem, 1) := by decide +kernel
theorem dX10_apart_16 : decode cX10_apart 16 = .ok (.isub, 1) := by decide +kernel
theorem dX10_apart_17 : decode cX10_apart 17 = .ok (.invokestatic 306, 3) := by decide +kernel
theorem dX10_apart_20 : decode cX10_apart 20 = .ok (.iload_n 1, 1) := by decide +kernel
theorem dX10_apart_21 : decode cX10_apart 21 = .ok (.aload_n 0, 1) := by decide +kernel
theorem dX10_apart_22 : decode cX10_apart 22 = .ok (.getfield 37, 3) := by decide +kernel
theorem dX10_apart_25 : decode cX10_apart 25 = .ok (.iconst 0, 1) := by decide +kernel
theorem dX10_apart_26 : decode cX10_apart 26 = .ok (.iaload, 1) := by decide +kernel
theorem dX10_apart_27 : decode cX10_apart 27 = .ok (.idiv, 1) := by decide +kernel
theorem dX10_apart_28 : decode cX10_apart 28 = .ok (.iload_n 2, 1) := by decide +kernel
theorem dX10_apart_29 : decode cX10_apart 29 = .ok (.aload_n 0, 1) := by decide +kernel
theorem dX10_apart_30 : decode cX10_apart 30 = .ok (.getfield 37, 3) := by decide +kernel
theorem dX10_apart_33 : decode cX10_apart 33 = .ok (.iconst 0, 1) := by decide +kernel
theorem dX10_apart_34 : decode cX10_apart 34 = .ok (.iaload, 1) := by decide +kernel
theorem dX10_apart_35 : decode cX10_apart 35 = .ok (.idiv, 1) := by decide +kernel
theorem dX10_apart_36 : decode cX10_apart 36 = .ok (.isub, 1) := by decide +kernel
theorem dX10_apart_37 : decode cX10_apart 37 = .ok (.invokestatic 306, 3) := by decide +kernel
theorem dX10_apart_40 : decode cX10_apart 40 = .ok (.iadd, 1) := by decide +kernel
theorem dX10_apart_41 : decode cX10_apart 41 = .ok (.ireturn, 1) := by decide +kernel
theorem dX10_cellOf_0 : decode cX10_cellOf 0 = .ok (.aload_n 0, 1) := by decide +kernel
theorem dX10_cellOf_1 : decode cX10_cellOf 1 = .ok (.bipush 24, 2) := by decide +kernel
theorem dX10_cellOf_3 : decode cX10_cellOf 3 = .ok (.bipush 14, 2) := by decide +kernel
theorem dX10_cellOf_5 : decode cX10_cellOf 5 = .ok (.iload_n 1, 1) := by decide +kernel
theorem dX10_cellOf_6 : decode cX10_cellOf 6 = .ok (.imul, 1) := by decide +kernel
theorem dX10_cellOf_7 : decode cX10_cellOf 7 = .ok (.iadd, 1) := by decide +kernel
theorem dX10_cellOf_8 : decode cX10_cellOf 8 = .ok (.iaload, 1) := by decide +kernel
theorem dX10_cellOf_9 : decode cX10_cellOf 9 = .ok (.ireturn, 1) := by decide +kernel
theorem dX10_knows_0 : decode cX10_knows 0 = .ok (.aload_n 0, 1) := by decide +kernel
theorem dX10_knows_1 : decode cX10_knows 1 = .ok (.bipush 24, 2) := by decide +kernel
theorem dX10_knows_3 : decode cX10_knows 3 = .ok (.bipush 14, 2) := by decide +kernel
theorem dX10_knows_5 : decode cX10_knows 5 = .ok (.iload_n 1, 1) := by decide +kernel
theorem dX10_knows_6 : decode cX10_knows 6 = .ok (.imul, 1) := by decide +kernel
theorem dX10_knows_7 : decode cX10_knows 7 = .ok (.iadd, 1) := by decide +kernel
theorem dX10_knows_8 : decode cX10_knows 8 = .ok (.iconst 2, 1) := by decide +kernel
theorem dX10_knows_9 : decode cX10_knows 9 = .ok (.iadd, 1) := by decide +kernel
theorem dX10_knows_10 : decode cX10_knows 10 = .ok (.iload_n 2, 1) := by decide +kernel
theorem dX10_knows_11 : decode cX10_knows 11 = .ok (.iadd, 1) := by decide +kernel
theorem dX10_knows_12 : decode cX10_knows 12 = .ok (.iaload, 1) := by decide +kernel
theorem dX10_knows_13 : decode cX10_knows 13 = .ok (.ifCond .le 7, 3) := by decide +kernel
theorem dX10_knows_16 : decode cX10_knows 16 = .ok (.iconst 1, 1) := by decide +kernel
theorem dX10_knows_17 : decode cX10_knows 17 = .ok (.goto 4, 3) := by decide +kernel
theorem dX10_knows_20 : decode cX10_knows 20 = .ok (.iconst 0, 1) := by decide +kernel
theorem dX10_knows_21 : decode cX10_knows 21 = .ok (.ireturn, 1) := by decide +kernel
theorem dX10_recalls_0 : decode cX10_recalls 0 = .ok (.aload_n 0, 1) := by decide +kernel
theorem dX10_recalls_1 : decode cX10_recalls 1 = .ok (.bipush 24, 2) := by decide +kernel
theorem dX10_recalls_3 : decode cX10_recalls 3 = .ok (.bipush 14, 2) := by decide +kernel
theorem dX10_recalls_5 : decode cX10_recalls 5 = .ok (.iload_n 1, 1) := by decide +kernel
theorem dX10_recalls_6 : decode cX10_recalls 6 = .ok (.imul, 1) := by decide +kernel
theorem dX10_recalls_7 : decode cX10_recalls 7 = .ok (.iadd, 1) := by decide +kernel
theorem dX10_recalls_8 : decode cX10_recalls 8 = .ok (.iconst 2, 1) := by decide +kernel
theorem dX10_recalls_9 : decode cX10_recalls 9 = .ok (.iadd, 1) := by decide +kernel
theorem dX10_recalls_10 : decode cX10_recalls 10 = .ok (.iload_n 2, 1) := by decide +kernel
theorem dX10_recalls_11 : decode cX10_recalls 11 = .ok (.iadd, 1) := by decide +kernel
theorem dX10_recalls_12 : decode cX10_recalls 12 = .ok (.iaload, 1) := by decide +kernel
theorem dX10_recalls_13 : decode cX10_recalls 13 = .ok (.iconst 1, 1) := by decide +kernel
theorem dX10_recalls_14 : decode cX10_recalls 14 = .ok (.isub, 1) := by decide +kernel
theorem dX10_recalls_15 : decode cX10_recalls 15 = .ok (.ireturn, 1) := by decide +kernel
theorem dX10_learns_0 : decode cX10_learns 0 = .ok (.aload_n 0, 1) := by decide +kernel
theorem dX10_learns_1 : decode cX10_learns 1 = .ok (.bipush 24, 2) := by decide +kernel
theorem dX10_learns_3 : decode cX10_learns 3 = .ok (.bipush 14, 2) := by decide +kernel
theorem dX10_learns_5 : decode cX10_learns 5 = .ok (.iload_n 1, 1) := by decide +kernel
theorem dX10_learns_6 : decode cX10_learns 6 = .ok (.imul, 1) := by decide +kernel
theorem dX10_learns_7 : decode cX10_learns 7 = .ok (.iadd, 1) := by decide +kernel
theorem dX10_learns_8 : decode cX10_learns 8 = .ok (.iconst 2, 1) := by decide +kernel
theorem dX10_learns_9 : decode cX10_learns 9 = .ok (.iadd, 1) := by decide +kernel
theorem dX10_learns_10 : decode cX10_learns 10 = .ok (.iload_n 2, 1) := by decide +kernel
theorem dX10_learns_11 : decode cX10_learns 11 = .ok (.iadd, 1) := by decide +kernel
theorem dX10_learns_12 : decode cX10_learns 12 = .ok (.iload_n 3, 1) := by decide +kernel
theorem dX10_learns_13 : decode cX10_learns 13 = .ok (.iconst 1, 1) := by decide +kernel
theorem dX10_learns_14 : decode cX10_learns 14 = .ok (.iadd, 1) := by decide +kernel
theorem dX10_learns_15 : decode cX10_learns 15 = .ok (.iastore, 1) := by decide +kernel
theorem dX10_learns_16 : decode cX10_learns 16 = .ok (.return_, 1) := by decide +kernel
theorem dX10_canDo_0 : decode cX10_canDo 0 = .ok (.aload_n 0, 1) := by decide +kernel
theorem dX10_canDo_1 : decode cX10_canDo 1 = .ok (.iload_n 2, 1) := by decide +kernel
theorem dX10_canDo_2 : decode cX10_canDo 2 = .ok (.invokevirtual 309, 3) := by decide +kernel
theorem dX10_canDo_5 : decode cX10_canDo 5 = .ok (.ifCond .eq 21, 3) := by decide +kernel
theorem dX10_canDo_8 : decode cX10_canDo 8 = .ok (.aload_n 1, 1) := by decide +kernel
theorem dX10_canDo_9 : decode cX10_canDo 9 = .ok (.bipush 24, 2) := by decide +kernel
theorem dX10_canDo_11 : decode cX10_canDo 11 = .ok (.bipush 14, 2) := by decide +kernel
theorem dX10_canDo_13 : decode cX10_canDo 13 = .ok (.iload_n 2, 1) := by decide +kernel
theorem dX10_canDo_14 : decode cX10_canDo 14 = .ok (.imul, 1) := by decide +kernel
theorem dX10_canDo_15 : decode cX10_canDo 15 = .ok (.iadd, 1) := by decide +kernel
theorem dX10_canDo_16 : decode cX10_canDo 16 = .ok (.iconst 1, 1) := by decide +kernel
theorem dX10_canDo_17 : decode cX10_canDo 17 = .ok (.iadd, 1) := by decide +kernel
theorem dX10_canDo_18 : decode cX10_canDo 18 = .ok (.iaload, 1) := by decide +kernel
theorem dX10_canDo_19 : decode cX10_canDo 19 = .ok (.ifCond .ne 7, 3) := by decide +kernel
theorem dX10_canDo_22 : decode cX10_canDo 22 = .ok (.iconst 1, 1) := by decide +kernel
theorem dX10_canDo_23 : decode cX10_canDo 23 = .ok (.goto 4, 3) := by decide +kernel
theorem dX10_canDo_26 : decode cX10_canDo 26 = .ok (.iconst 0, 1) := by decide +kernel
theorem dX10_canDo_27 : decode cX10_canDo 27 = .ok (.ireturn, 1) := by decide +kernel
theorem dX10_isNear_0 : decode cX10_isNear 0 = .ok (.aload_n 0, 1) := by decide +kernel
theorem dX10_isNear_1 : decode cX10_isNear 1 = .ok (.aload_n 1, 1) := by decide +kernel
theorem dX10_isNear_2 : decode cX10_isNear 2 = .ok (.iload_n 2, 1) := by decide +kernel
theorem dX10_isNear_3 : decode cX10_isNear 3 = .ok (.invokestatic 312, 3) := by decide +kernel
theorem dX10_isNear_6 : decode cX10_isNear 6 = .ok (.iload_n 3, 1) := by decide +kernel
theorem dX10_isNear_7 : decode cX10_isNear 7 = .ok (.invokevirtual 316, 3) := by decide +kernel
theorem dX10_isNear_10 : decode cX10_isNear 10 = .ok (.aload_n 0, 1) := by decide +kernel
theorem dX10_isNear_11 : decode cX10_isNear 11 = .ok (.getfield 49, 3) := by decide +kernel
theorem dX10_isNear_14 : decode cX10_isNear 14 = .ok (.iconst 4, 1) := by decide +kernel
theorem dX10_isNear_15 : decode cX10_isNear 15 = .ok (.iload_n 2, 1) := by decide +kernel
theorem dX10_isNear_16 : decode cX10_isNear 16 = .ok (.imul, 1) := by decide +kernel
theorem dX10_isNear_17 : decode cX10_isNear 17 = .ok (.iconst 2, 1) := by decide +kernel
theorem dX10_isNear_18 : decode cX10_isNear 18 = .ok (.iadd, 1) := by decide +kernel
theorem dX10_isNear_19 : decode cX10_isNear 19 = .ok (.iaload, 1) := by decide +kernel
theorem dX10_isNear_20 : decode cX10_isNear 20 = .ok (.if_icmp .gt 7, 3) := by decide +kernel
theorem dX10_isNear_23 : decode cX10_isNear 23 = .ok (.iconst 1, 1) := by decide +kernel
theorem dX10_isNear_24 : decode cX10_isNear 24 = .ok (.goto 4, 3) := by decide +kernel
theorem dX10_isNear_27 : decode cX10_isNear 27 = .ok (.iconst 0, 1) := by decide +kernel
theorem dX10_isNear_28 : decode cX10_isNear 28 = .ok (.ireturn, 1) := by decide +kernel
theorem dX10_others_0 : decode cX10_others 0 = .ok (.iconst 0, 1) := by decide +kernel
theorem dX10_others_1 : decode cX10_others 1 = .ok (.istore 4, 2) := by decide +kernel
theorem dX10_others_3 : decode cX10_others 3 = .ok (.iconst 0, 1) := by decide +kernel
theorem dX10_others_4 : decode cX10_others 4 = .ok (.istore 5, 2) := by decide +kernel
theorem dX10_others_6 : decode cX10_others 6 = .ok (.iload 5, 2) := by decide +kernel
theorem dX10_others_8 : decode cX10_others 8 = .ok (.aload_n 0, 1) := by decide +kernel
theorem dX10_others_9 : decode cX10_others 9 = .ok (.getfield 294, 3) := by decide +kernel
theorem dX10_others_12 : decode cX10_others 12 = .ok (.if_icmp .ge 35, 3) := by decide +kernel
theorem dX10_others_15 : decode cX10_others 15 = .ok (.iload 4, 2) := by decide +kernel
theorem dX10_others_17 : decode cX10_others 17 = .ok (.iload 5, 2) := by decide +kernel
theorem dX10_others_19 : decode cX10_others 19 = .ok (.iload_n 2, 1) := by decide +kernel
theorem dX10_others_20 : decode cX10_others 20 = .ok (.if_icmp .eq 17, 3) := by decide +kernel
theorem dX10_others_23 : decode cX10_others 23 = .ok (.aload_n 1, 1) := by decide +kernel
theorem dX10_others_24 : decode cX10_others 24 = .ok (.iload 5, 2) := by decide +kernel
theorem dX10_others_26 : decode cX10_others 26 = .ok (.invokestatic 312, 3) := by decide +kernel
theorem dX10_others_29 : decode cX10_others 29 = .ok (.iload_n 3, 1) := by decide +kernel
theorem dX10_others_30 : decode cX10_others 30 = .ok (.if_icmp .ne 7, 3) := by decide +kernel
theorem dX10_others_33 : decode cX10_others 33 = .ok (.iconst 1, 1) := by decide +kernel
theorem dX10_others_34 : decode cX10_others 34 = .ok (.goto 4, 3) := by decide +kernel
theorem dX10_others_37 : decode cX10_others 37 = .ok (.iconst 0, 1) := by decide +kernel
theorem dX10_others_38 : decode cX10_others 38 = .ok (.iadd, 1) := by decide +kernel
theorem dX10_others_39 : decode cX10_others 39 = .ok (.istore 4, 2) := by decide +kernel
theorem dX10_others_41 : decode cX10_others 41 = .ok (.iinc 5 1, 3) := by decide +kernel
theorem dX10_others_44 : decode cX10_others 44 = .ok (.goto (-38), 3) := by decide +kernel
theorem dX10_others_47 : decode cX10_others 47 = .ok (.iload 4, 2) := by decide +kernel
theorem dX10_others_49 : decode cX10_others 49 = .ok (.ireturn, 1) := by decide +kernel
theorem dX10_meltBy_0 : decode cX10_meltBy 0 = .ok (.aload_n 0, 1) := by decide +kernel
theorem dX10_meltBy_1 : decode cX10_meltBy 1 = .ok (.iload 4, 2) := by decide +kernel
theorem dX10_meltBy_3 : decode cX10_meltBy 3 = .ok (.aload_n 0, 1) := by decide +kernel
theorem dX10_meltBy_4 : decode cX10_meltBy 4 = .ok (.getfield 43, 3) := by decide +kernel
theorem dX10_meltBy_7 : decode cX10_meltBy 7 = .ok (.iconst 4, 1) := by decide +kernel
theorem dX10_meltBy_8 : decode cX10_meltBy 8 = .ok (.iload_n 3, 1) := by decide +kernel
theorem dX10_meltBy_9 : decode cX10_meltBy 9 = .ok (.imul, 1) := by decide +kernel
theorem dX10_meltBy_10 : decode cX10_meltBy 10 = .ok (.iaload, 1) := by decide +kernel
theorem dX10_meltBy_11 : decode cX10_meltBy 11 = .ok (.invokevirtual 316, 3) := by decide +kernel
theorem dX10_meltBy_14 : decode cX10_meltBy 14 = .ok (.istore 6, 2) := by decide +kernel
theorem dX10_meltBy_16 : decode cX10_meltBy 16 = .ok (.iload 6, 2) := by decide +kernel
theorem dX10_meltBy_18 : decode cX10_meltBy 18 = .ok (.iconst 1, 1) := by decide +kernel
theorem dX10_meltBy_19 : decode cX10_meltBy 19 = .ok (.if_icmp .le 5, 3) := by decide +kernel
theorem dX10_meltBy_22 : decode cX10_meltBy 22 = .ok (.iconst 0, 1) := by decide +kernel
theorem dX10_meltBy_23 : decode cX10_meltBy 23 = .ok (.ireturn, 1) := by decide +kernel
theorem dX10_meltBy_24 : decode cX10_meltBy 24 = .ok (.aload_n 0, 1) := by decide +kernel
theorem dX10_meltBy_25 : decode cX10_meltBy 25 = .ok (.getfield 49, 3) := by decide +kernel
theorem dX10_meltBy_28 : decode cX10_meltBy 28 = .ok (.iconst 4, 1) := by decide +kernel
theorem dX10_meltBy_29 : decode cX10_meltBy 29 = .ok (.iload_n 2, 1) := by decide +kernel
theorem dX10_meltBy_30 : decode cX10_meltBy 30 = .ok (.imul, 1) := by decide +kernel
theorem dX10_meltBy_31 : decode cX10_meltBy 31 = .ok (.iconst 1, 1) := by decide +kernel
theorem dX10_meltBy_32 : decode cX10_meltBy 32 = .ok (.iadd, 1) := by decide +kernel
theorem dX10_meltBy_33 : decode cX10_meltBy 33 = .ok (.iaload, 1) := by decide +kernel
theorem dX10_meltBy_34 : decode cX10_meltBy 34 = .ok (.istore 7, 2) := by decide +kernel
theorem dX10_meltBy_36 : decode cX10_meltBy 36 = .ok (.iload 7, 2) := by decide +kernel
theorem dX10_meltBy_38 : decode cX10_meltBy 38 = .ok (.aload_n 1, 1) := by decide +kernel
theorem dX10_meltBy_39 : decode cX10_meltBy 39 = .ok (.bipush 108, 2) := by decide +kernel
theorem dX10_meltBy_41 : decode cX10_meltBy 41 = .ok (.iaload, 1) := by decide +kernel
theorem dX10_meltBy_42 : decode cX10_meltBy 42 = .ok (.bipush 20, 2) := by decide +kernel
theorem dX10_meltBy_44 : decode cX10_meltBy 44 = .ok (.idiv, 1) := by decide +kernel
theorem dX10_meltBy_45 : decode cX10_meltBy 45 = .ok (.isub, 1) := by decide +kernel
theorem dX10_meltBy_46 : decode cX10_meltBy 46 = .ok (.iconst 1, 1) := by decide +kernel
theorem dX10_meltBy_47 : decode cX10_meltBy 47 = .ok (.iadd, 1) := by decide +kernel
theorem dX10_meltBy_48 : decode cX10_meltBy 48 = .ok (.iload 6, 2) := by decide +kernel
theorem dX10_meltBy_50 : decode cX10_meltBy 50 = .ok (.isub, 1) := by decide +kernel
theorem dX10_meltBy_51 : decode cX10_meltBy 51 = .ok (.istore 8, 2) := by decide +kernel
theorem dX10_meltBy_53 : decode cX10_meltBy 53 = .ok (.aload_n 0, 1) := by decide +kernel
theorem dX10_meltBy_54 : decode cX10_meltBy 54 = .ok (.getfield 70, 3) := by decide +kernel
theorem dX10_meltBy_57 : decode cX10_meltBy 57 = .ok (.iconst (-1), 1) := by decide +kernel
theorem dX10_meltBy_58 : decode cX10_meltBy 58 = .ok (.if_icmp .eq 70, 3) := by decide +kernel
theorem dX10_meltBy_61 : decode cX10_meltBy 61 = .ok (.aload_n 0, 1) := by decide +kernel
theorem dX10_meltBy_62 : decode cX10_meltBy 62 = .ok (.getfield 20, 3) := by decide +kernel
theorem dX10_meltBy_65 : decode cX10_meltBy 65 = .ok (.bipush 98, 2) := by decide +kernel
theorem dX10_meltBy_67 : decode cX10_meltBy 67 = .ok (.iload 7, 2) := by decide +kernel
theorem dX10_meltBy_69 : decode cX10_meltBy 69 = .ok (.iastore, 1) := by decide +kernel
theorem dX10_meltBy_70 : decode cX10_meltBy 70 = .ok (.aload_n 0, 1) := by decide +kernel
theorem dX10_meltBy_71 : decode cX10_meltBy 71 = .ok (.getfield 20, 3) := by decide +kernel
theorem dX10_meltBy_74 : decode cX10_meltBy 74 = .ok (.bipush 99, 2) := by decide +kernel
theorem dX10_meltBy_76 : decode cX10_meltBy 76 = .ok (.aload_n 1, 1) := by decide +kernel
theorem dX10_meltBy_77 : decode cX10_meltBy 77 = .ok (.bipush 108, 2) := by decide +kernel
theorem dX10_meltBy_79 : decode cX10_meltBy 79 = .ok (.iaload, 1) := by decide +kernel
theorem dX10_meltBy_80 : decode cX10_meltBy 80 = .ok (.iastore, 1) := by decide +kernel
theorem dX10_meltBy_81 : decode cX10_meltBy 81 = .ok (.aload_n 0, 1) := by decide +kernel
theorem dX10_meltBy_82 : decode cX10_meltBy 82 = .ok (.getfield 20, 3) := by decide +kernel
theorem dX10_meltBy_85 : decode cX10_meltBy 85 = .ok (.bipush 100, 2) := by decide +kernel
theorem dX10_meltBy_87 : decode cX10_meltBy 87 = .ok (.aload_n 1, 1) := by decide +kernel
theorem dX10_meltBy_88 : decode cX10_meltBy 88 = .ok (.iconst 2, 1) := by decide +kernel
theorem dX10_meltBy_89 : decode cX10_meltBy 89 = .ok (.iload_n 3, 1) := by decide +kernel
theorem dX10_meltBy_90 : decode cX10_meltBy 90 = .ok (.imul, 1) := by decide +kernel
theorem dX10_meltBy_91 : decode cX10_meltBy 91 = .ok (.iaload, 1) := by decide +kernel
theorem dX10_meltBy_92 : decode cX10_meltBy 92 = .ok (.iastore, 1) := by decide +kernel
theorem dX10_meltBy_93 : decode cX10_meltBy 93 = .ok (.aload_n 0, 1) := by decide +kernel
theorem dX10_meltBy_94 : decode cX10_meltBy 94 = .ok (.getfield 20, 3) := by decide +kernel
theorem dX10_meltBy_97 : decode cX10_meltBy 97 = .ok (.bipush 115, 2) := by decide +kernel
theorem dX10_meltBy_99 : decode cX10_meltBy 99 = .ok (.iload 6, 2) := by decide +kernel
theorem dX10_meltBy_101 : decode cX10_meltBy 101 = .ok (.iastore, 1) := by decide +kernel
theorem dX10_meltBy_102 : decode cX10_meltBy 102 = .ok (.aload_n 0, 1) := by decide +kernel
theorem dX10_meltBy_103 : decode cX10_meltBy 103 = .ok (.getfield 20, 3) := by decide +kernel
theorem dX10_meltBy_106 : decode cX10_meltBy 106 = .ok (.bipush 110, 2) := by decide +kernel
theorem dX10_meltBy_108 : decode cX10_meltBy 108 = .ok (.iload 5, 2) := by decide +kernel
theorem dX10_meltBy_110 : decode cX10_meltBy 110 = .ok (.iastore, 1) := by decide +kernel
theorem dX10_meltBy_111 : decode cX10_meltBy 111 = .ok (.aload_n 0, 1) := by decide +kernel
theorem dX10_meltBy_112 : decode cX10_meltBy 112 = .ok (.getfield 20, 3) := by decide +kernel
theorem dX10_meltBy_115 : decode cX10_meltBy 115 = .ok (.bipush 116, 2) := by decide +kernel
theorem dX10_meltBy_117 : decode cX10_meltBy 117 = .ok (.aload_n 1, 1) := by decide +kernel
theorem dX10_meltBy_118 : decode cX10_meltBy 118 = .ok (.bipush 109, 2) := by decide +kernel
theorem dX10_meltBy_120 : decode cX10_meltBy 120 = .ok (.iaload, 1) := by decide +kernel
theorem dX10_meltBy_121 : decode cX10_meltBy 121 = .ok (.iastore, 1) := by decide +kernel
theorem dX10_meltBy_122 : decode cX10_meltBy 122 = .ok (.aload_n 0, 1) := by decide +kernel
theorem dX10_meltBy_123 : decode cX10_meltBy 123 = .ok (.invokevirtual 319, 3) := by decide +kernel
theorem dX10_meltBy_126 : decode cX10_meltBy 126 = .ok (.istore 8, 2) := by decide +kernel
theorem dX10_meltBy_128 : decode cX10_meltBy 128 = .ok (.iconst 0, 1) := by decide +kernel
theorem dX10_meltBy_129 : decode cX10_meltBy 129 = .ok (.bipush 9, 2) := by decide +kernel
theorem dX10_meltBy_131 : decode cX10_meltBy 131 = .ok (.iload 8, 2) := by decide +kernel
theorem dX10_meltBy_133 : decode cX10_meltBy 133 = .ok (.invokestatic 322, 3) := by decide +kernel
theorem dX10_meltBy_136 : decode cX10_meltBy 136 = .ok (.invokestatic 324, 3) := by decide +kernel
theorem dX10_meltBy_139 : decode cX10_meltBy 139 = .ok (.ireturn, 1) := by decide +kernel
theorem dX10_worthNow_0 : decode cX10_worthNow 0 = .ok (.aload_n 0, 1) := by decide +kernel
theorem dX10_worthNow_1 : decode cX10_worthNow 1 = .ok (.getfield 20, 3) := by decide +kernel
theorem dX10_worthNow_4 : decode cX10_worthNow 4 = .ok (.bipush 116, 2) := by decide +kernel
theorem dX10_worthNow_6 : decode cX10_worthNow 6 = .ok (.iaload, 1) := by decide +kernel
theorem dX10_worthNow_7 : decode cX10_worthNow 7 = .ok (.i2l, 1) := by decide +kernel
theorem dX10_worthNow_8 : decode cX10_worthNow 8 = .ok (.lstore_n 1, 1) := by decide +kernel
theorem dX10_worthNow_9 : decode cX10_worthNow 9 = .ok (.ldc2_w 326, 3) := by decide +kernel
theorem dX10_worthNow_12 : decode cX10_worthNow 12 = .ok (.lload_n 1, 1) := by decide +kernel
theorem dX10_worthNow_13 : decode cX10_worthNow 13 = .ok (.lmul, 1) := by decide +kernel
theorem dX10_worthNow_14 : decode cX10_worthNow 14 = .ok (.aload_n 0, 1) := by decide +kernel
theorem dX10_worthNow_15 : decode cX10_worthNow 15 = .ok (.getfield 20, 3) := by decide +kernel
theorem dX10_worthNow_18 : decode cX10_worthNow 18 = .ok (.bipush 99, 2) := by decide +kernel
theorem dX10_worthNow_20 : decode cX10_worthNow 20 = .ok (.iaload, 1) := by decide +kernel
theorem dX10_worthNow_21 : decode cX10_worthNow 21 = .ok (.i2l, 1) := by decide +kernel
theorem dX10_worthNow_22 : decode cX10_worthNow 22 = .ok (.ladd, 1) := by decide +kernel
theorem dX10_worthNow_23 : decode cX10_worthNow 23 = .ok (.lstore_n 1, 1) := by decide +kernel
theorem dX10_worthNow_24 : decode cX10_worthNow 24 = .ok (.ldc2_w 328, 3) := by decide +kernel
theorem dX10_worthNow_27 : decode cX10_worthNow 27 = .ok (.lload_n 1, 1) := by decide +kernel
theorem dX10_worthNow_28 : decode cX10_worthNow 28 = .ok (.lmul, 1) := by decide +kernel
theorem dX10_worthNow_29 : decode cX10_worthNow 29 = .ok (.aload_n 0, 1) := by decide +kernel
theorem dX10_worthNow_30 : decode cX10_worthNow 30 = .ok (.getfield 20, 3) := by decide +kernel
theorem dX10_worthNow_33 : decode cX10_worthNow 33 = .ok (.bipush 98, 2) := by decide +kernel
theorem dX10_worthNow_35 : decode cX10_worthNow 35 = .ok (.iaload, 1) := by decide +kernel
theorem dX10_worthNow_36 : decode cX10_worthNow 36 = .ok (.i2l, 1) := by decide +kernel
theorem dX10_worthNow_37 : decode cX10_worthNow 37 = .ok (.ladd, 1) := by decide +kernel
theorem dX10_worthNow_38 : decode cX10_worthNow 38 = .ok (.lstore_n 1, 1) := by decide +kernel
theorem dX10_worthNow_39 : decode cX10_worthNow 39 = .ok (.ldc2_w 328, 3) := by decide +kernel
theorem dX10_worthNow_42 : decode cX10_worthNow 42 = .ok (.lload_n 1, 1) := by decide +kernel
theorem dX10_worthNow_43 : decode cX10_worthNow 43 = .ok (.lmul, 1) := by decide +kernel
theorem dX10_worthNow_44 : decode cX10_worthNow 44 = .ok (.aload_n 0, 1) := by decide +kernel
theorem dX10_worthNow_45 : decode cX10_worthNow 45 = .ok (.getfield 20, 3) := by decide +kernel
theorem dX10_worthNow_48 : decode cX10_worthNow 48 = .ok (.bipush 100, 2) := by decide +kernel
theorem dX10_worthNow_50 : decode cX10_worthNow 50 = .ok (.iaload, 1) := by decide +kernel
theorem dX10_worthNow_51 : decode cX10_worthNow 51 = .ok (.i2l, 1) := by decide +kernel
theorem dX10_worthNow_52 : decode cX10_worthNow 52 = .ok (.ladd, 1) := by decide +kernel
theorem dX10_worthNow_53 : decode cX10_worthNow 53 = .ok (.lstore_n 1, 1) := by decide +kernel
theorem dX10_worthNow_54 : decode cX10_worthNow 54 = .ok (.ldc2_w 272, 3) := by decide +kernel
theorem dX10_worthNow_57 : decode cX10_worthNow 57 = .ok (.lload_n 1, 1) := by decide +kernel
theorem dX10_worthNow_58 : decode cX10_worthNow 58 = .ok (.lmul, 1) := by decide +kernel
theorem dX10_worthNow_59 : decode cX10_worthNow 59 = .ok (.aload_n 0, 1) := by decide +kernel
theorem dX10_worthNow_60 : decode cX10_worthNow 60 = .ok (.getfield 20, 3) := by decide +kernel
theorem dX10_worthNow_63 : decode cX10_worthNow 63 = .ok (.bipush 115, 2) := by decide +kernel
theorem dX10_worthNow_65 : decode cX10_worthNow 65 = .ok (.iaload, 1) := by decide +kernel
theorem dX10_worthNow_66 : decode cX10_worthNow 66 = .ok (.i2l, 1) := by decide +kernel
theorem dX10_worthNow_67 : decode cX10_worthNow 67 = .ok (.ladd, 1) := by decide +kernel
theorem dX10_worthNow_68 : decode cX10_worthNow 68 = .ok (.lstore_n 1, 1) := by decide +kernel
theorem dX10_worthNow_69 : decode cX10_worthNow 69 = .ok (.ldc2_w 330, 3) := by decide +kernel
theorem dX10_worthNow_72 : decode cX10_worthNow 72 = .ok (.lload_n 1, 1) := by decide +kernel
theorem dX10_worthNow_73 : decode cX10_worthNow 73 = .ok (.lmul, 1) := by decide +kernel
theorem dX10_worthNow_74 : decode cX10_worthNow 74 = .ok (.aload_n 0, 1) := by decide +kernel
theorem dX10_worthNow_75 : decode cX10_worthNow 75 = .ok (.getfield 20, 3) := by decide +kernel
theorem dX10_worthNow_78 : decode cX10_worthNow 78 = .ok (.bipush 110, 2) := by decide +kernel
theorem dX10_worthNow_80 : decode cX10_worthNow 80 = .ok (.iaload, 1) := by decide +kernel
theorem dX10_worthNow_81 : decode cX10_worthNow 81 = .ok (.i2l, 1) := by decide +kernel
theorem dX10_worthNow_82 : decode cX10_worthNow 82 = .ok (.ladd, 1) := by decide +kernel
theorem dX10_worthNow_83 : decode cX10_worthNow 83 = .ok (.lstore_n 1, 1) := by decide +kernel
theorem dX10_worthNow_84 : decode cX10_worthNow 84 = .ok (.ldc2_w 332, 3) := by decide +kernel
theorem dX10_worthNow_87 : decode cX10_worthNow 87 = .ok (.lload_n 1, 1) := by decide +kernel
theorem dX10_worthNow_88 : decode cX10_worthNow 88 = .ok (.lmul, 1) := by decide +kernel
theorem dX10_worthNow_89 : decode cX10_worthNow 89 = .ok (.aload_n 0, 1) := by decide +kernel
theorem dX10_worthNow_90 : decode cX10_worthNow 90 = .ok (.getfield 70, 3) := by decide +kernel
theorem dX10_worthNow_93 : decode cX10_worthNow 93 = .ok (.i2l, 1) := by decide +kernel
theorem dX10_worthNow_94 : decode cX10_worthNow 94 = .ok (.ladd, 1) := by decide +kernel
theorem dX10_worthNow_95 : decode cX10_worthNow 95 = .ok (.lconst 1, 1) := by decide +kernel
theorem dX10_worthNow_96 : decode cX10_worthNow 96 = .ok (.ladd, 1) := by decide +kernel
theorem dX10_worthNow_97 : decode cX10_worthNow 97 = .ok (.lstore_n 1, 1) := by decide +kernel
theorem dX10_worthNow_98 : decode cX10_worthNow 98 = .ok (.lload_n 1, 1) := by decide +kernel
theorem dX10_worthNow_99 : decode cX10_worthNow 99 = .ok (.ldc2_w 334, 3) := by decide +kernel
theorem dX10_worthNow_102 : decode cX10_worthNow 102 = .ok (.lrem, 1) := by decide +kernel
theorem dX10_worthNow_103 : decode cX10_worthNow 103 = .ok (.l2i, 1) := by decide +kernel
theorem dX10_worthNow_104 : decode cX10_worthNow 104 = .ok (.istore_n 3, 1) := by decide +kernel
theorem dX10_worthNow_105 : decode cX10_worthNow 105 = .ok (.aload_n 0, 1) := by decide +kernel
theorem dX10_worthNow_106 : decode cX10_worthNow 106 = .ok (.getfield 74, 3) := by decide +kernel
theorem dX10_worthNow_109 : decode cX10_worthNow 109 = .ok (.iload_n 3, 1) := by decide +kernel
theorem dX10_worthNow_110 : decode cX10_worthNow 110 = .ok (.laload, 1) := by decide +kernel
theorem dX10_worthNow_111 : decode cX10_worthNow 111 = .ok (.lload_n 1, 1) := by decide +kernel
theorem dX10_worthNow_112 : decode cX10_worthNow 112 = .ok (.lcmp, 1) := by decide +kernel
theorem dX10_worthNow_113 : decode cX10_worthNow 113 = .ok (.ifCond .ne 10, 3) := by decide +kernel
theorem dX10_worthNow_116 : decode cX10_worthNow 116 = .ok (.aload_n 0, 1) := by decide +kernel
theorem dX10_worthNow_117 : decode cX10_worthNow 117 = .ok (.getfield 78, 3) := by decide +kernel
theorem dX10_worthNow_120 : decode cX10_worthNow 120 = .ok (.iload_n 3, 1) := by decide +kernel
theorem dX10_worthNow_121 : decode cX10_worthNow 121 = .ok (.iaload, 1) := by decide +kernel
theorem dX10_worthNow_122 : decode cX10_worthNow 122 = .ok (.ireturn, 1) := by decide +kernel
theorem dX10_worthNow_123 : decode cX10_worthNow 123 = .ok (.aload_n 0, 1) := by decide +kernel
theorem dX10_worthNow_124 : decode cX10_worthNow 124 = .ok (.aload_n 0, 1) := by decide +kernel
theorem dX10_worthNow_125 : decode cX10_worthNow 125 = .ok (.getfield 13, 3) := by decide +kernel
theorem dX10_worthNow_128 : decode cX10_worthNow 128 = .ok (.sipush 240, 3) := by decide +kernel
theorem dX10_worthNow_131 : decode cX10_worthNow 131 = .ok (.aload_n 0, 1) := by decide +kernel
theorem dX10_worthNow_132 : decode cX10_worthNow 132 = .ok (.getfield 70, 3) := by decide +kernel
theorem dX10_worthNow_135 : decode cX10_worthNow 135 = .ok (.imul, 1) := by decide +kernel
theorem dX10_worthNow_136 : decode cX10_worthNow 136 = .ok (.aload_n 0, 1) := by decide +kernel
theorem dX10_worthNow_137 : decode cX10_worthNow 137 = .ok (.getfield 16, 3) := by decide +kernel
theorem dX10_worthNow_140 : decode cX10_worthNow 140 = .ok (.aload_n 0, 1) := by decide +kernel
theorem dX10_worthNow_141 : decode cX10_worthNow 141 = .ok (.getfield 70, 3) := by decide +kernel
theorem dX10_worthNow_144 : decode cX10_worthNow 144 = .ok (.iaload, 1) := by decide +kernel
theorem dX10_worthNow_145 : decode cX10_worthNow 145 = .ok (.invokevirtual 277, 3) := by decide +kernel
theorem dX10_worthNow_148 : decode cX10_worthNow 148 = .ok (.aload_n 0, 1) := by decide +kernel
theorem dX10_worthNow_149 : decode cX10_worthNow 149 = .ok (.getfield 74, 3) := by decide +kernel
theorem dX10_worthNow_152 : decode cX10_worthNow 152 = .ok (.iload_n 3, 1) := by decide +kernel
theorem dX10_worthNow_153 : decode cX10_worthNow 153 = .ok (.lload_n 1, 1) := by decide +kernel
theorem dX10_worthNow_154 : decode cX10_worthNow 154 = .ok (.lastore, 1) := by decide +kernel
theorem dX10_worthNow_155 : decode cX10_worthNow 155 = .ok (.aload_n 0, 1) := by decide +kernel
theorem dX10_worthNow_156 : decode cX10_worthNow 156 = .ok (.getfield 78, 3) := by decide +kernel
theorem dX10_worthNow_159 : decode cX10_worthNow 159 = .ok (.iload_n 3, 1) := by decide +kernel
theorem dX10_worthNow_160 : decode cX10_worthNow 160 = .ok (.aload_n 0, 1) := by decide +kernel
theorem dX10_worthNow_161 : decode cX10_worthNow 161 = .ok (.getfield 204, 3) := by decide +kernel
theorem dX10_worthNow_164 : decode cX10_worthNow 164 = .ok (.iastore, 1) := by decide +kernel
theorem dX10_worthNow_165 : decode cX10_worthNow 165 = .ok (.aload_n 0, 1) := by decide +kernel
theorem dX10_worthNow_166 : decode cX10_worthNow 166 = .ok (.getfield 204, 3) := by decide +kernel
theorem dX10_worthNow_169 : decode cX10_worthNow 169 = .ok (.ireturn, 1) := by decide +kernel
theorem dX10_lossAt_0 : decode cX10_lossAt 0 = .ok (.aload_n 0, 1) := by decide +kernel
theorem dX10_lossAt_1 : decode cX10_lossAt 1 = .ok (.aload_n 1, 1) := by decide +kernel
theorem dX10_lossAt_2 : decode cX10_lossAt 2 = .ok (.iload_n 2, 1) := by decide +kernel
theorem dX10_lossAt_3 : decode cX10_lossAt 3 = .ok (.iload_n 3, 1) := by decide +kernel
theorem dX10_lossAt_4 : decode cX10_lossAt 4 = .ok (.invokevirtual 336, 3) := by decide +kernel
theorem dX10_lossAt_7 : decode cX10_lossAt 7 = .ok (.istore 4, 2) := by decide +kernel
theorem dX10_lossAt_9 : decode cX10_lossAt 9 = .ok (.iconst 0, 1) := by decide +kernel
theorem dX10_lossAt_10 : decode cX10_lossAt 10 = .ok (.istore 5, 2) := by decide +kernel
theorem dX10_lossAt_12 : decode cX10_lossAt 12 = .ok (.iconst 0, 1) := by decide +kernel
theorem dX10_lossAt_13 : decode cX10_lossAt 13 = .ok (.istore 6, 2) := by decide +kernel
theorem dX10_lossAt_15 : decode cX10_lossAt 15 = .ok (.iload 6, 2) := by decide +kernel
theorem dX10_lossAt_17 : decode cX10_lossAt 17 = .ok (.aload_n 0, 1) := by decide +kernel
theorem dX10_lossAt_18 : decode cX10_lossAt 18 = .ok (.getfield 291, 3) := by decide +kernel
theorem dX10_lossAt_21 : decode cX10_lossAt 21 = .ok (.if_icmp .ge 43, 3) := by decide +kernel
theorem dX10_lossAt_24 : decode cX10_lossAt 24 = .ok (.aload_n 1, 1) := by decide +kernel
theorem dX10_lossAt_25 : decode cX10_lossAt 25 = .ok (.iconst 2, 1) := by decide +kernel
theorem dX10_lossAt_26 : decode cX10_lossAt 26 = .ok (.iload 6, 2) := by decide +kernel
theorem dX10_lossAt_28 : decode cX10_lossAt 28 = .ok (.imul, 1) := by decide +kernel
theorem dX10_lossAt_29 : decode cX10_lossAt 29 = .ok (.iaload, 1) := by decide +kernel
theorem dX10_lossAt_30 : decode cX10_lossAt 30 = .ok (.ifCond .le 28, 3) := by decide +kernel
theorem dX10_lossAt_33 : decode cX10_lossAt 33 = .ok (.iload 5, 2) := by decide +kernel
theorem dX10_lossAt_35 : decode cX10_lossAt 35 = .ok (.aload_n 1, 1) := by decide +kernel
theorem dX10_lossAt_36 : decode cX10_lossAt 36 = .ok (.iconst 2, 1) := by decide +kernel
theorem dX10_lossAt_37 : decode cX10_lossAt 37 = .ok (.iload 6, 2) := by decide +kernel
theorem dX10_lossAt_39 : decode cX10_lossAt 39 = .ok (.imul, 1) := by decide +kernel
theorem dX10_lossAt_40 : decode cX10_lossAt 40 = .ok (.iaload, 1) := by decide +kernel
theorem dX10_lossAt_41 : decode cX10_lossAt 41 = .ok (.aload_n 0, 1) := by decide +kernel
theorem dX10_lossAt_42 : decode cX10_lossAt 42 = .ok (.aload_n 1, 1) := by decide +kernel
theorem dX10_lossAt_43 : decode cX10_lossAt 43 = .ok (.iload_n 2, 1) := by decide +kernel
theorem dX10_lossAt_44 : decode cX10_lossAt 44 = .ok (.iload 6, 2) := by decide +kernel
theorem dX10_lossAt_46 : decode cX10_lossAt 46 = .ok (.iload_n 3, 1) := by decide +kernel
theorem dX10_lossAt_47 : decode cX10_lossAt 47 = .ok (.iload 4, 2) := by decide +kernel
theorem dX10_lossAt_49 : decode cX10_lossAt 49 = .ok (.invokevirtual 340, 3) := by decide +kernel
theorem dX10_lossAt_52 : decode cX10_lossAt 52 = .ok (.invokestatic 322, 3) := by decide +kernel
theorem dX10_lossAt_55 : decode cX10_lossAt 55 = .ok (.iadd, 1) := by decide +kernel
theorem dX10_lossAt_56 : decode cX10_lossAt 56 = .ok (.istore 5, 2) := by decide +kernel
theorem dX10_lossAt_58 : decode cX10_lossAt 58 = .ok (.iinc 6 1, 3) := by decide +kernel
theorem dX10_lossAt_61 : decode cX10_lossAt 61 = .ok (.goto (-46), 3) := by decide +kernel
theorem dX10_lossAt_64 : decode cX10_lossAt 64 = .ok (.iload 5, 2) := by decide +kernel
theorem dX10_lossAt_66 : decode cX10_lossAt 66 = .ok (.ireturn, 1) := by decide +kernel
theorem dX10_breathes_0 : decode cX10_breathes 0 = .ok (.aload_n 1, 1) := by decide +kernel
theorem dX10_breathes_1 : decode cX10_breathes 1 = .ok (.iload_n 2, 1) := by decide +kernel
theorem dX10_breathes_2 : decode cX10_breathes 2 = .ok (.invokestatic 312, 3) := by decide +kernel
theorem dX10_breathes_5 : decode cX10_breathes 5 = .ok (.istore_n 3, 1) := by decide +kernel
theorem dX10_breathes_6 : decode cX10_breathes 6 = .ok (.aload_n 0, 1) := by decide +kernel
theorem dX10_breathes_7 : decode cX10_breathes 7 = .ok (.aload_n 1, 1) := by decide +kernel
theorem dX10_breathes_8 : decode cX10_breathes 8 = .ok (.iload_n 2, 1) := by decide +kernel
theorem dX10_breathes_9 : decode cX10_breathes 9 = .ok (.iload_n 3, 1) := by decide +kernel
theorem dX10_breathes_10 : decode cX10_breathes 10 = .ok (.invokevirtual 336, 3) := by decide +kernel
theorem dX10_breathes_13 : decode cX10_breathes 13 = .ok (.istore 4, 2) := by decide +kernel
theorem dX10_breathes_15 : decode cX10_breathes 15 = .ok (.iconst 0, 1) := by decide +kernel
theorem dX10_breathes_16 : decode cX10_breathes 16 = .ok (.istore 5, 2) := by decide +kernel
theorem dX10_breathes_18 : decode cX10_breathes 18 = .ok (.iconst 0, 1) := by decide +kernel
theorem dX10_breathes_19 : decode cX10_breathes 19 = .ok (.istore 6, 2) := by decide +kernel
theorem dX10_breathes_21 : decode cX10_breathes 21 = .ok (.iload 6, 2) := by decide +kernel
theorem dX10_breathes_23 : decode cX10_breathes 23 = .ok (.aload_n 0, 1) := by decide +kernel
theorem dX10_breathes_24 : decode cX10_breathes 24 = .ok (.getfield 291, 3) := by decide +kernel
theorem dX10_breathes_27 : decode cX10_breathes 27 = .ok (.if_icmp .ge 49, 3) := by decide +kernel
theorem dX10_breathes_30 : decode cX10_breathes 30 = .ok (.aload_n 0, 1) := by decide +kernel
theorem dX10_breathes_31 : decode cX10_breathes 31 = .ok (.getfield 81, 3) := by decide +kernel
theorem dX10_breathes_34 : decode cX10_breathes 34 = .ok (.iload 6, 2) := by decide +kernel
theorem dX10_breathes_36 : decode cX10_breathes 36 = .ok (.aload_n 1, 1) := by decide +kernel
theorem dX10_breathes_37 : decode cX10_breathes 37 = .ok (.iconst 2, 1) := by decide +kernel
theorem dX10_breathes_38 : decode cX10_breathes 38 = .ok (.iload 6, 2) := by decide +kernel
theorem dX10_breathes_40 : decode cX10_breathes 40 = .ok (.imul, 1) := by decide +kernel
theorem dX10_breathes_41 : decode cX10_breathes 41 = .ok (.iaload, 1) := by decide +kernel
theorem dX10_breathes_42 : decode cX10_breathes 42 = .ok (.ifCond .le 26, 3) := by decide +kernel
theorem dX10_breathes_45 : decode cX10_breathes 45 = .ok (.aload_n 1, 1) := by decide +kernel
theorem dX10_breathes_46 : decode cX10_breathes 46 = .ok (.iconst 2, 1) := by decide +kernel
theorem dX10_breathes_47 : decode cX10_breathes 47 = .ok (.iload 6, 2) := by decide +kernel
theorem dX10_breathes_49 : decode cX10_breathes 49 = .ok (.imul, 1) := by decide +kernel
theorem dX10_breathes_50 : decode cX10_breathes 50 = .ok (.iaload, 1) := by decide +kernel
theorem dX10_breathes_51 : decode cX10_breathes 51 = .ok (.aload_n 0, 1) := by decide +kernel
theorem dX10_breathes_52 : decode cX10_breathes 52 = .ok (.aload_n 1, 1) := by decide +kernel
theorem dX10_breathes_53 : decode cX10_breathes 53 = .ok (.iload_n 2, 1) := by decide +kernel
theorem dX10_breathes_54 : decode cX10_breathes 54 = .ok (.iload 6, 2) := by decide +kernel
theorem dX10_breathes_56 : decode cX10_breathes 56 = .ok (.iload_n 3, 1) := by decide +kernel
theorem dX10_breathes_57 : decode cX10_breathes 57 = .ok (.iload 4, 2) := by decide +kernel
theorem dX10_breathes_59 : decode cX10_breathes 59 = .ok (.invokevirtual 340, 3) := by decide +kernel
theorem dX10_breathes_62 : decode cX10_breathes 62 = .ok (.invokestatic 322, 3) := by decide +kernel
theorem dX10_breathes_65 : decode cX10_breathes 65 = .ok (.goto 4, 3) := by decide +kernel
theorem dX10_breathes_68 : decode cX10_breathes 68 = .ok (.iconst 0, 1) := by decide +kernel
theorem dX10_breathes_69 : decode cX10_breathes 69 = .ok (.iastore, 1) := by decide +kernel
theorem dX10_breathes_70 : decode cX10_breathes 70 = .ok (.iinc 6 1, 3) := by decide +kernel
theorem dX10_breathes_73 : decode cX10_breathes 73 = .ok (.goto (-52), 3) := by decide +kernel
theorem dX10_breathes_76 : decode cX10_breathes 76 = .ok (.iconst 0, 1) := by decide +kernel
theorem dX10_breathes_77 : decode cX10_breathes 77 = .ok (.istore 6, 2) := by decide +kernel
theorem dX10_breathes_79 : decode cX10_breathes 79 = .ok (.iload 6, 2) := by decide +kernel
theorem dX10_breathes_81 : decode cX10_breathes 81 = .ok (.aload_n 0, 1) := by decide +kernel
theorem dX10_breathes_82 : decode cX10_breathes 82 = .ok (.getfield 291, 3) := by decide +kernel
theorem dX10_breathes_85 : decode cX10_breathes 85 = .ok (.if_icmp .ge 37, 3) := by decide +kernel
theorem dX10_breathes_88 : decode cX10_breathes 88 = .ok (.aload_n 1, 1) := by decide +kernel
theorem dX10_breathes_89 : decode cX10_breathes 89 = .ok (.iconst 2, 1) := by decide +kernel
theorem dX10_breathes_90 : decode cX10_breathes 90 = .ok (.iload 6, 2) := by decide +kernel
theorem dX10_breathes_92 : decode cX10_breathes 92 = .ok (.imul, 1) := by decide +kernel
theorem dX10_breathes_93 : decode cX10_breathes 93 = .ok (.dup2, 1) := by decide +kernel
theorem dX10_breathes_94 : decode cX10_breathes 94 = .ok (.iaload, 1) := by decide +kernel
theorem dX10_breathes_95 : decode cX10_breathes 95 = .ok (.aload_n 0, 1) := by decide +kernel
theorem dX10_breathes_96 : decode cX10_breathes 96 = .ok (.getfield 81, 3) := by decide +kernel
theorem dX10_breathes_99 : decode cX10_breathes 99 = .ok (.iload 6, 2) := by decide +kernel
theorem dX10_breathes_101 : decode cX10_breathes 101 = .ok (.iaload, 1) := by decide +kernel
theorem dX10_breathes_102 : decode cX10_breathes 102 = .ok (.isub, 1) := by decide +kernel
theorem dX10_breathes_103 : decode cX10_breathes 103 = .ok (.iastore, 1) := by decide +kernel
theorem dX10_breathes_104 : decode cX10_breathes 104 = .ok (.iload 5, 2) := by decide +kernel
theorem dX10_breathes_106 : decode cX10_breathes 106 = .ok (.aload_n 0, 1) := by decide +kernel
theorem dX10_breathes_107 : decode cX10_breathes 107 = .ok (.getfield 81, 3) := by decide +kernel
theorem dX10_breathes_110 : decode cX10_breathes 110 = .ok (.iload 6, 2) := by decide +kernel
theorem dX10_breathes_112 : decode cX10_breathes 112 = .ok (.iaload, 1) := by decide +kernel
theorem dX10_breathes_113 : decode cX10_breathes 113 = .ok (.iadd, 1) := by decide +kernel
theorem dX10_breathes_114 : decode cX10_breathes 114 = .ok (.istore 5, 2) := by decide +kernel
theorem dX10_breathes_116 : decode cX10_breathes 116 = .ok (.iinc 6 1, 3) := by decide +kernel
theorem dX10_breathes_119 : decode cX10_breathes 119 = .ok (.goto (-40), 3) := by decide +kernel
theorem dX10_breathes_122 : decode cX10_breathes 122 = .ok (.iload 5, 2) := by decide +kernel
theorem dX10_breathes_124 : decode cX10_breathes 124 = .ok (.ireturn, 1) := by decide +kernel
theorem dX10_hall_0 : decode cX10_hall 0 = .ok (.aload_n 0, 1) := by decide +kernel
theorem dX10_hall_1 : decode cX10_hall 1 = .ok (.iconst 0, 1) := by decide +kernel
theorem dX10_hall_2 : decode cX10_hall 2 = .ok (.putfield 96, 3) := by decide +kernel
theorem dX10_hall_5 : decode cX10_hall 5 = .ok (.aload_n 0, 1) := by decide +kernel
theorem dX10_hall_6 : decode cX10_hall 6 = .ok (.getfield 291, 3) := by decide +kernel
theorem dX10_hall_9 : decode cX10_hall 9 = .ok (.ifCond .le 39, 3) := by decide +kernel
theorem dX10_hall_12 : decode cX10_hall 12 = .ok (.iload_n 1, 1) := by decide +kernel
theorem dX10_hall_13 : decode cX10_hall 13 = .ok (.i2l, 1) := by decide +kernel
theorem dX10_hall_14 : decode cX10_hall 14 = .ok (.lconst 0, 1) := by decide +kernel
theorem dX10_hall_15 : decode cX10_hall 15 = .ok (.ldc2_w 344, 3) := by decide +kernel
theorem dX10_hall_18 : decode cX10_hall 18 = .ok (.invokestatic 217, 3) := by decide +kernel
theorem dX10_hall_21 : decode cX10_hall 21 = .ok (.ifCond .eq 27, 3) := by decide +kernel
theorem dX10_hall_24 : decode cX10_hall 24 = .ok (.iload_n 1, 1) := by decide +kernel
theorem dX10_hall_25 : decode cX10_hall 25 = .ok (.iconst 2, 1) := by decide +kernel
theorem dX10_hall_26 : decode cX10_hall 26 = .ok (.if_icmp .ne 13, 3) := by decide +kernel
theorem dX10_hall_29 : decode cX10_hall 29 = .ok (.aload_n 0, 1) := by decide +kernel
theorem dX10_hall_30 : decode cX10_hall 30 = .ok (.getfield 61, 3) := by decide +kernel
theorem dX10_hall_33 : decode cX10_hall 33 = .ok (.bipush 108, 2) := by decide +kernel
theorem dX10_hall_35 : decode cX10_hall 35 = .ok (.iaload, 1) := by decide +kernel
theorem dX10_hall_36 : decode cX10_hall 36 = .ok (.goto 13, 3) := by decide +kernel
theorem dX10_hall_39 : decode cX10_hall 39 = .ok (.aload_n 0, 1) := by decide +kernel
theorem dX10_hall_40 : decode cX10_hall 40 = .ok (.getfield 37, 3) := by decide +kernel
theorem dX10_hall_43 : decode cX10_hall 43 = .ok (.iload_n 1, 1) := by decide +kernel
theorem dX10_hall_44 : decode cX10_hall 44 = .ok (.iaload, 1) := by decide +kernel
theorem dX10_hall_45 : decode cX10_hall 45 = .ok (.goto 4, 3) := by decide +kernel
theorem dX10_hall_48 : decode cX10_hall 48 = .ok (.iconst (-1), 1) := by decide +kernel
theorem dX10_hall_49 : decode cX10_hall 49 = .ok (.ireturn, 1) := by decide +kernel
theorem dX10_page_0 : decode cX10_page 0 = .ok (.aload_n 0, 1) := by decide +kernel
theorem dX10_page_1 : decode cX10_page 1 = .ok (.iconst 0, 1) := by decide +kernel
theorem dX10_page_2 : decode cX10_page 2 = .ok (.putfield 96, 3) := by decide +kernel
theorem dX10_page_5 : decode cX10_page 5 = .ok (.aload_n 0, 1) := by decide +kernel
theorem dX10_page_6 : decode cX10_page 6 = .ok (.iload_n 1, 1) := by decide +kernel
theorem dX10_page_7 : decode cX10_page 7 = .ok (.invokevirtual 346, 3) := by decide +kernel
theorem dX10_page_10 : decode cX10_page 10 = .ok (.ifCond .eq 15, 3) := by decide +kernel
theorem dX10_page_13 : decode cX10_page 13 = .ok (.iload_n 2, 1) := by decide +kernel
theorem dX10_page_14 : decode cX10_page 14 = .ok (.i2l, 1) := by decide +kernel
theorem dX10_page_15 : decode cX10_page 15 = .ok (.lconst 0, 1) := by decide +kernel
theorem dX10_page_16 : decode cX10_page 16 = .ok (.ldc2_w 349, 3) := by decide +kernel
theorem dX10_page_19 : decode cX10_page 19 = .ok (.invokestatic 217, 3) := by decide +kernel
theorem dX10_page_22 : decode cX10_page 22 = .ok (.ifCond .ne 5, 3) := by decide +kernel
theorem dX10_page_25 : decode cX10_page 25 = .ok (.iconst (-1), 1) := by decide +kernel
theorem dX10_page_26 : decode cX10_page 26 = .ok (.ireturn, 1) := by decide +kernel
theorem dX10_page_27 : decode cX10_page 27 = .ok (.iload_n 2, 1) := by decide +kernel
theorem dX10_page_28 : decode cX10_page 28 = .ok (.iconst 1, 1) := by decide +kernel
theorem dX10_page_29 : decode cX10_page 29 = .ok (.if_icmp .ne 14, 3) := by decide +kernel
theorem dX10_page_32 : decode cX10_page 32 = .ok (.aload_n 0, 1) := by decide +kernel
theorem dX10_page_33 : decode cX10_page 33 = .ok (.getfield 61, 3) := by decide +kernel
theorem dX10_page_36 : decode cX10_page 36 = .ok (.iconst 2, 1) := by decide +kernel
theorem dX10_page_37 : decode cX10_page 37 = .ok (.iload_n 1, 1) := by decide +kernel
theorem dX10_page_38 : decode cX10_page 38 = .ok (.imul, 1) := by decide +kernel
theorem dX10_page_39 : decode cX10_page 39 = .ok (.iaload, 1) := by decide +kernel
theorem dX10_page_40 : decode cX10_page 40 = .ok (.goto 31, 3) := by decide +kernel
theorem dX10_page_43 : decode cX10_page 43 = .ok (.iload_n 2, 1) := by decide +kernel
theorem dX10_page_44 : decode cX10_page 44 = .ok (.iconst 3, 1) := by decide +kernel
theorem dX10_page_45 : decode cX10_page 45 = .ok (.if_icmp .ne 16, 3) := by decide +kernel
theorem dX10_page_48 : decode cX10_page 48 = .ok (.aload_n 0, 1) := by decide +kernel
theorem dX10_page_49 : decode cX10_page 49 = .ok (.getfield 61, 3) := by decide +kernel
theorem dX10_page_52 : decode cX10_page 52 = .ok (.iconst 2, 1) := by decide +kernel
theorem dX10_page_53 : decode cX10_page 53 = .ok (.iload_n 1, 1) := by decide +kernel
theorem dX10_page_54 : decode cX10_page 54 = .ok (.imul, 1) := by decide +kernel
theorem dX10_page_55 : decode cX10_page 55 = .ok (.iconst 1, 1) := by decide +kernel
theorem dX10_page_56 : decode cX10_page 56 = .ok (.iadd, 1) := by decide +kernel
theorem dX10_page_57 : decode cX10_page 57 = .ok (.iaload, 1) := by decide +kernel
theorem dX10_page_58 : decode cX10_page 58 = .ok (.goto 13, 3) := by decide +kernel
theorem dX10_page_61 : decode cX10_page 61 = .ok (.aload_n 0, 1) := by decide +kernel
theorem dX10_page_62 : decode cX10_page 62 = .ok (.getfield 43, 3) := by decide +kernel
theorem dX10_page_65 : decode cX10_page 65 = .ok (.iconst 4, 1) := by decide +kernel
theorem dX10_page_66 : decode cX10_page 66 = .ok (.iload_n 1, 1) := by decide +kernel
theorem dX10_page_67 : decode cX10_page 67 = .ok (.imul, 1) := by decide +kernel
theorem dX10_page_68 : decode cX10_page 68 = .ok (.iload_n 2, 1) := by decide +kernel
theorem dX10_page_69 : decode cX10_page 69 = .ok (.iadd, 1) := by decide +kernel
theorem dX10_page_70 : decode cX10_page 70 = .ok (.iaload, 1) := by decide +kernel
theorem dX10_page_71 : decode cX10_page 71 = .ok (.ireturn, 1) := by decide +kernel
theorem dX10_knownBits_0 : decode cX10_knownBits 0 = .ok (.iconst 0, 1) := by decide +kernel
theorem dX10_knownBits_1 : decode cX10_knownBits 1 = .ok (.istore_n 2, 1) := by decide +kernel
theorem dX10_knownBits_2 : decode cX10_knownBits 2 = .ok (.iconst 0, 1) := by decide +kernel
theorem dX10_knownBits_3 : decode cX10_knownBits 3 = .ok (.istore_n 3, 1) := by decide +kernel
theorem dX10_knownBits_4 : decode cX10_knownBits 4 = .ok (.iload_n 3, 1) := by decide +kernel
theorem dX10_knownBits_5 : decode cX10_knownBits 5 = .ok (.bipush 12, 2) := by decide +kernel
theorem dX10_knownBits_7 : decode cX10_knownBits 7 = .ok (.if_icmp .ge 28, 3) := by decide +kernel
theorem dX10_knownBits_10 : decode cX10_knownBits 10 = .ok (.iload_n 2, 1) := by decide +kernel
theorem dX10_knownBits_11 : decode cX10_knownBits 11 = .ok (.aload_n 0, 1) := by decide +kernel
theorem dX10_knownBits_12 : decode cX10_knownBits 12 = .ok (.iload_n 1, 1) := by decide +kernel
theorem dX10_knownBits_13 : decode cX10_knownBits 13 = .ok (.iload_n 3, 1) := by decide +kernel
theorem dX10_knownBits_14 : decode cX10_knownBits 14 = .ok (.invokestatic 351, 3) := by decide +kernel
theorem dX10_knownBits_17 : decode cX10_knownBits 17 = .ok (.ifCond .eq 9, 3) := by decide +kernel
theorem dX10_knownBits_20 : decode cX10_knownBits 20 = .ok (.iconst 1, 1) := by decide +kernel
theorem dX10_knownBits_21 : decode cX10_knownBits 21 = .ok (.iload_n 3, 1) := by decide +kernel
theorem dX10_knownBits_22 : decode cX10_knownBits 22 = .ok (.ishl, 1) := by decide +kernel
theorem dX10_knownBits_23 : decode cX10_knownBits 23 = .ok (.goto 4, 3) := by decide +kernel
theorem dX10_knownBits_26 : decode cX10_knownBits 26 = .ok (.iconst 0, 1) := by decide +kernel
theorem dX10_knownBits_27 : decode cX10_knownBits 27 = .ok (.ior, 1) := by decide +kernel
theorem dX10_knownBits_28 : decode cX10_knownBits 28 = .ok (.istore_n 2, 1) := by decide +kernel
theorem dX10_knownBits_29 : decode cX10_knownBits 29 = .ok (.iinc 3 1, 3) := by decide +kernel
theorem dX10_knownBits_32 : decode cX10_knownBits 32 = .ok (.goto (-28), 3) := by decide +kernel
theorem dX10_knownBits_35 : decode cX10_knownBits 35 = .ok (.iload_n 2, 1) := by decide +kernel
theorem dX10_knownBits_36 : decode cX10_knownBits 36 = .ok (.ireturn, 1) := by decide +kernel
theorem dX10_reader_0 : decode cX10_reader 0 = .ok (.aload_n 0, 1) := by decide +kernel
theorem dX10_reader_1 : decode cX10_reader 1 = .ok (.aload_n 0, 1) := by decide +kernel
theorem dX10_reader_2 : decode cX10_reader 2 = .ok (.iload_n 1, 1) := by decide +kernel
theorem dX10_reader_3 : decode cX10_reader 3 = .ok (.invokevirtual 309, 3) := by decide +kernel
theorem dX10_reader_6 : decode cX10_reader 6 = .ok (.ifCond .eq 19, 3) := by decide +kernel
theorem dX10_reader_9 : decode cX10_reader 9 = .ok (.iload_n 2, 1) := by decide +kernel
theorem dX10_reader_10 : decode cX10_reader 10 = .ok (.i2l, 1) := by decide +kernel
theorem dX10_reader_11 : decode cX10_reader 11 = .ok (.lconst 0, 1) := by decide +kernel
theorem dX10_reader_12 : decode cX10_reader 12 = .ok (.ldc2_w 332, 3) := by decide +kernel
theorem dX10_reader_15 : decode cX10_reader 15 = .ok (.invokestatic 217, 3) := by decide +kernel
theorem dX10_reader_18 : decode cX10_reader 18 = .ok (.ifCond .eq 7, 3) := by decide +kernel
theorem dX10_reader_21 : decode cX10_reader 21 = .ok (.iconst 0, 1) := by decide +kernel
theorem dX10_reader_22 : decode cX10_reader 22 = .ok (.goto 4, 3) := by decide +kernel
theorem dX10_reader_25 : decode cX10_reader 25 = .ok (.iconst 1, 1) := by decide +kernel
theorem dX10_reader_26 : decode cX10_reader 26 = .ok (.putfield 96, 3) := by decide +kernel
theorem dX10_reader_29 : decode cX10_reader 29 = .ok (.aload_n 0, 1) := by decide +kernel
theorem dX10_reader_30 : decode cX10_reader 30 = .ok (.getfield 96, 3) := by decide +kernel
theorem dX10_reader_33 : decode cX10_reader 33 = .ok (.ifCond .le 5, 3) := by decide +kernel
theorem dX10_reader_36 : decode cX10_reader 36 = .ok (.iconst 0, 1) := by decide +kernel
theorem dX10_reader_37 : decode cX10_reader 37 = .ok (.ireturn, 1) := by decide +kernel
theorem dX10_reader_38 : decode cX10_reader 38 = .ok (.iload_n 2, 1) := by decide +kernel
theorem dX10_reader_39 : decode cX10_reader 39 = .ok (.ifCond .ne 12, 3) := by decide +kernel
theorem dX10_reader_42 : decode cX10_reader 42 = .ok (.aload_n 0, 1) := by decide +kernel
theorem dX10_reader_43 : decode cX10_reader 43 = .ok (.getfield 61, 3) := by decide +kernel
theorem dX10_reader_46 : decode cX10_reader 46 = .ok (.iload_n 1, 1) := by decide +kernel
theorem dX10_reader_47 : decode cX10_reader 47 = .ok (.invokestatic 312, 3) := by decide +kernel
theorem dX10_reader_50 : decode cX10_reader 50 = .ok (.ireturn, 1) := by decide +kernel
theorem dX10_reader_51 : decode cX10_reader 51 = .ok (.iload_n 2, 1) := by decide +kernel
theorem dX10_reader_52 : decode cX10_reader 52 = .ok (.iconst 4, 1) := by decide +kernel
theorem dX10_reader_53 : decode cX10_reader 53 = .ok (.if_icmp .ne 20, 3) := by decide +kernel
theorem dX10_reader_56 : decode cX10_reader 56 = .ok (.aload_n 0, 1) := by decide +kernel
theorem dX10_reader_57 : decode cX10_reader 57 = .ok (.getfield 61, 3) := by decide +kernel
theorem dX10_reader_60 : decode cX10_reader 60 = .ok (.bipush 24, 2) := by decide +kernel
theorem dX10_reader_62 : decode cX10_reader 62 = .ok (.bipush 14, 2) := by decide +kernel
theorem dX10_reader_64 : decode cX10_reader 64 = .ok (.iload_n 1, 1) := by decide +kernel
theorem dX10_reader_65 : decode cX10_reader 65 = .ok (.imul, 1) := by decide +kernel
theorem dX10_reader_66 : decode cX10_reader 66 = .ok (.iadd, 1) := by decide +kernel
theorem dX10_reader_67 : decode cX10_reader 67 = .ok (.iconst 1, 1) := by decide +kernel
theorem dX10_reader_68 : decode cX10_reader 68 = .ok (.iadd, 1) := by decide +kernel
theorem dX10_reader_69 : decode cX10_reader 69 = .ok (.iaload, 1) := by decide +kernel
theorem dX10_reader_70 : decode cX10_reader 70 = .ok (.goto 29, 3) := by decide +kernel
theorem dX10_reader_73 : decode cX10_reader 73 = .ok (.iload_n 2, 1) := by decide +kernel
theorem dX10_reader_74 : decode cX10_reader 74 = .ok (.iconst 5, 1) := by decide +kernel
theorem dX10_reader_75 : decode cX10_reader 75 = .ok (.if_icmp .ne 14, 3) := by decide +kernel
theorem dX10_reader_78 : decode cX10_reader 78 = .ok (.aload_n 0, 1) := by decide +kernel
theorem dX10_reader_79 : decode cX10_reader 79 = .ok (.getfield 61, 3) := by decide +kernel
theorem dX10_reader_82 : decode cX10_reader 82 = .ok (.iload_n 1, 1) := by decide +kernel
theorem dX10_reader_83 : decode cX10_reader 83 = .ok (.invokestatic 355, 3) := by decide +kernel
theorem dX10_reader_86 : decode cX10_reader 86 = .ok (.goto 13, 3) := by decide +kernel
theorem dX10_reader_89 : decode cX10_reader 89 = .ok (.aload_n 0, 1) := by decide +kernel
theorem dX10_reader_90 : decode cX10_reader 90 = .ok (.getfield 49, 3) := by decide +kernel
theorem dX10_reader_93 : decode cX10_reader 93 = .ok (.iconst 4, 1) := by decide +kernel
theorem dX10_reader_94 : decode cX10_reader 94 = .ok (.iload_n 1, 1) := by decide +kernel
theorem dX10_reader_95 : decode cX10_reader 95 = .ok (.imul, 1) := by decide +kernel
theorem dX10_reader_96 : decode cX10_reader 96 = .ok (.iload_n 2, 1) := by decide +kernel
theorem dX10_reader_97 : decode cX10_reader 97 = .ok (.iadd, 1) := by decide +kernel
theorem dX10_reader_98 : decode cX10_reader 98 = .ok (.iaload, 1) := by decide +kernel
theorem dX10_reader_99 : decode cX10_reader 99 = .ok (.ireturn, 1) := by decide +kernel
theorem dX10_memory_0 : decode cX10_memory 0 = .ok (.aload_n 0, 1) := by decide +kernel
theorem dX10_memory_1 : decode cX10_memory 1 = .ok (.iconst 0, 1) := by decide +kernel
theorem dX10_memory_2 : decode cX10_memory 2 = .ok (.putfield 96, 3) := by decide +kernel
theorem dX10_memory_5 : decode cX10_memory 5 = .ok (.aload_n 0, 1) := by decide +kernel
theorem dX10_memory_6 : decode cX10_memory 6 = .ok (.iload_n 1, 1) := by decide +kernel
theorem dX10_memory_7 : decode cX10_memory 7 = .ok (.invokevirtual 309, 3) := by decide +kernel
theorem dX10_memory_10 : decode cX10_memory 10 = .ok (.ifCond .eq 23, 3) := by decide +kernel
theorem dX10_memory_13 : decode cX10_memory 13 = .ok (.aload_n 0, 1) := by decide +kernel
theorem dX10_memory_14 : decode cX10_memory 14 = .ok (.iload_n 2, 1) := by decide +kernel
theorem dX10_memory_15 : decode cX10_memory 15 = .ok (.invokevirtual 346, 3) := by decide +kernel
theorem dX10_memory_18 : decode cX10_memory 18 = .ok (.ifCond .eq 15, 3) := by decide +kernel
theorem dX10_memory_21 : decode cX10_memory 21 = .ok (.aload_n 0, 1) := by decide +kernel
theorem dX10_memory_22 : decode cX10_memory 22 = .ok (.getfield 61, 3) := by decide +kernel
theorem dX10_memory_25 : decode cX10_memory 25 = .ok (.iload_n 1, 1) := by decide +kernel
theorem dX10_memory_26 : decode cX10_memory 26 = .ok (.iload_n 2, 1) := by decide +kernel
theorem dX10_memory_27 : decode cX10_memory 27 = .ok (.invokestatic 358, 3) := by decide +kernel
theorem dX10_memory_30 : decode cX10_memory 30 = .ok (.goto 4, 3) := by decide +kernel
theorem dX10_memory_33 : decode cX10_memory 33 = .ok (.iconst (-1), 1) := by decide +kernel
theorem dX10_memory_34 : decode cX10_memory 34 = .ok (.ireturn, 1) := by decide +kernel
theorem dX10_law_0 : decode cX10_law 0 = .ok (.aload_n 0, 1) := by decide +kernel
theorem dX10_law_1 : decode cX10_law 1 = .ok (.iconst 0, 1) := by decide +kernel
theorem dX10_law_2 : decode cX10_law 2 = .ok (.putfield 96, 3) := by decide +kernel
theorem dX10_law_5 : decode cX10_law 5 = .ok (.iload_n 1, 1) := by decide +kernel
theorem dX10_law_6 : decode cX10_law 6 = .ok (.iconst (-1), 1) := by decide +kernel
theorem dX10_law_7 : decode cX10_law 7 = .ok (.if_icmp .eq 21, 3) := by decide +kernel
theorem dX10_law_10 : decode cX10_law 10 = .ok (.iload_n 1, 1) := by decide +kernel
theorem dX10_law_11 : decode cX10_law 11 = .ok (.i2l, 1) := by decide +kernel
theorem dX10_law_12 : decode cX10_law 12 = .ok (.lconst 0, 1) := by decide +kernel
theorem dX10_law_13 : decode cX10_law 13 = .ok (.aload_n 0, 1) := by decide +kernel
theorem dX10_law_14 : decode cX10_law 14 = .ok (.getfield 283, 3) := by decide +kernel
theorem dX10_law_17 : decode cX10_law 17 = .ok (.iconst 1, 1) := by decide +kernel
theorem dX10_law_18 : decode cX10_law 18 = .ok (.isub, 1) := by decide +kernel
theorem dX10_law_19 : decode cX10_law 19 = .ok (.i2l, 1) := by decide +kernel
theorem dX10_law_20 : decode cX10_law 20 = .ok (.invokestatic 217, 3) := by decide +kernel
theorem dX10_law_23 : decode cX10_law 23 = .ok (.ifCond .ne 5, 3) := by decide +kernel
theorem dX10_law_26 : decode cX10_law 26 = .ok (.iconst 0, 1) := by decide +kernel
theorem dX10_law_27 : decode cX10_law 27 = .ok (.ireturn, 1) := by decide +kernel
theorem dX10_law_28 : decode cX10_law 28 = .ok (.aload_n 0, 1) := by decide +kernel
theorem dX10_law_29 : decode cX10_law 29 = .ok (.iload_n 1, 1) := by decide +kernel
theorem dX10_law_30 : decode cX10_law 30 = .ok (.putfield 70, 3) := by decide +kernel
theorem dX10_law_33 : decode cX10_law 33 = .ok (.iconst 1, 1) := by decide +kernel
theorem dX10_law_34 : decode cX10_law 34 = .ok (.ireturn, 1) := by decide +kernel
theorem dX10_slips_0 : decode cX10_slips 0 = .ok (.aload_n 0, 1) := by decide +kernel
theorem dX10_slips_1 : decode cX10_slips 1 = .ok (.iconst 0, 1) := by decide +kernel
theorem dX10_slips_2 : decode cX10_slips 2 = .ok (.putfield 96, 3) := by decide +kernel
theorem dX10_slips_5 : decode cX10_slips 5 = .ok (.iload_n 1, 1) := by decide +kernel
theorem dX10_slips_6 : decode cX10_slips 6 = .ok (.i2l, 1) := by decide +kernel
theorem dX10_slips_7 : decode cX10_slips 7 = .ok (.lconst 0, 1) := by decide +kernel
theorem dX10_slips_8 : decode cX10_slips 8 = .ok (.ldc2_w 361, 3) := by decide +kernel
theorem dX10_slips_11 : decode cX10_slips 11 = .ok (.invokestatic 217, 3) := by decide +kernel
theorem dX10_slips_14 : decode cX10_slips 14 = .ok (.ifCond .eq 11, 3) := by decide +kernel
theorem dX10_slips_17 : decode cX10_slips 17 = .ok (.iload_n 1, 1) := by decide +kernel
theorem dX10_slips_18 : decode cX10_slips 18 = .ok (.aload_n 0, 1) := by decide +kernel
theorem dX10_slips_19 : decode cX10_slips 19 = .ok (.getfield 363, 3) := by decide +kernel
theorem dX10_slips_22 : decode cX10_slips 22 = .ok (.if_icmp .ne 5, 3) := by decide +kernel
theorem dX10_slips_25 : decode cX10_slips 25 = .ok (.iconst 0, 1) := by decide +kernel
theorem dX10_slips_26 : decode cX10_slips 26 = .ok (.ireturn, 1) := by decide +kernel
theorem dX10_slips_27 : decode cX10_slips 27 = .ok (.aload_n 0, 1) := by decide +kernel
theorem dX10_slips_28 : decode cX10_slips 28 = .ok (.iload_n 1, 1) := by decide +kernel
theorem dX10_slips_29 : decode cX10_slips 29 = .ok (.putfield 363, 3) := by decide +kernel
theorem dX10_slips_32 : decode cX10_slips 32 = .ok (.iconst 1, 1) := by decide +kernel
theorem dX10_slips_33 : decode cX10_slips 33 = .ok (.ireturn, 1) := by decide +kernel
theorem dX10_melt_0 : decode cX10_melt 0 = .ok (.aload_n 0, 1) := by decide +kernel
theorem dX10_melt_1 : decode cX10_melt 1 = .ok (.iconst 0, 1) := by decide +kernel
theorem dX10_melt_2 : decode cX10_melt 2 = .ok (.putfield 96, 3) := by decide +kernel
theorem dX10_melt_5 : decode cX10_melt 5 = .ok (.aload_n 0, 1) := by decide +kernel
theorem dX10_melt_6 : decode cX10_melt 6 = .ok (.iload_n 1, 1) := by decide +kernel
theorem dX10_melt_7 : decode cX10_melt 7 = .ok (.invokevirtual 309, 3) := by decide +kernel
theorem dX10_melt_10 : decode cX10_melt 10 = .ok (.ifCond .eq 54, 3) := by decide +kernel
theorem dX10_melt_13 : decode cX10_melt 13 = .ok (.aload_n 0, 1) := by decide +kernel
theorem dX10_melt_14 : decode cX10_melt 14 = .ok (.iload_n 2, 1) := by decide +kernel
theorem dX10_melt_15 : decode cX10_melt 15 = .ok (.invokevirtual 346, 3) := by decide +kernel
theorem dX10_melt_18 : decode cX10_melt 18 = .ok (.ifCond .eq 46, 3) := by decide +kernel
theorem dX10_melt_21 : decode cX10_melt 21 = .ok (.aload_n 0, 1) := by decide +kernel
theorem dX10_melt_22 : decode cX10_melt 22 = .ok (.iload_n 3, 1) := by decide +kernel
theorem dX10_melt_23 : decode cX10_melt 23 = .ok (.invokevirtual 366, 3) := by decide +kernel
theorem dX10_melt_26 : decode cX10_melt 26 = .ok (.ifCond .eq 38, 3) := by decide +kernel
theorem dX10_melt_29 : decode cX10_melt 29 = .ok (.aload_n 0, 1) := by decide +kernel
theorem dX10_melt_30 : decode cX10_melt 30 = .ok (.getfield 61, 3) := by decide +kernel
theorem dX10_melt_33 : decode cX10_melt 33 = .ok (.iconst 2, 1) := by decide +kernel
theorem dX10_melt_34 : decode cX10_melt 34 = .ok (.iload_n 2, 1) := by decide +kernel
theorem dX10_melt_35 : decode cX10_melt 35 = .ok (.imul, 1) := by decide +kernel
theorem dX10_melt_36 : decode cX10_melt 36 = .ok (.iaload, 1) := by decide +kernel
theorem dX10_melt_37 : decode cX10_melt 37 = .ok (.ifCond .le 27, 3) := by decide +kernel
theorem dX10_melt_40 : decode cX10_melt 40 = .ok (.aload_n 0, 1) := by decide +kernel
theorem dX10_melt_41 : decode cX10_melt 41 = .ok (.aload_n 0, 1) := by decide +kernel
theorem dX10_melt_42 : decode cX10_melt 42 = .ok (.getfield 61, 3) := by decide +kernel
theorem dX10_melt_45 : decode cX10_melt 45 = .ok (.iload_n 1, 1) := by decide +kernel
theorem dX10_melt_46 : decode cX10_melt 46 = .ok (.iload_n 2, 1) := by decide +kernel
theorem dX10_melt_47 : decode cX10_melt 47 = .ok (.iload_n 3, 1) := by decide +kernel
theorem dX10_melt_48 : decode cX10_melt 48 = .ok (.aload_n 0, 1) := by decide +kernel
theorem dX10_melt_49 : decode cX10_melt 49 = .ok (.aload_n 0, 1) := by decide +kernel
theorem dX10_melt_50 : decode cX10_melt 50 = .ok (.getfield 61, 3) := by decide +kernel
theorem dX10_melt_53 : decode cX10_melt 53 = .ok (.iload_n 1, 1) := by decide +kernel
theorem dX10_melt_54 : decode cX10_melt 54 = .ok (.iload_n 3, 1) := by decide +kernel
theorem dX10_melt_55 : decode cX10_melt 55 = .ok (.invokevirtual 336, 3) := by decide +kernel
theorem dX10_melt_58 : decode cX10_melt 58 = .ok (.invokevirtual 340, 3) := by decide +kernel
theorem dX10_melt_61 : decode cX10_melt 61 = .ok (.goto 4, 3) := by decide +kernel
theorem dX10_melt_64 : decode cX10_melt 64 = .ok (.iconst (-1), 1) := by decide +kernel
theorem dX10_melt_65 : decode cX10_melt 65 = .ok (.ireturn, 1) := by decide +kernel
theorem dX10_remember_0 : decode cX10_remember 0 = .ok (.aload_n 0, 1) := by decide +kernel
theorem dX10_remember_1 : decode cX10_remember 1 = .ok (.getfield 300, 3) := by decide +kernel
theorem dX10_remember_4 : decode cX10_remember 4 = .ok (.bipush 40, 2) := by decide +kernel
theorem dX10_remember_6 : decode cX10_remember 6 = .ok (.if_icmp .ne 44, 3) := by decide +kernel
theorem dX10_remember_9 : decode cX10_remember 9 = .ok (.iconst 0, 1) := by decide +kernel
theorem dX10_remember_10 : decode cX10_remember 10 = .ok (.istore_n 1, 1) := by decide +kernel
theorem dX10_remember_11 : decode cX10_remember 11 = .ok (.iload_n 1, 1) := by decide +kernel
theorem dX10_remember_12 : decode cX10_remember 12 = .ok (.sipush 13689, 3) := by decide +kernel
theorem dX10_remember_15 : decode cX10_remember 15 = .ok (.if_icmp .ge 25, 3) := by decide +kernel
theorem dX10_remember_18 : decode cX10_remember 18 = .ok (.aload_n 0, 1) := by decide +kernel
theorem dX10_remember_19 : decode cX10_remember 19 = .ok (.getfield 84, 3) := by decide +kernel
theorem dX10_remember_22 : decode cX10_remember 22 = .ok (.iload_n 1, 1) := by decide +kernel
theorem dX10_remember_23 : decode cX10_remember 23 = .ok (.aload_n 0, 1) := by decide +kernel
theorem dX10_remember_24 : decode cX10_remember 24 = .ok (.getfield 84, 3) := by decide +kernel
theorem dX10_remember_27 : decode cX10_remember 27 = .ok (.iload_n 1, 1) := by decide +kernel
theorem dX10_remember_28 : decode cX10_remember 28 = .ok (.sipush 351, 3) := by decide +kernel
theorem dX10_remember_31 : decode cX10_remember 31 = .ok (.iadd, 1) := by decide +kernel
theorem dX10_remember_32 : decode cX10_remember 32 = .ok (.iaload, 1) := by decide +kernel
theorem dX10_remember_33 : decode cX10_remember 33 = .ok (.iastore, 1) := by decide +kernel
theorem dX10_remember_34 : decode cX10_remember 34 = .ok (.iinc 1 1, 3) := by decide +kernel
theorem dX10_remember_37 : decode cX10_remember 37 = .ok (.goto (-26), 3) := by decide +kernel
theorem dX10_remember_40 : decode cX10_remember 40 = .ok (.aload_n 0, 1) := by decide +kernel
theorem dX10_remember_41 : decode cX10_remember 41 = .ok (.dup, 1) := by decide +kernel
theorem dX10_remember_42 : decode cX10_remember 42 = .ok (.getfield 300, 3) := by decide +kernel
theorem dX10_remember_45 : decode cX10_remember 45 = .ok (.iconst 1, 1) := by decide +kernel
theorem dX10_remember_46 : decode cX10_remember 46 = .ok (.isub, 1) := by decide +kernel
theorem dX10_remember_47 : decode cX10_remember 47 = .ok (.putfield 300, 3) := by decide +kernel
theorem dX10_remember_50 : decode cX10_remember 50 = .ok (.iconst 0, 1) := by decide +kernel
theorem dX10_remember_51 : decode cX10_remember 51 = .ok (.istore_n 1, 1) := by decide +kernel
theorem dX10_remember_52 : decode cX10_remember 52 = .ok (.iload_n 1, 1) := by decide +kernel
theorem dX10_remember_53 : decode cX10_remember 53 = .ok (.sipush 351, 3) := by decide +kernel
theorem dX10_remember_56 : decode cX10_remember 56 = .ok (.if_icmp .ge 30, 3) := by decide +kernel
theorem dX10_remember_59 : decode cX10_remember 59 = .ok (.aload_n 0, 1) := by decide +kernel
theorem dX10_remember_60 : decode cX10_remember 60 = .ok (.getfield 84, 3) := by decide +kernel
theorem dX10_remember_63 : decode cX10_remember 63 = .ok (.sipush 351, 3) := by decide +kernel
theorem dX10_remember_66 : decode cX10_remember 66 = .ok (.aload_n 0, 1) := by decide +kernel
theorem dX10_remember_67 : decode cX10_remember 67 = .ok (.getfield 300, 3) := by decide +kernel
theorem dX10_remember_70 : decode cX10_remember 70 = .ok (.imul, 1) := by decide +kernel
theorem dX10_remember_71 : decode cX10_remember 71 = .ok (.iload_n 1, 1) := by decide +kernel
theorem dX10_remember_72 : decode cX10_remember 72 = .ok (.iadd, 1) := by decide +kernel
theorem dX10_remember_73 : decode cX10_remember 73 = .ok (.aload_n 0, 1) := by decide +kernel
theorem dX10_remember_74 : decode cX10_remember 74 = .ok (.getfield 61, 3) := by decide +kernel
theorem dX10_remember_77 : decode cX10_remember 77 = .ok (.iload_n 1, 1) := by decide +kernel
theorem dX10_remember_78 : decode cX10_remember 78 = .ok (.iaload, 1) := by decide +kernel
theorem dX10_remember_79 : decode cX10_remember 79 = .ok (.iastore, 1) := by decide +kernel
theorem dX10_remember_80 : decode cX10_remember 80 = .ok (.iinc 1 1, 3) := by decide +kernel
theorem dX10_remember_83 : decode cX10_remember 83 = .ok (.goto (-31), 3) := by decide +kernel
theorem dX10_remember_86 : decode cX10_remember 86 = .ok (.aload_n 0, 1) := by decide +kernel
theorem dX10_remember_87 : decode cX10_remember 87 = .ok (.dup, 1) := by decide +kernel
theorem dX10_remember_88 : decode cX10_remember 88 = .ok (.getfield 300, 3) := by decide +kernel
theorem dX10_remember_91 : decode cX10_remember 91 = .ok (.iconst 1, 1) := by decide +kernel
theorem dX10_remember_92 : decode cX10_remember 92 = .ok (.iadd, 1) := by decide +kernel
theorem dX10_remember_93 : decode cX10_remember 93 = .ok (.putfield 300, 3) := by decide +kernel
theorem dX10_remember_96 : decode cX10_remember 96 = .ok (.return_, 1) := by decide +kernel
theorem dX10_writes_0 : decode cX10_writes 0 = .ok (.aload_n 0, 1) := by decide +kernel
theorem dX10_writes_1 : decode cX10_writes 1 = .ok (.bipush 110, 2) := by decide +kernel
theorem dX10_writes_3 : decode cX10_writes 3 = .ok (.iaload, 1) := by decide +kernel
theorem dX10_writes_4 : decode cX10_writes 4 = .ok (.bipush 60, 2) := by decide +kernel
theorem dX10_writes_6 : decode cX10_writes 6 = .ok (.if_icmp .ne 44, 3) := by decide +kernel
theorem dX10_writes_9 : decode cX10_writes 9 = .ok (.iconst 1, 1) := by decide +kernel
theorem dX10_writes_10 : decode cX10_writes 10 = .ok (.istore 5, 2) := by decide +kernel
theorem dX10_writes_12 : decode cX10_writes 12 = .ok (.iload 5, 2) := by decide +kernel
theorem dX10_writes_14 : decode cX10_writes 14 = .ok (.sipush 236, 3) := by decide +kernel
theorem dX10_writes_17 : decode cX10_writes 17 = .ok (.if_icmp .gt 25, 3) := by decide +kernel
theorem dX10_writes_20 : decode cX10_writes 20 = .ok (.aload_n 0, 1) := by decide +kernel
theorem dX10_writes_21 : decode cX10_writes 21 = .ok (.bipush 110, 2) := by decide +kernel
theorem dX10_writes_23 : decode cX10_writes 23 = .ok (.iload 5, 2) := by decide +kernel
theorem dX10_writes_25 : decode cX10_writes 25 = .ok (.iadd, 1) := by decide +kernel
theorem dX10_writes_26 : decode cX10_writes 26 = .ok (.aload_n 0, 1) := by decide +kernel
theorem dX10_writes_27 : decode cX10_writes 27 = .ok (.bipush 110, 2) := by decide +kernel
theorem dX10_writes_29 : decode cX10_writes 29 = .ok (.iload 5, 2) := by decide +kernel
theorem dX10_writes_31 : decode cX10_writes 31 = .ok (.iadd, 1) := by decide +kernel
theorem dX10_writes_32 : decode cX10_writes 32 = .ok (.iconst 4, 1) := by decide +kernel
theorem dX10_writes_33 : decode cX10_writes 33 = .ok (.iadd, 1) := by decide +kernel
theorem dX10_writes_34 : decode cX10_writes 34 = .ok (.iaload, 1) := by decide +kernel
theorem dX10_writes_35 : decode cX10_writes 35 = .ok (.iastore, 1) := by decide +kernel
theorem dX10_writes_36 : decode cX10_writes 36 = .ok (.iinc 5 1, 3) := by decide +kernel
theorem dX10_writes_39 : decode cX10_writes 39 = .ok (.goto (-27), 3) := by decide +kernel
theorem dX10_writes_42 : decode cX10_writes 42 = .ok (.aload_n 0, 1) := by decide +kernel
theorem dX10_writes_43 : decode cX10_writes 43 = .ok (.bipush 110, 2) := by decide +kernel
theorem dX10_writes_45 : decode cX10_writes 45 = .ok (.dup2, 1) := by decide +kernel
theorem dX10_writes_46 : decode cX10_writes 46 = .ok (.iaload, 1) := by decide +kernel
theorem dX10_writes_47 : decode cX10_writes 47 = .ok (.iconst 1, 1) := by decide +kernel
theorem dX10_writes_48 : decode cX10_writes 48 = .ok (.isub, 1) := by decide +kernel
theorem dX10_writes_49 : decode cX10_writes 49 = .ok (.iastore, 1) := by decide +kernel
theorem dX10_writes_50 : decode cX10_writes 50 = .ok (.bipush 111, 2) := by decide +kernel
theorem dX10_writes_52 : decode cX10_writes 52 = .ok (.iconst 4, 1) := by decide +kernel
theorem dX10_writes_53 : decode cX10_writes 53 = .ok (.aload_n 0, 1) := by decide +kernel
theorem dX10_writes_54 : decode cX10_writes 54 = .ok (.bipush 110, 2) := by decide +kernel
theorem dX10_writes_56 : decode cX10_writes 56 = .ok (.iaload, 1) := by decide +kernel
theorem dX10_writes_57 : decode cX10_writes 57 = .ok (.imul, 1) := by decide +kernel
theorem dX10_writes_58 : decode cX10_writes 58 = .ok (.iadd, 1) := by decide +kernel
theorem dX10_writes_59 : decode cX10_writes 59 = .ok (.istore 5, 2) := by decide +kernel
theorem dX10_writes_61 : decode cX10_writes 61 = .ok (.aload_n 0, 1) := by decide +kernel
theorem dX10_writes_62 : decode cX10_writes 62 = .ok (.iload 5, 2) := by decide +kernel
theorem dX10_writes_64 : decode cX10_writes 64 = .ok (.iload_n 1, 1) := by decide +kernel
theorem dX10_writes_65 : decode cX10_writes 65 = .ok (.iastore, 1) := by decide +kernel
theorem dX10_writes_66 : decode cX10_writes 66 = .ok (.aload_n 0, 1) := by decide +kernel
theorem dX10_writes_67 : decode cX10_writes 67 = .ok (.iload 5, 2) := by decide +kernel
theorem dX10_writes_69 : decode cX10_writes 69 = .ok (.iconst 1, 1) := by decide +kernel
theorem dX10_writes_70 : decode cX10_writes 70 = .ok (.iadd, 1) := by decide +kernel
theorem dX10_writes_71 : decode cX10_writes 71 = .ok (.iload_n 2, 1) := by decide +kernel
theorem dX10_writes_72 : decode cX10_writes 72 = .ok (.iastore, 1) := by decide +kernel
theorem dX10_writes_73 : decode cX10_writes 73 = .ok (.aload_n 0, 1) := by decide +kernel
theorem dX10_writes_74 : decode cX10_writes 74 = .ok (.iload 5, 2) := by decide +kernel
theorem dX10_writes_76 : decode cX10_writes 76 = .ok (.iconst 2, 1) := by decide +kernel
theorem dX10_writes_77 : decode cX10_writes 77 = .ok (.iadd, 1) := by decide +kernel
theorem dX10_writes_78 : decode cX10_writes 78 = .ok (.iload_n 3, 1) := by decide +kernel
theorem dX10_writes_79 : decode cX10_writes 79 = .ok (.iastore, 1) := by decide +kernel
theorem dX10_writes_80 : decode cX10_writes 80 = .ok (.aload_n 0, 1) := by decide +kernel
theorem dX10_writes_81 : decode cX10_writes 81 = .ok (.iload 5, 2) := by decide +kernel
theorem dX10_writes_83 : decode cX10_writes 83 = .ok (.iconst 3, 1) := by decide +kernel
theorem dX10_writes_84 : decode cX10_writes 84 = .ok (.iadd, 1) := by decide +kernel
theorem dX10_writes_85 : decode cX10_writes 85 = .ok (.iload 4, 2) := by decide +kernel
theorem dX10_writes_87 : decode cX10_writes 87 = .ok (.iastore, 1) := by decide +kernel
theorem dX10_writes_88 : decode cX10_writes 88 = .ok (.aload_n 0, 1) := by decide +kernel
theorem dX10_writes_89 : decode cX10_writes 89 = .ok (.bipush 110, 2) := by decide +kernel
theorem dX10_writes_91 : decode cX10_writes 91 = .ok (.dup2, 1) := by decide +kernel
theorem dX10_writes_92 : decode cX10_writes 92 = .ok (.iaload, 1) := by decide +kernel
theorem dX10_writes_93 : decode cX10_writes 93 = .ok (.iconst 1, 1) := by decide +kernel
theorem dX10_writes_94 : decode cX10_writes 94 = .ok (.iadd, 1) := by decide +kernel
theorem dX10_writes_95 : decode cX10_writes 95 = .ok (.iastore, 1) := by decide +kernel
theorem dX10_writes_96 : decode cX10_writes 96 = .ok (.return_, 1) := by decide +kernel
theorem dX10_stands_0 : decode cX10_stands 0 = .ok (.aload_n 0, 1) := by decide +kernel
theorem dX10_stands_1 : decode cX10_stands 1 = .ok (.bipush 24, 2) := by decide +kernel
theorem dX10_stands_3 : decode cX10_stands 3 = .ok (.bipush 14, 2) := by decide +kernel
theorem dX10_stands_5 : decode cX10_stands 5 = .ok (.iload_n 1, 1) := by decide +kernel
theorem dX10_stands_6 : decode cX10_stands 6 = .ok (.imul, 1) := by decide +kernel
theorem dX10_stands_7 : decode cX10_stands 7 = .ok (.iadd, 1) := by decide +kernel
theorem dX10_stands_8 : decode cX10_stands 8 = .ok (.iload_n 2, 1) := by decide +kernel
theorem dX10_stands_9 : decode cX10_stands 9 = .ok (.iastore, 1) := by decide +kernel
theorem dX10_stands_10 : decode cX10_stands 10 = .ok (.aload_n 0, 1) := by decide +kernel
theorem dX10_stands_11 : decode cX10_stands 11 = .ok (.bipush 24, 2) := by decide +kernel
theorem dX10_stands_13 : decode cX10_stands 13 = .ok (.bipush 14, 2) := by decide +kernel
theorem dX10_stands_15 : decode cX10_stands 15 = .ok (.iload_n 1, 1) := by decide +kernel
theorem dX10_stands_16 : decode cX10_stands 16 = .ok (.imul, 1) := by decide +kernel
theorem dX10_stands_17 : decode cX10_stands 17 = .ok (.iadd, 1) := by decide +kernel
theorem dX10_stands_18 : decode cX10_stands 18 = .ok (.iconst 1, 1) := by decide +kernel
theorem dX10_stands_19 : decode cX10_stands 19 = .ok (.iadd, 1) := by decide +kernel
theorem dX10_stands_20 : decode cX10_stands 20 = .ok (.iconst 1, 1) := by decide +kernel
theorem dX10_stands_21 : decode cX10_stands 21 = .ok (.iastore, 1) := by decide +kernel
theorem dX10_stands_22 : decode cX10_stands 22 = .ok (.return_, 1) := by decide +kernel
theorem dX10_canRead_0 : decode cX10_canRead 0 = .ok (.aload_n 0, 1) := by decide +kernel
theorem dX10_canRead_1 : decode cX10_canRead 1 = .ok (.aload_n 1, 1) := by decide +kernel
theorem dX10_canRead_2 : decode cX10_canRead 2 = .ok (.iload_n 2, 1) := by decide +kernel
theorem dX10_canRead_3 : decode cX10_canRead 3 = .ok (.invokevirtual 369, 3) := by decide +kernel
theorem dX10_canRead_6 : decode cX10_canRead 6 = .ok (.ifCond .eq 40, 3) := by decide +kernel
theorem dX10_canRead_9 : decode cX10_canRead 9 = .ok (.aload_n 0, 1) := by decide +kernel
theorem dX10_canRead_10 : decode cX10_canRead 10 = .ok (.iload_n 3, 1) := by decide +kernel
theorem dX10_canRead_11 : decode cX10_canRead 11 = .ok (.invokevirtual 346, 3) := by decide +kernel
theorem dX10_canRead_14 : decode cX10_canRead 14 = .ok (.ifCond .eq 32, 3) := by decide +kernel
theorem dX10_canRead_17 : decode cX10_canRead 17 = .ok (.aload_n 1, 1) := by decide +kernel
theorem dX10_canRead_18 : decode cX10_canRead 18 = .ok (.iconst 2, 1) := by decide +kernel
theorem dX10_canRead_19 : decode cX10_canRead 19 = .ok (.iload_n 3, 1) := by decide +kernel
theorem dX10_canRead_20 : decode cX10_canRead 20 = .ok (.imul, 1) := by decide +kernel
theorem dX10_canRead_21 : decode cX10_canRead 21 = .ok (.iaload, 1) := by decide +kernel
theorem dX10_canRead_22 : decode cX10_canRead 22 = .ok (.ifCond .le 24, 3) := by decide +kernel
theorem dX10_canRead_25 : decode cX10_canRead 25 = .ok (.aload_n 0, 1) := by decide +kernel
theorem dX10_canRead_26 : decode cX10_canRead 26 = .ok (.aload_n 1, 1) := by decide +kernel
theorem dX10_canRead_27 : decode cX10_canRead 27 = .ok (.iload_n 2, 1) := by decide +kernel
theorem dX10_canRead_28 : decode cX10_canRead 28 = .ok (.aload_n 0, 1) := by decide +kernel
theorem dX10_canRead_29 : decode cX10_canRead 29 = .ok (.getfield 43, 3) := by decide +kernel
theorem dX10_canRead_32 : decode cX10_canRead 32 = .ok (.iconst 4, 1) := by decide +kernel
theorem dX10_canRead_33 : decode cX10_canRead 33 = .ok (.iload_n 3, 1) := by decide +kernel
theorem dX10_canRead_34 : decode cX10_canRead 34 = .ok (.imul, 1) := by decide +kernel
theorem dX10_canRead_35 : decode cX10_canRead 35 = .ok (.iaload, 1) := by decide +kernel
theorem dX10_canRead_36 : decode cX10_canRead 36 = .ok (.invokevirtual 373, 3) := by decide +kernel
theorem dX10_canRead_39 : decode cX10_canRead 39 = .ok (.ifCond .eq 7, 3) := by decide +kernel
theorem dX10_canRead_42 : decode cX10_canRead 42 = .ok (.iconst 1, 1) := by decide +kernel
theorem dX10_canRead_43 : decode cX10_canRead 43 = .ok (.goto 4, 3) := by decide +kernel
theorem dX10_canRead_46 : decode cX10_canRead 46 = .ok (.iconst 0, 1) := by decide +kernel
theorem dX10_canRead_47 : decode cX10_canRead 47 = .ok (.ireturn, 1) := by decide +kernel
theorem dX10_reads_0 : decode cX10_reads 0 = .ok (.aload_n 1, 1) := by decide +kernel
theorem dX10_reads_1 : decode cX10_reads 1 = .ok (.iload_n 2, 1) := by decide +kernel
theorem dX10_reads_2 : decode cX10_reads 2 = .ok (.aload_n 0, 1) := by decide +kernel
theorem dX10_reads_3 : decode cX10_reads 3 = .ok (.getfield 43, 3) := by decide +kernel
theorem dX10_reads_6 : decode cX10_reads 6 = .ok (.iconst 4, 1) := by decide +kernel
theorem dX10_reads_7 : decode cX10_reads 7 = .ok (.iload_n 3, 1) := by decide +kernel
theorem dX10_reads_8 : decode cX10_reads 8 = .ok (.imul, 1) := by decide +kernel
theorem dX10_reads_9 : decode cX10_reads 9 = .ok (.iaload, 1) := by decide +kernel
theorem dX10_reads_10 : decode cX10_reads 10 = .ok (.invokestatic 376, 3) := by decide +kernel
theorem dX10_reads_13 : decode cX10_reads 13 = .ok (.aload_n 1, 1) := by decide +kernel
theorem dX10_reads_14 : decode cX10_reads 14 = .ok (.iload_n 2, 1) := by decide +kernel
theorem dX10_reads_15 : decode cX10_reads 15 = .ok (.iload_n 3, 1) := by decide +kernel
theorem dX10_reads_16 : decode cX10_reads 16 = .ok (.aload_n 1, 1) := by decide +kernel
theorem dX10_reads_17 : decode cX10_reads 17 = .ok (.iconst 2, 1) := by decide +kernel
theorem dX10_reads_18 : decode cX10_reads 18 = .ok (.iload_n 3, 1) := by decide +kernel
theorem dX10_reads_19 : decode cX10_reads 19 = .ok (.imul, 1) := by decide +kernel
theorem dX10_reads_20 : decode cX10_reads 20 = .ok (.iconst 1, 1) := by decide +kernel
theorem dX10_reads_21 : decode cX10_reads 21 = .ok (.iadd, 1) := by decide +kernel
theorem dX10_reads_22 : decode cX10_reads 22 = .ok (.iaload, 1) := by decide +kernel
theorem dX10_reads_23 : decode cX10_reads 23 = .ok (.invokestatic 380, 3) := by decide +kernel
theorem dX10_reads_26 : decode cX10_reads 26 = .ok (.aload_n 0, 1) := by decide +kernel
theorem dX10_reads_27 : decode cX10_reads 27 = .ok (.aload_n 1, 1) := by decide +kernel
theorem dX10_reads_28 : decode cX10_reads 28 = .ok (.iload_n 2, 1) := by decide +kernel
theorem dX10_reads_29 : decode cX10_reads 29 = .ok (.invokevirtual 384, 3) := by decide +kernel
theorem dX10_reads_32 : decode cX10_reads 32 = .ok (.istore 4, 2) := by decide +kernel
theorem dX10_reads_34 : decode cX10_reads 34 = .ok (.aload_n 1, 1) := by decide +kernel
theorem dX10_reads_35 : decode cX10_reads 35 = .ok (.iconst 0, 1) := by decide +kernel
theorem dX10_reads_36 : decode cX10_reads 36 = .ok (.iload_n 2, 1) := by decide +kernel
theorem dX10_reads_37 : decode cX10_reads 37 = .ok (.iload_n 3, 1) := by decide +kernel
theorem dX10_reads_38 : decode cX10_reads 38 = .ok (.iload 4, 2) := by decide +kernel
theorem dX10_reads_40 : decode cX10_reads 40 = .ok (.invokestatic 387, 3) := by decide +kernel
theorem dX10_reads_43 : decode cX10_reads 43 = .ok (.iload 4, 2) := by decide +kernel
theorem dX10_reads_45 : decode cX10_reads 45 = .ok (.ireturn, 1) := by decide +kernel
theorem dX10_read_0 : decode cX10_read 0 = .ok (.aload_n 0, 1) := by decide +kernel
theorem dX10_read_1 : decode cX10_read 1 = .ok (.iconst 0, 1) := by decide +kernel
theorem dX10_read_2 : decode cX10_read 2 = .ok (.putfield 96, 3) := by decide +kernel
theorem dX10_read_5 : decode cX10_read 5 = .ok (.aload_n 0, 1) := by decide +kernel
theorem dX10_read_6 : decode cX10_read 6 = .ok (.aload_n 0, 1) := by decide +kernel
theorem dX10_read_7 : decode cX10_read 7 = .ok (.getfield 61, 3) := by decide +kernel
theorem dX10_read_10 : decode cX10_read 10 = .ok (.iload_n 1, 1) := by decide +kernel
theorem dX10_read_11 : decode cX10_read 11 = .ok (.iload_n 2, 1) := by decide +kernel
theorem dX10_read_12 : decode cX10_read 12 = .ok (.invokevirtual 391, 3) := by decide +kernel
theorem dX10_read_15 : decode cX10_read 15 = .ok (.ifCond .ne 5, 3) := by decide +kernel
theorem dX10_read_18 : decode cX10_read 18 = .ok (.iconst (-1), 1) := by decide +kernel
theorem dX10_read_19 : decode cX10_read 19 = .ok (.ireturn, 1) := by decide +kernel
theorem dX10_read_20 : decode cX10_read 20 = .ok (.aload_n 0, 1) := by decide +kernel
theorem dX10_read_21 : decode cX10_read 21 = .ok (.invokevirtual 394, 3) := by decide +kernel
theorem dX10_read_24 : decode cX10_read 24 = .ok (.aload_n 0, 1) := by decide +kernel
theorem dX10_read_25 : decode cX10_read 25 = .ok (.aload_n 0, 1) := by decide +kernel
theorem dX10_read_26 : decode cX10_read 26 = .ok (.getfield 61, 3) := by decide +kernel
theorem dX10_read_29 : decode cX10_read 29 = .ok (.iload_n 1, 1) := by decide +kernel
theorem dX10_read_30 : decode cX10_read 30 = .ok (.iload_n 2, 1) := by decide +kernel
theorem dX10_read_31 : decode cX10_read 31 = .ok (.invokevirtual 397, 3) := by decide +kernel
theorem dX10_read_34 : decode cX10_read 34 = .ok (.istore_n 3, 1) := by decide +kernel
theorem dX10_read_35 : decode cX10_read 35 = .ok (.aload_n 0, 1) := by decide +kernel
theorem dX10_read_36 : decode cX10_read 36 = .ok (.getfield 61, 3) := by decide +kernel
theorem dX10_read_39 : decode cX10_read 39 = .ok (.iconst 2, 1) := by decide +kernel
theorem dX10_read_40 : decode cX10_read 40 = .ok (.iload_n 2, 1) := by decide +kernel
theorem dX10_read_41 : decode cX10_read 41 = .ok (.imul, 1) := by decide +kernel
theorem dX10_read_42 : decode cX10_read 42 = .ok (.iconst 1, 1) := by decide +kernel
theorem dX10_read_43 : decode cX10_read 43 = .ok (.iadd, 1) := by decide +kernel
theorem dX10_read_44 : decode cX10_read 44 = .ok (.iaload, 1) := by decide +kernel
theorem dX10_read_45 : decode cX10_read 45 = .ok (.ireturn, 1) := by decide +kernel
theorem dX10_canRecut_0 : decode cX10_canRecut 0 = .ok (.aload_n 0, 1) := by decide +kernel
theorem dX10_canRecut_1 : decode cX10_canRecut 1 = .ok (.aload_n 1, 1) := by decide +kernel
theorem dX10_canRecut_2 : decode cX10_canRecut 2 = .ok (.iload_n 2, 1) := by decide +kernel
theorem dX10_canRecut_3 : decode cX10_canRecut 3 = .ok (.invokevirtual 369, 3) := by decide +kernel
theorem dX10_canRecut_6 : decode cX10_canRecut 6 = .ok (.ifCond .eq 41, 3) := by decide +kernel
theorem dX10_canRecut_9 : decode cX10_canRecut 9 = .ok (.aload_n 0, 1) := by decide +kernel
theorem dX10_canRecut_10 : decode cX10_canRecut 10 = .ok (.iload_n 3, 1) := by decide +kernel
theorem dX10_canRecut_11 : decode cX10_canRecut 11 = .ok (.invokevirtual 346, 3) := by decide +kernel
theorem dX10_canRecut_14 : decode cX10_canRecut 14 = .ok (.ifCond .eq 33, 3) := by decide +kernel
theorem dX10_canRecut_17 : decode cX10_canRecut 17 = .ok (.aload_n 1, 1) := by decide +kernel
theorem dX10_canRecut_18 : decode cX10_canRecut 18 = .ok (.iload_n 2, 1) := by decide +kernel
theorem dX10_canRecut_19 : decode cX10_canRecut 19 = .ok (.iload_n 3, 1) := by decide +kernel
theorem dX10_canRecut_20 : decode cX10_canRecut 20 = .ok (.invokestatic 351, 3) := by decide +kernel
theorem dX10_canRecut_23 : decode cX10_canRecut 23 = .ok (.ifCond .eq 24, 3) := by decide +kernel
theorem dX10_canRecut_26 : decode cX10_canRecut 26 = .ok (.aload_n 0, 1) := by decide +kernel
theorem dX10_canRecut_27 : decode cX10_canRecut 27 = .ok (.aload_n 1, 1) := by decide +kernel
theorem dX10_canRecut_28 : decode cX10_canRecut 28 = .ok (.iload_n 2, 1) := by decide +kernel
theorem dX10_canRecut_29 : decode cX10_canRecut 29 = .ok (.aload_n 0, 1) := by decide +kernel
theorem dX10_canRecut_30 : decode cX10_canRecut 30 = .ok (.getfield 43, 3) := by decide +kernel
theorem dX10_canRecut_33 : decode cX10_canRecut 33 = .ok (.iconst 4, 1) := by decide +kernel
theorem dX10_canRecut_34 : decode cX10_canRecut 34 = .ok (.iload_n 3, 1) := by decide +kernel
theorem dX10_canRecut_35 : decode cX10_canRecut 35 = .ok (.imul, 1) := by decide +kernel
theorem dX10_canRecut_36 : decode cX10_canRecut 36 = .ok (.iaload, 1) := by decide +kernel
theorem dX10_canRecut_37 : decode cX10_canRecut 37 = .ok (.invokevirtual 373, 3) := by decide +kernel
theorem dX10_canRecut_40 : decode cX10_canRecut 40 = .ok (.ifCond .eq 7, 3) := by decide +kernel
theorem dX10_canRecut_43 : decode cX10_canRecut 43 = .ok (.iconst 1, 1) := by decide +kernel
theorem dX10_canRecut_44 : decode cX10_canRecut 44 = .ok (.goto 4, 3) := by decide +kernel
theorem dX10_canRecut_47 : decode cX10_canRecut 47 = .ok (.iconst 0, 1) := by decide +kernel
theorem dX10_canRecut_48 : decode cX10_canRecut 48 = .ok (.ireturn, 1) := by decide +kernel
theorem dX10_recuts_0 : decode cX10_recuts 0 = .ok (.aload_n 1, 1) := by decide +kernel
theorem dX10_recuts_1 : decode cX10_recuts 1 = .ok (.iload_n 2, 1) := by decide +kernel
theorem dX10_recuts_2 : decode cX10_recuts 2 = .ok (.aload_n 0, 1) := by decide +kernel
theorem dX10_recuts_3 : decode cX10_recuts 3 = .ok (.getfield 43, 3) := by decide +kernel
theorem dX10_recuts_6 : decode cX10_recuts 6 = .ok (.iconst 4, 1) := by decide +kernel
theorem dX10_recuts_7 : decode cX10_recuts 7 = .ok (.iload_n 3, 1) := by decide +kernel
theorem dX10_recuts_8 : decode cX10_recuts 8 = .ok (.imul, 1) := by decide +kernel
theorem dX10_recuts_9 : decode cX10_recuts 9 = .ok (.iaload, 1) := by decide +kernel
theorem dX10_recuts_10 : decode cX10_recuts 10 = .ok (.invokestatic 376, 3) := by decide +kernel
theorem dX10_recuts_13 : decode cX10_recuts 13 = .ok (.aload_n 1, 1) := by decide +kernel
theorem dX10_recuts_14 : decode cX10_recuts 14 = .ok (.iconst 2, 1) := by decide +kernel
theorem dX10_recuts_15 : decode cX10_recuts 15 = .ok (.iload_n 3, 1) := by decide +kernel
theorem dX10_recuts_16 : decode cX10_recuts 16 = .ok (.imul, 1) := by decide +kernel
theorem dX10_recuts_17 : decode cX10_recuts 17 = .ok (.bipush 9, 2) := by decide +kernel
theorem dX10_recuts_19 : decode cX10_recuts 19 = .ok (.iastore, 1) := by decide +kernel
theorem dX10_recuts_20 : decode cX10_recuts 20 = .ok (.aload_n 1, 1) := by decide +kernel
theorem dX10_recuts_21 : decode cX10_recuts 21 = .ok (.iconst 2, 1) := by decide +kernel
theorem dX10_recuts_22 : decode cX10_recuts 22 = .ok (.iload_n 3, 1) := by decide +kernel
theorem dX10_recuts_23 : decode cX10_recuts 23 = .ok (.imul, 1) := by decide +kernel
theorem dX10_recuts_24 : decode cX10_recuts 24 = .ok (.iconst 1, 1) := by decide +kernel
theorem dX10_recuts_25 : decode cX10_recuts 25 = .ok (.iadd, 1) := by decide +kernel
theorem dX10_recuts_26 : decode cX10_recuts 26 = .ok (.aload_n 1, 1) := by decide +kernel
theorem dX10_recuts_27 : decode cX10_recuts 27 = .ok (.iload_n 2, 1) := by decide +kernel
theorem dX10_recuts_28 : decode cX10_recuts 28 = .ok (.iload_n 3, 1) := by decide +kernel
theorem dX10_recuts_29 : decode cX10_recuts 29 = .ok (.invokestatic 358, 3) := by decide +kernel
theorem dX10_recuts_32 : decode cX10_recuts 32 = .ok (.iastore, 1) := by decide +kernel
theorem dX10_recuts_33 : decode cX10_recuts 33 = .ok (.aload_n 1, 1) := by decide +kernel
theorem dX10_recuts_34 : decode cX10_recuts 34 = .ok (.iconst 1, 1) := by decide +kernel
theorem dX10_recuts_35 : decode cX10_recuts 35 = .ok (.iload_n 2, 1) := by decide +kernel
theorem dX10_recuts_36 : decode cX10_recuts 36 = .ok (.iload_n 3, 1) := by decide +kernel
theorem dX10_recuts_37 : decode cX10_recuts 37 = .ok (.iconst 0, 1) := by decide +kernel
theorem dX10_recuts_38 : decode cX10_recuts 38 = .ok (.invokestatic 387, 3) := by decide +kernel
theorem dX10_recuts_41 : decode cX10_recuts 41 = .ok (.return_, 1) := by decide +kernel
theorem dX10_recut_0 : decode cX10_recut 0 = .ok (.aload_n 0, 1) := by decide +kernel
theorem dX10_recut_1 : decode cX10_recut 1 = .ok (.iconst 0, 1) := by decide +kernel
theorem dX10_recut_2 : decode cX10_recut 2 = .ok (.putfield 96, 3) := by decide +kernel
theorem dX10_recut_5 : decode cX10_recut 5 = .ok (.aload_n 0, 1) := by decide +kernel
theorem dX10_recut_6 : decode cX10_recut 6 = .ok (.aload_n 0, 1) := by decide +kernel
theorem dX10_recut_7 : decode cX10_recut 7 = .ok (.getfield 61, 3) := by decide +kernel
theorem dX10_recut_10 : decode cX10_recut 10 = .ok (.iload_n 1, 1) := by decide +kernel
theorem dX10_recut_11 : decode cX10_recut 11 = .ok (.iload_n 2, 1) := by decide +kernel
theorem dX10_recut_12 : decode cX10_recut 12 = .ok (.invokevirtual 400, 3) := by decide +kernel
theorem dX10_recut_15 : decode cX10_recut 15 = .ok (.ifCond .ne 5, 3) := by decide +kernel
theorem dX10_recut_18 : decode cX10_recut 18 = .ok (.iconst (-1), 1) := by decide +kernel
theorem dX10_recut_19 : decode cX10_recut 19 = .ok (.ireturn, 1) := by decide +kernel
theorem dX10_recut_20 : decode cX10_recut 20 = .ok (.aload_n 0, 1) := by decide +kernel
theorem dX10_recut_21 : decode cX10_recut 21 = .ok (.invokevirtual 394, 3) := by decide +kernel
theorem dX10_recut_24 : decode cX10_recut 24 = .ok (.aload_n 0, 1) := by decide +kernel
theorem dX10_recut_25 : decode cX10_recut 25 = .ok (.aload_n 0, 1) := by decide +kernel
theorem dX10_recut_26 : decode cX10_recut 26 = .ok (.getfield 61, 3) := by decide +kernel
theorem dX10_recut_29 : decode cX10_recut 29 = .ok (.iload_n 1, 1) := by decide +kernel
theorem dX10_recut_30 : decode cX10_recut 30 = .ok (.iload_n 2, 1) := by decide +kernel
theorem dX10_recut_31 : decode cX10_recut 31 = .ok (.invokevirtual 403, 3) := by decide +kernel
theorem dX10_recut_34 : decode cX10_recut 34 = .ok (.aload_n 0, 1) := by decide +kernel
theorem dX10_recut_35 : decode cX10_recut 35 = .ok (.getfield 61, 3) := by decide +kernel
theorem dX10_recut_38 : decode cX10_recut 38 = .ok (.iconst 2, 1) := by decide +kernel
theorem dX10_recut_39 : decode cX10_recut 39 = .ok (.iload_n 2, 1) := by decide +kernel
theorem dX10_recut_40 : decode cX10_recut 40 = .ok (.imul, 1) := by decide +kernel
theorem dX10_recut_41 : decode cX10_recut 41 = .ok (.iconst 1, 1) := by decide +kernel
theorem dX10_recut_42 : decode cX10_recut 42 = .ok (.iadd, 1) := by decide +kernel
theorem dX10_recut_43 : decode cX10_recut 43 = .ok (.iaload, 1) := by decide +kernel
theorem dX10_recut_44 : decode cX10_recut 44 = .ok (.ireturn, 1) := by decide +kernel
theorem dX10_canGo_0 : decode cX10_canGo 0 = .ok (.aload_n 0, 1) := by decide +kernel
theorem dX10_canGo_1 : decode cX10_canGo 1 = .ok (.aload_n 1, 1) := by decide +kernel
theorem dX10_canGo_2 : decode cX10_canGo 2 = .ok (.iload_n 2, 1) := by decide +kernel
theorem dX10_canGo_3 : decode cX10_canGo 3 = .ok (.invokevirtual 369, 3) := by decide +kernel
theorem dX10_canGo_6 : decode cX10_canGo 6 = .ok (.ifCond .eq 34, 3) := by decide +kernel
theorem dX10_canGo_9 : decode cX10_canGo 9 = .ok (.aload_n 0, 1) := by decide +kernel
theorem dX10_canGo_10 : decode cX10_canGo 10 = .ok (.iload_n 3, 1) := by decide +kernel
theorem dX10_canGo_11 : decode cX10_canGo 11 = .ok (.invokevirtual 366, 3) := by decide +kernel
theorem dX10_canGo_14 : decode cX10_canGo 14 = .ok (.ifCond .eq 26, 3) := by decide +kernel
theorem dX10_canGo_17 : decode cX10_canGo 17 = .ok (.aload_n 1, 1) := by decide +kernel
theorem dX10_canGo_18 : decode cX10_canGo 18 = .ok (.iload_n 2, 1) := by decide +kernel
theorem dX10_canGo_19 : decode cX10_canGo 19 = .ok (.invokestatic 312, 3) := by decide +kernel
theorem dX10_canGo_22 : decode cX10_canGo 22 = .ok (.iload_n 3, 1) := by decide +kernel
theorem dX10_canGo_23 : decode cX10_canGo 23 = .ok (.if_icmp .eq 17, 3) := by decide +kernel
theorem dX10_canGo_26 : decode cX10_canGo 26 = .ok (.aload_n 0, 1) := by decide +kernel
theorem dX10_canGo_27 : decode cX10_canGo 27 = .ok (.aload_n 1, 1) := by decide +kernel
theorem dX10_canGo_28 : decode cX10_canGo 28 = .ok (.iload_n 2, 1) := by decide +kernel
theorem dX10_canGo_29 : decode cX10_canGo 29 = .ok (.iload_n 3, 1) := by decide +kernel
theorem dX10_canGo_30 : decode cX10_canGo 30 = .ok (.invokevirtual 373, 3) := by decide +kernel
theorem dX10_canGo_33 : decode cX10_canGo 33 = .ok (.ifCond .eq 7, 3) := by decide +kernel
theorem dX10_canGo_36 : decode cX10_canGo 36 = .ok (.iconst 1, 1) := by decide +kernel
theorem dX10_canGo_37 : decode cX10_canGo 37 = .ok (.goto 4, 3) := by decide +kernel
theorem dX10_canGo_40 : decode cX10_canGo 40 = .ok (.iconst 0, 1) := by decide +kernel
theorem dX10_canGo_41 : decode cX10_canGo 41 = .ok (.ireturn, 1) := by decide +kernel
theorem dX10_goes_0 : decode cX10_goes 0 = .ok (.aload_n 0, 1) := by decide +kernel
theorem dX10_goes_1 : decode cX10_goes 1 = .ok (.iload_n 1, 1) := by decide +kernel
theorem dX10_goes_2 : decode cX10_goes 2 = .ok (.iload_n 2, 1) := by decide +kernel
theorem dX10_goes_3 : decode cX10_goes 3 = .ok (.invokestatic 376, 3) := by decide +kernel
theorem dX10_goes_6 : decode cX10_goes 6 = .ok (.aload_n 0, 1) := by decide +kernel
theorem dX10_goes_7 : decode cX10_goes 7 = .ok (.iconst 2, 1) := by decide +kernel
theorem dX10_goes_8 : decode cX10_goes 8 = .ok (.iload_n 1, 1) := by decide +kernel
theorem dX10_goes_9 : decode cX10_goes 9 = .ok (.iload_n 2, 1) := by decide +kernel
theorem dX10_goes_10 : decode cX10_goes 10 = .ok (.iconst 0, 1) := by decide +kernel
theorem dX10_goes_11 : decode cX10_goes 11 = .ok (.invokestatic 387, 3) := by decide +kernel
theorem dX10_goes_14 : decode cX10_goes 14 = .ok (.return_, 1) := by decide +kernel
theorem dX10_go_0 : decode cX10_go 0 = .ok (.aload_n 0, 1) := by decide +kernel
theorem dX10_go_1 : decode cX10_go 1 = .ok (.iconst 0, 1) := by decide +kernel
theorem dX10_go_2 : decode cX10_go 2 = .ok (.putfield 96, 3) := by decide +kernel
theorem dX10_go_5 : decode cX10_go 5 = .ok (.aload_n 0, 1) := by decide +kernel
theorem dX10_go_6 : decode cX10_go 6 = .ok (.aload_n 0, 1) := by decide +kernel
theorem dX10_go_7 : decode cX10_go 7 = .ok (.getfield 61, 3) := by decide +kernel
theorem dX10_go_10 : decode cX10_go 10 = .ok (.iload_n 1, 1) := by decide +kernel
theorem dX10_go_11 : decode cX10_go 11 = .ok (.iload_n 2, 1) := by decide +kernel
theorem dX10_go_12 : decode cX10_go 12 = .ok (.invokevirtual 406, 3) := by decide +kernel
theorem dX10_go_15 : decode cX10_go 15 = .ok (.ifCond .ne 5, 3) := by decide +kernel
theorem dX10_go_18 : decode cX10_go 18 = .ok (.iconst (-1), 1) := by decide +kernel
theorem dX10_go_19 : decode cX10_go 19 = .ok (.ireturn, 1) := by decide +kernel
theorem dX10_go_20 : decode cX10_go 20 = .ok (.aload_n 0, 1) := by decide +kernel
theorem dX10_go_21 : decode cX10_go 21 = .ok (.invokevirtual 394, 3) := by decide +kernel
theorem dX10_go_24 : decode cX10_go 24 = .ok (.aload_n 0, 1) := by decide +kernel
theorem dX10_go_25 : decode cX10_go 25 = .ok (.aload_n 0, 1) := by decide +kernel
theorem dX10_go_26 : decode cX10_go 26 = .ok (.getfield 61, 3) := by decide +kernel
theorem dX10_go_29 : decode cX10_go 29 = .ok (.iload_n 1, 1) := by decide +kernel
theorem dX10_go_30 : decode cX10_go 30 = .ok (.invokestatic 312, 3) := by decide +kernel
theorem dX10_go_33 : decode cX10_go 33 = .ok (.iload_n 2, 1) := by decide +kernel
theorem dX10_go_34 : decode cX10_go 34 = .ok (.invokevirtual 316, 3) := by decide +kernel
theorem dX10_go_37 : decode cX10_go 37 = .ok (.istore_n 3, 1) := by decide +kernel
theorem dX10_go_38 : decode cX10_go 38 = .ok (.aload_n 0, 1) := by decide +kernel
theorem dX10_go_39 : decode cX10_go 39 = .ok (.getfield 61, 3) := by decide +kernel
theorem dX10_go_42 : decode cX10_go 42 = .ok (.iload_n 1, 1) := by decide +kernel
theorem dX10_go_43 : decode cX10_go 43 = .ok (.iload_n 2, 1) := by decide +kernel
theorem dX10_go_44 : decode cX10_go 44 = .ok (.invokestatic 409, 3) := by decide +kernel
theorem dX10_go_47 : decode cX10_go 47 = .ok (.iload_n 3, 1) := by decide +kernel
theorem dX10_go_48 : decode cX10_go 48 = .ok (.ireturn, 1) := by decide +kernel
theorem dX10_tell_0 : decode cX10_tell 0 = .ok (.aload_n 0, 1) := by decide +kernel
theorem dX10_tell_1 : decode cX10_tell 1 = .ok (.iconst 0, 1) := by decide +kernel
theorem dX10_tell_2 : decode cX10_tell 2 = .ok (.putfield 96, 3) := by decide +kernel
theorem dX10_tell_5 : decode cX10_tell 5 = .ok (.aload_n 0, 1) := by decide +kernel
theorem dX10_tell_6 : decode cX10_tell 6 = .ok (.aload_n 0, 1) := by decide +kernel
theorem dX10_tell_7 : decode cX10_tell 7 = .ok (.getfield 61, 3) := by decide +kernel
theorem dX10_tell_10 : decode cX10_tell 10 = .ok (.iload_n 1, 1) := by decide +kernel
theorem dX10_tell_11 : decode cX10_tell 11 = .ok (.invokevirtual 369, 3) := by decide +kernel
theorem dX10_tell_14 : decode cX10_tell 14 = .ok (.ifCond .eq 35, 3) := by decide +kernel
theorem dX10_tell_17 : decode cX10_tell 17 = .ok (.aload_n 0, 1) := by decide +kernel
theorem dX10_tell_18 : decode cX10_tell 18 = .ok (.iload_n 2, 1) := by decide +kernel
theorem dX10_tell_19 : decode cX10_tell 19 = .ok (.invokevirtual 309, 3) := by decide +kernel
theorem dX10_tell_22 : decode cX10_tell 22 = .ok (.ifCond .eq 27, 3) := by decide +kernel
theorem dX10_tell_25 : decode cX10_tell 25 = .ok (.iload_n 1, 1) := by decide +kernel
theorem dX10_tell_26 : decode cX10_tell 26 = .ok (.iload_n 2, 1) := by decide +kernel
theorem dX10_tell_27 : decode cX10_tell 27 = .ok (.if_icmp .eq 22, 3) := by decide +kernel
theorem dX10_tell_30 : decode cX10_tell 30 = .ok (.aload_n 0, 1) := by decide +kernel
theorem dX10_tell_31 : decode cX10_tell 31 = .ok (.getfield 61, 3) := by decide +kernel
theorem dX10_tell_34 : decode cX10_tell 34 = .ok (.iload_n 1, 1) := by decide +kernel
theorem dX10_tell_35 : decode cX10_tell 35 = .ok (.invokestatic 312, 3) := by decide +kernel
theorem dX10_tell_38 : decode cX10_tell 38 = .ok (.aload_n 0, 1) := by decide +kernel
theorem dX10_tell_39 : decode cX10_tell 39 = .ok (.getfield 61, 3) := by decide +kernel
theorem dX10_tell_42 : decode cX10_tell 42 = .ok (.iload_n 2, 1) := by decide +kernel
theorem dX10_tell_43 : decode cX10_tell 43 = .ok (.invokestatic 312, 3) := by decide +kernel
theorem dX10_tell_46 : decode cX10_tell 46 = .ok (.if_icmp .eq 5, 3) := by decide +kernel
theorem dX10_tell_49 : decode cX10_tell 49 = .ok (.iconst (-1), 1) := by decide +kernel
theorem dX10_tell_50 : decode cX10_tell 50 = .ok (.ireturn, 1) := by decide +kernel
theorem dX10_tell_51 : decode cX10_tell 51 = .ok (.aload_n 0, 1) := by decide +kernel
theorem dX10_tell_52 : decode cX10_tell 52 = .ok (.invokevirtual 394, 3) := by decide +kernel
theorem dX10_tell_55 : decode cX10_tell 55 = .ok (.iconst 0, 1) := by decide +kernel
theorem dX10_tell_56 : decode cX10_tell 56 = .ok (.istore_n 3, 1) := by decide +kernel
theorem dX10_tell_57 : decode cX10_tell 57 = .ok (.iconst 0, 1) := by decide +kernel
theorem dX10_tell_58 : decode cX10_tell 58 = .ok (.istore 4, 2) := by decide +kernel
theorem dX10_tell_60 : decode cX10_tell 60 = .ok (.iload 4, 2) := by decide +kernel
theorem dX10_tell_62 : decode cX10_tell 62 = .ok (.aload_n 0, 1) := by decide +kernel
theorem dX10_tell_63 : decode cX10_tell 63 = .ok (.getfield 291, 3) := by decide +kernel
theorem dX10_tell_66 : decode cX10_tell 66 = .ok (.if_icmp .ge 61, 3) := by decide +kernel
theorem dX10_tell_69 : decode cX10_tell 69 = .ok (.aload_n 0, 1) := by decide +kernel
theorem dX10_tell_70 : decode cX10_tell 70 = .ok (.getfield 61, 3) := by decide +kernel
theorem dX10_tell_73 : decode cX10_tell 73 = .ok (.iload_n 1, 1) := by decide +kernel
theorem dX10_tell_74 : decode cX10_tell 74 = .ok (.iload 4, 2) := by decide +kernel
theorem dX10_tell_76 : decode cX10_tell 76 = .ok (.invokestatic 351, 3) := by decide +kernel
theorem dX10_tell_79 : decode cX10_tell 79 = .ok (.ifCond .eq 42, 3) := by decide +kernel
theorem dX10_tell_82 : decode cX10_tell 82 = .ok (.aload_n 0, 1) := by decide +kernel
theorem dX10_tell_83 : decode cX10_tell 83 = .ok (.getfield 61, 3) := by decide +kernel
theorem dX10_tell_86 : decode cX10_tell 86 = .ok (.iload_n 2, 1) := by decide +kernel
theorem dX10_tell_87 : decode cX10_tell 87 = .ok (.iload 4, 2) := by decide +kernel
theorem dX10_tell_89 : decode cX10_tell 89 = .ok (.invokestatic 351, 3) := by decide +kernel
theorem dX10_tell_92 : decode cX10_tell 92 = .ok (.ifCond .eq 6, 3) := by decide +kernel
theorem dX10_tell_95 : decode cX10_tell 95 = .ok (.goto 26, 3) := by decide +kernel
theorem dX10_tell_98 : decode cX10_tell 98 = .ok (.aload_n 0, 1) := by decide +kernel
theorem dX10_tell_99 : decode cX10_tell 99 = .ok (.getfield 61, 3) := by decide +kernel
theorem dX10_tell_102 : decode cX10_tell 102 = .ok (.iload_n 2, 1) := by decide +kernel
theorem dX10_tell_103 : decode cX10_tell 103 = .ok (.iload 4, 2) := by decide +kernel
theorem dX10_tell_105 : decode cX10_tell 105 = .ok (.aload_n 0, 1) := by decide +kernel
theorem dX10_tell_106 : decode cX10_tell 106 = .ok (.getfield 61, 3) := by decide +kernel
theorem dX10_tell_109 : decode cX10_tell 109 = .ok (.iload_n 1, 1) := by decide +kernel
theorem dX10_tell_110 : decode cX10_tell 110 = .ok (.iload 4, 2) := by decide +kernel
theorem dX10_tell_112 : decode cX10_tell 112 = .ok (.invokestatic 358, 3) := by decide +kernel
theorem dX10_tell_115 : decode cX10_tell 115 = .ok (.invokestatic 380, 3) := by decide +kernel
theorem dX10_tell_118 : decode cX10_tell 118 = .ok (.iinc 3 1, 3) := by decide +kernel
theorem dX10_tell_121 : decode cX10_tell 121 = .ok (.iinc 4 1, 3) := by decide +kernel
theorem dX10_tell_124 : decode cX10_tell 124 = .ok (.goto (-64), 3) := by decide +kernel
theorem dX10_tell_127 : decode cX10_tell 127 = .ok (.aload_n 0, 1) := by decide +kernel
theorem dX10_tell_128 : decode cX10_tell 128 = .ok (.getfield 61, 3) := by decide +kernel
theorem dX10_tell_131 : decode cX10_tell 131 = .ok (.iload_n 1, 1) := by decide +kernel
theorem dX10_tell_132 : decode cX10_tell 132 = .ok (.aload_n 0, 1) := by decide +kernel
theorem dX10_tell_133 : decode cX10_tell 133 = .ok (.getfield 61, 3) := by decide +kernel
theorem dX10_tell_136 : decode cX10_tell 136 = .ok (.iload_n 1, 1) := by decide +kernel
theorem dX10_tell_137 : decode cX10_tell 137 = .ok (.invokestatic 312, 3) := by decide +kernel
theorem dX10_tell_140 : decode cX10_tell 140 = .ok (.invokestatic 376, 3) := by decide +kernel
theorem dX10_tell_143 : decode cX10_tell 143 = .ok (.aload_n 0, 1) := by decide +kernel
theorem dX10_tell_144 : decode cX10_tell 144 = .ok (.getfield 61, 3) := by decide +kernel
theorem dX10_tell_147 : decode cX10_tell 147 = .ok (.iconst 3, 1) := by decide +kernel
theorem dX10_tell_148 : decode cX10_tell 148 = .ok (.iload_n 1, 1) := by decide +kernel
theorem dX10_tell_149 : decode cX10_tell 149 = .ok (.iload_n 2, 1) := by decide +kernel
theorem dX10_tell_150 : decode cX10_tell 150 = .ok (.iconst 0, 1) := by decide +kernel
theorem dX10_tell_151 : decode cX10_tell 151 = .ok (.invokestatic 387, 3) := by decide +kernel
theorem dX10_tell_154 : decode cX10_tell 154 = .ok (.iload_n 3, 1) := by decide +kernel
theorem dX10_tell_155 : decode cX10_tell 155 = .ok (.ireturn, 1) := by decide +kernel
theorem dX10_goNight_0 : decode cX10_goNight 0 = .ok (.aload_n 1, 1) := by decide +kernel
theorem dX10_goNight_1 : decode cX10_goNight 1 = .ok (.bipush 109, 2) := by decide +kernel
theorem dX10_goNight_3 : decode cX10_goNight 3 = .ok (.dup2, 1) := by decide +kernel
theorem dX10_goNight_4 : decode cX10_goNight 4 = .ok (.iaload, 1) := by decide +kernel
theorem dX10_goNight_5 : decode cX10_goNight 5 = .ok (.iconst 1, 1) := by decide +kernel
theorem dX10_goNight_6 : decode cX10_goNight 6 = .ok (.iadd, 1) := by decide +kernel
theorem dX10_goNight_7 : decode cX10_goNight 7 = .ok (.iastore, 1) := by decide +kernel
theorem dX10_goNight_8 : decode cX10_goNight 8 = .ok (.aload_n 1, 1) := by decide +kernel
theorem dX10_goNight_9 : decode cX10_goNight 9 = .ok (.bipush 108, 2) := by decide +kernel
theorem dX10_goNight_11 : decode cX10_goNight 11 = .ok (.iconst 0, 1) := by decide +kernel
theorem dX10_goNight_12 : decode cX10_goNight 12 = .ok (.aload_n 1, 1) := by decide +kernel
theorem dX10_goNight_13 : decode cX10_goNight 13 = .ok (.bipush 108, 2) := by decide +kernel
theorem dX10_goNight_15 : decode cX10_goNight 15 = .ok (.iaload, 1) := by decide +kernel
theorem dX10_goNight_16 : decode cX10_goNight 16 = .ok (.aload_n 0, 1) := by decide +kernel
theorem dX10_goNight_17 : decode cX10_goNight 17 = .ok (.getfield 37, 3) := by decide +kernel
theorem dX10_goNight_20 : decode cX10_goNight 20 = .ok (.iconst 3, 1) := by decide +kernel
theorem dX10_goNight_21 : decode cX10_goNight 21 = .ok (.iaload, 1) := by decide +kernel
theorem dX10_goNight_22 : decode cX10_goNight 22 = .ok (.isub, 1) := by decide +kernel
theorem dX10_goNight_23 : decode cX10_goNight 23 = .ok (.invokestatic 324, 3) := by decide +kernel
theorem dX10_goNight_26 : decode cX10_goNight 26 = .ok (.iastore, 1) := by decide +kernel
theorem dX10_goNight_27 : decode cX10_goNight 27 = .ok (.iconst 0, 1) := by decide +kernel
theorem dX10_goNight_28 : decode cX10_goNight 28 = .ok (.istore_n 2, 1) := by decide +kernel
theorem dX10_goNight_29 : decode cX10_goNight 29 = .ok (.iload_n 2, 1) := by decide +kernel
theorem dX10_goNight_30 : decode cX10_goNight 30 = .ok (.aload_n 0, 1) := by decide +kernel
theorem dX10_goNight_31 : decode cX10_goNight 31 = .ok (.getfield 294, 3) := by decide +kernel
theorem dX10_goNight_34 : decode cX10_goNight 34 = .ok (.if_icmp .ge 21, 3) := by decide +kernel
theorem dX10_goNight_37 : decode cX10_goNight 37 = .ok (.aload_n 1, 1) := by decide +kernel
theorem dX10_goNight_38 : decode cX10_goNight 38 = .ok (.bipush 24, 2) := by decide +kernel
theorem dX10_goNight_40 : decode cX10_goNight 40 = .ok (.bipush 14, 2) := by decide +kernel
theorem dX10_goNight_42 : decode cX10_goNight 42 = .ok (.iload_n 2, 1) := by decide +kernel
theorem dX10_goNight_43 : decode cX10_goNight 43 = .ok (.imul, 1) := by decide +kernel
theorem dX10_goNight_44 : decode cX10_goNight 44 = .ok (.iadd, 1) := by decide +kernel
theorem dX10_goNight_45 : decode cX10_goNight 45 = .ok (.iconst 1, 1) := by decide +kernel
theorem dX10_goNight_46 : decode cX10_goNight 46 = .ok (.iadd, 1) := by decide +kernel
theorem dX10_goNight_47 : decode cX10_goNight 47 = .ok (.iconst 0, 1) := by decide +kernel
theorem dX10_goNight_48 : decode cX10_goNight 48 = .ok (.iastore, 1) := by decide +kernel
theorem dX10_goNight_49 : decode cX10_goNight 49 = .ok (.iinc 2 1, 3) := by decide +kernel
theorem dX10_goNight_52 : decode cX10_goNight 52 = .ok (.goto (-23), 3) := by decide +kernel
theorem dX10_goNight_55 : decode cX10_goNight 55 = .ok (.iconst 0, 1) := by decide +kernel
theorem dX10_goNight_56 : decode cX10_goNight 56 = .ok (.istore_n 2, 1) := by decide +kernel
theorem dX10_goNight_57 : decode cX10_goNight 57 = .ok (.aload_n 1, 1) := by decide +kernel
theorem dX10_goNight_58 : decode cX10_goNight 58 = .ok (.bipush 108, 2) := by decide +kernel
theorem dX10_goNight_60 : decode cX10_goNight 60 = .ok (.iaload, 1) := by decide +kernel
theorem dX10_goNight_61 : decode cX10_goNight 61 = .ok (.ifCond .eq 16, 3) := by decide +kernel
theorem dX10_goNight_64 : decode cX10_goNight 64 = .ok (.aload_n 1, 1) := by decide +kernel
theorem dX10_goNight_65 : decode cX10_goNight 65 = .ok (.bipush 109, 2) := by decide +kernel
theorem dX10_goNight_67 : decode cX10_goNight 67 = .ok (.iaload, 1) := by decide +kernel
theorem dX10_goNight_68 : decode cX10_goNight 68 = .ok (.aload_n 0, 1) := by decide +kernel
theorem dX10_goNight_69 : decode cX10_goNight 69 = .ok (.getfield 37, 3) := by decide +kernel
theorem dX10_goNight_72 : decode cX10_goNight 72 = .ok (.iconst 4, 1) := by decide +kernel
theorem dX10_goNight_73 : decode cX10_goNight 73 = .ok (.iaload, 1) := by decide +kernel
theorem dX10_goNight_74 : decode cX10_goNight 74 = .ok (.if_icmp .lt 42, 3) := by decide +kernel
theorem dX10_goNight_77 : decode cX10_goNight 77 = .ok (.iconst 0, 1) := by decide +kernel
theorem dX10_goNight_78 : decode cX10_goNight 78 = .ok (.istore_n 3, 1) := by decide +kernel
theorem dX10_goNight_79 : decode cX10_goNight 79 = .ok (.iload_n 3, 1) := by decide +kernel
theorem dX10_goNight_80 : decode cX10_goNight 80 = .ok (.aload_n 0, 1) := by decide +kernel
theorem dX10_goNight_81 : decode cX10_goNight 81 = .ok (.getfield 291, 3) := by decide +kernel
theorem dX10_goNight_84 : decode cX10_goNight 84 = .ok (.if_icmp .ge 32, 3) := by decide +kernel
theorem dX10_goNight_87 : decode cX10_goNight 87 = .ok (.aload_n 1, 1) := by decide +kernel
theorem dX10_goNight_88 : decode cX10_goNight 88 = .ok (.iconst 2, 1) := by decide +kernel
theorem dX10_goNight_89 : decode cX10_goNight 89 = .ok (.iload_n 3, 1) := by decide +kernel
theorem dX10_goNight_90 : decode cX10_goNight 90 = .ok (.imul, 1) := by decide +kernel
theorem dX10_goNight_91 : decode cX10_goNight 91 = .ok (.iaload, 1) := by decide +kernel
theorem dX10_goNight_92 : decode cX10_goNight 92 = .ok (.ifCond .ne 6, 3) := by decide +kernel
theorem dX10_goNight_95 : decode cX10_goNight 95 = .ok (.goto 15, 3) := by decide +kernel
theorem dX10_goNight_98 : decode cX10_goNight 98 = .ok (.aload_n 1, 1) := by decide +kernel
theorem dX10_goNight_99 : decode cX10_goNight 99 = .ok (.iconst 2, 1) := by decide +kernel
theorem dX10_goNight_100 : decode cX10_goNight 100 = .ok (.iload_n 3, 1) := by decide +kernel
theorem dX10_goNight_101 : decode cX10_goNight 101 = .ok (.imul, 1) := by decide +kernel
theorem dX10_goNight_102 : decode cX10_goNight 102 = .ok (.dup2, 1) := by decide +kernel
theorem dX10_goNight_103 : decode cX10_goNight 103 = .ok (.iaload, 1) := by decide +kernel
theorem dX10_goNight_104 : decode cX10_goNight 104 = .ok (.iconst 1, 1) := by decide +kernel
theorem dX10_goNight_105 : decode cX10_goNight 105 = .ok (.isub, 1) := by decide +kernel
theorem dX10_goNight_106 : decode cX10_goNight 106 = .ok (.iastore, 1) := by decide +kernel
theorem dX10_goNight_107 : decode cX10_goNight 107 = .ok (.iinc 2 1, 3) := by decide +kernel
theorem dX10_goNight_110 : decode cX10_goNight 110 = .ok (.iinc 3 1, 3) := by decide +kernel
theorem dX10_goNight_113 : decode cX10_goNight 113 = .ok (.goto (-34), 3) := by decide +kernel
theorem dX10_goNight_116 : decode cX10_goNight 116 = .ok (.aload_n 1, 1) := by decide +kernel
theorem dX10_goNight_117 : decode cX10_goNight 117 = .ok (.iconst 4, 1) := by decide +kernel
theorem dX10_goNight_118 : decode cX10_goNight 118 = .ok (.iconst (-1), 1) := by decide +kernel
theorem dX10_goNight_119 : decode cX10_goNight 119 = .ok (.iconst (-1), 1) := by decide +kernel
theorem dX10_goNight_120 : decode cX10_goNight 120 = .ok (.iload_n 2, 1) := by decide +kernel
theorem dX10_goNight_121 : decode cX10_goNight 121 = .ok (.invokestatic 387, 3) := by decide +kernel
theorem dX10_goNight_124 : decode cX10_goNight 124 = .ok (.return_, 1) := by decide +kernel
theorem dX10_night_0 : decode cX10_night 0 = .ok (.aload_n 0, 1) := by decide +kernel
theorem dX10_night_1 : decode cX10_night 1 = .ok (.iconst 0, 1) := by decide +kernel
theorem dX10_night_2 : decode cX10_night 2 = .ok (.putfield 96, 3) := by decide +kernel
theorem dX10_night_5 : decode cX10_night 5 = .ok (.aload_n 0, 1) := by decide +kernel
theorem dX10_night_6 : decode cX10_night 6 = .ok (.getfield 291, 3) := by decide +kernel
theorem dX10_night_9 : decode cX10_night 9 = .ok (.ifCond .ne 5, 3) := by decide +kernel
theorem dX10_night_12 : decode cX10_night 12 = .ok (.iconst (-1), 1) := by decide +kernel
theorem dX10_night_13 : decode cX10_night 13 = .ok (.ireturn, 1) := by decide +kernel
theorem dX10_night_14 : decode cX10_night 14 = .ok (.aload_n 0, 1) := by decide +kernel
theorem dX10_night_15 : decode cX10_night 15 = .ok (.invokevirtual 394, 3) := by decide +kernel
theorem dX10_night_18 : decode cX10_night 18 = .ok (.aload_n 0, 1) := by decide +kernel
theorem dX10_night_19 : decode cX10_night 19 = .ok (.aload_n 0, 1) := by decide +kernel
theorem dX10_night_20 : decode cX10_night 20 = .ok (.getfield 61, 3) := by decide +kernel
theorem dX10_night_23 : decode cX10_night 23 = .ok (.invokevirtual 412, 3) := by decide +kernel
theorem dX10_night_26 : decode cX10_night 26 = .ok (.aload_n 0, 1) := by decide +kernel
theorem dX10_night_27 : decode cX10_night 27 = .ok (.getfield 61, 3) := by decide +kernel
theorem dX10_night_30 : decode cX10_night 30 = .ok (.bipush 109, 2) := by decide +kernel
theorem dX10_night_32 : decode cX10_night 32 = .ok (.iaload, 1) := by decide +kernel
theorem dX10_night_33 : decode cX10_night 33 = .ok (.ireturn, 1) := by decide +kernel
theorem dX10_hare_0 : decode cX10_hare 0 = .ok (.aload_n 0, 1) := by decide +kernel
theorem dX10_hare_1 : decode cX10_hare 1 = .ok (.iconst 0, 1) := by decide +kernel
theorem dX10_hare_2 : decode cX10_hare 2 = .ok (.putfield 96, 3) := by decide +kernel
theorem dX10_hare_5 : decode cX10_hare 5 = .ok (.aload_n 0, 1) := by decide +kernel
theorem dX10_hare_6 : decode cX10_hare 6 = .ok (.iload_n 1, 1) := by decide +kernel
theorem dX10_hare_7 : decode cX10_hare 7 = .ok (.invokevirtual 366, 3) := by decide +kernel
theorem dX10_hare_10 : decode cX10_hare 10 = .ok (.ifCond .ne 5, 3) := by decide +kernel
theorem dX10_hare_13 : decode cX10_hare 13 = .ok (.iconst (-1), 1) := by decide +kernel
theorem dX10_hare_14 : decode cX10_hare 14 = .ok (.ireturn, 1) := by decide +kernel
theorem dX10_hare_15 : decode cX10_hare 15 = .ok (.aload_n 0, 1) := by decide +kernel
theorem dX10_hare_16 : decode cX10_hare 16 = .ok (.invokevirtual 394, 3) := by decide +kernel
theorem dX10_hare_19 : decode cX10_hare 19 = .ok (.iconst 0, 1) := by decide +kernel
theorem dX10_hare_20 : decode cX10_hare 20 = .ok (.istore_n 2, 1) := by decide +kernel
theorem dX10_hare_21 : decode cX10_hare 21 = .ok (.iconst 0, 1) := by decide +kernel
theorem dX10_hare_22 : decode cX10_hare 22 = .ok (.istore_n 3, 1) := by decide +kernel
theorem dX10_hare_23 : decode cX10_hare 23 = .ok (.iload_n 3, 1) := by decide +kernel
theorem dX10_hare_24 : decode cX10_hare 24 = .ok (.aload_n 0, 1) := by decide +kernel
theorem dX10_hare_25 : decode cX10_hare 25 = .ok (.getfield 291, 3) := by decide +kernel
theorem dX10_hare_28 : decode cX10_hare 28 = .ok (.if_icmp .ge 56, 3) := by decide +kernel
theorem dX10_hare_31 : decode cX10_hare 31 = .ok (.aload_n 0, 1) := by decide +kernel
theorem dX10_hare_32 : decode cX10_hare 32 = .ok (.getfield 43, 3) := by decide +kernel
theorem dX10_hare_35 : decode cX10_hare 35 = .ok (.iconst 4, 1) := by decide +kernel
theorem dX10_hare_36 : decode cX10_hare 36 = .ok (.iload_n 3, 1) := by decide +kernel
theorem dX10_hare_37 : decode cX10_hare 37 = .ok (.imul, 1) := by decide +kernel
theorem dX10_hare_38 : decode cX10_hare 38 = .ok (.iaload, 1) := by decide +kernel
theorem dX10_hare_39 : decode cX10_hare 39 = .ok (.iload_n 1, 1) := by decide +kernel
theorem dX10_hare_40 : decode cX10_hare 40 = .ok (.if_icmp .eq 6, 3) := by decide +kernel
theorem dX10_hare_43 : decode cX10_hare 43 = .ok (.goto 35, 3) := by decide +kernel
theorem dX10_hare_46 : decode cX10_hare 46 = .ok (.iconst 3, 1) := by decide +kernel
theorem dX10_hare_47 : decode cX10_hare 47 = .ok (.aload_n 0, 1) := by decide +kernel
theorem dX10_hare_48 : decode cX10_hare 48 = .ok (.getfield 61, 3) := by decide +kernel
theorem dX10_hare_51 : decode cX10_hare 51 = .ok (.iconst 2, 1) := by decide +kernel
theorem dX10_hare_52 : decode cX10_hare 52 = .ok (.iload_n 3, 1) := by decide +kernel
theorem dX10_hare_53 : decode cX10_hare 53 = .ok (.imul, 1) := by decide +kernel
theorem dX10_hare_54 : decode cX10_hare 54 = .ok (.iaload, 1) := by decide +kernel
theorem dX10_hare_55 : decode cX10_hare 55 = .ok (.invokestatic 322, 3) := by decide +kernel
theorem dX10_hare_58 : decode cX10_hare 58 = .ok (.istore 4, 2) := by decide +kernel
theorem dX10_hare_60 : decode cX10_hare 60 = .ok (.aload_n 0, 1) := by decide +kernel
theorem dX10_hare_61 : decode cX10_hare 61 = .ok (.getfield 61, 3) := by decide +kernel
theorem dX10_hare_64 : decode cX10_hare 64 = .ok (.iconst 2, 1) := by decide +kernel
theorem dX10_hare_65 : decode cX10_hare 65 = .ok (.iload_n 3, 1) := by decide +kernel
theorem dX10_hare_66 : decode cX10_hare 66 = .ok (.imul, 1) := by decide +kernel
theorem dX10_hare_67 : decode cX10_hare 67 = .ok (.dup2, 1) := by decide +kernel
theorem dX10_hare_68 : decode cX10_hare 68 = .ok (.iaload, 1) := by decide +kernel
theorem dX10_hare_69 : decode cX10_hare 69 = .ok (.iload 4, 2) := by decide +kernel
theorem dX10_hare_71 : decode cX10_hare 71 = .ok (.isub, 1) := by decide +kernel
theorem dX10_hare_72 : decode cX10_hare 72 = .ok (.iastore, 1) := by decide +kernel
theorem dX10_hare_73 : decode cX10_hare 73 = .ok (.iload_n 2, 1) := by decide +kernel
theorem dX10_hare_74 : decode cX10_hare 74 = .ok (.iload 4, 2) := by decide +kernel
theorem dX10_hare_76 : decode cX10_hare 76 = .ok (.iadd, 1) := by decide +kernel
theorem dX10_hare_77 : decode cX10_hare 77 = .ok (.istore_n 2, 1) := by decide +kernel
theorem dX10_hare_78 : decode cX10_hare 78 = .ok (.iinc 3 1, 3) := by decide +kernel
theorem dX10_hare_81 : decode cX10_hare 81 = .ok (.goto (-58), 3) := by decide +kernel
theorem dX10_hare_84 : decode cX10_hare 84 = .ok (.aload_n 0, 1) := by decide +kernel
theorem dX10_hare_85 : decode cX10_hare 85 = .ok (.getfield 61, 3) := by decide +kernel
theorem dX10_hare_88 : decode cX10_hare 88 = .ok (.iconst 5, 1) := by decide +kernel
theorem dX10_hare_89 : decode cX10_hare 89 = .ok (.iconst (-1), 1) := by decide +kernel
theorem dX10_hare_90 : decode cX10_hare 90 = .ok (.iload_n 1, 1) := by decide +kernel
theorem dX10_hare_91 : decode cX10_hare 91 = .ok (.iload_n 2, 1) := by decide +kernel
theorem dX10_hare_92 : decode cX10_hare 92 = .ok (.invokestatic 387, 3) := by decide +kernel
theorem dX10_hare_95 : decode cX10_hare 95 = .ok (.iload_n 2, 1) := by decide +kernel
theorem dX10_hare_96 : decode cX10_hare 96 = .ok (.ireturn, 1) := by decide +kernel
theorem dX10_draw_0 : decode cX10_draw 0 = .ok (.aload_n 0, 1) := by decide +kernel
theorem dX10_draw_1 : decode cX10_draw 1 = .ok (.aload_n 0, 1) := by decide +kernel
theorem dX10_draw_2 : decode cX10_draw 2 = .ok (.getfield 416, 3) := by decide +kernel
theorem dX10_draw_5 : decode cX10_draw 5 = .ok (.ldc2_w 420, 3) := by decide +kernel
theorem dX10_draw_8 : decode cX10_draw 8 = .ok (.lmul, 1) := by decide +kernel
theorem dX10_draw_9 : decode cX10_draw 9 = .ok (.ldc2_w 422, 3) := by decide +kernel
theorem dX10_draw_12 : decode cX10_draw 12 = .ok (.ladd, 1) := by decide +kernel
theorem dX10_draw_13 : decode cX10_draw 13 = .ok (.putfield 416, 3) := by decide +kernel
theorem dX10_draw_16 : decode cX10_draw 16 = .ok (.aload_n 0, 1) := by decide +kernel
theorem dX10_draw_17 : decode cX10_draw 17 = .ok (.getfield 416, 3) := by decide +kernel
theorem dX10_draw_20 : decode cX10_draw 20 = .ok (.bipush 33, 2) := by decide +kernel
theorem dX10_draw_22 : decode cX10_draw 22 = .ok (.lushr, 1) := by decide +kernel
theorem dX10_draw_23 : decode cX10_draw 23 = .ok (.iload_n 1, 1) := by decide +kernel
theorem dX10_draw_24 : decode cX10_draw 24 = .ok (.i2l, 1) := by decide +kernel
theorem dX10_draw_25 : decode cX10_draw 25 = .ok (.lrem, 1) := by decide +kernel
theorem dX10_draw_26 : decode cX10_draw 26 = .ok (.l2i, 1) := by decide +kernel
theorem dX10_draw_27 : decode cX10_draw 27 = .ok (.ireturn, 1) := by decide +kernel
theorem dX10_drawn_0 : decode cX10_drawn 0 = .ok (.aload_n 0, 1) := by decide +kernel
theorem dX10_drawn_1 : decode cX10_drawn 1 = .ok (.aload_n 0, 1) := by decide +kernel
theorem dX10_drawn_2 : decode cX10_drawn 2 = .ok (.getfield 291, 3) := by decide +kernel
theorem dX10_drawn_5 : decode cX10_drawn 5 = .ok (.invokevirtual 424, 3) := by decide +kernel
theorem dX10_drawn_8 : decode cX10_drawn 8 = .ok (.istore_n 2, 1) := by decide +kernel
theorem dX10_drawn_9 : decode cX10_drawn 9 = .ok (.aload_n 0, 1) := by decide +kernel
theorem dX10_drawn_10 : decode cX10_drawn 10 = .ok (.aload_n 0, 1) := by decide +kernel
theorem dX10_drawn_11 : decode cX10_drawn 11 = .ok (.getfield 61, 3) := by decide +kernel
theorem dX10_drawn_14 : decode cX10_drawn 14 = .ok (.iload_n 1, 1) := by decide +kernel
theorem dX10_drawn_15 : decode cX10_drawn 15 = .ok (.iload_n 2, 1) := by decide +kernel
theorem dX10_drawn_16 : decode cX10_drawn 16 = .ok (.invokevirtual 391, 3) := by decide +kernel
theorem dX10_drawn_19 : decode cX10_drawn 19 = .ok (.ifCond .eq 19, 3) := by decide +kernel
theorem dX10_drawn_22 : decode cX10_drawn 22 = .ok (.aload_n 0, 1) := by decide +kernel
theorem dX10_drawn_23 : decode cX10_drawn 23 = .ok (.invokevirtual 394, 3) := by decide +kernel
theorem dX10_drawn_26 : decode cX10_drawn 26 = .ok (.aload_n 0, 1) := by decide +kernel
theorem dX10_drawn_27 : decode cX10_drawn 27 = .ok (.aload_n 0, 1) := by decide +kernel
theorem dX10_drawn_28 : decode cX10_drawn 28 = .ok (.getfield 61, 3) := by decide +kernel
theorem dX10_drawn_31 : decode cX10_drawn 31 = .ok (.iload_n 1, 1) := by decide +kernel
theorem dX10_drawn_32 : decode cX10_drawn 32 = .ok (.iload_n 2, 1) := by decide +kernel
theorem dX10_drawn_33 : decode cX10_drawn 33 = .ok (.invokevirtual 397, 3) := by decide +kernel
theorem dX10_drawn_36 : decode cX10_drawn 36 = .ok (.istore_n 3, 1) := by decide +kernel
theorem dX10_drawn_37 : decode cX10_drawn 37 = .ok (.return_, 1) := by decide +kernel
theorem dX10_drawn_38 : decode cX10_drawn 38 = .ok (.aload_n 0, 1) := by decide +kernel
theorem dX10_drawn_39 : decode cX10_drawn 39 = .ok (.getfield 61, 3) := by decide +kernel
theorem dX10_drawn_42 : decode cX10_drawn 42 = .ok (.iconst 2, 1) := by decide +kernel
theorem dX10_drawn_43 : decode cX10_drawn 43 = .ok (.iload_n 2, 1) := by decide +kernel
theorem dX10_drawn_44 : decode cX10_drawn 44 = .ok (.imul, 1) := by decide +kernel
theorem dX10_drawn_45 : decode cX10_drawn 45 = .ok (.iaload, 1) := by decide +kernel
theorem dX10_drawn_46 : decode cX10_drawn 46 = .ok (.ifCond .gt 16, 3) := by decide +kernel
theorem dX10_drawn_49 : decode cX10_drawn 49 = .ok (.aload_n 0, 1) := by decide +kernel
theorem dX10_drawn_50 : decode cX10_drawn 50 = .ok (.aload_n 0, 1) := by decide +kernel
theorem dX10_drawn_51 : decode cX10_drawn 51 = .ok (.getfield 61, 3) := by decide +kernel
theorem dX10_drawn_54 : decode cX10_drawn 54 = .ok (.iload_n 1, 1) := by decide +kernel
theorem dX10_drawn_55 : decode cX10_drawn 55 = .ok (.iload_n 2, 1) := by decide +kernel
theorem dX10_drawn_56 : decode cX10_drawn 56 = .ok (.invokevirtual 400, 3) := by decide +kernel
theorem dX10_drawn_59 : decode cX10_drawn 59 = .ok (.ifCond .ne 4, 3) := by decide +kernel
theorem dX10_drawn_62 : decode cX10_drawn 62 = .ok (.return_, 1) := by decide +kernel
theorem dX10_drawn_63 : decode cX10_drawn 63 = .ok (.aload_n 0, 1) := by decide +kernel
theorem dX10_drawn_64 : decode cX10_drawn 64 = .ok (.invokevirtual 394, 3) := by decide +kernel
theorem dX10_drawn_67 : decode cX10_drawn 67 = .ok (.aload_n 0, 1) := by decide +kernel
theorem dX10_drawn_68 : decode cX10_drawn 68 = .ok (.aload_n 0, 1) := by decide +kernel
theorem dX10_drawn_69 : decode cX10_drawn 69 = .ok (.getfield 61, 3) := by decide +kernel
theorem dX10_drawn_72 : decode cX10_drawn 72 = .ok (.iload_n 1, 1) := by decide +kernel
theorem dX10_drawn_73 : decode cX10_drawn 73 = .ok (.iload_n 2, 1) := by decide +kernel
theorem dX10_drawn_74 : decode cX10_drawn 74 = .ok (.invokevirtual 403, 3) := by decide +kernel
theorem dX10_drawn_77 : decode cX10_drawn 77 = .ok (.aload_n 0, 1) := by decide +kernel
theorem dX10_drawn_78 : decode cX10_drawn 78 = .ok (.bipush 100, 2) := by decide +kernel
theorem dX10_drawn_80 : decode cX10_drawn 80 = .ok (.invokevirtual 424, 3) := by decide +kernel
theorem dX10_drawn_83 : decode cX10_drawn 83 = .ok (.aload_n 0, 1) := by decide +kernel
theorem dX10_drawn_84 : decode cX10_drawn 84 = .ok (.getfield 363, 3) := by decide +kernel
theorem dX10_drawn_87 : decode cX10_drawn 87 = .ok (.if_icmp .lt 4, 3) := by decide +kernel
theorem dX10_drawn_90 : decode cX10_drawn 90 = .ok (.return_, 1) := by decide +kernel
theorem dX10_drawn_91 : decode cX10_drawn 91 = .ok (.aload_n 0, 1) := by decide +kernel
theorem dX10_drawn_92 : decode cX10_drawn 92 = .ok (.getfield 61, 3) := by decide +kernel
theorem dX10_drawn_95 : decode cX10_drawn 95 = .ok (.iconst 2, 1) := by decide +kernel
theorem dX10_drawn_96 : decode cX10_drawn 96 = .ok (.iload_n 2, 1) := by decide +kernel
theorem dX10_drawn_97 : decode cX10_drawn 97 = .ok (.imul, 1) := by decide +kernel
theorem dX10_drawn_98 : decode cX10_drawn 98 = .ok (.iconst 1, 1) := by decide +kernel
theorem dX10_drawn_99 : decode cX10_drawn 99 = .ok (.iadd, 1) := by decide +kernel
theorem dX10_drawn_100 : decode cX10_drawn 100 = .ok (.aload_n 0, 1) := by decide +kernel
theorem dX10_drawn_101 : decode cX10_drawn 101 = .ok (.getfield 61, 3) := by decide +kernel
theorem dX10_drawn_104 : decode cX10_drawn 104 = .ok (.iconst 2, 1) := by decide +kernel
theorem dX10_drawn_105 : decode cX10_drawn 105 = .ok (.iload_n 2, 1) := by decide +kernel
theorem dX10_drawn_106 : decode cX10_drawn 106 = .ok (.imul, 1) := by decide +kernel
theorem dX10_drawn_107 : decode cX10_drawn 107 = .ok (.iconst 1, 1) := by decide +kernel
theorem dX10_drawn_108 : decode cX10_drawn 108 = .ok (.iadd, 1) := by decide +kernel
theorem dX10_drawn_109 : decode cX10_drawn 109 = .ok (.iaload, 1) := by decide +kernel
theorem dX10_drawn_110 : decode cX10_drawn 110 = .ok (.iconst 1, 1) := by decide +kernel
theorem dX10_drawn_111 : decode cX10_drawn 111 = .ok (.iadd, 1) := by decide +kernel
theorem dX10_drawn_112 : decode cX10_drawn 112 = .ok (.bipush 10, 2) := by decide +kernel
theorem dX10_drawn_114 : decode cX10_drawn 114 = .ok (.irem, 1) := by decide +kernel
theorem dX10_drawn_115 : decode cX10_drawn 115 = .ok (.iastore, 1) := by decide +kernel
theorem dX10_drawn_116 : decode cX10_drawn 116 = .ok (.aload_n 0, 1) := by decide +kernel
theorem dX10_drawn_117 : decode cX10_drawn 117 = .ok (.getfield 61, 3) := by decide +kernel
theorem dX10_drawn_120 : decode cX10_drawn 120 = .ok (.iload_n 1, 1) := by decide +kernel
theorem dX10_drawn_121 : decode cX10_drawn 121 = .ok (.iload_n 2, 1) := by decide +kernel
theorem dX10_drawn_122 : decode cX10_drawn 122 = .ok (.aload_n 0, 1) := by decide +kernel
theorem dX10_drawn_123 : decode cX10_drawn 123 = .ok (.getfield 61, 3) := by decide +kernel
theorem dX10_drawn_126 : decode cX10_drawn 126 = .ok (.iconst 2, 1) := by decide +kernel
theorem dX10_drawn_127 : decode cX10_drawn 127 = .ok (.iload_n 2, 1) := by decide +kernel
theorem dX10_drawn_128 : decode cX10_drawn 128 = .ok (.imul, 1) := by decide +kernel
theorem dX10_drawn_129 : decode cX10_drawn 129 = .ok (.iconst 1, 1) := by decide +kernel
theorem dX10_drawn_130 : decode cX10_drawn 130 = .ok (.iadd, 1) := by decide +kernel
theorem dX10_drawn_131 : decode cX10_drawn 131 = .ok (.iaload, 1) := by decide +kernel
theorem dX10_drawn_132 : decode cX10_drawn 132 = .ok (.invokestatic 380, 3) := by decide +kernel
theorem dX10_drawn_135 : decode cX10_drawn 135 = .ok (.return_, 1) := by decide +kernel
theorem dX10_centuries_0 : decode cX10_centuries 0 = .ok (.aload_n 0, 1) := by decide +kernel
theorem dX10_centuries_1 : decode cX10_centuries 1 = .ok (.iconst 0, 1) := by decide +kernel
theorem dX10_centuries_2 : decode cX10_centuries 2 = .ok (.putfield 96, 3) := by decide +kernel
theorem dX10_centuries_5 : decode cX10_centuries 5 = .ok (.aload_n 0, 1) := by decide +kernel
theorem dX10_centuries_6 : decode cX10_centuries 6 = .ok (.getfield 291, 3) := by decide +kernel
theorem dX10_centuries_9 : decode cX10_centuries 9 = .ok (.ifCond .eq 15, 3) := by decide +kernel
theorem dX10_centuries_12 : decode cX10_centuries 12 = .ok (.iload_n 1, 1) := by decide +kernel
theorem dX10_centuries_13 : decode cX10_centuries 13 = .ok (.i2l, 1) := by decide +kernel
theorem dX10_centuries_14 : decode cX10_centuries 14 = .ok (.lconst 1, 1) := by decide +kernel
theorem dX10_centuries_15 : decode cX10_centuries 15 = .ok (.ldc2_w 427, 3) := by decide +kernel
theorem dX10_centuries_18 : decode cX10_centuries 18 = .ok (.invokestatic 217, 3) := by decide +kernel
theorem dX10_centuries_21 : decode cX10_centuries 21 = .ok (.ifCond .ne 5, 3) := by decide +kernel
theorem dX10_centuries_24 : decode cX10_centuries 24 = .ok (.iconst (-1), 1) := by decide +kernel
theorem dX10_centuries_25 : decode cX10_centuries 25 = .ok (.ireturn, 1) := by decide +kernel
theorem dX10_centuries_26 : decode cX10_centuries 26 = .ok (.aload_n 0, 1) := by decide +kernel
theorem dX10_centuries_27 : decode cX10_centuries 27 = .ok (.lload_n 2, 1) := by decide +kernel
theorem dX10_centuries_28 : decode cX10_centuries 28 = .ok (.putfield 416, 3) := by decide +kernel
theorem dX10_centuries_31 : decode cX10_centuries 31 = .ok (.iconst 0, 1) := by decide +kernel
theorem dX10_centuries_32 : decode cX10_centuries 32 = .ok (.istore 4, 2) := by decide +kernel
theorem dX10_centuries_34 : decode cX10_centuries 34 = .ok (.iload 4, 2) := by decide +kernel
theorem dX10_centuries_36 : decode cX10_centuries 36 = .ok (.iload_n 1, 1) := by decide +kernel
theorem dX10_centuries_37 : decode cX10_centuries 37 = .ok (.if_icmp .ge 58, 3) := by decide +kernel
theorem dX10_centuries_40 : decode cX10_centuries 40 = .ok (.iconst 0, 1) := by decide +kernel
theorem dX10_centuries_41 : decode cX10_centuries 41 = .ok (.istore 5, 2) := by decide +kernel
theorem dX10_centuries_43 : decode cX10_centuries 43 = .ok (.iload 5, 2) := by decide +kernel
theorem dX10_centuries_45 : decode cX10_centuries 45 = .ok (.aload_n 0, 1) := by decide +kernel
theorem dX10_centuries_46 : decode cX10_centuries 46 = .ok (.getfield 294, 3) := by decide +kernel
theorem dX10_centuries_49 : decode cX10_centuries 49 = .ok (.if_icmp .ge 28, 3) := by decide +kernel
theorem dX10_centuries_52 : decode cX10_centuries 52 = .ok (.aload_n 0, 1) := by decide +kernel
theorem dX10_centuries_53 : decode cX10_centuries 53 = .ok (.aload_n 0, 1) := by decide +kernel
theorem dX10_centuries_54 : decode cX10_centuries 54 = .ok (.getfield 61, 3) := by decide +kernel
theorem dX10_centuries_57 : decode cX10_centuries 57 = .ok (.iload 5, 2) := by decide +kernel
theorem dX10_centuries_59 : decode cX10_centuries 59 = .ok (.invokevirtual 369, 3) := by decide +kernel
theorem dX10_centuries_62 : decode cX10_centuries 62 = .ok (.ifCond .eq 9, 3) := by decide +kernel
theorem dX10_centuries_65 : decode cX10_centuries 65 = .ok (.aload_n 0, 1) := by decide +kernel
theorem dX10_centuries_66 : decode cX10_centuries 66 = .ok (.iload 5, 2) := by decide +kernel
theorem dX10_centuries_68 : decode cX10_centuries 68 = .ok (.invokevirtual 429, 3) := by decide +kernel
theorem dX10_centuries_71 : decode cX10_centuries 71 = .ok (.iinc 5 1, 3) := by decide +kernel
theorem dX10_centuries_74 : decode cX10_centuries 74 = .ok (.goto (-31), 3) := by decide +kernel
theorem dX10_centuries_77 : decode cX10_centuries 77 = .ok (.aload_n 0, 1) := by decide +kernel
theorem dX10_centuries_78 : decode cX10_centuries 78 = .ok (.invokevirtual 394, 3) := by decide +kernel
theorem dX10_centuries_81 : decode cX10_centuries 81 = .ok (.aload_n 0, 1) := by decide +kernel
theorem dX10_centuries_82 : decode cX10_centuries 82 = .ok (.aload_n 0, 1) := by decide +kernel
theorem dX10_centuries_83 : decode cX10_centuries 83 = .ok (.getfield 61, 3) := by decide +kernel
theorem dX10_centuries_86 : decode cX10_centuries 86 = .ok (.invokevirtual 412, 3) := by decide +kernel
theorem dX10_centuries_89 : decode cX10_centuries 89 = .ok (.iinc 4 1, 3) := by decide +kernel
theorem dX10_centuries_92 : decode cX10_centuries 92 = .ok (.goto (-58), 3) := by decide +kernel
theorem dX10_centuries_95 : decode cX10_centuries 95 = .ok (.aload_n 0, 1) := by decide +kernel
theorem dX10_centuries_96 : decode cX10_centuries 96 = .ok (.getfield 61, 3) := by decide +kernel
theorem dX10_centuries_99 : decode cX10_centuries 99 = .ok (.bipush 109, 2) := by decide +kernel
theorem dX10_centuries_101 : decode cX10_centuries 101 = .ok (.iaload, 1) := by decide +kernel
theorem dX10_centuries_102 : decode cX10_centuries 102 = .ok (.ireturn, 1) := by decide +kernel
theorem dX10_undo_0 : decode cX10_undo 0 = .ok (.aload_n 0, 1) := by decide +kernel
theorem dX10_undo_1 : decode cX10_undo 1 = .ok (.iconst 0, 1) := by decide +kernel
theorem dX10_undo_2 : decode cX10_undo 2 = .ok (.putfield 96, 3) := by decide +kernel
theorem dX10_undo_5 : decode cX10_undo 5 = .ok (.aload_n 0, 1) := by decide +kernel
theorem dX10_undo_6 : decode cX10_undo 6 = .ok (.getfield 300, 3) := by decide +kernel
theorem dX10_undo_9 : decode cX10_undo 9 = .ok (.ifCond .ne 5, 3) := by decide +kernel
theorem dX10_undo_12 : decode cX10_undo 12 = .ok (.iconst (-1), 1) := by decide +kernel
theorem dX10_undo_13 : decode cX10_undo 13 = .ok (.ireturn, 1) := by decide +kernel
theorem dX10_undo_14 : decode cX10_undo 14 = .ok (.aload_n 0, 1) := by decide +kernel
theorem dX10_undo_15 : decode cX10_undo 15 = .ok (.dup, 1) := by decide +kernel
theorem dX10_undo_16 : decode cX10_undo 16 = .ok (.getfield 300, 3) := by decide +kernel
theorem dX10_undo_19 : decode cX10_undo 19 = .ok (.iconst 1, 1) := by decide +kernel
theorem dX10_undo_20 : decode cX10_undo 20 = .ok (.isub, 1) := by decide +kernel
theorem dX10_undo_21 : decode cX10_undo 21 = .ok (.putfield 300, 3) := by decide +kernel
theorem dX10_undo_24 : decode cX10_undo 24 = .ok (.iconst 0, 1) := by decide +kernel
theorem dX10_undo_25 : decode cX10_undo 25 = .ok (.istore_n 1, 1) := by decide +kernel
theorem dX10_undo_26 : decode cX10_undo 26 = .ok (.iload_n 1, 1) := by decide +kernel
theorem dX10_undo_27 : decode cX10_undo 27 = .ok (.sipush 351, 3) := by decide +kernel
theorem dX10_undo_30 : decode cX10_undo 30 = .ok (.if_icmp .ge 30, 3) := by decide +kernel
theorem dX10_undo_33 : decode cX10_undo 33 = .ok (.aload_n 0, 1) := by decide +kernel
theorem dX10_undo_34 : decode cX10_undo 34 = .ok (.getfield 61, 3) := by decide +kernel
theorem dX10_undo_37 : decode cX10_undo 37 = .ok (.iload_n 1, 1) := by decide +kernel
theorem dX10_undo_38 : decode cX10_undo 38 = .ok (.aload_n 0, 1) := by decide +kernel
theorem dX10_undo_39 : decode cX10_undo 39 = .ok (.getfield 84, 3) := by decide +kernel
theorem dX10_undo_42 : decode cX10_undo 42 = .ok (.sipush 351, 3) := by decide +kernel
theorem dX10_undo_45 : decode cX10_undo 45 = .ok (.aload_n 0, 1) := by decide +kernel
theorem dX10_undo_46 : decode cX10_undo 46 = .ok (.getfield 300, 3) := by decide +kernel
theorem dX10_undo_49 : decode cX10_undo 49 = .ok (.imul, 1) := by decide +kernel
theorem dX10_undo_50 : decode cX10_undo 50 = .ok (.iload_n 1, 1) := by decide +kernel
theorem dX10_undo_51 : decode cX10_undo 51 = .ok (.iadd, 1) := by decide +kernel
theorem dX10_undo_52 : decode cX10_undo 52 = .ok (.iaload, 1) := by decide +kernel
theorem dX10_undo_53 : decode cX10_undo 53 = .ok (.iastore, 1) := by decide +kernel
theorem dX10_undo_54 : decode cX10_undo 54 = .ok (.iinc 1 1, 3) := by decide +kernel
theorem dX10_undo_57 : decode cX10_undo 57 = .ok (.goto (-31), 3) := by decide +kernel
theorem dX10_undo_60 : decode cX10_undo 60 = .ok (.aload_n 0, 1) := by decide +kernel
theorem dX10_undo_61 : decode cX10_undo 61 = .ok (.getfield 300, 3) := by decide +kernel
theorem dX10_undo_64 : decode cX10_undo 64 = .ok (.ireturn, 1) := by decide +kernel
theorem dX10_log_0 : decode cX10_log 0 = .ok (.aload_n 0, 1) := by decide +kernel
theorem dX10_log_1 : decode cX10_log 1 = .ok (.iconst 0, 1) := by decide +kernel
theorem dX10_log_2 : decode cX10_log 2 = .ok (.putfield 96, 3) := by decide +kernel
theorem dX10_log_5 : decode cX10_log 5 = .ok (.iload_n 1, 1) := by decide +kernel
theorem dX10_log_6 : decode cX10_log 6 = .ok (.i2l, 1) := by decide +kernel
theorem dX10_log_7 : decode cX10_log 7 = .ok (.lconst 0, 1) := by decide +kernel
theorem dX10_log_8 : decode cX10_log 8 = .ok (.aload_n 0, 1) := by decide +kernel
theorem dX10_log_9 : decode cX10_log 9 = .ok (.getfield 61, 3) := by decide +kernel
theorem dX10_log_12 : decode cX10_log 12 = .ok (.bipush 110, 2) := by decide +kernel
theorem dX10_log_14 : decode cX10_log 14 = .ok (.iaload, 1) := by decide +kernel
theorem dX10_log_15 : decode cX10_log 15 = .ok (.iconst 1, 1) := by decide +kernel
theorem dX10_log_16 : decode cX10_log 16 = .ok (.isub, 1) := by decide +kernel
theorem dX10_log_17 : decode cX10_log 17 = .ok (.i2l, 1) := by decide +kernel
theorem dX10_log_18 : decode cX10_log 18 = .ok (.invokestatic 217, 3) := by decide +kernel
theorem dX10_log_21 : decode cX10_log 21 = .ok (.ifCond .eq 41, 3) := by decide +kernel
theorem dX10_log_24 : decode cX10_log 24 = .ok (.iload_n 2, 1) := by decide +kernel
theorem dX10_log_25 : decode cX10_log 25 = .ok (.i2l, 1) := by decide +kernel
theorem dX10_log_26 : decode cX10_log 26 = .ok (.lconst 0, 1) := by decide +kernel
theorem dX10_log_27 : decode cX10_log 27 = .ok (.ldc2_w 349, 3) := by decide +kernel
theorem dX10_log_30 : decode cX10_log 30 = .ok (.invokestatic 217, 3) := by decide +kernel
theorem dX10_log_33 : decode cX10_log 33 = .ok (.ifCond .eq 29, 3) := by decide +kernel
theorem dX10_log_36 : decode cX10_log 36 = .ok (.aload_n 0, 1) := by decide +kernel
theorem dX10_log_37 : decode cX10_log 37 = .ok (.getfield 61, 3) := by decide +kernel
theorem dX10_log_40 : decode cX10_log 40 = .ok (.bipush 111, 2) := by decide +kernel
theorem dX10_log_42 : decode cX10_log 42 = .ok (.iconst 4, 1) := by decide +kernel
theorem dX10_log_43 : decode cX10_log 43 = .ok (.aload_n 0, 1) := by decide +kernel
theorem dX10_log_44 : decode cX10_log 44 = .ok (.getfield 61, 3) := by decide +kernel
theorem dX10_log_47 : decode cX10_log 47 = .ok (.bipush 110, 2) := by decide +kernel
theorem dX10_log_49 : decode cX10_log 49 = .ok (.iaload, 1) := by decide +kernel
theorem dX10_log_50 : decode cX10_log 50 = .ok (.iconst 1, 1) := by decide +kernel
theorem dX10_log_51 : decode cX10_log 51 = .ok (.isub, 1) := by decide +kernel
theorem dX10_log_52 : decode cX10_log 52 = .ok (.iload_n 1, 1) := by decide +kernel
theorem dX10_log_53 : decode cX10_log 53 = .ok (.isub, 1) := by decide +kernel
theorem dX10_log_54 : decode cX10_log 54 = .ok (.imul, 1) := by decide +kernel
theorem dX10_log_55 : decode cX10_log 55 = .ok (.iadd, 1) := by decide +kernel
theorem dX10_log_56 : decode cX10_log 56 = .ok (.iload_n 2, 1) := by decide +kernel
theorem dX10_log_57 : decode cX10_log 57 = .ok (.iadd, 1) := by decide +kernel
theorem dX10_log_58 : decode cX10_log 58 = .ok (.iaload, 1) := by decide +kernel
theorem dX10_log_59 : decode cX10_log 59 = .ok (.goto 6, 3) := by decide +kernel
theorem dX10_log_62 : decode cX10_log 62 = .ok (.ldc_w 432, 3) := by decide +kernel
theorem dX10_log_65 : decode cX10_log 65 = .ok (.ireturn, 1) := by decide +kernel
theorem dX10_isPlan_0 : decode cX10_isPlan 0 = .ok (.iload_n 1, 1) := by decide +kernel
theorem dX10_isPlan_1 : decode cX10_isPlan 1 = .ok (.ifCond .lt 15, 3) := by decide +kernel
theorem dX10_isPlan_4 : decode cX10_isPlan 4 = .ok (.iload_n 1, 1) := by decide +kernel
theorem dX10_isPlan_5 : decode cX10_isPlan 5 = .ok (.aload_n 0, 1) := by decide +kernel
theorem dX10_isPlan_6 : decode cX10_isPlan 6 = .ok (.getfield 286, 3) := by decide +kernel
theorem dX10_isPlan_9 : decode cX10_isPlan 9 = .ok (.if_icmp .ge 7, 3) := by decide +kernel
theorem dX10_isPlan_12 : decode cX10_isPlan 12 = .ok (.iconst 1, 1) := by decide +kernel
theorem dX10_isPlan_13 : decode cX10_isPlan 13 = .ok (.goto 4, 3) := by decide +kernel
theorem dX10_isPlan_16 : decode cX10_isPlan 16 = .ok (.iconst 0, 1) := by decide +kernel
theorem dX10_isPlan_17 : decode cX10_isPlan 17 = .ok (.ireturn, 1) := by decide +kernel
theorem dX10_step_0 : decode cX10_step 0 = .ok (.aload_n 0, 1) := by decide +kernel
theorem dX10_step_1 : decode cX10_step 1 = .ok (.iconst 0, 1) := by decide +kernel
theorem dX10_step_2 : decode cX10_step 2 = .ok (.putfield 96, 3) := by decide +kernel
theorem dX10_step_5 : decode cX10_step 5 = .ok (.aload_n 0, 1) := by decide +kernel
theorem dX10_step_6 : decode cX10_step 6 = .ok (.iload_n 1, 1) := by decide +kernel
theorem dX10_step_7 : decode cX10_step 7 = .ok (.invokevirtual 433, 3) := by decide +kernel
theorem dX10_step_10 : decode cX10_step 10 = .ok (.ifCond .eq 51, 3) := by decide +kernel
theorem dX10_step_13 : decode cX10_step 13 = .ok (.iload_n 2, 1) := by decide +kernel
theorem dX10_step_14 : decode cX10_step 14 = .ok (.i2l, 1) := by decide +kernel
theorem dX10_step_15 : decode cX10_step 15 = .ok (.lconst 0, 1) := by decide +kernel
theorem dX10_step_16 : decode cX10_step 16 = .ok (.aload_n 0, 1) := by decide +kernel
theorem dX10_step_17 : decode cX10_step 17 = .ok (.getfield 58, 3) := by decide +kernel
theorem dX10_step_20 : decode cX10_step 20 = .ok (.iload_n 1, 1) := by decide +kernel
theorem dX10_step_21 : decode cX10_step 21 = .ok (.iaload, 1) := by decide +kernel
theorem dX10_step_22 : decode cX10_step 22 = .ok (.iconst 1, 1) := by decide +kernel
theorem dX10_step_23 : decode cX10_step 23 = .ok (.isub, 1) := by decide +kernel
theorem dX10_step_24 : decode cX10_step 24 = .ok (.i2l, 1) := by decide +kernel
theorem dX10_step_25 : decode cX10_step 25 = .ok (.invokestatic 217, 3) := by decide +kernel
theorem dX10_step_28 : decode cX10_step 28 = .ok (.ifCond .eq 33, 3) := by decide +kernel
theorem dX10_step_31 : decode cX10_step 31 = .ok (.iload_n 3, 1) := by decide +kernel
theorem dX10_step_32 : decode cX10_step 32 = .ok (.i2l, 1) := by decide +kernel
theorem dX10_step_33 : decode cX10_step 33 = .ok (.lconst 0, 1) := by decide +kernel
theorem dX10_step_34 : decode cX10_step 34 = .ok (.ldc2_w 272, 3) := by decide +kernel
theorem dX10_step_37 : decode cX10_step 37 = .ok (.invokestatic 217, 3) := by decide +kernel
theorem dX10_step_40 : decode cX10_step 40 = .ok (.ifCond .eq 21, 3) := by decide +kernel
theorem dX10_step_43 : decode cX10_step 43 = .ok (.aload_n 0, 1) := by decide +kernel
theorem dX10_step_44 : decode cX10_step 44 = .ok (.getfield 55, 3) := by decide +kernel
theorem dX10_step_47 : decode cX10_step 47 = .ok (.iconst 3, 1) := by decide +kernel
theorem dX10_step_48 : decode cX10_step 48 = .ok (.bipush 16, 2) := by decide +kernel
theorem dX10_step_50 : decode cX10_step 50 = .ok (.iload_n 1, 1) := by decide +kernel
theorem dX10_step_51 : decode cX10_step 51 = .ok (.imul, 1) := by decide +kernel
theorem dX10_step_52 : decode cX10_step 52 = .ok (.iload_n 2, 1) := by decide +kernel
theorem dX10_step_53 : decode cX10_step 53 = .ok (.iadd, 1) := by decide +kernel
theorem dX10_step_54 : decode cX10_step 54 = .ok (.imul, 1) := by decide +kernel
theorem dX10_step_55 : decode cX10_step 55 = .ok (.iload_n 3, 1) := by decide +kernel
theorem dX10_step_56 : decode cX10_step 56 = .ok (.iadd, 1) := by decide +kernel
theorem dX10_step_57 : decode cX10_step 57 = .ok (.iaload, 1) := by decide +kernel
theorem dX10_step_58 : decode cX10_step 58 = .ok (.goto 6, 3) := by decide +kernel
theorem dX10_step_61 : decode cX10_step 61 = .ok (.ldc_w 432, 3) := by decide +kernel
theorem dX10_step_64 : decode cX10_step 64 = .ok (.ireturn, 1) := by decide +kernel
theorem dX10_canStep_0 : decode cX10_canStep 0 = .ok (.aload_n 0, 1) := by decide +kernel
theorem dX10_canStep_1 : decode cX10_canStep 1 = .ok (.getfield 55, 3) := by decide +kernel
theorem dX10_canStep_4 : decode cX10_canStep 4 = .ok (.iload_n 2, 1) := by decide +kernel
theorem dX10_canStep_5 : decode cX10_canStep 5 = .ok (.iaload, 1) := by decide +kernel
theorem dX10_canStep_6 : decode cX10_canStep 6 = .ok (.tableswitch 92 0 2 #[26, 48, 70], 26) := by decide +kernel
theorem dX10_canStep_32 : decode cX10_canStep 32 = .ok (.aload_n 0, 1) := by decide +kernel
theorem dX10_canStep_33 : decode cX10_canStep 33 = .ok (.aload_n 1, 1) := by decide +kernel
theorem dX10_canStep_34 : decode cX10_canStep 34 = .ok (.aload_n 0, 1) := by decide +kernel
theorem dX10_canStep_35 : decode cX10_canStep 35 = .ok (.getfield 55, 3) := by decide +kernel
theorem dX10_canStep_38 : decode cX10_canStep 38 = .ok (.iload_n 2, 1) := by decide +kernel
theorem dX10_canStep_39 : decode cX10_canStep 39 = .ok (.iconst 1, 1) := by decide +kernel
theorem dX10_canStep_40 : decode cX10_canStep 40 = .ok (.iadd, 1) := by decide +kernel
theorem dX10_canStep_41 : decode cX10_canStep 41 = .ok (.iaload, 1) := by decide +kernel
theorem dX10_canStep_42 : decode cX10_canStep 42 = .ok (.aload_n 0, 1) := by decide +kernel
theorem dX10_canStep_43 : decode cX10_canStep 43 = .ok (.getfield 55, 3) := by decide +kernel
theorem dX10_canStep_46 : decode cX10_canStep 46 = .ok (.iload_n 2, 1) := by decide +kernel
theorem dX10_canStep_47 : decode cX10_canStep 47 = .ok (.iconst 2, 1) := by decide +kernel
theorem dX10_canStep_48 : decode cX10_canStep 48 = .ok (.iadd, 1) := by decide +kernel
theorem dX10_canStep_49 : decode cX10_canStep 49 = .ok (.iaload, 1) := by decide +kernel
theorem dX10_canStep_50 : decode cX10_canStep 50 = .ok (.invokevirtual 391, 3) := by decide +kernel
theorem dX10_canStep_53 : decode cX10_canStep 53 = .ok (.ireturn, 1) := by decide +kernel
theorem dX10_canStep_54 : decode cX10_canStep 54 = .ok (.aload_n 0, 1) := by decide +kernel
theorem dX10_canStep_55 : decode cX10_canStep 55 = .ok (.aload_n 1, 1) := by decide +kernel
theorem dX10_canStep_56 : decode cX10_canStep 56 = .ok (.aload_n 0, 1) := by decide +kernel
theorem dX10_canStep_57 : decode cX10_canStep 57 = .ok (.getfield 55, 3) := by decide +kernel
theorem dX10_canStep_60 : decode cX10_canStep 60 = .ok (.iload_n 2, 1) := by decide +kernel
theorem dX10_canStep_61 : decode cX10_canStep 61 = .ok (.iconst 1, 1) := by decide +kernel
theorem dX10_canStep_62 : decode cX10_canStep 62 = .ok (.iadd, 1) := by decide +kernel
theorem dX10_canStep_63 : decode cX10_canStep 63 = .ok (.iaload, 1) := by decide +kernel
theorem dX10_canStep_64 : decode cX10_canStep 64 = .ok (.aload_n 0, 1) := by decide +kernel
theorem dX10_canStep_65 : decode cX10_canStep 65 = .ok (.getfield 55, 3) := by decide +kernel
theorem dX10_canStep_68 : decode cX10_canStep 68 = .ok (.iload_n 2, 1) := by decide +kernel
theorem dX10_canStep_69 : decode cX10_canStep 69 = .ok (.iconst 2, 1) := by decide +kernel
theorem dX10_canStep_70 : decode cX10_canStep 70 = .ok (.iadd, 1) := by decide +kernel
theorem dX10_canStep_71 : decode cX10_canStep 71 = .ok (.iaload, 1) := by decide +kernel
theorem dX10_canStep_72 : decode cX10_canStep 72 = .ok (.invokevirtual 400, 3) := by decide +kernel
theorem dX10_canStep_75 : decode cX10_canStep 75 = .ok (.ireturn, 1) := by decide +kernel
theorem dX10_canStep_76 : decode cX10_canStep 76 = .ok (.aload_n 0, 1) := by decide +kernel
theorem dX10_canStep_77 : decode cX10_canStep 77 = .ok (.aload_n 1, 1) := by decide +kernel
theorem dX10_canStep_78 : decode cX10_canStep 78 = .ok (.aload_n 0, 1) := by decide +kernel
theorem dX10_canStep_79 : decode cX10_canStep 79 = .ok (.getfield 55, 3) := by decide +kernel
theorem dX10_canStep_82 : decode cX10_canStep 82 = .ok (.iload_n 2, 1) := by decide +kernel
theorem dX10_canStep_83 : decode cX10_canStep 83 = .ok (.iconst 1, 1) := by decide +kernel
theorem dX10_canStep_84 : decode cX10_canStep 84 = .ok (.iadd, 1) := by decide +kernel
theorem dX10_canStep_85 : decode cX10_canStep 85 = .ok (.iaload, 1) := by decide +kernel
theorem dX10_canStep_86 : decode cX10_canStep 86 = .ok (.aload_n 0, 1) := by decide +kernel
theorem dX10_canStep_87 : decode cX10_canStep 87 = .ok (.getfield 55, 3) := by decide +kernel
theorem dX10_canStep_90 : decode cX10_canStep 90 = .ok (.iload_n 2, 1) := by decide +kernel
theorem dX10_canStep_91 : decode cX10_canStep 91 = .ok (.iconst 2, 1) := by decide +kernel
theorem dX10_canStep_92 : decode cX10_canStep 92 = .ok (.iadd, 1) := by decide +kernel
theorem dX10_canStep_93 : decode cX10_canStep 93 = .ok (.iaload, 1) := by decide +kernel
theorem dX10_canStep_94 : decode cX10_canStep 94 = .ok (.invokevirtual 406, 3) := by decide +kernel
theorem dX10_canStep_97 : decode cX10_canStep 97 = .ok (.ireturn, 1) := by decide +kernel
theorem dX10_canStep_98 : decode cX10_canStep 98 = .ok (.iconst 1, 1) := by decide +kernel
theorem dX10_canStep_99 : decode cX10_canStep 99 = .ok (.ireturn, 1) := by decide +kernel
theorem dX10_steps_0 : decode cX10_steps 0 = .ok (.aload_n 0, 1) := by decide +kernel
theorem dX10_steps_1 : decode cX10_steps 1 = .ok (.getfield 55, 3) := by decide +kernel
theorem dX10_steps_4 : decode cX10_steps 4 = .ok (.iload_n 2, 1) := by decide +kernel
theorem dX10_steps_5 : decode cX10_steps 5 = .ok (.iaload, 1) := by decide +kernel
theorem dX10_steps_6 : decode cX10_steps 6 = .ok (.tableswitch 98 0 2 #[26, 51, 75], 26) := by decide +kernel
theorem dX10_steps_32 : decode cX10_steps 32 = .ok (.aload_n 0, 1) := by decide +kernel
theorem dX10_steps_33 : decode cX10_steps 33 = .ok (.aload_n 1, 1) := by decide +kernel
theorem dX10_steps_34 : decode cX10_steps 34 = .ok (.aload_n 0, 1) := by decide +kernel
theorem dX10_steps_35 : decode cX10_steps 35 = .ok (.getfield 55, 3) := by decide +kernel
theorem dX10_steps_38 : decode cX10_steps 38 = .ok (.iload_n 2, 1) := by decide +kernel
theorem dX10_steps_39 : decode cX10_steps 39 = .ok (.iconst 1, 1) := by decide +kernel
theorem dX10_steps_40 : decode cX10_steps 40 = .ok (.iadd, 1) := by decide +kernel
theorem dX10_steps_41 : decode cX10_steps 41 = .ok (.iaload, 1) := by decide +kernel
theorem dX10_steps_42 : decode cX10_steps 42 = .ok (.aload_n 0, 1) := by decide +kernel
theorem dX10_steps_43 : decode cX10_steps 43 = .ok (.getfield 55, 3) := by decide +kernel
theorem dX10_steps_46 : decode cX10_steps 46 = .ok (.iload_n 2, 1) := by decide +kernel
theorem dX10_steps_47 : decode cX10_steps 47 = .ok (.iconst 2, 1) := by decide +kernel
theorem dX10_steps_48 : decode cX10_steps 48 = .ok (.iadd, 1) := by decide +kernel
theorem dX10_steps_49 : decode cX10_steps 49 = .ok (.iaload, 1) := by decide +kernel
theorem dX10_steps_50 : decode cX10_steps 50 = .ok (.invokevirtual 397, 3) := by decide +kernel
theorem dX10_steps_53 : decode cX10_steps 53 = .ok (.istore_n 3, 1) := by decide +kernel
theorem dX10_steps_54 : decode cX10_steps 54 = .ok (.goto 55, 3) := by decide +kernel
theorem dX10_steps_57 : decode cX10_steps 57 = .ok (.aload_n 0, 1) := by decide +kernel
theorem dX10_steps_58 : decode cX10_steps 58 = .ok (.aload_n 1, 1) := by decide +kernel
theorem dX10_steps_59 : decode cX10_steps 59 = .ok (.aload_n 0, 1) := by decide +kernel
theorem dX10_steps_60 : decode cX10_steps 60 = .ok (.getfield 55, 3) := by decide +kernel
theorem dX10_steps_63 : decode cX10_steps 63 = .ok (.iload_n 2, 1) := by decide +kernel
theorem dX10_steps_64 : decode cX10_steps 64 = .ok (.iconst 1, 1) := by decide +kernel
theorem dX10_steps_65 : decode cX10_steps 65 = .ok (.iadd, 1) := by decide +kernel
theorem dX10_steps_66 : decode cX10_steps 66 = .ok (.iaload, 1) := by decide +kernel
theorem dX10_steps_67 : decode cX10_steps 67 = .ok (.aload_n 0, 1) := by decide +kernel
theorem dX10_steps_68 : decode cX10_steps 68 = .ok (.getfield 55, 3) := by decide +kernel
theorem dX10_steps_71 : decode cX10_steps 71 = .ok (.iload_n 2, 1) := by decide +kernel
theorem dX10_steps_72 : decode cX10_steps 72 = .ok (.iconst 2, 1) := by decide +kernel
theorem dX10_steps_73 : decode cX10_steps 73 = .ok (.iadd, 1) := by decide +kernel
theorem dX10_steps_74 : decode cX10_steps 74 = .ok (.iaload, 1) := by decide +kernel
theorem dX10_steps_75 : decode cX10_steps 75 = .ok (.invokevirtual 403, 3) := by decide +kernel
theorem dX10_steps_78 : decode cX10_steps 78 = .ok (.goto 31, 3) := by decide +kernel
theorem dX10_steps_81 : decode cX10_steps 81 = .ok (.aload_n 1, 1) := by decide +kernel
theorem dX10_steps_82 : decode cX10_steps 82 = .ok (.aload_n 0, 1) := by decide +kernel
theorem dX10_steps_83 : decode cX10_steps 83 = .ok (.getfield 55, 3) := by decide +kernel
theorem dX10_steps_86 : decode cX10_steps 86 = .ok (.iload_n 2, 1) := by decide +kernel
theorem dX10_steps_87 : decode cX10_steps 87 = .ok (.iconst 1, 1) := by decide +kernel
theorem dX10_steps_88 : decode cX10_steps 88 = .ok (.iadd, 1) := by decide +kernel
theorem dX10_steps_89 : decode cX10_steps 89 = .ok (.iaload, 1) := by decide +kernel
theorem dX10_steps_90 : decode cX10_steps 90 = .ok (.aload_n 0, 1) := by decide +kernel
theorem dX10_steps_91 : decode cX10_steps 91 = .ok (.getfield 55, 3) := by decide +kernel
theorem dX10_steps_94 : decode cX10_steps 94 = .ok (.iload_n 2, 1) := by decide +kernel
theorem dX10_steps_95 : decode cX10_steps 95 = .ok (.iconst 2, 1) := by decide +kernel
theorem dX10_steps_96 : decode cX10_steps 96 = .ok (.iadd, 1) := by decide +kernel
theorem dX10_steps_97 : decode cX10_steps 97 = .ok (.iaload, 1) := by decide +kernel
theorem dX10_steps_98 : decode cX10_steps 98 = .ok (.invokestatic 409, 3) := by decide +kernel
theorem dX10_steps_101 : decode cX10_steps 101 = .ok (.goto 8, 3) := by decide +kernel
theorem dX10_steps_104 : decode cX10_steps 104 = .ok (.aload_n 0, 1) := by decide +kernel
theorem dX10_steps_105 : decode cX10_steps 105 = .ok (.aload_n 1, 1) := by decide +kernel
theorem dX10_steps_106 : decode cX10_steps 106 = .ok (.invokevirtual 412, 3) := by decide +kernel
theorem dX10_steps_109 : decode cX10_steps 109 = .ok (.return_, 1) := by decide +kernel
theorem dX10_lostIn_0 : decode cX10_lostIn 0 = .ok (.iconst 0, 1) := by decide +kernel
theorem dX10_lostIn_1 : decode cX10_lostIn 1 = .ok (.istore_n 2, 1) := by decide +kernel
theorem dX10_lostIn_2 : decode cX10_lostIn 2 = .ok (.iconst 0, 1) := by decide +kernel
theorem dX10_lostIn_3 : decode cX10_lostIn 3 = .ok (.istore_n 3, 1) := by decide +kernel
theorem dX10_lostIn_4 : decode cX10_lostIn 4 = .ok (.iload_n 3, 1) := by decide +kernel
theorem dX10_lostIn_5 : decode cX10_lostIn 5 = .ok (.aload_n 0, 1) := by decide +kernel
theorem dX10_lostIn_6 : decode cX10_lostIn 6 = .ok (.getfield 291, 3) := by decide +kernel
theorem dX10_lostIn_9 : decode cX10_lostIn 9 = .ok (.if_icmp .ge 25, 3) := by decide +kernel
theorem dX10_lostIn_12 : decode cX10_lostIn 12 = .ok (.iload_n 2, 1) := by decide +kernel
theorem dX10_lostIn_13 : decode cX10_lostIn 13 = .ok (.aload_n 1, 1) := by decide +kernel
theorem dX10_lostIn_14 : decode cX10_lostIn 14 = .ok (.iconst 2, 1) := by decide +kernel
theorem dX10_lostIn_15 : decode cX10_lostIn 15 = .ok (.iload_n 3, 1) := by decide +kernel
theorem dX10_lostIn_16 : decode cX10_lostIn 16 = .ok (.imul, 1) := by decide +kernel
theorem dX10_lostIn_17 : decode cX10_lostIn 17 = .ok (.iaload, 1) := by decide +kernel
theorem dX10_lostIn_18 : decode cX10_lostIn 18 = .ok (.ifCond .ne 7, 3) := by decide +kernel
theorem dX10_lostIn_21 : decode cX10_lostIn 21 = .ok (.iconst 1, 1) := by decide +kernel
theorem dX10_lostIn_22 : decode cX10_lostIn 22 = .ok (.goto 4, 3) := by decide +kernel
theorem dX10_lostIn_25 : decode cX10_lostIn 25 = .ok (.iconst 0, 1) := by decide +kernel
theorem dX10_lostIn_26 : decode cX10_lostIn 26 = .ok (.iadd, 1) := by decide +kernel
theorem dX10_lostIn_27 : decode cX10_lostIn 27 = .ok (.istore_n 2, 1) := by decide +kernel
theorem dX10_lostIn_28 : decode cX10_lostIn 28 = .ok (.iinc 3 1, 3) := by decide +kernel
theorem dX10_lostIn_31 : decode cX10_lostIn 31 = .ok (.goto (-27), 3) := by decide +kernel
theorem dX10_lostIn_34 : decode cX10_lostIn 34 = .ok (.iload_n 2, 1) := by decide +kernel
theorem dX10_lostIn_35 : decode cX10_lostIn 35 = .ok (.ireturn, 1) := by decide +kernel
theorem dX10_run_0 : decode cX10_run 0 = .ok (.aload_n 0, 1) := by decide +kernel
theorem dX10_run_1 : decode cX10_run 1 = .ok (.iconst 0, 1) := by decide +kernel
theorem dX10_run_2 : decode cX10_run 2 = .ok (.putfield 96, 3) := by decide +kernel
theorem dX10_run_5 : decode cX10_run 5 = .ok (.aload_n 0, 1) := by decide +kernel
theorem dX10_run_6 : decode cX10_run 6 = .ok (.iload_n 1, 1) := by decide +kernel
theorem dX10_run_7 : decode cX10_run 7 = .ok (.invokevirtual 433, 3) := by decide +kernel
theorem dX10_run_10 : decode cX10_run 10 = .ok (.ifCond .eq 20, 3) := by decide +kernel
theorem dX10_run_13 : decode cX10_run 13 = .ok (.aload_n 0, 1) := by decide +kernel
theorem dX10_run_14 : decode cX10_run 14 = .ok (.getfield 291, 3) := by decide +kernel
theorem dX10_run_17 : decode cX10_run 17 = .ok (.ifCond .eq 13, 3) := by decide +kernel
theorem dX10_run_20 : decode cX10_run 20 = .ok (.iload_n 2, 1) := by decide +kernel
theorem dX10_run_21 : decode cX10_run 21 = .ok (.i2l, 1) := by decide +kernel
theorem dX10_run_22 : decode cX10_run 22 = .ok (.lconst 0, 1) := by decide +kernel
theorem dX10_run_23 : decode cX10_run 23 = .ok (.lconst 1, 1) := by decide +kernel
theorem dX10_run_24 : decode cX10_run 24 = .ok (.invokestatic 217, 3) := by decide +kernel
theorem dX10_run_27 : decode cX10_run 27 = .ok (.ifCond .ne 7, 3) := by decide +kernel
theorem dX10_run_30 : decode cX10_run 30 = .ok (.ldc_w 432, 3) := by decide +kernel
theorem dX10_run_33 : decode cX10_run 33 = .ok (.ireturn, 1) := by decide +kernel
theorem dX10_run_34 : decode cX10_run 34 = .ok (.aload_n 0, 1) := by decide +kernel
theorem dX10_run_35 : decode cX10_run 35 = .ok (.getfield 61, 3) := by decide +kernel
theorem dX10_run_38 : decode cX10_run 38 = .ok (.aload_n 0, 1) := by decide +kernel
theorem dX10_run_39 : decode cX10_run 39 = .ok (.getfield 64, 3) := by decide +kernel
theorem dX10_run_42 : decode cX10_run 42 = .ok (.invokestatic 436, 3) := by decide +kernel
theorem dX10_run_45 : decode cX10_run 45 = .ok (.iconst 0, 1) := by decide +kernel
theorem dX10_run_46 : decode cX10_run 46 = .ok (.istore_n 3, 1) := by decide +kernel
theorem dX10_run_47 : decode cX10_run 47 = .ok (.iload_n 3, 1) := by decide +kernel
theorem dX10_run_48 : decode cX10_run 48 = .ok (.aload_n 0, 1) := by decide +kernel
theorem dX10_run_49 : decode cX10_run 49 = .ok (.getfield 58, 3) := by decide +kernel
theorem dX10_run_52 : decode cX10_run 52 = .ok (.iload_n 1, 1) := by decide +kernel
theorem dX10_run_53 : decode cX10_run 53 = .ok (.iaload, 1) := by decide +kernel
theorem dX10_run_54 : decode cX10_run 54 = .ok (.if_icmp .ge 44, 3) := by decide +kernel
theorem dX10_run_57 : decode cX10_run 57 = .ok (.aload_n 0, 1) := by decide +kernel
theorem dX10_run_58 : decode cX10_run 58 = .ok (.aload_n 0, 1) := by decide +kernel
theorem dX10_run_59 : decode cX10_run 59 = .ok (.getfield 64, 3) := by decide +kernel
theorem dX10_run_62 : decode cX10_run 62 = .ok (.iconst 3, 1) := by decide +kernel
theorem dX10_run_63 : decode cX10_run 63 = .ok (.bipush 16, 2) := by decide +kernel
theorem dX10_run_65 : decode cX10_run 65 = .ok (.iload_n 1, 1) := by decide +kernel
theorem dX10_run_66 : decode cX10_run 66 = .ok (.imul, 1) := by decide +kernel
theorem dX10_run_67 : decode cX10_run 67 = .ok (.iload_n 3, 1) := by decide +kernel
theorem dX10_run_68 : decode cX10_run 68 = .ok (.iadd, 1) := by decide +kernel
theorem dX10_run_69 : decode cX10_run 69 = .ok (.imul, 1) := by decide +kernel
theorem dX10_run_70 : decode cX10_run 70 = .ok (.invokevirtual 440, 3) := by decide +kernel
theorem dX10_run_73 : decode cX10_run 73 = .ok (.ifCond .eq 25, 3) := by decide +kernel
theorem dX10_run_76 : decode cX10_run 76 = .ok (.aload_n 0, 1) := by decide +kernel
theorem dX10_run_77 : decode cX10_run 77 = .ok (.aload_n 0, 1) := by decide +kernel
theorem dX10_run_78 : decode cX10_run 78 = .ok (.getfield 64, 3) := by decide +kernel
theorem dX10_run_81 : decode cX10_run 81 = .ok (.iconst 3, 1) := by decide +kernel
theorem dX10_run_82 : decode cX10_run 82 = .ok (.bipush 16, 2) := by decide +kernel
theorem dX10_run_84 : decode cX10_run 84 = .ok (.iload_n 1, 1) := by decide +kernel
theorem dX10_run_85 : decode cX10_run 85 = .ok (.imul, 1) := by decide +kernel
theorem dX10_run_86 : decode cX10_run 86 = .ok (.iload_n 3, 1) := by decide +kernel
theorem dX10_run_87 : decode cX10_run 87 = .ok (.iadd, 1) := by decide +kernel
theorem dX10_run_88 : decode cX10_run 88 = .ok (.imul, 1) := by decide +kernel
theorem dX10_run_89 : decode cX10_run 89 = .ok (.invokevirtual 443, 3) := by decide +kernel
theorem dX10_run_92 : decode cX10_run 92 = .ok (.iinc 3 1, 3) := by decide +kernel
theorem dX10_run_95 : decode cX10_run 95 = .ok (.goto (-48), 3) := by decide +kernel
theorem dX10_run_98 : decode cX10_run 98 = .ok (.iload_n 2, 1) := by decide +kernel
theorem dX10_run_99 : decode cX10_run 99 = .ok (.iconst 1, 1) := by decide +kernel
theorem dX10_run_100 : decode cX10_run 100 = .ok (.if_icmp .ne 12, 3) := by decide +kernel
theorem dX10_run_103 : decode cX10_run 103 = .ok (.aload_n 0, 1) := by decide +kernel
theorem dX10_run_104 : decode cX10_run 104 = .ok (.aload_n 0, 1) := by decide +kernel
theorem dX10_run_105 : decode cX10_run 105 = .ok (.getfield 64, 3) := by decide +kernel
theorem dX10_run_108 : decode cX10_run 108 = .ok (.invokevirtual 447, 3) := by decide +kernel
theorem dX10_run_111 : decode cX10_run 111 = .ok (.ireturn, 1) := by decide +kernel
theorem dX10_run_112 : decode cX10_run 112 = .ok (.iload_n 3, 1) := by decide +kernel
theorem dX10_run_113 : decode cX10_run 113 = .ok (.aload_n 0, 1) := by decide +kernel
theorem dX10_run_114 : decode cX10_run 114 = .ok (.getfield 58, 3) := by decide +kernel
theorem dX10_run_117 : decode cX10_run 117 = .ok (.iload_n 1, 1) := by decide +kernel
theorem dX10_run_118 : decode cX10_run 118 = .ok (.iaload, 1) := by decide +kernel
theorem dX10_run_119 : decode cX10_run 119 = .ok (.if_icmp .ne 7, 3) := by decide +kernel
theorem dX10_run_122 : decode cX10_run 122 = .ok (.iconst (-1), 1) := by decide +kernel
theorem dX10_run_123 : decode cX10_run 123 = .ok (.goto 4, 3) := by decide +kernel
theorem dX10_run_126 : decode cX10_run 126 = .ok (.iload_n 3, 1) := by decide +kernel
theorem dX10_run_127 : decode cX10_run 127 = .ok (.ireturn, 1) := by decide +kernel
theorem dX10_perform_0 : decode cX10_perform 0 = .ok (.aload_n 0, 1) := by decide +kernel
theorem dX10_perform_1 : decode cX10_perform 1 = .ok (.iconst 0, 1) := by decide +kernel
theorem dX10_perform_2 : decode cX10_perform 2 = .ok (.putfield 96, 3) := by decide +kernel
theorem dX10_perform_5 : decode cX10_perform 5 = .ok (.aload_n 0, 1) := by decide +kernel
theorem dX10_perform_6 : decode cX10_perform 6 = .ok (.iload_n 1, 1) := by decide +kernel
theorem dX10_perform_7 : decode cX10_perform 7 = .ok (.invokevirtual 433, 3) := by decide +kernel
theorem dX10_perform_10 : decode cX10_perform 10 = .ok (.ifCond .eq 10, 3) := by decide +kernel
theorem dX10_perform_13 : decode cX10_perform 13 = .ok (.aload_n 0, 1) := by decide +kernel
theorem dX10_perform_14 : decode cX10_perform 14 = .ok (.getfield 291, 3) := by decide +kernel
