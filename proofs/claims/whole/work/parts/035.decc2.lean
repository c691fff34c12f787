theorem dX10_perform_17 : decode cX10_perform 17 = .ok (.ifCond .ne 5, 3) := by decide +kernel
theorem dX10_perform_20 : decode cX10_perform 20 = .ok (.iconst (-1), 1) := by decide +kernel
theorem dX10_perform_21 : decode cX10_perform 21 = .ok (.ireturn, 1) := by decide +kernel
theorem dX10_perform_22 : decode cX10_perform 22 = .ok (.iconst 0, 1) := by decide +kernel
theorem dX10_perform_23 : decode cX10_perform 23 = .ok (.istore_n 2, 1) := by decide +kernel
theorem dX10_perform_24 : decode cX10_perform 24 = .ok (.iload_n 2, 1) := by decide +kernel
theorem dX10_perform_25 : decode cX10_perform 25 = .ok (.aload_n 0, 1) := by decide +kernel
theorem dX10_perform_26 : decode cX10_perform 26 = .ok (.getfield 58, 3) := by decide +kernel
theorem dX10_perform_29 : decode cX10_perform 29 = .ok (.iload_n 1, 1) := by decide +kernel
theorem dX10_perform_30 : decode cX10_perform 30 = .ok (.iaload, 1) := by decide +kernel
theorem dX10_perform_31 : decode cX10_perform 31 = .ok (.if_icmp .ge 48, 3) := by decide +kernel
theorem dX10_perform_34 : decode cX10_perform 34 = .ok (.aload_n 0, 1) := by decide +kernel
theorem dX10_perform_35 : decode cX10_perform 35 = .ok (.aload_n 0, 1) := by decide +kernel
theorem dX10_perform_36 : decode cX10_perform 36 = .ok (.getfield 61, 3) := by decide +kernel
theorem dX10_perform_39 : decode cX10_perform 39 = .ok (.iconst 3, 1) := by decide +kernel
theorem dX10_perform_40 : decode cX10_perform 40 = .ok (.bipush 16, 2) := by decide +kernel
theorem dX10_perform_42 : decode cX10_perform 42 = .ok (.iload_n 1, 1) := by decide +kernel
theorem dX10_perform_43 : decode cX10_perform 43 = .ok (.imul, 1) := by decide +kernel
theorem dX10_perform_44 : decode cX10_perform 44 = .ok (.iload_n 2, 1) := by decide +kernel
theorem dX10_perform_45 : decode cX10_perform 45 = .ok (.iadd, 1) := by decide +kernel
theorem dX10_perform_46 : decode cX10_perform 46 = .ok (.imul, 1) := by decide +kernel
theorem dX10_perform_47 : decode cX10_perform 47 = .ok (.invokevirtual 440, 3) := by decide +kernel
theorem dX10_perform_50 : decode cX10_perform 50 = .ok (.ifCond .eq 29, 3) := by decide +kernel
theorem dX10_perform_53 : decode cX10_perform 53 = .ok (.aload_n 0, 1) := by decide +kernel
theorem dX10_perform_54 : decode cX10_perform 54 = .ok (.invokevirtual 394, 3) := by decide +kernel
theorem dX10_perform_57 : decode cX10_perform 57 = .ok (.aload_n 0, 1) := by decide +kernel
theorem dX10_perform_58 : decode cX10_perform 58 = .ok (.aload_n 0, 1) := by decide +kernel
theorem dX10_perform_59 : decode cX10_perform 59 = .ok (.getfield 61, 3) := by decide +kernel
theorem dX10_perform_62 : decode cX10_perform 62 = .ok (.iconst 3, 1) := by decide +kernel
theorem dX10_perform_63 : decode cX10_perform 63 = .ok (.bipush 16, 2) := by decide +kernel
theorem dX10_perform_65 : decode cX10_perform 65 = .ok (.iload_n 1, 1) := by decide +kernel
theorem dX10_perform_66 : decode cX10_perform 66 = .ok (.imul, 1) := by decide +kernel
theorem dX10_perform_67 : decode cX10_perform 67 = .ok (.iload_n 2, 1) := by decide +kernel
theorem dX10_perform_68 : decode cX10_perform 68 = .ok (.iadd, 1) := by decide +kernel
theorem dX10_perform_69 : decode cX10_perform 69 = .ok (.imul, 1) := by decide +kernel
theorem dX10_perform_70 : decode cX10_perform 70 = .ok (.invokevirtual 443, 3) := by decide +kernel
theorem dX10_perform_73 : decode cX10_perform 73 = .ok (.iinc 2 1, 3) := by decide +kernel
theorem dX10_perform_76 : decode cX10_perform 76 = .ok (.goto (-52), 3) := by decide +kernel
theorem dX10_perform_79 : decode cX10_perform 79 = .ok (.iload_n 2, 1) := by decide +kernel
theorem dX10_perform_80 : decode cX10_perform 80 = .ok (.ireturn, 1) := by decide +kernel
theorem dX10_loss_0 : decode cX10_loss 0 = .ok (.aload_n 0, 1) := by decide +kernel
theorem dX10_loss_1 : decode cX10_loss 1 = .ok (.iconst 0, 1) := by decide +kernel
theorem dX10_loss_2 : decode cX10_loss 2 = .ok (.putfield 96, 3) := by decide +kernel
theorem dX10_loss_5 : decode cX10_loss 5 = .ok (.aload_n 0, 1) := by decide +kernel
theorem dX10_loss_6 : decode cX10_loss 6 = .ok (.iload_n 1, 1) := by decide +kernel
theorem dX10_loss_7 : decode cX10_loss 7 = .ok (.invokevirtual 309, 3) := by decide +kernel
theorem dX10_loss_10 : decode cX10_loss 10 = .ok (.ifCond .eq 42, 3) := by decide +kernel
theorem dX10_loss_13 : decode cX10_loss 13 = .ok (.aload_n 0, 1) := by decide +kernel
theorem dX10_loss_14 : decode cX10_loss 14 = .ok (.iload_n 2, 1) := by decide +kernel
theorem dX10_loss_15 : decode cX10_loss 15 = .ok (.invokevirtual 346, 3) := by decide +kernel
theorem dX10_loss_18 : decode cX10_loss 18 = .ok (.ifCond .eq 34, 3) := by decide +kernel
theorem dX10_loss_21 : decode cX10_loss 21 = .ok (.aload_n 0, 1) := by decide +kernel
theorem dX10_loss_22 : decode cX10_loss 22 = .ok (.getfield 61, 3) := by decide +kernel
theorem dX10_loss_25 : decode cX10_loss 25 = .ok (.iconst 2, 1) := by decide +kernel
theorem dX10_loss_26 : decode cX10_loss 26 = .ok (.iload_n 2, 1) := by decide +kernel
theorem dX10_loss_27 : decode cX10_loss 27 = .ok (.imul, 1) := by decide +kernel
theorem dX10_loss_28 : decode cX10_loss 28 = .ok (.iaload, 1) := by decide +kernel
theorem dX10_loss_29 : decode cX10_loss 29 = .ok (.ifCond .le 23, 3) := by decide +kernel
theorem dX10_loss_32 : decode cX10_loss 32 = .ok (.aload_n 0, 1) := by decide +kernel
theorem dX10_loss_33 : decode cX10_loss 33 = .ok (.aload_n 0, 1) := by decide +kernel
theorem dX10_loss_34 : decode cX10_loss 34 = .ok (.getfield 61, 3) := by decide +kernel
theorem dX10_loss_37 : decode cX10_loss 37 = .ok (.iload_n 1, 1) := by decide +kernel
theorem dX10_loss_38 : decode cX10_loss 38 = .ok (.aload_n 0, 1) := by decide +kernel
theorem dX10_loss_39 : decode cX10_loss 39 = .ok (.getfield 43, 3) := by decide +kernel
theorem dX10_loss_42 : decode cX10_loss 42 = .ok (.iconst 4, 1) := by decide +kernel
theorem dX10_loss_43 : decode cX10_loss 43 = .ok (.iload_n 2, 1) := by decide +kernel
theorem dX10_loss_44 : decode cX10_loss 44 = .ok (.imul, 1) := by decide +kernel
theorem dX10_loss_45 : decode cX10_loss 45 = .ok (.iaload, 1) := by decide +kernel
theorem dX10_loss_46 : decode cX10_loss 46 = .ok (.invokevirtual 451, 3) := by decide +kernel
theorem dX10_loss_49 : decode cX10_loss 49 = .ok (.goto 4, 3) := by decide +kernel
theorem dX10_loss_52 : decode cX10_loss 52 = .ok (.iconst (-1), 1) := by decide +kernel
theorem dX10_loss_53 : decode cX10_loss 53 = .ok (.ireturn, 1) := by decide +kernel
theorem dX10_thereIn_0 : decode cX10_thereIn 0 = .ok (.iconst 0, 1) := by decide +kernel
theorem dX10_thereIn_1 : decode cX10_thereIn 1 = .ok (.istore_n 2, 1) := by decide +kernel
theorem dX10_thereIn_2 : decode cX10_thereIn 2 = .ok (.iconst 0, 1) := by decide +kernel
theorem dX10_thereIn_3 : decode cX10_thereIn 3 = .ok (.istore_n 3, 1) := by decide +kernel
theorem dX10_thereIn_4 : decode cX10_thereIn 4 = .ok (.iload_n 3, 1) := by decide +kernel
theorem dX10_thereIn_5 : decode cX10_thereIn 5 = .ok (.aload_n 0, 1) := by decide +kernel
theorem dX10_thereIn_6 : decode cX10_thereIn 6 = .ok (.getfield 291, 3) := by decide +kernel
theorem dX10_thereIn_9 : decode cX10_thereIn 9 = .ok (.if_icmp .ge 27, 3) := by decide +kernel
theorem dX10_thereIn_12 : decode cX10_thereIn 12 = .ok (.iload_n 2, 1) := by decide +kernel
theorem dX10_thereIn_13 : decode cX10_thereIn 13 = .ok (.aload_n 1, 1) := by decide +kernel
theorem dX10_thereIn_14 : decode cX10_thereIn 14 = .ok (.iconst 2, 1) := by decide +kernel
theorem dX10_thereIn_15 : decode cX10_thereIn 15 = .ok (.iload_n 3, 1) := by decide +kernel
theorem dX10_thereIn_16 : decode cX10_thereIn 16 = .ok (.imul, 1) := by decide +kernel
theorem dX10_thereIn_17 : decode cX10_thereIn 17 = .ok (.iaload, 1) := by decide +kernel
theorem dX10_thereIn_18 : decode cX10_thereIn 18 = .ok (.ifCond .le 9, 3) := by decide +kernel
theorem dX10_thereIn_21 : decode cX10_thereIn 21 = .ok (.iconst 1, 1) := by decide +kernel
theorem dX10_thereIn_22 : decode cX10_thereIn 22 = .ok (.iload_n 3, 1) := by decide +kernel
theorem dX10_thereIn_23 : decode cX10_thereIn 23 = .ok (.ishl, 1) := by decide +kernel
theorem dX10_thereIn_24 : decode cX10_thereIn 24 = .ok (.goto 4, 3) := by decide +kernel
theorem dX10_thereIn_27 : decode cX10_thereIn 27 = .ok (.iconst 0, 1) := by decide +kernel
theorem dX10_thereIn_28 : decode cX10_thereIn 28 = .ok (.ior, 1) := by decide +kernel
theorem dX10_thereIn_29 : decode cX10_thereIn 29 = .ok (.istore_n 2, 1) := by decide +kernel
theorem dX10_thereIn_30 : decode cX10_thereIn 30 = .ok (.iinc 3 1, 3) := by decide +kernel
theorem dX10_thereIn_33 : decode cX10_thereIn 33 = .ok (.goto (-29), 3) := by decide +kernel
theorem dX10_thereIn_36 : decode cX10_thereIn 36 = .ok (.iload_n 2, 1) := by decide +kernel
theorem dX10_thereIn_37 : decode cX10_thereIn 37 = .ok (.ireturn, 1) := by decide +kernel
theorem dX10_left_0 : decode cX10_left 0 = .ok (.aload_n 0, 1) := by decide +kernel
theorem dX10_left_1 : decode cX10_left 1 = .ok (.iconst 0, 1) := by decide +kernel
theorem dX10_left_2 : decode cX10_left 2 = .ok (.putfield 96, 3) := by decide +kernel
theorem dX10_left_5 : decode cX10_left 5 = .ok (.aload_n 0, 1) := by decide +kernel
theorem dX10_left_6 : decode cX10_left 6 = .ok (.getfield 291, 3) := by decide +kernel
theorem dX10_left_9 : decode cX10_left 9 = .ok (.ifCond .eq 15, 3) := by decide +kernel
theorem dX10_left_12 : decode cX10_left 12 = .ok (.iload_n 1, 1) := by decide +kernel
theorem dX10_left_13 : decode cX10_left 13 = .ok (.i2l, 1) := by decide +kernel
theorem dX10_left_14 : decode cX10_left 14 = .ok (.lconst 0, 1) := by decide +kernel
theorem dX10_left_15 : decode cX10_left 15 = .ok (.ldc2_w 361, 3) := by decide +kernel
theorem dX10_left_18 : decode cX10_left 18 = .ok (.invokestatic 217, 3) := by decide +kernel
theorem dX10_left_21 : decode cX10_left 21 = .ok (.ifCond .ne 5, 3) := by decide +kernel
theorem dX10_left_24 : decode cX10_left 24 = .ok (.iconst (-1), 1) := by decide +kernel
theorem dX10_left_25 : decode cX10_left 25 = .ok (.ireturn, 1) := by decide +kernel
theorem dX10_left_26 : decode cX10_left 26 = .ok (.aload_n 0, 1) := by decide +kernel
theorem dX10_left_27 : decode cX10_left 27 = .ok (.getfield 61, 3) := by decide +kernel
theorem dX10_left_30 : decode cX10_left 30 = .ok (.aload_n 0, 1) := by decide +kernel
theorem dX10_left_31 : decode cX10_left 31 = .ok (.getfield 64, 3) := by decide +kernel
theorem dX10_left_34 : decode cX10_left 34 = .ok (.invokestatic 436, 3) := by decide +kernel
theorem dX10_left_37 : decode cX10_left 37 = .ok (.iconst 0, 1) := by decide +kernel
theorem dX10_left_38 : decode cX10_left 38 = .ok (.istore_n 2, 1) := by decide +kernel
theorem dX10_left_39 : decode cX10_left 39 = .ok (.iload_n 2, 1) := by decide +kernel
theorem dX10_left_40 : decode cX10_left 40 = .ok (.iload_n 1, 1) := by decide +kernel
theorem dX10_left_41 : decode cX10_left 41 = .ok (.if_icmp .ge 17, 3) := by decide +kernel
theorem dX10_left_44 : decode cX10_left 44 = .ok (.aload_n 0, 1) := by decide +kernel
theorem dX10_left_45 : decode cX10_left 45 = .ok (.aload_n 0, 1) := by decide +kernel
theorem dX10_left_46 : decode cX10_left 46 = .ok (.getfield 64, 3) := by decide +kernel
theorem dX10_left_49 : decode cX10_left 49 = .ok (.invokevirtual 412, 3) := by decide +kernel
theorem dX10_left_52 : decode cX10_left 52 = .ok (.iinc 2 1, 3) := by decide +kernel
theorem dX10_left_55 : decode cX10_left 55 = .ok (.goto (-16), 3) := by decide +kernel
theorem dX10_left_58 : decode cX10_left 58 = .ok (.aload_n 0, 1) := by decide +kernel
theorem dX10_left_59 : decode cX10_left 59 = .ok (.aload_n 0, 1) := by decide +kernel
theorem dX10_left_60 : decode cX10_left 60 = .ok (.getfield 64, 3) := by decide +kernel
theorem dX10_left_63 : decode cX10_left 63 = .ok (.invokevirtual 454, 3) := by decide +kernel
theorem dX10_left_66 : decode cX10_left 66 = .ok (.ireturn, 1) := by decide +kernel
theorem dX10_last_0 : decode cX10_last 0 = .ok (.aload_n 0, 1) := by decide +kernel
theorem dX10_last_1 : decode cX10_last 1 = .ok (.iconst 0, 1) := by decide +kernel
theorem dX10_last_2 : decode cX10_last 2 = .ok (.putfield 96, 3) := by decide +kernel
theorem dX10_last_5 : decode cX10_last 5 = .ok (.aload_n 0, 1) := by decide +kernel
theorem dX10_last_6 : decode cX10_last 6 = .ok (.iload_n 1, 1) := by decide +kernel
theorem dX10_last_7 : decode cX10_last 7 = .ok (.invokevirtual 346, 3) := by decide +kernel
theorem dX10_last_10 : decode cX10_last 10 = .ok (.ifCond .ne 5, 3) := by decide +kernel
theorem dX10_last_13 : decode cX10_last 13 = .ok (.iconst (-1), 1) := by decide +kernel
theorem dX10_last_14 : decode cX10_last 14 = .ok (.ireturn, 1) := by decide +kernel
theorem dX10_last_15 : decode cX10_last 15 = .ok (.aload_n 0, 1) := by decide +kernel
theorem dX10_last_16 : decode cX10_last 16 = .ok (.getfield 61, 3) := by decide +kernel
theorem dX10_last_19 : decode cX10_last 19 = .ok (.aload_n 0, 1) := by decide +kernel
theorem dX10_last_20 : decode cX10_last 20 = .ok (.getfield 64, 3) := by decide +kernel
theorem dX10_last_23 : decode cX10_last 23 = .ok (.invokestatic 436, 3) := by decide +kernel
theorem dX10_last_26 : decode cX10_last 26 = .ok (.iconst 0, 1) := by decide +kernel
theorem dX10_last_27 : decode cX10_last 27 = .ok (.istore_n 2, 1) := by decide +kernel
theorem dX10_last_28 : decode cX10_last 28 = .ok (.iload_n 2, 1) := by decide +kernel
theorem dX10_last_29 : decode cX10_last 29 = .ok (.bipush 99, 2) := by decide +kernel
theorem dX10_last_31 : decode cX10_last 31 = .ok (.if_icmp .gt 30, 3) := by decide +kernel
theorem dX10_last_34 : decode cX10_last 34 = .ok (.aload_n 0, 1) := by decide +kernel
theorem dX10_last_35 : decode cX10_last 35 = .ok (.getfield 64, 3) := by decide +kernel
theorem dX10_last_38 : decode cX10_last 38 = .ok (.iconst 2, 1) := by decide +kernel
theorem dX10_last_39 : decode cX10_last 39 = .ok (.iload_n 1, 1) := by decide +kernel
theorem dX10_last_40 : decode cX10_last 40 = .ok (.imul, 1) := by decide +kernel
theorem dX10_last_41 : decode cX10_last 41 = .ok (.iaload, 1) := by decide +kernel
theorem dX10_last_42 : decode cX10_last 42 = .ok (.ifCond .ne 5, 3) := by decide +kernel
theorem dX10_last_45 : decode cX10_last 45 = .ok (.iload_n 2, 1) := by decide +kernel
theorem dX10_last_46 : decode cX10_last 46 = .ok (.ireturn, 1) := by decide +kernel
theorem dX10_last_47 : decode cX10_last 47 = .ok (.aload_n 0, 1) := by decide +kernel
theorem dX10_last_48 : decode cX10_last 48 = .ok (.aload_n 0, 1) := by decide +kernel
theorem dX10_last_49 : decode cX10_last 49 = .ok (.getfield 64, 3) := by decide +kernel
theorem dX10_last_52 : decode cX10_last 52 = .ok (.invokevirtual 412, 3) := by decide +kernel
theorem dX10_last_55 : decode cX10_last 55 = .ok (.iinc 2 1, 3) := by decide +kernel
theorem dX10_last_58 : decode cX10_last 58 = .ok (.goto (-30), 3) := by decide +kernel
theorem dX10_last_61 : decode cX10_last 61 = .ok (.iconst (-1), 1) := by decide +kernel
theorem dX10_last_62 : decode cX10_last 62 = .ok (.ireturn, 1) := by decide +kernel
theorem dX10_isOf_0 : decode cX10_isOf 0 = .ok (.aload_n 0, 1) := by decide +kernel
theorem dX10_isOf_1 : decode cX10_isOf 1 = .ok (.getfield 43, 3) := by decide +kernel
theorem dX10_isOf_4 : decode cX10_isOf 4 = .ok (.iconst 4, 1) := by decide +kernel
theorem dX10_isOf_5 : decode cX10_isOf 5 = .ok (.iload_n 1, 1) := by decide +kernel
theorem dX10_isOf_6 : decode cX10_isOf 6 = .ok (.imul, 1) := by decide +kernel
theorem dX10_isOf_7 : decode cX10_isOf 7 = .ok (.iconst 2, 1) := by decide +kernel
theorem dX10_isOf_8 : decode cX10_isOf 8 = .ok (.iadd, 1) := by decide +kernel
theorem dX10_isOf_9 : decode cX10_isOf 9 = .ok (.iaload, 1) := by decide +kernel
theorem dX10_isOf_10 : decode cX10_isOf 10 = .ok (.iload_n 2, 1) := by decide +kernel
theorem dX10_isOf_11 : decode cX10_isOf 11 = .ok (.if_icmp .ne 7, 3) := by decide +kernel
theorem dX10_isOf_14 : decode cX10_isOf 14 = .ok (.iconst 1, 1) := by decide +kernel
theorem dX10_isOf_15 : decode cX10_isOf 15 = .ok (.goto 4, 3) := by decide +kernel
theorem dX10_isOf_18 : decode cX10_isOf 18 = .ok (.iconst 0, 1) := by decide +kernel
theorem dX10_isOf_19 : decode cX10_isOf 19 = .ok (.ireturn, 1) := by decide +kernel
theorem dX10_load_0 : decode cX10_load 0 = .ok (.iconst 0, 1) := by decide +kernel
theorem dX10_load_1 : decode cX10_load 1 = .ok (.istore_n 3, 1) := by decide +kernel
theorem dX10_load_2 : decode cX10_load 2 = .ok (.iload_n 3, 1) := by decide +kernel
theorem dX10_load_3 : decode cX10_load 3 = .ok (.sipush 351, 3) := by decide +kernel
theorem dX10_load_6 : decode cX10_load 6 = .ok (.if_icmp .ge 24, 3) := by decide +kernel
theorem dX10_load_9 : decode cX10_load 9 = .ok (.aload_n 2, 1) := by decide +kernel
theorem dX10_load_10 : decode cX10_load 10 = .ok (.iload_n 3, 1) := by decide +kernel
theorem dX10_load_11 : decode cX10_load 11 = .ok (.aload_n 0, 1) := by decide +kernel
theorem dX10_load_12 : decode cX10_load 12 = .ok (.getfield 67, 3) := by decide +kernel
theorem dX10_load_15 : decode cX10_load 15 = .ok (.sipush 351, 3) := by decide +kernel
theorem dX10_load_18 : decode cX10_load 18 = .ok (.iload_n 1, 1) := by decide +kernel
theorem dX10_load_19 : decode cX10_load 19 = .ok (.imul, 1) := by decide +kernel
theorem dX10_load_20 : decode cX10_load 20 = .ok (.iload_n 3, 1) := by decide +kernel
theorem dX10_load_21 : decode cX10_load 21 = .ok (.iadd, 1) := by decide +kernel
theorem dX10_load_22 : decode cX10_load 22 = .ok (.iaload, 1) := by decide +kernel
theorem dX10_load_23 : decode cX10_load 23 = .ok (.iastore, 1) := by decide +kernel
theorem dX10_load_24 : decode cX10_load 24 = .ok (.iinc 3 1, 3) := by decide +kernel
theorem dX10_load_27 : decode cX10_load 27 = .ok (.goto (-25), 3) := by decide +kernel
theorem dX10_load_30 : decode cX10_load 30 = .ok (.return_, 1) := by decide +kernel
theorem dX10_save_0 : decode cX10_save 0 = .ok (.iconst 0, 1) := by decide +kernel
theorem dX10_save_1 : decode cX10_save 1 = .ok (.istore_n 3, 1) := by decide +kernel
theorem dX10_save_2 : decode cX10_save 2 = .ok (.iload_n 3, 1) := by decide +kernel
theorem dX10_save_3 : decode cX10_save 3 = .ok (.sipush 351, 3) := by decide +kernel
theorem dX10_save_6 : decode cX10_save 6 = .ok (.if_icmp .ge 24, 3) := by decide +kernel
theorem dX10_save_9 : decode cX10_save 9 = .ok (.aload_n 0, 1) := by decide +kernel
theorem dX10_save_10 : decode cX10_save 10 = .ok (.getfield 67, 3) := by decide +kernel
theorem dX10_save_13 : decode cX10_save 13 = .ok (.sipush 351, 3) := by decide +kernel
theorem dX10_save_16 : decode cX10_save 16 = .ok (.iload_n 1, 1) := by decide +kernel
theorem dX10_save_17 : decode cX10_save 17 = .ok (.imul, 1) := by decide +kernel
theorem dX10_save_18 : decode cX10_save 18 = .ok (.iload_n 3, 1) := by decide +kernel
theorem dX10_save_19 : decode cX10_save 19 = .ok (.iadd, 1) := by decide +kernel
theorem dX10_save_20 : decode cX10_save 20 = .ok (.aload_n 2, 1) := by decide +kernel
theorem dX10_save_21 : decode cX10_save 21 = .ok (.iload_n 3, 1) := by decide +kernel
theorem dX10_save_22 : decode cX10_save 22 = .ok (.iaload, 1) := by decide +kernel
theorem dX10_save_23 : decode cX10_save 23 = .ok (.iastore, 1) := by decide +kernel
theorem dX10_save_24 : decode cX10_save 24 = .ok (.iinc 3 1, 3) := by decide +kernel
theorem dX10_save_27 : decode cX10_save 27 = .ok (.goto (-25), 3) := by decide +kernel
theorem dX10_save_30 : decode cX10_save 30 = .ok (.return_, 1) := by decide +kernel
theorem dX10_goOrder_0 : decode cX10_goOrder 0 = .ok (.aload_n 0, 1) := by decide +kernel
theorem dX10_goOrder_1 : decode cX10_goOrder 1 = .ok (.getfield 457, 3) := by decide +kernel
theorem dX10_goOrder_4 : decode cX10_goOrder 4 = .ok (.iconst (-1), 1) := by decide +kernel
theorem dX10_goOrder_5 : decode cX10_goOrder 5 = .ok (.if_icmp .eq 13, 3) := by decide +kernel
theorem dX10_goOrder_8 : decode cX10_goOrder 8 = .ok (.iload 5, 2) := by decide +kernel
theorem dX10_goOrder_10 : decode cX10_goOrder 10 = .ok (.aload_n 0, 1) := by decide +kernel
theorem dX10_goOrder_11 : decode cX10_goOrder 11 = .ok (.getfield 457, 3) := by decide +kernel
theorem dX10_goOrder_14 : decode cX10_goOrder 14 = .ok (.if_icmp .lt 4, 3) := by decide +kernel
theorem dX10_goOrder_17 : decode cX10_goOrder 17 = .ok (.return_, 1) := by decide +kernel
theorem dX10_goOrder_18 : decode cX10_goOrder 18 = .ok (.iload_n 2, 1) := by decide +kernel
theorem dX10_goOrder_19 : decode cX10_goOrder 19 = .ok (.ifCond .ne 16, 3) := by decide +kernel
theorem dX10_goOrder_22 : decode cX10_goOrder 22 = .ok (.aload_n 0, 1) := by decide +kernel
theorem dX10_goOrder_23 : decode cX10_goOrder 23 = .ok (.iload 5, 2) := by decide +kernel
theorem dX10_goOrder_25 : decode cX10_goOrder 25 = .ok (.putfield 457, 3) := by decide +kernel
theorem dX10_goOrder_28 : decode cX10_goOrder 28 = .ok (.aload_n 0, 1) := by decide +kernel
theorem dX10_goOrder_29 : decode cX10_goOrder 29 = .ok (.iload 4, 2) := by decide +kernel
theorem dX10_goOrder_31 : decode cX10_goOrder 31 = .ok (.putfield 460, 3) := by decide +kernel
theorem dX10_goOrder_34 : decode cX10_goOrder 34 = .ok (.return_, 1) := by decide +kernel
theorem dX10_goOrder_35 : decode cX10_goOrder 35 = .ok (.iload_n 3, 1) := by decide +kernel
theorem dX10_goOrder_36 : decode cX10_goOrder 36 = .ok (.ifCond .le 11, 3) := by decide +kernel
theorem dX10_goOrder_39 : decode cX10_goOrder 39 = .ok (.aload_n 0, 1) := by decide +kernel
theorem dX10_goOrder_40 : decode cX10_goOrder 40 = .ok (.aload_n 0, 1) := by decide +kernel
theorem dX10_goOrder_41 : decode cX10_goOrder 41 = .ok (.getfield 64, 3) := by decide +kernel
theorem dX10_goOrder_44 : decode cX10_goOrder 44 = .ok (.invokevirtual 412, 3) := by decide +kernel
theorem dX10_goOrder_47 : decode cX10_goOrder 47 = .ok (.aload_n 0, 1) := by decide +kernel
theorem dX10_goOrder_48 : decode cX10_goOrder 48 = .ok (.iload_n 3, 1) := by decide +kernel
theorem dX10_goOrder_49 : decode cX10_goOrder 49 = .ok (.aload_n 0, 1) := by decide +kernel
theorem dX10_goOrder_50 : decode cX10_goOrder 50 = .ok (.getfield 64, 3) := by decide +kernel
theorem dX10_goOrder_53 : decode cX10_goOrder 53 = .ok (.invokevirtual 463, 3) := by decide +kernel
theorem dX10_goOrder_56 : decode cX10_goOrder 56 = .ok (.iconst 0, 1) := by decide +kernel
theorem dX10_goOrder_57 : decode cX10_goOrder 57 = .ok (.istore 6, 2) := by decide +kernel
theorem dX10_goOrder_59 : decode cX10_goOrder 59 = .ok (.iload 6, 2) := by decide +kernel
theorem dX10_goOrder_61 : decode cX10_goOrder 61 = .ok (.aload_n 0, 1) := by decide +kernel
theorem dX10_goOrder_62 : decode cX10_goOrder 62 = .ok (.getfield 291, 3) := by decide +kernel
theorem dX10_goOrder_65 : decode cX10_goOrder 65 = .ok (.if_icmp .ge 89, 3) := by decide +kernel
theorem dX10_goOrder_68 : decode cX10_goOrder 68 = .ok (.iload_n 2, 1) := by decide +kernel
theorem dX10_goOrder_69 : decode cX10_goOrder 69 = .ok (.iload 6, 2) := by decide +kernel
theorem dX10_goOrder_71 : decode cX10_goOrder 71 = .ok (.invokestatic 229, 3) := by decide +kernel
theorem dX10_goOrder_74 : decode cX10_goOrder 74 = .ok (.ifCond .ne 6, 3) := by decide +kernel
theorem dX10_goOrder_77 : decode cX10_goOrder 77 = .ok (.goto 71, 3) := by decide +kernel
theorem dX10_goOrder_80 : decode cX10_goOrder 80 = .ok (.aload_n 0, 1) := by decide +kernel
theorem dX10_goOrder_81 : decode cX10_goOrder 81 = .ok (.iload_n 3, 1) := by decide +kernel
theorem dX10_goOrder_82 : decode cX10_goOrder 82 = .ok (.aload_n 0, 1) := by decide +kernel
theorem dX10_goOrder_83 : decode cX10_goOrder 83 = .ok (.getfield 64, 3) := by decide +kernel
theorem dX10_goOrder_86 : decode cX10_goOrder 86 = .ok (.invokevirtual 467, 3) := by decide +kernel
theorem dX10_goOrder_89 : decode cX10_goOrder 89 = .ok (.aload_n 0, 1) := by decide +kernel
theorem dX10_goOrder_90 : decode cX10_goOrder 90 = .ok (.aload_n 0, 1) := by decide +kernel
theorem dX10_goOrder_91 : decode cX10_goOrder 91 = .ok (.getfield 64, 3) := by decide +kernel
theorem dX10_goOrder_94 : decode cX10_goOrder 94 = .ok (.iload_n 1, 1) := by decide +kernel
theorem dX10_goOrder_95 : decode cX10_goOrder 95 = .ok (.iload 6, 2) := by decide +kernel
theorem dX10_goOrder_97 : decode cX10_goOrder 97 = .ok (.invokevirtual 391, 3) := by decide +kernel
theorem dX10_goOrder_100 : decode cX10_goOrder 100 = .ok (.ifCond .ne 6, 3) := by decide +kernel
theorem dX10_goOrder_103 : decode cX10_goOrder 103 = .ok (.goto 45, 3) := by decide +kernel
theorem dX10_goOrder_106 : decode cX10_goOrder 106 = .ok (.aload_n 0, 1) := by decide +kernel
theorem dX10_goOrder_107 : decode cX10_goOrder 107 = .ok (.aload_n 0, 1) := by decide +kernel
theorem dX10_goOrder_108 : decode cX10_goOrder 108 = .ok (.getfield 64, 3) := by decide +kernel
theorem dX10_goOrder_111 : decode cX10_goOrder 111 = .ok (.iload_n 1, 1) := by decide +kernel
theorem dX10_goOrder_112 : decode cX10_goOrder 112 = .ok (.iload 6, 2) := by decide +kernel
theorem dX10_goOrder_114 : decode cX10_goOrder 114 = .ok (.invokevirtual 397, 3) := by decide +kernel
theorem dX10_goOrder_117 : decode cX10_goOrder 117 = .ok (.istore 7, 2) := by decide +kernel
theorem dX10_goOrder_119 : decode cX10_goOrder 119 = .ok (.aload_n 0, 1) := by decide +kernel
theorem dX10_goOrder_120 : decode cX10_goOrder 120 = .ok (.iload_n 1, 1) := by decide +kernel
theorem dX10_goOrder_121 : decode cX10_goOrder 121 = .ok (.iload_n 2, 1) := by decide +kernel
theorem dX10_goOrder_122 : decode cX10_goOrder 122 = .ok (.iconst 1, 1) := by decide +kernel
theorem dX10_goOrder_123 : decode cX10_goOrder 123 = .ok (.iload 6, 2) := by decide +kernel
theorem dX10_goOrder_125 : decode cX10_goOrder 125 = .ok (.ishl, 1) := by decide +kernel
theorem dX10_goOrder_126 : decode cX10_goOrder 126 = .ok (.iconst (-1), 1) := by decide +kernel
theorem dX10_goOrder_127 : decode cX10_goOrder 127 = .ok (.ixor, 1) := by decide +kernel
theorem dX10_goOrder_128 : decode cX10_goOrder 128 = .ok (.iand, 1) := by decide +kernel
theorem dX10_goOrder_129 : decode cX10_goOrder 129 = .ok (.iload_n 3, 1) := by decide +kernel
theorem dX10_goOrder_130 : decode cX10_goOrder 130 = .ok (.iconst 1, 1) := by decide +kernel
theorem dX10_goOrder_131 : decode cX10_goOrder 131 = .ok (.iadd, 1) := by decide +kernel
theorem dX10_goOrder_132 : decode cX10_goOrder 132 = .ok (.iload 4, 2) := by decide +kernel
theorem dX10_goOrder_134 : decode cX10_goOrder 134 = .ok (.bipush 12, 2) := by decide +kernel
theorem dX10_goOrder_136 : decode cX10_goOrder 136 = .ok (.imul, 1) := by decide +kernel
theorem dX10_goOrder_137 : decode cX10_goOrder 137 = .ok (.iload 6, 2) := by decide +kernel
theorem dX10_goOrder_139 : decode cX10_goOrder 139 = .ok (.iadd, 1) := by decide +kernel
theorem dX10_goOrder_140 : decode cX10_goOrder 140 = .ok (.iload 5, 2) := by decide +kernel
theorem dX10_goOrder_142 : decode cX10_goOrder 142 = .ok (.iload 7, 2) := by decide +kernel
theorem dX10_goOrder_144 : decode cX10_goOrder 144 = .ok (.iadd, 1) := by decide +kernel
theorem dX10_goOrder_145 : decode cX10_goOrder 145 = .ok (.invokevirtual 470, 3) := by decide +kernel
theorem dX10_goOrder_148 : decode cX10_goOrder 148 = .ok (.iinc 6 1, 3) := by decide +kernel
theorem dX10_goOrder_151 : decode cX10_goOrder 151 = .ok (.goto (-92), 3) := by decide +kernel
theorem dX10_goOrder_154 : decode cX10_goOrder 154 = .ok (.return_, 1) := by decide +kernel
theorem dX10_order_0 : decode cX10_order 0 = .ok (.aload_n 0, 1) := by decide +kernel
theorem dX10_order_1 : decode cX10_order 1 = .ok (.iconst 0, 1) := by decide +kernel
theorem dX10_order_2 : decode cX10_order 2 = .ok (.putfield 96, 3) := by decide +kernel
theorem dX10_order_5 : decode cX10_order 5 = .ok (.aload_n 0, 1) := by decide +kernel
theorem dX10_order_6 : decode cX10_order 6 = .ok (.iload_n 1, 1) := by decide +kernel
theorem dX10_order_7 : decode cX10_order 7 = .ok (.invokevirtual 309, 3) := by decide +kernel
theorem dX10_order_10 : decode cX10_order 10 = .ok (.ifCond .eq 25, 3) := by decide +kernel
theorem dX10_order_13 : decode cX10_order 13 = .ok (.iload_n 2, 1) := by decide +kernel
theorem dX10_order_14 : decode cX10_order 14 = .ok (.i2l, 1) := by decide +kernel
theorem dX10_order_15 : decode cX10_order 15 = .ok (.lconst 0, 1) := by decide +kernel
theorem dX10_order_16 : decode cX10_order 16 = .ok (.ldc2_w 344, 3) := by decide +kernel
theorem dX10_order_19 : decode cX10_order 19 = .ok (.invokestatic 217, 3) := by decide +kernel
theorem dX10_order_22 : decode cX10_order 22 = .ok (.ifCond .eq 13, 3) := by decide +kernel
theorem dX10_order_25 : decode cX10_order 25 = .ok (.iload_n 3, 1) := by decide +kernel
theorem dX10_order_26 : decode cX10_order 26 = .ok (.i2l, 1) := by decide +kernel
theorem dX10_order_27 : decode cX10_order 27 = .ok (.lconst 0, 1) := by decide +kernel
theorem dX10_order_28 : decode cX10_order 28 = .ok (.lconst 1, 1) := by decide +kernel
theorem dX10_order_29 : decode cX10_order 29 = .ok (.invokestatic 217, 3) := by decide +kernel
theorem dX10_order_32 : decode cX10_order 32 = .ok (.ifCond .ne 7, 3) := by decide +kernel
theorem dX10_order_35 : decode cX10_order 35 = .ok (.ldc_w 432, 3) := by decide +kernel
theorem dX10_order_38 : decode cX10_order 38 = .ok (.ireturn, 1) := by decide +kernel
theorem dX10_order_39 : decode cX10_order 39 = .ok (.iconst 0, 1) := by decide +kernel
theorem dX10_order_40 : decode cX10_order 40 = .ok (.istore 4, 2) := by decide +kernel
theorem dX10_order_42 : decode cX10_order 42 = .ok (.iconst 0, 1) := by decide +kernel
theorem dX10_order_43 : decode cX10_order 43 = .ok (.istore 5, 2) := by decide +kernel
theorem dX10_order_45 : decode cX10_order 45 = .ok (.iload 5, 2) := by decide +kernel
theorem dX10_order_47 : decode cX10_order 47 = .ok (.aload_n 0, 1) := by decide +kernel
theorem dX10_order_48 : decode cX10_order 48 = .ok (.getfield 291, 3) := by decide +kernel
theorem dX10_order_51 : decode cX10_order 51 = .ok (.if_icmp .ge 44, 3) := by decide +kernel
theorem dX10_order_54 : decode cX10_order 54 = .ok (.iload 4, 2) := by decide +kernel
theorem dX10_order_56 : decode cX10_order 56 = .ok (.aload_n 0, 1) := by decide +kernel
theorem dX10_order_57 : decode cX10_order 57 = .ok (.iload 5, 2) := by decide +kernel
theorem dX10_order_59 : decode cX10_order 59 = .ok (.iload_n 2, 1) := by decide +kernel
theorem dX10_order_60 : decode cX10_order 60 = .ok (.invokevirtual 474, 3) := by decide +kernel
theorem dX10_order_63 : decode cX10_order 63 = .ok (.ifCond .eq 22, 3) := by decide +kernel
theorem dX10_order_66 : decode cX10_order 66 = .ok (.aload_n 0, 1) := by decide +kernel
theorem dX10_order_67 : decode cX10_order 67 = .ok (.getfield 61, 3) := by decide +kernel
theorem dX10_order_70 : decode cX10_order 70 = .ok (.iconst 2, 1) := by decide +kernel
theorem dX10_order_71 : decode cX10_order 71 = .ok (.iload 5, 2) := by decide +kernel
theorem dX10_order_73 : decode cX10_order 73 = .ok (.imul, 1) := by decide +kernel
theorem dX10_order_74 : decode cX10_order 74 = .ok (.iaload, 1) := by decide +kernel
theorem dX10_order_75 : decode cX10_order 75 = .ok (.ifCond .le 10, 3) := by decide +kernel
theorem dX10_order_78 : decode cX10_order 78 = .ok (.iconst 1, 1) := by decide +kernel
theorem dX10_order_79 : decode cX10_order 79 = .ok (.iload 5, 2) := by decide +kernel
theorem dX10_order_81 : decode cX10_order 81 = .ok (.ishl, 1) := by decide +kernel
theorem dX10_order_82 : decode cX10_order 82 = .ok (.goto 4, 3) := by decide +kernel
theorem dX10_order_85 : decode cX10_order 85 = .ok (.iconst 0, 1) := by decide +kernel
theorem dX10_order_86 : decode cX10_order 86 = .ok (.ior, 1) := by decide +kernel
theorem dX10_order_87 : decode cX10_order 87 = .ok (.istore 4, 2) := by decide +kernel
theorem dX10_order_89 : decode cX10_order 89 = .ok (.iinc 5 1, 3) := by decide +kernel
theorem dX10_order_92 : decode cX10_order 92 = .ok (.goto (-47), 3) := by decide +kernel
theorem dX10_order_95 : decode cX10_order 95 = .ok (.iload 4, 2) := by decide +kernel
theorem dX10_order_97 : decode cX10_order 97 = .ok (.ifCond .eq 12, 3) := by decide +kernel
theorem dX10_order_100 : decode cX10_order 100 = .ok (.iload 4, 2) := by decide +kernel
theorem dX10_order_102 : decode cX10_order 102 = .ok (.invokestatic 477, 3) := by decide +kernel
theorem dX10_order_105 : decode cX10_order 105 = .ok (.iconst 5, 1) := by decide +kernel
theorem dX10_order_106 : decode cX10_order 106 = .ok (.if_icmp .le 7, 3) := by decide +kernel
theorem dX10_order_109 : decode cX10_order 109 = .ok (.ldc_w 432, 3) := by decide +kernel
theorem dX10_order_112 : decode cX10_order 112 = .ok (.ireturn, 1) := by decide +kernel
theorem dX10_order_113 : decode cX10_order 113 = .ok (.aload_n 0, 1) := by decide +kernel
theorem dX10_order_114 : decode cX10_order 114 = .ok (.getfield 61, 3) := by decide +kernel
theorem dX10_order_117 : decode cX10_order 117 = .ok (.aload_n 0, 1) := by decide +kernel
theorem dX10_order_118 : decode cX10_order 118 = .ok (.getfield 64, 3) := by decide +kernel
theorem dX10_order_121 : decode cX10_order 121 = .ok (.invokestatic 436, 3) := by decide +kernel
theorem dX10_order_124 : decode cX10_order 124 = .ok (.aload_n 0, 1) := by decide +kernel
theorem dX10_order_125 : decode cX10_order 125 = .ok (.aload_n 0, 1) := by decide +kernel
theorem dX10_order_126 : decode cX10_order 126 = .ok (.getfield 64, 3) := by decide +kernel
theorem dX10_order_129 : decode cX10_order 129 = .ok (.iload_n 1, 1) := by decide +kernel
theorem dX10_order_130 : decode cX10_order 130 = .ok (.invokevirtual 369, 3) := by decide +kernel
theorem dX10_order_133 : decode cX10_order 133 = .ok (.ifCond .ne 11, 3) := by decide +kernel
theorem dX10_order_136 : decode cX10_order 136 = .ok (.aload_n 0, 1) := by decide +kernel
theorem dX10_order_137 : decode cX10_order 137 = .ok (.aload_n 0, 1) := by decide +kernel
theorem dX10_order_138 : decode cX10_order 138 = .ok (.getfield 64, 3) := by decide +kernel
theorem dX10_order_141 : decode cX10_order 141 = .ok (.invokevirtual 412, 3) := by decide +kernel
theorem dX10_order_144 : decode cX10_order 144 = .ok (.aload_n 0, 1) := by decide +kernel
theorem dX10_order_145 : decode cX10_order 145 = .ok (.iconst (-1), 1) := by decide +kernel
theorem dX10_order_146 : decode cX10_order 146 = .ok (.putfield 457, 3) := by decide +kernel
theorem dX10_order_149 : decode cX10_order 149 = .ok (.aload_n 0, 1) := by decide +kernel
theorem dX10_order_150 : decode cX10_order 150 = .ok (.iload_n 1, 1) := by decide +kernel
theorem dX10_order_151 : decode cX10_order 151 = .ok (.iload 4, 2) := by decide +kernel
theorem dX10_order_153 : decode cX10_order 153 = .ok (.iconst 0, 1) := by decide +kernel
theorem dX10_order_154 : decode cX10_order 154 = .ok (.iconst 0, 1) := by decide +kernel
theorem dX10_order_155 : decode cX10_order 155 = .ok (.iconst 0, 1) := by decide +kernel
theorem dX10_order_156 : decode cX10_order 156 = .ok (.invokevirtual 470, 3) := by decide +kernel
theorem dX10_order_159 : decode cX10_order 159 = .ok (.aload_n 0, 1) := by decide +kernel
theorem dX10_order_160 : decode cX10_order 160 = .ok (.getfield 457, 3) := by decide +kernel
theorem dX10_order_163 : decode cX10_order 163 = .ok (.iconst (-1), 1) := by decide +kernel
theorem dX10_order_164 : decode cX10_order 164 = .ok (.if_icmp .ne 9, 3) := by decide +kernel
theorem dX10_order_167 : decode cX10_order 167 = .ok (.ldc_w 432, 3) := by decide +kernel
theorem dX10_order_170 : decode cX10_order 170 = .ok (.goto 18, 3) := by decide +kernel
theorem dX10_order_173 : decode cX10_order 173 = .ok (.iload_n 3, 1) := by decide +kernel
theorem dX10_order_174 : decode cX10_order 174 = .ok (.ifCond .ne 10, 3) := by decide +kernel
theorem dX10_order_177 : decode cX10_order 177 = .ok (.aload_n 0, 1) := by decide +kernel
theorem dX10_order_178 : decode cX10_order 178 = .ok (.getfield 460, 3) := by decide +kernel
theorem dX10_order_181 : decode cX10_order 181 = .ok (.goto 7, 3) := by decide +kernel
theorem dX10_order_184 : decode cX10_order 184 = .ok (.aload_n 0, 1) := by decide +kernel
theorem dX10_order_185 : decode cX10_order 185 = .ok (.getfield 457, 3) := by decide +kernel
theorem dX10_order_188 : decode cX10_order 188 = .ok (.ireturn, 1) := by decide +kernel
theorem dX10_goShare_0 : decode cX10_goShare 0 = .ok (.iload_n 2, 1) := by decide +kernel
theorem dX10_goShare_1 : decode cX10_goShare 1 = .ok (.aload_n 0, 1) := by decide +kernel
theorem dX10_goShare_2 : decode cX10_goShare 2 = .ok (.getfield 294, 3) := by decide +kernel
theorem dX10_goShare_5 : decode cX10_goShare 5 = .ok (.if_icmp .ne 44, 3) := by decide +kernel
theorem dX10_goShare_8 : decode cX10_goShare 8 = .ok (.iload 4, 2) := by decide +kernel
theorem dX10_goShare_10 : decode cX10_goShare 10 = .ok (.aload_n 0, 1) := by decide +kernel
theorem dX10_goShare_11 : decode cX10_goShare 11 = .ok (.getfield 482, 3) := by decide +kernel
theorem dX10_goShare_14 : decode cX10_goShare 14 = .ok (.if_icmp .lt 21, 3) := by decide +kernel
theorem dX10_goShare_17 : decode cX10_goShare 17 = .ok (.iload 4, 2) := by decide +kernel
theorem dX10_goShare_19 : decode cX10_goShare 19 = .ok (.aload_n 0, 1) := by decide +kernel
theorem dX10_goShare_20 : decode cX10_goShare 20 = .ok (.getfield 482, 3) := by decide +kernel
theorem dX10_goShare_23 : decode cX10_goShare 23 = .ok (.if_icmp .ne 13, 3) := by decide +kernel
theorem dX10_goShare_26 : decode cX10_goShare 26 = .ok (.iload 5, 2) := by decide +kernel
theorem dX10_goShare_28 : decode cX10_goShare 28 = .ok (.aload_n 0, 1) := by decide +kernel
theorem dX10_goShare_29 : decode cX10_goShare 29 = .ok (.getfield 485, 3) := by decide +kernel
theorem dX10_goShare_32 : decode cX10_goShare 32 = .ok (.if_icmp .lt 4, 3) := by decide +kernel
theorem dX10_goShare_35 : decode cX10_goShare 35 = .ok (.return_, 1) := by decide +kernel
theorem dX10_goShare_36 : decode cX10_goShare 36 = .ok (.aload_n 0, 1) := by decide +kernel
theorem dX10_goShare_37 : decode cX10_goShare 37 = .ok (.iload 4, 2) := by decide +kernel
theorem dX10_goShare_39 : decode cX10_goShare 39 = .ok (.putfield 482, 3) := by decide +kernel
theorem dX10_goShare_42 : decode cX10_goShare 42 = .ok (.aload_n 0, 1) := by decide +kernel
theorem dX10_goShare_43 : decode cX10_goShare 43 = .ok (.iload 5, 2) := by decide +kernel
theorem dX10_goShare_45 : decode cX10_goShare 45 = .ok (.putfield 485, 3) := by decide +kernel
theorem dX10_goShare_48 : decode cX10_goShare 48 = .ok (.return_, 1) := by decide +kernel
theorem dX10_goShare_49 : decode cX10_goShare 49 = .ok (.aload_n 0, 1) := by decide +kernel
theorem dX10_goShare_50 : decode cX10_goShare 50 = .ok (.iload_n 1, 1) := by decide +kernel
theorem dX10_goShare_51 : decode cX10_goShare 51 = .ok (.iload_n 2, 1) := by decide +kernel
theorem dX10_goShare_52 : decode cX10_goShare 52 = .ok (.iconst 1, 1) := by decide +kernel
theorem dX10_goShare_53 : decode cX10_goShare 53 = .ok (.iadd, 1) := by decide +kernel
theorem dX10_goShare_54 : decode cX10_goShare 54 = .ok (.iload_n 3, 1) := by decide +kernel
theorem dX10_goShare_55 : decode cX10_goShare 55 = .ok (.iload 4, 2) := by decide +kernel
theorem dX10_goShare_57 : decode cX10_goShare 57 = .ok (.iload 5, 2) := by decide +kernel
theorem dX10_goShare_59 : decode cX10_goShare 59 = .ok (.invokevirtual 488, 3) := by decide +kernel
theorem dX10_goShare_62 : decode cX10_goShare 62 = .ok (.iconst 0, 1) := by decide +kernel
theorem dX10_goShare_63 : decode cX10_goShare 63 = .ok (.istore 6, 2) := by decide +kernel
theorem dX10_goShare_65 : decode cX10_goShare 65 = .ok (.iload 6, 2) := by decide +kernel
theorem dX10_goShare_67 : decode cX10_goShare 67 = .ok (.aload_n 0, 1) := by decide +kernel
theorem dX10_goShare_68 : decode cX10_goShare 68 = .ok (.getfield 291, 3) := by decide +kernel
theorem dX10_goShare_71 : decode cX10_goShare 71 = .ok (.if_icmp .ge 97, 3) := by decide +kernel
theorem dX10_goShare_74 : decode cX10_goShare 74 = .ok (.aload_n 0, 1) := by decide +kernel
theorem dX10_goShare_75 : decode cX10_goShare 75 = .ok (.iload 6, 2) := by decide +kernel
theorem dX10_goShare_77 : decode cX10_goShare 77 = .ok (.iload_n 1, 1) := by decide +kernel
theorem dX10_goShare_78 : decode cX10_goShare 78 = .ok (.invokevirtual 474, 3) := by decide +kernel
theorem dX10_goShare_81 : decode cX10_goShare 81 = .ok (.ifCond .eq 81, 3) := by decide +kernel
theorem dX10_goShare_84 : decode cX10_goShare 84 = .ok (.iload_n 3, 1) := by decide +kernel
theorem dX10_goShare_85 : decode cX10_goShare 85 = .ok (.iload 6, 2) := by decide +kernel
theorem dX10_goShare_87 : decode cX10_goShare 87 = .ok (.invokestatic 229, 3) := by decide +kernel
theorem dX10_goShare_90 : decode cX10_goShare 90 = .ok (.ifCond .ne 72, 3) := by decide +kernel
theorem dX10_goShare_93 : decode cX10_goShare 93 = .ok (.aload_n 0, 1) := by decide +kernel
theorem dX10_goShare_94 : decode cX10_goShare 94 = .ok (.getfield 61, 3) := by decide +kernel
theorem dX10_goShare_97 : decode cX10_goShare 97 = .ok (.iconst 2, 1) := by decide +kernel
theorem dX10_goShare_98 : decode cX10_goShare 98 = .ok (.iload 6, 2) := by decide +kernel
theorem dX10_goShare_100 : decode cX10_goShare 100 = .ok (.imul, 1) := by decide +kernel
theorem dX10_goShare_101 : decode cX10_goShare 101 = .ok (.iaload, 1) := by decide +kernel
theorem dX10_goShare_102 : decode cX10_goShare 102 = .ok (.ifCond .eq 60, 3) := by decide +kernel
theorem dX10_goShare_105 : decode cX10_goShare 105 = .ok (.aload_n 0, 1) := by decide +kernel
theorem dX10_goShare_106 : decode cX10_goShare 106 = .ok (.aload_n 0, 1) := by decide +kernel
theorem dX10_goShare_107 : decode cX10_goShare 107 = .ok (.getfield 61, 3) := by decide +kernel
theorem dX10_goShare_110 : decode cX10_goShare 110 = .ok (.iload_n 2, 1) := by decide +kernel
theorem dX10_goShare_111 : decode cX10_goShare 111 = .ok (.aload_n 0, 1) := by decide +kernel
theorem dX10_goShare_112 : decode cX10_goShare 112 = .ok (.getfield 43, 3) := by decide +kernel
theorem dX10_goShare_115 : decode cX10_goShare 115 = .ok (.iconst 4, 1) := by decide +kernel
theorem dX10_goShare_116 : decode cX10_goShare 116 = .ok (.iload 6, 2) := by decide +kernel
theorem dX10_goShare_118 : decode cX10_goShare 118 = .ok (.imul, 1) := by decide +kernel
theorem dX10_goShare_119 : decode cX10_goShare 119 = .ok (.iaload, 1) := by decide +kernel
theorem dX10_goShare_120 : decode cX10_goShare 120 = .ok (.invokevirtual 373, 3) := by decide +kernel
theorem dX10_goShare_123 : decode cX10_goShare 123 = .ok (.ifCond .ne 6, 3) := by decide +kernel
theorem dX10_goShare_126 : decode cX10_goShare 126 = .ok (.goto 36, 3) := by decide +kernel
theorem dX10_goShare_129 : decode cX10_goShare 129 = .ok (.aload_n 0, 1) := by decide +kernel
theorem dX10_goShare_130 : decode cX10_goShare 130 = .ok (.iload_n 1, 1) := by decide +kernel
theorem dX10_goShare_131 : decode cX10_goShare 131 = .ok (.iload_n 2, 1) := by decide +kernel
theorem dX10_goShare_132 : decode cX10_goShare 132 = .ok (.iconst 1, 1) := by decide +kernel
theorem dX10_goShare_133 : decode cX10_goShare 133 = .ok (.iadd, 1) := by decide +kernel
theorem dX10_goShare_134 : decode cX10_goShare 134 = .ok (.iload_n 3, 1) := by decide +kernel
theorem dX10_goShare_135 : decode cX10_goShare 135 = .ok (.iconst 1, 1) := by decide +kernel
theorem dX10_goShare_136 : decode cX10_goShare 136 = .ok (.iload 6, 2) := by decide +kernel
theorem dX10_goShare_138 : decode cX10_goShare 138 = .ok (.ishl, 1) := by decide +kernel
theorem dX10_goShare_139 : decode cX10_goShare 139 = .ok (.ior, 1) := by decide +kernel
theorem dX10_goShare_140 : decode cX10_goShare 140 = .ok (.iload 4, 2) := by decide +kernel
theorem dX10_goShare_142 : decode cX10_goShare 142 = .ok (.iconst 1, 1) := by decide +kernel
theorem dX10_goShare_143 : decode cX10_goShare 143 = .ok (.iadd, 1) := by decide +kernel
theorem dX10_goShare_144 : decode cX10_goShare 144 = .ok (.iload 5, 2) := by decide +kernel
theorem dX10_goShare_146 : decode cX10_goShare 146 = .ok (.aload_n 0, 1) := by decide +kernel
theorem dX10_goShare_147 : decode cX10_goShare 147 = .ok (.getfield 87, 3) := by decide +kernel
theorem dX10_goShare_150 : decode cX10_goShare 150 = .ok (.bipush 12, 2) := by decide +kernel
theorem dX10_goShare_152 : decode cX10_goShare 152 = .ok (.iload_n 2, 1) := by decide +kernel
theorem dX10_goShare_153 : decode cX10_goShare 153 = .ok (.imul, 1) := by decide +kernel
theorem dX10_goShare_154 : decode cX10_goShare 154 = .ok (.iload 6, 2) := by decide +kernel
theorem dX10_goShare_156 : decode cX10_goShare 156 = .ok (.iadd, 1) := by decide +kernel
theorem dX10_goShare_157 : decode cX10_goShare 157 = .ok (.iaload, 1) := by decide +kernel
theorem dX10_goShare_158 : decode cX10_goShare 158 = .ok (.iadd, 1) := by decide +kernel
theorem dX10_goShare_159 : decode cX10_goShare 159 = .ok (.invokevirtual 488, 3) := by decide +kernel
theorem dX10_goShare_162 : decode cX10_goShare 162 = .ok (.iinc 6 1, 3) := by decide +kernel
theorem dX10_goShare_165 : decode cX10_goShare 165 = .ok (.goto (-100), 3) := by decide +kernel
theorem dX10_goShare_168 : decode cX10_goShare 168 = .ok (.return_, 1) := by decide +kernel
theorem dX10_share_0 : decode cX10_share 0 = .ok (.aload_n 0, 1) := by decide +kernel
theorem dX10_share_1 : decode cX10_share 1 = .ok (.iconst 0, 1) := by decide +kernel
theorem dX10_share_2 : decode cX10_share 2 = .ok (.putfield 96, 3) := by decide +kernel
theorem dX10_share_5 : decode cX10_share 5 = .ok (.aload_n 0, 1) := by decide +kernel
theorem dX10_share_6 : decode cX10_share 6 = .ok (.getfield 291, 3) := by decide +kernel
theorem dX10_share_9 : decode cX10_share 9 = .ok (.ifCond .eq 25, 3) := by decide +kernel
theorem dX10_share_12 : decode cX10_share 12 = .ok (.iload_n 1, 1) := by decide +kernel
theorem dX10_share_13 : decode cX10_share 13 = .ok (.i2l, 1) := by decide +kernel
theorem dX10_share_14 : decode cX10_share 14 = .ok (.lconst 0, 1) := by decide +kernel
theorem dX10_share_15 : decode cX10_share 15 = .ok (.ldc2_w 344, 3) := by decide +kernel
theorem dX10_share_18 : decode cX10_share 18 = .ok (.invokestatic 217, 3) := by decide +kernel
theorem dX10_share_21 : decode cX10_share 21 = .ok (.ifCond .eq 13, 3) := by decide +kernel
theorem dX10_share_24 : decode cX10_share 24 = .ok (.iload_n 2, 1) := by decide +kernel
theorem dX10_share_25 : decode cX10_share 25 = .ok (.i2l, 1) := by decide +kernel
theorem dX10_share_26 : decode cX10_share 26 = .ok (.lconst 0, 1) := by decide +kernel
theorem dX10_share_27 : decode cX10_share 27 = .ok (.lconst 1, 1) := by decide +kernel
theorem dX10_share_28 : decode cX10_share 28 = .ok (.invokestatic 217, 3) := by decide +kernel
theorem dX10_share_31 : decode cX10_share 31 = .ok (.ifCond .ne 5, 3) := by decide +kernel
theorem dX10_share_34 : decode cX10_share 34 = .ok (.iconst (-1), 1) := by decide +kernel
theorem dX10_share_35 : decode cX10_share 35 = .ok (.ireturn, 1) := by decide +kernel
theorem dX10_share_36 : decode cX10_share 36 = .ok (.iconst 0, 1) := by decide +kernel
theorem dX10_share_37 : decode cX10_share 37 = .ok (.istore_n 3, 1) := by decide +kernel
theorem dX10_share_38 : decode cX10_share 38 = .ok (.iload_n 3, 1) := by decide +kernel
theorem dX10_share_39 : decode cX10_share 39 = .ok (.aload_n 0, 1) := by decide +kernel
theorem dX10_share_40 : decode cX10_share 40 = .ok (.getfield 294, 3) := by decide +kernel
theorem dX10_share_43 : decode cX10_share 43 = .ok (.if_icmp .ge 83, 3) := by decide +kernel
theorem dX10_share_46 : decode cX10_share 46 = .ok (.iconst 0, 1) := by decide +kernel
theorem dX10_share_47 : decode cX10_share 47 = .ok (.istore 4, 2) := by decide +kernel
theorem dX10_share_49 : decode cX10_share 49 = .ok (.iload 4, 2) := by decide +kernel
theorem dX10_share_51 : decode cX10_share 51 = .ok (.aload_n 0, 1) := by decide +kernel
theorem dX10_share_52 : decode cX10_share 52 = .ok (.getfield 291, 3) := by decide +kernel
theorem dX10_share_55 : decode cX10_share 55 = .ok (.if_icmp .ge 65, 3) := by decide +kernel
theorem dX10_share_58 : decode cX10_share 58 = .ok (.aload_n 0, 1) := by decide +kernel
theorem dX10_share_59 : decode cX10_share 59 = .ok (.getfield 87, 3) := by decide +kernel
theorem dX10_share_62 : decode cX10_share 62 = .ok (.bipush 12, 2) := by decide +kernel
theorem dX10_share_64 : decode cX10_share 64 = .ok (.iload_n 3, 1) := by decide +kernel
theorem dX10_share_65 : decode cX10_share 65 = .ok (.imul, 1) := by decide +kernel
theorem dX10_share_66 : decode cX10_share 66 = .ok (.iload 4, 2) := by decide +kernel
theorem dX10_share_68 : decode cX10_share 68 = .ok (.iadd, 1) := by decide +kernel
theorem dX10_share_69 : decode cX10_share 69 = .ok (.aload_n 0, 1) := by decide +kernel
theorem dX10_share_70 : decode cX10_share 70 = .ok (.iload 4, 2) := by decide +kernel
theorem dX10_share_72 : decode cX10_share 72 = .ok (.iload_n 1, 1) := by decide +kernel
theorem dX10_share_73 : decode cX10_share 73 = .ok (.invokevirtual 474, 3) := by decide +kernel
theorem dX10_share_76 : decode cX10_share 76 = .ok (.ifCond .eq 36, 3) := by decide +kernel
theorem dX10_share_79 : decode cX10_share 79 = .ok (.aload_n 0, 1) := by decide +kernel
theorem dX10_share_80 : decode cX10_share 80 = .ok (.getfield 61, 3) := by decide +kernel
theorem dX10_share_83 : decode cX10_share 83 = .ok (.iconst 2, 1) := by decide +kernel
theorem dX10_share_84 : decode cX10_share 84 = .ok (.iload 4, 2) := by decide +kernel
theorem dX10_share_86 : decode cX10_share 86 = .ok (.imul, 1) := by decide +kernel
theorem dX10_share_87 : decode cX10_share 87 = .ok (.iaload, 1) := by decide +kernel
theorem dX10_share_88 : decode cX10_share 88 = .ok (.ifCond .le 24, 3) := by decide +kernel
theorem dX10_share_91 : decode cX10_share 91 = .ok (.aload_n 0, 1) := by decide +kernel
theorem dX10_share_92 : decode cX10_share 92 = .ok (.aload_n 0, 1) := by decide +kernel
theorem dX10_share_93 : decode cX10_share 93 = .ok (.getfield 61, 3) := by decide +kernel
theorem dX10_share_96 : decode cX10_share 96 = .ok (.iload_n 3, 1) := by decide +kernel
theorem dX10_share_97 : decode cX10_share 97 = .ok (.aload_n 0, 1) := by decide +kernel
theorem dX10_share_98 : decode cX10_share 98 = .ok (.getfield 43, 3) := by decide +kernel
theorem dX10_share_101 : decode cX10_share 101 = .ok (.iconst 4, 1) := by decide +kernel
theorem dX10_share_102 : decode cX10_share 102 = .ok (.iload 4, 2) := by decide +kernel
theorem dX10_share_104 : decode cX10_share 104 = .ok (.imul, 1) := by decide +kernel
theorem dX10_share_105 : decode cX10_share 105 = .ok (.iaload, 1) := by decide +kernel
theorem dX10_share_106 : decode cX10_share 106 = .ok (.invokevirtual 451, 3) := by decide +kernel
theorem dX10_share_109 : decode cX10_share 109 = .ok (.goto 4, 3) := by decide +kernel
theorem dX10_share_112 : decode cX10_share 112 = .ok (.iconst 0, 1) := by decide +kernel
theorem dX10_share_113 : decode cX10_share 113 = .ok (.iastore, 1) := by decide +kernel
theorem dX10_share_114 : decode cX10_share 114 = .ok (.iinc 4 1, 3) := by decide +kernel
theorem dX10_share_117 : decode cX10_share 117 = .ok (.goto (-68), 3) := by decide +kernel
theorem dX10_share_120 : decode cX10_share 120 = .ok (.iinc 3 1, 3) := by decide +kernel
theorem dX10_share_123 : decode cX10_share 123 = .ok (.goto (-85), 3) := by decide +kernel
theorem dX10_share_126 : decode cX10_share 126 = .ok (.aload_n 0, 1) := by decide +kernel
theorem dX10_share_127 : decode cX10_share 127 = .ok (.iconst 0, 1) := by decide +kernel
theorem dX10_share_128 : decode cX10_share 128 = .ok (.putfield 482, 3) := by decide +kernel
theorem dX10_share_131 : decode cX10_share 131 = .ok (.aload_n 0, 1) := by decide +kernel
theorem dX10_share_132 : decode cX10_share 132 = .ok (.ldc_w 491, 3) := by decide +kernel
theorem dX10_share_135 : decode cX10_share 135 = .ok (.putfield 485, 3) := by decide +kernel
theorem dX10_share_138 : decode cX10_share 138 = .ok (.aload_n 0, 1) := by decide +kernel
theorem dX10_share_139 : decode cX10_share 139 = .ok (.iload_n 1, 1) := by decide +kernel
theorem dX10_share_140 : decode cX10_share 140 = .ok (.iconst 0, 1) := by decide +kernel
theorem dX10_share_141 : decode cX10_share 141 = .ok (.iconst 0, 1) := by decide +kernel
theorem dX10_share_142 : decode cX10_share 142 = .ok (.iconst 0, 1) := by decide +kernel
theorem dX10_share_143 : decode cX10_share 143 = .ok (.iconst 0, 1) := by decide +kernel
theorem dX10_share_144 : decode cX10_share 144 = .ok (.invokevirtual 488, 3) := by decide +kernel
theorem dX10_share_147 : decode cX10_share 147 = .ok (.iload_n 2, 1) := by decide +kernel
theorem dX10_share_148 : decode cX10_share 148 = .ok (.ifCond .ne 10, 3) := by decide +kernel
theorem dX10_share_151 : decode cX10_share 151 = .ok (.aload_n 0, 1) := by decide +kernel
theorem dX10_share_152 : decode cX10_share 152 = .ok (.getfield 482, 3) := by decide +kernel
theorem dX10_share_155 : decode cX10_share 155 = .ok (.goto 7, 3) := by decide +kernel
theorem dX10_share_158 : decode cX10_share 158 = .ok (.aload_n 0, 1) := by decide +kernel
theorem dX10_share_159 : decode cX10_share 159 = .ok (.getfield 485, 3) := by decide +kernel
theorem dX10_share_162 : decode cX10_share 162 = .ok (.ireturn, 1) := by decide +kernel
theorem dX10_bookBits_0 : decode cX10_bookBits 0 = .ok (.iconst 0, 1) := by decide +kernel
theorem dX10_bookBits_1 : decode cX10_bookBits 1 = .ok (.istore_n 2, 1) := by decide +kernel
theorem dX10_bookBits_2 : decode cX10_bookBits 2 = .ok (.iconst 0, 1) := by decide +kernel
theorem dX10_bookBits_3 : decode cX10_bookBits 3 = .ok (.istore_n 3, 1) := by decide +kernel
theorem dX10_bookBits_4 : decode cX10_bookBits 4 = .ok (.iload_n 3, 1) := by decide +kernel
theorem dX10_bookBits_5 : decode cX10_bookBits 5 = .ok (.aload_n 0, 1) := by decide +kernel
theorem dX10_bookBits_6 : decode cX10_bookBits 6 = .ok (.getfield 291, 3) := by decide +kernel
theorem dX10_bookBits_9 : decode cX10_bookBits 9 = .ok (.if_icmp .ge 28, 3) := by decide +kernel
theorem dX10_bookBits_12 : decode cX10_bookBits 12 = .ok (.iload_n 2, 1) := by decide +kernel
theorem dX10_bookBits_13 : decode cX10_bookBits 13 = .ok (.aload_n 0, 1) := by decide +kernel
theorem dX10_bookBits_14 : decode cX10_bookBits 14 = .ok (.iload_n 3, 1) := by decide +kernel
theorem dX10_bookBits_15 : decode cX10_bookBits 15 = .ok (.iload_n 1, 1) := by decide +kernel
theorem dX10_bookBits_16 : decode cX10_bookBits 16 = .ok (.invokevirtual 474, 3) := by decide +kernel
theorem dX10_bookBits_19 : decode cX10_bookBits 19 = .ok (.ifCond .eq 9, 3) := by decide +kernel
theorem dX10_bookBits_22 : decode cX10_bookBits 22 = .ok (.iconst 1, 1) := by decide +kernel
theorem dX10_bookBits_23 : decode cX10_bookBits 23 = .ok (.iload_n 3, 1) := by decide +kernel
theorem dX10_bookBits_24 : decode cX10_bookBits 24 = .ok (.ishl, 1) := by decide +kernel
theorem dX10_bookBits_25 : decode cX10_bookBits 25 = .ok (.goto 4, 3) := by decide +kernel
theorem dX10_bookBits_28 : decode cX10_bookBits 28 = .ok (.iconst 0, 1) := by decide +kernel
theorem dX10_bookBits_29 : decode cX10_bookBits 29 = .ok (.ior, 1) := by decide +kernel
theorem dX10_bookBits_30 : decode cX10_bookBits 30 = .ok (.istore_n 2, 1) := by decide +kernel
theorem dX10_bookBits_31 : decode cX10_bookBits 31 = .ok (.iinc 3 1, 3) := by decide +kernel
theorem dX10_bookBits_34 : decode cX10_bookBits 34 = .ok (.goto (-30), 3) := by decide +kernel
theorem dX10_bookBits_37 : decode cX10_bookBits 37 = .ok (.iload_n 2, 1) := by decide +kernel
theorem dX10_bookBits_38 : decode cX10_bookBits 38 = .ok (.ireturn, 1) := by decide +kernel
theorem dX10_who_0 : decode cX10_who 0 = .ok (.aload_n 0, 1) := by decide +kernel
theorem dX10_who_1 : decode cX10_who 1 = .ok (.iconst 0, 1) := by decide +kernel
theorem dX10_who_2 : decode cX10_who 2 = .ok (.putfield 96, 3) := by decide +kernel
theorem dX10_who_5 : decode cX10_who 5 = .ok (.aload_n 0, 1) := by decide +kernel
theorem dX10_who_6 : decode cX10_who 6 = .ok (.getfield 291, 3) := by decide +kernel
theorem dX10_who_9 : decode cX10_who 9 = .ok (.ifCond .eq 15, 3) := by decide +kernel
theorem dX10_who_12 : decode cX10_who 12 = .ok (.iload_n 1, 1) := by decide +kernel
theorem dX10_who_13 : decode cX10_who 13 = .ok (.i2l, 1) := by decide +kernel
theorem dX10_who_14 : decode cX10_who 14 = .ok (.lconst 0, 1) := by decide +kernel
theorem dX10_who_15 : decode cX10_who 15 = .ok (.ldc2_w 344, 3) := by decide +kernel
theorem dX10_who_18 : decode cX10_who 18 = .ok (.invokestatic 217, 3) := by decide +kernel
theorem dX10_who_21 : decode cX10_who 21 = .ok (.ifCond .ne 5, 3) := by decide +kernel
theorem dX10_who_24 : decode cX10_who 24 = .ok (.iconst (-1), 1) := by decide +kernel
theorem dX10_who_25 : decode cX10_who 25 = .ok (.ireturn, 1) := by decide +kernel
theorem dX10_who_26 : decode cX10_who 26 = .ok (.aload_n 0, 1) := by decide +kernel
theorem dX10_who_27 : decode cX10_who 27 = .ok (.iload_n 1, 1) := by decide +kernel
theorem dX10_who_28 : decode cX10_who 28 = .ok (.invokevirtual 492, 3) := by decide +kernel
theorem dX10_who_31 : decode cX10_who 31 = .ok (.istore_n 2, 1) := by decide +kernel
theorem dX10_who_32 : decode cX10_who 32 = .ok (.iconst (-1), 1) := by decide +kernel
theorem dX10_who_33 : decode cX10_who 33 = .ok (.istore_n 3, 1) := by decide +kernel
theorem dX10_who_34 : decode cX10_who 34 = .ok (.iconst 0, 1) := by decide +kernel
theorem dX10_who_35 : decode cX10_who 35 = .ok (.istore 4, 2) := by decide +kernel
theorem dX10_who_37 : decode cX10_who 37 = .ok (.iload 4, 2) := by decide +kernel
theorem dX10_who_39 : decode cX10_who 39 = .ok (.iconst 1, 1) := by decide +kernel
theorem dX10_who_40 : decode cX10_who 40 = .ok (.aload_n 0, 1) := by decide +kernel
theorem dX10_who_41 : decode cX10_who 41 = .ok (.getfield 294, 3) := by decide +kernel
theorem dX10_who_44 : decode cX10_who 44 = .ok (.ishl, 1) := by decide +kernel
theorem dX10_who_45 : decode cX10_who 45 = .ok (.if_icmp .ge 87, 3) := by decide +kernel
theorem dX10_who_48 : decode cX10_who 48 = .ok (.iconst 0, 1) := by decide +kernel
theorem dX10_who_49 : decode cX10_who 49 = .ok (.istore 5, 2) := by decide +kernel
theorem dX10_who_51 : decode cX10_who 51 = .ok (.iconst 0, 1) := by decide +kernel
theorem dX10_who_52 : decode cX10_who 52 = .ok (.istore 6, 2) := by decide +kernel
theorem dX10_who_54 : decode cX10_who 54 = .ok (.iload 6, 2) := by decide +kernel
theorem dX10_who_56 : decode cX10_who 56 = .ok (.aload_n 0, 1) := by decide +kernel
theorem dX10_who_57 : decode cX10_who 57 = .ok (.getfield 294, 3) := by decide +kernel
theorem dX10_who_60 : decode cX10_who 60 = .ok (.if_icmp .ge 37, 3) := by decide +kernel
theorem dX10_who_63 : decode cX10_who 63 = .ok (.iload 5, 2) := by decide +kernel
theorem dX10_who_65 : decode cX10_who 65 = .ok (.iload 4, 2) := by decide +kernel
theorem dX10_who_67 : decode cX10_who 67 = .ok (.iload 6, 2) := by decide +kernel
theorem dX10_who_69 : decode cX10_who 69 = .ok (.invokestatic 229, 3) := by decide +kernel
theorem dX10_who_72 : decode cX10_who 72 = .ok (.ifCond .eq 15, 3) := by decide +kernel
theorem dX10_who_75 : decode cX10_who 75 = .ok (.aload_n 0, 1) := by decide +kernel
theorem dX10_who_76 : decode cX10_who 76 = .ok (.getfield 61, 3) := by decide +kernel
theorem dX10_who_79 : decode cX10_who 79 = .ok (.iload 6, 2) := by decide +kernel
theorem dX10_who_81 : decode cX10_who 81 = .ok (.invokestatic 355, 3) := by decide +kernel
theorem dX10_who_84 : decode cX10_who 84 = .ok (.goto 4, 3) := by decide +kernel
theorem dX10_who_87 : decode cX10_who 87 = .ok (.iconst 0, 1) := by decide +kernel
theorem dX10_who_88 : decode cX10_who 88 = .ok (.ior, 1) := by decide +kernel
theorem dX10_who_89 : decode cX10_who 89 = .ok (.istore 5, 2) := by decide +kernel
theorem dX10_who_91 : decode cX10_who 91 = .ok (.iinc 6 1, 3) := by decide +kernel
theorem dX10_who_94 : decode cX10_who 94 = .ok (.goto (-40), 3) := by decide +kernel
theorem dX10_who_97 : decode cX10_who 97 = .ok (.iload_n 2, 1) := by decide +kernel
theorem dX10_who_98 : decode cX10_who 98 = .ok (.iload 5, 2) := by decide +kernel
theorem dX10_who_100 : decode cX10_who 100 = .ok (.iconst (-1), 1) := by decide +kernel
theorem dX10_who_101 : decode cX10_who 101 = .ok (.ixor, 1) := by decide +kernel
theorem dX10_who_102 : decode cX10_who 102 = .ok (.iand, 1) := by decide +kernel
theorem dX10_who_103 : decode cX10_who 103 = .ok (.ifCond .ne 23, 3) := by decide +kernel
theorem dX10_who_106 : decode cX10_who 106 = .ok (.iload_n 3, 1) := by decide +kernel
theorem dX10_who_107 : decode cX10_who 107 = .ok (.iconst (-1), 1) := by decide +kernel
theorem dX10_who_108 : decode cX10_who 108 = .ok (.if_icmp .eq 15, 3) := by decide +kernel
theorem dX10_who_111 : decode cX10_who 111 = .ok (.iload 4, 2) := by decide +kernel
theorem dX10_who_113 : decode cX10_who 113 = .ok (.invokestatic 477, 3) := by decide +kernel
theorem dX10_who_116 : decode cX10_who 116 = .ok (.iload_n 3, 1) := by decide +kernel
theorem dX10_who_117 : decode cX10_who 117 = .ok (.invokestatic 477, 3) := by decide +kernel
theorem dX10_who_120 : decode cX10_who 120 = .ok (.if_icmp .ge 6, 3) := by decide +kernel
theorem dX10_who_123 : decode cX10_who 123 = .ok (.iload 4, 2) := by decide +kernel
theorem dX10_who_125 : decode cX10_who 125 = .ok (.istore_n 3, 1) := by decide +kernel
theorem dX10_who_126 : decode cX10_who 126 = .ok (.iinc 4 1, 3) := by decide +kernel
theorem dX10_who_129 : decode cX10_who 129 = .ok (.goto (-92), 3) := by decide +kernel
theorem dX10_who_132 : decode cX10_who 132 = .ok (.iload_n 3, 1) := by decide +kernel
theorem dX10_who_133 : decode cX10_who 133 = .ok (.ireturn, 1) := by decide +kernel
theorem dX10_knowers_0 : decode cX10_knowers 0 = .ok (.iconst 0, 1) := by decide +kernel
theorem dX10_knowers_1 : decode cX10_knowers 1 = .ok (.istore_n 2, 1) := by decide +kernel
theorem dX10_knowers_2 : decode cX10_knowers 2 = .ok (.iconst 0, 1) := by decide +kernel
theorem dX10_knowers_3 : decode cX10_knowers 3 = .ok (.istore_n 3, 1) := by decide +kernel
theorem dX10_knowers_4 : decode cX10_knowers 4 = .ok (.iload_n 3, 1) := by decide +kernel
theorem dX10_knowers_5 : decode cX10_knowers 5 = .ok (.aload_n 0, 1) := by decide +kernel
theorem dX10_knowers_6 : decode cX10_knowers 6 = .ok (.getfield 294, 3) := by decide +kernel
theorem dX10_knowers_9 : decode cX10_knowers 9 = .ok (.if_icmp .ge 29, 3) := by decide +kernel
theorem dX10_knowers_12 : decode cX10_knowers 12 = .ok (.iload_n 2, 1) := by decide +kernel
theorem dX10_knowers_13 : decode cX10_knowers 13 = .ok (.aload_n 0, 1) := by decide +kernel
theorem dX10_knowers_14 : decode cX10_knowers 14 = .ok (.getfield 61, 3) := by decide +kernel
theorem dX10_knowers_17 : decode cX10_knowers 17 = .ok (.iload_n 3, 1) := by decide +kernel
theorem dX10_knowers_18 : decode cX10_knowers 18 = .ok (.iload_n 1, 1) := by decide +kernel
theorem dX10_knowers_19 : decode cX10_knowers 19 = .ok (.invokestatic 351, 3) := by decide +kernel
theorem dX10_knowers_22 : decode cX10_knowers 22 = .ok (.ifCond .eq 7, 3) := by decide +kernel
theorem dX10_knowers_25 : decode cX10_knowers 25 = .ok (.iconst 1, 1) := by decide +kernel
theorem dX10_knowers_26 : decode cX10_knowers 26 = .ok (.goto 4, 3) := by decide +kernel
theorem dX10_knowers_29 : decode cX10_knowers 29 = .ok (.iconst 0, 1) := by decide +kernel
theorem dX10_knowers_30 : decode cX10_knowers 30 = .ok (.iadd, 1) := by decide +kernel
theorem dX10_knowers_31 : decode cX10_knowers 31 = .ok (.istore_n 2, 1) := by decide +kernel
theorem dX10_knowers_32 : decode cX10_knowers 32 = .ok (.iinc 3 1, 3) := by decide +kernel
theorem dX10_knowers_35 : decode cX10_knowers 35 = .ok (.goto (-31), 3) := by decide +kernel
theorem dX10_knowers_38 : decode cX10_knowers 38 = .ok (.iload_n 2, 1) := by decide +kernel
theorem dX10_knowers_39 : decode cX10_knowers 39 = .ok (.ireturn, 1) := by decide +kernel
theorem dX10_first_0 : decode cX10_first 0 = .ok (.aload_n 0, 1) := by decide +kernel
theorem dX10_first_1 : decode cX10_first 1 = .ok (.iconst 0, 1) := by decide +kernel
theorem dX10_first_2 : decode cX10_first 2 = .ok (.putfield 96, 3) := by decide +kernel
theorem dX10_first_5 : decode cX10_first 5 = .ok (.iconst (-1), 1) := by decide +kernel
theorem dX10_first_6 : decode cX10_first 6 = .ok (.istore_n 1, 1) := by decide +kernel
theorem dX10_first_7 : decode cX10_first 7 = .ok (.iconst 0, 1) := by decide +kernel
theorem dX10_first_8 : decode cX10_first 8 = .ok (.istore_n 2, 1) := by decide +kernel
theorem dX10_first_9 : decode cX10_first 9 = .ok (.iload_n 2, 1) := by decide +kernel
theorem dX10_first_10 : decode cX10_first 10 = .ok (.aload_n 0, 1) := by decide +kernel
theorem dX10_first_11 : decode cX10_first 11 = .ok (.getfield 291, 3) := by decide +kernel
theorem dX10_first_14 : decode cX10_first 14 = .ok (.if_icmp .ge 54, 3) := by decide +kernel
theorem dX10_first_17 : decode cX10_first 17 = .ok (.aload_n 0, 1) := by decide +kernel
theorem dX10_first_18 : decode cX10_first 18 = .ok (.getfield 61, 3) := by decide +kernel
theorem dX10_first_21 : decode cX10_first 21 = .ok (.iconst 2, 1) := by decide +kernel
theorem dX10_first_22 : decode cX10_first 22 = .ok (.iload_n 2, 1) := by decide +kernel
theorem dX10_first_23 : decode cX10_first 23 = .ok (.imul, 1) := by decide +kernel
theorem dX10_first_24 : decode cX10_first 24 = .ok (.iaload, 1) := by decide +kernel
theorem dX10_first_25 : decode cX10_first 25 = .ok (.ifCond .le 37, 3) := by decide +kernel
theorem dX10_first_28 : decode cX10_first 28 = .ok (.aload_n 0, 1) := by decide +kernel
theorem dX10_first_29 : decode cX10_first 29 = .ok (.iload_n 2, 1) := by decide +kernel
theorem dX10_first_30 : decode cX10_first 30 = .ok (.invokevirtual 495, 3) := by decide +kernel
theorem dX10_first_33 : decode cX10_first 33 = .ok (.ifCond .le 29, 3) := by decide +kernel
theorem dX10_first_36 : decode cX10_first 36 = .ok (.iload_n 1, 1) := by decide +kernel
theorem dX10_first_37 : decode cX10_first 37 = .ok (.iconst (-1), 1) := by decide +kernel
theorem dX10_first_38 : decode cX10_first 38 = .ok (.if_icmp .eq 22, 3) := by decide +kernel
theorem dX10_first_41 : decode cX10_first 41 = .ok (.aload_n 0, 1) := by decide +kernel
theorem dX10_first_42 : decode cX10_first 42 = .ok (.getfield 61, 3) := by decide +kernel
theorem dX10_first_45 : decode cX10_first 45 = .ok (.iconst 2, 1) := by decide +kernel
theorem dX10_first_46 : decode cX10_first 46 = .ok (.iload_n 2, 1) := by decide +kernel
theorem dX10_first_47 : decode cX10_first 47 = .ok (.imul, 1) := by decide +kernel
theorem dX10_first_48 : decode cX10_first 48 = .ok (.iaload, 1) := by decide +kernel
theorem dX10_first_49 : decode cX10_first 49 = .ok (.aload_n 0, 1) := by decide +kernel
theorem dX10_first_50 : decode cX10_first 50 = .ok (.getfield 61, 3) := by decide +kernel
theorem dX10_first_53 : decode cX10_first 53 = .ok (.iconst 2, 1) := by decide +kernel
theorem dX10_first_54 : decode cX10_first 54 = .ok (.iload_n 1, 1) := by decide +kernel
theorem dX10_first_55 : decode cX10_first 55 = .ok (.imul, 1) := by decide +kernel
theorem dX10_first_56 : decode cX10_first 56 = .ok (.iaload, 1) := by decide +kernel
theorem dX10_first_57 : decode cX10_first 57 = .ok (.if_icmp .ge 5, 3) := by decide +kernel
theorem dX10_first_60 : decode cX10_first 60 = .ok (.iload_n 2, 1) := by decide +kernel
theorem dX10_first_61 : decode cX10_first 61 = .ok (.istore_n 1, 1) := by decide +kernel
theorem dX10_first_62 : decode cX10_first 62 = .ok (.iinc 2 1, 3) := by decide +kernel
theorem dX10_first_65 : decode cX10_first 65 = .ok (.goto (-56), 3) := by decide +kernel
theorem dX10_first_68 : decode cX10_first 68 = .ok (.iload_n 1, 1) := by decide +kernel
theorem dX10_first_69 : decode cX10_first 69 = .ok (.ireturn, 1) := by decide +kernel
theorem dX10_placeFor_0 : decode cX10_placeFor 0 = .ok (.aload_n 0, 1) := by decide +kernel
theorem dX10_placeFor_1 : decode cX10_placeFor 1 = .ok (.iconst 0, 1) := by decide +kernel
theorem dX10_placeFor_2 : decode cX10_placeFor 2 = .ok (.putfield 96, 3) := by decide +kernel
theorem dX10_placeFor_5 : decode cX10_placeFor 5 = .ok (.aload_n 0, 1) := by decide +kernel
theorem dX10_placeFor_6 : decode cX10_placeFor 6 = .ok (.iload_n 1, 1) := by decide +kernel
theorem dX10_placeFor_7 : decode cX10_placeFor 7 = .ok (.invokevirtual 346, 3) := by decide +kernel
theorem dX10_placeFor_10 : decode cX10_placeFor 10 = .ok (.ifCond .eq 13, 3) := by decide +kernel
theorem dX10_placeFor_13 : decode cX10_placeFor 13 = .ok (.iload_n 2, 1) := by decide +kernel
theorem dX10_placeFor_14 : decode cX10_placeFor 14 = .ok (.i2l, 1) := by decide +kernel
theorem dX10_placeFor_15 : decode cX10_placeFor 15 = .ok (.lconst 0, 1) := by decide +kernel
theorem dX10_placeFor_16 : decode cX10_placeFor 16 = .ok (.lconst 1, 1) := by decide +kernel
theorem dX10_placeFor_17 : decode cX10_placeFor 17 = .ok (.invokestatic 217, 3) := by decide +kernel
theorem dX10_placeFor_20 : decode cX10_placeFor 20 = .ok (.ifCond .ne 5, 3) := by decide +kernel
theorem dX10_placeFor_23 : decode cX10_placeFor 23 = .ok (.iconst (-1), 1) := by decide +kernel
theorem dX10_placeFor_24 : decode cX10_placeFor 24 = .ok (.ireturn, 1) := by decide +kernel
theorem dX10_placeFor_25 : decode cX10_placeFor 25 = .ok (.iconst (-1), 1) := by decide +kernel
theorem dX10_placeFor_26 : decode cX10_placeFor 26 = .ok (.istore_n 3, 1) := by decide +kernel
theorem dX10_placeFor_27 : decode cX10_placeFor 27 = .ok (.iconst (-1), 1) := by decide +kernel
theorem dX10_placeFor_28 : decode cX10_placeFor 28 = .ok (.istore 4, 2) := by decide +kernel
theorem dX10_placeFor_30 : decode cX10_placeFor 30 = .ok (.iconst 0, 1) := by decide +kernel
theorem dX10_placeFor_31 : decode cX10_placeFor 31 = .ok (.istore 5, 2) := by decide +kernel
theorem dX10_placeFor_33 : decode cX10_placeFor 33 = .ok (.iload 5, 2) := by decide +kernel
theorem dX10_placeFor_35 : decode cX10_placeFor 35 = .ok (.aload_n 0, 1) := by decide +kernel
theorem dX10_placeFor_36 : decode cX10_placeFor 36 = .ok (.getfield 297, 3) := by decide +kernel
theorem dX10_placeFor_39 : decode cX10_placeFor 39 = .ok (.if_icmp .ge 113, 3) := by decide +kernel
theorem dX10_placeFor_42 : decode cX10_placeFor 42 = .ok (.iconst (-1), 1) := by decide +kernel
theorem dX10_placeFor_43 : decode cX10_placeFor 43 = .ok (.istore 6, 2) := by decide +kernel
theorem dX10_placeFor_45 : decode cX10_placeFor 45 = .ok (.iconst 0, 1) := by decide +kernel
theorem dX10_placeFor_46 : decode cX10_placeFor 46 = .ok (.istore 7, 2) := by decide +kernel
theorem dX10_placeFor_48 : decode cX10_placeFor 48 = .ok (.iload 7, 2) := by decide +kernel
theorem dX10_placeFor_50 : decode cX10_placeFor 50 = .ok (.aload_n 0, 1) := by decide +kernel
theorem dX10_placeFor_51 : decode cX10_placeFor 51 = .ok (.getfield 291, 3) := by decide +kernel
theorem dX10_placeFor_54 : decode cX10_placeFor 54 = .ok (.if_icmp .ge 70, 3) := by decide +kernel
theorem dX10_placeFor_57 : decode cX10_placeFor 57 = .ok (.iload 7, 2) := by decide +kernel
theorem dX10_placeFor_59 : decode cX10_placeFor 59 = .ok (.iload_n 1, 1) := by decide +kernel
theorem dX10_placeFor_60 : decode cX10_placeFor 60 = .ok (.if_icmp .eq 58, 3) := by decide +kernel
theorem dX10_placeFor_63 : decode cX10_placeFor 63 = .ok (.aload_n 0, 1) := by decide +kernel
theorem dX10_placeFor_64 : decode cX10_placeFor 64 = .ok (.getfield 61, 3) := by decide +kernel
theorem dX10_placeFor_67 : decode cX10_placeFor 67 = .ok (.iconst 2, 1) := by decide +kernel
theorem dX10_placeFor_68 : decode cX10_placeFor 68 = .ok (.iload 7, 2) := by decide +kernel
theorem dX10_placeFor_70 : decode cX10_placeFor 70 = .ok (.imul, 1) := by decide +kernel
theorem dX10_placeFor_71 : decode cX10_placeFor 71 = .ok (.iaload, 1) := by decide +kernel
theorem dX10_placeFor_72 : decode cX10_placeFor 72 = .ok (.ifCond .le 46, 3) := by decide +kernel
theorem dX10_placeFor_75 : decode cX10_placeFor 75 = .ok (.iload 6, 2) := by decide +kernel
theorem dX10_placeFor_77 : decode cX10_placeFor 77 = .ok (.iconst (-1), 1) := by decide +kernel
theorem dX10_placeFor_78 : decode cX10_placeFor 78 = .ok (.if_icmp .eq 23, 3) := by decide +kernel
theorem dX10_placeFor_81 : decode cX10_placeFor 81 = .ok (.aload_n 0, 1) := by decide +kernel
theorem dX10_placeFor_82 : decode cX10_placeFor 82 = .ok (.iload 5, 2) := by decide +kernel
theorem dX10_placeFor_84 : decode cX10_placeFor 84 = .ok (.aload_n 0, 1) := by decide +kernel
theorem dX10_placeFor_85 : decode cX10_placeFor 85 = .ok (.getfield 43, 3) := by decide +kernel
theorem dX10_placeFor_88 : decode cX10_placeFor 88 = .ok (.iconst 4, 1) := by decide +kernel
theorem dX10_placeFor_89 : decode cX10_placeFor 89 = .ok (.iload 7, 2) := by decide +kernel
theorem dX10_placeFor_91 : decode cX10_placeFor 91 = .ok (.imul, 1) := by decide +kernel
theorem dX10_placeFor_92 : decode cX10_placeFor 92 = .ok (.iaload, 1) := by decide +kernel
theorem dX10_placeFor_93 : decode cX10_placeFor 93 = .ok (.invokevirtual 316, 3) := by decide +kernel
theorem dX10_placeFor_96 : decode cX10_placeFor 96 = .ok (.iload 6, 2) := by decide +kernel
theorem dX10_placeFor_98 : decode cX10_placeFor 98 = .ok (.if_icmp .ge 20, 3) := by decide +kernel
theorem dX10_placeFor_101 : decode cX10_placeFor 101 = .ok (.aload_n 0, 1) := by decide +kernel
theorem dX10_placeFor_102 : decode cX10_placeFor 102 = .ok (.iload 5, 2) := by decide +kernel
theorem dX10_placeFor_104 : decode cX10_placeFor 104 = .ok (.aload_n 0, 1) := by decide +kernel
theorem dX10_placeFor_105 : decode cX10_placeFor 105 = .ok (.getfield 43, 3) := by decide +kernel
theorem dX10_placeFor_108 : decode cX10_placeFor 108 = .ok (.iconst 4, 1) := by decide +kernel
theorem dX10_placeFor_109 : decode cX10_placeFor 109 = .ok (.iload 7, 2) := by decide +kernel
theorem dX10_placeFor_111 : decode cX10_placeFor 111 = .ok (.imul, 1) := by decide +kernel
theorem dX10_placeFor_112 : decode cX10_placeFor 112 = .ok (.iaload, 1) := by decide +kernel
theorem dX10_placeFor_113 : decode cX10_placeFor 113 = .ok (.invokevirtual 316, 3) := by decide +kernel
theorem dX10_placeFor_116 : decode cX10_placeFor 116 = .ok (.istore 6, 2) := by decide +kernel
theorem dX10_placeFor_118 : decode cX10_placeFor 118 = .ok (.iinc 7 1, 3) := by decide +kernel
theorem dX10_placeFor_121 : decode cX10_placeFor 121 = .ok (.goto (-73), 3) := by decide +kernel
theorem dX10_placeFor_124 : decode cX10_placeFor 124 = .ok (.iload_n 3, 1) := by decide +kernel
theorem dX10_placeFor_125 : decode cX10_placeFor 125 = .ok (.iconst (-1), 1) := by decide +kernel
theorem dX10_placeFor_126 : decode cX10_placeFor 126 = .ok (.if_icmp .eq 13, 3) := by decide +kernel
theorem dX10_placeFor_129 : decode cX10_placeFor 129 = .ok (.iload 6, 2) := by decide +kernel
theorem dX10_placeFor_131 : decode cX10_placeFor 131 = .ok (.iload 4, 2) := by decide +kernel
theorem dX10_placeFor_133 : decode cX10_placeFor 133 = .ok (.if_icmp .gt 6, 3) := by decide +kernel
theorem dX10_placeFor_136 : decode cX10_placeFor 136 = .ok (.goto 10, 3) := by decide +kernel
theorem dX10_placeFor_139 : decode cX10_placeFor 139 = .ok (.iload 5, 2) := by decide +kernel
theorem dX10_placeFor_141 : decode cX10_placeFor 141 = .ok (.istore_n 3, 1) := by decide +kernel
theorem dX10_placeFor_142 : decode cX10_placeFor 142 = .ok (.iload 6, 2) := by decide +kernel
theorem dX10_placeFor_144 : decode cX10_placeFor 144 = .ok (.istore 4, 2) := by decide +kernel
theorem dX10_placeFor_146 : decode cX10_placeFor 146 = .ok (.iinc 5 1, 3) := by decide +kernel
theorem dX10_placeFor_149 : decode cX10_placeFor 149 = .ok (.goto (-116), 3) := by decide +kernel
theorem dX10_placeFor_152 : decode cX10_placeFor 152 = .ok (.iload_n 2, 1) := by decide +kernel
theorem dX10_placeFor_153 : decode cX10_placeFor 153 = .ok (.ifCond .ne 7, 3) := by decide +kernel
theorem dX10_placeFor_156 : decode cX10_placeFor 156 = .ok (.iload_n 3, 1) := by decide +kernel
theorem dX10_placeFor_157 : decode cX10_placeFor 157 = .ok (.goto 5, 3) := by decide +kernel
theorem dX10_placeFor_160 : decode cX10_placeFor 160 = .ok (.iload 4, 2) := by decide +kernel
theorem dX10_placeFor_162 : decode cX10_placeFor 162 = .ok (.ireturn, 1) := by decide +kernel
theorem dX10_needy_0 : decode cX10_needy 0 = .ok (.aload_n 0, 1) := by decide +kernel
theorem dX10_needy_1 : decode cX10_needy 1 = .ok (.iconst 0, 1) := by decide +kernel
theorem dX10_needy_2 : decode cX10_needy 2 = .ok (.putfield 96, 3) := by decide +kernel
theorem dX10_needy_5 : decode cX10_needy 5 = .ok (.aload_n 0, 1) := by decide +kernel
theorem dX10_needy_6 : decode cX10_needy 6 = .ok (.getfield 291, 3) := by decide +kernel
theorem dX10_needy_9 : decode cX10_needy 9 = .ok (.ifCond .ne 5, 3) := by decide +kernel
theorem dX10_needy_12 : decode cX10_needy 12 = .ok (.iconst (-1), 1) := by decide +kernel
theorem dX10_needy_13 : decode cX10_needy 13 = .ok (.ireturn, 1) := by decide +kernel
theorem dX10_needy_14 : decode cX10_needy 14 = .ok (.iconst 0, 1) := by decide +kernel
theorem dX10_needy_15 : decode cX10_needy 15 = .ok (.istore_n 1, 1) := by decide +kernel
theorem dX10_needy_16 : decode cX10_needy 16 = .ok (.iconst 0, 1) := by decide +kernel
theorem dX10_needy_17 : decode cX10_needy 17 = .ok (.istore_n 2, 1) := by decide +kernel
theorem dX10_needy_18 : decode cX10_needy 18 = .ok (.iload_n 2, 1) := by decide +kernel
theorem dX10_needy_19 : decode cX10_needy 19 = .ok (.aload_n 0, 1) := by decide +kernel
theorem dX10_needy_20 : decode cX10_needy 20 = .ok (.getfield 294, 3) := by decide +kernel
theorem dX10_needy_23 : decode cX10_needy 23 = .ok (.if_icmp .ge 47, 3) := by decide +kernel
theorem dX10_needy_26 : decode cX10_needy 26 = .ok (.iload_n 1, 1) := by decide +kernel
theorem dX10_needy_27 : decode cX10_needy 27 = .ok (.aload_n 0, 1) := by decide +kernel
theorem dX10_needy_28 : decode cX10_needy 28 = .ok (.aload_n 0, 1) := by decide +kernel
theorem dX10_needy_29 : decode cX10_needy 29 = .ok (.getfield 49, 3) := by decide +kernel
theorem dX10_needy_32 : decode cX10_needy 32 = .ok (.iconst 4, 1) := by decide +kernel
theorem dX10_needy_33 : decode cX10_needy 33 = .ok (.iload_n 2, 1) := by decide +kernel
theorem dX10_needy_34 : decode cX10_needy 34 = .ok (.imul, 1) := by decide +kernel
theorem dX10_needy_35 : decode cX10_needy 35 = .ok (.iconst 3, 1) := by decide +kernel
theorem dX10_needy_36 : decode cX10_needy 36 = .ok (.iadd, 1) := by decide +kernel
theorem dX10_needy_37 : decode cX10_needy 37 = .ok (.iaload, 1) := by decide +kernel
theorem dX10_needy_38 : decode cX10_needy 38 = .ok (.invokevirtual 492, 3) := by decide +kernel
theorem dX10_needy_41 : decode cX10_needy 41 = .ok (.aload_n 0, 1) := by decide +kernel
theorem dX10_needy_42 : decode cX10_needy 42 = .ok (.getfield 61, 3) := by decide +kernel
theorem dX10_needy_45 : decode cX10_needy 45 = .ok (.iload_n 2, 1) := by decide +kernel
theorem dX10_needy_46 : decode cX10_needy 46 = .ok (.invokestatic 355, 3) := by decide +kernel
theorem dX10_needy_49 : decode cX10_needy 49 = .ok (.iconst (-1), 1) := by decide +kernel
theorem dX10_needy_50 : decode cX10_needy 50 = .ok (.ixor, 1) := by decide +kernel
theorem dX10_needy_51 : decode cX10_needy 51 = .ok (.iand, 1) := by decide +kernel
theorem dX10_needy_52 : decode cX10_needy 52 = .ok (.ifCond .eq 9, 3) := by decide +kernel
theorem dX10_needy_55 : decode cX10_needy 55 = .ok (.iconst 1, 1) := by decide +kernel
theorem dX10_needy_56 : decode cX10_needy 56 = .ok (.iload_n 2, 1) := by decide +kernel
theorem dX10_needy_57 : decode cX10_needy 57 = .ok (.ishl, 1) := by decide +kernel
theorem dX10_needy_58 : decode cX10_needy 58 = .ok (.goto 4, 3) := by decide +kernel
theorem dX10_needy_61 : decode cX10_needy 61 = .ok (.iconst 0, 1) := by decide +kernel
theorem dX10_needy_62 : decode cX10_needy 62 = .ok (.ior, 1) := by decide +kernel
theorem dX10_needy_63 : decode cX10_needy 63 = .ok (.istore_n 1, 1) := by decide +kernel
theorem dX10_needy_64 : decode cX10_needy 64 = .ok (.iinc 2 1, 3) := by decide +kernel
theorem dX10_needy_67 : decode cX10_needy 67 = .ok (.goto (-49), 3) := by decide +kernel
theorem dX10_needy_70 : decode cX10_needy 70 = .ok (.iload_n 1, 1) := by decide +kernel
theorem dX10_needy_71 : decode cX10_needy 71 = .ok (.ireturn, 1) := by decide +kernel
theorem dX10_known_0 : decode cX10_known 0 = .ok (.aload_n 0, 1) := by decide +kernel
theorem dX10_known_1 : decode cX10_known 1 = .ok (.iconst 0, 1) := by decide +kernel
theorem dX10_known_2 : decode cX10_known 2 = .ok (.putfield 96, 3) := by decide +kernel
theorem dX10_known_5 : decode cX10_known 5 = .ok (.aload_n 0, 1) := by decide +kernel
theorem dX10_known_6 : decode cX10_known 6 = .ok (.getfield 291, 3) := by decide +kernel
theorem dX10_known_9 : decode cX10_known 9 = .ok (.ifCond .ne 5, 3) := by decide +kernel
theorem dX10_known_12 : decode cX10_known 12 = .ok (.iconst (-1), 1) := by decide +kernel
theorem dX10_known_13 : decode cX10_known 13 = .ok (.ireturn, 1) := by decide +kernel
theorem dX10_known_14 : decode cX10_known 14 = .ok (.iconst 0, 1) := by decide +kernel
theorem dX10_known_15 : decode cX10_known 15 = .ok (.istore_n 1, 1) := by decide +kernel
theorem dX10_known_16 : decode cX10_known 16 = .ok (.iconst 0, 1) := by decide +kernel
theorem dX10_known_17 : decode cX10_known 17 = .ok (.istore_n 2, 1) := by decide +kernel
theorem dX10_known_18 : decode cX10_known 18 = .ok (.iload_n 2, 1) := by decide +kernel
theorem dX10_known_19 : decode cX10_known 19 = .ok (.aload_n 0, 1) := by decide +kernel
theorem dX10_known_20 : decode cX10_known 20 = .ok (.getfield 291, 3) := by decide +kernel
theorem dX10_known_23 : decode cX10_known 23 = .ok (.if_icmp .ge 27, 3) := by decide +kernel
theorem dX10_known_26 : decode cX10_known 26 = .ok (.iload_n 1, 1) := by decide +kernel
theorem dX10_known_27 : decode cX10_known 27 = .ok (.aload_n 0, 1) := by decide +kernel
theorem dX10_known_28 : decode cX10_known 28 = .ok (.iload_n 2, 1) := by decide +kernel
theorem dX10_known_29 : decode cX10_known 29 = .ok (.invokevirtual 495, 3) := by decide +kernel
theorem dX10_known_32 : decode cX10_known 32 = .ok (.ifCond .le 9, 3) := by decide +kernel
theorem dX10_known_35 : decode cX10_known 35 = .ok (.iconst 1, 1) := by decide +kernel
theorem dX10_known_36 : decode cX10_known 36 = .ok (.iload_n 2, 1) := by decide +kernel
theorem dX10_known_37 : decode cX10_known 37 = .ok (.ishl, 1) := by decide +kernel
theorem dX10_known_38 : decode cX10_known 38 = .ok (.goto 4, 3) := by decide +kernel
theorem dX10_known_41 : decode cX10_known 41 = .ok (.iconst 0, 1) := by decide +kernel
theorem dX10_known_42 : decode cX10_known 42 = .ok (.ior, 1) := by decide +kernel
theorem dX10_known_43 : decode cX10_known 43 = .ok (.istore_n 1, 1) := by decide +kernel
theorem dX10_known_44 : decode cX10_known 44 = .ok (.iinc 2 1, 3) := by decide +kernel
theorem dX10_known_47 : decode cX10_known 47 = .ok (.goto (-29), 3) := by decide +kernel
theorem dX10_known_50 : decode cX10_known 50 = .ok (.iload_n 1, 1) := by decide +kernel
theorem dX10_known_51 : decode cX10_known 51 = .ok (.ireturn, 1) := by decide +kernel
theorem dX10_isSplit_0 : decode cX10_isSplit 0 = .ok (.iconst 0, 1) := by decide +kernel
theorem dX10_isSplit_1 : decode cX10_isSplit 1 = .ok (.istore_n 2, 1) := by decide +kernel
theorem dX10_isSplit_2 : decode cX10_isSplit 2 = .ok (.iload_n 2, 1) := by decide +kernel
theorem dX10_isSplit_3 : decode cX10_isSplit 3 = .ok (.aload_n 0, 1) := by decide +kernel
theorem dX10_isSplit_4 : decode cX10_isSplit 4 = .ok (.getfield 294, 3) := by decide +kernel
theorem dX10_isSplit_7 : decode cX10_isSplit 7 = .ok (.if_icmp .ge 69, 3) := by decide +kernel
theorem dX10_isSplit_10 : decode cX10_isSplit 10 = .ok (.iconst 0, 1) := by decide +kernel
theorem dX10_isSplit_11 : decode cX10_isSplit 11 = .ok (.istore_n 3, 1) := by decide +kernel
theorem dX10_isSplit_12 : decode cX10_isSplit 12 = .ok (.iload_n 3, 1) := by decide +kernel
theorem dX10_isSplit_13 : decode cX10_isSplit 13 = .ok (.iload_n 2, 1) := by decide +kernel
theorem dX10_isSplit_14 : decode cX10_isSplit 14 = .ok (.if_icmp .ge 56, 3) := by decide +kernel
theorem dX10_isSplit_17 : decode cX10_isSplit 17 = .ok (.aload_n 0, 1) := by decide +kernel
theorem dX10_isSplit_18 : decode cX10_isSplit 18 = .ok (.getfield 61, 3) := by decide +kernel
theorem dX10_isSplit_21 : decode cX10_isSplit 21 = .ok (.iload_n 2, 1) := by decide +kernel
theorem dX10_isSplit_22 : decode cX10_isSplit 22 = .ok (.iload_n 1, 1) := by decide +kernel
theorem dX10_isSplit_23 : decode cX10_isSplit 23 = .ok (.invokestatic 351, 3) := by decide +kernel
theorem dX10_isSplit_26 : decode cX10_isSplit 26 = .ok (.ifCond .eq 38, 3) := by decide +kernel
theorem dX10_isSplit_29 : decode cX10_isSplit 29 = .ok (.aload_n 0, 1) := by decide +kernel
theorem dX10_isSplit_30 : decode cX10_isSplit 30 = .ok (.getfield 61, 3) := by decide +kernel
theorem dX10_isSplit_33 : decode cX10_isSplit 33 = .ok (.iload_n 3, 1) := by decide +kernel
theorem dX10_isSplit_34 : decode cX10_isSplit 34 = .ok (.iload_n 1, 1) := by decide +kernel
theorem dX10_isSplit_35 : decode cX10_isSplit 35 = .ok (.invokestatic 351, 3) := by decide +kernel
theorem dX10_isSplit_38 : decode cX10_isSplit 38 = .ok (.ifCond .eq 26, 3) := by decide +kernel
theorem dX10_isSplit_41 : decode cX10_isSplit 41 = .ok (.aload_n 0, 1) := by decide +kernel
theorem dX10_isSplit_42 : decode cX10_isSplit 42 = .ok (.getfield 61, 3) := by decide +kernel
theorem dX10_isSplit_45 : decode cX10_isSplit 45 = .ok (.iload_n 2, 1) := by decide +kernel
theorem dX10_isSplit_46 : decode cX10_isSplit 46 = .ok (.iload_n 1, 1) := by decide +kernel
theorem dX10_isSplit_47 : decode cX10_isSplit 47 = .ok (.invokestatic 358, 3) := by decide +kernel
theorem dX10_isSplit_50 : decode cX10_isSplit 50 = .ok (.aload_n 0, 1) := by decide +kernel
theorem dX10_isSplit_51 : decode cX10_isSplit 51 = .ok (.getfield 61, 3) := by decide +kernel
theorem dX10_isSplit_54 : decode cX10_isSplit 54 = .ok (.iload_n 3, 1) := by decide +kernel
theorem dX10_isSplit_55 : decode cX10_isSplit 55 = .ok (.iload_n 1, 1) := by decide +kernel
theorem dX10_isSplit_56 : decode cX10_isSplit 56 = .ok (.invokestatic 358, 3) := by decide +kernel
theorem dX10_isSplit_59 : decode cX10_isSplit 59 = .ok (.if_icmp .eq 5, 3) := by decide +kernel
theorem dX10_isSplit_62 : decode cX10_isSplit 62 = .ok (.iconst 1, 1) := by decide +kernel
theorem dX10_isSplit_63 : decode cX10_isSplit 63 = .ok (.ireturn, 1) := by decide +kernel
theorem dX10_isSplit_64 : decode cX10_isSplit 64 = .ok (.iinc 3 1, 3) := by decide +kernel
theorem dX10_isSplit_67 : decode cX10_isSplit 67 = .ok (.goto (-55), 3) := by decide +kernel
theorem dX10_isSplit_70 : decode cX10_isSplit 70 = .ok (.iinc 2 1, 3) := by decide +kernel
theorem dX10_isSplit_73 : decode cX10_isSplit 73 = .ok (.goto (-71), 3) := by decide +kernel
theorem dX10_isSplit_76 : decode cX10_isSplit 76 = .ok (.iconst 0, 1) := by decide +kernel
theorem dX10_isSplit_77 : decode cX10_isSplit 77 = .ok (.ireturn, 1) := by decide +kernel
theorem dX10_sure_0 : decode cX10_sure 0 = .ok (.aload_n 0, 1) := by decide +kernel
theorem dX10_sure_1 : decode cX10_sure 1 = .ok (.iconst 0, 1) := by decide +kernel
theorem dX10_sure_2 : decode cX10_sure 2 = .ok (.putfield 96, 3) := by decide +kernel
theorem dX10_sure_5 : decode cX10_sure 5 = .ok (.aload_n 0, 1) := by decide +kernel
theorem dX10_sure_6 : decode cX10_sure 6 = .ok (.getfield 291, 3) := by decide +kernel
theorem dX10_sure_9 : decode cX10_sure 9 = .ok (.ifCond .ne 5, 3) := by decide +kernel
theorem dX10_sure_12 : decode cX10_sure 12 = .ok (.iconst (-1), 1) := by decide +kernel
theorem dX10_sure_13 : decode cX10_sure 13 = .ok (.ireturn, 1) := by decide +kernel
theorem dX10_sure_14 : decode cX10_sure 14 = .ok (.iconst 0, 1) := by decide +kernel
theorem dX10_sure_15 : decode cX10_sure 15 = .ok (.istore_n 1, 1) := by decide +kernel
theorem dX10_sure_16 : decode cX10_sure 16 = .ok (.iconst 0, 1) := by decide +kernel
theorem dX10_sure_17 : decode cX10_sure 17 = .ok (.istore_n 2, 1) := by decide +kernel
theorem dX10_sure_18 : decode cX10_sure 18 = .ok (.iload_n 2, 1) := by decide +kernel
theorem dX10_sure_19 : decode cX10_sure 19 = .ok (.aload_n 0, 1) := by decide +kernel
theorem dX10_sure_20 : decode cX10_sure 20 = .ok (.getfield 291, 3) := by decide +kernel
theorem dX10_sure_23 : decode cX10_sure 23 = .ok (.if_icmp .ge 36, 3) := by decide +kernel
theorem dX10_sure_26 : decode cX10_sure 26 = .ok (.iload_n 1, 1) := by decide +kernel
theorem dX10_sure_27 : decode cX10_sure 27 = .ok (.aload_n 0, 1) := by decide +kernel
theorem dX10_sure_28 : decode cX10_sure 28 = .ok (.iload_n 2, 1) := by decide +kernel
theorem dX10_sure_29 : decode cX10_sure 29 = .ok (.invokevirtual 495, 3) := by decide +kernel
theorem dX10_sure_32 : decode cX10_sure 32 = .ok (.iconst 1, 1) := by decide +kernel
theorem dX10_sure_33 : decode cX10_sure 33 = .ok (.if_icmp .le 17, 3) := by decide +kernel
theorem dX10_sure_36 : decode cX10_sure 36 = .ok (.aload_n 0, 1) := by decide +kernel
theorem dX10_sure_37 : decode cX10_sure 37 = .ok (.iload_n 2, 1) := by decide +kernel
theorem dX10_sure_38 : decode cX10_sure 38 = .ok (.invokevirtual 498, 3) := by decide +kernel
theorem dX10_sure_41 : decode cX10_sure 41 = .ok (.ifCond .ne 9, 3) := by decide +kernel
theorem dX10_sure_44 : decode cX10_sure 44 = .ok (.iconst 1, 1) := by decide +kernel
theorem dX10_sure_45 : decode cX10_sure 45 = .ok (.iload_n 2, 1) := by decide +kernel
theorem dX10_sure_46 : decode cX10_sure 46 = .ok (.ishl, 1) := by decide +kernel
theorem dX10_sure_47 : decode cX10_sure 47 = .ok (.goto 4, 3) := by decide +kernel
theorem dX10_sure_50 : decode cX10_sure 50 = .ok (.iconst 0, 1) := by decide +kernel
theorem dX10_sure_51 : decode cX10_sure 51 = .ok (.ior, 1) := by decide +kernel
theorem dX10_sure_52 : decode cX10_sure 52 = .ok (.istore_n 1, 1) := by decide +kernel
theorem dX10_sure_53 : decode cX10_sure 53 = .ok (.iinc 2 1, 3) := by decide +kernel
theorem dX10_sure_56 : decode cX10_sure 56 = .ok (.goto (-38), 3) := by decide +kernel
theorem dX10_sure_59 : decode cX10_sure 59 = .ok (.iload_n 1, 1) := by decide +kernel
theorem dX10_sure_60 : decode cX10_sure 60 = .ok (.ireturn, 1) := by decide +kernel
theorem dX10_split_0 : decode cX10_split 0 = .ok (.aload_n 0, 1) := by decide +kernel
theorem dX10_split_1 : decode cX10_split 1 = .ok (.iconst 0, 1) := by decide +kernel
theorem dX10_split_2 : decode cX10_split 2 = .ok (.putfield 96, 3) := by decide +kernel
theorem dX10_split_5 : decode cX10_split 5 = .ok (.aload_n 0, 1) := by decide +kernel
theorem dX10_split_6 : decode cX10_split 6 = .ok (.getfield 291, 3) := by decide +kernel
theorem dX10_split_9 : decode cX10_split 9 = .ok (.ifCond .ne 5, 3) := by decide +kernel
theorem dX10_split_12 : decode cX10_split 12 = .ok (.iconst (-1), 1) := by decide +kernel
theorem dX10_split_13 : decode cX10_split 13 = .ok (.ireturn, 1) := by decide +kernel
theorem dX10_split_14 : decode cX10_split 14 = .ok (.iconst 0, 1) := by decide +kernel
theorem dX10_split_15 : decode cX10_split 15 = .ok (.istore_n 1, 1) := by decide +kernel
theorem dX10_split_16 : decode cX10_split 16 = .ok (.iconst 0, 1) := by decide +kernel
theorem dX10_split_17 : decode cX10_split 17 = .ok (.istore_n 2, 1) := by decide +kernel
theorem dX10_split_18 : decode cX10_split 18 = .ok (.iload_n 2, 1) := by decide +kernel
theorem dX10_split_19 : decode cX10_split 19 = .ok (.aload_n 0, 1) := by decide +kernel
theorem dX10_split_20 : decode cX10_split 20 = .ok (.getfield 291, 3) := by decide +kernel
theorem dX10_split_23 : decode cX10_split 23 = .ok (.if_icmp .ge 27, 3) := by decide +kernel
theorem dX10_split_26 : decode cX10_split 26 = .ok (.iload_n 1, 1) := by decide +kernel
theorem dX10_split_27 : decode cX10_split 27 = .ok (.aload_n 0, 1) := by decide +kernel
theorem dX10_split_28 : decode cX10_split 28 = .ok (.iload_n 2, 1) := by decide +kernel
theorem dX10_split_29 : decode cX10_split 29 = .ok (.invokevirtual 498, 3) := by decide +kernel
theorem dX10_split_32 : decode cX10_split 32 = .ok (.ifCond .eq 9, 3) := by decide +kernel
theorem dX10_split_35 : decode cX10_split 35 = .ok (.iconst 1, 1) := by decide +kernel
theorem dX10_split_36 : decode cX10_split 36 = .ok (.iload_n 2, 1) := by decide +kernel
theorem dX10_split_37 : decode cX10_split 37 = .ok (.ishl, 1) := by decide +kernel
theorem dX10_split_38 : decode cX10_split 38 = .ok (.goto 4, 3) := by decide +kernel
theorem dX10_split_41 : decode cX10_split 41 = .ok (.iconst 0, 1) := by decide +kernel
theorem dX10_split_42 : decode cX10_split 42 = .ok (.ior, 1) := by decide +kernel
theorem dX10_split_43 : decode cX10_split 43 = .ok (.istore_n 1, 1) := by decide +kernel
theorem dX10_split_44 : decode cX10_split 44 = .ok (.iinc 2 1, 3) := by decide +kernel
theorem dX10_split_47 : decode cX10_split 47 = .ok (.goto (-29), 3) := by decide +kernel
theorem dX10_split_50 : decode cX10_split 50 = .ok (.iload_n 1, 1) := by decide +kernel
theorem dX10_split_51 : decode cX10_split 51 = .ok (.ireturn, 1) := by decide +kernel
theorem dX10_turns_0 : decode cX10_turns 0 = .ok (.iload_n 0, 1) := by decide +kernel
theorem dX10_turns_1 : decode cX10_turns 1 = .ok (.iload_n 1, 1) := by decide +kernel
theorem dX10_turns_2 : decode cX10_turns 2 = .ok (.isub, 1) := by decide +kernel
theorem dX10_turns_3 : decode cX10_turns 3 = .ok (.invokestatic 306, 3) := by decide +kernel
theorem dX10_turns_6 : decode cX10_turns 6 = .ok (.istore_n 2, 1) := by decide +kernel
theorem dX10_turns_7 : decode cX10_turns 7 = .ok (.iload_n 2, 1) := by decide +kernel
theorem dX10_turns_8 : decode cX10_turns 8 = .ok (.bipush 10, 2) := by decide +kernel
theorem dX10_turns_10 : decode cX10_turns 10 = .ok (.iload_n 2, 1) := by decide +kernel
theorem dX10_turns_11 : decode cX10_turns 11 = .ok (.isub, 1) := by decide +kernel
theorem dX10_turns_12 : decode cX10_turns 12 = .ok (.invokestatic 322, 3) := by decide +kernel
theorem dX10_turns_15 : decode cX10_turns 15 = .ok (.ireturn, 1) := by decide +kernel
theorem dX10_likely_0 : decode cX10_likely 0 = .ok (.aload_n 0, 1) := by decide +kernel
theorem dX10_likely_1 : decode cX10_likely 1 = .ok (.iconst 0, 1) := by decide +kernel
theorem dX10_likely_2 : decode cX10_likely 2 = .ok (.putfield 96, 3) := by decide +kernel
theorem dX10_likely_5 : decode cX10_likely 5 = .ok (.aload_n 0, 1) := by decide +kernel
theorem dX10_likely_6 : decode cX10_likely 6 = .ok (.iload_n 1, 1) := by decide +kernel
theorem dX10_likely_7 : decode cX10_likely 7 = .ok (.invokevirtual 346, 3) := by decide +kernel
theorem dX10_likely_10 : decode cX10_likely 10 = .ok (.ifCond .eq 32, 3) := by decide +kernel
theorem dX10_likely_13 : decode cX10_likely 13 = .ok (.iload_n 2, 1) := by decide +kernel
theorem dX10_likely_14 : decode cX10_likely 14 = .ok (.i2l, 1) := by decide +kernel
theorem dX10_likely_15 : decode cX10_likely 15 = .ok (.lconst 0, 1) := by decide +kernel
theorem dX10_likely_16 : decode cX10_likely 16 = .ok (.lconst 1, 1) := by decide +kernel
theorem dX10_likely_17 : decode cX10_likely 17 = .ok (.invokestatic 217, 3) := by decide +kernel
theorem dX10_likely_20 : decode cX10_likely 20 = .ok (.ifCond .eq 22, 3) := by decide +kernel
theorem dX10_likely_23 : decode cX10_likely 23 = .ok (.aload_n 0, 1) := by decide +kernel
theorem dX10_likely_24 : decode cX10_likely 24 = .ok (.iload_n 1, 1) := by decide +kernel
theorem dX10_likely_25 : decode cX10_likely 25 = .ok (.invokevirtual 495, 3) := by decide +kernel
theorem dX10_likely_28 : decode cX10_likely 28 = .ok (.ifCond .ne 16, 3) := by decide +kernel
theorem dX10_likely_31 : decode cX10_likely 31 = .ok (.aload_n 0, 1) := by decide +kernel
theorem dX10_likely_32 : decode cX10_likely 32 = .ok (.getfield 61, 3) := by decide +kernel
theorem dX10_likely_35 : decode cX10_likely 35 = .ok (.iconst 2, 1) := by decide +kernel
theorem dX10_likely_36 : decode cX10_likely 36 = .ok (.iload_n 1, 1) := by decide +kernel
theorem dX10_likely_37 : decode cX10_likely 37 = .ok (.imul, 1) := by decide +kernel
theorem dX10_likely_38 : decode cX10_likely 38 = .ok (.iaload, 1) := by decide +kernel
theorem dX10_likely_39 : decode cX10_likely 39 = .ok (.ifCond .ne 5, 3) := by decide +kernel
theorem dX10_likely_42 : decode cX10_likely 42 = .ok (.iconst (-1), 1) := by decide +kernel
theorem dX10_likely_43 : decode cX10_likely 43 = .ok (.ireturn, 1) := by decide +kernel
theorem dX10_likely_44 : decode cX10_likely 44 = .ok (.iconst (-1), 1) := by decide +kernel
theorem dX10_likely_45 : decode cX10_likely 45 = .ok (.istore_n 3, 1) := by decide +kernel
theorem dX10_likely_46 : decode cX10_likely 46 = .ok (.iconst 0, 1) := by decide +kernel
theorem dX10_likely_47 : decode cX10_likely 47 = .ok (.istore 4, 2) := by decide +kernel
theorem dX10_likely_49 : decode cX10_likely 49 = .ok (.iconst 0, 1) := by decide +kernel
theorem dX10_likely_50 : decode cX10_likely 50 = .ok (.istore 5, 2) := by decide +kernel
theorem dX10_likely_52 : decode cX10_likely 52 = .ok (.iload 5, 2) := by decide +kernel
theorem dX10_likely_54 : decode cX10_likely 54 = .ok (.bipush 10, 2) := by decide +kernel
theorem dX10_likely_56 : decode cX10_likely 56 = .ok (.if_icmp .ge 118, 3) := by decide +kernel
theorem dX10_likely_59 : decode cX10_likely 59 = .ok (.aload_n 0, 1) := by decide +kernel
theorem dX10_likely_60 : decode cX10_likely 60 = .ok (.getfield 61, 3) := by decide +kernel
theorem dX10_likely_63 : decode cX10_likely 63 = .ok (.iconst 2, 1) := by decide +kernel
theorem dX10_likely_64 : decode cX10_likely 64 = .ok (.iload_n 1, 1) := by decide +kernel
theorem dX10_likely_65 : decode cX10_likely 65 = .ok (.imul, 1) := by decide +kernel
theorem dX10_likely_66 : decode cX10_likely 66 = .ok (.iaload, 1) := by decide +kernel
theorem dX10_likely_67 : decode cX10_likely 67 = .ok (.ifCond .le 21, 3) := by decide +kernel
theorem dX10_likely_70 : decode cX10_likely 70 = .ok (.iload 5, 2) := by decide +kernel
theorem dX10_likely_72 : decode cX10_likely 72 = .ok (.aload_n 0, 1) := by decide +kernel
theorem dX10_likely_73 : decode cX10_likely 73 = .ok (.getfield 61, 3) := by decide +kernel
theorem dX10_likely_76 : decode cX10_likely 76 = .ok (.iconst 2, 1) := by decide +kernel
theorem dX10_likely_77 : decode cX10_likely 77 = .ok (.iload_n 1, 1) := by decide +kernel
theorem dX10_likely_78 : decode cX10_likely 78 = .ok (.imul, 1) := by decide +kernel
theorem dX10_likely_79 : decode cX10_likely 79 = .ok (.iconst 1, 1) := by decide +kernel
theorem dX10_likely_80 : decode cX10_likely 80 = .ok (.iadd, 1) := by decide +kernel
theorem dX10_likely_81 : decode cX10_likely 81 = .ok (.iaload, 1) := by decide +kernel
theorem dX10_likely_82 : decode cX10_likely 82 = .ok (.invokestatic 501, 3) := by decide +kernel
theorem dX10_likely_85 : decode cX10_likely 85 = .ok (.goto 4, 3) := by decide +kernel
theorem dX10_likely_88 : decode cX10_likely 88 = .ok (.iconst 0, 1) := by decide +kernel
theorem dX10_likely_89 : decode cX10_likely 89 = .ok (.istore 6, 2) := by decide +kernel
theorem dX10_likely_91 : decode cX10_likely 91 = .ok (.iconst 0, 1) := by decide +kernel
theorem dX10_likely_92 : decode cX10_likely 92 = .ok (.istore 7, 2) := by decide +kernel
theorem dX10_likely_94 : decode cX10_likely 94 = .ok (.iload 7, 2) := by decide +kernel
theorem dX10_likely_96 : decode cX10_likely 96 = .ok (.aload_n 0, 1) := by decide +kernel
theorem dX10_likely_97 : decode cX10_likely 97 = .ok (.getfield 294, 3) := by decide +kernel
theorem dX10_likely_100 : decode cX10_likely 100 = .ok (.if_icmp .ge 46, 3) := by decide +kernel
theorem dX10_likely_103 : decode cX10_likely 103 = .ok (.iload 6, 2) := by decide +kernel
theorem dX10_likely_105 : decode cX10_likely 105 = .ok (.aload_n 0, 1) := by decide +kernel
theorem dX10_likely_106 : decode cX10_likely 106 = .ok (.getfield 61, 3) := by decide +kernel
theorem dX10_likely_109 : decode cX10_likely 109 = .ok (.iload 7, 2) := by decide +kernel
theorem dX10_likely_111 : decode cX10_likely 111 = .ok (.iload_n 1, 1) := by decide +kernel
theorem dX10_likely_112 : decode cX10_likely 112 = .ok (.invokestatic 351, 3) := by decide +kernel
theorem dX10_likely_115 : decode cX10_likely 115 = .ok (.ifCond .eq 21, 3) := by decide +kernel
theorem dX10_likely_118 : decode cX10_likely 118 = .ok (.iload 5, 2) := by decide +kernel
theorem dX10_likely_120 : decode cX10_likely 120 = .ok (.aload_n 0, 1) := by decide +kernel
theorem dX10_likely_121 : decode cX10_likely 121 = .ok (.getfield 61, 3) := by decide +kernel
theorem dX10_likely_124 : decode cX10_likely 124 = .ok (.iload 7, 2) := by decide +kernel
theorem dX10_likely_126 : decode cX10_likely 126 = .ok (.iload_n 1, 1) := by decide +kernel
theorem dX10_likely_127 : decode cX10_likely 127 = .ok (.invokestatic 358, 3) := by decide +kernel
theorem dX10_likely_130 : decode cX10_likely 130 = .ok (.invokestatic 501, 3) := by decide +kernel
theorem dX10_likely_133 : decode cX10_likely 133 = .ok (.goto 4, 3) := by decide +kernel
theorem dX10_likely_136 : decode cX10_likely 136 = .ok (.iconst 0, 1) := by decide +kernel
theorem dX10_likely_137 : decode cX10_likely 137 = .ok (.iadd, 1) := by decide +kernel
theorem dX10_likely_138 : decode cX10_likely 138 = .ok (.istore 6, 2) := by decide +kernel
theorem dX10_likely_140 : decode cX10_likely 140 = .ok (.iinc 7 1, 3) := by decide +kernel
theorem dX10_likely_143 : decode cX10_likely 143 = .ok (.goto (-49), 3) := by decide +kernel
theorem dX10_likely_146 : decode cX10_likely 146 = .ok (.iload_n 3, 1) := by decide +kernel
theorem dX10_likely_147 : decode cX10_likely 147 = .ok (.iconst (-1), 1) := by decide +kernel
theorem dX10_likely_148 : decode cX10_likely 148 = .ok (.if_icmp .eq 13, 3) := by decide +kernel
theorem dX10_likely_151 : decode cX10_likely 151 = .ok (.iload 6, 2) := by decide +kernel
theorem dX10_likely_153 : decode cX10_likely 153 = .ok (.iload 4, 2) := by decide +kernel
theorem dX10_likely_155 : decode cX10_likely 155 = .ok (.if_icmp .lt 6, 3) := by decide +kernel
theorem dX10_likely_158 : decode cX10_likely 158 = .ok (.goto 10, 3) := by decide +kernel
theorem dX10_likely_161 : decode cX10_likely 161 = .ok (.iload 5, 2) := by decide +kernel
theorem dX10_likely_163 : decode cX10_likely 163 = .ok (.istore_n 3, 1) := by decide +kernel
theorem dX10_likely_164 : decode cX10_likely 164 = .ok (.iload 6, 2) := by decide +kernel
theorem dX10_likely_166 : decode cX10_likely 166 = .ok (.istore 4, 2) := by decide +kernel
theorem dX10_likely_168 : decode cX10_likely 168 = .ok (.iinc 5 1, 3) := by decide +kernel
theorem dX10_likely_171 : decode cX10_likely 171 = .ok (.goto (-119), 3) := by decide +kernel
theorem dX10_likely_174 : decode cX10_likely 174 = .ok (.iload_n 2, 1) := by decide +kernel
theorem dX10_likely_175 : decode cX10_likely 175 = .ok (.ifCond .ne 7, 3) := by decide +kernel
theorem dX10_likely_178 : decode cX10_likely 178 = .ok (.iload_n 3, 1) := by decide +kernel
theorem dX10_likely_179 : decode cX10_likely 179 = .ok (.goto 5, 3) := by decide +kernel
theorem dX10_likely_182 : decode cX10_likely 182 = .ok (.iload 4, 2) := by decide +kernel
theorem dX10_likely_184 : decode cX10_likely 184 = .ok (.ireturn, 1) := by decide +kernel
theorem dX10_breathed_0 : decode cX10_breathed 0 = .ok (.aload_n 0, 1) := by decide +kernel
theorem dX10_breathed_1 : decode cX10_breathed 1 = .ok (.iconst 0, 1) := by decide +kernel
theorem dX10_breathed_2 : decode cX10_breathed 2 = .ok (.putfield 96, 3) := by decide +kernel
theorem dX10_breathed_5 : decode cX10_breathed 5 = .ok (.aload_n 0, 1) := by decide +kernel
theorem dX10_breathed_6 : decode cX10_breathed 6 = .ok (.iload_n 1, 1) := by decide +kernel
theorem dX10_breathed_7 : decode cX10_breathed 7 = .ok (.invokevirtual 346, 3) := by decide +kernel
theorem dX10_breathed_10 : decode cX10_breathed 10 = .ok (.ifCond .eq 40, 3) := by decide +kernel
theorem dX10_breathed_13 : decode cX10_breathed 13 = .ok (.aload_n 0, 1) := by decide +kernel
theorem dX10_breathed_14 : decode cX10_breathed 14 = .ok (.iload_n 2, 1) := by decide +kernel
theorem dX10_breathed_15 : decode cX10_breathed 15 = .ok (.invokevirtual 366, 3) := by decide +kernel
theorem dX10_breathed_18 : decode cX10_breathed 18 = .ok (.ifCond .eq 32, 3) := by decide +kernel
theorem dX10_breathed_21 : decode cX10_breathed 21 = .ok (.aload_n 0, 1) := by decide +kernel
theorem dX10_breathed_22 : decode cX10_breathed 22 = .ok (.getfield 61, 3) := by decide +kernel
theorem dX10_breathed_25 : decode cX10_breathed 25 = .ok (.iconst 2, 1) := by decide +kernel
theorem dX10_breathed_26 : decode cX10_breathed 26 = .ok (.iload_n 1, 1) := by decide +kernel
theorem dX10_breathed_27 : decode cX10_breathed 27 = .ok (.imul, 1) := by decide +kernel
theorem dX10_breathed_28 : decode cX10_breathed 28 = .ok (.iaload, 1) := by decide +kernel
theorem dX10_breathed_29 : decode cX10_breathed 29 = .ok (.ifCond .eq 21, 3) := by decide +kernel
theorem dX10_breathed_32 : decode cX10_breathed 32 = .ok (.iload_n 3, 1) := by decide +kernel
theorem dX10_breathed_33 : decode cX10_breathed 33 = .ok (.i2l, 1) := by decide +kernel
theorem dX10_breathed_34 : decode cX10_breathed 34 = .ok (.lconst 0, 1) := by decide +kernel
theorem dX10_breathed_35 : decode cX10_breathed 35 = .ok (.ldc2_w 361, 3) := by decide +kernel
theorem dX10_breathed_38 : decode cX10_breathed 38 = .ok (.invokestatic 217, 3) := by decide +kernel
theorem dX10_breathed_41 : decode cX10_breathed 41 = .ok (.ifCond .eq 9, 3) := by decide +kernel
theorem dX10_breathed_44 : decode cX10_breathed 44 = .ok (.iload 4, 2) := by decide +kernel
theorem dX10_breathed_46 : decode cX10_breathed 46 = .ok (.iconst (-1), 1) := by decide +kernel
theorem dX10_breathed_47 : decode cX10_breathed 47 = .ok (.if_icmp .ge 5, 3) := by decide +kernel
theorem dX10_breathed_50 : decode cX10_breathed 50 = .ok (.iconst (-1), 1) := by decide +kernel
theorem dX10_breathed_51 : decode cX10_breathed 51 = .ok (.ireturn, 1) := by decide +kernel
theorem dX10_breathed_52 : decode cX10_breathed 52 = .ok (.iconst 0, 1) := by decide +kernel
theorem dX10_breathed_53 : decode cX10_breathed 53 = .ok (.istore 5, 2) := by decide +kernel
theorem dX10_breathed_55 : decode cX10_breathed 55 = .ok (.iconst 0, 1) := by decide +kernel
theorem dX10_breathed_56 : decode cX10_breathed 56 = .ok (.istore 6, 2) := by decide +kernel
theorem dX10_breathed_58 : decode cX10_breathed 58 = .ok (.iload 6, 2) := by decide +kernel
theorem dX10_breathed_60 : decode cX10_breathed 60 = .ok (.iconst 1, 1) := by decide +kernel
theorem dX10_breathed_61 : decode cX10_breathed 61 = .ok (.aload_n 0, 1) := by decide +kernel
theorem dX10_breathed_62 : decode cX10_breathed 62 = .ok (.getfield 294, 3) := by decide +kernel
theorem dX10_breathed_65 : decode cX10_breathed 65 = .ok (.ishl, 1) := by decide +kernel
theorem dX10_breathed_66 : decode cX10_breathed 66 = .ok (.if_icmp .ge 90, 3) := by decide +kernel
theorem dX10_breathed_69 : decode cX10_breathed 69 = .ok (.iconst 0, 1) := by decide +kernel
theorem dX10_breathed_70 : decode cX10_breathed 70 = .ok (.istore 7, 2) := by decide +kernel
theorem dX10_breathed_72 : decode cX10_breathed 72 = .ok (.iconst 0, 1) := by decide +kernel
theorem dX10_breathed_73 : decode cX10_breathed 73 = .ok (.istore 8, 2) := by decide +kernel
theorem dX10_breathed_75 : decode cX10_breathed 75 = .ok (.iload 8, 2) := by decide +kernel
theorem dX10_breathed_77 : decode cX10_breathed 77 = .ok (.aload_n 0, 1) := by decide +kernel
theorem dX10_breathed_78 : decode cX10_breathed 78 = .ok (.getfield 294, 3) := by decide +kernel
theorem dX10_breathed_81 : decode cX10_breathed 81 = .ok (.if_icmp .ge 47, 3) := by decide +kernel
theorem dX10_breathed_84 : decode cX10_breathed 84 = .ok (.iload 7, 2) := by decide +kernel
theorem dX10_breathed_86 : decode cX10_breathed 86 = .ok (.iload 6, 2) := by decide +kernel
theorem dX10_breathed_88 : decode cX10_breathed 88 = .ok (.iload 8, 2) := by decide +kernel
theorem dX10_breathed_90 : decode cX10_breathed 90 = .ok (.invokestatic 229, 3) := by decide +kernel
theorem dX10_breathed_93 : decode cX10_breathed 93 = .ok (.ifCond .eq 25, 3) := by decide +kernel
theorem dX10_breathed_96 : decode cX10_breathed 96 = .ok (.aload_n 0, 1) := by decide +kernel
theorem dX10_breathed_97 : decode cX10_breathed 97 = .ok (.aload_n 0, 1) := by decide +kernel
theorem dX10_breathed_98 : decode cX10_breathed 98 = .ok (.getfield 61, 3) := by decide +kernel
theorem dX10_breathed_101 : decode cX10_breathed 101 = .ok (.iload 8, 2) := by decide +kernel
theorem dX10_breathed_103 : decode cX10_breathed 103 = .ok (.iload_n 1, 1) := by decide +kernel
theorem dX10_breathed_104 : decode cX10_breathed 104 = .ok (.iload_n 2, 1) := by decide +kernel
theorem dX10_breathed_105 : decode cX10_breathed 105 = .ok (.iload 6, 2) := by decide +kernel
theorem dX10_breathed_107 : decode cX10_breathed 107 = .ok (.invokestatic 477, 3) := by decide +kernel
theorem dX10_breathed_110 : decode cX10_breathed 110 = .ok (.iconst 1, 1) := by decide +kernel
theorem dX10_breathed_111 : decode cX10_breathed 111 = .ok (.isub, 1) := by decide +kernel
theorem dX10_breathed_112 : decode cX10_breathed 112 = .ok (.invokevirtual 340, 3) := by decide +kernel
theorem dX10_breathed_115 : decode cX10_breathed 115 = .ok (.goto 4, 3) := by decide +kernel
theorem dX10_breathed_118 : decode cX10_breathed 118 = .ok (.iconst 0, 1) := by decide +kernel
theorem dX10_breathed_119 : decode cX10_breathed 119 = .ok (.iadd, 1) := by decide +kernel
theorem dX10_breathed_120 : decode cX10_breathed 120 = .ok (.istore 7, 2) := by decide +kernel
theorem dX10_breathed_122 : decode cX10_breathed 122 = .ok (.iinc 8 1, 3) := by decide +kernel
theorem dX10_breathed_125 : decode cX10_breathed 125 = .ok (.goto (-50), 3) := by decide +kernel
theorem dX10_breathed_128 : decode cX10_breathed 128 = .ok (.iload 7, 2) := by decide +kernel
theorem dX10_breathed_130 : decode cX10_breathed 130 = .ok (.iload_n 3, 1) := by decide +kernel
theorem dX10_breathed_131 : decode cX10_breathed 131 = .ok (.if_icmp .eq 6, 3) := by decide +kernel
theorem dX10_breathed_134 : decode cX10_breathed 134 = .ok (.goto 16, 3) := by decide +kernel
theorem dX10_breathed_137 : decode cX10_breathed 137 = .ok (.iload 5, 2) := by decide +kernel
theorem dX10_breathed_139 : decode cX10_breathed 139 = .ok (.iload 4, 2) := by decide +kernel
theorem dX10_breathed_141 : decode cX10_breathed 141 = .ok (.if_icmp .ne 6, 3) := by decide +kernel
theorem dX10_breathed_144 : decode cX10_breathed 144 = .ok (.iload 6, 2) := by decide +kernel
theorem dX10_breathed_146 : decode cX10_breathed 146 = .ok (.ireturn, 1) := by decide +kernel
theorem dX10_breathed_147 : decode cX10_breathed 147 = .ok (.iinc 5 1, 3) := by decide +kernel
theorem dX10_breathed_150 : decode cX10_breathed 150 = .ok (.iinc 6 1, 3) := by decide +kernel
theorem dX10_breathed_153 : decode cX10_breathed 153 = .ok (.goto (-95), 3) := by decide +kernel
theorem dX10_breathed_156 : decode cX10_breathed 156 = .ok (.iload 4, 2) := by decide +kernel
theorem dX10_breathed_158 : decode cX10_breathed 158 = .ok (.iconst (-1), 1) := by decide +kernel
theorem dX10_breathed_159 : decode cX10_breathed 159 = .ok (.if_icmp .ne 8, 3) := by decide +kernel
theorem dX10_breathed_162 : decode cX10_breathed 162 = .ok (.iload 5, 2) := by decide +kernel
theorem dX10_breathed_164 : decode cX10_breathed 164 = .ok (.goto 4, 3) := by decide +kernel
theorem dX10_breathed_167 : decode cX10_breathed 167 = .ok (.iconst (-1), 1) := by decide +kernel
theorem dX10_breathed_168 : decode cX10_breathed 168 = .ok (.ireturn, 1) := by decide +kernel
theorem dX10_exam_0 : decode cX10_exam 0 = .ok (.aload_n 0, 1) := by decide +kernel
theorem dX10_exam_1 : decode cX10_exam 1 = .ok (.iconst 0, 1) := by decide +kernel
theorem dX10_exam_2 : decode cX10_exam 2 = .ok (.putfield 96, 3) := by decide +kernel
theorem dX10_exam_5 : decode cX10_exam 5 = .ok (.iload_n 1, 1) := by decide +kernel
theorem dX10_exam_6 : decode cX10_exam 6 = .ok (.i2l, 1) := by decide +kernel
theorem dX10_exam_7 : decode cX10_exam 7 = .ok (.lconst 1, 1) := by decide +kernel
theorem dX10_exam_8 : decode cX10_exam 8 = .ok (.ldc2_w 504, 3) := by decide +kernel
theorem dX10_exam_11 : decode cX10_exam 11 = .ok (.invokestatic 217, 3) := by decide +kernel
theorem dX10_exam_14 : decode cX10_exam 14 = .ok (.ifCond .eq 27, 3) := by decide +kernel
theorem dX10_exam_17 : decode cX10_exam 17 = .ok (.iload_n 2, 1) := by decide +kernel
theorem dX10_exam_18 : decode cX10_exam 18 = .ok (.i2l, 1) := by decide +kernel
theorem dX10_exam_19 : decode cX10_exam 19 = .ok (.lconst 0, 1) := by decide +kernel
theorem dX10_exam_20 : decode cX10_exam 20 = .ok (.ldc2_w 506, 3) := by decide +kernel
theorem dX10_exam_23 : decode cX10_exam 23 = .ok (.invokestatic 217, 3) := by decide +kernel
theorem dX10_exam_26 : decode cX10_exam 26 = .ok (.ifCond .eq 15, 3) := by decide +kernel
theorem dX10_exam_29 : decode cX10_exam 29 = .ok (.iload_n 3, 1) := by decide +kernel
theorem dX10_exam_30 : decode cX10_exam 30 = .ok (.i2l, 1) := by decide +kernel
theorem dX10_exam_31 : decode cX10_exam 31 = .ok (.lconst 0, 1) := by decide +kernel
theorem dX10_exam_32 : decode cX10_exam 32 = .ok (.ldc2_w 326, 3) := by decide +kernel
theorem dX10_exam_35 : decode cX10_exam 35 = .ok (.invokestatic 217, 3) := by decide +kernel
theorem dX10_exam_38 : decode cX10_exam 38 = .ok (.ifCond .ne 5, 3) := by decide +kernel
theorem dX10_exam_41 : decode cX10_exam 41 = .ok (.iconst (-1), 1) := by decide +kernel
theorem dX10_exam_42 : decode cX10_exam 42 = .ok (.ireturn, 1) := by decide +kernel
theorem dX10_exam_43 : decode cX10_exam 43 = .ok (.iconst 0, 1) := by decide +kernel
theorem dX10_exam_44 : decode cX10_exam 44 = .ok (.istore 4, 2) := by decide +kernel
theorem dX10_exam_46 : decode cX10_exam 46 = .ok (.iload 4, 2) := by decide +kernel
theorem dX10_exam_48 : decode cX10_exam 48 = .ok (.bipush 14, 2) := by decide +kernel
theorem dX10_exam_50 : decode cX10_exam 50 = .ok (.if_icmp .ge 28, 3) := by decide +kernel
theorem dX10_exam_53 : decode cX10_exam 53 = .ok (.aload_n 0, 1) := by decide +kernel
theorem dX10_exam_54 : decode cX10_exam 54 = .ok (.getfield 90, 3) := by decide +kernel
theorem dX10_exam_57 : decode cX10_exam 57 = .ok (.iload 4, 2) := by decide +kernel
theorem dX10_exam_59 : decode cX10_exam 59 = .ok (.iload 4, 2) := by decide +kernel
theorem dX10_exam_61 : decode cX10_exam 61 = .ok (.ifCond .ne 9, 3) := by decide +kernel
theorem dX10_exam_64 : decode cX10_exam 64 = .ok (.ldc2_w 508, 3) := by decide +kernel
theorem dX10_exam_67 : decode cX10_exam 67 = .ok (.goto 4, 3) := by decide +kernel
theorem dX10_exam_70 : decode cX10_exam 70 = .ok (.lconst 0, 1) := by decide +kernel
theorem dX10_exam_71 : decode cX10_exam 71 = .ok (.lastore, 1) := by decide +kernel
theorem dX10_exam_72 : decode cX10_exam 72 = .ok (.iinc 4 1, 3) := by decide +kernel
theorem dX10_exam_75 : decode cX10_exam 75 = .ok (.goto (-29), 3) := by decide +kernel
theorem dX10_exam_78 : decode cX10_exam 78 = .ok (.iconst 0, 1) := by decide +kernel
theorem dX10_exam_79 : decode cX10_exam 79 = .ok (.istore 4, 2) := by decide +kernel
theorem dX10_exam_81 : decode cX10_exam 81 = .ok (.iload 4, 2) := by decide +kernel
theorem dX10_exam_83 : decode cX10_exam 83 = .ok (.iload_n 1, 1) := by decide +kernel
theorem dX10_exam_84 : decode cX10_exam 84 = .ok (.if_icmp .ge 66, 3) := by decide +kernel
theorem dX10_exam_87 : decode cX10_exam 87 = .ok (.iload 4, 2) := by decide +kernel
theorem dX10_exam_89 : decode cX10_exam 89 = .ok (.istore 5, 2) := by decide +kernel
theorem dX10_exam_91 : decode cX10_exam 91 = .ok (.iload 5, 2) := by decide +kernel
theorem dX10_exam_93 : decode cX10_exam 93 = .ok (.ifCond .lt 51, 3) := by decide +kernel
theorem dX10_exam_96 : decode cX10_exam 96 = .ok (.aload_n 0, 1) := by decide +kernel
theorem dX10_exam_97 : decode cX10_exam 97 = .ok (.getfield 90, 3) := by decide +kernel
theorem dX10_exam_100 : decode cX10_exam 100 = .ok (.iload 5, 2) := by decide +kernel
theorem dX10_exam_102 : decode cX10_exam 102 = .ok (.laload, 1) := by decide +kernel
theorem dX10_exam_103 : decode cX10_exam 103 = .ok (.iload_n 3, 1) := by decide +kernel
theorem dX10_exam_104 : decode cX10_exam 104 = .ok (.i2l, 1) := by decide +kernel
theorem dX10_exam_105 : decode cX10_exam 105 = .ok (.lmul, 1) := by decide +kernel
theorem dX10_exam_106 : decode cX10_exam 106 = .ok (.ldc2_w 326, 3) := by decide +kernel
theorem dX10_exam_109 : decode cX10_exam 109 = .ok (.ldiv, 1) := by decide +kernel
theorem dX10_exam_110 : decode cX10_exam 110 = .ok (.lstore 6, 2) := by decide +kernel
theorem dX10_exam_112 : decode cX10_exam 112 = .ok (.aload_n 0, 1) := by decide +kernel
theorem dX10_exam_113 : decode cX10_exam 113 = .ok (.getfield 90, 3) := by decide +kernel
theorem dX10_exam_116 : decode cX10_exam 116 = .ok (.iload 5, 2) := by decide +kernel
theorem dX10_exam_118 : decode cX10_exam 118 = .ok (.iconst 1, 1) := by decide +kernel
theorem dX10_exam_119 : decode cX10_exam 119 = .ok (.iadd, 1) := by decide +kernel
theorem dX10_exam_120 : decode cX10_exam 120 = .ok (.dup2, 1) := by decide +kernel
theorem dX10_exam_121 : decode cX10_exam 121 = .ok (.laload, 1) := by decide +kernel
theorem dX10_exam_122 : decode cX10_exam 122 = .ok (.lload 6, 2) := by decide +kernel
theorem dX10_exam_124 : decode cX10_exam 124 = .ok (.ladd, 1) := by decide +kernel
theorem dX10_exam_125 : decode cX10_exam 125 = .ok (.lastore, 1) := by decide +kernel
theorem dX10_exam_126 : decode cX10_exam 126 = .ok (.aload_n 0, 1) := by decide +kernel
theorem dX10_exam_127 : decode cX10_exam 127 = .ok (.getfield 90, 3) := by decide +kernel
theorem dX10_exam_130 : decode cX10_exam 130 = .ok (.iload 5, 2) := by decide +kernel
theorem dX10_exam_132 : decode cX10_exam 132 = .ok (.dup2, 1) := by decide +kernel
theorem dX10_exam_133 : decode cX10_exam 133 = .ok (.laload, 1) := by decide +kernel
theorem dX10_exam_134 : decode cX10_exam 134 = .ok (.lload 6, 2) := by decide +kernel
theorem dX10_exam_136 : decode cX10_exam 136 = .ok (.lsub, 1) := by decide +kernel
theorem dX10_exam_137 : decode cX10_exam 137 = .ok (.lastore, 1) := by decide +kernel
theorem dX10_exam_138 : decode cX10_exam 138 = .ok (.iinc 5 (-1), 3) := by decide +kernel
theorem dX10_exam_141 : decode cX10_exam 141 = .ok (.goto (-50), 3) := by decide +kernel
theorem dX10_exam_144 : decode cX10_exam 144 = .ok (.iinc 4 1, 3) := by decide +kernel
theorem dX10_exam_147 : decode cX10_exam 147 = .ok (.goto (-66), 3) := by decide +kernel
theorem dX10_exam_150 : decode cX10_exam 150 = .ok (.lconst 0, 1) := by decide +kernel
theorem dX10_exam_151 : decode cX10_exam 151 = .ok (.lstore 4, 2) := by decide +kernel
theorem dX10_exam_153 : decode cX10_exam 153 = .ok (.iload_n 2, 1) := by decide +kernel
theorem dX10_exam_154 : decode cX10_exam 154 = .ok (.istore 6, 2) := by decide +kernel
theorem dX10_exam_156 : decode cX10_exam 156 = .ok (.iload 6, 2) := by decide +kernel
theorem dX10_exam_158 : decode cX10_exam 158 = .ok (.bipush 14, 2) := by decide +kernel
theorem dX10_exam_160 : decode cX10_exam 160 = .ok (.if_icmp .ge 21, 3) := by decide +kernel
theorem dX10_exam_163 : decode cX10_exam 163 = .ok (.lload 4, 2) := by decide +kernel
theorem dX10_exam_165 : decode cX10_exam 165 = .ok (.aload_n 0, 1) := by decide +kernel
theorem dX10_exam_166 : decode cX10_exam 166 = .ok (.getfield 90, 3) := by decide +kernel
theorem dX10_exam_169 : decode cX10_exam 169 = .ok (.iload 6, 2) := by decide +kernel
theorem dX10_exam_171 : decode cX10_exam 171 = .ok (.laload, 1) := by decide +kernel
theorem dX10_exam_172 : decode cX10_exam 172 = .ok (.ladd, 1) := by decide +kernel
theorem dX10_exam_173 : decode cX10_exam 173 = .ok (.lstore 4, 2) := by decide +kernel
theorem dX10_exam_175 : decode cX10_exam 175 = .ok (.iinc 6 1, 3) := by decide +kernel
theorem dX10_exam_178 : decode cX10_exam 178 = .ok (.goto (-22), 3) := by decide +kernel
theorem dX10_exam_181 : decode cX10_exam 181 = .ok (.lload 4, 2) := by decide +kernel
theorem dX10_exam_183 : decode cX10_exam 183 = .ok (.l2i, 1) := by decide +kernel
theorem dX10_exam_184 : decode cX10_exam 184 = .ok (.ireturn, 1) := by decide +kernel
theorem dX10_learnt_0 : decode cX10_learnt 0 = .ok (.aload_n 0, 1) := by decide +kernel
theorem dX10_learnt_1 : decode cX10_learnt 1 = .ok (.iconst 0, 1) := by decide +kernel
theorem dX10_learnt_2 : decode cX10_learnt 2 = .ok (.putfield 96, 3) := by decide +kernel
theorem dX10_learnt_5 : decode cX10_learnt 5 = .ok (.aload_n 0, 1) := by decide +kernel
theorem dX10_learnt_6 : decode cX10_learnt 6 = .ok (.iload_n 1, 1) := by decide +kernel
theorem dX10_learnt_7 : decode cX10_learnt 7 = .ok (.invokevirtual 309, 3) := by decide +kernel
theorem dX10_learnt_10 : decode cX10_learnt 10 = .ok (.ifCond .ne 5, 3) := by decide +kernel
theorem dX10_learnt_13 : decode cX10_learnt 13 = .ok (.iconst (-1), 1) := by decide +kernel
theorem dX10_learnt_14 : decode cX10_learnt 14 = .ok (.ireturn, 1) := by decide +kernel
theorem dX10_learnt_15 : decode cX10_learnt 15 = .ok (.iconst 0, 1) := by decide +kernel
theorem dX10_learnt_16 : decode cX10_learnt 16 = .ok (.istore_n 2, 1) := by decide +kernel
theorem dX10_learnt_17 : decode cX10_learnt 17 = .ok (.iconst 0, 1) := by decide +kernel
theorem dX10_learnt_18 : decode cX10_learnt 18 = .ok (.istore_n 3, 1) := by decide +kernel
theorem dX10_learnt_19 : decode cX10_learnt 19 = .ok (.iload_n 3, 1) := by decide +kernel
theorem dX10_learnt_20 : decode cX10_learnt 20 = .ok (.aload_n 0, 1) := by decide +kernel
theorem dX10_learnt_21 : decode cX10_learnt 21 = .ok (.getfield 291, 3) := by decide +kernel
theorem dX10_learnt_24 : decode cX10_learnt 24 = .ok (.if_icmp .ge 69, 3) := by decide +kernel
theorem dX10_learnt_27 : decode cX10_learnt 27 = .ok (.iload_n 2, 1) := by decide +kernel
theorem dX10_learnt_28 : decode cX10_learnt 28 = .ok (.aload_n 0, 1) := by decide +kernel
theorem dX10_learnt_29 : decode cX10_learnt 29 = .ok (.iload_n 3, 1) := by decide +kernel
theorem dX10_learnt_30 : decode cX10_learnt 30 = .ok (.aload_n 0, 1) := by decide +kernel
theorem dX10_learnt_31 : decode cX10_learnt 31 = .ok (.getfield 49, 3) := by decide +kernel
theorem dX10_learnt_34 : decode cX10_learnt 34 = .ok (.iconst 4, 1) := by decide +kernel
theorem dX10_learnt_35 : decode cX10_learnt 35 = .ok (.iload_n 1, 1) := by decide +kernel
theorem dX10_learnt_36 : decode cX10_learnt 36 = .ok (.imul, 1) := by decide +kernel
theorem dX10_learnt_37 : decode cX10_learnt 37 = .ok (.iconst 3, 1) := by decide +kernel
theorem dX10_learnt_38 : decode cX10_learnt 38 = .ok (.iadd, 1) := by decide +kernel
theorem dX10_learnt_39 : decode cX10_learnt 39 = .ok (.iaload, 1) := by decide +kernel
theorem dX10_learnt_40 : decode cX10_learnt 40 = .ok (.invokevirtual 474, 3) := by decide +kernel
theorem dX10_learnt_43 : decode cX10_learnt 43 = .ok (.ifCond .eq 41, 3) := by decide +kernel
theorem dX10_learnt_46 : decode cX10_learnt 46 = .ok (.aload_n 0, 1) := by decide +kernel
theorem dX10_learnt_47 : decode cX10_learnt 47 = .ok (.getfield 61, 3) := by decide +kernel
theorem dX10_learnt_50 : decode cX10_learnt 50 = .ok (.iload_n 1, 1) := by decide +kernel
theorem dX10_learnt_51 : decode cX10_learnt 51 = .ok (.iload_n 3, 1) := by decide +kernel
theorem dX10_learnt_52 : decode cX10_learnt 52 = .ok (.invokestatic 351, 3) := by decide +kernel
theorem dX10_learnt_55 : decode cX10_learnt 55 = .ok (.ifCond .eq 29, 3) := by decide +kernel
theorem dX10_learnt_58 : decode cX10_learnt 58 = .ok (.aload_n 0, 1) := by decide +kernel
theorem dX10_learnt_59 : decode cX10_learnt 59 = .ok (.getfield 61, 3) := by decide +kernel
theorem dX10_learnt_62 : decode cX10_learnt 62 = .ok (.iload_n 1, 1) := by decide +kernel
theorem dX10_learnt_63 : decode cX10_learnt 63 = .ok (.iload_n 3, 1) := by decide +kernel
theorem dX10_learnt_64 : decode cX10_learnt 64 = .ok (.invokestatic 358, 3) := by decide +kernel
theorem dX10_learnt_67 : decode cX10_learnt 67 = .ok (.aload_n 0, 1) := by decide +kernel
theorem dX10_learnt_68 : decode cX10_learnt 68 = .ok (.getfield 43, 3) := by decide +kernel
theorem dX10_learnt_71 : decode cX10_learnt 71 = .ok (.iconst 4, 1) := by decide +kernel
theorem dX10_learnt_72 : decode cX10_learnt 72 = .ok (.iload_n 3, 1) := by decide +kernel
theorem dX10_learnt_73 : decode cX10_learnt 73 = .ok (.imul, 1) := by decide +kernel
theorem dX10_learnt_74 : decode cX10_learnt 74 = .ok (.iconst 3, 1) := by decide +kernel
theorem dX10_learnt_75 : decode cX10_learnt 75 = .ok (.iadd, 1) := by decide +kernel
theorem dX10_learnt_76 : decode cX10_learnt 76 = .ok (.iaload, 1) := by decide +kernel
theorem dX10_learnt_77 : decode cX10_learnt 77 = .ok (.if_icmp .ne 7, 3) := by decide +kernel
theorem dX10_learnt_80 : decode cX10_learnt 80 = .ok (.iconst 1, 1) := by decide +kernel
theorem dX10_learnt_81 : decode cX10_learnt 81 = .ok (.goto 4, 3) := by decide +kernel
theorem dX10_learnt_84 : decode cX10_learnt 84 = .ok (.iconst 0, 1) := by decide +kernel
theorem dX10_learnt_85 : decode cX10_learnt 85 = .ok (.iadd, 1) := by decide +kernel
theorem dX10_learnt_86 : decode cX10_learnt 86 = .ok (.istore_n 2, 1) := by decide +kernel
theorem dX10_learnt_87 : decode cX10_learnt 87 = .ok (.iinc 3 1, 3) := by decide +kernel
theorem dX10_learnt_90 : decode cX10_learnt 90 = .ok (.goto (-71), 3) := by decide +kernel
theorem dX10_learnt_93 : decode cX10_learnt 93 = .ok (.iload_n 2, 1) := by decide +kernel
theorem dX10_learnt_94 : decode cX10_learnt 94 = .ok (.ireturn, 1) := by decide +kernel
theorem dX10_quiet_0 : decode cX10_quiet 0 = .ok (.aload_n 0, 1) := by decide +kernel
theorem dX10_quiet_1 : decode cX10_quiet 1 = .ok (.iconst 0, 1) := by decide +kernel
theorem dX10_quiet_2 : decode cX10_quiet 2 = .ok (.putfield 96, 3) := by decide +kernel
theorem dX10_quiet_5 : decode cX10_quiet 5 = .ok (.aload_n 0, 1) := by decide +kernel
theorem dX10_quiet_6 : decode cX10_quiet 6 = .ok (.iload_n 1, 1) := by decide +kernel
theorem dX10_quiet_7 : decode cX10_quiet 7 = .ok (.invokevirtual 309, 3) := by decide +kernel
theorem dX10_quiet_10 : decode cX10_quiet 10 = .ok (.ifCond .eq 13, 3) := by decide +kernel
theorem dX10_quiet_13 : decode cX10_quiet 13 = .ok (.iload_n 2, 1) := by decide +kernel
theorem dX10_quiet_14 : decode cX10_quiet 14 = .ok (.i2l, 1) := by decide +kernel
theorem dX10_quiet_15 : decode cX10_quiet 15 = .ok (.lconst 0, 1) := by decide +kernel
theorem dX10_quiet_16 : decode cX10_quiet 16 = .ok (.lconst 1, 1) := by decide +kernel
theorem dX10_quiet_17 : decode cX10_quiet 17 = .ok (.invokestatic 217, 3) := by decide +kernel
theorem dX10_quiet_20 : decode cX10_quiet 20 = .ok (.ifCond .ne 5, 3) := by decide +kernel
theorem dX10_quiet_23 : decode cX10_quiet 23 = .ok (.iconst (-1), 1) := by decide +kernel
theorem dX10_quiet_24 : decode cX10_quiet 24 = .ok (.ireturn, 1) := by decide +kernel
theorem dX10_quiet_25 : decode cX10_quiet 25 = .ok (.iconst (-1), 1) := by decide +kernel
theorem dX10_quiet_26 : decode cX10_quiet 26 = .ok (.istore_n 3, 1) := by decide +kernel
theorem dX10_quiet_27 : decode cX10_quiet 27 = .ok (.iconst 0, 1) := by decide +kernel
theorem dX10_quiet_28 : decode cX10_quiet 28 = .ok (.istore 4, 2) := by decide +kernel
theorem dX10_quiet_30 : decode cX10_quiet 30 = .ok (.iconst 0, 1) := by decide +kernel
theorem dX10_quiet_31 : decode cX10_quiet 31 = .ok (.istore 5, 2) := by decide +kernel
theorem dX10_quiet_33 : decode cX10_quiet 33 = .ok (.iload 5, 2) := by decide +kernel
theorem dX10_quiet_35 : decode cX10_quiet 35 = .ok (.aload_n 0, 1) := by decide +kernel
theorem dX10_quiet_36 : decode cX10_quiet 36 = .ok (.getfield 297, 3) := by decide +kernel
theorem dX10_quiet_39 : decode cX10_quiet 39 = .ok (.if_icmp .ge 44, 3) := by decide +kernel
theorem dX10_quiet_42 : decode cX10_quiet 42 = .ok (.aload_n 0, 1) := by decide +kernel
theorem dX10_quiet_43 : decode cX10_quiet 43 = .ok (.aload_n 0, 1) := by decide +kernel
theorem dX10_quiet_44 : decode cX10_quiet 44 = .ok (.getfield 61, 3) := by decide +kernel
theorem dX10_quiet_47 : decode cX10_quiet 47 = .ok (.iload_n 1, 1) := by decide +kernel
theorem dX10_quiet_48 : decode cX10_quiet 48 = .ok (.iload 5, 2) := by decide +kernel
theorem dX10_quiet_50 : decode cX10_quiet 50 = .ok (.invokevirtual 451, 3) := by decide +kernel
theorem dX10_quiet_53 : decode cX10_quiet 53 = .ok (.istore 6, 2) := by decide +kernel
theorem dX10_quiet_55 : decode cX10_quiet 55 = .ok (.iload_n 3, 1) := by decide +kernel
theorem dX10_quiet_56 : decode cX10_quiet 56 = .ok (.iconst (-1), 1) := by decide +kernel
theorem dX10_quiet_57 : decode cX10_quiet 57 = .ok (.if_icmp .eq 13, 3) := by decide +kernel
theorem dX10_quiet_60 : decode cX10_quiet 60 = .ok (.iload 6, 2) := by decide +kernel
theorem dX10_quiet_62 : decode cX10_quiet 62 = .ok (.iload 4, 2) := by decide +kernel
theorem dX10_quiet_64 : decode cX10_quiet 64 = .ok (.if_icmp .lt 6, 3) := by decide +kernel
theorem dX10_quiet_67 : decode cX10_quiet 67 = .ok (.goto 10, 3) := by decide +kernel
theorem dX10_quiet_70 : decode cX10_quiet 70 = .ok (.iload 5, 2) := by decide +kernel
theorem dX10_quiet_72 : decode cX10_quiet 72 = .ok (.istore_n 3, 1) := by decide +kernel
theorem dX10_quiet_73 : decode cX10_quiet 73 = .ok (.iload 6, 2) := by decide +kernel
theorem dX10_quiet_75 : decode cX10_quiet 75 = .ok (.istore 4, 2) := by decide +kernel
theorem dX10_quiet_77 : decode cX10_quiet 77 = .ok (.iinc 5 1, 3) := by decide +kernel
theorem dX10_quiet_80 : decode cX10_quiet 80 = .ok (.goto (-47), 3) := by decide +kernel
theorem dX10_quiet_83 : decode cX10_quiet 83 = .ok (.iload_n 2, 1) := by decide +kernel
theorem dX10_quiet_84 : decode cX10_quiet 84 = .ok (.ifCond .ne 7, 3) := by decide +kernel
theorem dX10_quiet_87 : decode cX10_quiet 87 = .ok (.iload_n 3, 1) := by decide +kernel
theorem dX10_quiet_88 : decode cX10_quiet 88 = .ok (.goto 5, 3) := by decide +kernel
theorem dX10_quiet_91 : decode cX10_quiet 91 = .ok (.iload 4, 2) := by decide +kernel
theorem dX10_quiet_93 : decode cX10_quiet 93 = .ok (.ireturn, 1) := by decide +kernel
theorem dX10_far_0 : decode cX10_far 0 = .ok (.aload_n 0, 1) := by decide +kernel
theorem dX10_far_1 : decode cX10_far 1 = .ok (.iconst 0, 1) := by decide +kernel
theorem dX10_far_2 : decode cX10_far 2 = .ok (.putfield 96, 3) := by decide +kernel
theorem dX10_far_5 : decode cX10_far 5 = .ok (.aload_n 0, 1) := by decide +kernel
theorem dX10_far_6 : decode cX10_far 6 = .ok (.getfield 291, 3) := by decide +kernel
theorem dX10_far_9 : decode cX10_far 9 = .ok (.ifCond .ne 5, 3) := by decide +kernel
theorem dX10_far_12 : decode cX10_far 12 = .ok (.iconst (-1), 1) := by decide +kernel
theorem dX10_far_13 : decode cX10_far 13 = .ok (.ireturn, 1) := by decide +kernel
theorem dX10_far_14 : decode cX10_far 14 = .ok (.iconst 0, 1) := by decide +kernel
theorem dX10_far_15 : decode cX10_far 15 = .ok (.istore_n 1, 1) := by decide +kernel
theorem dX10_far_16 : decode cX10_far 16 = .ok (.iconst 0, 1) := by decide +kernel
theorem dX10_far_17 : decode cX10_far 17 = .ok (.istore_n 2, 1) := by decide +kernel
theorem dX10_far_18 : decode cX10_far 18 = .ok (.iload_n 2, 1) := by decide +kernel
theorem dX10_far_19 : decode cX10_far 19 = .ok (.aload_n 0, 1) := by decide +kernel
theorem dX10_far_20 : decode cX10_far 20 = .ok (.getfield 291, 3) := by decide +kernel
theorem dX10_far_23 : decode cX10_far 23 = .ok (.if_icmp .ge 69, 3) := by decide +kernel
theorem dX10_far_26 : decode cX10_far 26 = .ok (.iconst 0, 1) := by decide +kernel
theorem dX10_far_27 : decode cX10_far 27 = .ok (.istore_n 3, 1) := by decide +kernel
theorem dX10_far_28 : decode cX10_far 28 = .ok (.iload_n 3, 1) := by decide +kernel
theorem dX10_far_29 : decode cX10_far 29 = .ok (.iload_n 2, 1) := by decide +kernel
theorem dX10_far_30 : decode cX10_far 30 = .ok (.if_icmp .ge 56, 3) := by decide +kernel
theorem dX10_far_33 : decode cX10_far 33 = .ok (.aload_n 0, 1) := by decide +kernel
theorem dX10_far_34 : decode cX10_far 34 = .ok (.getfield 61, 3) := by decide +kernel
theorem dX10_far_37 : decode cX10_far 37 = .ok (.iconst 2, 1) := by decide +kernel
theorem dX10_far_38 : decode cX10_far 38 = .ok (.iload_n 2, 1) := by decide +kernel
theorem dX10_far_39 : decode cX10_far 39 = .ok (.imul, 1) := by decide +kernel
theorem dX10_far_40 : decode cX10_far 40 = .ok (.iaload, 1) := by decide +kernel
theorem dX10_far_41 : decode cX10_far 41 = .ok (.ifCond .le 39, 3) := by decide +kernel
theorem dX10_far_44 : decode cX10_far 44 = .ok (.aload_n 0, 1) := by decide +kernel
theorem dX10_far_45 : decode cX10_far 45 = .ok (.getfield 61, 3) := by decide +kernel
theorem dX10_far_48 : decode cX10_far 48 = .ok (.iconst 2, 1) := by decide +kernel
theorem dX10_far_49 : decode cX10_far 49 = .ok (.iload_n 3, 1) := by decide +kernel
theorem dX10_far_50 : decode cX10_far 50 = .ok (.imul, 1) := by decide +kernel
theorem dX10_far_51 : decode cX10_far 51 = .ok (.iaload, 1) := by decide +kernel
theorem dX10_far_52 : decode cX10_far 52 = .ok (.ifCond .le 28, 3) := by decide +kernel
theorem dX10_far_55 : decode cX10_far 55 = .ok (.iload_n 1, 1) := by decide +kernel
theorem dX10_far_56 : decode cX10_far 56 = .ok (.aload_n 0, 1) := by decide +kernel
theorem dX10_far_57 : decode cX10_far 57 = .ok (.aload_n 0, 1) := by decide +kernel
theorem dX10_far_58 : decode cX10_far 58 = .ok (.getfield 43, 3) := by decide +kernel
theorem dX10_far_61 : decode cX10_far 61 = .ok (.iconst 4, 1) := by decide +kernel
theorem dX10_far_62 : decode cX10_far 62 = .ok (.iload_n 2, 1) := by decide +kernel
theorem dX10_far_63 : decode cX10_far 63 = .ok (.imul, 1) := by decide +kernel
theorem dX10_far_64 : decode cX10_far 64 = .ok (.iaload, 1) := by decide +kernel
theorem dX10_far_65 : decode cX10_far 65 = .ok (.aload_n 0, 1) := by decide +kernel
theorem dX10_far_66 : decode cX10_far 66 = .ok (.getfield 43, 3) := by decide +kernel
theorem dX10_far_69 : decode cX10_far 69 = .ok (.iconst 4, 1) := by decide +kernel
theorem dX10_far_70 : decode cX10_far 70 = .ok (.iload_n 3, 1) := by decide +kernel
theorem dX10_far_71 : decode cX10_far 71 = .ok (.imul, 1) := by decide +kernel
theorem dX10_far_72 : decode cX10_far 72 = .ok (.iaload, 1) := by decide +kernel
theorem dX10_far_73 : decode cX10_far 73 = .ok (.invokevirtual 316, 3) := by decide +kernel
theorem dX10_far_76 : decode cX10_far 76 = .ok (.invokestatic 324, 3) := by decide +kernel
theorem dX10_far_79 : decode cX10_far 79 = .ok (.istore_n 1, 1) := by decide +kernel
theorem dX10_far_80 : decode cX10_far 80 = .ok (.iinc 3 1, 3) := by decide +kernel
theorem dX10_far_83 : decode cX10_far 83 = .ok (.goto (-55), 3) := by decide +kernel
theorem dX10_far_86 : decode cX10_far 86 = .ok (.iinc 2 1, 3) := by decide +kernel
theorem dX10_far_89 : decode cX10_far 89 = .ok (.goto (-71), 3) := by decide +kernel
theorem dX10_far_92 : decode cX10_far 92 = .ok (.iload_n 1, 1) := by decide +kernel
theorem dX10_far_93 : decode cX10_far 93 = .ok (.ireturn, 1) := by decide +kernel
theorem dX10_image_0 : decode cX10_image 0 = .ok (.aload_n 0, 1) := by decide +kernel
theorem dX10_image_1 : decode cX10_image 1 = .ok (.iconst 0, 1) := by decide +kernel
theorem dX10_image_2 : decode cX10_image 2 = .ok (.putfield 96, 3) := by decide +kernel
theorem dX10_image_5 : decode cX10_image 5 = .ok (.aload_n 0, 1) := by decide +kernel
theorem dX10_image_6 : decode cX10_image 6 = .ok (.getfield 291, 3) := by decide +kernel
theorem dX10_image_9 : decode cX10_image 9 = .ok (.ifCond .ne 5, 3) := by decide +kernel
theorem dX10_image_12 : decode cX10_image 12 = .ok (.iconst (-1), 1) := by decide +kernel
theorem dX10_image_13 : decode cX10_image 13 = .ok (.ireturn, 1) := by decide +kernel
theorem dX10_image_14 : decode cX10_image 14 = .ok (.aload_n 0, 1) := by decide +kernel
theorem dX10_image_15 : decode cX10_image 15 = .ok (.getfield 61, 3) := by decide +kernel
theorem dX10_image_18 : decode cX10_image 18 = .ok (.aload_n 0, 1) := by decide +kernel
theorem dX10_image_19 : decode cX10_image 19 = .ok (.getfield 93, 3) := by decide +kernel
theorem dX10_image_22 : decode cX10_image 22 = .ok (.invokestatic 436, 3) := by decide +kernel
theorem dX10_image_25 : decode cX10_image 25 = .ok (.aload_n 0, 1) := by decide +kernel
theorem dX10_image_26 : decode cX10_image 26 = .ok (.iconst 1, 1) := by decide +kernel
theorem dX10_image_27 : decode cX10_image 27 = .ok (.putfield 303, 3) := by decide +kernel
theorem dX10_image_30 : decode cX10_image 30 = .ok (.aload_n 0, 1) := by decide +kernel
theorem dX10_image_31 : decode cX10_image 31 = .ok (.getfield 61, 3) := by decide +kernel
theorem dX10_image_34 : decode cX10_image 34 = .ok (.bipush 109, 2) := by decide +kernel
theorem dX10_image_36 : decode cX10_image 36 = .ok (.iaload, 1) := by decide +kernel
theorem dX10_image_37 : decode cX10_image 37 = .ok (.ireturn, 1) := by decide +kernel
theorem dX10_back_0 : decode cX10_back 0 = .ok (.aload_n 0, 1) := by decide +kernel
theorem dX10_back_1 : decode cX10_back 1 = .ok (.iconst 0, 1) := by decide +kernel
theorem dX10_back_2 : decode cX10_back 2 = .ok (.putfield 96, 3) := by decide +kernel
theorem dX10_back_5 : decode cX10_back 5 = .ok (.aload_n 0, 1) := by decide +kernel
theorem dX10_back_6 : decode cX10_back 6 = .ok (.getfield 303, 3) := by decide +kernel
theorem dX10_back_9 : decode cX10_back 9 = .ok (.ifCond .ne 5, 3) := by decide +kernel
theorem dX10_back_12 : decode cX10_back 12 = .ok (.iconst (-1), 1) := by decide +kernel
theorem dX10_back_13 : decode cX10_back 13 = .ok (.ireturn, 1) := by decide +kernel
theorem dX10_back_14 : decode cX10_back 14 = .ok (.aload_n 0, 1) := by decide +kernel
theorem dX10_back_15 : decode cX10_back 15 = .ok (.getfield 93, 3) := by decide +kernel
theorem dX10_back_18 : decode cX10_back 18 = .ok (.aload_n 0, 1) := by decide +kernel
theorem dX10_back_19 : decode cX10_back 19 = .ok (.getfield 61, 3) := by decide +kernel
theorem dX10_back_22 : decode cX10_back 22 = .ok (.invokestatic 436, 3) := by decide +kernel
theorem dX10_back_25 : decode cX10_back 25 = .ok (.aload_n 0, 1) := by decide +kernel
theorem dX10_back_26 : decode cX10_back 26 = .ok (.iconst 0, 1) := by decide +kernel
theorem dX10_back_27 : decode cX10_back 27 = .ok (.putfield 300, 3) := by decide +kernel
theorem dX10_back_30 : decode cX10_back 30 = .ok (.aload_n 0, 1) := by decide +kernel
theorem dX10_back_31 : decode cX10_back 31 = .ok (.getfield 61, 3) := by decide +kernel
theorem dX10_back_34 : decode cX10_back 34 = .ok (.bipush 109, 2) := by decide +kernel
theorem dX10_back_36 : decode cX10_back 36 = .ok (.iaload, 1) := by decide +kernel
theorem dX10_back_37 : decode cX10_back 37 = .ok (.ireturn, 1) := by decide +kernel
theorem dX10_count_0 : decode cX10_count 0 = .ok (.aload_n 0, 1) := by decide +kernel
theorem dX10_count_1 : decode cX10_count 1 = .ok (.iconst 0, 1) := by decide +kernel
theorem dX10_count_2 : decode cX10_count 2 = .ok (.putfield 96, 3) := by decide +kernel
theorem dX10_count_5 : decode cX10_count 5 = .ok (.iload_n 1, 1) := by decide +kernel
theorem dX10_count_6 : decode cX10_count 6 = .ok (.tableswitch 167 0 12 #[66, 71, 76, 81, 86, 91, 96, 104, 109, 114, 123, 154, 162], 66) := by decide +kernel
theorem dX10_count_72 : decode cX10_count 72 = .ok (.aload_n 0, 1) := by decide +kernel
theorem dX10_count_73 : decode cX10_count 73 = .ok (.getfield 291, 3) := by decide +kernel
theorem dX10_count_76 : decode cX10_count 76 = .ok (.ireturn, 1) := by decide +kernel
theorem dX10_count_77 : decode cX10_count 77 = .ok (.aload_n 0, 1) := by decide +kernel
theorem dX10_count_78 : decode cX10_count 78 = .ok (.getfield 294, 3) := by decide +kernel
theorem dX10_count_81 : decode cX10_count 81 = .ok (.ireturn, 1) := by decide +kernel
theorem dX10_count_82 : decode cX10_count 82 = .ok (.aload_n 0, 1) := by decide +kernel
theorem dX10_count_83 : decode cX10_count 83 = .ok (.getfield 283, 3) := by decide +kernel
theorem dX10_count_86 : decode cX10_count 86 = .ok (.ireturn, 1) := by decide +kernel
theorem dX10_count_87 : decode cX10_count 87 = .ok (.aload_n 0, 1) := by decide +kernel
theorem dX10_count_88 : decode cX10_count 88 = .ok (.getfield 286, 3) := by decide +kernel
theorem dX10_count_91 : decode cX10_count 91 = .ok (.ireturn, 1) := by decide +kernel
theorem dX10_count_92 : decode cX10_count 92 = .ok (.aload_n 0, 1) := by decide +kernel
theorem dX10_count_93 : decode cX10_count 93 = .ok (.getfield 109, 3) := by decide +kernel
theorem dX10_count_96 : decode cX10_count 96 = .ok (.ireturn, 1) := by decide +kernel
theorem dX10_count_97 : decode cX10_count 97 = .ok (.aload_n 0, 1) := by decide +kernel
theorem dX10_count_98 : decode cX10_count 98 = .ok (.getfield 70, 3) := by decide +kernel
theorem dX10_count_101 : decode cX10_count 101 = .ok (.ireturn, 1) := by decide +kernel
theorem dX10_count_102 : decode cX10_count 102 = .ok (.aload_n 0, 1) := by decide +kernel
theorem dX10_count_103 : decode cX10_count 103 = .ok (.getfield 61, 3) := by decide +kernel
theorem dX10_count_106 : decode cX10_count 106 = .ok (.bipush 109, 2) := by decide +kernel
theorem dX10_count_108 : decode cX10_count 108 = .ok (.iaload, 1) := by decide +kernel
theorem dX10_count_109 : decode cX10_count 109 = .ok (.ireturn, 1) := by decide +kernel
theorem dX10_count_110 : decode cX10_count 110 = .ok (.aload_n 0, 1) := by decide +kernel
theorem dX10_count_111 : decode cX10_count 111 = .ok (.getfield 297, 3) := by decide +kernel
theorem dX10_count_114 : decode cX10_count 114 = .ok (.ireturn, 1) := by decide +kernel
theorem dX10_count_115 : decode cX10_count 115 = .ok (.aload_n 0, 1) := by decide +kernel
theorem dX10_count_116 : decode cX10_count 116 = .ok (.getfield 363, 3) := by decide +kernel
theorem dX10_count_119 : decode cX10_count 119 = .ok (.ireturn, 1) := by decide +kernel
theorem dX10_count_120 : decode cX10_count 120 = .ok (.aload_n 0, 1) := by decide +kernel
theorem dX10_count_121 : decode cX10_count 121 = .ok (.aload_n 0, 1) := by decide +kernel
theorem dX10_count_122 : decode cX10_count 122 = .ok (.getfield 61, 3) := by decide +kernel
theorem dX10_count_125 : decode cX10_count 125 = .ok (.invokevirtual 447, 3) := by decide +kernel
theorem dX10_count_128 : decode cX10_count 128 = .ok (.ireturn, 1) := by decide +kernel
theorem dX10_count_129 : decode cX10_count 129 = .ok (.iconst 0, 1) := by decide +kernel
theorem dX10_count_130 : decode cX10_count 130 = .ok (.istore_n 2, 1) := by decide +kernel
theorem dX10_count_131 : decode cX10_count 131 = .ok (.iconst 0, 1) := by decide +kernel
theorem dX10_count_132 : decode cX10_count 132 = .ok (.istore_n 3, 1) := by decide +kernel
theorem dX10_count_133 : decode cX10_count 133 = .ok (.iload_n 3, 1) := by decide +kernel
theorem dX10_count_134 : decode cX10_count 134 = .ok (.aload_n 0, 1) := by decide +kernel
theorem dX10_count_135 : decode cX10_count 135 = .ok (.getfield 291, 3) := by decide +kernel
theorem dX10_count_138 : decode cX10_count 138 = .ok (.if_icmp .ge 20, 3) := by decide +kernel
theorem dX10_count_141 : decode cX10_count 141 = .ok (.iload_n 2, 1) := by decide +kernel
theorem dX10_count_142 : decode cX10_count 142 = .ok (.aload_n 0, 1) := by decide +kernel
theorem dX10_count_143 : decode cX10_count 143 = .ok (.getfield 61, 3) := by decide +kernel
theorem dX10_count_146 : decode cX10_count 146 = .ok (.iconst 2, 1) := by decide +kernel
theorem dX10_count_147 : decode cX10_count 147 = .ok (.iload_n 3, 1) := by decide +kernel
theorem dX10_count_148 : decode cX10_count 148 = .ok (.imul, 1) := by decide +kernel
theorem dX10_count_149 : decode cX10_count 149 = .ok (.iaload, 1) := by decide +kernel
theorem dX10_count_150 : decode cX10_count 150 = .ok (.iadd, 1) := by decide +kernel
theorem dX10_count_151 : decode cX10_count 151 = .ok (.istore_n 2, 1) := by decide +kernel
theorem dX10_count_152 : decode cX10_count 152 = .ok (.iinc 3 1, 3) := by decide +kernel
theorem dX10_count_155 : decode cX10_count 155 = .ok (.goto (-22), 3) := by decide +kernel
theorem dX10_count_158 : decode cX10_count 158 = .ok (.iload_n 2, 1) := by decide +kernel
theorem dX10_count_159 : decode cX10_count 159 = .ok (.ireturn, 1) := by decide +kernel
theorem dX10_count_160 : decode cX10_count 160 = .ok (.aload_n 0, 1) := by decide +kernel
theorem dX10_count_161 : decode cX10_count 161 = .ok (.getfield 61, 3) := by decide +kernel
theorem dX10_count_164 : decode cX10_count 164 = .ok (.bipush 110, 2) := by decide +kernel
theorem dX10_count_166 : decode cX10_count 166 = .ok (.iaload, 1) := by decide +kernel
theorem dX10_count_167 : decode cX10_count 167 = .ok (.ireturn, 1) := by decide +kernel
theorem dX10_count_168 : decode cX10_count 168 = .ok (.aload_n 0, 1) := by decide +kernel
theorem dX10_count_169 : decode cX10_count 169 = .ok (.getfield 300, 3) := by decide +kernel
theorem dX10_count_172 : decode cX10_count 172 = .ok (.ireturn, 1) := by decide +kernel
theorem dX10_count_173 : decode cX10_count 173 = .ok (.ldc_w 432, 3) := by decide +kernel
theorem dX10_count_176 : decode cX10_count 176 = .ok (.ireturn, 1) := by decide +kernel
