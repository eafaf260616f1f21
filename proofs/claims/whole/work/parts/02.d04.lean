theorem dX8_ant_2 : decode cX8_ant 2 = .ok (.iload_n 3, 1) := by decide +kernel
theorem dX8_ant_3 : decode cX8_ant 3 = .ok (.invokestatic 407, 3) := by decide +kernel
theorem dX8_ant_6 : decode cX8_ant 6 = .ok (.ifCond .eq 6, 3) := by decide +kernel
theorem dX8_ant_9 : decode cX8_ant 9 = .ok (.bipush (-2), 2) := by decide +kernel
theorem dX8_ant_11 : decode cX8_ant 11 = .ok (.ireturn, 1) := by decide +kernel
theorem dX8_ant_12 : decode cX8_ant 12 = .ok (.iconst 0, 1) := by decide +kernel
theorem dX8_ant_13 : decode cX8_ant 13 = .ok (.istore 4, 2) := by decide +kernel
theorem dX8_ant_15 : decode cX8_ant 15 = .ok (.iload_n 1, 1) := by decide +kernel
theorem dX8_ant_16 : decode cX8_ant 16 = .ok (.istore 5, 2) := by decide +kernel
theorem dX8_ant_18 : decode cX8_ant 18 = .ok (.iconst 1, 1) := by decide +kernel
theorem dX8_ant_19 : decode cX8_ant 19 = .ok (.istore 6, 2) := by decide +kernel
theorem dX8_ant_21 : decode cX8_ant 21 = .ok (.iload 6, 2) := by decide +kernel
theorem dX8_ant_23 : decode cX8_ant 23 = .ok (.sipush 1000, 3) := by decide +kernel
theorem dX8_ant_26 : decode cX8_ant 26 = .ok (.if_icmp .gt 39, 3) := by decide +kernel
theorem dX8_ant_29 : decode cX8_ant 29 = .ok (.iload 4, 2) := by decide +kernel
theorem dX8_ant_31 : decode cX8_ant 31 = .ok (.iload_n 2, 1) := by decide +kernel
theorem dX8_ant_32 : decode cX8_ant 32 = .ok (.ldc_w 411, 3) := by decide +kernel
theorem dX8_ant_35 : decode cX8_ant 35 = .ok (.imul, 1) := by decide +kernel
theorem dX8_ant_36 : decode cX8_ant 36 = .ok (.iload 5, 2) := by decide +kernel
theorem dX8_ant_38 : decode cX8_ant 38 = .ok (.idiv, 1) := by decide +kernel
theorem dX8_ant_39 : decode cX8_ant 39 = .ok (.iadd, 1) := by decide +kernel
theorem dX8_ant_40 : decode cX8_ant 40 = .ok (.istore 4, 2) := by decide +kernel
theorem dX8_ant_42 : decode cX8_ant 42 = .ok (.iload 4, 2) := by decide +kernel
theorem dX8_ant_44 : decode cX8_ant 44 = .ok (.ldc_w 411, 3) := by decide +kernel
theorem dX8_ant_47 : decode cX8_ant 47 = .ok (.if_icmp .lt 6, 3) := by decide +kernel
theorem dX8_ant_50 : decode cX8_ant 50 = .ok (.iload 6, 2) := by decide +kernel
theorem dX8_ant_52 : decode cX8_ant 52 = .ok (.ireturn, 1) := by decide +kernel
theorem dX8_ant_53 : decode cX8_ant 53 = .ok (.iload 5, 2) := by decide +kernel
theorem dX8_ant_55 : decode cX8_ant 55 = .ok (.iload_n 3, 1) := by decide +kernel
theorem dX8_ant_56 : decode cX8_ant 56 = .ok (.iadd, 1) := by decide +kernel
theorem dX8_ant_57 : decode cX8_ant 57 = .ok (.istore 5, 2) := by decide +kernel
theorem dX8_ant_59 : decode cX8_ant 59 = .ok (.iinc 6 1, 3) := by decide +kernel
theorem dX8_ant_62 : decode cX8_ant 62 = .ok (.goto (-41), 3) := by decide +kernel
theorem dX8_ant_65 : decode cX8_ant 65 = .ok (.iconst (-1), 1) := by decide +kernel
theorem dX8_ant_66 : decode cX8_ant 66 = .ok (.ireturn, 1) := by decide +kernel
theorem dX8_isNoStream_0 : decode cX8_isNoStream 0 = .ok (.iload_n 0, 1) := by decide +kernel
theorem dX8_isNoStream_1 : decode cX8_isNoStream 1 = .ok (.i2l, 1) := by decide +kernel
theorem dX8_isNoStream_2 : decode cX8_isNoStream 2 = .ok (.lconst 1, 1) := by decide +kernel
theorem dX8_isNoStream_3 : decode cX8_isNoStream 3 = .ok (.ldc2_w 349, 3) := by decide +kernel
theorem dX8_isNoStream_6 : decode cX8_isNoStream 6 = .ok (.invokestatic 161, 3) := by decide +kernel
theorem dX8_isNoStream_9 : decode cX8_isNoStream 9 = .ok (.ifCond .ne 27, 3) := by decide +kernel
theorem dX8_isNoStream_12 : decode cX8_isNoStream 12 = .ok (.iload_n 1, 1) := by decide +kernel
theorem dX8_isNoStream_13 : decode cX8_isNoStream 13 = .ok (.i2l, 1) := by decide +kernel
theorem dX8_isNoStream_14 : decode cX8_isNoStream 14 = .ok (.lconst 1, 1) := by decide +kernel
theorem dX8_isNoStream_15 : decode cX8_isNoStream 15 = .ok (.ldc2_w 412, 3) := by decide +kernel
theorem dX8_isNoStream_18 : decode cX8_isNoStream 18 = .ok (.invokestatic 161, 3) := by decide +kernel
theorem dX8_isNoStream_21 : decode cX8_isNoStream 21 = .ok (.ifCond .ne 15, 3) := by decide +kernel
theorem dX8_isNoStream_24 : decode cX8_isNoStream 24 = .ok (.iload_n 2, 1) := by decide +kernel
theorem dX8_isNoStream_25 : decode cX8_isNoStream 25 = .ok (.i2l, 1) := by decide +kernel
theorem dX8_isNoStream_26 : decode cX8_isNoStream 26 = .ok (.lconst 0, 1) := by decide +kernel
theorem dX8_isNoStream_27 : decode cX8_isNoStream 27 = .ok (.ldc2_w 412, 3) := by decide +kernel
theorem dX8_isNoStream_30 : decode cX8_isNoStream 30 = .ok (.invokestatic 161, 3) := by decide +kernel
theorem dX8_isNoStream_33 : decode cX8_isNoStream 33 = .ok (.ifCond .eq 7, 3) := by decide +kernel
theorem dX8_isNoStream_36 : decode cX8_isNoStream 36 = .ok (.iconst 1, 1) := by decide +kernel
theorem dX8_isNoStream_37 : decode cX8_isNoStream 37 = .ok (.goto 4, 3) := by decide +kernel
theorem dX8_isNoStream_40 : decode cX8_isNoStream 40 = .ok (.iconst 0, 1) := by decide +kernel
theorem dX8_isNoStream_41 : decode cX8_isNoStream 41 = .ok (.ireturn, 1) := by decide +kernel
theorem dX8_set_0 : decode cX8_set 0 = .ok (.aload_n 0, 1) := by decide +kernel
theorem dX8_set_1 : decode cX8_set 1 = .ok (.getfield 22, 3) := by decide +kernel
theorem dX8_set_4 : decode cX8_set 4 = .ok (.iload_n 1, 1) := by decide +kernel
theorem dX8_set_5 : decode cX8_set 5 = .ok (.invokevirtual 113, 3) := by decide +kernel
theorem dX8_set_8 : decode cX8_set 8 = .ok (.ifCond .eq 17, 3) := by decide +kernel
theorem dX8_set_11 : decode cX8_set 11 = .ok (.iload_n 2, 1) := by decide +kernel
theorem dX8_set_12 : decode cX8_set 12 = .ok (.i2l, 1) := by decide +kernel
theorem dX8_set_13 : decode cX8_set 13 = .ok (.ldc2_w 414, 3) := by decide +kernel
theorem dX8_set_16 : decode cX8_set 16 = .ok (.ldc2_w 212, 3) := by decide +kernel
theorem dX8_set_19 : decode cX8_set 19 = .ok (.invokestatic 161, 3) := by decide +kernel
theorem dX8_set_22 : decode cX8_set 22 = .ok (.ifCond .eq 7, 3) := by decide +kernel
theorem dX8_set_25 : decode cX8_set 25 = .ok (.sipush (-1000), 3) := by decide +kernel
theorem dX8_set_28 : decode cX8_set 28 = .ok (.ireturn, 1) := by decide +kernel
theorem dX8_set_29 : decode cX8_set 29 = .ok (.aload_n 0, 1) := by decide +kernel
theorem dX8_set_30 : decode cX8_set 30 = .ok (.getfield 22, 3) := by decide +kernel
theorem dX8_set_33 : decode cX8_set 33 = .ok (.getfield 416, 3) := by decide +kernel
theorem dX8_set_36 : decode cX8_set 36 = .ok (.bipush 60, 2) := by decide +kernel
theorem dX8_set_38 : decode cX8_set 38 = .ok (.if_icmp .lt 7, 3) := by decide +kernel
theorem dX8_set_41 : decode cX8_set 41 = .ok (.sipush (-1005), 3) := by decide +kernel
theorem dX8_set_44 : decode cX8_set 44 = .ok (.ireturn, 1) := by decide +kernel
theorem dX8_set_45 : decode cX8_set 45 = .ok (.aload_n 0, 1) := by decide +kernel
theorem dX8_set_46 : decode cX8_set 46 = .ok (.getfield 22, 3) := by decide +kernel
theorem dX8_set_49 : decode cX8_set 49 = .ok (.getfield 124, 3) := by decide +kernel
theorem dX8_set_52 : decode cX8_set 52 = .ok (.iload_n 1, 1) := by decide +kernel
theorem dX8_set_53 : decode cX8_set 53 = .ok (.iaload, 1) := by decide +kernel
theorem dX8_set_54 : decode cX8_set 54 = .ok (.istore_n 3, 1) := by decide +kernel
theorem dX8_set_55 : decode cX8_set 55 = .ok (.aload_n 0, 1) := by decide +kernel
theorem dX8_set_56 : decode cX8_set 56 = .ok (.getfield 22, 3) := by decide +kernel
theorem dX8_set_59 : decode cX8_set 59 = .ok (.iload_n 1, 1) := by decide +kernel
theorem dX8_set_60 : decode cX8_set 60 = .ok (.iload_n 3, 1) := by decide +kernel
theorem dX8_set_61 : decode cX8_set 61 = .ok (.invokevirtual 419, 3) := by decide +kernel
theorem dX8_set_64 : decode cX8_set 64 = .ok (.aload_n 0, 1) := by decide +kernel
theorem dX8_set_65 : decode cX8_set 65 = .ok (.getfield 22, 3) := by decide +kernel
theorem dX8_set_68 : decode cX8_set 68 = .ok (.getfield 124, 3) := by decide +kernel
theorem dX8_set_71 : decode cX8_set 71 = .ok (.iload_n 1, 1) := by decide +kernel
theorem dX8_set_72 : decode cX8_set 72 = .ok (.iload_n 2, 1) := by decide +kernel
theorem dX8_set_73 : decode cX8_set 73 = .ok (.iastore, 1) := by decide +kernel
theorem dX8_set_74 : decode cX8_set 74 = .ok (.iload_n 3, 1) := by decide +kernel
theorem dX8_set_75 : decode cX8_set 75 = .ok (.ireturn, 1) := by decide +kernel
theorem dX8_reverse_0 : decode cX8_reverse 0 = .ok (.aload_n 0, 1) := by decide +kernel
theorem dX8_reverse_1 : decode cX8_reverse 1 = .ok (.getfield 22, 3) := by decide +kernel
theorem dX8_reverse_4 : decode cX8_reverse 4 = .ok (.invokevirtual 172, 3) := by decide +kernel
theorem dX8_reverse_7 : decode cX8_reverse 7 = .ok (.ifCond .ne 6, 3) := by decide +kernel
theorem dX8_reverse_10 : decode cX8_reverse 10 = .ok (.bipush (-2), 2) := by decide +kernel
theorem dX8_reverse_12 : decode cX8_reverse 12 = .ok (.ireturn, 1) := by decide +kernel
theorem dX8_reverse_13 : decode cX8_reverse 13 = .ok (.aload_n 0, 1) := by decide +kernel
theorem dX8_reverse_14 : decode cX8_reverse 14 = .ok (.getfield 22, 3) := by decide +kernel
theorem dX8_reverse_17 : decode cX8_reverse 17 = .ok (.getfield 416, 3) := by decide +kernel
theorem dX8_reverse_20 : decode cX8_reverse 20 = .ok (.bipush 60, 2) := by decide +kernel
theorem dX8_reverse_22 : decode cX8_reverse 22 = .ok (.if_icmp .lt 6, 3) := by decide +kernel
theorem dX8_reverse_25 : decode cX8_reverse 25 = .ok (.bipush (-5), 2) := by decide +kernel
theorem dX8_reverse_27 : decode cX8_reverse 27 = .ok (.ireturn, 1) := by decide +kernel
theorem dX8_reverse_28 : decode cX8_reverse 28 = .ok (.aload_n 0, 1) := by decide +kernel
theorem dX8_reverse_29 : decode cX8_reverse 29 = .ok (.getfield 22, 3) := by decide +kernel
theorem dX8_reverse_32 : decode cX8_reverse 32 = .ok (.iconst (-1), 1) := by decide +kernel
theorem dX8_reverse_33 : decode cX8_reverse 33 = .ok (.iconst 0, 1) := by decide +kernel
theorem dX8_reverse_34 : decode cX8_reverse 34 = .ok (.invokevirtual 419, 3) := by decide +kernel
theorem dX8_reverse_37 : decode cX8_reverse 37 = .ok (.aload_n 0, 1) := by decide +kernel
theorem dX8_reverse_38 : decode cX8_reverse 38 = .ok (.getfield 22, 3) := by decide +kernel
theorem dX8_reverse_41 : decode cX8_reverse 41 = .ok (.invokevirtual 423, 3) := by decide +kernel
theorem dX8_reverse_44 : decode cX8_reverse 44 = .ok (.iconst 0, 1) := by decide +kernel
theorem dX8_reverse_45 : decode cX8_reverse 45 = .ok (.istore_n 1, 1) := by decide +kernel
theorem dX8_reverse_46 : decode cX8_reverse 46 = .ok (.iconst 0, 1) := by decide +kernel
theorem dX8_reverse_47 : decode cX8_reverse 47 = .ok (.istore_n 2, 1) := by decide +kernel
theorem dX8_reverse_48 : decode cX8_reverse 48 = .ok (.iload_n 2, 1) := by decide +kernel
theorem dX8_reverse_49 : decode cX8_reverse 49 = .ok (.aload_n 0, 1) := by decide +kernel
theorem dX8_reverse_50 : decode cX8_reverse 50 = .ok (.getfield 22, 3) := by decide +kernel
theorem dX8_reverse_53 : decode cX8_reverse 53 = .ok (.getfield 205, 3) := by decide +kernel
theorem dX8_reverse_56 : decode cX8_reverse 56 = .ok (.if_icmp .ge 29, 3) := by decide +kernel
theorem dX8_reverse_59 : decode cX8_reverse 59 = .ok (.iload_n 1, 1) := by decide +kernel
theorem dX8_reverse_60 : decode cX8_reverse 60 = .ok (.aload_n 0, 1) := by decide +kernel
theorem dX8_reverse_61 : decode cX8_reverse 61 = .ok (.getfield 22, 3) := by decide +kernel
theorem dX8_reverse_64 : decode cX8_reverse 64 = .ok (.getfield 124, 3) := by decide +kernel
theorem dX8_reverse_67 : decode cX8_reverse 67 = .ok (.iload_n 2, 1) := by decide +kernel
theorem dX8_reverse_68 : decode cX8_reverse 68 = .ok (.iaload, 1) := by decide +kernel
theorem dX8_reverse_69 : decode cX8_reverse 69 = .ok (.ifCond .ge 7, 3) := by decide +kernel
theorem dX8_reverse_72 : decode cX8_reverse 72 = .ok (.iconst 1, 1) := by decide +kernel
theorem dX8_reverse_73 : decode cX8_reverse 73 = .ok (.goto 4, 3) := by decide +kernel
theorem dX8_reverse_76 : decode cX8_reverse 76 = .ok (.iconst 0, 1) := by decide +kernel
theorem dX8_reverse_77 : decode cX8_reverse 77 = .ok (.iadd, 1) := by decide +kernel
theorem dX8_reverse_78 : decode cX8_reverse 78 = .ok (.istore_n 1, 1) := by decide +kernel
theorem dX8_reverse_79 : decode cX8_reverse 79 = .ok (.iinc 2 1, 3) := by decide +kernel
theorem dX8_reverse_82 : decode cX8_reverse 82 = .ok (.goto (-34), 3) := by decide +kernel
theorem dX8_reverse_85 : decode cX8_reverse 85 = .ok (.iload_n 1, 1) := by decide +kernel
theorem dX8_reverse_86 : decode cX8_reverse 86 = .ok (.ireturn, 1) := by decide +kernel
theorem dX8_undo_0 : decode cX8_undo 0 = .ok (.aload_n 0, 1) := by decide +kernel
theorem dX8_undo_1 : decode cX8_undo 1 = .ok (.getfield 22, 3) := by decide +kernel
theorem dX8_undo_4 : decode cX8_undo 4 = .ok (.invokevirtual 172, 3) := by decide +kernel
theorem dX8_undo_7 : decode cX8_undo 7 = .ok (.ifCond .ne 6, 3) := by decide +kernel
theorem dX8_undo_10 : decode cX8_undo 10 = .ok (.bipush (-2), 2) := by decide +kernel
theorem dX8_undo_12 : decode cX8_undo 12 = .ok (.ireturn, 1) := by decide +kernel
theorem dX8_undo_13 : decode cX8_undo 13 = .ok (.aload_n 0, 1) := by decide +kernel
theorem dX8_undo_14 : decode cX8_undo 14 = .ok (.getfield 22, 3) := by decide +kernel
theorem dX8_undo_17 : decode cX8_undo 17 = .ok (.getfield 416, 3) := by decide +kernel
theorem dX8_undo_20 : decode cX8_undo 20 = .ok (.ifCond .ne 6, 3) := by decide +kernel
theorem dX8_undo_23 : decode cX8_undo 23 = .ok (.bipush (-5), 2) := by decide +kernel
theorem dX8_undo_25 : decode cX8_undo 25 = .ok (.ireturn, 1) := by decide +kernel
theorem dX8_undo_26 : decode cX8_undo 26 = .ok (.aload_n 0, 1) := by decide +kernel
theorem dX8_undo_27 : decode cX8_undo 27 = .ok (.getfield 22, 3) := by decide +kernel
theorem dX8_undo_30 : decode cX8_undo 30 = .ok (.invokevirtual 426, 3) := by decide +kernel
theorem dX8_undo_33 : decode cX8_undo 33 = .ok (.aload_n 0, 1) := by decide +kernel
theorem dX8_undo_34 : decode cX8_undo 34 = .ok (.getfield 22, 3) := by decide +kernel
theorem dX8_undo_37 : decode cX8_undo 37 = .ok (.getfield 416, 3) := by decide +kernel
theorem dX8_undo_40 : decode cX8_undo 40 = .ok (.ireturn, 1) := by decide +kernel
theorem dX8_anew_0 : decode cX8_anew 0 = .ok (.aload_n 0, 1) := by decide +kernel
theorem dX8_anew_1 : decode cX8_anew 1 = .ok (.getfield 22, 3) := by decide +kernel
theorem dX8_anew_4 : decode cX8_anew 4 = .ok (.invokevirtual 172, 3) := by decide +kernel
theorem dX8_anew_7 : decode cX8_anew 7 = .ok (.ifCond .ne 6, 3) := by decide +kernel
theorem dX8_anew_10 : decode cX8_anew 10 = .ok (.bipush (-2), 2) := by decide +kernel
theorem dX8_anew_12 : decode cX8_anew 12 = .ok (.ireturn, 1) := by decide +kernel
theorem dX8_anew_13 : decode cX8_anew 13 = .ok (.aload_n 0, 1) := by decide +kernel
theorem dX8_anew_14 : decode cX8_anew 14 = .ok (.getfield 22, 3) := by decide +kernel
theorem dX8_anew_17 : decode cX8_anew 17 = .ok (.getfield 416, 3) := by decide +kernel
theorem dX8_anew_20 : decode cX8_anew 20 = .ok (.istore_n 1, 1) := by decide +kernel
theorem dX8_anew_21 : decode cX8_anew 21 = .ok (.iconst 0, 1) := by decide +kernel
theorem dX8_anew_22 : decode cX8_anew 22 = .ok (.istore_n 2, 1) := by decide +kernel
theorem dX8_anew_23 : decode cX8_anew 23 = .ok (.iload_n 2, 1) := by decide +kernel
theorem dX8_anew_24 : decode cX8_anew 24 = .ok (.iload_n 1, 1) := by decide +kernel
theorem dX8_anew_25 : decode cX8_anew 25 = .ok (.if_icmp .ge 16, 3) := by decide +kernel
theorem dX8_anew_28 : decode cX8_anew 28 = .ok (.aload_n 0, 1) := by decide +kernel
theorem dX8_anew_29 : decode cX8_anew 29 = .ok (.getfield 22, 3) := by decide +kernel
theorem dX8_anew_32 : decode cX8_anew 32 = .ok (.invokevirtual 426, 3) := by decide +kernel
theorem dX8_anew_35 : decode cX8_anew 35 = .ok (.iinc 2 1, 3) := by decide +kernel
theorem dX8_anew_38 : decode cX8_anew 38 = .ok (.goto (-15), 3) := by decide +kernel
theorem dX8_anew_41 : decode cX8_anew 41 = .ok (.iload_n 1, 1) := by decide +kernel
theorem dX8_anew_42 : decode cX8_anew 42 = .ok (.ireturn, 1) := by decide +kernel
theorem dX8_drawn_0 : decode cX8_drawn 0 = .ok (.iload_n 1, 1) := by decide +kernel
theorem dX8_drawn_1 : decode cX8_drawn 1 = .ok (.invokestatic 429, 3) := by decide +kernel
theorem dX8_drawn_4 : decode cX8_drawn 4 = .ok (.ifCond .ne 13, 3) := by decide +kernel
theorem dX8_drawn_7 : decode cX8_drawn 7 = .ok (.aload_n 0, 1) := by decide +kernel
theorem dX8_drawn_8 : decode cX8_drawn 8 = .ok (.getfield 22, 3) := by decide +kernel
theorem dX8_drawn_11 : decode cX8_drawn 11 = .ok (.invokevirtual 172, 3) := by decide +kernel
theorem dX8_drawn_14 : decode cX8_drawn 14 = .ok (.ifCond .ne 8, 3) := by decide +kernel
theorem dX8_drawn_17 : decode cX8_drawn 17 = .ok (.bipush (-2), 2) := by decide +kernel
theorem dX8_drawn_19 : decode cX8_drawn 19 = .ok (.goto 9, 3) := by decide +kernel
theorem dX8_drawn_22 : decode cX8_drawn 22 = .ok (.aload_n 0, 1) := by decide +kernel
theorem dX8_drawn_23 : decode cX8_drawn 23 = .ok (.iload_n 1, 1) := by decide +kernel
theorem dX8_drawn_24 : decode cX8_drawn 24 = .ok (.i2l, 1) := by decide +kernel
theorem dX8_drawn_25 : decode cX8_drawn 25 = .ok (.invokevirtual 432, 3) := by decide +kernel
theorem dX8_drawn_28 : decode cX8_drawn 28 = .ok (.ireturn, 1) := by decide +kernel
theorem dX8_luck_0 : decode cX8_luck 0 = .ok (.iload_n 1, 1) := by decide +kernel
theorem dX8_luck_1 : decode cX8_luck 1 = .ok (.invokestatic 429, 3) := by decide +kernel
theorem dX8_luck_4 : decode cX8_luck 4 = .ok (.ifCond .ne 39, 3) := by decide +kernel
theorem dX8_luck_7 : decode cX8_luck 7 = .ok (.iload_n 2, 1) := by decide +kernel
theorem dX8_luck_8 : decode cX8_luck 8 = .ok (.i2l, 1) := by decide +kernel
theorem dX8_luck_9 : decode cX8_luck 9 = .ok (.lconst 1, 1) := by decide +kernel
theorem dX8_luck_10 : decode cX8_luck 10 = .ok (.ldc2_w 436, 3) := by decide +kernel
theorem dX8_luck_13 : decode cX8_luck 13 = .ok (.invokestatic 161, 3) := by decide +kernel
theorem dX8_luck_16 : decode cX8_luck 16 = .ok (.ifCond .ne 27, 3) := by decide +kernel
theorem dX8_luck_19 : decode cX8_luck 19 = .ok (.aload_n 0, 1) := by decide +kernel
theorem dX8_luck_20 : decode cX8_luck 20 = .ok (.getfield 22, 3) := by decide +kernel
theorem dX8_luck_23 : decode cX8_luck 23 = .ok (.iload_n 3, 1) := by decide +kernel
theorem dX8_luck_24 : decode cX8_luck 24 = .ok (.invokevirtual 127, 3) := by decide +kernel
theorem dX8_luck_27 : decode cX8_luck 27 = .ok (.ifCond .eq 16, 3) := by decide +kernel
theorem dX8_luck_30 : decode cX8_luck 30 = .ok (.iload 4, 2) := by decide +kernel
theorem dX8_luck_32 : decode cX8_luck 32 = .ok (.i2l, 1) := by decide +kernel
theorem dX8_luck_33 : decode cX8_luck 33 = .ok (.lconst 0, 1) := by decide +kernel
theorem dX8_luck_34 : decode cX8_luck 34 = .ok (.ldc2_w 218, 3) := by decide +kernel
theorem dX8_luck_37 : decode cX8_luck 37 = .ok (.invokestatic 161, 3) := by decide +kernel
theorem dX8_luck_40 : decode cX8_luck 40 = .ok (.ifCond .eq 6, 3) := by decide +kernel
theorem dX8_luck_43 : decode cX8_luck 43 = .ok (.bipush (-2), 2) := by decide +kernel
theorem dX8_luck_45 : decode cX8_luck 45 = .ok (.ireturn, 1) := by decide +kernel
theorem dX8_luck_46 : decode cX8_luck 46 = .ok (.iconst 0, 1) := by decide +kernel
theorem dX8_luck_47 : decode cX8_luck 47 = .ok (.istore 5, 2) := by decide +kernel
theorem dX8_luck_49 : decode cX8_luck 49 = .ok (.iconst 0, 1) := by decide +kernel
theorem dX8_luck_50 : decode cX8_luck 50 = .ok (.istore 6, 2) := by decide +kernel
theorem dX8_luck_52 : decode cX8_luck 52 = .ok (.iload 6, 2) := by decide +kernel
theorem dX8_luck_54 : decode cX8_luck 54 = .ok (.iload_n 2, 1) := by decide +kernel
theorem dX8_luck_55 : decode cX8_luck 55 = .ok (.if_icmp .ge 47, 3) := by decide +kernel
theorem dX8_luck_58 : decode cX8_luck 58 = .ok (.aload_n 0, 1) := by decide +kernel
theorem dX8_luck_59 : decode cX8_luck 59 = .ok (.getfield 50, 3) := by decide +kernel
theorem dX8_luck_62 : decode cX8_luck 62 = .ok (.aload_n 0, 1) := by decide +kernel
theorem dX8_luck_63 : decode cX8_luck 63 = .ok (.getfield 22, 3) := by decide +kernel
theorem dX8_luck_66 : decode cX8_luck 66 = .ok (.aload_n 0, 1) := by decide +kernel
theorem dX8_luck_67 : decode cX8_luck 67 = .ok (.getfield 22, 3) := by decide +kernel
theorem dX8_luck_70 : decode cX8_luck 70 = .ok (.getfield 130, 3) := by decide +kernel
theorem dX8_luck_73 : decode cX8_luck 73 = .ok (.iload_n 3, 1) := by decide +kernel
theorem dX8_luck_74 : decode cX8_luck 74 = .ok (.iaload, 1) := by decide +kernel
theorem dX8_luck_75 : decode cX8_luck 75 = .ok (.aload_n 0, 1) := by decide +kernel
theorem dX8_luck_76 : decode cX8_luck 76 = .ok (.iload_n 1, 1) := by decide +kernel
theorem dX8_luck_77 : decode cX8_luck 77 = .ok (.i2l, 1) := by decide +kernel
theorem dX8_luck_78 : decode cX8_luck 78 = .ok (.iload 6, 2) := by decide +kernel
theorem dX8_luck_80 : decode cX8_luck 80 = .ok (.i2l, 1) := by decide +kernel
theorem dX8_luck_81 : decode cX8_luck 81 = .ok (.ladd, 1) := by decide +kernel
theorem dX8_luck_82 : decode cX8_luck 82 = .ok (.invokevirtual 432, 3) := by decide +kernel
theorem dX8_luck_85 : decode cX8_luck 85 = .ok (.iload 4, 2) := by decide +kernel
theorem dX8_luck_87 : decode cX8_luck 87 = .ok (.invokevirtual 220, 3) := by decide +kernel
theorem dX8_luck_90 : decode cX8_luck 90 = .ok (.ifCond .eq 6, 3) := by decide +kernel
theorem dX8_luck_93 : decode cX8_luck 93 = .ok (.iinc 5 1, 3) := by decide +kernel
theorem dX8_luck_96 : decode cX8_luck 96 = .ok (.iinc 6 1, 3) := by decide +kernel
theorem dX8_luck_99 : decode cX8_luck 99 = .ok (.goto (-47), 3) := by decide +kernel
theorem dX8_luck_102 : decode cX8_luck 102 = .ok (.iload 5, 2) := by decide +kernel
theorem dX8_luck_104 : decode cX8_luck 104 = .ok (.ireturn, 1) := by decide +kernel
theorem dX8_isNoSeed_0 : decode cX8_isNoSeed 0 = .ok (.iload_n 0, 1) := by decide +kernel
theorem dX8_isNoSeed_1 : decode cX8_isNoSeed 1 = .ok (.i2l, 1) := by decide +kernel
theorem dX8_isNoSeed_2 : decode cX8_isNoSeed 2 = .ok (.lconst 0, 1) := by decide +kernel
theorem dX8_isNoSeed_3 : decode cX8_isNoSeed 3 = .ok (.ldc2_w 438, 3) := by decide +kernel
theorem dX8_isNoSeed_6 : decode cX8_isNoSeed 6 = .ok (.invokestatic 161, 3) := by decide +kernel
theorem dX8_isNoSeed_9 : decode cX8_isNoSeed 9 = .ok (.ireturn, 1) := by decide +kernel
theorem dX8_stillFrom_0 : decode cX8_stillFrom 0 = .ok (.lload_n 1, 1) := by decide +kernel
theorem dX8_stillFrom_1 : decode cX8_stillFrom 1 = .ok (.lstore_n 3, 1) := by decide +kernel
theorem dX8_stillFrom_2 : decode cX8_stillFrom 2 = .ok (.iconst 0, 1) := by decide +kernel
theorem dX8_stillFrom_3 : decode cX8_stillFrom 3 = .ok (.istore 5, 2) := by decide +kernel
theorem dX8_stillFrom_5 : decode cX8_stillFrom 5 = .ok (.iconst 0, 1) := by decide +kernel
theorem dX8_stillFrom_6 : decode cX8_stillFrom 6 = .ok (.istore 6, 2) := by decide +kernel
theorem dX8_stillFrom_8 : decode cX8_stillFrom 8 = .ok (.iload 6, 2) := by decide +kernel
theorem dX8_stillFrom_10 : decode cX8_stillFrom 10 = .ok (.aload_n 0, 1) := by decide +kernel
theorem dX8_stillFrom_11 : decode cX8_stillFrom 11 = .ok (.getfield 22, 3) := by decide +kernel
theorem dX8_stillFrom_14 : decode cX8_stillFrom 14 = .ok (.getfield 205, 3) := by decide +kernel
theorem dX8_stillFrom_17 : decode cX8_stillFrom 17 = .ok (.if_icmp .ge 53, 3) := by decide +kernel
theorem dX8_stillFrom_20 : decode cX8_stillFrom 20 = .ok (.ldc2_w 440, 3) := by decide +kernel
theorem dX8_stillFrom_23 : decode cX8_stillFrom 23 = .ok (.lload_n 3, 1) := by decide +kernel
theorem dX8_stillFrom_24 : decode cX8_stillFrom 24 = .ok (.lmul, 1) := by decide +kernel
theorem dX8_stillFrom_25 : decode cX8_stillFrom 25 = .ok (.ldc2_w 442, 3) := by decide +kernel
theorem dX8_stillFrom_28 : decode cX8_stillFrom 28 = .ok (.ladd, 1) := by decide +kernel
theorem dX8_stillFrom_29 : decode cX8_stillFrom 29 = .ok (.ldc2_w 444, 3) := by decide +kernel
theorem dX8_stillFrom_32 : decode cX8_stillFrom 32 = .ok (.lrem, 1) := by decide +kernel
theorem dX8_stillFrom_33 : decode cX8_stillFrom 33 = .ok (.lstore_n 3, 1) := by decide +kernel
theorem dX8_stillFrom_34 : decode cX8_stillFrom 34 = .ok (.lload_n 3, 1) := by decide +kernel
theorem dX8_stillFrom_35 : decode cX8_stillFrom 35 = .ok (.ldc2_w 446, 3) := by decide +kernel
theorem dX8_stillFrom_38 : decode cX8_stillFrom 38 = .ok (.ldiv, 1) := by decide +kernel
theorem dX8_stillFrom_39 : decode cX8_stillFrom 39 = .ok (.ldc2_w 375, 3) := by decide +kernel
theorem dX8_stillFrom_42 : decode cX8_stillFrom 42 = .ok (.lrem, 1) := by decide +kernel
theorem dX8_stillFrom_43 : decode cX8_stillFrom 43 = .ok (.aload_n 0, 1) := by decide +kernel
theorem dX8_stillFrom_44 : decode cX8_stillFrom 44 = .ok (.getfield 22, 3) := by decide +kernel
theorem dX8_stillFrom_47 : decode cX8_stillFrom 47 = .ok (.getfield 448, 3) := by decide +kernel
theorem dX8_stillFrom_50 : decode cX8_stillFrom 50 = .ok (.i2l, 1) := by decide +kernel
theorem dX8_stillFrom_51 : decode cX8_stillFrom 51 = .ok (.lcmp, 1) := by decide +kernel
theorem dX8_stillFrom_52 : decode cX8_stillFrom 52 = .ok (.ifCond .ge 12, 3) := by decide +kernel
theorem dX8_stillFrom_55 : decode cX8_stillFrom 55 = .ok (.iload 5, 2) := by decide +kernel
theorem dX8_stillFrom_57 : decode cX8_stillFrom 57 = .ok (.iconst 1, 1) := by decide +kernel
theorem dX8_stillFrom_58 : decode cX8_stillFrom 58 = .ok (.iload 6, 2) := by decide +kernel
theorem dX8_stillFrom_60 : decode cX8_stillFrom 60 = .ok (.ishl, 1) := by decide +kernel
theorem dX8_stillFrom_61 : decode cX8_stillFrom 61 = .ok (.ior, 1) := by decide +kernel
theorem dX8_stillFrom_62 : decode cX8_stillFrom 62 = .ok (.istore 5, 2) := by decide +kernel
theorem dX8_stillFrom_64 : decode cX8_stillFrom 64 = .ok (.iinc 6 1, 3) := by decide +kernel
theorem dX8_stillFrom_67 : decode cX8_stillFrom 67 = .ok (.goto (-59), 3) := by decide +kernel
theorem dX8_stillFrom_70 : decode cX8_stillFrom 70 = .ok (.iload 5, 2) := by decide +kernel
theorem dX8_stillFrom_72 : decode cX8_stillFrom 72 = .ok (.ireturn, 1) := by decide +kernel
theorem dX8_grow_0 : decode cX8_grow 0 = .ok (.aload_n 0, 1) := by decide +kernel
theorem dX8_grow_1 : decode cX8_grow 1 = .ok (.getfield 22, 3) := by decide +kernel
theorem dX8_grow_4 : decode cX8_grow 4 = .ok (.iload_n 1, 1) := by decide +kernel
theorem dX8_grow_5 : decode cX8_grow 5 = .ok (.invokevirtual 127, 3) := by decide +kernel
theorem dX8_grow_8 : decode cX8_grow 8 = .ok (.ifCond .eq 15, 3) := by decide +kernel
theorem dX8_grow_11 : decode cX8_grow 11 = .ok (.iload_n 2, 1) := by decide +kernel
theorem dX8_grow_12 : decode cX8_grow 12 = .ok (.i2l, 1) := by decide +kernel
theorem dX8_grow_13 : decode cX8_grow 13 = .ok (.lconst 0, 1) := by decide +kernel
theorem dX8_grow_14 : decode cX8_grow 14 = .ok (.ldc2_w 212, 3) := by decide +kernel
theorem dX8_grow_17 : decode cX8_grow 17 = .ok (.invokestatic 161, 3) := by decide +kernel
theorem dX8_grow_20 : decode cX8_grow 20 = .ok (.ifCond .eq 6, 3) := by decide +kernel
theorem dX8_grow_23 : decode cX8_grow 23 = .ok (.bipush (-2), 2) := by decide +kernel
theorem dX8_grow_25 : decode cX8_grow 25 = .ok (.ireturn, 1) := by decide +kernel
theorem dX8_grow_26 : decode cX8_grow 26 = .ok (.aload_n 0, 1) := by decide +kernel
theorem dX8_grow_27 : decode cX8_grow 27 = .ok (.getfield 22, 3) := by decide +kernel
theorem dX8_grow_30 : decode cX8_grow 30 = .ok (.getfield 416, 3) := by decide +kernel
theorem dX8_grow_33 : decode cX8_grow 33 = .ok (.ifCond .le 6, 3) := by decide +kernel
theorem dX8_grow_36 : decode cX8_grow 36 = .ok (.bipush (-5), 2) := by decide +kernel
theorem dX8_grow_38 : decode cX8_grow 38 = .ok (.ireturn, 1) := by decide +kernel
theorem dX8_grow_39 : decode cX8_grow 39 = .ok (.aload_n 0, 1) := by decide +kernel
theorem dX8_grow_40 : decode cX8_grow 40 = .ok (.getfield 22, 3) := by decide +kernel
theorem dX8_grow_43 : decode cX8_grow 43 = .ok (.getfield 130, 3) := by decide +kernel
theorem dX8_grow_46 : decode cX8_grow 46 = .ok (.iload_n 1, 1) := by decide +kernel
theorem dX8_grow_47 : decode cX8_grow 47 = .ok (.iaload, 1) := by decide +kernel
theorem dX8_grow_48 : decode cX8_grow 48 = .ok (.istore_n 3, 1) := by decide +kernel
theorem dX8_grow_49 : decode cX8_grow 49 = .ok (.aload_n 0, 1) := by decide +kernel
theorem dX8_grow_50 : decode cX8_grow 50 = .ok (.getfield 22, 3) := by decide +kernel
theorem dX8_grow_53 : decode cX8_grow 53 = .ok (.getfield 130, 3) := by decide +kernel
theorem dX8_grow_56 : decode cX8_grow 56 = .ok (.iload_n 1, 1) := by decide +kernel
theorem dX8_grow_57 : decode cX8_grow 57 = .ok (.iload_n 2, 1) := by decide +kernel
theorem dX8_grow_58 : decode cX8_grow 58 = .ok (.iastore, 1) := by decide +kernel
theorem dX8_grow_59 : decode cX8_grow 59 = .ok (.iload_n 3, 1) := by decide +kernel
theorem dX8_grow_60 : decode cX8_grow 60 = .ok (.ireturn, 1) := by decide +kernel
theorem dX8_count_0 : decode cX8_count 0 = .ok (.iload_n 1, 1) := by decide +kernel
theorem dX8_count_1 : decode cX8_count 1 = .ok (.tableswitch 137 0 9 #[55, 63, 71, 79, 87, 95, 111, 119, 127, 132], 55) := by decide +kernel
theorem dX8_count_56 : decode cX8_count 56 = .ok (.aload_n 0, 1) := by decide +kernel
theorem dX8_count_57 : decode cX8_count 57 = .ok (.getfield 22, 3) := by decide +kernel
theorem dX8_count_60 : decode cX8_count 60 = .ok (.getfield 205, 3) := by decide +kernel
theorem dX8_count_63 : decode cX8_count 63 = .ok (.ireturn, 1) := by decide +kernel
theorem dX8_count_64 : decode cX8_count 64 = .ok (.aload_n 0, 1) := by decide +kernel
theorem dX8_count_65 : decode cX8_count 65 = .ok (.getfield 22, 3) := by decide +kernel
theorem dX8_count_68 : decode cX8_count 68 = .ok (.getfield 176, 3) := by decide +kernel
theorem dX8_count_71 : decode cX8_count 71 = .ok (.ireturn, 1) := by decide +kernel
theorem dX8_count_72 : decode cX8_count 72 = .ok (.aload_n 0, 1) := by decide +kernel
theorem dX8_count_73 : decode cX8_count 73 = .ok (.getfield 22, 3) := by decide +kernel
theorem dX8_count_76 : decode cX8_count 76 = .ok (.getfield 451, 3) := by decide +kernel
theorem dX8_count_79 : decode cX8_count 79 = .ok (.ireturn, 1) := by decide +kernel
theorem dX8_count_80 : decode cX8_count 80 = .ok (.aload_n 0, 1) := by decide +kernel
theorem dX8_count_81 : decode cX8_count 81 = .ok (.getfield 22, 3) := by decide +kernel
theorem dX8_count_84 : decode cX8_count 84 = .ok (.getfield 448, 3) := by decide +kernel
theorem dX8_count_87 : decode cX8_count 87 = .ok (.ireturn, 1) := by decide +kernel
theorem dX8_count_88 : decode cX8_count 88 = .ok (.aload_n 0, 1) := by decide +kernel
theorem dX8_count_89 : decode cX8_count 89 = .ok (.getfield 22, 3) := by decide +kernel
theorem dX8_count_92 : decode cX8_count 92 = .ok (.invokevirtual 454, 3) := by decide +kernel
theorem dX8_count_95 : decode cX8_count 95 = .ok (.ireturn, 1) := by decide +kernel
theorem dX8_count_96 : decode cX8_count 96 = .ok (.aload_n 0, 1) := by decide +kernel
theorem dX8_count_97 : decode cX8_count 97 = .ok (.getfield 22, 3) := by decide +kernel
theorem dX8_count_100 : decode cX8_count 100 = .ok (.getfield 331, 3) := by decide +kernel
theorem dX8_count_103 : decode cX8_count 103 = .ok (.ifCond .eq 7, 3) := by decide +kernel
theorem dX8_count_106 : decode cX8_count 106 = .ok (.iconst 1, 1) := by decide +kernel
theorem dX8_count_107 : decode cX8_count 107 = .ok (.goto 4, 3) := by decide +kernel
theorem dX8_count_110 : decode cX8_count 110 = .ok (.iconst 0, 1) := by decide +kernel
theorem dX8_count_111 : decode cX8_count 111 = .ok (.ireturn, 1) := by decide +kernel
theorem dX8_count_112 : decode cX8_count 112 = .ok (.aload_n 0, 1) := by decide +kernel
theorem dX8_count_113 : decode cX8_count 113 = .ok (.getfield 22, 3) := by decide +kernel
theorem dX8_count_116 : decode cX8_count 116 = .ok (.getfield 416, 3) := by decide +kernel
theorem dX8_count_119 : decode cX8_count 119 = .ok (.ireturn, 1) := by decide +kernel
theorem dX8_count_120 : decode cX8_count 120 = .ok (.aload_n 0, 1) := by decide +kernel
theorem dX8_count_121 : decode cX8_count 121 = .ok (.getfield 22, 3) := by decide +kernel
theorem dX8_count_124 : decode cX8_count 124 = .ok (.getfield 110, 3) := by decide +kernel
theorem dX8_count_127 : decode cX8_count 127 = .ok (.ireturn, 1) := by decide +kernel
theorem dX8_count_128 : decode cX8_count 128 = .ok (.aload_n 0, 1) := by decide +kernel
theorem dX8_count_129 : decode cX8_count 129 = .ok (.getfield 7, 3) := by decide +kernel
theorem dX8_count_132 : decode cX8_count 132 = .ok (.ireturn, 1) := by decide +kernel
theorem dX8_count_133 : decode cX8_count 133 = .ok (.aload_n 0, 1) := by decide +kernel
theorem dX8_count_134 : decode cX8_count 134 = .ok (.invokevirtual 457, 3) := by decide +kernel
theorem dX8_count_137 : decode cX8_count 137 = .ok (.ireturn, 1) := by decide +kernel
theorem dX8_count_138 : decode cX8_count 138 = .ok (.iconst (-1), 1) := by decide +kernel
theorem dX8_count_139 : decode cX8_count 139 = .ok (.ireturn, 1) := by decide +kernel
theorem dX8_heldSlots_0 : decode cX8_heldSlots 0 = .ok (.iconst 0, 1) := by decide +kernel
theorem dX8_heldSlots_1 : decode cX8_heldSlots 1 = .ok (.istore_n 1, 1) := by decide +kernel
theorem dX8_heldSlots_2 : decode cX8_heldSlots 2 = .ok (.iconst 0, 1) := by decide +kernel
theorem dX8_heldSlots_3 : decode cX8_heldSlots 3 = .ok (.istore_n 2, 1) := by decide +kernel
theorem dX8_heldSlots_4 : decode cX8_heldSlots 4 = .ok (.iload_n 2, 1) := by decide +kernel
theorem dX8_heldSlots_5 : decode cX8_heldSlots 5 = .ok (.iconst 4, 1) := by decide +kernel
theorem dX8_heldSlots_6 : decode cX8_heldSlots 6 = .ok (.if_icmp .ge 29, 3) := by decide +kernel
theorem dX8_heldSlots_9 : decode cX8_heldSlots 9 = .ok (.iload_n 1, 1) := by decide +kernel
theorem dX8_heldSlots_10 : decode cX8_heldSlots 10 = .ok (.aload_n 0, 1) := by decide +kernel
theorem dX8_heldSlots_11 : decode cX8_heldSlots 11 = .ok (.getfield 36, 3) := by decide +kernel
theorem dX8_heldSlots_14 : decode cX8_heldSlots 14 = .ok (.iload_n 2, 1) := by decide +kernel
theorem dX8_heldSlots_15 : decode cX8_heldSlots 15 = .ok (.aaload, 1) := by decide +kernel
theorem dX8_heldSlots_16 : decode cX8_heldSlots 16 = .ok (.getfield 303, 3) := by decide +kernel
theorem dX8_heldSlots_19 : decode cX8_heldSlots 19 = .ok (.ifCond .eq 7, 3) := by decide +kernel
theorem dX8_heldSlots_22 : decode cX8_heldSlots 22 = .ok (.iconst 1, 1) := by decide +kernel
theorem dX8_heldSlots_23 : decode cX8_heldSlots 23 = .ok (.goto 4, 3) := by decide +kernel
theorem dX8_heldSlots_26 : decode cX8_heldSlots 26 = .ok (.iconst 0, 1) := by decide +kernel
theorem dX8_heldSlots_27 : decode cX8_heldSlots 27 = .ok (.iadd, 1) := by decide +kernel
theorem dX8_heldSlots_28 : decode cX8_heldSlots 28 = .ok (.istore_n 1, 1) := by decide +kernel
theorem dX8_heldSlots_29 : decode cX8_heldSlots 29 = .ok (.iinc 2 1, 3) := by decide +kernel
theorem dX8_heldSlots_32 : decode cX8_heldSlots 32 = .ok (.goto (-28), 3) := by decide +kernel
theorem dX8_heldSlots_35 : decode cX8_heldSlots 35 = .ok (.iload_n 1, 1) := by decide +kernel
theorem dX8_heldSlots_36 : decode cX8_heldSlots 36 = .ok (.ireturn, 1) := by decide +kernel
theorem dX8_image_0 : decode cX8_image 0 = .ok (.iload_n 1, 1) := by decide +kernel
theorem dX8_image_1 : decode cX8_image 1 = .ok (.i2l, 1) := by decide +kernel
theorem dX8_image_2 : decode cX8_image 2 = .ok (.lconst 0, 1) := by decide +kernel
theorem dX8_image_3 : decode cX8_image 3 = .ok (.ldc2_w 405, 3) := by decide +kernel
theorem dX8_image_6 : decode cX8_image 6 = .ok (.invokestatic 161, 3) := by decide +kernel
theorem dX8_image_9 : decode cX8_image 9 = .ok (.ifCond .eq 6, 3) := by decide +kernel
theorem dX8_image_12 : decode cX8_image 12 = .ok (.bipush (-2), 2) := by decide +kernel
theorem dX8_image_14 : decode cX8_image 14 = .ok (.ireturn, 1) := by decide +kernel
theorem dX8_image_15 : decode cX8_image 15 = .ok (.aload_n 0, 1) := by decide +kernel
theorem dX8_image_16 : decode cX8_image 16 = .ok (.getfield 26, 3) := by decide +kernel
theorem dX8_image_19 : decode cX8_image 19 = .ok (.iload_n 1, 1) := by decide +kernel
theorem dX8_image_20 : decode cX8_image 20 = .ok (.aaload, 1) := by decide +kernel
theorem dX8_image_21 : decode cX8_image 21 = .ok (.aload_n 0, 1) := by decide +kernel
theorem dX8_image_22 : decode cX8_image 22 = .ok (.getfield 22, 3) := by decide +kernel
theorem dX8_image_25 : decode cX8_image 25 = .ok (.invokevirtual 106, 3) := by decide +kernel
theorem dX8_image_28 : decode cX8_image 28 = .ok (.aload_n 0, 1) := by decide +kernel
theorem dX8_image_29 : decode cX8_image 29 = .ok (.getfield 30, 3) := by decide +kernel
theorem dX8_image_32 : decode cX8_image 32 = .ok (.iload_n 1, 1) := by decide +kernel
theorem dX8_image_33 : decode cX8_image 33 = .ok (.iconst 1, 1) := by decide +kernel
theorem dX8_image_34 : decode cX8_image 34 = .ok (.bastore, 1) := by decide +kernel
theorem dX8_image_35 : decode cX8_image 35 = .ok (.iconst 0, 1) := by decide +kernel
theorem dX8_image_36 : decode cX8_image 36 = .ok (.ireturn, 1) := by decide +kernel
theorem dX8_back__0 : decode cX8_back_ 0 = .ok (.iload_n 1, 1) := by decide +kernel
theorem dX8_back__1 : decode cX8_back_ 1 = .ok (.i2l, 1) := by decide +kernel
theorem dX8_back__2 : decode cX8_back_ 2 = .ok (.lconst 0, 1) := by decide +kernel
theorem dX8_back__3 : decode cX8_back_ 3 = .ok (.ldc2_w 405, 3) := by decide +kernel
theorem dX8_back__6 : decode cX8_back_ 6 = .ok (.invokestatic 161, 3) := by decide +kernel
theorem dX8_back__9 : decode cX8_back_ 9 = .ok (.ifCond .eq 6, 3) := by decide +kernel
theorem dX8_back__12 : decode cX8_back_ 12 = .ok (.bipush (-2), 2) := by decide +kernel
theorem dX8_back__14 : decode cX8_back_ 14 = .ok (.ireturn, 1) := by decide +kernel
theorem dX8_back__15 : decode cX8_back_ 15 = .ok (.aload_n 0, 1) := by decide +kernel
theorem dX8_back__16 : decode cX8_back_ 16 = .ok (.getfield 30, 3) := by decide +kernel
theorem dX8_back__19 : decode cX8_back_ 19 = .ok (.iload_n 1, 1) := by decide +kernel
theorem dX8_back__20 : decode cX8_back_ 20 = .ok (.baload, 1) := by decide +kernel
theorem dX8_back__21 : decode cX8_back_ 21 = .ok (.ifCond .ne 6, 3) := by decide +kernel
theorem dX8_back__24 : decode cX8_back_ 24 = .ok (.bipush (-6), 2) := by decide +kernel
theorem dX8_back__26 : decode cX8_back_ 26 = .ok (.ireturn, 1) := by decide +kernel
theorem dX8_back__27 : decode cX8_back_ 27 = .ok (.aload_n 0, 1) := by decide +kernel
theorem dX8_back__28 : decode cX8_back_ 28 = .ok (.getfield 22, 3) := by decide +kernel
theorem dX8_back__31 : decode cX8_back_ 31 = .ok (.aload_n 0, 1) := by decide +kernel
theorem dX8_back__32 : decode cX8_back_ 32 = .ok (.getfield 26, 3) := by decide +kernel
theorem dX8_back__35 : decode cX8_back_ 35 = .ok (.iload_n 1, 1) := by decide +kernel
theorem dX8_back__36 : decode cX8_back_ 36 = .ok (.aaload, 1) := by decide +kernel
theorem dX8_back__37 : decode cX8_back_ 37 = .ok (.invokevirtual 106, 3) := by decide +kernel
theorem dX8_back__40 : decode cX8_back_ 40 = .ok (.iconst 0, 1) := by decide +kernel
theorem dX8_back__41 : decode cX8_back_ 41 = .ok (.ireturn, 1) := by decide +kernel
theorem dX8_row_0 : decode cX8_row 0 = .ok (.iload_n 1, 1) := by decide +kernel
theorem dX8_row_1 : decode cX8_row 1 = .ok (.invokestatic 300, 3) := by decide +kernel
theorem dX8_row_4 : decode cX8_row 4 = .ok (.ifCond .eq 21, 3) := by decide +kernel
theorem dX8_row_7 : decode cX8_row 7 = .ok (.iload_n 2, 1) := by decide +kernel
theorem dX8_row_8 : decode cX8_row 8 = .ok (.i2l, 1) := by decide +kernel
theorem dX8_row_9 : decode cX8_row 9 = .ok (.lconst 0, 1) := by decide +kernel
theorem dX8_row_10 : decode cX8_row 10 = .ok (.ldc2_w 372, 3) := by decide +kernel
theorem dX8_row_13 : decode cX8_row 13 = .ok (.invokestatic 161, 3) := by decide +kernel
theorem dX8_row_16 : decode cX8_row 16 = .ok (.ifCond .ne 9, 3) := by decide +kernel
theorem dX8_row_19 : decode cX8_row 19 = .ok (.iload_n 3, 1) := by decide +kernel
theorem dX8_row_20 : decode cX8_row 20 = .ok (.bipush 60, 2) := by decide +kernel
theorem dX8_row_22 : decode cX8_row 22 = .ok (.if_icmp .le 6, 3) := by decide +kernel
theorem dX8_row_25 : decode cX8_row 25 = .ok (.bipush (-2), 2) := by decide +kernel
theorem dX8_row_27 : decode cX8_row 27 = .ok (.ireturn, 1) := by decide +kernel
theorem dX8_row_28 : decode cX8_row 28 = .ok (.iload_n 3, 1) := by decide +kernel
theorem dX8_row_29 : decode cX8_row 29 = .ok (.ifCond .ge 6, 3) := by decide +kernel
theorem dX8_row_32 : decode cX8_row 32 = .ok (.bipush (-3), 2) := by decide +kernel
theorem dX8_row_34 : decode cX8_row 34 = .ok (.ireturn, 1) := by decide +kernel
theorem dX8_row_35 : decode cX8_row 35 = .ok (.aload_n 0, 1) := by decide +kernel
theorem dX8_row_36 : decode cX8_row 36 = .ok (.getfield 36, 3) := by decide +kernel
theorem dX8_row_39 : decode cX8_row 39 = .ok (.iload_n 1, 1) := by decide +kernel
theorem dX8_row_40 : decode cX8_row 40 = .ok (.aaload, 1) := by decide +kernel
theorem dX8_row_41 : decode cX8_row 41 = .ok (.iload_n 2, 1) := by decide +kernel
theorem dX8_row_42 : decode cX8_row 42 = .ok (.iload_n 3, 1) := by decide +kernel
theorem dX8_row_43 : decode cX8_row 43 = .ok (.invokevirtual 460, 3) := by decide +kernel
theorem dX8_row_46 : decode cX8_row 46 = .ok (.iconst 0, 1) := by decide +kernel
theorem dX8_row_47 : decode cX8_row 47 = .ok (.ireturn, 1) := by decide +kernel
theorem dX8_write_0 : decode cX8_write 0 = .ok (.iload_n 1, 1) := by decide +kernel
theorem dX8_write_1 : decode cX8_write 1 = .ok (.invokestatic 300, 3) := by decide +kernel
theorem dX8_write_4 : decode cX8_write 4 = .ok (.ifCond .ne 6, 3) := by decide +kernel
theorem dX8_write_7 : decode cX8_write 7 = .ok (.bipush (-2), 2) := by decide +kernel
theorem dX8_write_9 : decode cX8_write 9 = .ok (.ireturn, 1) := by decide +kernel
theorem dX8_write_10 : decode cX8_write 10 = .ok (.aload_n 0, 1) := by decide +kernel
theorem dX8_write_11 : decode cX8_write 11 = .ok (.getfield 36, 3) := by decide +kernel
theorem dX8_write_14 : decode cX8_write 14 = .ok (.iload_n 1, 1) := by decide +kernel
theorem dX8_write_15 : decode cX8_write 15 = .ok (.aaload, 1) := by decide +kernel
theorem dX8_write_16 : decode cX8_write 16 = .ok (.astore 5, 2) := by decide +kernel
theorem dX8_write_18 : decode cX8_write 18 = .ok (.aload 5, 2) := by decide +kernel
theorem dX8_write_20 : decode cX8_write 20 = .ok (.getfield 303, 3) := by decide +kernel
theorem dX8_write_23 : decode cX8_write 23 = .ok (.ifCond .ne 6, 3) := by decide +kernel
theorem dX8_write_26 : decode cX8_write 26 = .ok (.bipush (-6), 2) := by decide +kernel
theorem dX8_write_28 : decode cX8_write 28 = .ok (.ireturn, 1) := by decide +kernel
theorem dX8_write_29 : decode cX8_write 29 = .ok (.iload_n 2, 1) := by decide +kernel
theorem dX8_write_30 : decode cX8_write 30 = .ok (.i2l, 1) := by decide +kernel
theorem dX8_write_31 : decode cX8_write 31 = .ok (.lconst 0, 1) := by decide +kernel
theorem dX8_write_32 : decode cX8_write 32 = .ok (.aload 5, 2) := by decide +kernel
theorem dX8_write_34 : decode cX8_write 34 = .ok (.getfield 374, 3) := by decide +kernel
theorem dX8_write_37 : decode cX8_write 37 = .ok (.iconst 1, 1) := by decide +kernel
theorem dX8_write_38 : decode cX8_write 38 = .ok (.isub, 1) := by decide +kernel
theorem dX8_write_39 : decode cX8_write 39 = .ok (.i2l, 1) := by decide +kernel
theorem dX8_write_40 : decode cX8_write 40 = .ok (.invokestatic 161, 3) := by decide +kernel
theorem dX8_write_43 : decode cX8_write 43 = .ok (.ifCond .eq 6, 3) := by decide +kernel
theorem dX8_write_46 : decode cX8_write 46 = .ok (.bipush (-7), 2) := by decide +kernel
theorem dX8_write_48 : decode cX8_write 48 = .ok (.ireturn, 1) := by decide +kernel
theorem dX8_write_49 : decode cX8_write 49 = .ok (.aload 5, 2) := by decide +kernel
theorem dX8_write_51 : decode cX8_write 51 = .ok (.getfield 463, 3) := by decide +kernel
theorem dX8_write_54 : decode cX8_write 54 = .ok (.iload_n 2, 1) := by decide +kernel
theorem dX8_write_55 : decode cX8_write 55 = .ok (.aload 5, 2) := by decide +kernel
theorem dX8_write_57 : decode cX8_write 57 = .ok (.lload_n 3, 1) := by decide +kernel
theorem dX8_write_58 : decode cX8_write 58 = .ok (.invokevirtual 467, 3) := by decide +kernel
theorem dX8_write_61 : decode cX8_write 61 = .ok (.lastore, 1) := by decide +kernel
theorem dX8_write_62 : decode cX8_write 62 = .ok (.iconst 0, 1) := by decide +kernel
theorem dX8_write_63 : decode cX8_write 63 = .ok (.ireturn, 1) := by decide +kernel
theorem dX8_paste_0 : decode cX8_paste 0 = .ok (.iload_n 1, 1) := by decide +kernel
theorem dX8_paste_1 : decode cX8_paste 1 = .ok (.invokestatic 300, 3) := by decide +kernel
theorem dX8_paste_4 : decode cX8_paste 4 = .ok (.ifCond .eq 10, 3) := by decide +kernel
theorem dX8_paste_7 : decode cX8_paste 7 = .ok (.iload_n 3, 1) := by decide +kernel
theorem dX8_paste_8 : decode cX8_paste 8 = .ok (.invokestatic 300, 3) := by decide +kernel
theorem dX8_paste_11 : decode cX8_paste 11 = .ok (.ifCond .ne 6, 3) := by decide +kernel
theorem dX8_paste_14 : decode cX8_paste 14 = .ok (.bipush (-2), 2) := by decide +kernel
theorem dX8_paste_16 : decode cX8_paste 16 = .ok (.ireturn, 1) := by decide +kernel
theorem dX8_paste_17 : decode cX8_paste 17 = .ok (.aload_n 0, 1) := by decide +kernel
theorem dX8_paste_18 : decode cX8_paste 18 = .ok (.getfield 36, 3) := by decide +kernel
theorem dX8_paste_21 : decode cX8_paste 21 = .ok (.iload_n 1, 1) := by decide +kernel
theorem dX8_paste_22 : decode cX8_paste 22 = .ok (.aaload, 1) := by decide +kernel
theorem dX8_paste_23 : decode cX8_paste 23 = .ok (.astore 6, 2) := by decide +kernel
theorem dX8_paste_25 : decode cX8_paste 25 = .ok (.aload_n 0, 1) := by decide +kernel
theorem dX8_paste_26 : decode cX8_paste 26 = .ok (.getfield 36, 3) := by decide +kernel
theorem dX8_paste_29 : decode cX8_paste 29 = .ok (.iload_n 3, 1) := by decide +kernel
theorem dX8_paste_30 : decode cX8_paste 30 = .ok (.aaload, 1) := by decide +kernel
theorem dX8_paste_31 : decode cX8_paste 31 = .ok (.astore 7, 2) := by decide +kernel
theorem dX8_paste_33 : decode cX8_paste 33 = .ok (.aload 6, 2) := by decide +kernel
theorem dX8_paste_35 : decode cX8_paste 35 = .ok (.getfield 303, 3) := by decide +kernel
theorem dX8_paste_38 : decode cX8_paste 38 = .ok (.ifCond .eq 11, 3) := by decide +kernel
theorem dX8_paste_41 : decode cX8_paste 41 = .ok (.aload 7, 2) := by decide +kernel
theorem dX8_paste_43 : decode cX8_paste 43 = .ok (.getfield 303, 3) := by decide +kernel
theorem dX8_paste_46 : decode cX8_paste 46 = .ok (.ifCond .ne 6, 3) := by decide +kernel
theorem dX8_paste_49 : decode cX8_paste 49 = .ok (.bipush (-6), 2) := by decide +kernel
theorem dX8_paste_51 : decode cX8_paste 51 = .ok (.ireturn, 1) := by decide +kernel
theorem dX8_paste_52 : decode cX8_paste 52 = .ok (.aload 6, 2) := by decide +kernel
theorem dX8_paste_54 : decode cX8_paste 54 = .ok (.getfield 470, 3) := by decide +kernel
theorem dX8_paste_57 : decode cX8_paste 57 = .ok (.aload 7, 2) := by decide +kernel
theorem dX8_paste_59 : decode cX8_paste 59 = .ok (.getfield 470, 3) := by decide +kernel
theorem dX8_paste_62 : decode cX8_paste 62 = .ok (.if_icmp .eq 6, 3) := by decide +kernel
theorem dX8_paste_65 : decode cX8_paste 65 = .ok (.bipush (-8), 2) := by decide +kernel
theorem dX8_paste_67 : decode cX8_paste 67 = .ok (.ireturn, 1) := by decide +kernel
theorem dX8_paste_68 : decode cX8_paste 68 = .ok (.iload 5, 2) := by decide +kernel
theorem dX8_paste_70 : decode cX8_paste 70 = .ok (.ifCond .lt 40, 3) := by decide +kernel
theorem dX8_paste_73 : decode cX8_paste 73 = .ok (.iload_n 2, 1) := by decide +kernel
theorem dX8_paste_74 : decode cX8_paste 74 = .ok (.i2l, 1) := by decide +kernel
theorem dX8_paste_75 : decode cX8_paste 75 = .ok (.lconst 0, 1) := by decide +kernel
theorem dX8_paste_76 : decode cX8_paste 76 = .ok (.aload 6, 2) := by decide +kernel
theorem dX8_paste_78 : decode cX8_paste 78 = .ok (.getfield 374, 3) := by decide +kernel
theorem dX8_paste_81 : decode cX8_paste 81 = .ok (.iload 5, 2) := by decide +kernel
theorem dX8_paste_83 : decode cX8_paste 83 = .ok (.isub, 1) := by decide +kernel
theorem dX8_paste_84 : decode cX8_paste 84 = .ok (.i2l, 1) := by decide +kernel
theorem dX8_paste_85 : decode cX8_paste 85 = .ok (.invokestatic 161, 3) := by decide +kernel
theorem dX8_paste_88 : decode cX8_paste 88 = .ok (.ifCond .ne 22, 3) := by decide +kernel
theorem dX8_paste_91 : decode cX8_paste 91 = .ok (.iload 4, 2) := by decide +kernel
theorem dX8_paste_93 : decode cX8_paste 93 = .ok (.i2l, 1) := by decide +kernel
theorem dX8_paste_94 : decode cX8_paste 94 = .ok (.lconst 0, 1) := by decide +kernel
theorem dX8_paste_95 : decode cX8_paste 95 = .ok (.aload 7, 2) := by decide +kernel
theorem dX8_paste_97 : decode cX8_paste 97 = .ok (.getfield 374, 3) := by decide +kernel
theorem dX8_paste_100 : decode cX8_paste 100 = .ok (.iload 5, 2) := by decide +kernel
theorem dX8_paste_102 : decode cX8_paste 102 = .ok (.isub, 1) := by decide +kernel
theorem dX8_paste_103 : decode cX8_paste 103 = .ok (.i2l, 1) := by decide +kernel
theorem dX8_paste_104 : decode cX8_paste 104 = .ok (.invokestatic 161, 3) := by decide +kernel
theorem dX8_paste_107 : decode cX8_paste 107 = .ok (.ifCond .eq 6, 3) := by decide +kernel
theorem dX8_paste_110 : decode cX8_paste 110 = .ok (.bipush (-7), 2) := by decide +kernel
theorem dX8_paste_112 : decode cX8_paste 112 = .ok (.ireturn, 1) := by decide +kernel
theorem dX8_paste_113 : decode cX8_paste 113 = .ok (.aload 6, 2) := by decide +kernel
theorem dX8_paste_115 : decode cX8_paste 115 = .ok (.getfield 463, 3) := by decide +kernel
theorem dX8_paste_118 : decode cX8_paste 118 = .ok (.iload_n 2, 1) := by decide +kernel
theorem dX8_paste_119 : decode cX8_paste 119 = .ok (.aload 7, 2) := by decide +kernel
theorem dX8_paste_121 : decode cX8_paste 121 = .ok (.getfield 463, 3) := by decide +kernel
theorem dX8_paste_124 : decode cX8_paste 124 = .ok (.iload 4, 2) := by decide +kernel
theorem dX8_paste_126 : decode cX8_paste 126 = .ok (.iload 5, 2) := by decide +kernel
theorem dX8_paste_128 : decode cX8_paste 128 = .ok (.invokestatic 473, 3) := by decide +kernel
theorem dX8_paste_131 : decode cX8_paste 131 = .ok (.iconst 0, 1) := by decide +kernel
theorem dX8_paste_132 : decode cX8_paste 132 = .ok (.ireturn, 1) := by decide +kernel
theorem dX8_isSlot_0 : decode cX8_isSlot 0 = .ok (.iload_n 0, 1) := by decide +kernel
theorem dX8_isSlot_1 : decode cX8_isSlot 1 = .ok (.i2l, 1) := by decide +kernel
theorem dX8_isSlot_2 : decode cX8_isSlot 2 = .ok (.lconst 0, 1) := by decide +kernel
theorem dX8_isSlot_3 : decode cX8_isSlot 3 = .ok (.ldc2_w 372, 3) := by decide +kernel
theorem dX8_isSlot_6 : decode cX8_isSlot 6 = .ok (.invokestatic 161, 3) := by decide +kernel
theorem dX8_isSlot_9 : decode cX8_isSlot 9 = .ok (.ifCond .ne 7, 3) := by decide +kernel
theorem dX8_isSlot_12 : decode cX8_isSlot 12 = .ok (.iconst 1, 1) := by decide +kernel
theorem dX8_isSlot_13 : decode cX8_isSlot 13 = .ok (.goto 4, 3) := by decide +kernel
theorem dX8_isSlot_16 : decode cX8_isSlot 16 = .ok (.iconst 0, 1) := by decide +kernel
theorem dX8_isSlot_17 : decode cX8_isSlot 17 = .ok (.ireturn, 1) := by decide +kernel
theorem dX8_isSide_0 : decode cX8_isSide 0 = .ok (.iload_n 0, 1) := by decide +kernel
theorem dX8_isSide_1 : decode cX8_isSide 1 = .ok (.ifCond .eq 8, 3) := by decide +kernel
theorem dX8_isSide_4 : decode cX8_isSide 4 = .ok (.iload_n 0, 1) := by decide +kernel
theorem dX8_isSide_5 : decode cX8_isSide 5 = .ok (.iconst 1, 1) := by decide +kernel
theorem dX8_isSide_6 : decode cX8_isSide 6 = .ok (.if_icmp .ne 7, 3) := by decide +kernel
theorem dX8_isSide_9 : decode cX8_isSide 9 = .ok (.iconst 1, 1) := by decide +kernel
theorem dX8_isSide_10 : decode cX8_isSide 10 = .ok (.goto 4, 3) := by decide +kernel
theorem dX8_isSide_13 : decode cX8_isSide 13 = .ok (.iconst 0, 1) := by decide +kernel
theorem dX8_isSide_14 : decode cX8_isSide 14 = .ok (.ireturn, 1) := by decide +kernel
theorem dX8_isOut_0 : decode cX8_isOut 0 = .ok (.lload_n 0, 1) := by decide +kernel
theorem dX8_isOut_1 : decode cX8_isOut 1 = .ok (.lload_n 2, 1) := by decide +kernel
theorem dX8_isOut_2 : decode cX8_isOut 2 = .ok (.lcmp, 1) := by decide +kernel
theorem dX8_isOut_3 : decode cX8_isOut 3 = .ok (.ifCond .lt 10, 3) := by decide +kernel
theorem dX8_isOut_6 : decode cX8_isOut 6 = .ok (.lload_n 0, 1) := by decide +kernel
theorem dX8_isOut_7 : decode cX8_isOut 7 = .ok (.lload 4, 2) := by decide +kernel
theorem dX8_isOut_9 : decode cX8_isOut 9 = .ok (.lcmp, 1) := by decide +kernel
theorem dX8_isOut_10 : decode cX8_isOut 10 = .ok (.ifCond .le 7, 3) := by decide +kernel
theorem dX8_isOut_13 : decode cX8_isOut 13 = .ok (.iconst 1, 1) := by decide +kernel
theorem dX8_isOut_14 : decode cX8_isOut 14 = .ok (.goto 4, 3) := by decide +kernel
theorem dX8_isOut_17 : decode cX8_isOut 17 = .ok (.iconst 0, 1) := by decide +kernel
theorem dX8_isOut_18 : decode cX8_isOut 18 = .ok (.ireturn, 1) := by decide +kernel
theorem dX9_init_0 : decode cX9_init 0 = .ok (.aload_n 0, 1) := by decide +kernel
theorem dX9_init_1 : decode cX9_init 1 = .ok (.invokespecial 1, 3) := by decide +kernel
theorem dX9_init_4 : decode cX9_init 4 = .ok (.aload_n 0, 1) := by decide +kernel
theorem dX9_init_5 : decode cX9_init 5 = .ok (.iconst 4, 1) := by decide +kernel
theorem dX9_init_6 : decode cX9_init 6 = .ok (.newarray .int, 2) := by decide +kernel
theorem dX9_init_8 : decode cX9_init 8 = .ok (.putfield 7, 3) := by decide +kernel
theorem dX9_init_11 : decode cX9_init 11 = .ok (.aload_n 0, 1) := by decide +kernel
theorem dX9_init_12 : decode cX9_init 12 = .ok (.iconst 4, 1) := by decide +kernel
theorem dX9_init_13 : decode cX9_init 13 = .ok (.newarray .int, 2) := by decide +kernel
theorem dX9_init_15 : decode cX9_init 15 = .ok (.putfield 13, 3) := by decide +kernel
theorem dX9_init_18 : decode cX9_init 18 = .ok (.aload_n 0, 1) := by decide +kernel
theorem dX9_init_19 : decode cX9_init 19 = .ok (.sipush 240, 3) := by decide +kernel
theorem dX9_init_22 : decode cX9_init 22 = .ok (.newarray .long, 2) := by decide +kernel
theorem dX9_init_24 : decode cX9_init 24 = .ok (.putfield 16, 3) := by decide +kernel
theorem dX9_init_27 : decode cX9_init 27 = .ok (.aload_n 0, 1) := by decide +kernel
theorem dX9_init_28 : decode cX9_init 28 = .ok (.bipush 60, 2) := by decide +kernel
theorem dX9_init_30 : decode cX9_init 30 = .ok (.newarray .long, 2) := by decide +kernel
theorem dX9_init_32 : decode cX9_init 32 = .ok (.putfield 20, 3) := by decide +kernel
theorem dX9_init_35 : decode cX9_init 35 = .ok (.aload_n 0, 1) := by decide +kernel
theorem dX9_init_36 : decode cX9_init 36 = .ok (.sipush 900, 3) := by decide +kernel
theorem dX9_init_39 : decode cX9_init 39 = .ok (.newarray .byte, 2) := by decide +kernel
theorem dX9_init_41 : decode cX9_init 41 = .ok (.putfield 23, 3) := by decide +kernel
theorem dX9_init_44 : decode cX9_init 44 = .ok (.aload_n 0, 1) := by decide +kernel
theorem dX9_init_45 : decode cX9_init 45 = .ok (.iconst (-1), 1) := by decide +kernel
theorem dX9_init_46 : decode cX9_init 46 = .ok (.putfield 27, 3) := by decide +kernel
theorem dX9_init_49 : decode cX9_init 49 = .ok (.aload_n 0, 1) := by decide +kernel
theorem dX9_init_50 : decode cX9_init 50 = .ok (.iconst 5, 1) := by decide +kernel
theorem dX9_init_51 : decode cX9_init 51 = .ok (.newarray .int, 2) := by decide +kernel
theorem dX9_init_53 : decode cX9_init 53 = .ok (.putfield 31, 3) := by decide +kernel
theorem dX9_init_56 : decode cX9_init 56 = .ok (.aload_n 0, 1) := by decide +kernel
theorem dX9_init_57 : decode cX9_init 57 = .ok (.bipush 45, 2) := by decide +kernel
theorem dX9_init_59 : decode cX9_init 59 = .ok (.newarray .int, 2) := by decide +kernel
theorem dX9_init_61 : decode cX9_init 61 = .ok (.putfield 34, 3) := by decide +kernel
theorem dX9_init_64 : decode cX9_init 64 = .ok (.aload_n 0, 1) := by decide +kernel
theorem dX9_init_65 : decode cX9_init 65 = .ok (.bipush 40, 2) := by decide +kernel
theorem dX9_init_67 : decode cX9_init 67 = .ok (.newarray .int, 2) := by decide +kernel
theorem dX9_init_69 : decode cX9_init 69 = .ok (.putfield 37, 3) := by decide +kernel
theorem dX9_init_72 : decode cX9_init 72 = .ok (.aload_n 0, 1) := by decide +kernel
theorem dX9_init_73 : decode cX9_init 73 = .ok (.bipush 40, 2) := by decide +kernel
theorem dX9_init_75 : decode cX9_init 75 = .ok (.newarray .int, 2) := by decide +kernel
theorem dX9_init_77 : decode cX9_init 77 = .ok (.putfield 40, 3) := by decide +kernel
theorem dX9_init_80 : decode cX9_init 80 = .ok (.aload_n 0, 1) := by decide +kernel
theorem dX9_init_81 : decode cX9_init 81 = .ok (.bipush 20, 2) := by decide +kernel
theorem dX9_init_83 : decode cX9_init 83 = .ok (.newarray .int, 2) := by decide +kernel
theorem dX9_init_85 : decode cX9_init 85 = .ok (.putfield 43, 3) := by decide +kernel
theorem dX9_init_88 : decode cX9_init 88 = .ok (.aload_n 0, 1) := by decide +kernel
theorem dX9_init_89 : decode cX9_init 89 = .ok (.sipush 600, 3) := by decide +kernel
theorem dX9_init_92 : decode cX9_init 92 = .ok (.newarray .int, 2) := by decide +kernel
theorem dX9_init_94 : decode cX9_init 94 = .ok (.putfield 46, 3) := by decide +kernel
theorem dX9_init_97 : decode cX9_init 97 = .ok (.aload_n 0, 1) := by decide +kernel
theorem dX9_init_98 : decode cX9_init 98 = .ok (.iconst 3, 1) := by decide +kernel
theorem dX9_init_99 : decode cX9_init 99 = .ok (.newarray .boolean, 2) := by decide +kernel
theorem dX9_init_101 : decode cX9_init 101 = .ok (.putfield 49, 3) := by decide +kernel
theorem dX9_init_104 : decode cX9_init 104 = .ok (.aload_n 0, 1) := by decide +kernel
theorem dX9_init_105 : decode cX9_init 105 = .ok (.iconst 4, 1) := by decide +kernel
theorem dX9_init_106 : decode cX9_init 106 = .ok (.newarray .int, 2) := by decide +kernel
theorem dX9_init_108 : decode cX9_init 108 = .ok (.putfield 53, 3) := by decide +kernel
theorem dX9_init_111 : decode cX9_init 111 = .ok (.aload_n 0, 1) := by decide +kernel
theorem dX9_init_112 : decode cX9_init 112 = .ok (.sipush 1024, 3) := by decide +kernel
theorem dX9_init_115 : decode cX9_init 115 = .ok (.newarray .boolean, 2) := by decide +kernel
theorem dX9_init_117 : decode cX9_init 117 = .ok (.putfield 56, 3) := by decide +kernel
theorem dX9_init_120 : decode cX9_init 120 = .ok (.aload_n 0, 1) := by decide +kernel
theorem dX9_init_121 : decode cX9_init 121 = .ok (.sipush 201, 3) := by decide +kernel
theorem dX9_init_124 : decode cX9_init 124 = .ok (.newarray .int, 2) := by decide +kernel
theorem dX9_init_126 : decode cX9_init 126 = .ok (.putfield 59, 3) := by decide +kernel
theorem dX9_init_129 : decode cX9_init 129 = .ok (.aload_n 0, 1) := by decide +kernel
theorem dX9_init_130 : decode cX9_init 130 = .ok (.sipush 6231, 3) := by decide +kernel
theorem dX9_init_133 : decode cX9_init 133 = .ok (.newarray .boolean, 2) := by decide +kernel
theorem dX9_init_135 : decode cX9_init 135 = .ok (.putfield 62, 3) := by decide +kernel
theorem dX9_init_138 : decode cX9_init 138 = .ok (.aload_n 0, 1) := by decide +kernel
theorem dX9_init_139 : decode cX9_init 139 = .ok (.bipush 60, 2) := by decide +kernel
theorem dX9_init_141 : decode cX9_init 141 = .ok (.newarray .long, 2) := by decide +kernel
theorem dX9_init_143 : decode cX9_init 143 = .ok (.putfield 65, 3) := by decide +kernel
theorem dX9_init_146 : decode cX9_init 146 = .ok (.aload_n 0, 1) := by decide +kernel
theorem dX9_init_147 : decode cX9_init 147 = .ok (.sipush 496, 3) := by decide +kernel
theorem dX9_init_150 : decode cX9_init 150 = .ok (.newarray .int, 2) := by decide +kernel
theorem dX9_init_152 : decode cX9_init 152 = .ok (.putfield 68, 3) := by decide +kernel
theorem dX9_init_155 : decode cX9_init 155 = .ok (.iconst 0, 1) := by decide +kernel
theorem dX9_init_156 : decode cX9_init 156 = .ok (.istore_n 1, 1) := by decide +kernel
theorem dX9_init_157 : decode cX9_init 157 = .ok (.iload_n 1, 1) := by decide +kernel
theorem dX9_init_158 : decode cX9_init 158 = .ok (.iconst 4, 1) := by decide +kernel
theorem dX9_init_159 : decode cX9_init 159 = .ok (.if_icmp .ge 16, 3) := by decide +kernel
theorem dX9_init_162 : decode cX9_init 162 = .ok (.aload_n 0, 1) := by decide +kernel
theorem dX9_init_163 : decode cX9_init 163 = .ok (.getfield 7, 3) := by decide +kernel
theorem dX9_init_166 : decode cX9_init 166 = .ok (.iload_n 1, 1) := by decide +kernel
theorem dX9_init_167 : decode cX9_init 167 = .ok (.iconst (-1), 1) := by decide +kernel
theorem dX9_init_168 : decode cX9_init 168 = .ok (.iastore, 1) := by decide +kernel
theorem dX9_init_169 : decode cX9_init 169 = .ok (.iinc 1 1, 3) := by decide +kernel
theorem dX9_init_172 : decode cX9_init 172 = .ok (.goto (-15), 3) := by decide +kernel
theorem dX9_init_175 : decode cX9_init 175 = .ok (.return_, 1) := by decide +kernel
theorem dX9_in_0 : decode cX9_in 0 = .ok (.lload_n 0, 1) := by decide +kernel
theorem dX9_in_1 : decode cX9_in 1 = .ok (.lload_n 2, 1) := by decide +kernel
theorem dX9_in_2 : decode cX9_in 2 = .ok (.lcmp, 1) := by decide +kernel
theorem dX9_in_3 : decode cX9_in 3 = .ok (.ifCond .lt 14, 3) := by decide +kernel
theorem dX9_in_6 : decode cX9_in 6 = .ok (.lload_n 0, 1) := by decide +kernel
theorem dX9_in_7 : decode cX9_in 7 = .ok (.lload 4, 2) := by decide +kernel
theorem dX9_in_9 : decode cX9_in 9 = .ok (.lcmp, 1) := by decide +kernel
theorem dX9_in_10 : decode cX9_in 10 = .ok (.ifCond .gt 7, 3) := by decide +kernel
theorem dX9_in_13 : decode cX9_in 13 = .ok (.iconst 1, 1) := by decide +kernel
theorem dX9_in_14 : decode cX9_in 14 = .ok (.goto 4, 3) := by decide +kernel
theorem dX9_in_17 : decode cX9_in 17 = .ok (.iconst 0, 1) := by decide +kernel
theorem dX9_in_18 : decode cX9_in 18 = .ok (.ireturn, 1) := by decide +kernel
theorem dX9_isSlot_0 : decode cX9_isSlot 0 = .ok (.iload_n 0, 1) := by decide +kernel
theorem dX9_isSlot_1 : decode cX9_isSlot 1 = .ok (.i2l, 1) := by decide +kernel
theorem dX9_isSlot_2 : decode cX9_isSlot 2 = .ok (.lconst 0, 1) := by decide +kernel
theorem dX9_isSlot_3 : decode cX9_isSlot 3 = .ok (.ldc2_w 74, 3) := by decide +kernel
theorem dX9_isSlot_6 : decode cX9_isSlot 6 = .ok (.invokestatic 76, 3) := by decide +kernel
theorem dX9_isSlot_9 : decode cX9_isSlot 9 = .ok (.ireturn, 1) := by decide +kernel
theorem dX9_row_0 : decode cX9_row 0 = .ok (.aload_n 0, 1) := by decide +kernel
theorem dX9_row_1 : decode cX9_row 1 = .ok (.iconst 0, 1) := by decide +kernel
theorem dX9_row_2 : decode cX9_row 2 = .ok (.putfield 71, 3) := by decide +kernel
theorem dX9_row_5 : decode cX9_row 5 = .ok (.iload_n 1, 1) := by decide +kernel
theorem dX9_row_6 : decode cX9_row 6 = .ok (.invokestatic 80, 3) := by decide +kernel
theorem dX9_row_9 : decode cX9_row 9 = .ok (.ifCond .eq 21, 3) := by decide +kernel
theorem dX9_row_12 : decode cX9_row 12 = .ok (.iload_n 2, 1) := by decide +kernel
theorem dX9_row_13 : decode cX9_row 13 = .ok (.i2l, 1) := by decide +kernel
theorem dX9_row_14 : decode cX9_row 14 = .ok (.lconst 0, 1) := by decide +kernel
theorem dX9_row_15 : decode cX9_row 15 = .ok (.ldc2_w 74, 3) := by decide +kernel
theorem dX9_row_18 : decode cX9_row 18 = .ok (.invokestatic 76, 3) := by decide +kernel
theorem dX9_row_21 : decode cX9_row 21 = .ok (.ifCond .eq 9, 3) := by decide +kernel
theorem dX9_row_24 : decode cX9_row 24 = .ok (.iload_n 3, 1) := by decide +kernel
theorem dX9_row_25 : decode cX9_row 25 = .ok (.bipush 60, 2) := by decide +kernel
theorem dX9_row_27 : decode cX9_row 27 = .ok (.if_icmp .le 6, 3) := by decide +kernel
theorem dX9_row_30 : decode cX9_row 30 = .ok (.bipush (-2), 2) := by decide +kernel
theorem dX9_row_32 : decode cX9_row 32 = .ok (.ireturn, 1) := by decide +kernel
theorem dX9_row_33 : decode cX9_row 33 = .ok (.iload_n 3, 1) := by decide +kernel
theorem dX9_row_34 : decode cX9_row 34 = .ok (.ifCond .ge 6, 3) := by decide +kernel
theorem dX9_row_37 : decode cX9_row 37 = .ok (.bipush (-3), 2) := by decide +kernel
theorem dX9_row_39 : decode cX9_row 39 = .ok (.ireturn, 1) := by decide +kernel
theorem dX9_row_40 : decode cX9_row 40 = .ok (.aload_n 0, 1) := by decide +kernel
theorem dX9_row_41 : decode cX9_row 41 = .ok (.getfield 7, 3) := by decide +kernel
theorem dX9_row_44 : decode cX9_row 44 = .ok (.iload_n 1, 1) := by decide +kernel
theorem dX9_row_45 : decode cX9_row 45 = .ok (.iload_n 2, 1) := by decide +kernel
theorem dX9_row_46 : decode cX9_row 46 = .ok (.iastore, 1) := by decide +kernel
theorem dX9_row_47 : decode cX9_row 47 = .ok (.aload_n 0, 1) := by decide +kernel
theorem dX9_row_48 : decode cX9_row 48 = .ok (.getfield 13, 3) := by decide +kernel
theorem dX9_row_51 : decode cX9_row 51 = .ok (.iload_n 1, 1) := by decide +kernel
theorem dX9_row_52 : decode cX9_row 52 = .ok (.iload_n 3, 1) := by decide +kernel
theorem dX9_row_53 : decode cX9_row 53 = .ok (.iastore, 1) := by decide +kernel
theorem dX9_row_54 : decode cX9_row 54 = .ok (.iconst 0, 1) := by decide +kernel
theorem dX9_row_55 : decode cX9_row 55 = .ok (.istore 4, 2) := by decide +kernel
theorem dX9_row_57 : decode cX9_row 57 = .ok (.iload 4, 2) := by decide +kernel
theorem dX9_row_59 : decode cX9_row 59 = .ok (.iload_n 3, 1) := by decide +kernel
theorem dX9_row_60 : decode cX9_row 60 = .ok (.if_icmp .ge 22, 3) := by decide +kernel
theorem dX9_row_63 : decode cX9_row 63 = .ok (.aload_n 0, 1) := by decide +kernel
theorem dX9_row_64 : decode cX9_row 64 = .ok (.getfield 16, 3) := by decide +kernel
theorem dX9_row_67 : decode cX9_row 67 = .ok (.bipush 60, 2) := by decide +kernel
theorem dX9_row_69 : decode cX9_row 69 = .ok (.iload_n 1, 1) := by decide +kernel
theorem dX9_row_70 : decode cX9_row 70 = .ok (.imul, 1) := by decide +kernel
theorem dX9_row_71 : decode cX9_row 71 = .ok (.iload 4, 2) := by decide +kernel
theorem dX9_row_73 : decode cX9_row 73 = .ok (.iadd, 1) := by decide +kernel
theorem dX9_row_74 : decode cX9_row 74 = .ok (.lconst 0, 1) := by decide +kernel
theorem dX9_row_75 : decode cX9_row 75 = .ok (.lastore, 1) := by decide +kernel
theorem dX9_row_76 : decode cX9_row 76 = .ok (.iinc 4 1, 3) := by decide +kernel
theorem dX9_row_79 : decode cX9_row 79 = .ok (.goto (-22), 3) := by decide +kernel
theorem dX9_row_82 : decode cX9_row 82 = .ok (.iconst 0, 1) := by decide +kernel
theorem dX9_row_83 : decode cX9_row 83 = .ok (.ireturn, 1) := by decide +kernel
theorem dX9_cut_0 : decode cX9_cut 0 = .ok (.iload_n 2, 1) := by decide +kernel
theorem dX9_cut_1 : decode cX9_cut 1 = .ok (.ifCond .ne 10, 3) := by decide +kernel
theorem dX9_cut_4 : decode cX9_cut 4 = .ok (.lload_n 0, 1) := by decide +kernel
theorem dX9_cut_5 : decode cX9_cut 5 = .ok (.l2i, 1) := by decide +kernel
theorem dX9_cut_6 : decode cX9_cut 6 = .ok (.i2b, 1) := by decide +kernel
theorem dX9_cut_7 : decode cX9_cut 7 = .ok (.i2l, 1) := by decide +kernel
theorem dX9_cut_8 : decode cX9_cut 8 = .ok (.goto 27, 3) := by decide +kernel
theorem dX9_cut_11 : decode cX9_cut 11 = .ok (.iload_n 2, 1) := by decide +kernel
theorem dX9_cut_12 : decode cX9_cut 12 = .ok (.iconst 1, 1) := by decide +kernel
theorem dX9_cut_13 : decode cX9_cut 13 = .ok (.if_icmp .ne 10, 3) := by decide +kernel
theorem dX9_cut_16 : decode cX9_cut 16 = .ok (.lload_n 0, 1) := by decide +kernel
theorem dX9_cut_17 : decode cX9_cut 17 = .ok (.l2i, 1) := by decide +kernel
theorem dX9_cut_18 : decode cX9_cut 18 = .ok (.i2s, 1) := by decide +kernel
theorem dX9_cut_19 : decode cX9_cut 19 = .ok (.i2l, 1) := by decide +kernel
theorem dX9_cut_20 : decode cX9_cut 20 = .ok (.goto 15, 3) := by decide +kernel
theorem dX9_cut_23 : decode cX9_cut 23 = .ok (.iload_n 2, 1) := by decide +kernel
theorem dX9_cut_24 : decode cX9_cut 24 = .ok (.iconst 2, 1) := by decide +kernel
theorem dX9_cut_25 : decode cX9_cut 25 = .ok (.if_icmp .ne 9, 3) := by decide +kernel
theorem dX9_cut_28 : decode cX9_cut 28 = .ok (.lload_n 0, 1) := by decide +kernel
theorem dX9_cut_29 : decode cX9_cut 29 = .ok (.l2i, 1) := by decide +kernel
theorem dX9_cut_30 : decode cX9_cut 30 = .ok (.i2l, 1) := by decide +kernel
theorem dX9_cut_31 : decode cX9_cut 31 = .ok (.goto 4, 3) := by decide +kernel
theorem dX9_cut_34 : decode cX9_cut 34 = .ok (.lload_n 0, 1) := by decide +kernel
theorem dX9_cut_35 : decode cX9_cut 35 = .ok (.lreturn, 1) := by decide +kernel
theorem dX9_write_0 : decode cX9_write 0 = .ok (.aload_n 0, 1) := by decide +kernel
theorem dX9_write_1 : decode cX9_write 1 = .ok (.iconst 0, 1) := by decide +kernel
theorem dX9_write_2 : decode cX9_write 2 = .ok (.putfield 71, 3) := by decide +kernel
theorem dX9_write_5 : decode cX9_write 5 = .ok (.iload_n 1, 1) := by decide +kernel
theorem dX9_write_6 : decode cX9_write 6 = .ok (.invokestatic 80, 3) := by decide +kernel
theorem dX9_write_9 : decode cX9_write 9 = .ok (.ifCond .ne 6, 3) := by decide +kernel
theorem dX9_write_12 : decode cX9_write 12 = .ok (.bipush (-2), 2) := by decide +kernel
theorem dX9_write_14 : decode cX9_write 14 = .ok (.ireturn, 1) := by decide +kernel
theorem dX9_write_15 : decode cX9_write 15 = .ok (.aload_n 0, 1) := by decide +kernel
theorem dX9_write_16 : decode cX9_write 16 = .ok (.getfield 7, 3) := by decide +kernel
theorem dX9_write_19 : decode cX9_write 19 = .ok (.iload_n 1, 1) := by decide +kernel
theorem dX9_write_20 : decode cX9_write 20 = .ok (.iaload, 1) := by decide +kernel
theorem dX9_write_21 : decode cX9_write 21 = .ok (.iconst (-1), 1) := by decide +kernel
theorem dX9_write_22 : decode cX9_write 22 = .ok (.if_icmp .ne 6, 3) := by decide +kernel
theorem dX9_write_25 : decode cX9_write 25 = .ok (.bipush (-6), 2) := by decide +kernel
theorem dX9_write_27 : decode cX9_write 27 = .ok (.ireturn, 1) := by decide +kernel
theorem dX9_write_28 : decode cX9_write 28 = .ok (.iload_n 2, 1) := by decide +kernel
theorem dX9_write_29 : decode cX9_write 29 = .ok (.i2l, 1) := by decide +kernel
theorem dX9_write_30 : decode cX9_write 30 = .ok (.lconst 0, 1) := by decide +kernel
theorem dX9_write_31 : decode cX9_write 31 = .ok (.aload_n 0, 1) := by decide +kernel
theorem dX9_write_32 : decode cX9_write 32 = .ok (.getfield 13, 3) := by decide +kernel
theorem dX9_write_35 : decode cX9_write 35 = .ok (.iload_n 1, 1) := by decide +kernel
theorem dX9_write_36 : decode cX9_write 36 = .ok (.iaload, 1) := by decide +kernel
theorem dX9_write_37 : decode cX9_write 37 = .ok (.iconst 1, 1) := by decide +kernel
theorem dX9_write_38 : decode cX9_write 38 = .ok (.isub, 1) := by decide +kernel
theorem dX9_write_39 : decode cX9_write 39 = .ok (.i2l, 1) := by decide +kernel
theorem dX9_write_40 : decode cX9_write 40 = .ok (.invokestatic 76, 3) := by decide +kernel
theorem dX9_write_43 : decode cX9_write 43 = .ok (.ifCond .ne 6, 3) := by decide +kernel
theorem dX9_write_46 : decode cX9_write 46 = .ok (.bipush (-7), 2) := by decide +kernel
theorem dX9_write_48 : decode cX9_write 48 = .ok (.ireturn, 1) := by decide +kernel
theorem dX9_write_49 : decode cX9_write 49 = .ok (.aload_n 0, 1) := by decide +kernel
theorem dX9_write_50 : decode cX9_write 50 = .ok (.getfield 16, 3) := by decide +kernel
theorem dX9_write_53 : decode cX9_write 53 = .ok (.bipush 60, 2) := by decide +kernel
theorem dX9_write_55 : decode cX9_write 55 = .ok (.iload_n 1, 1) := by decide +kernel
theorem dX9_write_56 : decode cX9_write 56 = .ok (.imul, 1) := by decide +kernel
theorem dX9_write_57 : decode cX9_write 57 = .ok (.iload_n 2, 1) := by decide +kernel
theorem dX9_write_58 : decode cX9_write 58 = .ok (.iadd, 1) := by decide +kernel
theorem dX9_write_59 : decode cX9_write 59 = .ok (.lload_n 3, 1) := by decide +kernel
theorem dX9_write_60 : decode cX9_write 60 = .ok (.aload_n 0, 1) := by decide +kernel
theorem dX9_write_61 : decode cX9_write 61 = .ok (.getfield 7, 3) := by decide +kernel
theorem dX9_write_64 : decode cX9_write 64 = .ok (.iload_n 1, 1) := by decide +kernel
theorem dX9_write_65 : decode cX9_write 65 = .ok (.iaload, 1) := by decide +kernel
theorem dX9_write_66 : decode cX9_write 66 = .ok (.invokestatic 84, 3) := by decide +kernel
theorem dX9_write_69 : decode cX9_write 69 = .ok (.lastore, 1) := by decide +kernel
theorem dX9_write_70 : decode cX9_write 70 = .ok (.iconst 0, 1) := by decide +kernel
theorem dX9_write_71 : decode cX9_write 71 = .ok (.ireturn, 1) := by decide +kernel
theorem dX9_paste_0 : decode cX9_paste 0 = .ok (.aload_n 0, 1) := by decide +kernel
theorem dX9_paste_1 : decode cX9_paste 1 = .ok (.iconst 0, 1) := by decide +kernel
theorem dX9_paste_2 : decode cX9_paste 2 = .ok (.putfield 71, 3) := by decide +kernel
theorem dX9_paste_5 : decode cX9_paste 5 = .ok (.iload_n 1, 1) := by decide +kernel
theorem dX9_paste_6 : decode cX9_paste 6 = .ok (.invokestatic 80, 3) := by decide +kernel
theorem dX9_paste_9 : decode cX9_paste 9 = .ok (.ifCond .eq 10, 3) := by decide +kernel
theorem dX9_paste_12 : decode cX9_paste 12 = .ok (.iload_n 3, 1) := by decide +kernel
theorem dX9_paste_13 : decode cX9_paste 13 = .ok (.invokestatic 80, 3) := by decide +kernel
theorem dX9_paste_16 : decode cX9_paste 16 = .ok (.ifCond .ne 6, 3) := by decide +kernel
theorem dX9_paste_19 : decode cX9_paste 19 = .ok (.bipush (-2), 2) := by decide +kernel
theorem dX9_paste_21 : decode cX9_paste 21 = .ok (.ireturn, 1) := by decide +kernel
theorem dX9_paste_22 : decode cX9_paste 22 = .ok (.aload_n 0, 1) := by decide +kernel
theorem dX9_paste_23 : decode cX9_paste 23 = .ok (.getfield 7, 3) := by decide +kernel
theorem dX9_paste_26 : decode cX9_paste 26 = .ok (.iload_n 1, 1) := by decide +kernel
theorem dX9_paste_27 : decode cX9_paste 27 = .ok (.iaload, 1) := by decide +kernel
theorem dX9_paste_28 : decode cX9_paste 28 = .ok (.iconst (-1), 1) := by decide +kernel
theorem dX9_paste_29 : decode cX9_paste 29 = .ok (.if_icmp .eq 13, 3) := by decide +kernel
theorem dX9_paste_32 : decode cX9_paste 32 = .ok (.aload_n 0, 1) := by decide +kernel
theorem dX9_paste_33 : decode cX9_paste 33 = .ok (.getfield 7, 3) := by decide +kernel
theorem dX9_paste_36 : decode cX9_paste 36 = .ok (.iload_n 3, 1) := by decide +kernel
theorem dX9_paste_37 : decode cX9_paste 37 = .ok (.iaload, 1) := by decide +kernel
theorem dX9_paste_38 : decode cX9_paste 38 = .ok (.iconst (-1), 1) := by decide +kernel
theorem dX9_paste_39 : decode cX9_paste 39 = .ok (.if_icmp .ne 6, 3) := by decide +kernel
theorem dX9_paste_42 : decode cX9_paste 42 = .ok (.bipush (-6), 2) := by decide +kernel
theorem dX9_paste_44 : decode cX9_paste 44 = .ok (.ireturn, 1) := by decide +kernel
theorem dX9_paste_45 : decode cX9_paste 45 = .ok (.aload_n 0, 1) := by decide +kernel
theorem dX9_paste_46 : decode cX9_paste 46 = .ok (.getfield 7, 3) := by decide +kernel
theorem dX9_paste_49 : decode cX9_paste 49 = .ok (.iload_n 1, 1) := by decide +kernel
theorem dX9_paste_50 : decode cX9_paste 50 = .ok (.iaload, 1) := by decide +kernel
theorem dX9_paste_51 : decode cX9_paste 51 = .ok (.aload_n 0, 1) := by decide +kernel
theorem dX9_paste_52 : decode cX9_paste 52 = .ok (.getfield 7, 3) := by decide +kernel
theorem dX9_paste_55 : decode cX9_paste 55 = .ok (.iload_n 3, 1) := by decide +kernel
theorem dX9_paste_56 : decode cX9_paste 56 = .ok (.iaload, 1) := by decide +kernel
theorem dX9_paste_57 : decode cX9_paste 57 = .ok (.if_icmp .eq 6, 3) := by decide +kernel
theorem dX9_paste_60 : decode cX9_paste 60 = .ok (.bipush (-8), 2) := by decide +kernel
theorem dX9_paste_62 : decode cX9_paste 62 = .ok (.ireturn, 1) := by decide +kernel
theorem dX9_paste_63 : decode cX9_paste 63 = .ok (.iload_n 2, 1) := by decide +kernel
theorem dX9_paste_64 : decode cX9_paste 64 = .ok (.ifCond .lt 48, 3) := by decide +kernel
theorem dX9_paste_67 : decode cX9_paste 67 = .ok (.iload 4, 2) := by decide +kernel
theorem dX9_paste_69 : decode cX9_paste 69 = .ok (.ifCond .lt 43, 3) := by decide +kernel
theorem dX9_paste_72 : decode cX9_paste 72 = .ok (.iload 5, 2) := by decide +kernel
theorem dX9_paste_74 : decode cX9_paste 74 = .ok (.ifCond .lt 38, 3) := by decide +kernel
theorem dX9_paste_77 : decode cX9_paste 77 = .ok (.iload_n 2, 1) := by decide +kernel
theorem dX9_paste_78 : decode cX9_paste 78 = .ok (.i2l, 1) := by decide +kernel
theorem dX9_paste_79 : decode cX9_paste 79 = .ok (.iload 5, 2) := by decide +kernel
theorem dX9_paste_81 : decode cX9_paste 81 = .ok (.i2l, 1) := by decide +kernel
theorem dX9_paste_82 : decode cX9_paste 82 = .ok (.ladd, 1) := by decide +kernel
theorem dX9_paste_83 : decode cX9_paste 83 = .ok (.aload_n 0, 1) := by decide +kernel
theorem dX9_paste_84 : decode cX9_paste 84 = .ok (.getfield 13, 3) := by decide +kernel
theorem dX9_paste_87 : decode cX9_paste 87 = .ok (.iload_n 1, 1) := by decide +kernel
theorem dX9_paste_88 : decode cX9_paste 88 = .ok (.iaload, 1) := by decide +kernel
theorem dX9_paste_89 : decode cX9_paste 89 = .ok (.i2l, 1) := by decide +kernel
theorem dX9_paste_90 : decode cX9_paste 90 = .ok (.lcmp, 1) := by decide +kernel
theorem dX9_paste_91 : decode cX9_paste 91 = .ok (.ifCond .gt 21, 3) := by decide +kernel
theorem dX9_paste_94 : decode cX9_paste 94 = .ok (.iload 4, 2) := by decide +kernel
theorem dX9_paste_96 : decode cX9_paste 96 = .ok (.i2l, 1) := by decide +kernel
theorem dX9_paste_97 : decode cX9_paste 97 = .ok (.iload 5, 2) := by decide +kernel
theorem dX9_paste_99 : decode cX9_paste 99 = .ok (.i2l, 1) := by decide +kernel
theorem dX9_paste_100 : decode cX9_paste 100 = .ok (.ladd, 1) := by decide +kernel
theorem dX9_paste_101 : decode cX9_paste 101 = .ok (.aload_n 0, 1) := by decide +kernel
theorem dX9_paste_102 : decode cX9_paste 102 = .ok (.getfield 13, 3) := by decide +kernel
theorem dX9_paste_105 : decode cX9_paste 105 = .ok (.iload_n 3, 1) := by decide +kernel
theorem dX9_paste_106 : decode cX9_paste 106 = .ok (.iaload, 1) := by decide +kernel
theorem dX9_paste_107 : decode cX9_paste 107 = .ok (.i2l, 1) := by decide +kernel
theorem dX9_paste_108 : decode cX9_paste 108 = .ok (.lcmp, 1) := by decide +kernel
theorem dX9_paste_109 : decode cX9_paste 109 = .ok (.ifCond .le 6, 3) := by decide +kernel
theorem dX9_paste_112 : decode cX9_paste 112 = .ok (.bipush (-7), 2) := by decide +kernel
theorem dX9_paste_114 : decode cX9_paste 114 = .ok (.ireturn, 1) := by decide +kernel
theorem dX9_paste_115 : decode cX9_paste 115 = .ok (.iconst 0, 1) := by decide +kernel
theorem dX9_paste_116 : decode cX9_paste 116 = .ok (.istore 6, 2) := by decide +kernel
theorem dX9_paste_118 : decode cX9_paste 118 = .ok (.iload 6, 2) := by decide +kernel
theorem dX9_paste_120 : decode cX9_paste 120 = .ok (.iload 5, 2) := by decide +kernel
theorem dX9_paste_122 : decode cX9_paste 122 = .ok (.if_icmp .ge 30, 3) := by decide +kernel
theorem dX9_paste_125 : decode cX9_paste 125 = .ok (.aload_n 0, 1) := by decide +kernel
theorem dX9_paste_126 : decode cX9_paste 126 = .ok (.getfield 20, 3) := by decide +kernel
theorem dX9_paste_129 : decode cX9_paste 129 = .ok (.iload 6, 2) := by decide +kernel
theorem dX9_paste_131 : decode cX9_paste 131 = .ok (.aload_n 0, 1) := by decide +kernel
theorem dX9_paste_132 : decode cX9_paste 132 = .ok (.getfield 16, 3) := by decide +kernel
theorem dX9_paste_135 : decode cX9_paste 135 = .ok (.bipush 60, 2) := by decide +kernel
theorem dX9_paste_137 : decode cX9_paste 137 = .ok (.iload_n 1, 1) := by decide +kernel
theorem dX9_paste_138 : decode cX9_paste 138 = .ok (.imul, 1) := by decide +kernel
theorem dX9_paste_139 : decode cX9_paste 139 = .ok (.iload_n 2, 1) := by decide +kernel
theorem dX9_paste_140 : decode cX9_paste 140 = .ok (.iadd, 1) := by decide +kernel
theorem dX9_paste_141 : decode cX9_paste 141 = .ok (.iload 6, 2) := by decide +kernel
theorem dX9_paste_143 : decode cX9_paste 143 = .ok (.iadd, 1) := by decide +kernel
theorem dX9_paste_144 : decode cX9_paste 144 = .ok (.laload, 1) := by decide +kernel
theorem dX9_paste_145 : decode cX9_paste 145 = .ok (.lastore, 1) := by decide +kernel
theorem dX9_paste_146 : decode cX9_paste 146 = .ok (.iinc 6 1, 3) := by decide +kernel
theorem dX9_paste_149 : decode cX9_paste 149 = .ok (.goto (-31), 3) := by decide +kernel
theorem dX9_paste_152 : decode cX9_paste 152 = .ok (.iconst 0, 1) := by decide +kernel
theorem dX9_paste_153 : decode cX9_paste 153 = .ok (.istore 6, 2) := by decide +kernel
theorem dX9_paste_155 : decode cX9_paste 155 = .ok (.iload 6, 2) := by decide +kernel
theorem dX9_paste_157 : decode cX9_paste 157 = .ok (.iload 5, 2) := by decide +kernel
theorem dX9_paste_159 : decode cX9_paste 159 = .ok (.if_icmp .ge 31, 3) := by decide +kernel
theorem dX9_paste_162 : decode cX9_paste 162 = .ok (.aload_n 0, 1) := by decide +kernel
theorem dX9_paste_163 : decode cX9_paste 163 = .ok (.getfield 16, 3) := by decide +kernel
theorem dX9_paste_166 : decode cX9_paste 166 = .ok (.bipush 60, 2) := by decide +kernel
theorem dX9_paste_168 : decode cX9_paste 168 = .ok (.iload_n 3, 1) := by decide +kernel
theorem dX9_paste_169 : decode cX9_paste 169 = .ok (.imul, 1) := by decide +kernel
theorem dX9_paste_170 : decode cX9_paste 170 = .ok (.iload 4, 2) := by decide +kernel
theorem dX9_paste_172 : decode cX9_paste 172 = .ok (.iadd, 1) := by decide +kernel
theorem dX9_paste_173 : decode cX9_paste 173 = .ok (.iload 6, 2) := by decide +kernel
theorem dX9_paste_175 : decode cX9_paste 175 = .ok (.iadd, 1) := by decide +kernel
theorem dX9_paste_176 : decode cX9_paste 176 = .ok (.aload_n 0, 1) := by decide +kernel
theorem dX9_paste_177 : decode cX9_paste 177 = .ok (.getfield 20, 3) := by decide +kernel
theorem dX9_paste_180 : decode cX9_paste 180 = .ok (.iload 6, 2) := by decide +kernel
theorem dX9_paste_182 : decode cX9_paste 182 = .ok (.laload, 1) := by decide +kernel
theorem dX9_paste_183 : decode cX9_paste 183 = .ok (.lastore, 1) := by decide +kernel
theorem dX9_paste_184 : decode cX9_paste 184 = .ok (.iinc 6 1, 3) := by decide +kernel
theorem dX9_paste_187 : decode cX9_paste 187 = .ok (.goto (-32), 3) := by decide +kernel
theorem dX9_paste_190 : decode cX9_paste 190 = .ok (.iconst 0, 1) := by decide +kernel
theorem dX9_paste_191 : decode cX9_paste 191 = .ok (.ireturn, 1) := by decide +kernel
theorem dX9_feed_0 : decode cX9_feed 0 = .ok (.aload_n 0, 1) := by decide +kernel
theorem dX9_feed_1 : decode cX9_feed 1 = .ok (.iconst 0, 1) := by decide +kernel
theorem dX9_feed_2 : decode cX9_feed 2 = .ok (.putfield 71, 3) := by decide +kernel
theorem dX9_feed_5 : decode cX9_feed 5 = .ok (.aload_n 0, 1) := by decide +kernel
theorem dX9_feed_6 : decode cX9_feed 6 = .ok (.getfield 88, 3) := by decide +kernel
theorem dX9_feed_9 : decode cX9_feed 9 = .ok (.bipush 20, 2) := by decide +kernel
theorem dX9_feed_11 : decode cX9_feed 11 = .ok (.iadd, 1) := by decide +kernel
theorem dX9_feed_12 : decode cX9_feed 12 = .ok (.sipush 900, 3) := by decide +kernel
theorem dX9_feed_15 : decode cX9_feed 15 = .ok (.if_icmp .le 5, 3) := by decide +kernel
theorem dX9_feed_18 : decode cX9_feed 18 = .ok (.iconst (-1), 1) := by decide +kernel
theorem dX9_feed_19 : decode cX9_feed 19 = .ok (.ireturn, 1) := by decide +kernel
theorem dX9_feed_20 : decode cX9_feed 20 = .ok (.aload_n 0, 1) := by decide +kernel
theorem dX9_feed_21 : decode cX9_feed 21 = .ok (.iload_n 1, 1) := by decide +kernel
theorem dX9_feed_22 : decode cX9_feed 22 = .ok (.invokevirtual 91, 3) := by decide +kernel
theorem dX9_feed_25 : decode cX9_feed 25 = .ok (.aload_n 0, 1) := by decide +kernel
theorem dX9_feed_26 : decode cX9_feed 26 = .ok (.iload_n 2, 1) := by decide +kernel
theorem dX9_feed_27 : decode cX9_feed 27 = .ok (.invokevirtual 91, 3) := by decide +kernel
theorem dX9_feed_30 : decode cX9_feed 30 = .ok (.aload_n 0, 1) := by decide +kernel
theorem dX9_feed_31 : decode cX9_feed 31 = .ok (.iload_n 3, 1) := by decide +kernel
theorem dX9_feed_32 : decode cX9_feed 32 = .ok (.invokevirtual 91, 3) := by decide +kernel
theorem dX9_feed_35 : decode cX9_feed 35 = .ok (.aload_n 0, 1) := by decide +kernel
theorem dX9_feed_36 : decode cX9_feed 36 = .ok (.iload 4, 2) := by decide +kernel
theorem dX9_feed_38 : decode cX9_feed 38 = .ok (.invokevirtual 91, 3) := by decide +kernel
theorem dX9_feed_41 : decode cX9_feed 41 = .ok (.aload_n 0, 1) := by decide +kernel
theorem dX9_feed_42 : decode cX9_feed 42 = .ok (.iload 5, 2) := by decide +kernel
theorem dX9_feed_44 : decode cX9_feed 44 = .ok (.invokevirtual 91, 3) := by decide +kernel
theorem dX9_feed_47 : decode cX9_feed 47 = .ok (.aload_n 0, 1) := by decide +kernel
theorem dX9_feed_48 : decode cX9_feed 48 = .ok (.getfield 88, 3) := by decide +kernel
theorem dX9_feed_51 : decode cX9_feed 51 = .ok (.ireturn, 1) := by decide +kernel
theorem dX9_four_0 : decode cX9_four 0 = .ok (.bipush 24, 2) := by decide +kernel
theorem dX9_four_2 : decode cX9_four 2 = .ok (.istore_n 2, 1) := by decide +kernel
theorem dX9_four_3 : decode cX9_four 3 = .ok (.iload_n 2, 1) := by decide +kernel
theorem dX9_four_4 : decode cX9_four 4 = .ok (.ifCond .lt 32, 3) := by decide +kernel
theorem dX9_four_7 : decode cX9_four 7 = .ok (.aload_n 0, 1) := by decide +kernel
theorem dX9_four_8 : decode cX9_four 8 = .ok (.getfield 23, 3) := by decide +kernel
theorem dX9_four_11 : decode cX9_four 11 = .ok (.aload_n 0, 1) := by decide +kernel
theorem dX9_four_12 : decode cX9_four 12 = .ok (.getfield 88, 3) := by decide +kernel
theorem dX9_four_15 : decode cX9_four 15 = .ok (.iload_n 1, 1) := by decide +kernel
theorem dX9_four_16 : decode cX9_four 16 = .ok (.iload_n 2, 1) := by decide +kernel
theorem dX9_four_17 : decode cX9_four 17 = .ok (.ishr, 1) := by decide +kernel
theorem dX9_four_18 : decode cX9_four 18 = .ok (.i2b, 1) := by decide +kernel
theorem dX9_four_19 : decode cX9_four 19 = .ok (.bastore, 1) := by decide +kernel
theorem dX9_four_20 : decode cX9_four 20 = .ok (.aload_n 0, 1) := by decide +kernel
theorem dX9_four_21 : decode cX9_four 21 = .ok (.dup, 1) := by decide +kernel
theorem dX9_four_22 : decode cX9_four 22 = .ok (.getfield 88, 3) := by decide +kernel
theorem dX9_four_25 : decode cX9_four 25 = .ok (.iconst 1, 1) := by decide +kernel
theorem dX9_four_26 : decode cX9_four 26 = .ok (.iadd, 1) := by decide +kernel
theorem dX9_four_27 : decode cX9_four 27 = .ok (.putfield 88, 3) := by decide +kernel
theorem dX9_four_30 : decode cX9_four 30 = .ok (.iinc 2 (-8), 3) := by decide +kernel
theorem dX9_four_33 : decode cX9_four 33 = .ok (.goto (-30), 3) := by decide +kernel
theorem dX9_four_36 : decode cX9_four 36 = .ok (.return_, 1) := by decide +kernel
theorem dX9_end_0 : decode cX9_end 0 = .ok (.aload_n 0, 1) := by decide +kernel
theorem dX9_end_1 : decode cX9_end 1 = .ok (.iconst 0, 1) := by decide +kernel
theorem dX9_end_2 : decode cX9_end 2 = .ok (.putfield 71, 3) := by decide +kernel
theorem dX9_end_5 : decode cX9_end 5 = .ok (.iload_n 1, 1) := by decide +kernel
theorem dX9_end_6 : decode cX9_end 6 = .ok (.i2l, 1) := by decide +kernel
theorem dX9_end_7 : decode cX9_end 7 = .ok (.lconst 0, 1) := by decide +kernel
theorem dX9_end_8 : decode cX9_end 8 = .ok (.aload_n 0, 1) := by decide +kernel
theorem dX9_end_9 : decode cX9_end 9 = .ok (.getfield 88, 3) := by decide +kernel
theorem dX9_end_12 : decode cX9_end 12 = .ok (.i2l, 1) := by decide +kernel
theorem dX9_end_13 : decode cX9_end 13 = .ok (.invokestatic 76, 3) := by decide +kernel
theorem dX9_end_16 : decode cX9_end 16 = .ok (.ifCond .ne 5, 3) := by decide +kernel
theorem dX9_end_19 : decode cX9_end 19 = .ok (.iconst (-1), 1) := by decide +kernel
theorem dX9_end_20 : decode cX9_end 20 = .ok (.ireturn, 1) := by decide +kernel
theorem dX9_end_21 : decode cX9_end 21 = .ok (.aload_n 0, 1) := by decide +kernel
theorem dX9_end_22 : decode cX9_end 22 = .ok (.iload_n 1, 1) := by decide +kernel
theorem dX9_end_23 : decode cX9_end 23 = .ok (.putfield 88, 3) := by decide +kernel
theorem dX9_end_26 : decode cX9_end 26 = .ok (.iload_n 1, 1) := by decide +kernel
theorem dX9_end_27 : decode cX9_end 27 = .ok (.ireturn, 1) := by decide +kernel
theorem dX9_isByte_0 : decode cX9_isByte 0 = .ok (.iload_n 1, 1) := by decide +kernel
theorem dX9_isByte_1 : decode cX9_isByte 1 = .ok (.aload_n 0, 1) := by decide +kernel
theorem dX9_isByte_2 : decode cX9_isByte 2 = .ok (.getfield 88, 3) := by decide +kernel
theorem dX9_isByte_5 : decode cX9_isByte 5 = .ok (.if_icmp .ge 27, 3) := by decide +kernel
theorem dX9_isByte_8 : decode cX9_isByte 8 = .ok (.aload_n 0, 1) := by decide +kernel
theorem dX9_isByte_9 : decode cX9_isByte 9 = .ok (.getfield 23, 3) := by decide +kernel
theorem dX9_isByte_12 : decode cX9_isByte 12 = .ok (.iload_n 1, 1) := by decide +kernel
theorem dX9_isByte_13 : decode cX9_isByte 13 = .ok (.baload, 1) := by decide +kernel
theorem dX9_isByte_14 : decode cX9_isByte 14 = .ok (.iload_n 2, 1) := by decide +kernel
theorem dX9_isByte_15 : decode cX9_isByte 15 = .ok (.if_icmp .lt 17, 3) := by decide +kernel
theorem dX9_isByte_18 : decode cX9_isByte 18 = .ok (.aload_n 0, 1) := by decide +kernel
theorem dX9_isByte_19 : decode cX9_isByte 19 = .ok (.getfield 23, 3) := by decide +kernel
theorem dX9_isByte_22 : decode cX9_isByte 22 = .ok (.iload_n 1, 1) := by decide +kernel
theorem dX9_isByte_23 : decode cX9_isByte 23 = .ok (.baload, 1) := by decide +kernel
theorem dX9_isByte_24 : decode cX9_isByte 24 = .ok (.iload_n 3, 1) := by decide +kernel
theorem dX9_isByte_25 : decode cX9_isByte 25 = .ok (.if_icmp .gt 7, 3) := by decide +kernel
theorem dX9_isByte_28 : decode cX9_isByte 28 = .ok (.iconst 1, 1) := by decide +kernel
theorem dX9_isByte_29 : decode cX9_isByte 29 = .ok (.goto 4, 3) := by decide +kernel
theorem dX9_isByte_32 : decode cX9_isByte 32 = .ok (.iconst 0, 1) := by decide +kernel
theorem dX9_isByte_33 : decode cX9_isByte 33 = .ok (.ireturn, 1) := by decide +kernel
theorem dX9_next_0 : decode cX9_next 0 = .ok (.aload_n 0, 1) := by decide +kernel
theorem dX9_next_1 : decode cX9_next 1 = .ok (.aload_n 0, 1) := by decide +kernel
theorem dX9_next_2 : decode cX9_next 2 = .ok (.getfield 95, 3) := by decide +kernel
theorem dX9_next_5 : decode cX9_next 5 = .ok (.bipush 32, 2) := by decide +kernel
theorem dX9_next_7 : decode cX9_next 7 = .ok (.bipush 32, 2) := by decide +kernel
theorem dX9_next_9 : decode cX9_next 9 = .ok (.invokevirtual 98, 3) := by decide +kernel
theorem dX9_next_12 : decode cX9_next 12 = .ok (.ifCond .ne 18, 3) := by decide +kernel
theorem dX9_next_15 : decode cX9_next 15 = .ok (.aload_n 0, 1) := by decide +kernel
theorem dX9_next_16 : decode cX9_next 16 = .ok (.aload_n 0, 1) := by decide +kernel
theorem dX9_next_17 : decode cX9_next 17 = .ok (.getfield 95, 3) := by decide +kernel
theorem dX9_next_20 : decode cX9_next 20 = .ok (.bipush 10, 2) := by decide +kernel
theorem dX9_next_22 : decode cX9_next 22 = .ok (.bipush 10, 2) := by decide +kernel
theorem dX9_next_24 : decode cX9_next 24 = .ok (.invokevirtual 98, 3) := by decide +kernel
theorem dX9_next_27 : decode cX9_next 27 = .ok (.ifCond .eq 16, 3) := by decide +kernel
theorem dX9_next_30 : decode cX9_next 30 = .ok (.aload_n 0, 1) := by decide +kernel
theorem dX9_next_31 : decode cX9_next 31 = .ok (.dup, 1) := by decide +kernel
theorem dX9_next_32 : decode cX9_next 32 = .ok (.getfield 95, 3) := by decide +kernel
theorem dX9_next_35 : decode cX9_next 35 = .ok (.iconst 1, 1) := by decide +kernel
theorem dX9_next_36 : decode cX9_next 36 = .ok (.iadd, 1) := by decide +kernel
theorem dX9_next_37 : decode cX9_next 37 = .ok (.putfield 95, 3) := by decide +kernel
theorem dX9_next_40 : decode cX9_next 40 = .ok (.goto (-40), 3) := by decide +kernel
theorem dX9_next_43 : decode cX9_next 43 = .ok (.aload_n 0, 1) := by decide +kernel
theorem dX9_next_44 : decode cX9_next 44 = .ok (.aload_n 0, 1) := by decide +kernel
theorem dX9_next_45 : decode cX9_next 45 = .ok (.getfield 95, 3) := by decide +kernel
theorem dX9_next_48 : decode cX9_next 48 = .ok (.putfield 102, 3) := by decide +kernel
theorem dX9_next_51 : decode cX9_next 51 = .ok (.aload_n 0, 1) := by decide +kernel
theorem dX9_next_52 : decode cX9_next 52 = .ok (.iconst 0, 1) := by decide +kernel
theorem dX9_next_53 : decode cX9_next 53 = .ok (.putfield 105, 3) := by decide +kernel
theorem dX9_next_56 : decode cX9_next 56 = .ok (.aload_n 0, 1) := by decide +kernel
theorem dX9_next_57 : decode cX9_next 57 = .ok (.lconst 0, 1) := by decide +kernel
theorem dX9_next_58 : decode cX9_next 58 = .ok (.putfield 108, 3) := by decide +kernel
theorem dX9_next_61 : decode cX9_next 61 = .ok (.aload_n 0, 1) := by decide +kernel
theorem dX9_next_62 : decode cX9_next 62 = .ok (.getfield 95, 3) := by decide +kernel
theorem dX9_next_65 : decode cX9_next 65 = .ok (.aload_n 0, 1) := by decide +kernel
theorem dX9_next_66 : decode cX9_next 66 = .ok (.getfield 88, 3) := by decide +kernel
theorem dX9_next_69 : decode cX9_next 69 = .ok (.if_icmp .ne 11, 3) := by decide +kernel
theorem dX9_next_72 : decode cX9_next 72 = .ok (.aload_n 0, 1) := by decide +kernel
theorem dX9_next_73 : decode cX9_next 73 = .ok (.iconst 0, 1) := by decide +kernel
theorem dX9_next_74 : decode cX9_next 74 = .ok (.putfield 112, 3) := by decide +kernel
theorem dX9_next_77 : decode cX9_next 77 = .ok (.goto 230, 3) := by decide +kernel
theorem dX9_next_80 : decode cX9_next 80 = .ok (.aload_n 0, 1) := by decide +kernel
theorem dX9_next_81 : decode cX9_next 81 = .ok (.aload_n 0, 1) := by decide +kernel
theorem dX9_next_82 : decode cX9_next 82 = .ok (.getfield 95, 3) := by decide +kernel
theorem dX9_next_85 : decode cX9_next 85 = .ok (.bipush 97, 2) := by decide +kernel
theorem dX9_next_87 : decode cX9_next 87 = .ok (.bipush 122, 2) := by decide +kernel
theorem dX9_next_89 : decode cX9_next 89 = .ok (.invokevirtual 98, 3) := by decide +kernel
theorem dX9_next_92 : decode cX9_next 92 = .ok (.ifCond .eq 96, 3) := by decide +kernel
theorem dX9_next_95 : decode cX9_next 95 = .ok (.aload_n 0, 1) := by decide +kernel
theorem dX9_next_96 : decode cX9_next 96 = .ok (.iconst 1, 1) := by decide +kernel
theorem dX9_next_97 : decode cX9_next 97 = .ok (.putfield 112, 3) := by decide +kernel
theorem dX9_next_100 : decode cX9_next 100 = .ok (.iconst 0, 1) := by decide +kernel
theorem dX9_next_101 : decode cX9_next 101 = .ok (.istore_n 1, 1) := by decide +kernel
theorem dX9_next_102 : decode cX9_next 102 = .ok (.aload_n 0, 1) := by decide +kernel
theorem dX9_next_103 : decode cX9_next 103 = .ok (.aload_n 0, 1) := by decide +kernel
theorem dX9_next_104 : decode cX9_next 104 = .ok (.getfield 95, 3) := by decide +kernel
theorem dX9_next_107 : decode cX9_next 107 = .ok (.bipush 97, 2) := by decide +kernel
theorem dX9_next_109 : decode cX9_next 109 = .ok (.bipush 122, 2) := by decide +kernel
theorem dX9_next_111 : decode cX9_next 111 = .ok (.invokevirtual 98, 3) := by decide +kernel
theorem dX9_next_114 : decode cX9_next 114 = .ok (.ifCond .eq 71, 3) := by decide +kernel
theorem dX9_next_117 : decode cX9_next 117 = .ok (.aload_n 0, 1) := by decide +kernel
theorem dX9_next_118 : decode cX9_next 118 = .ok (.iload_n 1, 1) := by decide +kernel
theorem dX9_next_119 : decode cX9_next 119 = .ok (.bipush 11, 2) := by decide +kernel
theorem dX9_next_121 : decode cX9_next 121 = .ok (.if_icmp .le 9, 3) := by decide +kernel
theorem dX9_next_124 : decode cX9_next 124 = .ok (.ldc2_w 115, 3) := by decide +kernel
theorem dX9_next_127 : decode cX9_next 127 = .ok (.goto 26, 3) := by decide +kernel
theorem dX9_next_130 : decode cX9_next 130 = .ok (.ldc2_w 117, 3) := by decide +kernel
theorem dX9_next_133 : decode cX9_next 133 = .ok (.aload_n 0, 1) := by decide +kernel
theorem dX9_next_134 : decode cX9_next 134 = .ok (.getfield 108, 3) := by decide +kernel
theorem dX9_next_137 : decode cX9_next 137 = .ok (.lmul, 1) := by decide +kernel
theorem dX9_next_138 : decode cX9_next 138 = .ok (.aload_n 0, 1) := by decide +kernel
theorem dX9_next_139 : decode cX9_next 139 = .ok (.getfield 23, 3) := by decide +kernel
theorem dX9_next_142 : decode cX9_next 142 = .ok (.aload_n 0, 1) := by decide +kernel
theorem dX9_next_143 : decode cX9_next 143 = .ok (.getfield 95, 3) := by decide +kernel
theorem dX9_next_146 : decode cX9_next 146 = .ok (.baload, 1) := by decide +kernel
theorem dX9_next_147 : decode cX9_next 147 = .ok (.i2l, 1) := by decide +kernel
theorem dX9_next_148 : decode cX9_next 148 = .ok (.ladd, 1) := by decide +kernel
theorem dX9_next_149 : decode cX9_next 149 = .ok (.ldc2_w 119, 3) := by decide +kernel
theorem dX9_next_152 : decode cX9_next 152 = .ok (.lsub, 1) := by decide +kernel
theorem dX9_next_153 : decode cX9_next 153 = .ok (.putfield 108, 3) := by decide +kernel
theorem dX9_next_156 : decode cX9_next 156 = .ok (.iload_n 1, 1) := by decide +kernel
theorem dX9_next_157 : decode cX9_next 157 = .ok (.bipush 11, 2) := by decide +kernel
theorem dX9_next_159 : decode cX9_next 159 = .ok (.if_icmp .le 10, 3) := by decide +kernel
theorem dX9_next_162 : decode cX9_next 162 = .ok (.aload_n 0, 1) := by decide +kernel
theorem dX9_next_163 : decode cX9_next 163 = .ok (.ldc2_w 115, 3) := by decide +kernel
theorem dX9_next_166 : decode cX9_next 166 = .ok (.putfield 108, 3) := by decide +kernel
theorem dX9_next_169 : decode cX9_next 169 = .ok (.aload_n 0, 1) := by decide +kernel
theorem dX9_next_170 : decode cX9_next 170 = .ok (.dup, 1) := by decide +kernel
theorem dX9_next_171 : decode cX9_next 171 = .ok (.getfield 95, 3) := by decide +kernel
theorem dX9_next_174 : decode cX9_next 174 = .ok (.iconst 1, 1) := by decide +kernel
theorem dX9_next_175 : decode cX9_next 175 = .ok (.iadd, 1) := by decide +kernel
theorem dX9_next_176 : decode cX9_next 176 = .ok (.putfield 95, 3) := by decide +kernel
theorem dX9_next_179 : decode cX9_next 179 = .ok (.iinc 1 1, 3) := by decide +kernel
theorem dX9_next_182 : decode cX9_next 182 = .ok (.goto (-80), 3) := by decide +kernel
theorem dX9_next_185 : decode cX9_next 185 = .ok (.goto 122, 3) := by decide +kernel
theorem dX9_next_188 : decode cX9_next 188 = .ok (.aload_n 0, 1) := by decide +kernel
theorem dX9_next_189 : decode cX9_next 189 = .ok (.aload_n 0, 1) := by decide +kernel
theorem dX9_next_190 : decode cX9_next 190 = .ok (.getfield 95, 3) := by decide +kernel
theorem dX9_next_193 : decode cX9_next 193 = .ok (.bipush 48, 2) := by decide +kernel
theorem dX9_next_195 : decode cX9_next 195 = .ok (.bipush 57, 2) := by decide +kernel
theorem dX9_next_197 : decode cX9_next 197 = .ok (.invokevirtual 98, 3) := by decide +kernel
theorem dX9_next_200 : decode cX9_next 200 = .ok (.ifCond .eq 74, 3) := by decide +kernel
theorem dX9_next_203 : decode cX9_next 203 = .ok (.aload_n 0, 1) := by decide +kernel
theorem dX9_next_204 : decode cX9_next 204 = .ok (.iconst 2, 1) := by decide +kernel
theorem dX9_next_205 : decode cX9_next 205 = .ok (.putfield 112, 3) := by decide +kernel
theorem dX9_next_208 : decode cX9_next 208 = .ok (.aload_n 0, 1) := by decide +kernel
theorem dX9_next_209 : decode cX9_next 209 = .ok (.aload_n 0, 1) := by decide +kernel
theorem dX9_next_210 : decode cX9_next 210 = .ok (.getfield 95, 3) := by decide +kernel
theorem dX9_next_213 : decode cX9_next 213 = .ok (.bipush 48, 2) := by decide +kernel
theorem dX9_next_215 : decode cX9_next 215 = .ok (.bipush 57, 2) := by decide +kernel
theorem dX9_next_217 : decode cX9_next 217 = .ok (.invokevirtual 98, 3) := by decide +kernel
theorem dX9_next_220 : decode cX9_next 220 = .ok (.ifCond .eq 87, 3) := by decide +kernel
theorem dX9_next_223 : decode cX9_next 223 = .ok (.aload_n 0, 1) := by decide +kernel
theorem dX9_next_224 : decode cX9_next 224 = .ok (.aload_n 0, 1) := by decide +kernel
theorem dX9_next_225 : decode cX9_next 225 = .ok (.getfield 105, 3) := by decide +kernel
theorem dX9_next_228 : decode cX9_next 228 = .ok (.ldc 121, 2) := by decide +kernel
theorem dX9_next_230 : decode cX9_next 230 = .ok (.if_icmp .le 8, 3) := by decide +kernel
theorem dX9_next_233 : decode cX9_next 233 = .ok (.ldc 122, 2) := by decide +kernel
theorem dX9_next_235 : decode cX9_next 235 = .ok (.goto 23, 3) := by decide +kernel
theorem dX9_next_238 : decode cX9_next 238 = .ok (.bipush 10, 2) := by decide +kernel
theorem dX9_next_240 : decode cX9_next 240 = .ok (.aload_n 0, 1) := by decide +kernel
theorem dX9_next_241 : decode cX9_next 241 = .ok (.getfield 105, 3) := by decide +kernel
theorem dX9_next_244 : decode cX9_next 244 = .ok (.imul, 1) := by decide +kernel
theorem dX9_next_245 : decode cX9_next 245 = .ok (.aload_n 0, 1) := by decide +kernel
theorem dX9_next_246 : decode cX9_next 246 = .ok (.getfield 23, 3) := by decide +kernel
theorem dX9_next_249 : decode cX9_next 249 = .ok (.aload_n 0, 1) := by decide +kernel
theorem dX9_next_250 : decode cX9_next 250 = .ok (.getfield 95, 3) := by decide +kernel
theorem dX9_next_253 : decode cX9_next 253 = .ok (.baload, 1) := by decide +kernel
theorem dX9_next_254 : decode cX9_next 254 = .ok (.iadd, 1) := by decide +kernel
theorem dX9_next_255 : decode cX9_next 255 = .ok (.bipush 48, 2) := by decide +kernel
theorem dX9_next_257 : decode cX9_next 257 = .ok (.isub, 1) := by decide +kernel
theorem dX9_next_258 : decode cX9_next 258 = .ok (.putfield 105, 3) := by decide +kernel
theorem dX9_next_261 : decode cX9_next 261 = .ok (.aload_n 0, 1) := by decide +kernel
theorem dX9_next_262 : decode cX9_next 262 = .ok (.dup, 1) := by decide +kernel
theorem dX9_next_263 : decode cX9_next 263 = .ok (.getfield 95, 3) := by decide +kernel
theorem dX9_next_266 : decode cX9_next 266 = .ok (.iconst 1, 1) := by decide +kernel
theorem dX9_next_267 : decode cX9_next 267 = .ok (.iadd, 1) := by decide +kernel
theorem dX9_next_268 : decode cX9_next 268 = .ok (.putfield 95, 3) := by decide +kernel
theorem dX9_next_271 : decode cX9_next 271 = .ok (.goto (-63), 3) := by decide +kernel
theorem dX9_next_274 : decode cX9_next 274 = .ok (.aload_n 0, 1) := by decide +kernel
theorem dX9_next_275 : decode cX9_next 275 = .ok (.aload_n 0, 1) := by decide +kernel
theorem dX9_next_276 : decode cX9_next 276 = .ok (.getfield 23, 3) := by decide +kernel
theorem dX9_next_279 : decode cX9_next 279 = .ok (.aload_n 0, 1) := by decide +kernel
theorem dX9_next_280 : decode cX9_next 280 = .ok (.getfield 95, 3) := by decide +kernel
theorem dX9_next_283 : decode cX9_next 283 = .ok (.baload, 1) := by decide +kernel
theorem dX9_next_284 : decode cX9_next 284 = .ok (.bipush 59, 2) := by decide +kernel
theorem dX9_next_286 : decode cX9_next 286 = .ok (.if_icmp .ne 7, 3) := by decide +kernel
theorem dX9_next_289 : decode cX9_next 289 = .ok (.iconst 3, 1) := by decide +kernel
theorem dX9_next_290 : decode cX9_next 290 = .ok (.goto 4, 3) := by decide +kernel
theorem dX9_next_293 : decode cX9_next 293 = .ok (.iconst 4, 1) := by decide +kernel
theorem dX9_next_294 : decode cX9_next 294 = .ok (.putfield 112, 3) := by decide +kernel
theorem dX9_next_297 : decode cX9_next 297 = .ok (.aload_n 0, 1) := by decide +kernel
theorem dX9_next_298 : decode cX9_next 298 = .ok (.dup, 1) := by decide +kernel
theorem dX9_next_299 : decode cX9_next 299 = .ok (.getfield 95, 3) := by decide +kernel
theorem dX9_next_302 : decode cX9_next 302 = .ok (.iconst 1, 1) := by decide +kernel
theorem dX9_next_303 : decode cX9_next 303 = .ok (.iadd, 1) := by decide +kernel
theorem dX9_next_304 : decode cX9_next 304 = .ok (.putfield 95, 3) := by decide +kernel
theorem dX9_next_307 : decode cX9_next 307 = .ok (.return_, 1) := by decide +kernel
theorem dX9_isGood_0 : decode cX9_isGood 0 = .ok (.aload_n 0, 1) := by decide +kernel
theorem dX9_isGood_1 : decode cX9_isGood 1 = .ok (.getfield 123, 3) := by decide +kernel
theorem dX9_isGood_4 : decode cX9_isGood 4 = .ok (.ifCond .ne 7, 3) := by decide +kernel
theorem dX9_isGood_7 : decode cX9_isGood 7 = .ok (.iconst 1, 1) := by decide +kernel
theorem dX9_isGood_8 : decode cX9_isGood 8 = .ok (.goto 4, 3) := by decide +kernel
theorem dX9_isGood_11 : decode cX9_isGood 11 = .ok (.iconst 0, 1) := by decide +kernel
theorem dX9_isGood_12 : decode cX9_isGood 12 = .ok (.ireturn, 1) := by decide +kernel
theorem dX9_fails_0 : decode cX9_fails 0 = .ok (.aload_n 0, 1) := by decide +kernel
theorem dX9_fails_1 : decode cX9_fails 1 = .ok (.getfield 123, 3) := by decide +kernel
theorem dX9_fails_4 : decode cX9_fails 4 = .ok (.ifCond .eq 4, 3) := by decide +kernel
theorem dX9_fails_7 : decode cX9_fails 7 = .ok (.return_, 1) := by decide +kernel
theorem dX9_fails_8 : decode cX9_fails 8 = .ok (.aload_n 0, 1) := by decide +kernel
theorem dX9_fails_9 : decode cX9_fails 9 = .ok (.iload_n 1, 1) := by decide +kernel
theorem dX9_fails_10 : decode cX9_fails 10 = .ok (.putfield 123, 3) := by decide +kernel
theorem dX9_fails_13 : decode cX9_fails 13 = .ok (.aload_n 0, 1) := by decide +kernel
theorem dX9_fails_14 : decode cX9_fails 14 = .ok (.aload_n 0, 1) := by decide +kernel
theorem dX9_fails_15 : decode cX9_fails 15 = .ok (.getfield 102, 3) := by decide +kernel
theorem dX9_fails_18 : decode cX9_fails 18 = .ok (.putfield 126, 3) := by decide +kernel
theorem dX9_fails_21 : decode cX9_fails 21 = .ok (.return_, 1) := by decide +kernel
theorem dX9_is_0 : decode cX9_is 0 = .ok (.aload_n 0, 1) := by decide +kernel
theorem dX9_is_1 : decode cX9_is 1 = .ok (.getfield 123, 3) := by decide +kernel
theorem dX9_is_4 : decode cX9_is 4 = .ok (.ifCond .ne 24, 3) := by decide +kernel
theorem dX9_is_7 : decode cX9_is 7 = .ok (.aload_n 0, 1) := by decide +kernel
theorem dX9_is_8 : decode cX9_is 8 = .ok (.getfield 112, 3) := by decide +kernel
theorem dX9_is_11 : decode cX9_is 11 = .ok (.iconst 1, 1) := by decide +kernel
theorem dX9_is_12 : decode cX9_is 12 = .ok (.if_icmp .ne 16, 3) := by decide +kernel
theorem dX9_is_15 : decode cX9_is 15 = .ok (.aload_n 0, 1) := by decide +kernel
theorem dX9_is_16 : decode cX9_is 16 = .ok (.getfield 108, 3) := by decide +kernel
theorem dX9_is_19 : decode cX9_is 19 = .ok (.lload_n 1, 1) := by decide +kernel
theorem dX9_is_20 : decode cX9_is 20 = .ok (.lcmp, 1) := by decide +kernel
theorem dX9_is_21 : decode cX9_is 21 = .ok (.ifCond .ne 7, 3) := by decide +kernel
theorem dX9_is_24 : decode cX9_is 24 = .ok (.iconst 1, 1) := by decide +kernel
theorem dX9_is_25 : decode cX9_is 25 = .ok (.goto 4, 3) := by decide +kernel
theorem dX9_is_28 : decode cX9_is 28 = .ok (.iconst 0, 1) := by decide +kernel
theorem dX9_is_29 : decode cX9_is 29 = .ok (.ireturn, 1) := by decide +kernel
theorem dX9_takes_0 : decode cX9_takes 0 = .ok (.aload_n 0, 1) := by decide +kernel
theorem dX9_takes_1 : decode cX9_takes 1 = .ok (.lload_n 1, 1) := by decide +kernel
theorem dX9_takes_2 : decode cX9_takes 2 = .ok (.invokevirtual 129, 3) := by decide +kernel
theorem dX9_takes_5 : decode cX9_takes 5 = .ok (.ifCond .ne 5, 3) := by decide +kernel
theorem dX9_takes_8 : decode cX9_takes 8 = .ok (.iconst 0, 1) := by decide +kernel
theorem dX9_takes_9 : decode cX9_takes 9 = .ok (.ireturn, 1) := by decide +kernel
theorem dX9_takes_10 : decode cX9_takes 10 = .ok (.aload_n 0, 1) := by decide +kernel
theorem dX9_takes_11 : decode cX9_takes 11 = .ok (.invokevirtual 133, 3) := by decide +kernel
theorem dX9_takes_14 : decode cX9_takes 14 = .ok (.iconst 1, 1) := by decide +kernel
theorem dX9_takes_15 : decode cX9_takes 15 = .ok (.ireturn, 1) := by decide +kernel
theorem dX9_asks_0 : decode cX9_asks 0 = .ok (.aload_n 0, 1) := by decide +kernel
theorem dX9_asks_1 : decode cX9_asks 1 = .ok (.lload_n 1, 1) := by decide +kernel
theorem dX9_asks_2 : decode cX9_asks 2 = .ok (.invokevirtual 136, 3) := by decide +kernel
theorem dX9_asks_5 : decode cX9_asks 5 = .ok (.ifCond .ne 8, 3) := by decide +kernel
theorem dX9_asks_8 : decode cX9_asks 8 = .ok (.aload_n 0, 1) := by decide +kernel
theorem dX9_asks_9 : decode cX9_asks 9 = .ok (.iconst 1, 1) := by decide +kernel
theorem dX9_asks_10 : decode cX9_asks 10 = .ok (.invokevirtual 139, 3) := by decide +kernel
theorem dX9_asks_13 : decode cX9_asks 13 = .ok (.return_, 1) := by decide +kernel
theorem dX9_number_0 : decode cX9_number 0 = .ok (.aload_n 0, 1) := by decide +kernel
theorem dX9_number_1 : decode cX9_number 1 = .ok (.getfield 123, 3) := by decide +kernel
theorem dX9_number_4 : decode cX9_number 4 = .ok (.ifCond .eq 5, 3) := by decide +kernel
theorem dX9_number_7 : decode cX9_number 7 = .ok (.iload_n 1, 1) := by decide +kernel
theorem dX9_number_8 : decode cX9_number 8 = .ok (.ireturn, 1) := by decide +kernel
theorem dX9_number_9 : decode cX9_number 9 = .ok (.aload_n 0, 1) := by decide +kernel
theorem dX9_number_10 : decode cX9_number 10 = .ok (.getfield 112, 3) := by decide +kernel
theorem dX9_number_13 : decode cX9_number 13 = .ok (.iconst 2, 1) := by decide +kernel
theorem dX9_number_14 : decode cX9_number 14 = .ok (.if_icmp .eq 10, 3) := by decide +kernel
theorem dX9_number_17 : decode cX9_number 17 = .ok (.aload_n 0, 1) := by decide +kernel
theorem dX9_number_18 : decode cX9_number 18 = .ok (.iconst 1, 1) := by decide +kernel
theorem dX9_number_19 : decode cX9_number 19 = .ok (.invokevirtual 139, 3) := by decide +kernel
theorem dX9_number_22 : decode cX9_number 22 = .ok (.iload_n 1, 1) := by decide +kernel
theorem dX9_number_23 : decode cX9_number 23 = .ok (.ireturn, 1) := by decide +kernel
theorem dX9_number_24 : decode cX9_number 24 = .ok (.aload_n 0, 1) := by decide +kernel
theorem dX9_number_25 : decode cX9_number 25 = .ok (.getfield 105, 3) := by decide +kernel
theorem dX9_number_28 : decode cX9_number 28 = .ok (.i2l, 1) := by decide +kernel
theorem dX9_number_29 : decode cX9_number 29 = .ok (.iload_n 1, 1) := by decide +kernel
theorem dX9_number_30 : decode cX9_number 30 = .ok (.i2l, 1) := by decide +kernel
theorem dX9_number_31 : decode cX9_number 31 = .ok (.iload_n 2, 1) := by decide +kernel
theorem dX9_number_32 : decode cX9_number 32 = .ok (.i2l, 1) := by decide +kernel
theorem dX9_number_33 : decode cX9_number 33 = .ok (.invokestatic 76, 3) := by decide +kernel
theorem dX9_number_36 : decode cX9_number 36 = .ok (.ifCond .ne 10, 3) := by decide +kernel
theorem dX9_number_39 : decode cX9_number 39 = .ok (.aload_n 0, 1) := by decide +kernel
theorem dX9_number_40 : decode cX9_number 40 = .ok (.iconst 2, 1) := by decide +kernel
theorem dX9_number_41 : decode cX9_number 41 = .ok (.invokevirtual 139, 3) := by decide +kernel
theorem dX9_number_44 : decode cX9_number 44 = .ok (.iload_n 1, 1) := by decide +kernel
theorem dX9_number_45 : decode cX9_number 45 = .ok (.ireturn, 1) := by decide +kernel
theorem dX9_number_46 : decode cX9_number 46 = .ok (.aload_n 0, 1) := by decide +kernel
theorem dX9_number_47 : decode cX9_number 47 = .ok (.getfield 105, 3) := by decide +kernel
theorem dX9_number_50 : decode cX9_number 50 = .ok (.istore_n 3, 1) := by decide +kernel
theorem dX9_number_51 : decode cX9_number 51 = .ok (.aload_n 0, 1) := by decide +kernel
theorem dX9_number_52 : decode cX9_number 52 = .ok (.invokevirtual 133, 3) := by decide +kernel
theorem dX9_number_55 : decode cX9_number 55 = .ok (.iload_n 3, 1) := by decide +kernel
theorem dX9_number_56 : decode cX9_number 56 = .ok (.ireturn, 1) := by decide +kernel
theorem dX9_number__0 : decode cX9_number_ 0 = .ok (.aload_n 0, 1) := by decide +kernel
theorem dX9_number__1 : decode cX9_number_ 1 = .ok (.lload_n 1, 1) := by decide +kernel
theorem dX9_number__2 : decode cX9_number_ 2 = .ok (.invokevirtual 142, 3) := by decide +kernel
theorem dX9_number__5 : decode cX9_number_ 5 = .ok (.aload_n 0, 1) := by decide +kernel
theorem dX9_number__6 : decode cX9_number_ 6 = .ok (.iload_n 3, 1) := by decide +kernel
theorem dX9_number__7 : decode cX9_number_ 7 = .ok (.iload 4, 2) := by decide +kernel
theorem dX9_number__9 : decode cX9_number_ 9 = .ok (.invokevirtual 146, 3) := by decide +kernel
theorem dX9_number__12 : decode cX9_number_ 12 = .ok (.ireturn, 1) := by decide +kernel
theorem dX9_ends_0 : decode cX9_ends 0 = .ok (.aload_n 0, 1) := by decide +kernel
theorem dX9_ends_1 : decode cX9_ends 1 = .ok (.getfield 112, 3) := by decide +kernel
theorem dX9_ends_4 : decode cX9_ends 4 = .ok (.iconst 3, 1) := by decide +kernel
theorem dX9_ends_5 : decode cX9_ends 5 = .ok (.if_icmp .eq 8, 3) := by decide +kernel
theorem dX9_ends_8 : decode cX9_ends 8 = .ok (.aload_n 0, 1) := by decide +kernel
theorem dX9_ends_9 : decode cX9_ends 9 = .ok (.iconst 1, 1) := by decide +kernel
theorem dX9_ends_10 : decode cX9_ends 10 = .ok (.invokevirtual 139, 3) := by decide +kernel
theorem dX9_ends_13 : decode cX9_ends 13 = .ok (.aload_n 0, 1) := by decide +kernel
theorem dX9_ends_14 : decode cX9_ends 14 = .ok (.getfield 123, 3) := by decide +kernel
theorem dX9_ends_17 : decode cX9_ends 17 = .ok (.ifCond .ne 7, 3) := by decide +kernel
theorem dX9_ends_20 : decode cX9_ends 20 = .ok (.aload_n 0, 1) := by decide +kernel
theorem dX9_ends_21 : decode cX9_ends 21 = .ok (.invokevirtual 133, 3) := by decide +kernel
theorem dX9_ends_24 : decode cX9_ends 24 = .ok (.return_, 1) := by decide +kernel
theorem dX9_begins_0 : decode cX9_begins 0 = .ok (.aload_n 0, 1) := by decide +kernel
theorem dX9_begins_1 : decode cX9_begins 1 = .ok (.iconst 0, 1) := by decide +kernel
theorem dX9_begins_2 : decode cX9_begins 2 = .ok (.putfield 123, 3) := by decide +kernel
theorem dX9_begins_5 : decode cX9_begins 5 = .ok (.aload_n 0, 1) := by decide +kernel
theorem dX9_begins_6 : decode cX9_begins 6 = .ok (.iconst (-1), 1) := by decide +kernel
theorem dX9_begins_7 : decode cX9_begins 7 = .ok (.putfield 126, 3) := by decide +kernel
theorem dX9_begins_10 : decode cX9_begins 10 = .ok (.aload_n 0, 1) := by decide +kernel
theorem dX9_begins_11 : decode cX9_begins 11 = .ok (.iconst 0, 1) := by decide +kernel
theorem dX9_begins_12 : decode cX9_begins 12 = .ok (.putfield 95, 3) := by decide +kernel
theorem dX9_begins_15 : decode cX9_begins 15 = .ok (.aload_n 0, 1) := by decide +kernel
theorem dX9_begins_16 : decode cX9_begins 16 = .ok (.invokevirtual 133, 3) := by decide +kernel
theorem dX9_begins_19 : decode cX9_begins 19 = .ok (.return_, 1) := by decide +kernel
theorem dX9_isOver_0 : decode cX9_isOver 0 = .ok (.aload_n 0, 1) := by decide +kernel
theorem dX9_isOver_1 : decode cX9_isOver 1 = .ok (.iconst 0, 1) := by decide +kernel
theorem dX9_isOver_2 : decode cX9_isOver 2 = .ok (.putfield 88, 3) := by decide +kernel
theorem dX9_isOver_5 : decode cX9_isOver 5 = .ok (.aload_n 0, 1) := by decide +kernel
theorem dX9_isOver_6 : decode cX9_isOver 6 = .ok (.aload_n 0, 1) := by decide +kernel
theorem dX9_isOver_7 : decode cX9_isOver 7 = .ok (.getfield 123, 3) := by decide +kernel
theorem dX9_isOver_10 : decode cX9_isOver 10 = .ok (.putfield 150, 3) := by decide +kernel
theorem dX9_isOver_13 : decode cX9_isOver 13 = .ok (.aload_n 0, 1) := by decide +kernel
theorem dX9_isOver_14 : decode cX9_isOver 14 = .ok (.aload_n 0, 1) := by decide +kernel
theorem dX9_isOver_15 : decode cX9_isOver 15 = .ok (.getfield 123, 3) := by decide +kernel
theorem dX9_isOver_18 : decode cX9_isOver 18 = .ok (.ifCond .ne 7, 3) := by decide +kernel
theorem dX9_isOver_21 : decode cX9_isOver 21 = .ok (.iconst (-1), 1) := by decide +kernel
theorem dX9_isOver_22 : decode cX9_isOver 22 = .ok (.goto 7, 3) := by decide +kernel
theorem dX9_isOver_25 : decode cX9_isOver 25 = .ok (.aload_n 0, 1) := by decide +kernel
theorem dX9_isOver_26 : decode cX9_isOver 26 = .ok (.getfield 126, 3) := by decide +kernel
theorem dX9_isOver_29 : decode cX9_isOver 29 = .ok (.putfield 27, 3) := by decide +kernel
theorem dX9_isOver_32 : decode cX9_isOver 32 = .ok (.return_, 1) := by decide +kernel
theorem dX9_fault_0 : decode cX9_fault 0 = .ok (.aload_n 0, 1) := by decide +kernel
theorem dX9_fault_1 : decode cX9_fault 1 = .ok (.iconst 0, 1) := by decide +kernel
theorem dX9_fault_2 : decode cX9_fault 2 = .ok (.putfield 71, 3) := by decide +kernel
theorem dX9_fault_5 : decode cX9_fault 5 = .ok (.iload_n 1, 1) := by decide +kernel
theorem dX9_fault_6 : decode cX9_fault 6 = .ok (.ifCond .ne 10, 3) := by decide +kernel
theorem dX9_fault_9 : decode cX9_fault 9 = .ok (.aload_n 0, 1) := by decide +kernel
theorem dX9_fault_10 : decode cX9_fault 10 = .ok (.getfield 150, 3) := by decide +kernel
theorem dX9_fault_13 : decode cX9_fault 13 = .ok (.goto 16, 3) := by decide +kernel
theorem dX9_fault_16 : decode cX9_fault 16 = .ok (.iload_n 1, 1) := by decide +kernel
theorem dX9_fault_17 : decode cX9_fault 17 = .ok (.iconst 1, 1) := by decide +kernel
theorem dX9_fault_18 : decode cX9_fault 18 = .ok (.if_icmp .ne 10, 3) := by decide +kernel
theorem dX9_fault_21 : decode cX9_fault 21 = .ok (.aload_n 0, 1) := by decide +kernel
theorem dX9_fault_22 : decode cX9_fault 22 = .ok (.getfield 27, 3) := by decide +kernel
theorem dX9_fault_25 : decode cX9_fault 25 = .ok (.goto 4, 3) := by decide +kernel
theorem dX9_fault_28 : decode cX9_fault 28 = .ok (.iconst (-1), 1) := by decide +kernel
theorem dX9_fault_29 : decode cX9_fault 29 = .ok (.ireturn, 1) := by decide +kernel
theorem dX9_hasRead_0 : decode cX9_hasRead 0 = .ok (.aload_n 0, 1) := by decide +kernel
theorem dX9_hasRead_1 : decode cX9_hasRead 1 = .ok (.getfield 34, 3) := by decide +kernel
theorem dX9_hasRead_4 : decode cX9_hasRead 4 = .ok (.bipush 36, 2) := by decide +kernel
theorem dX9_hasRead_6 : decode cX9_hasRead 6 = .ok (.iload_n 1, 1) := by decide +kernel
theorem dX9_hasRead_7 : decode cX9_hasRead 7 = .ok (.iadd, 1) := by decide +kernel
theorem dX9_hasRead_8 : decode cX9_hasRead 8 = .ok (.iaload, 1) := by decide +kernel
theorem dX9_hasRead_9 : decode cX9_hasRead 9 = .ok (.ireturn, 1) := by decide +kernel
theorem dX9_tells_0 : decode cX9_tells 0 = .ok (.aload_n 0, 1) := by decide +kernel
theorem dX9_tells_1 : decode cX9_tells 1 = .ok (.getfield 34, 3) := by decide +kernel
theorem dX9_tells_4 : decode cX9_tells 4 = .ok (.bipush 36, 2) := by decide +kernel
theorem dX9_tells_6 : decode cX9_tells 6 = .ok (.iload_n 1, 1) := by decide +kernel
theorem dX9_tells_7 : decode cX9_tells 7 = .ok (.iadd, 1) := by decide +kernel
theorem dX9_tells_8 : decode cX9_tells 8 = .ok (.iload_n 2, 1) := by decide +kernel
theorem dX9_tells_9 : decode cX9_tells 9 = .ok (.iastore, 1) := by decide +kernel
theorem dX9_tells_10 : decode cX9_tells 10 = .ok (.return_, 1) := by decide +kernel
theorem dX9_partLine_0 : decode cX9_partLine 0 = .ok (.iconst 2, 1) := by decide +kernel
theorem dX9_partLine_1 : decode cX9_partLine 1 = .ok (.bipush 16, 2) := by decide +kernel
theorem dX9_partLine_3 : decode cX9_partLine 3 = .ok (.aload_n 0, 1) := by decide +kernel
theorem dX9_partLine_4 : decode cX9_partLine 4 = .ok (.iconst 1, 1) := by decide +kernel
theorem dX9_partLine_5 : decode cX9_partLine 5 = .ok (.invokevirtual 153, 3) := by decide +kernel
theorem dX9_partLine_8 : decode cX9_partLine 8 = .ok (.iadd, 1) := by decide +kernel
theorem dX9_partLine_9 : decode cX9_partLine 9 = .ok (.imul, 1) := by decide +kernel
theorem dX9_partLine_10 : decode cX9_partLine 10 = .ok (.istore_n 1, 1) := by decide +kernel
theorem dX9_partLine_11 : decode cX9_partLine 11 = .ok (.aload_n 0, 1) := by decide +kernel
theorem dX9_partLine_12 : decode cX9_partLine 12 = .ok (.getfield 37, 3) := by decide +kernel
theorem dX9_partLine_15 : decode cX9_partLine 15 = .ok (.iload_n 1, 1) := by decide +kernel
theorem dX9_partLine_16 : decode cX9_partLine 16 = .ok (.aload_n 0, 1) := by decide +kernel
theorem dX9_partLine_17 : decode cX9_partLine 17 = .ok (.ldc2_w 157, 3) := by decide +kernel
theorem dX9_partLine_20 : decode cX9_partLine 20 = .ok (.iconst 1, 1) := by decide +kernel
theorem dX9_partLine_21 : decode cX9_partLine 21 = .ok (.sipush 200, 3) := by decide +kernel
theorem dX9_partLine_24 : decode cX9_partLine 24 = .ok (.invokevirtual 159, 3) := by decide +kernel
theorem dX9_partLine_27 : decode cX9_partLine 27 = .ok (.iastore, 1) := by decide +kernel
theorem dX9_partLine_28 : decode cX9_partLine 28 = .ok (.aload_n 0, 1) := by decide +kernel
theorem dX9_partLine_29 : decode cX9_partLine 29 = .ok (.ldc2_w 162, 3) := by decide +kernel
theorem dX9_partLine_32 : decode cX9_partLine 32 = .ok (.iconst 0, 1) := by decide +kernel
theorem dX9_partLine_33 : decode cX9_partLine 33 = .ok (.bipush 30, 2) := by decide +kernel
theorem dX9_partLine_35 : decode cX9_partLine 35 = .ok (.invokevirtual 159, 3) := by decide +kernel
theorem dX9_partLine_38 : decode cX9_partLine 38 = .ok (.istore_n 2, 1) := by decide +kernel
theorem dX9_partLine_39 : decode cX9_partLine 39 = .ok (.aload_n 0, 1) := by decide +kernel
theorem dX9_partLine_40 : decode cX9_partLine 40 = .ok (.getfield 37, 3) := by decide +kernel
theorem dX9_partLine_43 : decode cX9_partLine 43 = .ok (.iload_n 1, 1) := by decide +kernel
theorem dX9_partLine_44 : decode cX9_partLine 44 = .ok (.iconst 1, 1) := by decide +kernel
theorem dX9_partLine_45 : decode cX9_partLine 45 = .ok (.iadd, 1) := by decide +kernel
theorem dX9_partLine_46 : decode cX9_partLine 46 = .ok (.aload_n 0, 1) := by decide +kernel
theorem dX9_partLine_47 : decode cX9_partLine 47 = .ok (.getfield 123, 3) := by decide +kernel
theorem dX9_partLine_50 : decode cX9_partLine 50 = .ok (.ifCond .ne 18, 3) := by decide +kernel
theorem dX9_partLine_53 : decode cX9_partLine 53 = .ok (.aload_n 0, 1) := by decide +kernel
theorem dX9_partLine_54 : decode cX9_partLine 54 = .ok (.ldc2_w 164, 3) := by decide +kernel
theorem dX9_partLine_57 : decode cX9_partLine 57 = .ok (.invokevirtual 136, 3) := by decide +kernel
theorem dX9_partLine_60 : decode cX9_partLine 60 = .ok (.ifCond .eq 8, 3) := by decide +kernel
theorem dX9_partLine_63 : decode cX9_partLine 63 = .ok (.iload_n 2, 1) := by decide +kernel
theorem dX9_partLine_64 : decode cX9_partLine 64 = .ok (.ineg, 1) := by decide +kernel
theorem dX9_partLine_65 : decode cX9_partLine 65 = .ok (.goto 4, 3) := by decide +kernel
theorem dX9_partLine_68 : decode cX9_partLine 68 = .ok (.iload_n 2, 1) := by decide +kernel
theorem dX9_partLine_69 : decode cX9_partLine 69 = .ok (.iastore, 1) := by decide +kernel
theorem dX9_partLine_70 : decode cX9_partLine 70 = .ok (.aload_n 0, 1) := by decide +kernel
theorem dX9_partLine_71 : decode cX9_partLine 71 = .ok (.iconst 1, 1) := by decide +kernel
theorem dX9_partLine_72 : decode cX9_partLine 72 = .ok (.aload_n 0, 1) := by decide +kernel
theorem dX9_partLine_73 : decode cX9_partLine 73 = .ok (.iconst 1, 1) := by decide +kernel
theorem dX9_partLine_74 : decode cX9_partLine 74 = .ok (.invokevirtual 153, 3) := by decide +kernel
theorem dX9_partLine_77 : decode cX9_partLine 77 = .ok (.iconst 1, 1) := by decide +kernel
theorem dX9_partLine_78 : decode cX9_partLine 78 = .ok (.iadd, 1) := by decide +kernel
theorem dX9_partLine_79 : decode cX9_partLine 79 = .ok (.invokevirtual 166, 3) := by decide +kernel
theorem dX9_partLine_82 : decode cX9_partLine 82 = .ok (.return_, 1) := by decide +kernel
theorem dX9_isRoom_0 : decode cX9_isRoom 0 = .ok (.iload_n 1, 1) := by decide +kernel
theorem dX9_isRoom_1 : decode cX9_isRoom 1 = .ok (.ifCond .eq 17, 3) := by decide +kernel
theorem dX9_isRoom_4 : decode cX9_isRoom 4 = .ok (.aload_n 0, 1) := by decide +kernel
theorem dX9_isRoom_5 : decode cX9_isRoom 5 = .ok (.iload_n 2, 1) := by decide +kernel
theorem dX9_isRoom_6 : decode cX9_isRoom 6 = .ok (.invokevirtual 153, 3) := by decide +kernel
theorem dX9_isRoom_9 : decode cX9_isRoom 9 = .ok (.iload_n 3, 1) := by decide +kernel
theorem dX9_isRoom_10 : decode cX9_isRoom 10 = .ok (.if_icmp .ne 8, 3) := by decide +kernel
theorem dX9_isRoom_13 : decode cX9_isRoom 13 = .ok (.aload_n 0, 1) := by decide +kernel
theorem dX9_isRoom_14 : decode cX9_isRoom 14 = .ok (.iconst 3, 1) := by decide +kernel
theorem dX9_isRoom_15 : decode cX9_isRoom 15 = .ok (.invokevirtual 139, 3) := by decide +kernel
theorem dX9_isRoom_18 : decode cX9_isRoom 18 = .ok (.iload_n 1, 1) := by decide +kernel
theorem dX9_isRoom_19 : decode cX9_isRoom 19 = .ok (.ifCond .eq 14, 3) := by decide +kernel
theorem dX9_isRoom_22 : decode cX9_isRoom 22 = .ok (.aload_n 0, 1) := by decide +kernel
theorem dX9_isRoom_23 : decode cX9_isRoom 23 = .ok (.getfield 123, 3) := by decide +kernel
theorem dX9_isRoom_26 : decode cX9_isRoom 26 = .ok (.ifCond .ne 7, 3) := by decide +kernel
theorem dX9_isRoom_29 : decode cX9_isRoom 29 = .ok (.aload_n 0, 1) := by decide +kernel
theorem dX9_isRoom_30 : decode cX9_isRoom 30 = .ok (.invokevirtual 133, 3) := by decide +kernel
theorem dX9_isRoom_33 : decode cX9_isRoom 33 = .ok (.iload_n 1, 1) := by decide +kernel
theorem dX9_isRoom_34 : decode cX9_isRoom 34 = .ok (.ifCond .eq 14, 3) := by decide +kernel
theorem dX9_isRoom_37 : decode cX9_isRoom 37 = .ok (.aload_n 0, 1) := by decide +kernel
theorem dX9_isRoom_38 : decode cX9_isRoom 38 = .ok (.getfield 123, 3) := by decide +kernel
theorem dX9_isRoom_41 : decode cX9_isRoom 41 = .ok (.ifCond .ne 7, 3) := by decide +kernel
theorem dX9_isRoom_44 : decode cX9_isRoom 44 = .ok (.iconst 1, 1) := by decide +kernel
theorem dX9_isRoom_45 : decode cX9_isRoom 45 = .ok (.goto 4, 3) := by decide +kernel
theorem dX9_isRoom_48 : decode cX9_isRoom 48 = .ok (.iconst 0, 1) := by decide +kernel
theorem dX9_isRoom_49 : decode cX9_isRoom 49 = .ok (.ireturn, 1) := by decide +kernel
theorem dX9_line_0 : decode cX9_line 0 = .ok (.aload_n 0, 1) := by decide +kernel
theorem dX9_line_1 : decode cX9_line 1 = .ok (.aload_n 0, 1) := by decide +kernel
theorem dX9_line_2 : decode cX9_line 2 = .ok (.ldc2_w 170, 3) := by decide +kernel
theorem dX9_line_5 : decode cX9_line 5 = .ok (.invokevirtual 129, 3) := by decide +kernel
theorem dX9_line_8 : decode cX9_line 8 = .ok (.iconst 1, 1) := by decide +kernel
theorem dX9_line_9 : decode cX9_line 9 = .ok (.iconst 4, 1) := by decide +kernel
theorem dX9_line_10 : decode cX9_line 10 = .ok (.invokevirtual 172, 3) := by decide +kernel
theorem dX9_line_13 : decode cX9_line 13 = .ok (.ifCond .eq 10, 3) := by decide +kernel
theorem dX9_line_16 : decode cX9_line 16 = .ok (.aload_n 0, 1) := by decide +kernel
theorem dX9_line_17 : decode cX9_line 17 = .ok (.invokevirtual 176, 3) := by decide +kernel
theorem dX9_line_20 : decode cX9_line 20 = .ok (.goto 214, 3) := by decide +kernel
theorem dX9_line_23 : decode cX9_line 23 = .ok (.aload_n 0, 1) := by decide +kernel
theorem dX9_line_24 : decode cX9_line 24 = .ok (.getfield 123, 3) := by decide +kernel
theorem dX9_line_27 : decode cX9_line 27 = .ok (.ifCond .ne 58, 3) := by decide +kernel
theorem dX9_line_30 : decode cX9_line 30 = .ok (.aload_n 0, 1) := by decide +kernel
theorem dX9_line_31 : decode cX9_line 31 = .ok (.aload_n 0, 1) := by decide +kernel
theorem dX9_line_32 : decode cX9_line 32 = .ok (.ldc2_w 179, 3) := by decide +kernel
theorem dX9_line_35 : decode cX9_line 35 = .ok (.invokevirtual 129, 3) := by decide +kernel
theorem dX9_line_38 : decode cX9_line 38 = .ok (.iconst 2, 1) := by decide +kernel
theorem dX9_line_39 : decode cX9_line 39 = .ok (.bipush 8, 2) := by decide +kernel
theorem dX9_line_41 : decode cX9_line 41 = .ok (.invokevirtual 172, 3) := by decide +kernel
theorem dX9_line_44 : decode cX9_line 44 = .ok (.ifCond .eq 41, 3) := by decide +kernel
theorem dX9_line_47 : decode cX9_line 47 = .ok (.aload_n 0, 1) := by decide +kernel
theorem dX9_line_48 : decode cX9_line 48 = .ok (.getfield 40, 3) := by decide +kernel
theorem dX9_line_51 : decode cX9_line 51 = .ok (.bipush 32, 2) := by decide +kernel
theorem dX9_line_53 : decode cX9_line 53 = .ok (.aload_n 0, 1) := by decide +kernel
theorem dX9_line_54 : decode cX9_line 54 = .ok (.iconst 2, 1) := by decide +kernel
theorem dX9_line_55 : decode cX9_line 55 = .ok (.invokevirtual 153, 3) := by decide +kernel
theorem dX9_line_58 : decode cX9_line 58 = .ok (.iadd, 1) := by decide +kernel
theorem dX9_line_59 : decode cX9_line 59 = .ok (.aload_n 0, 1) := by decide +kernel
theorem dX9_line_60 : decode cX9_line 60 = .ok (.ldc2_w 181, 3) := by decide +kernel
theorem dX9_line_63 : decode cX9_line 63 = .ok (.iconst 0, 1) := by decide +kernel
theorem dX9_line_64 : decode cX9_line 64 = .ok (.bipush 30, 2) := by decide +kernel
theorem dX9_line_66 : decode cX9_line 66 = .ok (.invokevirtual 159, 3) := by decide +kernel
theorem dX9_line_69 : decode cX9_line 69 = .ok (.iastore, 1) := by decide +kernel
theorem dX9_line_70 : decode cX9_line 70 = .ok (.aload_n 0, 1) := by decide +kernel
theorem dX9_line_71 : decode cX9_line 71 = .ok (.iconst 2, 1) := by decide +kernel
theorem dX9_line_72 : decode cX9_line 72 = .ok (.aload_n 0, 1) := by decide +kernel
theorem dX9_line_73 : decode cX9_line 73 = .ok (.iconst 2, 1) := by decide +kernel
theorem dX9_line_74 : decode cX9_line 74 = .ok (.invokevirtual 153, 3) := by decide +kernel
theorem dX9_line_77 : decode cX9_line 77 = .ok (.iconst 1, 1) := by decide +kernel
theorem dX9_line_78 : decode cX9_line 78 = .ok (.iadd, 1) := by decide +kernel
theorem dX9_line_79 : decode cX9_line 79 = .ok (.invokevirtual 166, 3) := by decide +kernel
theorem dX9_line_82 : decode cX9_line 82 = .ok (.goto 152, 3) := by decide +kernel
theorem dX9_line_85 : decode cX9_line 85 = .ok (.aload_n 0, 1) := by decide +kernel
theorem dX9_line_86 : decode cX9_line 86 = .ok (.getfield 123, 3) := by decide +kernel
theorem dX9_line_89 : decode cX9_line 89 = .ok (.ifCond .ne 51, 3) := by decide +kernel
theorem dX9_line_92 : decode cX9_line 92 = .ok (.aload_n 0, 1) := by decide +kernel
theorem dX9_line_93 : decode cX9_line 93 = .ok (.aload_n 0, 1) := by decide +kernel
theorem dX9_line_94 : decode cX9_line 94 = .ok (.ldc2_w 183, 3) := by decide +kernel
theorem dX9_line_97 : decode cX9_line 97 = .ok (.invokevirtual 129, 3) := by decide +kernel
theorem dX9_line_100 : decode cX9_line 100 = .ok (.iconst 3, 1) := by decide +kernel
theorem dX9_line_101 : decode cX9_line 101 = .ok (.iconst 4, 1) := by decide +kernel
theorem dX9_line_102 : decode cX9_line 102 = .ok (.invokevirtual 172, 3) := by decide +kernel
theorem dX9_line_105 : decode cX9_line 105 = .ok (.ifCond .eq 35, 3) := by decide +kernel
theorem dX9_line_108 : decode cX9_line 108 = .ok (.aload_n 0, 1) := by decide +kernel
theorem dX9_line_109 : decode cX9_line 109 = .ok (.getfield 43, 3) := by decide +kernel
theorem dX9_line_112 : decode cX9_line 112 = .ok (.bipush 16, 2) := by decide +kernel
theorem dX9_line_114 : decode cX9_line 114 = .ok (.aload_n 0, 1) := by decide +kernel
theorem dX9_line_115 : decode cX9_line 115 = .ok (.iconst 3, 1) := by decide +kernel
theorem dX9_line_116 : decode cX9_line 116 = .ok (.invokevirtual 153, 3) := by decide +kernel
theorem dX9_line_119 : decode cX9_line 119 = .ok (.iadd, 1) := by decide +kernel
theorem dX9_line_120 : decode cX9_line 120 = .ok (.aload_n 0, 1) := by decide +kernel
theorem dX9_line_121 : decode cX9_line 121 = .ok (.invokevirtual 185, 3) := by decide +kernel
theorem dX9_line_124 : decode cX9_line 124 = .ok (.iastore, 1) := by decide +kernel
theorem dX9_line_125 : decode cX9_line 125 = .ok (.aload_n 0, 1) := by decide +kernel
theorem dX9_line_126 : decode cX9_line 126 = .ok (.iconst 3, 1) := by decide +kernel
theorem dX9_line_127 : decode cX9_line 127 = .ok (.aload_n 0, 1) := by decide +kernel
theorem dX9_line_128 : decode cX9_line 128 = .ok (.iconst 3, 1) := by decide +kernel
theorem dX9_line_129 : decode cX9_line 129 = .ok (.invokevirtual 153, 3) := by decide +kernel
theorem dX9_line_132 : decode cX9_line 132 = .ok (.iconst 1, 1) := by decide +kernel
theorem dX9_line_133 : decode cX9_line 133 = .ok (.iadd, 1) := by decide +kernel
theorem dX9_line_134 : decode cX9_line 134 = .ok (.invokevirtual 166, 3) := by decide +kernel
theorem dX9_line_137 : decode cX9_line 137 = .ok (.goto 97, 3) := by decide +kernel
theorem dX9_line_140 : decode cX9_line 140 = .ok (.aload_n 0, 1) := by decide +kernel
theorem dX9_line_141 : decode cX9_line 141 = .ok (.getfield 123, 3) := by decide +kernel
theorem dX9_line_144 : decode cX9_line 144 = .ok (.ifCond .ne 90, 3) := by decide +kernel
theorem dX9_line_147 : decode cX9_line 147 = .ok (.aload_n 0, 1) := by decide +kernel
theorem dX9_line_148 : decode cX9_line 148 = .ok (.ldc2_w 189, 3) := by decide +kernel
theorem dX9_line_151 : decode cX9_line 151 = .ok (.invokevirtual 142, 3) := by decide +kernel
theorem dX9_line_154 : decode cX9_line 154 = .ok (.aload_n 0, 1) := by decide +kernel
theorem dX9_line_155 : decode cX9_line 155 = .ok (.ldc2_w 191, 3) := by decide +kernel
theorem dX9_line_158 : decode cX9_line 158 = .ok (.iconst 1, 1) := by decide +kernel
theorem dX9_line_159 : decode cX9_line 159 = .ok (.bipush 9, 2) := by decide +kernel
theorem dX9_line_161 : decode cX9_line 161 = .ok (.invokevirtual 159, 3) := by decide +kernel
theorem dX9_line_164 : decode cX9_line 164 = .ok (.istore_n 1, 1) := by decide +kernel
theorem dX9_line_165 : decode cX9_line 165 = .ok (.aload_n 0, 1) := by decide +kernel
theorem dX9_line_166 : decode cX9_line 166 = .ok (.ldc2_w 193, 3) := by decide +kernel
theorem dX9_line_169 : decode cX9_line 169 = .ok (.iconst 1, 1) := by decide +kernel
theorem dX9_line_170 : decode cX9_line 170 = .ok (.bipush 9, 2) := by decide +kernel
theorem dX9_line_172 : decode cX9_line 172 = .ok (.invokevirtual 159, 3) := by decide +kernel
theorem dX9_line_175 : decode cX9_line 175 = .ok (.istore_n 2, 1) := by decide +kernel
theorem dX9_line_176 : decode cX9_line 176 = .ok (.aload_n 0, 1) := by decide +kernel
theorem dX9_line_177 : decode cX9_line 177 = .ok (.ldc2_w 181, 3) := by decide +kernel
theorem dX9_line_180 : decode cX9_line 180 = .ok (.iconst 1, 1) := by decide +kernel
theorem dX9_line_181 : decode cX9_line 181 = .ok (.bipush 30, 2) := by decide +kernel
theorem dX9_line_183 : decode cX9_line 183 = .ok (.invokevirtual 159, 3) := by decide +kernel
theorem dX9_line_186 : decode cX9_line 186 = .ok (.istore_n 3, 1) := by decide +kernel
theorem dX9_line_187 : decode cX9_line 187 = .ok (.aload_n 0, 1) := by decide +kernel
theorem dX9_line_188 : decode cX9_line 188 = .ok (.ldc2_w 195, 3) := by decide +kernel
theorem dX9_line_191 : decode cX9_line 191 = .ok (.iconst 0, 1) := by decide +kernel
theorem dX9_line_192 : decode cX9_line 192 = .ok (.bipush 100, 2) := by decide +kernel
theorem dX9_line_194 : decode cX9_line 194 = .ok (.invokevirtual 159, 3) := by decide +kernel
theorem dX9_line_197 : decode cX9_line 197 = .ok (.istore 4, 2) := by decide +kernel
theorem dX9_line_199 : decode cX9_line 199 = .ok (.aload_n 0, 1) := by decide +kernel
theorem dX9_line_200 : decode cX9_line 200 = .ok (.invokevirtual 197, 3) := by decide +kernel
theorem dX9_line_203 : decode cX9_line 203 = .ok (.ifCond .ne 4, 3) := by decide +kernel
theorem dX9_line_206 : decode cX9_line 206 = .ok (.return_, 1) := by decide +kernel
theorem dX9_line_207 : decode cX9_line 207 = .ok (.aload_n 0, 1) := by decide +kernel
theorem dX9_line_208 : decode cX9_line 208 = .ok (.iconst 4, 1) := by decide +kernel
theorem dX9_line_209 : decode cX9_line 209 = .ok (.iload_n 1, 1) := by decide +kernel
theorem dX9_line_210 : decode cX9_line 210 = .ok (.invokevirtual 166, 3) := by decide +kernel
theorem dX9_line_213 : decode cX9_line 213 = .ok (.aload_n 0, 1) := by decide +kernel
theorem dX9_line_214 : decode cX9_line 214 = .ok (.iconst 5, 1) := by decide +kernel
theorem dX9_line_215 : decode cX9_line 215 = .ok (.iload_n 2, 1) := by decide +kernel
theorem dX9_line_216 : decode cX9_line 216 = .ok (.invokevirtual 166, 3) := by decide +kernel
theorem dX9_line_219 : decode cX9_line 219 = .ok (.aload_n 0, 1) := by decide +kernel
theorem dX9_line_220 : decode cX9_line 220 = .ok (.bipush 6, 2) := by decide +kernel
theorem dX9_line_222 : decode cX9_line 222 = .ok (.iload_n 3, 1) := by decide +kernel
theorem dX9_line_223 : decode cX9_line 223 = .ok (.invokevirtual 166, 3) := by decide +kernel
theorem dX9_line_226 : decode cX9_line 226 = .ok (.aload_n 0, 1) := by decide +kernel
theorem dX9_line_227 : decode cX9_line 227 = .ok (.bipush 7, 2) := by decide +kernel
theorem dX9_line_229 : decode cX9_line 229 = .ok (.iload 4, 2) := by decide +kernel
theorem dX9_line_231 : decode cX9_line 231 = .ok (.invokevirtual 166, 3) := by decide +kernel
theorem dX9_line_234 : decode cX9_line 234 = .ok (.return_, 1) := by decide +kernel
theorem dX9_valueHere_0 : decode cX9_valueHere 0 = .ok (.aload_n 0, 1) := by decide +kernel
theorem dX9_valueHere_1 : decode cX9_valueHere 1 = .ok (.iconst 1, 1) := by decide +kernel
theorem dX9_valueHere_2 : decode cX9_valueHere 2 = .ok (.sipush 9999, 3) := by decide +kernel
theorem dX9_valueHere_5 : decode cX9_valueHere 5 = .ok (.invokevirtual 146, 3) := by decide +kernel
theorem dX9_valueHere_8 : decode cX9_valueHere 8 = .ok (.ireturn, 1) := by decide +kernel
theorem dX9_clears0_0 : decode cX9_clears0 0 = .ok (.aload_n 0, 1) := by decide +kernel
theorem dX9_clears0_1 : decode cX9_clears0 1 = .ok (.getfield 31, 3) := by decide +kernel
theorem dX9_clears0_4 : decode cX9_clears0 4 = .ok (.iconst 4, 1) := by decide +kernel
theorem dX9_clears0_5 : decode cX9_clears0 5 = .ok (.iconst 0, 1) := by decide +kernel
theorem dX9_clears0_6 : decode cX9_clears0 6 = .ok (.iastore, 1) := by decide +kernel
theorem dX9_clears0_7 : decode cX9_clears0 7 = .ok (.iconst 0, 1) := by decide +kernel
theorem dX9_clears0_8 : decode cX9_clears0 8 = .ok (.istore_n 1, 1) := by decide +kernel
theorem dX9_clears0_9 : decode cX9_clears0 9 = .ok (.iload_n 1, 1) := by decide +kernel
theorem dX9_clears0_10 : decode cX9_clears0 10 = .ok (.bipush 9, 2) := by decide +kernel
theorem dX9_clears0_12 : decode cX9_clears0 12 = .ok (.if_icmp .ge 15, 3) := by decide +kernel
theorem dX9_clears0_15 : decode cX9_clears0 15 = .ok (.aload_n 0, 1) := by decide +kernel
theorem dX9_clears0_16 : decode cX9_clears0 16 = .ok (.iload_n 1, 1) := by decide +kernel
theorem dX9_clears0_17 : decode cX9_clears0 17 = .ok (.iconst 0, 1) := by decide +kernel
theorem dX9_clears0_18 : decode cX9_clears0 18 = .ok (.invokevirtual 166, 3) := by decide +kernel
theorem dX9_clears0_21 : decode cX9_clears0 21 = .ok (.iinc 1 1, 3) := by decide +kernel
theorem dX9_clears0_24 : decode cX9_clears0 24 = .ok (.goto (-15), 3) := by decide +kernel
theorem dX9_clears0_27 : decode cX9_clears0 27 = .ok (.return_, 1) := by decide +kernel
theorem dX9_stair_0 : decode cX9_stair 0 = .ok (.aload_n 0, 1) := by decide +kernel
theorem dX9_stair_1 : decode cX9_stair 1 = .ok (.iconst 0, 1) := by decide +kernel
theorem dX9_stair_2 : decode cX9_stair 2 = .ok (.putfield 71, 3) := by decide +kernel
theorem dX9_stair_5 : decode cX9_stair 5 = .ok (.aload_n 0, 1) := by decide +kernel
theorem dX9_stair_6 : decode cX9_stair 6 = .ok (.invokevirtual 201, 3) := by decide +kernel
theorem dX9_stair_9 : decode cX9_stair 9 = .ok (.aload_n 0, 1) := by decide +kernel
theorem dX9_stair_10 : decode cX9_stair 10 = .ok (.invokevirtual 204, 3) := by decide +kernel
theorem dX9_stair_13 : decode cX9_stair 13 = .ok (.aload_n 0, 1) := by decide +kernel
theorem dX9_stair_14 : decode cX9_stair 14 = .ok (.invokevirtual 197, 3) := by decide +kernel
theorem dX9_stair_17 : decode cX9_stair 17 = .ok (.ifCond .eq 72, 3) := by decide +kernel
theorem dX9_stair_20 : decode cX9_stair 20 = .ok (.aload_n 0, 1) := by decide +kernel
theorem dX9_stair_21 : decode cX9_stair 21 = .ok (.getfield 112, 3) := by decide +kernel
theorem dX9_stair_24 : decode cX9_stair 24 = .ok (.ifCond .eq 65, 3) := by decide +kernel
theorem dX9_stair_27 : decode cX9_stair 27 = .ok (.aload_n 0, 1) := by decide +kernel
theorem dX9_stair_28 : decode cX9_stair 28 = .ok (.getfield 31, 3) := by decide +kernel
theorem dX9_stair_31 : decode cX9_stair 31 = .ok (.iconst 4, 1) := by decide +kernel
theorem dX9_stair_32 : decode cX9_stair 32 = .ok (.iaload, 1) := by decide +kernel
theorem dX9_stair_33 : decode cX9_stair 33 = .ok (.ifCond .ne 28, 3) := by decide +kernel
theorem dX9_stair_36 : decode cX9_stair 36 = .ok (.aload_n 0, 1) := by decide +kernel
