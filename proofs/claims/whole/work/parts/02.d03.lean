theorem dX8_stair_38 : decode cX8_stair 38 = .ok (.aload_n 0, 1) := by decide +kernel
theorem dX8_stair_39 : decode cX8_stair 39 = .ok (.getfield 13, 3) := by decide +kernel
theorem dX8_stair_42 : decode cX8_stair 42 = .ok (.ifCond .eq 6, 3) := by decide +kernel
theorem dX8_stair_45 : decode cX8_stair 45 = .ok (.bipush (-4), 2) := by decide +kernel
theorem dX8_stair_47 : decode cX8_stair 47 = .ok (.ireturn, 1) := by decide +kernel
theorem dX8_stair_48 : decode cX8_stair 48 = .ok (.aload_n 0, 1) := by decide +kernel
theorem dX8_stair_49 : decode cX8_stair 49 = .ok (.getfield 22, 3) := by decide +kernel
theorem dX8_stair_52 : decode cX8_stair 52 = .ok (.aload_n 0, 1) := by decide +kernel
theorem dX8_stair_53 : decode cX8_stair 53 = .ok (.getfield 43, 3) := by decide +kernel
theorem dX8_stair_56 : decode cX8_stair 56 = .ok (.getfield 103, 3) := by decide +kernel
theorem dX8_stair_59 : decode cX8_stair 59 = .ok (.invokevirtual 106, 3) := by decide +kernel
theorem dX8_stair_62 : decode cX8_stair 62 = .ok (.aload_n 0, 1) := by decide +kernel
theorem dX8_stair_63 : decode cX8_stair 63 = .ok (.getfield 22, 3) := by decide +kernel
theorem dX8_stair_66 : decode cX8_stair 66 = .ok (.getfield 110, 3) := by decide +kernel
theorem dX8_stair_69 : decode cX8_stair 69 = .ok (.ireturn, 1) := by decide +kernel
theorem dX8_fault_0 : decode cX8_fault 0 = .ok (.iload_n 1, 1) := by decide +kernel
theorem dX8_fault_1 : decode cX8_fault 1 = .ok (.ifCond .ne 8, 3) := by decide +kernel
theorem dX8_fault_4 : decode cX8_fault 4 = .ok (.aload_n 0, 1) := by decide +kernel
theorem dX8_fault_5 : decode cX8_fault 5 = .ok (.getfield 13, 3) := by decide +kernel
theorem dX8_fault_8 : decode cX8_fault 8 = .ok (.ireturn, 1) := by decide +kernel
theorem dX8_fault_9 : decode cX8_fault 9 = .ok (.iload_n 1, 1) := by decide +kernel
theorem dX8_fault_10 : decode cX8_fault 10 = .ok (.iconst 1, 1) := by decide +kernel
theorem dX8_fault_11 : decode cX8_fault 11 = .ok (.if_icmp .ne 10, 3) := by decide +kernel
theorem dX8_fault_14 : decode cX8_fault 14 = .ok (.aload_n 0, 1) := by decide +kernel
theorem dX8_fault_15 : decode cX8_fault 15 = .ok (.getfield 16, 3) := by decide +kernel
theorem dX8_fault_18 : decode cX8_fault 18 = .ok (.goto 4, 3) := by decide +kernel
theorem dX8_fault_21 : decode cX8_fault 21 = .ok (.iconst (-1), 1) := by decide +kernel
theorem dX8_fault_22 : decode cX8_fault 22 = .ok (.ireturn, 1) := by decide +kernel
theorem dX8_part_0 : decode cX8_part 0 = .ok (.aload_n 0, 1) := by decide +kernel
theorem dX8_part_1 : decode cX8_part 1 = .ok (.getfield 22, 3) := by decide +kernel
theorem dX8_part_4 : decode cX8_part 4 = .ok (.iload_n 1, 1) := by decide +kernel
theorem dX8_part_5 : decode cX8_part 5 = .ok (.invokevirtual 113, 3) := by decide +kernel
theorem dX8_part_8 : decode cX8_part 8 = .ok (.ifCond .eq 10, 3) := by decide +kernel
theorem dX8_part_11 : decode cX8_part 11 = .ok (.iload_n 2, 1) := by decide +kernel
theorem dX8_part_12 : decode cX8_part 12 = .ok (.invokestatic 117, 3) := by decide +kernel
theorem dX8_part_15 : decode cX8_part 15 = .ok (.ifCond .ne 7, 3) := by decide +kernel
theorem dX8_part_18 : decode cX8_part 18 = .ok (.sipush (-1000), 3) := by decide +kernel
theorem dX8_part_21 : decode cX8_part 21 = .ok (.ireturn, 1) := by decide +kernel
theorem dX8_part_22 : decode cX8_part 22 = .ok (.iload_n 2, 1) := by decide +kernel
theorem dX8_part_23 : decode cX8_part 23 = .ok (.ifCond .ne 15, 3) := by decide +kernel
theorem dX8_part_26 : decode cX8_part 26 = .ok (.aload_n 0, 1) := by decide +kernel
theorem dX8_part_27 : decode cX8_part 27 = .ok (.getfield 22, 3) := by decide +kernel
theorem dX8_part_30 : decode cX8_part 30 = .ok (.getfield 120, 3) := by decide +kernel
theorem dX8_part_33 : decode cX8_part 33 = .ok (.iload_n 1, 1) := by decide +kernel
theorem dX8_part_34 : decode cX8_part 34 = .ok (.iaload, 1) := by decide +kernel
theorem dX8_part_35 : decode cX8_part 35 = .ok (.goto 12, 3) := by decide +kernel
theorem dX8_part_38 : decode cX8_part 38 = .ok (.aload_n 0, 1) := by decide +kernel
theorem dX8_part_39 : decode cX8_part 39 = .ok (.getfield 22, 3) := by decide +kernel
theorem dX8_part_42 : decode cX8_part 42 = .ok (.getfield 124, 3) := by decide +kernel
theorem dX8_part_45 : decode cX8_part 45 = .ok (.iload_n 1, 1) := by decide +kernel
theorem dX8_part_46 : decode cX8_part 46 = .ok (.iaload, 1) := by decide +kernel
theorem dX8_part_47 : decode cX8_part 47 = .ok (.ireturn, 1) := by decide +kernel
theorem dX8_walker_0 : decode cX8_walker 0 = .ok (.aload_n 0, 1) := by decide +kernel
theorem dX8_walker_1 : decode cX8_walker 1 = .ok (.getfield 22, 3) := by decide +kernel
theorem dX8_walker_4 : decode cX8_walker 4 = .ok (.iload_n 1, 1) := by decide +kernel
theorem dX8_walker_5 : decode cX8_walker 5 = .ok (.invokevirtual 127, 3) := by decide +kernel
theorem dX8_walker_8 : decode cX8_walker 8 = .ok (.ifCond .eq 15, 3) := by decide +kernel
theorem dX8_walker_11 : decode cX8_walker 11 = .ok (.aload_n 0, 1) := by decide +kernel
theorem dX8_walker_12 : decode cX8_walker 12 = .ok (.getfield 22, 3) := by decide +kernel
theorem dX8_walker_15 : decode cX8_walker 15 = .ok (.getfield 130, 3) := by decide +kernel
theorem dX8_walker_18 : decode cX8_walker 18 = .ok (.iload_n 1, 1) := by decide +kernel
theorem dX8_walker_19 : decode cX8_walker 19 = .ok (.iaload, 1) := by decide +kernel
theorem dX8_walker_20 : decode cX8_walker 20 = .ok (.goto 5, 3) := by decide +kernel
theorem dX8_walker_23 : decode cX8_walker 23 = .ok (.bipush (-2), 2) := by decide +kernel
theorem dX8_walker_25 : decode cX8_walker 25 = .ok (.ireturn, 1) := by decide +kernel
theorem dX8_time_0 : decode cX8_time 0 = .ok (.aload_n 0, 1) := by decide +kernel
theorem dX8_time_1 : decode cX8_time 1 = .ok (.getfield 22, 3) := by decide +kernel
theorem dX8_time_4 : decode cX8_time 4 = .ok (.iload_n 1, 1) := by decide +kernel
theorem dX8_time_5 : decode cX8_time 5 = .ok (.invokevirtual 127, 3) := by decide +kernel
theorem dX8_time_8 : decode cX8_time 8 = .ok (.ifCond .eq 10, 3) := by decide +kernel
theorem dX8_time_11 : decode cX8_time 11 = .ok (.iload_n 2, 1) := by decide +kernel
theorem dX8_time_12 : decode cX8_time 12 = .ok (.invokestatic 117, 3) := by decide +kernel
theorem dX8_time_15 : decode cX8_time 15 = .ok (.ifCond .ne 7, 3) := by decide +kernel
theorem dX8_time_18 : decode cX8_time 18 = .ok (.ldc2_w 133, 3) := by decide +kernel
theorem dX8_time_21 : decode cX8_time 21 = .ok (.lreturn, 1) := by decide +kernel
theorem dX8_time_22 : decode cX8_time 22 = .ok (.aload_n 0, 1) := by decide +kernel
theorem dX8_time_23 : decode cX8_time 23 = .ok (.getfield 50, 3) := by decide +kernel
theorem dX8_time_26 : decode cX8_time 26 = .ok (.aload_n 0, 1) := by decide +kernel
theorem dX8_time_27 : decode cX8_time 27 = .ok (.getfield 22, 3) := by decide +kernel
theorem dX8_time_30 : decode cX8_time 30 = .ok (.aload_n 0, 1) := by decide +kernel
theorem dX8_time_31 : decode cX8_time 31 = .ok (.getfield 22, 3) := by decide +kernel
theorem dX8_time_34 : decode cX8_time 34 = .ok (.getfield 130, 3) := by decide +kernel
theorem dX8_time_37 : decode cX8_time 37 = .ok (.iload_n 1, 1) := by decide +kernel
theorem dX8_time_38 : decode cX8_time 38 = .ok (.iaload, 1) := by decide +kernel
theorem dX8_time_39 : decode cX8_time 39 = .ok (.iconst 0, 1) := by decide +kernel
theorem dX8_time_40 : decode cX8_time 40 = .ok (.invokevirtual 135, 3) := by decide +kernel
theorem dX8_time_43 : decode cX8_time 43 = .ok (.ifCond .eq 17, 3) := by decide +kernel
theorem dX8_time_46 : decode cX8_time 46 = .ok (.aload_n 0, 1) := by decide +kernel
theorem dX8_time_47 : decode cX8_time 47 = .ok (.getfield 50, 3) := by decide +kernel
theorem dX8_time_50 : decode cX8_time 50 = .ok (.getfield 139, 3) := by decide +kernel
theorem dX8_time_53 : decode cX8_time 53 = .ok (.iload_n 2, 1) := by decide +kernel
theorem dX8_time_54 : decode cX8_time 54 = .ok (.invokevirtual 142, 3) := by decide +kernel
theorem dX8_time_57 : decode cX8_time 57 = .ok (.goto 6, 3) := by decide +kernel
theorem dX8_time_60 : decode cX8_time 60 = .ok (.ldc2_w 146, 3) := by decide +kernel
theorem dX8_time_63 : decode cX8_time 63 = .ok (.lreturn, 1) := by decide +kernel
theorem dX8_spends_0 : decode cX8_spends 0 = .ok (.aload_n 0, 1) := by decide +kernel
theorem dX8_spends_1 : decode cX8_spends 1 = .ok (.getfield 22, 3) := by decide +kernel
theorem dX8_spends_4 : decode cX8_spends 4 = .ok (.iload_n 1, 1) := by decide +kernel
theorem dX8_spends_5 : decode cX8_spends 5 = .ok (.invokevirtual 127, 3) := by decide +kernel
theorem dX8_spends_8 : decode cX8_spends 8 = .ok (.ifCond .eq 21, 3) := by decide +kernel
theorem dX8_spends_11 : decode cX8_spends 11 = .ok (.aload_n 0, 1) := by decide +kernel
theorem dX8_spends_12 : decode cX8_spends 12 = .ok (.getfield 22, 3) := by decide +kernel
theorem dX8_spends_15 : decode cX8_spends 15 = .ok (.iload_n 2, 1) := by decide +kernel
theorem dX8_spends_16 : decode cX8_spends 16 = .ok (.invokevirtual 113, 3) := by decide +kernel
theorem dX8_spends_19 : decode cX8_spends 19 = .ok (.ifCond .eq 10, 3) := by decide +kernel
theorem dX8_spends_22 : decode cX8_spends 22 = .ok (.iload_n 3, 1) := by decide +kernel
theorem dX8_spends_23 : decode cX8_spends 23 = .ok (.invokestatic 117, 3) := by decide +kernel
theorem dX8_spends_26 : decode cX8_spends 26 = .ok (.ifCond .ne 7, 3) := by decide +kernel
theorem dX8_spends_29 : decode cX8_spends 29 = .ok (.ldc2_w 133, 3) := by decide +kernel
theorem dX8_spends_32 : decode cX8_spends 32 = .ok (.lreturn, 1) := by decide +kernel
theorem dX8_spends_33 : decode cX8_spends 33 = .ok (.aload_n 0, 1) := by decide +kernel
theorem dX8_spends_34 : decode cX8_spends 34 = .ok (.getfield 22, 3) := by decide +kernel
theorem dX8_spends_37 : decode cX8_spends 37 = .ok (.getfield 130, 3) := by decide +kernel
theorem dX8_spends_40 : decode cX8_spends 40 = .ok (.iload_n 1, 1) := by decide +kernel
theorem dX8_spends_41 : decode cX8_spends 41 = .ok (.iaload, 1) := by decide +kernel
theorem dX8_spends_42 : decode cX8_spends 42 = .ok (.aload_n 0, 1) := by decide +kernel
theorem dX8_spends_43 : decode cX8_spends 43 = .ok (.getfield 22, 3) := by decide +kernel
theorem dX8_spends_46 : decode cX8_spends 46 = .ok (.getfield 124, 3) := by decide +kernel
theorem dX8_spends_49 : decode cX8_spends 49 = .ok (.iload_n 2, 1) := by decide +kernel
theorem dX8_spends_50 : decode cX8_spends 50 = .ok (.iaload, 1) := by decide +kernel
theorem dX8_spends_51 : decode cX8_spends 51 = .ok (.iadd, 1) := by decide +kernel
theorem dX8_spends_52 : decode cX8_spends 52 = .ok (.istore 4, 2) := by decide +kernel
theorem dX8_spends_54 : decode cX8_spends 54 = .ok (.iload 4, 2) := by decide +kernel
theorem dX8_spends_56 : decode cX8_spends 56 = .ok (.ifCond .gt 7, 3) := by decide +kernel
theorem dX8_spends_59 : decode cX8_spends 59 = .ok (.ldc2_w 146, 3) := by decide +kernel
theorem dX8_spends_62 : decode cX8_spends 62 = .ok (.lreturn, 1) := by decide +kernel
theorem dX8_spends_63 : decode cX8_spends 63 = .ok (.aload_n 0, 1) := by decide +kernel
theorem dX8_spends_64 : decode cX8_spends 64 = .ok (.getfield 78, 3) := by decide +kernel
theorem dX8_spends_67 : decode cX8_spends 67 = .ok (.aload_n 0, 1) := by decide +kernel
theorem dX8_spends_68 : decode cX8_spends 68 = .ok (.getfield 22, 3) := by decide +kernel
theorem dX8_spends_71 : decode cX8_spends 71 = .ok (.getfield 120, 3) := by decide +kernel
theorem dX8_spends_74 : decode cX8_spends 74 = .ok (.iload_n 2, 1) := by decide +kernel
theorem dX8_spends_75 : decode cX8_spends 75 = .ok (.iaload, 1) := by decide +kernel
theorem dX8_spends_76 : decode cX8_spends 76 = .ok (.i2l, 1) := by decide +kernel
theorem dX8_spends_77 : decode cX8_spends 77 = .ok (.iload 4, 2) := by decide +kernel
theorem dX8_spends_79 : decode cX8_spends 79 = .ok (.i2l, 1) := by decide +kernel
theorem dX8_spends_80 : decode cX8_spends 80 = .ok (.invokevirtual 148, 3) := by decide +kernel
theorem dX8_spends_83 : decode cX8_spends 83 = .ok (.aload_n 0, 1) := by decide +kernel
theorem dX8_spends_84 : decode cX8_spends 84 = .ok (.getfield 78, 3) := by decide +kernel
theorem dX8_spends_87 : decode cX8_spends 87 = .ok (.iload_n 3, 1) := by decide +kernel
theorem dX8_spends_88 : decode cX8_spends 88 = .ok (.invokevirtual 142, 3) := by decide +kernel
theorem dX8_spends_91 : decode cX8_spends 91 = .ok (.lreturn, 1) := by decide +kernel
theorem dX8_steps_0 : decode cX8_steps 0 = .ok (.aload_n 0, 1) := by decide +kernel
theorem dX8_steps_1 : decode cX8_steps 1 = .ok (.getfield 22, 3) := by decide +kernel
theorem dX8_steps_4 : decode cX8_steps 4 = .ok (.iload_n 1, 1) := by decide +kernel
theorem dX8_steps_5 : decode cX8_steps 5 = .ok (.invokevirtual 127, 3) := by decide +kernel
theorem dX8_steps_8 : decode cX8_steps 8 = .ok (.ifCond .eq 10, 3) := by decide +kernel
theorem dX8_steps_11 : decode cX8_steps 11 = .ok (.iload_n 2, 1) := by decide +kernel
theorem dX8_steps_12 : decode cX8_steps 12 = .ok (.invokestatic 117, 3) := by decide +kernel
theorem dX8_steps_15 : decode cX8_steps 15 = .ok (.ifCond .ne 7, 3) := by decide +kernel
theorem dX8_steps_18 : decode cX8_steps 18 = .ok (.ldc2_w 133, 3) := by decide +kernel
theorem dX8_steps_21 : decode cX8_steps 21 = .ok (.lreturn, 1) := by decide +kernel
theorem dX8_steps_22 : decode cX8_steps 22 = .ok (.aload_n 0, 1) := by decide +kernel
theorem dX8_steps_23 : decode cX8_steps 23 = .ok (.getfield 22, 3) := by decide +kernel
theorem dX8_steps_26 : decode cX8_steps 26 = .ok (.getfield 130, 3) := by decide +kernel
theorem dX8_steps_29 : decode cX8_steps 29 = .ok (.iload_n 1, 1) := by decide +kernel
theorem dX8_steps_30 : decode cX8_steps 30 = .ok (.iaload, 1) := by decide +kernel
theorem dX8_steps_31 : decode cX8_steps 31 = .ok (.istore_n 3, 1) := by decide +kernel
theorem dX8_steps_32 : decode cX8_steps 32 = .ok (.aload_n 0, 1) := by decide +kernel
theorem dX8_steps_33 : decode cX8_steps 33 = .ok (.getfield 50, 3) := by decide +kernel
theorem dX8_steps_36 : decode cX8_steps 36 = .ok (.aload_n 0, 1) := by decide +kernel
theorem dX8_steps_37 : decode cX8_steps 37 = .ok (.getfield 22, 3) := by decide +kernel
theorem dX8_steps_40 : decode cX8_steps 40 = .ok (.iload_n 3, 1) := by decide +kernel
theorem dX8_steps_41 : decode cX8_steps 41 = .ok (.iconst 0, 1) := by decide +kernel
theorem dX8_steps_42 : decode cX8_steps 42 = .ok (.invokevirtual 135, 3) := by decide +kernel
theorem dX8_steps_45 : decode cX8_steps 45 = .ok (.ifCond .ne 7, 3) := by decide +kernel
theorem dX8_steps_48 : decode cX8_steps 48 = .ok (.ldc2_w 146, 3) := by decide +kernel
theorem dX8_steps_51 : decode cX8_steps 51 = .ok (.lreturn, 1) := by decide +kernel
theorem dX8_steps_52 : decode cX8_steps 52 = .ok (.aload_n 0, 1) := by decide +kernel
theorem dX8_steps_53 : decode cX8_steps 53 = .ok (.getfield 78, 3) := by decide +kernel
theorem dX8_steps_56 : decode cX8_steps 56 = .ok (.aload_n 0, 1) := by decide +kernel
theorem dX8_steps_57 : decode cX8_steps 57 = .ok (.getfield 50, 3) := by decide +kernel
theorem dX8_steps_60 : decode cX8_steps 60 = .ok (.getfield 139, 3) := by decide +kernel
theorem dX8_steps_63 : decode cX8_steps 63 = .ok (.getfield 152, 3) := by decide +kernel
theorem dX8_steps_66 : decode cX8_steps 66 = .ok (.iload_n 3, 1) := by decide +kernel
theorem dX8_steps_67 : decode cX8_steps 67 = .ok (.i2l, 1) := by decide +kernel
theorem dX8_steps_68 : decode cX8_steps 68 = .ok (.lmul, 1) := by decide +kernel
theorem dX8_steps_69 : decode cX8_steps 69 = .ok (.aload_n 0, 1) := by decide +kernel
theorem dX8_steps_70 : decode cX8_steps 70 = .ok (.getfield 50, 3) := by decide +kernel
theorem dX8_steps_73 : decode cX8_steps 73 = .ok (.getfield 139, 3) := by decide +kernel
theorem dX8_steps_76 : decode cX8_steps 76 = .ok (.getfield 156, 3) := by decide +kernel
theorem dX8_steps_79 : decode cX8_steps 79 = .ok (.invokevirtual 148, 3) := by decide +kernel
theorem dX8_steps_82 : decode cX8_steps 82 = .ok (.aload_n 0, 1) := by decide +kernel
theorem dX8_steps_83 : decode cX8_steps 83 = .ok (.getfield 78, 3) := by decide +kernel
theorem dX8_steps_86 : decode cX8_steps 86 = .ok (.iload_n 2, 1) := by decide +kernel
theorem dX8_steps_87 : decode cX8_steps 87 = .ok (.invokevirtual 142, 3) := by decide +kernel
theorem dX8_steps_90 : decode cX8_steps 90 = .ok (.lreturn, 1) := by decide +kernel
theorem dX8_at_0 : decode cX8_at 0 = .ok (.aload_n 0, 1) := by decide +kernel
theorem dX8_at_1 : decode cX8_at 1 = .ok (.getfield 22, 3) := by decide +kernel
theorem dX8_at_4 : decode cX8_at 4 = .ok (.iload_n 1, 1) := by decide +kernel
theorem dX8_at_5 : decode cX8_at 5 = .ok (.invokevirtual 127, 3) := by decide +kernel
theorem dX8_at_8 : decode cX8_at 8 = .ok (.ifCond .eq 15, 3) := by decide +kernel
theorem dX8_at_11 : decode cX8_at 11 = .ok (.iload_n 2, 1) := by decide +kernel
theorem dX8_at_12 : decode cX8_at 12 = .ok (.i2l, 1) := by decide +kernel
theorem dX8_at_13 : decode cX8_at 13 = .ok (.lconst 0, 1) := by decide +kernel
theorem dX8_at_14 : decode cX8_at 14 = .ok (.ldc2_w 159, 3) := by decide +kernel
theorem dX8_at_17 : decode cX8_at 17 = .ok (.invokestatic 161, 3) := by decide +kernel
theorem dX8_at_20 : decode cX8_at 20 = .ok (.ifCond .eq 6, 3) := by decide +kernel
theorem dX8_at_23 : decode cX8_at 23 = .ok (.bipush (-2), 2) := by decide +kernel
theorem dX8_at_25 : decode cX8_at 25 = .ok (.ireturn, 1) := by decide +kernel
theorem dX8_at_26 : decode cX8_at 26 = .ok (.aload_n 0, 1) := by decide +kernel
theorem dX8_at_27 : decode cX8_at 27 = .ok (.getfield 50, 3) := by decide +kernel
theorem dX8_at_30 : decode cX8_at 30 = .ok (.aload_n 0, 1) := by decide +kernel
theorem dX8_at_31 : decode cX8_at 31 = .ok (.getfield 22, 3) := by decide +kernel
theorem dX8_at_34 : decode cX8_at 34 = .ok (.aload_n 0, 1) := by decide +kernel
theorem dX8_at_35 : decode cX8_at 35 = .ok (.getfield 22, 3) := by decide +kernel
theorem dX8_at_38 : decode cX8_at 38 = .ok (.getfield 130, 3) := by decide +kernel
theorem dX8_at_41 : decode cX8_at 41 = .ok (.iload_n 1, 1) := by decide +kernel
theorem dX8_at_42 : decode cX8_at 42 = .ok (.iaload, 1) := by decide +kernel
theorem dX8_at_43 : decode cX8_at 43 = .ok (.iload_n 2, 1) := by decide +kernel
theorem dX8_at_44 : decode cX8_at 44 = .ok (.invokevirtual 165, 3) := by decide +kernel
theorem dX8_at_47 : decode cX8_at 47 = .ok (.ireturn, 1) := by decide +kernel
theorem dX8_on_0 : decode cX8_on 0 = .ok (.aload_n 0, 1) := by decide +kernel
theorem dX8_on_1 : decode cX8_on 1 = .ok (.getfield 22, 3) := by decide +kernel
theorem dX8_on_4 : decode cX8_on 4 = .ok (.iload_n 1, 1) := by decide +kernel
theorem dX8_on_5 : decode cX8_on 5 = .ok (.invokevirtual 127, 3) := by decide +kernel
theorem dX8_on_8 : decode cX8_on 8 = .ok (.ifCond .eq 15, 3) := by decide +kernel
theorem dX8_on_11 : decode cX8_on 11 = .ok (.iload_n 2, 1) := by decide +kernel
theorem dX8_on_12 : decode cX8_on 12 = .ok (.i2l, 1) := by decide +kernel
theorem dX8_on_13 : decode cX8_on 13 = .ok (.lconst 0, 1) := by decide +kernel
theorem dX8_on_14 : decode cX8_on 14 = .ok (.ldc2_w 159, 3) := by decide +kernel
theorem dX8_on_17 : decode cX8_on 17 = .ok (.invokestatic 161, 3) := by decide +kernel
theorem dX8_on_20 : decode cX8_on 20 = .ok (.ifCond .eq 6, 3) := by decide +kernel
theorem dX8_on_23 : decode cX8_on 23 = .ok (.bipush (-2), 2) := by decide +kernel
theorem dX8_on_25 : decode cX8_on 25 = .ok (.ireturn, 1) := by decide +kernel
theorem dX8_on_26 : decode cX8_on 26 = .ok (.aload_n 0, 1) := by decide +kernel
theorem dX8_on_27 : decode cX8_on 27 = .ok (.getfield 50, 3) := by decide +kernel
theorem dX8_on_30 : decode cX8_on 30 = .ok (.aload_n 0, 1) := by decide +kernel
theorem dX8_on_31 : decode cX8_on 31 = .ok (.getfield 22, 3) := by decide +kernel
theorem dX8_on_34 : decode cX8_on 34 = .ok (.aload_n 0, 1) := by decide +kernel
theorem dX8_on_35 : decode cX8_on 35 = .ok (.getfield 22, 3) := by decide +kernel
theorem dX8_on_38 : decode cX8_on 38 = .ok (.getfield 130, 3) := by decide +kernel
theorem dX8_on_41 : decode cX8_on 41 = .ok (.iload_n 1, 1) := by decide +kernel
theorem dX8_on_42 : decode cX8_on 42 = .ok (.iaload, 1) := by decide +kernel
theorem dX8_on_43 : decode cX8_on 43 = .ok (.iload_n 2, 1) := by decide +kernel
theorem dX8_on_44 : decode cX8_on 44 = .ok (.invokevirtual 169, 3) := by decide +kernel
theorem dX8_on_47 : decode cX8_on 47 = .ok (.istore_n 3, 1) := by decide +kernel
theorem dX8_on_48 : decode cX8_on 48 = .ok (.aload_n 0, 1) := by decide +kernel
theorem dX8_on_49 : decode cX8_on 49 = .ok (.getfield 22, 3) := by decide +kernel
theorem dX8_on_52 : decode cX8_on 52 = .ok (.iload_n 3, 1) := by decide +kernel
theorem dX8_on_53 : decode cX8_on 53 = .ok (.invokevirtual 113, 3) := by decide +kernel
theorem dX8_on_56 : decode cX8_on 56 = .ok (.ifCond .eq 7, 3) := by decide +kernel
theorem dX8_on_59 : decode cX8_on 59 = .ok (.iload_n 3, 1) := by decide +kernel
theorem dX8_on_60 : decode cX8_on 60 = .ok (.goto 4, 3) := by decide +kernel
theorem dX8_on_63 : decode cX8_on 63 = .ok (.iconst (-1), 1) := by decide +kernel
theorem dX8_on_64 : decode cX8_on 64 = .ok (.ireturn, 1) := by decide +kernel
theorem dX8_first_0 : decode cX8_first 0 = .ok (.aload_n 0, 1) := by decide +kernel
theorem dX8_first_1 : decode cX8_first 1 = .ok (.getfield 22, 3) := by decide +kernel
theorem dX8_first_4 : decode cX8_first 4 = .ok (.invokevirtual 172, 3) := by decide +kernel
theorem dX8_first_7 : decode cX8_first 7 = .ok (.ifCond .ne 6, 3) := by decide +kernel
theorem dX8_first_10 : decode cX8_first 10 = .ok (.bipush (-2), 2) := by decide +kernel
theorem dX8_first_12 : decode cX8_first 12 = .ok (.ireturn, 1) := by decide +kernel
theorem dX8_first_13 : decode cX8_first 13 = .ok (.iconst (-1), 1) := by decide +kernel
theorem dX8_first_14 : decode cX8_first 14 = .ok (.istore_n 1, 1) := by decide +kernel
theorem dX8_first_15 : decode cX8_first 15 = .ok (.iconst 0, 1) := by decide +kernel
theorem dX8_first_16 : decode cX8_first 16 = .ok (.istore_n 2, 1) := by decide +kernel
theorem dX8_first_17 : decode cX8_first 17 = .ok (.iload_n 2, 1) := by decide +kernel
theorem dX8_first_18 : decode cX8_first 18 = .ok (.aload_n 0, 1) := by decide +kernel
theorem dX8_first_19 : decode cX8_first 19 = .ok (.getfield 22, 3) := by decide +kernel
theorem dX8_first_22 : decode cX8_first 22 = .ok (.getfield 176, 3) := by decide +kernel
theorem dX8_first_25 : decode cX8_first 25 = .ok (.if_icmp .ge 77, 3) := by decide +kernel
theorem dX8_first_28 : decode cX8_first 28 = .ok (.aload_n 0, 1) := by decide +kernel
theorem dX8_first_29 : decode cX8_first 29 = .ok (.getfield 50, 3) := by decide +kernel
theorem dX8_first_32 : decode cX8_first 32 = .ok (.aload_n 0, 1) := by decide +kernel
theorem dX8_first_33 : decode cX8_first 33 = .ok (.getfield 22, 3) := by decide +kernel
theorem dX8_first_36 : decode cX8_first 36 = .ok (.aload_n 0, 1) := by decide +kernel
theorem dX8_first_37 : decode cX8_first 37 = .ok (.getfield 22, 3) := by decide +kernel
theorem dX8_first_40 : decode cX8_first 40 = .ok (.getfield 130, 3) := by decide +kernel
theorem dX8_first_43 : decode cX8_first 43 = .ok (.iload_n 2, 1) := by decide +kernel
theorem dX8_first_44 : decode cX8_first 44 = .ok (.iaload, 1) := by decide +kernel
theorem dX8_first_45 : decode cX8_first 45 = .ok (.iconst 0, 1) := by decide +kernel
theorem dX8_first_46 : decode cX8_first 46 = .ok (.invokevirtual 135, 3) := by decide +kernel
theorem dX8_first_49 : decode cX8_first 49 = .ok (.ifCond .eq 47, 3) := by decide +kernel
theorem dX8_first_52 : decode cX8_first 52 = .ok (.iload_n 1, 1) := by decide +kernel
theorem dX8_first_53 : decode cX8_first 53 = .ok (.iconst (-1), 1) := by decide +kernel
theorem dX8_first_54 : decode cX8_first 54 = .ok (.if_icmp .eq 23, 3) := by decide +kernel
theorem dX8_first_57 : decode cX8_first 57 = .ok (.aload_n 0, 1) := by decide +kernel
theorem dX8_first_58 : decode cX8_first 58 = .ok (.getfield 50, 3) := by decide +kernel
theorem dX8_first_61 : decode cX8_first 61 = .ok (.getfield 139, 3) := by decide +kernel
theorem dX8_first_64 : decode cX8_first 64 = .ok (.aload_n 0, 1) := by decide +kernel
theorem dX8_first_65 : decode cX8_first 65 = .ok (.getfield 50, 3) := by decide +kernel
theorem dX8_first_68 : decode cX8_first 68 = .ok (.getfield 179, 3) := by decide +kernel
theorem dX8_first_71 : decode cX8_first 71 = .ok (.invokevirtual 182, 3) := by decide +kernel
theorem dX8_first_74 : decode cX8_first 74 = .ok (.ifCond .ge 22, 3) := by decide +kernel
theorem dX8_first_77 : decode cX8_first 77 = .ok (.aload_n 0, 1) := by decide +kernel
theorem dX8_first_78 : decode cX8_first 78 = .ok (.getfield 50, 3) := by decide +kernel
theorem dX8_first_81 : decode cX8_first 81 = .ok (.getfield 179, 3) := by decide +kernel
theorem dX8_first_84 : decode cX8_first 84 = .ok (.aload_n 0, 1) := by decide +kernel
theorem dX8_first_85 : decode cX8_first 85 = .ok (.getfield 50, 3) := by decide +kernel
theorem dX8_first_88 : decode cX8_first 88 = .ok (.getfield 139, 3) := by decide +kernel
theorem dX8_first_91 : decode cX8_first 91 = .ok (.invokevirtual 186, 3) := by decide +kernel
theorem dX8_first_94 : decode cX8_first 94 = .ok (.iload_n 2, 1) := by decide +kernel
theorem dX8_first_95 : decode cX8_first 95 = .ok (.istore_n 1, 1) := by decide +kernel
theorem dX8_first_96 : decode cX8_first 96 = .ok (.iinc 2 1, 3) := by decide +kernel
theorem dX8_first_99 : decode cX8_first 99 = .ok (.goto (-82), 3) := by decide +kernel
theorem dX8_first_102 : decode cX8_first 102 = .ok (.iload_n 1, 1) := by decide +kernel
theorem dX8_first_103 : decode cX8_first 103 = .ok (.ireturn, 1) := by decide +kernel
theorem dX8_never_0 : decode cX8_never 0 = .ok (.aload_n 0, 1) := by decide +kernel
theorem dX8_never_1 : decode cX8_never 1 = .ok (.getfield 22, 3) := by decide +kernel
theorem dX8_never_4 : decode cX8_never 4 = .ok (.invokevirtual 172, 3) := by decide +kernel
theorem dX8_never_7 : decode cX8_never 7 = .ok (.ifCond .ne 6, 3) := by decide +kernel
theorem dX8_never_10 : decode cX8_never 10 = .ok (.bipush (-2), 2) := by decide +kernel
theorem dX8_never_12 : decode cX8_never 12 = .ok (.ireturn, 1) := by decide +kernel
theorem dX8_never_13 : decode cX8_never 13 = .ok (.iconst 0, 1) := by decide +kernel
theorem dX8_never_14 : decode cX8_never 14 = .ok (.istore_n 1, 1) := by decide +kernel
theorem dX8_never_15 : decode cX8_never 15 = .ok (.iconst 0, 1) := by decide +kernel
theorem dX8_never_16 : decode cX8_never 16 = .ok (.istore_n 2, 1) := by decide +kernel
theorem dX8_never_17 : decode cX8_never 17 = .ok (.iload_n 2, 1) := by decide +kernel
theorem dX8_never_18 : decode cX8_never 18 = .ok (.aload_n 0, 1) := by decide +kernel
theorem dX8_never_19 : decode cX8_never 19 = .ok (.getfield 22, 3) := by decide +kernel
theorem dX8_never_22 : decode cX8_never 22 = .ok (.getfield 176, 3) := by decide +kernel
theorem dX8_never_25 : decode cX8_never 25 = .ok (.if_icmp .ge 39, 3) := by decide +kernel
theorem dX8_never_28 : decode cX8_never 28 = .ok (.aload_n 0, 1) := by decide +kernel
theorem dX8_never_29 : decode cX8_never 29 = .ok (.getfield 50, 3) := by decide +kernel
theorem dX8_never_32 : decode cX8_never 32 = .ok (.aload_n 0, 1) := by decide +kernel
theorem dX8_never_33 : decode cX8_never 33 = .ok (.getfield 22, 3) := by decide +kernel
theorem dX8_never_36 : decode cX8_never 36 = .ok (.aload_n 0, 1) := by decide +kernel
theorem dX8_never_37 : decode cX8_never 37 = .ok (.getfield 22, 3) := by decide +kernel
theorem dX8_never_40 : decode cX8_never 40 = .ok (.getfield 130, 3) := by decide +kernel
theorem dX8_never_43 : decode cX8_never 43 = .ok (.iload_n 2, 1) := by decide +kernel
theorem dX8_never_44 : decode cX8_never 44 = .ok (.iaload, 1) := by decide +kernel
theorem dX8_never_45 : decode cX8_never 45 = .ok (.iconst 0, 1) := by decide +kernel
theorem dX8_never_46 : decode cX8_never 46 = .ok (.invokevirtual 135, 3) := by decide +kernel
theorem dX8_never_49 : decode cX8_never 49 = .ok (.ifCond .ne 9, 3) := by decide +kernel
theorem dX8_never_52 : decode cX8_never 52 = .ok (.iload_n 1, 1) := by decide +kernel
theorem dX8_never_53 : decode cX8_never 53 = .ok (.iconst 1, 1) := by decide +kernel
theorem dX8_never_54 : decode cX8_never 54 = .ok (.iload_n 2, 1) := by decide +kernel
theorem dX8_never_55 : decode cX8_never 55 = .ok (.ishl, 1) := by decide +kernel
theorem dX8_never_56 : decode cX8_never 56 = .ok (.ior, 1) := by decide +kernel
theorem dX8_never_57 : decode cX8_never 57 = .ok (.istore_n 1, 1) := by decide +kernel
theorem dX8_never_58 : decode cX8_never 58 = .ok (.iinc 2 1, 3) := by decide +kernel
theorem dX8_never_61 : decode cX8_never 61 = .ok (.goto (-44), 3) := by decide +kernel
theorem dX8_never_64 : decode cX8_never 64 = .ok (.iload_n 1, 1) := by decide +kernel
theorem dX8_never_65 : decode cX8_never 65 = .ok (.ireturn, 1) := by decide +kernel
theorem dX8_catches_0 : decode cX8_catches 0 = .ok (.aload_n 0, 1) := by decide +kernel
theorem dX8_catches_1 : decode cX8_catches 1 = .ok (.getfield 22, 3) := by decide +kernel
theorem dX8_catches_4 : decode cX8_catches 4 = .ok (.iload_n 1, 1) := by decide +kernel
theorem dX8_catches_5 : decode cX8_catches 5 = .ok (.invokevirtual 127, 3) := by decide +kernel
theorem dX8_catches_8 : decode cX8_catches 8 = .ok (.ifCond .eq 26, 3) := by decide +kernel
theorem dX8_catches_11 : decode cX8_catches 11 = .ok (.aload_n 0, 1) := by decide +kernel
theorem dX8_catches_12 : decode cX8_catches 12 = .ok (.getfield 22, 3) := by decide +kernel
theorem dX8_catches_15 : decode cX8_catches 15 = .ok (.iload_n 2, 1) := by decide +kernel
theorem dX8_catches_16 : decode cX8_catches 16 = .ok (.invokevirtual 127, 3) := by decide +kernel
theorem dX8_catches_19 : decode cX8_catches 19 = .ok (.ifCond .eq 15, 3) := by decide +kernel
theorem dX8_catches_22 : decode cX8_catches 22 = .ok (.iload_n 3, 1) := by decide +kernel
theorem dX8_catches_23 : decode cX8_catches 23 = .ok (.i2l, 1) := by decide +kernel
theorem dX8_catches_24 : decode cX8_catches 24 = .ok (.lconst 0, 1) := by decide +kernel
theorem dX8_catches_25 : decode cX8_catches 25 = .ok (.ldc2_w 190, 3) := by decide +kernel
theorem dX8_catches_28 : decode cX8_catches 28 = .ok (.invokestatic 161, 3) := by decide +kernel
theorem dX8_catches_31 : decode cX8_catches 31 = .ok (.ifCond .eq 6, 3) := by decide +kernel
theorem dX8_catches_34 : decode cX8_catches 34 = .ok (.bipush (-2), 2) := by decide +kernel
theorem dX8_catches_36 : decode cX8_catches 36 = .ok (.ireturn, 1) := by decide +kernel
theorem dX8_catches_37 : decode cX8_catches 37 = .ok (.aload_n 0, 1) := by decide +kernel
theorem dX8_catches_38 : decode cX8_catches 38 = .ok (.getfield 50, 3) := by decide +kernel
theorem dX8_catches_41 : decode cX8_catches 41 = .ok (.aload_n 0, 1) := by decide +kernel
theorem dX8_catches_42 : decode cX8_catches 42 = .ok (.getfield 22, 3) := by decide +kernel
theorem dX8_catches_45 : decode cX8_catches 45 = .ok (.aload_n 0, 1) := by decide +kernel
theorem dX8_catches_46 : decode cX8_catches 46 = .ok (.getfield 22, 3) := by decide +kernel
theorem dX8_catches_49 : decode cX8_catches 49 = .ok (.getfield 130, 3) := by decide +kernel
theorem dX8_catches_52 : decode cX8_catches 52 = .ok (.iload_n 1, 1) := by decide +kernel
theorem dX8_catches_53 : decode cX8_catches 53 = .ok (.iaload, 1) := by decide +kernel
theorem dX8_catches_54 : decode cX8_catches 54 = .ok (.iconst 0, 1) := by decide +kernel
theorem dX8_catches_55 : decode cX8_catches 55 = .ok (.invokevirtual 135, 3) := by decide +kernel
theorem dX8_catches_58 : decode cX8_catches 58 = .ok (.ifCond .ne 5, 3) := by decide +kernel
theorem dX8_catches_61 : decode cX8_catches 61 = .ok (.iconst 0, 1) := by decide +kernel
theorem dX8_catches_62 : decode cX8_catches 62 = .ok (.ireturn, 1) := by decide +kernel
theorem dX8_catches_63 : decode cX8_catches 63 = .ok (.aload_n 0, 1) := by decide +kernel
theorem dX8_catches_64 : decode cX8_catches 64 = .ok (.getfield 82, 3) := by decide +kernel
theorem dX8_catches_67 : decode cX8_catches 67 = .ok (.aload_n 0, 1) := by decide +kernel
theorem dX8_catches_68 : decode cX8_catches 68 = .ok (.getfield 50, 3) := by decide +kernel
theorem dX8_catches_71 : decode cX8_catches 71 = .ok (.getfield 139, 3) := by decide +kernel
theorem dX8_catches_74 : decode cX8_catches 74 = .ok (.invokevirtual 186, 3) := by decide +kernel
theorem dX8_catches_77 : decode cX8_catches 77 = .ok (.aload_n 0, 1) := by decide +kernel
theorem dX8_catches_78 : decode cX8_catches 78 = .ok (.getfield 82, 3) := by decide +kernel
theorem dX8_catches_81 : decode cX8_catches 81 = .ok (.iload_n 3, 1) := by decide +kernel
theorem dX8_catches_82 : decode cX8_catches 82 = .ok (.i2l, 1) := by decide +kernel
theorem dX8_catches_83 : decode cX8_catches 83 = .ok (.ldc2_w 192, 3) := by decide +kernel
theorem dX8_catches_86 : decode cX8_catches 86 = .ok (.invokevirtual 194, 3) := by decide +kernel
theorem dX8_catches_89 : decode cX8_catches 89 = .ok (.aload_n 0, 1) := by decide +kernel
theorem dX8_catches_90 : decode cX8_catches 90 = .ok (.getfield 50, 3) := by decide +kernel
theorem dX8_catches_93 : decode cX8_catches 93 = .ok (.aload_n 0, 1) := by decide +kernel
theorem dX8_catches_94 : decode cX8_catches 94 = .ok (.getfield 22, 3) := by decide +kernel
theorem dX8_catches_97 : decode cX8_catches 97 = .ok (.aload_n 0, 1) := by decide +kernel
theorem dX8_catches_98 : decode cX8_catches 98 = .ok (.getfield 22, 3) := by decide +kernel
theorem dX8_catches_101 : decode cX8_catches 101 = .ok (.getfield 130, 3) := by decide +kernel
theorem dX8_catches_104 : decode cX8_catches 104 = .ok (.iload_n 2, 1) := by decide +kernel
theorem dX8_catches_105 : decode cX8_catches 105 = .ok (.iaload, 1) := by decide +kernel
theorem dX8_catches_106 : decode cX8_catches 106 = .ok (.iconst 0, 1) := by decide +kernel
theorem dX8_catches_107 : decode cX8_catches 107 = .ok (.invokevirtual 135, 3) := by decide +kernel
theorem dX8_catches_110 : decode cX8_catches 110 = .ok (.ifCond .ne 5, 3) := by decide +kernel
theorem dX8_catches_113 : decode cX8_catches 113 = .ok (.iconst 1, 1) := by decide +kernel
theorem dX8_catches_114 : decode cX8_catches 114 = .ok (.ireturn, 1) := by decide +kernel
theorem dX8_catches_115 : decode cX8_catches 115 = .ok (.aload_n 0, 1) := by decide +kernel
theorem dX8_catches_116 : decode cX8_catches 116 = .ok (.getfield 82, 3) := by decide +kernel
theorem dX8_catches_119 : decode cX8_catches 119 = .ok (.aload_n 0, 1) := by decide +kernel
theorem dX8_catches_120 : decode cX8_catches 120 = .ok (.getfield 50, 3) := by decide +kernel
theorem dX8_catches_123 : decode cX8_catches 123 = .ok (.getfield 139, 3) := by decide +kernel
theorem dX8_catches_126 : decode cX8_catches 126 = .ok (.invokevirtual 182, 3) := by decide +kernel
theorem dX8_catches_129 : decode cX8_catches 129 = .ok (.ifCond .gt 7, 3) := by decide +kernel
theorem dX8_catches_132 : decode cX8_catches 132 = .ok (.iconst 1, 1) := by decide +kernel
theorem dX8_catches_133 : decode cX8_catches 133 = .ok (.goto 4, 3) := by decide +kernel
theorem dX8_catches_136 : decode cX8_catches 136 = .ok (.iconst 0, 1) := by decide +kernel
theorem dX8_catches_137 : decode cX8_catches 137 = .ok (.ireturn, 1) := by decide +kernel
theorem dX8_lace_0 : decode cX8_lace 0 = .ok (.aload_n 0, 1) := by decide +kernel
theorem dX8_lace_1 : decode cX8_lace 1 = .ok (.iload_n 1, 1) := by decide +kernel
theorem dX8_lace_2 : decode cX8_lace 2 = .ok (.iload_n 2, 1) := by decide +kernel
theorem dX8_lace_3 : decode cX8_lace 3 = .ok (.invokevirtual 197, 3) := by decide +kernel
theorem dX8_lace_6 : decode cX8_lace 6 = .ok (.ifCond .eq 10, 3) := by decide +kernel
theorem dX8_lace_9 : decode cX8_lace 9 = .ok (.iload_n 3, 1) := by decide +kernel
theorem dX8_lace_10 : decode cX8_lace 10 = .ok (.invokestatic 117, 3) := by decide +kernel
theorem dX8_lace_13 : decode cX8_lace 13 = .ok (.ifCond .ne 7, 3) := by decide +kernel
theorem dX8_lace_16 : decode cX8_lace 16 = .ok (.ldc2_w 133, 3) := by decide +kernel
theorem dX8_lace_19 : decode cX8_lace 19 = .ok (.lreturn, 1) := by decide +kernel
theorem dX8_lace_20 : decode cX8_lace 20 = .ok (.aload_n 0, 1) := by decide +kernel
theorem dX8_lace_21 : decode cX8_lace 21 = .ok (.iload_n 1, 1) := by decide +kernel
theorem dX8_lace_22 : decode cX8_lace 22 = .ok (.iload_n 2, 1) := by decide +kernel
theorem dX8_lace_23 : decode cX8_lace 23 = .ok (.invokevirtual 201, 3) := by decide +kernel
theorem dX8_lace_26 : decode cX8_lace 26 = .ok (.iconst (-1), 1) := by decide +kernel
theorem dX8_lace_27 : decode cX8_lace 27 = .ok (.if_icmp .ne 9, 3) := by decide +kernel
theorem dX8_lace_30 : decode cX8_lace 30 = .ok (.ldc2_w 146, 3) := by decide +kernel
theorem dX8_lace_33 : decode cX8_lace 33 = .ok (.goto 14, 3) := by decide +kernel
theorem dX8_lace_36 : decode cX8_lace 36 = .ok (.aload_n 0, 1) := by decide +kernel
theorem dX8_lace_37 : decode cX8_lace 37 = .ok (.getfield 50, 3) := by decide +kernel
theorem dX8_lace_40 : decode cX8_lace 40 = .ok (.getfield 179, 3) := by decide +kernel
theorem dX8_lace_43 : decode cX8_lace 43 = .ok (.iload_n 3, 1) := by decide +kernel
theorem dX8_lace_44 : decode cX8_lace 44 = .ok (.invokevirtual 142, 3) := by decide +kernel
theorem dX8_lace_47 : decode cX8_lace 47 = .ok (.lreturn, 1) := by decide +kernel
theorem dX8_ties_0 : decode cX8_ties 0 = .ok (.aload_n 0, 1) := by decide +kernel
theorem dX8_ties_1 : decode cX8_ties 1 = .ok (.iload_n 1, 1) := by decide +kernel
theorem dX8_ties_2 : decode cX8_ties 2 = .ok (.iload_n 2, 1) := by decide +kernel
theorem dX8_ties_3 : decode cX8_ties 3 = .ok (.invokevirtual 197, 3) := by decide +kernel
theorem dX8_ties_6 : decode cX8_ties 6 = .ok (.ifCond .eq 12, 3) := by decide +kernel
theorem dX8_ties_9 : decode cX8_ties 9 = .ok (.aload_n 0, 1) := by decide +kernel
theorem dX8_ties_10 : decode cX8_ties 10 = .ok (.iload_n 1, 1) := by decide +kernel
theorem dX8_ties_11 : decode cX8_ties 11 = .ok (.iload_n 2, 1) := by decide +kernel
theorem dX8_ties_12 : decode cX8_ties 12 = .ok (.invokevirtual 201, 3) := by decide +kernel
theorem dX8_ties_15 : decode cX8_ties 15 = .ok (.goto 5, 3) := by decide +kernel
theorem dX8_ties_18 : decode cX8_ties 18 = .ok (.bipush (-2), 2) := by decide +kernel
theorem dX8_ties_20 : decode cX8_ties 20 = .ok (.ireturn, 1) := by decide +kernel
theorem dX8_saves_0 : decode cX8_saves 0 = .ok (.aload_n 0, 1) := by decide +kernel
theorem dX8_saves_1 : decode cX8_saves 1 = .ok (.iload_n 1, 1) := by decide +kernel
theorem dX8_saves_2 : decode cX8_saves 2 = .ok (.iload_n 2, 1) := by decide +kernel
theorem dX8_saves_3 : decode cX8_saves 3 = .ok (.invokevirtual 197, 3) := by decide +kernel
theorem dX8_saves_6 : decode cX8_saves 6 = .ok (.ifCond .eq 10, 3) := by decide +kernel
theorem dX8_saves_9 : decode cX8_saves 9 = .ok (.iload_n 3, 1) := by decide +kernel
theorem dX8_saves_10 : decode cX8_saves 10 = .ok (.invokestatic 117, 3) := by decide +kernel
theorem dX8_saves_13 : decode cX8_saves 13 = .ok (.ifCond .ne 7, 3) := by decide +kernel
theorem dX8_saves_16 : decode cX8_saves 16 = .ok (.ldc2_w 133, 3) := by decide +kernel
theorem dX8_saves_19 : decode cX8_saves 19 = .ok (.lreturn, 1) := by decide +kernel
theorem dX8_saves_20 : decode cX8_saves 20 = .ok (.aload_n 0, 1) := by decide +kernel
theorem dX8_saves_21 : decode cX8_saves 21 = .ok (.iload_n 1, 1) := by decide +kernel
theorem dX8_saves_22 : decode cX8_saves 22 = .ok (.iload_n 2, 1) := by decide +kernel
theorem dX8_saves_23 : decode cX8_saves 23 = .ok (.invokevirtual 201, 3) := by decide +kernel
theorem dX8_saves_26 : decode cX8_saves 26 = .ok (.iconst (-1), 1) := by decide +kernel
theorem dX8_saves_27 : decode cX8_saves 27 = .ok (.if_icmp .eq 27, 3) := by decide +kernel
theorem dX8_saves_30 : decode cX8_saves 30 = .ok (.aload_n 0, 1) := by decide +kernel
theorem dX8_saves_31 : decode cX8_saves 31 = .ok (.getfield 50, 3) := by decide +kernel
theorem dX8_saves_34 : decode cX8_saves 34 = .ok (.aload_n 0, 1) := by decide +kernel
theorem dX8_saves_35 : decode cX8_saves 35 = .ok (.getfield 22, 3) := by decide +kernel
theorem dX8_saves_38 : decode cX8_saves 38 = .ok (.aload_n 0, 1) := by decide +kernel
theorem dX8_saves_39 : decode cX8_saves 39 = .ok (.getfield 22, 3) := by decide +kernel
theorem dX8_saves_42 : decode cX8_saves 42 = .ok (.getfield 130, 3) := by decide +kernel
theorem dX8_saves_45 : decode cX8_saves 45 = .ok (.iload_n 1, 1) := by decide +kernel
theorem dX8_saves_46 : decode cX8_saves 46 = .ok (.iaload, 1) := by decide +kernel
theorem dX8_saves_47 : decode cX8_saves 47 = .ok (.iconst 0, 1) := by decide +kernel
theorem dX8_saves_48 : decode cX8_saves 48 = .ok (.invokevirtual 135, 3) := by decide +kernel
theorem dX8_saves_51 : decode cX8_saves 51 = .ok (.ifCond .ne 7, 3) := by decide +kernel
theorem dX8_saves_54 : decode cX8_saves 54 = .ok (.ldc2_w 146, 3) := by decide +kernel
theorem dX8_saves_57 : decode cX8_saves 57 = .ok (.lreturn, 1) := by decide +kernel
theorem dX8_saves_58 : decode cX8_saves 58 = .ok (.aload_n 0, 1) := by decide +kernel
theorem dX8_saves_59 : decode cX8_saves 59 = .ok (.getfield 78, 3) := by decide +kernel
theorem dX8_saves_62 : decode cX8_saves 62 = .ok (.aload_n 0, 1) := by decide +kernel
theorem dX8_saves_63 : decode cX8_saves 63 = .ok (.getfield 50, 3) := by decide +kernel
theorem dX8_saves_66 : decode cX8_saves 66 = .ok (.getfield 139, 3) := by decide +kernel
theorem dX8_saves_69 : decode cX8_saves 69 = .ok (.invokevirtual 186, 3) := by decide +kernel
theorem dX8_saves_72 : decode cX8_saves 72 = .ok (.aload_n 0, 1) := by decide +kernel
theorem dX8_saves_73 : decode cX8_saves 73 = .ok (.getfield 78, 3) := by decide +kernel
theorem dX8_saves_76 : decode cX8_saves 76 = .ok (.iload_n 2, 1) := by decide +kernel
theorem dX8_saves_77 : decode cX8_saves 77 = .ok (.i2l, 1) := by decide +kernel
theorem dX8_saves_78 : decode cX8_saves 78 = .ok (.lconst 1, 1) := by decide +kernel
theorem dX8_saves_79 : decode cX8_saves 79 = .ok (.invokevirtual 194, 3) := by decide +kernel
theorem dX8_saves_82 : decode cX8_saves 82 = .ok (.aload_n 0, 1) := by decide +kernel
theorem dX8_saves_83 : decode cX8_saves 83 = .ok (.getfield 78, 3) := by decide +kernel
theorem dX8_saves_86 : decode cX8_saves 86 = .ok (.aload_n 0, 1) := by decide +kernel
theorem dX8_saves_87 : decode cX8_saves 87 = .ok (.getfield 50, 3) := by decide +kernel
theorem dX8_saves_90 : decode cX8_saves 90 = .ok (.getfield 179, 3) := by decide +kernel
theorem dX8_saves_93 : decode cX8_saves 93 = .ok (.getfield 152, 3) := by decide +kernel
theorem dX8_saves_96 : decode cX8_saves 96 = .ok (.lneg, 1) := by decide +kernel
theorem dX8_saves_97 : decode cX8_saves 97 = .ok (.aload_n 0, 1) := by decide +kernel
theorem dX8_saves_98 : decode cX8_saves 98 = .ok (.getfield 50, 3) := by decide +kernel
theorem dX8_saves_101 : decode cX8_saves 101 = .ok (.getfield 179, 3) := by decide +kernel
theorem dX8_saves_104 : decode cX8_saves 104 = .ok (.getfield 156, 3) := by decide +kernel
theorem dX8_saves_107 : decode cX8_saves 107 = .ok (.invokevirtual 194, 3) := by decide +kernel
theorem dX8_saves_110 : decode cX8_saves 110 = .ok (.aload_n 0, 1) := by decide +kernel
theorem dX8_saves_111 : decode cX8_saves 111 = .ok (.getfield 78, 3) := by decide +kernel
theorem dX8_saves_114 : decode cX8_saves 114 = .ok (.iload_n 3, 1) := by decide +kernel
theorem dX8_saves_115 : decode cX8_saves 115 = .ok (.invokevirtual 142, 3) := by decide +kernel
theorem dX8_saves_118 : decode cX8_saves 118 = .ok (.lreturn, 1) := by decide +kernel
theorem dX8_canStop_0 : decode cX8_canStop 0 = .ok (.aload_n 0, 1) := by decide +kernel
theorem dX8_canStop_1 : decode cX8_canStop 1 = .ok (.getfield 22, 3) := by decide +kernel
theorem dX8_canStop_4 : decode cX8_canStop 4 = .ok (.iload_n 1, 1) := by decide +kernel
theorem dX8_canStop_5 : decode cX8_canStop 5 = .ok (.invokevirtual 127, 3) := by decide +kernel
theorem dX8_canStop_8 : decode cX8_canStop 8 = .ok (.ifCond .eq 29, 3) := by decide +kernel
theorem dX8_canStop_11 : decode cX8_canStop 11 = .ok (.aload_n 0, 1) := by decide +kernel
theorem dX8_canStop_12 : decode cX8_canStop 12 = .ok (.getfield 22, 3) := by decide +kernel
theorem dX8_canStop_15 : decode cX8_canStop 15 = .ok (.getfield 205, 3) := by decide +kernel
theorem dX8_canStop_18 : decode cX8_canStop 18 = .ok (.ifCond .le 19, 3) := by decide +kernel
theorem dX8_canStop_21 : decode cX8_canStop 21 = .ok (.iload_n 2, 1) := by decide +kernel
theorem dX8_canStop_22 : decode cX8_canStop 22 = .ok (.i2l, 1) := by decide +kernel
theorem dX8_canStop_23 : decode cX8_canStop 23 = .ok (.lconst 0, 1) := by decide +kernel
theorem dX8_canStop_24 : decode cX8_canStop 24 = .ok (.ldc2_w 192, 3) := by decide +kernel
theorem dX8_canStop_27 : decode cX8_canStop 27 = .ok (.invokestatic 161, 3) := by decide +kernel
theorem dX8_canStop_30 : decode cX8_canStop 30 = .ok (.ifCond .ne 7, 3) := by decide +kernel
theorem dX8_canStop_33 : decode cX8_canStop 33 = .ok (.iconst 1, 1) := by decide +kernel
theorem dX8_canStop_34 : decode cX8_canStop 34 = .ok (.goto 4, 3) := by decide +kernel
theorem dX8_canStop_37 : decode cX8_canStop 37 = .ok (.iconst 0, 1) := by decide +kernel
theorem dX8_canStop_38 : decode cX8_canStop 38 = .ok (.ireturn, 1) := by decide +kernel
theorem dX8_bestStop_0 : decode cX8_bestStop 0 = .ok (.aload_n 0, 1) := by decide +kernel
theorem dX8_bestStop_1 : decode cX8_bestStop 1 = .ok (.getfield 50, 3) := by decide +kernel
theorem dX8_bestStop_4 : decode cX8_bestStop 4 = .ok (.aload_n 0, 1) := by decide +kernel
theorem dX8_bestStop_5 : decode cX8_bestStop 5 = .ok (.getfield 22, 3) := by decide +kernel
theorem dX8_bestStop_8 : decode cX8_bestStop 8 = .ok (.aload_n 0, 1) := by decide +kernel
theorem dX8_bestStop_9 : decode cX8_bestStop 9 = .ok (.getfield 22, 3) := by decide +kernel
theorem dX8_bestStop_12 : decode cX8_bestStop 12 = .ok (.getfield 130, 3) := by decide +kernel
theorem dX8_bestStop_15 : decode cX8_bestStop 15 = .ok (.iload_n 1, 1) := by decide +kernel
theorem dX8_bestStop_16 : decode cX8_bestStop 16 = .ok (.iaload, 1) := by decide +kernel
theorem dX8_bestStop_17 : decode cX8_bestStop 17 = .ok (.iconst 0, 1) := by decide +kernel
theorem dX8_bestStop_18 : decode cX8_bestStop 18 = .ok (.iload_n 2, 1) := by decide +kernel
theorem dX8_bestStop_19 : decode cX8_bestStop 19 = .ok (.iconst 1, 1) := by decide +kernel
theorem dX8_bestStop_20 : decode cX8_bestStop 20 = .ok (.invokevirtual 208, 3) := by decide +kernel
theorem dX8_bestStop_23 : decode cX8_bestStop 23 = .ok (.ireturn, 1) := by decide +kernel
theorem dX8_spurt_0 : decode cX8_spurt 0 = .ok (.aload_n 0, 1) := by decide +kernel
theorem dX8_spurt_1 : decode cX8_spurt 1 = .ok (.iload_n 1, 1) := by decide +kernel
theorem dX8_spurt_2 : decode cX8_spurt 2 = .ok (.iload_n 3, 1) := by decide +kernel
theorem dX8_spurt_3 : decode cX8_spurt 3 = .ok (.invokevirtual 197, 3) := by decide +kernel
theorem dX8_spurt_6 : decode cX8_spurt 6 = .ok (.ifCond .eq 23, 3) := by decide +kernel
theorem dX8_spurt_9 : decode cX8_spurt 9 = .ok (.iload_n 2, 1) := by decide +kernel
theorem dX8_spurt_10 : decode cX8_spurt 10 = .ok (.i2l, 1) := by decide +kernel
theorem dX8_spurt_11 : decode cX8_spurt 11 = .ok (.lconst 0, 1) := by decide +kernel
theorem dX8_spurt_12 : decode cX8_spurt 12 = .ok (.ldc2_w 212, 3) := by decide +kernel
theorem dX8_spurt_15 : decode cX8_spurt 15 = .ok (.invokestatic 161, 3) := by decide +kernel
theorem dX8_spurt_18 : decode cX8_spurt 18 = .ok (.ifCond .ne 11, 3) := by decide +kernel
theorem dX8_spurt_21 : decode cX8_spurt 21 = .ok (.iload 4, 2) := by decide +kernel
theorem dX8_spurt_23 : decode cX8_spurt 23 = .ok (.invokestatic 117, 3) := by decide +kernel
theorem dX8_spurt_26 : decode cX8_spurt 26 = .ok (.ifCond .ne 7, 3) := by decide +kernel
theorem dX8_spurt_29 : decode cX8_spurt 29 = .ok (.ldc2_w 133, 3) := by decide +kernel
theorem dX8_spurt_32 : decode cX8_spurt 32 = .ok (.lreturn, 1) := by decide +kernel
theorem dX8_spurt_33 : decode cX8_spurt 33 = .ok (.aload_n 0, 1) := by decide +kernel
theorem dX8_spurt_34 : decode cX8_spurt 34 = .ok (.iload_n 1, 1) := by decide +kernel
theorem dX8_spurt_35 : decode cX8_spurt 35 = .ok (.iload_n 2, 1) := by decide +kernel
theorem dX8_spurt_36 : decode cX8_spurt 36 = .ok (.iload_n 3, 1) := by decide +kernel
theorem dX8_spurt_37 : decode cX8_spurt 37 = .ok (.invokevirtual 214, 3) := by decide +kernel
theorem dX8_spurt_40 : decode cX8_spurt 40 = .ok (.iconst (-1), 1) := by decide +kernel
theorem dX8_spurt_41 : decode cX8_spurt 41 = .ok (.if_icmp .ne 9, 3) := by decide +kernel
theorem dX8_spurt_44 : decode cX8_spurt 44 = .ok (.ldc2_w 146, 3) := by decide +kernel
theorem dX8_spurt_47 : decode cX8_spurt 47 = .ok (.goto 15, 3) := by decide +kernel
theorem dX8_spurt_50 : decode cX8_spurt 50 = .ok (.aload_n 0, 1) := by decide +kernel
theorem dX8_spurt_51 : decode cX8_spurt 51 = .ok (.getfield 50, 3) := by decide +kernel
theorem dX8_spurt_54 : decode cX8_spurt 54 = .ok (.getfield 179, 3) := by decide +kernel
theorem dX8_spurt_57 : decode cX8_spurt 57 = .ok (.iload 4, 2) := by decide +kernel
theorem dX8_spurt_59 : decode cX8_spurt 59 = .ok (.invokevirtual 142, 3) := by decide +kernel
theorem dX8_spurt_62 : decode cX8_spurt 62 = .ok (.lreturn, 1) := by decide +kernel
theorem dX8_runs_0 : decode cX8_runs 0 = .ok (.aload_n 0, 1) := by decide +kernel
theorem dX8_runs_1 : decode cX8_runs 1 = .ok (.iload_n 1, 1) := by decide +kernel
theorem dX8_runs_2 : decode cX8_runs 2 = .ok (.iload_n 3, 1) := by decide +kernel
theorem dX8_runs_3 : decode cX8_runs 3 = .ok (.invokevirtual 197, 3) := by decide +kernel
theorem dX8_runs_6 : decode cX8_runs 6 = .ok (.ifCond .eq 15, 3) := by decide +kernel
theorem dX8_runs_9 : decode cX8_runs 9 = .ok (.iload_n 2, 1) := by decide +kernel
theorem dX8_runs_10 : decode cX8_runs 10 = .ok (.i2l, 1) := by decide +kernel
theorem dX8_runs_11 : decode cX8_runs 11 = .ok (.lconst 0, 1) := by decide +kernel
theorem dX8_runs_12 : decode cX8_runs 12 = .ok (.ldc2_w 212, 3) := by decide +kernel
theorem dX8_runs_15 : decode cX8_runs 15 = .ok (.invokestatic 161, 3) := by decide +kernel
theorem dX8_runs_18 : decode cX8_runs 18 = .ok (.ifCond .eq 6, 3) := by decide +kernel
theorem dX8_runs_21 : decode cX8_runs 21 = .ok (.bipush (-2), 2) := by decide +kernel
theorem dX8_runs_23 : decode cX8_runs 23 = .ok (.ireturn, 1) := by decide +kernel
theorem dX8_runs_24 : decode cX8_runs 24 = .ok (.aload_n 0, 1) := by decide +kernel
theorem dX8_runs_25 : decode cX8_runs 25 = .ok (.iload_n 1, 1) := by decide +kernel
theorem dX8_runs_26 : decode cX8_runs 26 = .ok (.iload_n 2, 1) := by decide +kernel
theorem dX8_runs_27 : decode cX8_runs 27 = .ok (.iload_n 3, 1) := by decide +kernel
theorem dX8_runs_28 : decode cX8_runs 28 = .ok (.invokevirtual 214, 3) := by decide +kernel
theorem dX8_runs_31 : decode cX8_runs 31 = .ok (.ireturn, 1) := by decide +kernel
theorem dX8_bestRun_0 : decode cX8_bestRun 0 = .ok (.aload_n 0, 1) := by decide +kernel
theorem dX8_bestRun_1 : decode cX8_bestRun 1 = .ok (.getfield 22, 3) := by decide +kernel
theorem dX8_bestRun_4 : decode cX8_bestRun 4 = .ok (.getfield 130, 3) := by decide +kernel
theorem dX8_bestRun_7 : decode cX8_bestRun 7 = .ok (.iload_n 1, 1) := by decide +kernel
theorem dX8_bestRun_8 : decode cX8_bestRun 8 = .ok (.iaload, 1) := by decide +kernel
theorem dX8_bestRun_9 : decode cX8_bestRun 9 = .ok (.istore 4, 2) := by decide +kernel
theorem dX8_bestRun_11 : decode cX8_bestRun 11 = .ok (.aload_n 0, 1) := by decide +kernel
theorem dX8_bestRun_12 : decode cX8_bestRun 12 = .ok (.getfield 50, 3) := by decide +kernel
theorem dX8_bestRun_15 : decode cX8_bestRun 15 = .ok (.aload_n 0, 1) := by decide +kernel
theorem dX8_bestRun_16 : decode cX8_bestRun 16 = .ok (.getfield 22, 3) := by decide +kernel
theorem dX8_bestRun_19 : decode cX8_bestRun 19 = .ok (.iload 4, 2) := by decide +kernel
theorem dX8_bestRun_21 : decode cX8_bestRun 21 = .ok (.iload 4, 2) := by decide +kernel
theorem dX8_bestRun_23 : decode cX8_bestRun 23 = .ok (.iload_n 2, 1) := by decide +kernel
theorem dX8_bestRun_24 : decode cX8_bestRun 24 = .ok (.iadd, 1) := by decide +kernel
theorem dX8_bestRun_25 : decode cX8_bestRun 25 = .ok (.iload_n 3, 1) := by decide +kernel
theorem dX8_bestRun_26 : decode cX8_bestRun 26 = .ok (.iconst 0, 1) := by decide +kernel
theorem dX8_bestRun_27 : decode cX8_bestRun 27 = .ok (.invokevirtual 208, 3) := by decide +kernel
theorem dX8_bestRun_30 : decode cX8_bestRun 30 = .ok (.ireturn, 1) := by decide +kernel
theorem dX8_train_0 : decode cX8_train 0 = .ok (.aload_n 0, 1) := by decide +kernel
theorem dX8_train_1 : decode cX8_train 1 = .ok (.getfield 22, 3) := by decide +kernel
theorem dX8_train_4 : decode cX8_train 4 = .ok (.iload_n 1, 1) := by decide +kernel
theorem dX8_train_5 : decode cX8_train 5 = .ok (.invokevirtual 127, 3) := by decide +kernel
theorem dX8_train_8 : decode cX8_train 8 = .ok (.ifCond .eq 15, 3) := by decide +kernel
theorem dX8_train_11 : decode cX8_train 11 = .ok (.iload_n 2, 1) := by decide +kernel
theorem dX8_train_12 : decode cX8_train 12 = .ok (.i2l, 1) := by decide +kernel
theorem dX8_train_13 : decode cX8_train 13 = .ok (.lconst 0, 1) := by decide +kernel
theorem dX8_train_14 : decode cX8_train 14 = .ok (.ldc2_w 218, 3) := by decide +kernel
theorem dX8_train_17 : decode cX8_train 17 = .ok (.invokestatic 161, 3) := by decide +kernel
theorem dX8_train_20 : decode cX8_train 20 = .ok (.ifCond .eq 6, 3) := by decide +kernel
theorem dX8_train_23 : decode cX8_train 23 = .ok (.bipush (-2), 2) := by decide +kernel
theorem dX8_train_25 : decode cX8_train 25 = .ok (.ireturn, 1) := by decide +kernel
theorem dX8_train_26 : decode cX8_train 26 = .ok (.iconst 0, 1) := by decide +kernel
theorem dX8_train_27 : decode cX8_train 27 = .ok (.istore_n 3, 1) := by decide +kernel
theorem dX8_train_28 : decode cX8_train 28 = .ok (.iload_n 3, 1) := by decide +kernel
theorem dX8_train_29 : decode cX8_train 29 = .ok (.bipush 30, 2) := by decide +kernel
theorem dX8_train_31 : decode cX8_train 31 = .ok (.if_icmp .gt 38, 3) := by decide +kernel
theorem dX8_train_34 : decode cX8_train 34 = .ok (.aload_n 0, 1) := by decide +kernel
theorem dX8_train_35 : decode cX8_train 35 = .ok (.getfield 50, 3) := by decide +kernel
theorem dX8_train_38 : decode cX8_train 38 = .ok (.aload_n 0, 1) := by decide +kernel
theorem dX8_train_39 : decode cX8_train 39 = .ok (.getfield 22, 3) := by decide +kernel
theorem dX8_train_42 : decode cX8_train 42 = .ok (.aload_n 0, 1) := by decide +kernel
theorem dX8_train_43 : decode cX8_train 43 = .ok (.getfield 22, 3) := by decide +kernel
theorem dX8_train_46 : decode cX8_train 46 = .ok (.getfield 130, 3) := by decide +kernel
theorem dX8_train_49 : decode cX8_train 49 = .ok (.iload_n 1, 1) := by decide +kernel
theorem dX8_train_50 : decode cX8_train 50 = .ok (.iaload, 1) := by decide +kernel
theorem dX8_train_51 : decode cX8_train 51 = .ok (.iload_n 3, 1) := by decide +kernel
theorem dX8_train_52 : decode cX8_train 52 = .ok (.iadd, 1) := by decide +kernel
theorem dX8_train_53 : decode cX8_train 53 = .ok (.iconst 0, 1) := by decide +kernel
theorem dX8_train_54 : decode cX8_train 54 = .ok (.iload_n 2, 1) := by decide +kernel
theorem dX8_train_55 : decode cX8_train 55 = .ok (.invokevirtual 220, 3) := by decide +kernel
theorem dX8_train_58 : decode cX8_train 58 = .ok (.ifCond .eq 5, 3) := by decide +kernel
theorem dX8_train_61 : decode cX8_train 61 = .ok (.iload_n 3, 1) := by decide +kernel
theorem dX8_train_62 : decode cX8_train 62 = .ok (.ireturn, 1) := by decide +kernel
theorem dX8_train_63 : decode cX8_train 63 = .ok (.iinc 3 1, 3) := by decide +kernel
theorem dX8_train_66 : decode cX8_train 66 = .ok (.goto (-38), 3) := by decide +kernel
theorem dX8_train_69 : decode cX8_train 69 = .ok (.iconst (-1), 1) := by decide +kernel
theorem dX8_train_70 : decode cX8_train 70 = .ok (.ireturn, 1) := by decide +kernel
theorem dX8_miss_0 : decode cX8_miss 0 = .ok (.aload_n 0, 1) := by decide +kernel
theorem dX8_miss_1 : decode cX8_miss 1 = .ok (.getfield 22, 3) := by decide +kernel
theorem dX8_miss_4 : decode cX8_miss 4 = .ok (.iload_n 1, 1) := by decide +kernel
theorem dX8_miss_5 : decode cX8_miss 5 = .ok (.invokevirtual 127, 3) := by decide +kernel
theorem dX8_miss_8 : decode cX8_miss 8 = .ok (.ifCond .eq 15, 3) := by decide +kernel
theorem dX8_miss_11 : decode cX8_miss 11 = .ok (.iload_n 2, 1) := by decide +kernel
theorem dX8_miss_12 : decode cX8_miss 12 = .ok (.i2l, 1) := by decide +kernel
theorem dX8_miss_13 : decode cX8_miss 13 = .ok (.lconst 0, 1) := by decide +kernel
theorem dX8_miss_14 : decode cX8_miss 14 = .ok (.ldc2_w 218, 3) := by decide +kernel
theorem dX8_miss_17 : decode cX8_miss 17 = .ok (.invokestatic 161, 3) := by decide +kernel
theorem dX8_miss_20 : decode cX8_miss 20 = .ok (.ifCond .eq 6, 3) := by decide +kernel
theorem dX8_miss_23 : decode cX8_miss 23 = .ok (.bipush (-2), 2) := by decide +kernel
theorem dX8_miss_25 : decode cX8_miss 25 = .ok (.ireturn, 1) := by decide +kernel
theorem dX8_miss_26 : decode cX8_miss 26 = .ok (.aload_n 0, 1) := by decide +kernel
theorem dX8_miss_27 : decode cX8_miss 27 = .ok (.getfield 50, 3) := by decide +kernel
theorem dX8_miss_30 : decode cX8_miss 30 = .ok (.aload_n 0, 1) := by decide +kernel
theorem dX8_miss_31 : decode cX8_miss 31 = .ok (.getfield 22, 3) := by decide +kernel
theorem dX8_miss_34 : decode cX8_miss 34 = .ok (.aload_n 0, 1) := by decide +kernel
theorem dX8_miss_35 : decode cX8_miss 35 = .ok (.getfield 22, 3) := by decide +kernel
theorem dX8_miss_38 : decode cX8_miss 38 = .ok (.getfield 130, 3) := by decide +kernel
theorem dX8_miss_41 : decode cX8_miss 41 = .ok (.iload_n 1, 1) := by decide +kernel
theorem dX8_miss_42 : decode cX8_miss 42 = .ok (.iaload, 1) := by decide +kernel
theorem dX8_miss_43 : decode cX8_miss 43 = .ok (.iconst 0, 1) := by decide +kernel
theorem dX8_miss_44 : decode cX8_miss 44 = .ok (.invokevirtual 135, 3) := by decide +kernel
theorem dX8_miss_47 : decode cX8_miss 47 = .ok (.ifCond .ne 5, 3) := by decide +kernel
theorem dX8_miss_50 : decode cX8_miss 50 = .ok (.iconst (-1), 1) := by decide +kernel
theorem dX8_miss_51 : decode cX8_miss 51 = .ok (.ireturn, 1) := by decide +kernel
theorem dX8_miss_52 : decode cX8_miss 52 = .ok (.aload_n 0, 1) := by decide +kernel
theorem dX8_miss_53 : decode cX8_miss 53 = .ok (.getfield 78, 3) := by decide +kernel
theorem dX8_miss_56 : decode cX8_miss 56 = .ok (.aload_n 0, 1) := by decide +kernel
theorem dX8_miss_57 : decode cX8_miss 57 = .ok (.getfield 50, 3) := by decide +kernel
theorem dX8_miss_60 : decode cX8_miss 60 = .ok (.getfield 139, 3) := by decide +kernel
theorem dX8_miss_63 : decode cX8_miss 63 = .ok (.invokevirtual 186, 3) := by decide +kernel
theorem dX8_miss_66 : decode cX8_miss 66 = .ok (.aload_n 0, 1) := by decide +kernel
theorem dX8_miss_67 : decode cX8_miss 67 = .ok (.getfield 78, 3) := by decide +kernel
theorem dX8_miss_70 : decode cX8_miss 70 = .ok (.iload_n 2, 1) := by decide +kernel
theorem dX8_miss_71 : decode cX8_miss 71 = .ok (.ineg, 1) := by decide +kernel
theorem dX8_miss_72 : decode cX8_miss 72 = .ok (.i2l, 1) := by decide +kernel
theorem dX8_miss_73 : decode cX8_miss 73 = .ok (.lconst 1, 1) := by decide +kernel
theorem dX8_miss_74 : decode cX8_miss 74 = .ok (.invokevirtual 194, 3) := by decide +kernel
theorem dX8_miss_77 : decode cX8_miss 77 = .ok (.lconst 0, 1) := by decide +kernel
theorem dX8_miss_78 : decode cX8_miss 78 = .ok (.aload_n 0, 1) := by decide +kernel
theorem dX8_miss_79 : decode cX8_miss 79 = .ok (.getfield 78, 3) := by decide +kernel
theorem dX8_miss_82 : decode cX8_miss 82 = .ok (.ldc2_w 224, 3) := by decide +kernel
theorem dX8_miss_85 : decode cX8_miss 85 = .ok (.invokevirtual 226, 3) := by decide +kernel
theorem dX8_miss_88 : decode cX8_miss 88 = .ok (.lneg, 1) := by decide +kernel
theorem dX8_miss_89 : decode cX8_miss 89 = .ok (.invokestatic 230, 3) := by decide +kernel
theorem dX8_miss_92 : decode cX8_miss 92 = .ok (.l2i, 1) := by decide +kernel
theorem dX8_miss_93 : decode cX8_miss 93 = .ok (.ireturn, 1) := by decide +kernel
theorem dX8_rests_0 : decode cX8_rests 0 = .ok (.aload_n 0, 1) := by decide +kernel
theorem dX8_rests_1 : decode cX8_rests 1 = .ok (.getfield 22, 3) := by decide +kernel
theorem dX8_rests_4 : decode cX8_rests 4 = .ok (.iload_n 1, 1) := by decide +kernel
theorem dX8_rests_5 : decode cX8_rests 5 = .ok (.invokevirtual 127, 3) := by decide +kernel
theorem dX8_rests_8 : decode cX8_rests 8 = .ok (.ifCond .eq 25, 3) := by decide +kernel
theorem dX8_rests_11 : decode cX8_rests 11 = .ok (.aload_n 0, 1) := by decide +kernel
theorem dX8_rests_12 : decode cX8_rests 12 = .ok (.getfield 22, 3) := by decide +kernel
theorem dX8_rests_15 : decode cX8_rests 15 = .ok (.getfield 205, 3) := by decide +kernel
theorem dX8_rests_18 : decode cX8_rests 18 = .ok (.ifCond .eq 15, 3) := by decide +kernel
theorem dX8_rests_21 : decode cX8_rests 21 = .ok (.iload_n 2, 1) := by decide +kernel
theorem dX8_rests_22 : decode cX8_rests 22 = .ok (.i2l, 1) := by decide +kernel
theorem dX8_rests_23 : decode cX8_rests 23 = .ok (.lconst 0, 1) := by decide +kernel
theorem dX8_rests_24 : decode cX8_rests 24 = .ok (.ldc2_w 218, 3) := by decide +kernel
theorem dX8_rests_27 : decode cX8_rests 27 = .ok (.invokestatic 161, 3) := by decide +kernel
theorem dX8_rests_30 : decode cX8_rests 30 = .ok (.ifCond .eq 6, 3) := by decide +kernel
theorem dX8_rests_33 : decode cX8_rests 33 = .ok (.bipush (-2), 2) := by decide +kernel
theorem dX8_rests_35 : decode cX8_rests 35 = .ok (.ireturn, 1) := by decide +kernel
theorem dX8_rests_36 : decode cX8_rests 36 = .ok (.bipush 60, 2) := by decide +kernel
theorem dX8_rests_38 : decode cX8_rests 38 = .ok (.istore_n 3, 1) := by decide +kernel
theorem dX8_rests_39 : decode cX8_rests 39 = .ok (.iload_n 3, 1) := by decide +kernel
theorem dX8_rests_40 : decode cX8_rests 40 = .ok (.ifCond .lt 36, 3) := by decide +kernel
theorem dX8_rests_43 : decode cX8_rests 43 = .ok (.aload_n 0, 1) := by decide +kernel
theorem dX8_rests_44 : decode cX8_rests 44 = .ok (.iload_n 1, 1) := by decide +kernel
theorem dX8_rests_45 : decode cX8_rests 45 = .ok (.iload_n 3, 1) := by decide +kernel
theorem dX8_rests_46 : decode cX8_rests 46 = .ok (.invokevirtual 201, 3) := by decide +kernel
theorem dX8_rests_49 : decode cX8_rests 49 = .ok (.iconst (-1), 1) := by decide +kernel
theorem dX8_rests_50 : decode cX8_rests 50 = .ok (.if_icmp .eq 20, 3) := by decide +kernel
theorem dX8_rests_53 : decode cX8_rests 53 = .ok (.aload_n 0, 1) := by decide +kernel
theorem dX8_rests_54 : decode cX8_rests 54 = .ok (.getfield 50, 3) := by decide +kernel
theorem dX8_rests_57 : decode cX8_rests 57 = .ok (.getfield 179, 3) := by decide +kernel
theorem dX8_rests_60 : decode cX8_rests 60 = .ok (.iload_n 2, 1) := by decide +kernel
theorem dX8_rests_61 : decode cX8_rests 61 = .ok (.i2l, 1) := by decide +kernel
theorem dX8_rests_62 : decode cX8_rests 62 = .ok (.invokevirtual 236, 3) := by decide +kernel
theorem dX8_rests_65 : decode cX8_rests 65 = .ok (.ifCond .ne 5, 3) := by decide +kernel
theorem dX8_rests_68 : decode cX8_rests 68 = .ok (.iload_n 3, 1) := by decide +kernel
theorem dX8_rests_69 : decode cX8_rests 69 = .ok (.ireturn, 1) := by decide +kernel
theorem dX8_rests_70 : decode cX8_rests 70 = .ok (.iinc 3 (-1), 3) := by decide +kernel
theorem dX8_rests_73 : decode cX8_rests 73 = .ok (.goto (-34), 3) := by decide +kernel
theorem dX8_rests_76 : decode cX8_rests 76 = .ok (.iconst (-1), 1) := by decide +kernel
theorem dX8_rests_77 : decode cX8_rests 77 = .ok (.ireturn, 1) := by decide +kernel
theorem dX8_back_0 : decode cX8_back 0 = .ok (.aload_n 0, 1) := by decide +kernel
theorem dX8_back_1 : decode cX8_back 1 = .ok (.getfield 22, 3) := by decide +kernel
theorem dX8_back_4 : decode cX8_back 4 = .ok (.iload_n 1, 1) := by decide +kernel
theorem dX8_back_5 : decode cX8_back 5 = .ok (.invokevirtual 127, 3) := by decide +kernel
theorem dX8_back_8 : decode cX8_back 8 = .ok (.ifCond .eq 10, 3) := by decide +kernel
theorem dX8_back_11 : decode cX8_back 11 = .ok (.iload_n 2, 1) := by decide +kernel
theorem dX8_back_12 : decode cX8_back 12 = .ok (.invokestatic 117, 3) := by decide +kernel
theorem dX8_back_15 : decode cX8_back 15 = .ok (.ifCond .ne 7, 3) := by decide +kernel
theorem dX8_back_18 : decode cX8_back 18 = .ok (.ldc2_w 133, 3) := by decide +kernel
theorem dX8_back_21 : decode cX8_back 21 = .ok (.lreturn, 1) := by decide +kernel
theorem dX8_back_22 : decode cX8_back 22 = .ok (.aload_n 0, 1) := by decide +kernel
theorem dX8_back_23 : decode cX8_back 23 = .ok (.getfield 50, 3) := by decide +kernel
theorem dX8_back_26 : decode cX8_back 26 = .ok (.getfield 139, 3) := by decide +kernel
theorem dX8_back_29 : decode cX8_back 29 = .ok (.lconst 0, 1) := by decide +kernel
theorem dX8_back_30 : decode cX8_back 30 = .ok (.lconst 1, 1) := by decide +kernel
theorem dX8_back_31 : decode cX8_back 31 = .ok (.invokevirtual 148, 3) := by decide +kernel
theorem dX8_back_34 : decode cX8_back 34 = .ok (.aload_n 0, 1) := by decide +kernel
theorem dX8_back_35 : decode cX8_back 35 = .ok (.getfield 50, 3) := by decide +kernel
theorem dX8_back_38 : decode cX8_back 38 = .ok (.aload_n 0, 1) := by decide +kernel
theorem dX8_back_39 : decode cX8_back 39 = .ok (.getfield 22, 3) := by decide +kernel
theorem dX8_back_42 : decode cX8_back 42 = .ok (.aload_n 0, 1) := by decide +kernel
theorem dX8_back_43 : decode cX8_back 43 = .ok (.getfield 22, 3) := by decide +kernel
theorem dX8_back_46 : decode cX8_back 46 = .ok (.getfield 130, 3) := by decide +kernel
theorem dX8_back_49 : decode cX8_back 49 = .ok (.iload_n 1, 1) := by decide +kernel
theorem dX8_back_50 : decode cX8_back 50 = .ok (.iaload, 1) := by decide +kernel
theorem dX8_back_51 : decode cX8_back 51 = .ok (.invokevirtual 240, 3) := by decide +kernel
theorem dX8_back_54 : decode cX8_back 54 = .ok (.ifCond .eq 17, 3) := by decide +kernel
theorem dX8_back_57 : decode cX8_back 57 = .ok (.aload_n 0, 1) := by decide +kernel
theorem dX8_back_58 : decode cX8_back 58 = .ok (.getfield 50, 3) := by decide +kernel
theorem dX8_back_61 : decode cX8_back 61 = .ok (.getfield 139, 3) := by decide +kernel
theorem dX8_back_64 : decode cX8_back 64 = .ok (.iload_n 2, 1) := by decide +kernel
theorem dX8_back_65 : decode cX8_back 65 = .ok (.invokevirtual 142, 3) := by decide +kernel
theorem dX8_back_68 : decode cX8_back 68 = .ok (.goto 6, 3) := by decide +kernel
theorem dX8_back_71 : decode cX8_back 71 = .ok (.ldc2_w 146, 3) := by decide +kernel
theorem dX8_back_74 : decode cX8_back 74 = .ok (.lreturn, 1) := by decide +kernel
theorem dX8_round_0 : decode cX8_round 0 = .ok (.aload_n 0, 1) := by decide +kernel
theorem dX8_round_1 : decode cX8_round 1 = .ok (.getfield 22, 3) := by decide +kernel
theorem dX8_round_4 : decode cX8_round 4 = .ok (.invokevirtual 172, 3) := by decide +kernel
theorem dX8_round_7 : decode cX8_round 7 = .ok (.ifCond .ne 6, 3) := by decide +kernel
theorem dX8_round_10 : decode cX8_round 10 = .ok (.bipush (-2), 2) := by decide +kernel
theorem dX8_round_12 : decode cX8_round 12 = .ok (.ireturn, 1) := by decide +kernel
theorem dX8_round_13 : decode cX8_round 13 = .ok (.iconst (-1), 1) := by decide +kernel
theorem dX8_round_14 : decode cX8_round 14 = .ok (.istore_n 1, 1) := by decide +kernel
theorem dX8_round_15 : decode cX8_round 15 = .ok (.iconst 0, 1) := by decide +kernel
theorem dX8_round_16 : decode cX8_round 16 = .ok (.istore_n 2, 1) := by decide +kernel
theorem dX8_round_17 : decode cX8_round 17 = .ok (.iload_n 2, 1) := by decide +kernel
theorem dX8_round_18 : decode cX8_round 18 = .ok (.aload_n 0, 1) := by decide +kernel
theorem dX8_round_19 : decode cX8_round 19 = .ok (.getfield 22, 3) := by decide +kernel
theorem dX8_round_22 : decode cX8_round 22 = .ok (.getfield 176, 3) := by decide +kernel
theorem dX8_round_25 : decode cX8_round 25 = .ok (.if_icmp .ge 94, 3) := by decide +kernel
theorem dX8_round_28 : decode cX8_round 28 = .ok (.aload_n 0, 1) := by decide +kernel
theorem dX8_round_29 : decode cX8_round 29 = .ok (.getfield 22, 3) := by decide +kernel
theorem dX8_round_32 : decode cX8_round 32 = .ok (.getfield 130, 3) := by decide +kernel
theorem dX8_round_35 : decode cX8_round 35 = .ok (.iload_n 2, 1) := by decide +kernel
theorem dX8_round_36 : decode cX8_round 36 = .ok (.iaload, 1) := by decide +kernel
theorem dX8_round_37 : decode cX8_round 37 = .ok (.istore_n 3, 1) := by decide +kernel
theorem dX8_round_38 : decode cX8_round 38 = .ok (.aload_n 0, 1) := by decide +kernel
theorem dX8_round_39 : decode cX8_round 39 = .ok (.getfield 50, 3) := by decide +kernel
theorem dX8_round_42 : decode cX8_round 42 = .ok (.aload_n 0, 1) := by decide +kernel
theorem dX8_round_43 : decode cX8_round 43 = .ok (.getfield 22, 3) := by decide +kernel
theorem dX8_round_46 : decode cX8_round 46 = .ok (.iload_n 3, 1) := by decide +kernel
theorem dX8_round_47 : decode cX8_round 47 = .ok (.iconst 0, 1) := by decide +kernel
theorem dX8_round_48 : decode cX8_round 48 = .ok (.invokevirtual 135, 3) := by decide +kernel
theorem dX8_round_51 : decode cX8_round 51 = .ok (.ifCond .eq 62, 3) := by decide +kernel
theorem dX8_round_54 : decode cX8_round 54 = .ok (.aload_n 0, 1) := by decide +kernel
theorem dX8_round_55 : decode cX8_round 55 = .ok (.getfield 50, 3) := by decide +kernel
theorem dX8_round_58 : decode cX8_round 58 = .ok (.aload_n 0, 1) := by decide +kernel
theorem dX8_round_59 : decode cX8_round 59 = .ok (.getfield 22, 3) := by decide +kernel
theorem dX8_round_62 : decode cX8_round 62 = .ok (.iload_n 3, 1) := by decide +kernel
theorem dX8_round_63 : decode cX8_round 63 = .ok (.invokevirtual 240, 3) := by decide +kernel
theorem dX8_round_66 : decode cX8_round 66 = .ok (.ifCond .eq 47, 3) := by decide +kernel
theorem dX8_round_69 : decode cX8_round 69 = .ok (.iload_n 1, 1) := by decide +kernel
theorem dX8_round_70 : decode cX8_round 70 = .ok (.iconst (-1), 1) := by decide +kernel
theorem dX8_round_71 : decode cX8_round 71 = .ok (.if_icmp .eq 23, 3) := by decide +kernel
theorem dX8_round_74 : decode cX8_round 74 = .ok (.aload_n 0, 1) := by decide +kernel
theorem dX8_round_75 : decode cX8_round 75 = .ok (.getfield 50, 3) := by decide +kernel
theorem dX8_round_78 : decode cX8_round 78 = .ok (.getfield 139, 3) := by decide +kernel
theorem dX8_round_81 : decode cX8_round 81 = .ok (.aload_n 0, 1) := by decide +kernel
theorem dX8_round_82 : decode cX8_round 82 = .ok (.getfield 50, 3) := by decide +kernel
theorem dX8_round_85 : decode cX8_round 85 = .ok (.getfield 179, 3) := by decide +kernel
theorem dX8_round_88 : decode cX8_round 88 = .ok (.invokevirtual 182, 3) := by decide +kernel
theorem dX8_round_91 : decode cX8_round 91 = .ok (.ifCond .ge 22, 3) := by decide +kernel
theorem dX8_round_94 : decode cX8_round 94 = .ok (.aload_n 0, 1) := by decide +kernel
theorem dX8_round_95 : decode cX8_round 95 = .ok (.getfield 50, 3) := by decide +kernel
theorem dX8_round_98 : decode cX8_round 98 = .ok (.getfield 179, 3) := by decide +kernel
theorem dX8_round_101 : decode cX8_round 101 = .ok (.aload_n 0, 1) := by decide +kernel
theorem dX8_round_102 : decode cX8_round 102 = .ok (.getfield 50, 3) := by decide +kernel
theorem dX8_round_105 : decode cX8_round 105 = .ok (.getfield 139, 3) := by decide +kernel
theorem dX8_round_108 : decode cX8_round 108 = .ok (.invokevirtual 186, 3) := by decide +kernel
theorem dX8_round_111 : decode cX8_round 111 = .ok (.iload_n 2, 1) := by decide +kernel
theorem dX8_round_112 : decode cX8_round 112 = .ok (.istore_n 1, 1) := by decide +kernel
theorem dX8_round_113 : decode cX8_round 113 = .ok (.iinc 2 1, 3) := by decide +kernel
theorem dX8_round_116 : decode cX8_round 116 = .ok (.goto (-99), 3) := by decide +kernel
theorem dX8_round_119 : decode cX8_round 119 = .ok (.iload_n 1, 1) := by decide +kernel
theorem dX8_round_120 : decode cX8_round 120 = .ok (.ireturn, 1) := by decide +kernel
theorem dX8_fits_0 : decode cX8_fits 0 = .ok (.aload_n 0, 1) := by decide +kernel
theorem dX8_fits_1 : decode cX8_fits 1 = .ok (.iload_n 1, 1) := by decide +kernel
theorem dX8_fits_2 : decode cX8_fits 2 = .ok (.invokevirtual 244, 3) := by decide +kernel
theorem dX8_fits_5 : decode cX8_fits 5 = .ok (.istore_n 2, 1) := by decide +kernel
theorem dX8_fits_6 : decode cX8_fits 6 = .ok (.iload_n 2, 1) := by decide +kernel
theorem dX8_fits_7 : decode cX8_fits 7 = .ok (.ifCond .ne 13, 3) := by decide +kernel
theorem dX8_fits_10 : decode cX8_fits 10 = .ok (.aload_n 0, 1) := by decide +kernel
theorem dX8_fits_11 : decode cX8_fits 11 = .ok (.getfield 57, 3) := by decide +kernel
theorem dX8_fits_14 : decode cX8_fits 14 = .ok (.invokevirtual 248, 3) := by decide +kernel
theorem dX8_fits_17 : decode cX8_fits 17 = .ok (.goto 4, 3) := by decide +kernel
theorem dX8_fits_20 : decode cX8_fits 20 = .ok (.iload_n 2, 1) := by decide +kernel
theorem dX8_fits_21 : decode cX8_fits 21 = .ok (.ireturn, 1) := by decide +kernel
theorem dX8_fit_0 : decode cX8_fit 0 = .ok (.iload_n 2, 1) := by decide +kernel
theorem dX8_fit_1 : decode cX8_fit 1 = .ok (.invokestatic 117, 3) := by decide +kernel
theorem dX8_fit_4 : decode cX8_fit 4 = .ok (.ifCond .eq 11, 3) := by decide +kernel
theorem dX8_fit_7 : decode cX8_fit 7 = .ok (.aload_n 0, 1) := by decide +kernel
theorem dX8_fit_8 : decode cX8_fit 8 = .ok (.iload_n 1, 1) := by decide +kernel
theorem dX8_fit_9 : decode cX8_fit 9 = .ok (.invokevirtual 244, 3) := by decide +kernel
theorem dX8_fit_12 : decode cX8_fit 12 = .ok (.goto 5, 3) := by decide +kernel
theorem dX8_fit_15 : decode cX8_fit 15 = .ok (.bipush (-2), 2) := by decide +kernel
theorem dX8_fit_17 : decode cX8_fit 17 = .ok (.istore_n 3, 1) := by decide +kernel
theorem dX8_fit_18 : decode cX8_fit 18 = .ok (.iload_n 3, 1) := by decide +kernel
theorem dX8_fit_19 : decode cX8_fit 19 = .ok (.ifCond .eq 5, 3) := by decide +kernel
theorem dX8_fit_22 : decode cX8_fit 22 = .ok (.iload_n 3, 1) := by decide +kernel
theorem dX8_fit_23 : decode cX8_fit 23 = .ok (.ireturn, 1) := by decide +kernel
theorem dX8_fit_24 : decode cX8_fit 24 = .ok (.aload_n 0, 1) := by decide +kernel
theorem dX8_fit_25 : decode cX8_fit 25 = .ok (.getfield 57, 3) := by decide +kernel
theorem dX8_fit_28 : decode cX8_fit 28 = .ok (.invokevirtual 252, 3) := by decide +kernel
theorem dX8_fit_31 : decode cX8_fit 31 = .ok (.iload_n 2, 1) := by decide +kernel
theorem dX8_fit_32 : decode cX8_fit 32 = .ok (.ifCond .ne 13, 3) := by decide +kernel
theorem dX8_fit_35 : decode cX8_fit 35 = .ok (.aload_n 0, 1) := by decide +kernel
theorem dX8_fit_36 : decode cX8_fit 36 = .ok (.getfield 57, 3) := by decide +kernel
theorem dX8_fit_39 : decode cX8_fit 39 = .ok (.getfield 255, 3) := by decide +kernel
theorem dX8_fit_42 : decode cX8_fit 42 = .ok (.goto 10, 3) := by decide +kernel
theorem dX8_fit_45 : decode cX8_fit 45 = .ok (.aload_n 0, 1) := by decide +kernel
theorem dX8_fit_46 : decode cX8_fit 46 = .ok (.getfield 57, 3) := by decide +kernel
theorem dX8_fit_49 : decode cX8_fit 49 = .ok (.getfield 258, 3) := by decide +kernel
theorem dX8_fit_52 : decode cX8_fit 52 = .ok (.ireturn, 1) := by decide +kernel
theorem dX8_unlike_0 : decode cX8_unlike 0 = .ok (.iload_n 2, 1) := by decide +kernel
theorem dX8_unlike_1 : decode cX8_unlike 1 = .ok (.invokestatic 117, 3) := by decide +kernel
theorem dX8_unlike_4 : decode cX8_unlike 4 = .ok (.ifCond .eq 11, 3) := by decide +kernel
theorem dX8_unlike_7 : decode cX8_unlike 7 = .ok (.aload_n 0, 1) := by decide +kernel
theorem dX8_unlike_8 : decode cX8_unlike 8 = .ok (.iload_n 1, 1) := by decide +kernel
theorem dX8_unlike_9 : decode cX8_unlike 9 = .ok (.invokevirtual 244, 3) := by decide +kernel
theorem dX8_unlike_12 : decode cX8_unlike 12 = .ok (.goto 5, 3) := by decide +kernel
theorem dX8_unlike_15 : decode cX8_unlike 15 = .ok (.bipush (-2), 2) := by decide +kernel
theorem dX8_unlike_17 : decode cX8_unlike 17 = .ok (.istore_n 3, 1) := by decide +kernel
theorem dX8_unlike_18 : decode cX8_unlike 18 = .ok (.iload_n 3, 1) := by decide +kernel
theorem dX8_unlike_19 : decode cX8_unlike 19 = .ok (.ifCond .eq 5, 3) := by decide +kernel
theorem dX8_unlike_22 : decode cX8_unlike 22 = .ok (.iload_n 3, 1) := by decide +kernel
theorem dX8_unlike_23 : decode cX8_unlike 23 = .ok (.ireturn, 1) := by decide +kernel
theorem dX8_unlike_24 : decode cX8_unlike 24 = .ok (.iload_n 2, 1) := by decide +kernel
theorem dX8_unlike_25 : decode cX8_unlike 25 = .ok (.ifCond .ne 13, 3) := by decide +kernel
theorem dX8_unlike_28 : decode cX8_unlike 28 = .ok (.aload_n 0, 1) := by decide +kernel
theorem dX8_unlike_29 : decode cX8_unlike 29 = .ok (.getfield 57, 3) := by decide +kernel
theorem dX8_unlike_32 : decode cX8_unlike 32 = .ok (.invokevirtual 261, 3) := by decide +kernel
theorem dX8_unlike_35 : decode cX8_unlike 35 = .ok (.goto 10, 3) := by decide +kernel
theorem dX8_unlike_38 : decode cX8_unlike 38 = .ok (.aload_n 0, 1) := by decide +kernel
theorem dX8_unlike_39 : decode cX8_unlike 39 = .ok (.getfield 57, 3) := by decide +kernel
theorem dX8_unlike_42 : decode cX8_unlike 42 = .ok (.invokevirtual 264, 3) := by decide +kernel
theorem dX8_unlike_45 : decode cX8_unlike 45 = .ok (.ireturn, 1) := by decide +kernel
theorem dX8_wrong_0 : decode cX8_wrong 0 = .ok (.aload_n 0, 1) := by decide +kernel
theorem dX8_wrong_1 : decode cX8_wrong 1 = .ok (.iload_n 1, 1) := by decide +kernel
theorem dX8_wrong_2 : decode cX8_wrong 2 = .ok (.invokevirtual 244, 3) := by decide +kernel
theorem dX8_wrong_5 : decode cX8_wrong 5 = .ok (.istore_n 2, 1) := by decide +kernel
theorem dX8_wrong_6 : decode cX8_wrong 6 = .ok (.iload_n 2, 1) := by decide +kernel
theorem dX8_wrong_7 : decode cX8_wrong 7 = .ok (.ifCond .ne 16, 3) := by decide +kernel
theorem dX8_wrong_10 : decode cX8_wrong 10 = .ok (.aload_n 0, 1) := by decide +kernel
theorem dX8_wrong_11 : decode cX8_wrong 11 = .ok (.getfield 57, 3) := by decide +kernel
theorem dX8_wrong_14 : decode cX8_wrong 14 = .ok (.invokevirtual 267, 3) := by decide +kernel
theorem dX8_wrong_17 : decode cX8_wrong 17 = .ok (.invokestatic 270, 3) := by decide +kernel
theorem dX8_wrong_20 : decode cX8_wrong 20 = .ok (.goto 4, 3) := by decide +kernel
theorem dX8_wrong_23 : decode cX8_wrong 23 = .ok (.iload_n 2, 1) := by decide +kernel
theorem dX8_wrong_24 : decode cX8_wrong 24 = .ok (.ireturn, 1) := by decide +kernel
theorem dX8_wrongs_0 : decode cX8_wrongs 0 = .ok (.aload_n 0, 1) := by decide +kernel
theorem dX8_wrongs_1 : decode cX8_wrongs 1 = .ok (.iload_n 1, 1) := by decide +kernel
theorem dX8_wrongs_2 : decode cX8_wrongs 2 = .ok (.invokevirtual 275, 3) := by decide +kernel
theorem dX8_wrongs_5 : decode cX8_wrongs 5 = .ok (.istore_n 2, 1) := by decide +kernel
theorem dX8_wrongs_6 : decode cX8_wrongs 6 = .ok (.iload_n 2, 1) := by decide +kernel
theorem dX8_wrongs_7 : decode cX8_wrongs 7 = .ok (.ifCond .ne 13, 3) := by decide +kernel
theorem dX8_wrongs_10 : decode cX8_wrongs 10 = .ok (.aload_n 0, 1) := by decide +kernel
theorem dX8_wrongs_11 : decode cX8_wrongs 11 = .ok (.getfield 57, 3) := by decide +kernel
theorem dX8_wrongs_14 : decode cX8_wrongs 14 = .ok (.invokevirtual 267, 3) := by decide +kernel
theorem dX8_wrongs_17 : decode cX8_wrongs 17 = .ok (.goto 4, 3) := by decide +kernel
theorem dX8_wrongs_20 : decode cX8_wrongs 20 = .ok (.iload_n 2, 1) := by decide +kernel
theorem dX8_wrongs_21 : decode cX8_wrongs 21 = .ok (.ireturn, 1) := by decide +kernel
theorem dX8_ways_0 : decode cX8_ways 0 = .ok (.aload_n 0, 1) := by decide +kernel
theorem dX8_ways_1 : decode cX8_ways 1 = .ok (.iload_n 1, 1) := by decide +kernel
theorem dX8_ways_2 : decode cX8_ways 2 = .ok (.invokevirtual 275, 3) := by decide +kernel
theorem dX8_ways_5 : decode cX8_ways 5 = .ok (.istore_n 2, 1) := by decide +kernel
theorem dX8_ways_6 : decode cX8_ways 6 = .ok (.iload_n 2, 1) := by decide +kernel
theorem dX8_ways_7 : decode cX8_ways 7 = .ok (.ifCond .ne 13, 3) := by decide +kernel
theorem dX8_ways_10 : decode cX8_ways 10 = .ok (.aload_n 0, 1) := by decide +kernel
theorem dX8_ways_11 : decode cX8_ways 11 = .ok (.getfield 57, 3) := by decide +kernel
theorem dX8_ways_14 : decode cX8_ways 14 = .ok (.invokevirtual 278, 3) := by decide +kernel
theorem dX8_ways_17 : decode cX8_ways 17 = .ok (.goto 4, 3) := by decide +kernel
theorem dX8_ways_20 : decode cX8_ways 20 = .ok (.iload_n 2, 1) := by decide +kernel
theorem dX8_ways_21 : decode cX8_ways 21 = .ok (.ireturn, 1) := by decide +kernel
theorem dX8_ask_0 : decode cX8_ask 0 = .ok (.aload_n 0, 1) := by decide +kernel
theorem dX8_ask_1 : decode cX8_ask 1 = .ok (.iload_n 1, 1) := by decide +kernel
theorem dX8_ask_2 : decode cX8_ask 2 = .ok (.invokevirtual 244, 3) := by decide +kernel
theorem dX8_ask_5 : decode cX8_ask 5 = .ok (.istore_n 2, 1) := by decide +kernel
theorem dX8_ask_6 : decode cX8_ask 6 = .ok (.iload_n 2, 1) := by decide +kernel
theorem dX8_ask_7 : decode cX8_ask 7 = .ok (.ifCond .eq 5, 3) := by decide +kernel
theorem dX8_ask_10 : decode cX8_ask 10 = .ok (.iload_n 2, 1) := by decide +kernel
theorem dX8_ask_11 : decode cX8_ask 11 = .ok (.ireturn, 1) := by decide +kernel
theorem dX8_ask_12 : decode cX8_ask 12 = .ok (.aload_n 0, 1) := by decide +kernel
theorem dX8_ask_13 : decode cX8_ask 13 = .ok (.getfield 57, 3) := by decide +kernel
theorem dX8_ask_16 : decode cX8_ask 16 = .ok (.invokevirtual 281, 3) := by decide +kernel
theorem dX8_ask_19 : decode cX8_ask 19 = .ok (.aload_n 0, 1) := by decide +kernel
theorem dX8_ask_20 : decode cX8_ask 20 = .ok (.getfield 57, 3) := by decide +kernel
theorem dX8_ask_23 : decode cX8_ask 23 = .ok (.getfield 284, 3) := by decide +kernel
theorem dX8_ask_26 : decode cX8_ask 26 = .ok (.ireturn, 1) := by decide +kernel
theorem dX8_left_0 : decode cX8_left 0 = .ok (.aload_n 0, 1) := by decide +kernel
theorem dX8_left_1 : decode cX8_left 1 = .ok (.iload_n 1, 1) := by decide +kernel
theorem dX8_left_2 : decode cX8_left 2 = .ok (.invokevirtual 244, 3) := by decide +kernel
theorem dX8_left_5 : decode cX8_left 5 = .ok (.istore_n 2, 1) := by decide +kernel
theorem dX8_left_6 : decode cX8_left 6 = .ok (.iload_n 2, 1) := by decide +kernel
theorem dX8_left_7 : decode cX8_left 7 = .ok (.ifCond .eq 5, 3) := by decide +kernel
theorem dX8_left_10 : decode cX8_left 10 = .ok (.iload_n 2, 1) := by decide +kernel
theorem dX8_left_11 : decode cX8_left 11 = .ok (.ireturn, 1) := by decide +kernel
theorem dX8_left_12 : decode cX8_left 12 = .ok (.aload_n 0, 1) := by decide +kernel
theorem dX8_left_13 : decode cX8_left 13 = .ok (.getfield 57, 3) := by decide +kernel
theorem dX8_left_16 : decode cX8_left 16 = .ok (.invokevirtual 281, 3) := by decide +kernel
theorem dX8_left_19 : decode cX8_left 19 = .ok (.aload_n 0, 1) := by decide +kernel
theorem dX8_left_20 : decode cX8_left 20 = .ok (.getfield 57, 3) := by decide +kernel
theorem dX8_left_23 : decode cX8_left 23 = .ok (.getfield 287, 3) := by decide +kernel
theorem dX8_left_26 : decode cX8_left 26 = .ok (.ireturn, 1) := by decide +kernel
theorem dX8_exact_0 : decode cX8_exact 0 = .ok (.aload_n 0, 1) := by decide +kernel
theorem dX8_exact_1 : decode cX8_exact 1 = .ok (.iload_n 1, 1) := by decide +kernel
theorem dX8_exact_2 : decode cX8_exact 2 = .ok (.iload_n 2, 1) := by decide +kernel
theorem dX8_exact_3 : decode cX8_exact 3 = .ok (.invokevirtual 290, 3) := by decide +kernel
theorem dX8_exact_6 : decode cX8_exact 6 = .ok (.istore_n 3, 1) := by decide +kernel
theorem dX8_exact_7 : decode cX8_exact 7 = .ok (.iload_n 3, 1) := by decide +kernel
theorem dX8_exact_8 : decode cX8_exact 8 = .ok (.ifCond .eq 6, 3) := by decide +kernel
theorem dX8_exact_11 : decode cX8_exact 11 = .ok (.iload_n 3, 1) := by decide +kernel
theorem dX8_exact_12 : decode cX8_exact 12 = .ok (.i2l, 1) := by decide +kernel
theorem dX8_exact_13 : decode cX8_exact 13 = .ok (.lreturn, 1) := by decide +kernel
theorem dX8_exact_14 : decode cX8_exact 14 = .ok (.aload_n 0, 1) := by decide +kernel
theorem dX8_exact_15 : decode cX8_exact 15 = .ok (.getfield 57, 3) := by decide +kernel
theorem dX8_exact_18 : decode cX8_exact 18 = .ok (.aload_n 0, 1) := by decide +kernel
theorem dX8_exact_19 : decode cX8_exact 19 = .ok (.getfield 78, 3) := by decide +kernel
theorem dX8_exact_22 : decode cX8_exact 22 = .ok (.invokevirtual 293, 3) := by decide +kernel
theorem dX8_exact_25 : decode cX8_exact 25 = .ok (.ifCond .eq 14, 3) := by decide +kernel
theorem dX8_exact_28 : decode cX8_exact 28 = .ok (.aload_n 0, 1) := by decide +kernel
theorem dX8_exact_29 : decode cX8_exact 29 = .ok (.getfield 78, 3) := by decide +kernel
theorem dX8_exact_32 : decode cX8_exact 32 = .ok (.iload_n 2, 1) := by decide +kernel
theorem dX8_exact_33 : decode cX8_exact 33 = .ok (.invokevirtual 142, 3) := by decide +kernel
theorem dX8_exact_36 : decode cX8_exact 36 = .ok (.goto 6, 3) := by decide +kernel
theorem dX8_exact_39 : decode cX8_exact 39 = .ok (.ldc2_w 146, 3) := by decide +kernel
theorem dX8_exact_42 : decode cX8_exact 42 = .ok (.lreturn, 1) := by decide +kernel
theorem dX8_quick_0 : decode cX8_quick 0 = .ok (.aload_n 0, 1) := by decide +kernel
theorem dX8_quick_1 : decode cX8_quick 1 = .ok (.iload_n 1, 1) := by decide +kernel
theorem dX8_quick_2 : decode cX8_quick 2 = .ok (.iload_n 2, 1) := by decide +kernel
theorem dX8_quick_3 : decode cX8_quick 3 = .ok (.invokevirtual 290, 3) := by decide +kernel
theorem dX8_quick_6 : decode cX8_quick 6 = .ok (.istore_n 3, 1) := by decide +kernel
theorem dX8_quick_7 : decode cX8_quick 7 = .ok (.iload_n 3, 1) := by decide +kernel
theorem dX8_quick_8 : decode cX8_quick 8 = .ok (.ifCond .eq 6, 3) := by decide +kernel
theorem dX8_quick_11 : decode cX8_quick 11 = .ok (.iload_n 3, 1) := by decide +kernel
theorem dX8_quick_12 : decode cX8_quick 12 = .ok (.i2l, 1) := by decide +kernel
theorem dX8_quick_13 : decode cX8_quick 13 = .ok (.lreturn, 1) := by decide +kernel
theorem dX8_quick_14 : decode cX8_quick 14 = .ok (.aload_n 0, 1) := by decide +kernel
theorem dX8_quick_15 : decode cX8_quick 15 = .ok (.getfield 57, 3) := by decide +kernel
theorem dX8_quick_18 : decode cX8_quick 18 = .ok (.aload_n 0, 1) := by decide +kernel
theorem dX8_quick_19 : decode cX8_quick 19 = .ok (.getfield 78, 3) := by decide +kernel
theorem dX8_quick_22 : decode cX8_quick 22 = .ok (.invokevirtual 297, 3) := by decide +kernel
theorem dX8_quick_25 : decode cX8_quick 25 = .ok (.ifCond .eq 14, 3) := by decide +kernel
theorem dX8_quick_28 : decode cX8_quick 28 = .ok (.aload_n 0, 1) := by decide +kernel
theorem dX8_quick_29 : decode cX8_quick 29 = .ok (.getfield 78, 3) := by decide +kernel
theorem dX8_quick_32 : decode cX8_quick 32 = .ok (.iload_n 2, 1) := by decide +kernel
theorem dX8_quick_33 : decode cX8_quick 33 = .ok (.invokevirtual 142, 3) := by decide +kernel
theorem dX8_quick_36 : decode cX8_quick 36 = .ok (.goto 6, 3) := by decide +kernel
theorem dX8_quick_39 : decode cX8_quick 39 = .ok (.ldc2_w 146, 3) := by decide +kernel
theorem dX8_quick_42 : decode cX8_quick 42 = .ok (.lreturn, 1) := by decide +kernel
theorem dX8_openCounts_0 : decode cX8_openCounts 0 = .ok (.iload_n 1, 1) := by decide +kernel
theorem dX8_openCounts_1 : decode cX8_openCounts 1 = .ok (.invokestatic 300, 3) := by decide +kernel
theorem dX8_openCounts_4 : decode cX8_openCounts 4 = .ok (.ifCond .ne 6, 3) := by decide +kernel
theorem dX8_openCounts_7 : decode cX8_openCounts 7 = .ok (.bipush (-2), 2) := by decide +kernel
theorem dX8_openCounts_9 : decode cX8_openCounts 9 = .ok (.ireturn, 1) := by decide +kernel
theorem dX8_openCounts_10 : decode cX8_openCounts 10 = .ok (.aload_n 0, 1) := by decide +kernel
theorem dX8_openCounts_11 : decode cX8_openCounts 11 = .ok (.getfield 36, 3) := by decide +kernel
theorem dX8_openCounts_14 : decode cX8_openCounts 14 = .ok (.iload_n 1, 1) := by decide +kernel
theorem dX8_openCounts_15 : decode cX8_openCounts 15 = .ok (.aaload, 1) := by decide +kernel
theorem dX8_openCounts_16 : decode cX8_openCounts 16 = .ok (.getfield 303, 3) := by decide +kernel
theorem dX8_openCounts_19 : decode cX8_openCounts 19 = .ok (.ifCond .ne 6, 3) := by decide +kernel
theorem dX8_openCounts_22 : decode cX8_openCounts 22 = .ok (.bipush (-6), 2) := by decide +kernel
theorem dX8_openCounts_24 : decode cX8_openCounts 24 = .ok (.ireturn, 1) := by decide +kernel
theorem dX8_openCounts_25 : decode cX8_openCounts 25 = .ok (.aload_n 0, 1) := by decide +kernel
theorem dX8_openCounts_26 : decode cX8_openCounts 26 = .ok (.getfield 57, 3) := by decide +kernel
theorem dX8_openCounts_29 : decode cX8_openCounts 29 = .ok (.aload_n 0, 1) := by decide +kernel
theorem dX8_openCounts_30 : decode cX8_openCounts 30 = .ok (.getfield 36, 3) := by decide +kernel
theorem dX8_openCounts_33 : decode cX8_openCounts 33 = .ok (.iload_n 1, 1) := by decide +kernel
theorem dX8_openCounts_34 : decode cX8_openCounts 34 = .ok (.aaload, 1) := by decide +kernel
theorem dX8_openCounts_35 : decode cX8_openCounts 35 = .ok (.invokevirtual 307, 3) := by decide +kernel
theorem dX8_openCounts_38 : decode cX8_openCounts 38 = .ok (.ifCond .eq 7, 3) := by decide +kernel
theorem dX8_openCounts_41 : decode cX8_openCounts 41 = .ok (.iconst 0, 1) := by decide +kernel
theorem dX8_openCounts_42 : decode cX8_openCounts 42 = .ok (.goto 5, 3) := by decide +kernel
theorem dX8_openCounts_45 : decode cX8_openCounts 45 = .ok (.bipush (-2), 2) := by decide +kernel
theorem dX8_openCounts_47 : decode cX8_openCounts 47 = .ok (.ireturn, 1) := by decide +kernel
theorem dX8_openFewCounts_0 : decode cX8_openFewCounts 0 = .ok (.aload_n 0, 1) := by decide +kernel
theorem dX8_openFewCounts_1 : decode cX8_openFewCounts 1 = .ok (.iload_n 1, 1) := by decide +kernel
theorem dX8_openFewCounts_2 : decode cX8_openFewCounts 2 = .ok (.invokevirtual 244, 3) := by decide +kernel
theorem dX8_openFewCounts_5 : decode cX8_openFewCounts 5 = .ok (.istore_n 2, 1) := by decide +kernel
theorem dX8_openFewCounts_6 : decode cX8_openFewCounts 6 = .ok (.iload_n 2, 1) := by decide +kernel
theorem dX8_openFewCounts_7 : decode cX8_openFewCounts 7 = .ok (.ifCond .ne 20, 3) := by decide +kernel
theorem dX8_openFewCounts_10 : decode cX8_openFewCounts 10 = .ok (.aload_n 0, 1) := by decide +kernel
theorem dX8_openFewCounts_11 : decode cX8_openFewCounts 11 = .ok (.getfield 57, 3) := by decide +kernel
theorem dX8_openFewCounts_14 : decode cX8_openFewCounts 14 = .ok (.getfield 311, 3) := by decide +kernel
theorem dX8_openFewCounts_17 : decode cX8_openFewCounts 17 = .ok (.bipush 10, 2) := by decide +kernel
theorem dX8_openFewCounts_19 : decode cX8_openFewCounts 19 = .ok (.if_icmp .le 8, 3) := by decide +kernel
theorem dX8_openFewCounts_22 : decode cX8_openFewCounts 22 = .ok (.bipush (-2), 2) := by decide +kernel
theorem dX8_openFewCounts_24 : decode cX8_openFewCounts 24 = .ok (.goto 4, 3) := by decide +kernel
theorem dX8_openFewCounts_27 : decode cX8_openFewCounts 27 = .ok (.iload_n 2, 1) := by decide +kernel
theorem dX8_openFewCounts_28 : decode cX8_openFewCounts 28 = .ok (.ireturn, 1) := by decide +kernel
theorem dX8_openTwoCounts_0 : decode cX8_openTwoCounts 0 = .ok (.iload_n 2, 1) := by decide +kernel
theorem dX8_openTwoCounts_1 : decode cX8_openTwoCounts 1 = .ok (.invokestatic 117, 3) := by decide +kernel
theorem dX8_openTwoCounts_4 : decode cX8_openTwoCounts 4 = .ok (.ifCond .eq 11, 3) := by decide +kernel
theorem dX8_openTwoCounts_7 : decode cX8_openTwoCounts 7 = .ok (.aload_n 0, 1) := by decide +kernel
theorem dX8_openTwoCounts_8 : decode cX8_openTwoCounts 8 = .ok (.iload_n 1, 1) := by decide +kernel
theorem dX8_openTwoCounts_9 : decode cX8_openTwoCounts 9 = .ok (.invokevirtual 244, 3) := by decide +kernel
theorem dX8_openTwoCounts_12 : decode cX8_openTwoCounts 12 = .ok (.goto 5, 3) := by decide +kernel
theorem dX8_openTwoCounts_15 : decode cX8_openTwoCounts 15 = .ok (.bipush (-2), 2) := by decide +kernel
theorem dX8_openTwoCounts_17 : decode cX8_openTwoCounts 17 = .ok (.istore_n 3, 1) := by decide +kernel
theorem dX8_openTwoCounts_18 : decode cX8_openTwoCounts 18 = .ok (.iload_n 3, 1) := by decide +kernel
theorem dX8_openTwoCounts_19 : decode cX8_openTwoCounts 19 = .ok (.ifCond .ne 19, 3) := by decide +kernel
theorem dX8_openTwoCounts_22 : decode cX8_openTwoCounts 22 = .ok (.aload_n 0, 1) := by decide +kernel
theorem dX8_openTwoCounts_23 : decode cX8_openTwoCounts 23 = .ok (.getfield 57, 3) := by decide +kernel
theorem dX8_openTwoCounts_26 : decode cX8_openTwoCounts 26 = .ok (.getfield 311, 3) := by decide +kernel
theorem dX8_openTwoCounts_29 : decode cX8_openTwoCounts 29 = .ok (.iconst 2, 1) := by decide +kernel
theorem dX8_openTwoCounts_30 : decode cX8_openTwoCounts 30 = .ok (.if_icmp .ge 8, 3) := by decide +kernel
theorem dX8_openTwoCounts_33 : decode cX8_openTwoCounts 33 = .ok (.bipush (-2), 2) := by decide +kernel
theorem dX8_openTwoCounts_35 : decode cX8_openTwoCounts 35 = .ok (.goto 4, 3) := by decide +kernel
theorem dX8_openTwoCounts_38 : decode cX8_openTwoCounts 38 = .ok (.iload_n 3, 1) := by decide +kernel
theorem dX8_openTwoCounts_39 : decode cX8_openTwoCounts 39 = .ok (.ireturn, 1) := by decide +kernel
theorem dX8_stand_0 : decode cX8_stand 0 = .ok (.aload_n 0, 1) := by decide +kernel
theorem dX8_stand_1 : decode cX8_stand 1 = .ok (.iload_n 1, 1) := by decide +kernel
theorem dX8_stand_2 : decode cX8_stand 2 = .ok (.invokevirtual 314, 3) := by decide +kernel
theorem dX8_stand_5 : decode cX8_stand 5 = .ok (.ifCond .eq 10, 3) := by decide +kernel
theorem dX8_stand_8 : decode cX8_stand 8 = .ok (.iload_n 2, 1) := by decide +kernel
theorem dX8_stand_9 : decode cX8_stand 9 = .ok (.invokestatic 117, 3) := by decide +kernel
theorem dX8_stand_12 : decode cX8_stand 12 = .ok (.ifCond .ne 7, 3) := by decide +kernel
theorem dX8_stand_15 : decode cX8_stand 15 = .ok (.ldc2_w 133, 3) := by decide +kernel
theorem dX8_stand_18 : decode cX8_stand 18 = .ok (.lreturn, 1) := by decide +kernel
theorem dX8_stand_19 : decode cX8_stand 19 = .ok (.aload_n 0, 1) := by decide +kernel
theorem dX8_stand_20 : decode cX8_stand 20 = .ok (.getfield 22, 3) := by decide +kernel
theorem dX8_stand_23 : decode cX8_stand 23 = .ok (.getfield 124, 3) := by decide +kernel
theorem dX8_stand_26 : decode cX8_stand 26 = .ok (.iload_n 1, 1) := by decide +kernel
theorem dX8_stand_27 : decode cX8_stand 27 = .ok (.iaload, 1) := by decide +kernel
theorem dX8_stand_28 : decode cX8_stand 28 = .ok (.ifCond .gt 7, 3) := by decide +kernel
theorem dX8_stand_31 : decode cX8_stand 31 = .ok (.ldc2_w 146, 3) := by decide +kernel
theorem dX8_stand_34 : decode cX8_stand 34 = .ok (.lreturn, 1) := by decide +kernel
theorem dX8_stand_35 : decode cX8_stand 35 = .ok (.aload_n 0, 1) := by decide +kernel
theorem dX8_stand_36 : decode cX8_stand 36 = .ok (.getfield 22, 3) := by decide +kernel
theorem dX8_stand_39 : decode cX8_stand 39 = .ok (.iload_n 1, 1) := by decide +kernel
theorem dX8_stand_40 : decode cX8_stand 40 = .ok (.aload_n 0, 1) := by decide +kernel
theorem dX8_stand_41 : decode cX8_stand 41 = .ok (.getfield 78, 3) := by decide +kernel
theorem dX8_stand_44 : decode cX8_stand 44 = .ok (.invokevirtual 317, 3) := by decide +kernel
theorem dX8_stand_47 : decode cX8_stand 47 = .ok (.aload_n 0, 1) := by decide +kernel
theorem dX8_stand_48 : decode cX8_stand 48 = .ok (.getfield 78, 3) := by decide +kernel
theorem dX8_stand_51 : decode cX8_stand 51 = .ok (.iload_n 2, 1) := by decide +kernel
theorem dX8_stand_52 : decode cX8_stand 52 = .ok (.invokevirtual 142, 3) := by decide +kernel
theorem dX8_stand_55 : decode cX8_stand 55 = .ok (.lreturn, 1) := by decide +kernel
theorem dX8_walk_0 : decode cX8_walk 0 = .ok (.aload_n 0, 1) := by decide +kernel
theorem dX8_walk_1 : decode cX8_walk 1 = .ok (.iload_n 1, 1) := by decide +kernel
theorem dX8_walk_2 : decode cX8_walk 2 = .ok (.invokevirtual 314, 3) := by decide +kernel
theorem dX8_walk_5 : decode cX8_walk 5 = .ok (.ifCond .eq 10, 3) := by decide +kernel
theorem dX8_walk_8 : decode cX8_walk 8 = .ok (.iload_n 2, 1) := by decide +kernel
theorem dX8_walk_9 : decode cX8_walk 9 = .ok (.invokestatic 117, 3) := by decide +kernel
theorem dX8_walk_12 : decode cX8_walk 12 = .ok (.ifCond .ne 7, 3) := by decide +kernel
theorem dX8_walk_15 : decode cX8_walk 15 = .ok (.ldc2_w 133, 3) := by decide +kernel
theorem dX8_walk_18 : decode cX8_walk 18 = .ok (.lreturn, 1) := by decide +kernel
theorem dX8_walk_19 : decode cX8_walk 19 = .ok (.aload_n 0, 1) := by decide +kernel
theorem dX8_walk_20 : decode cX8_walk 20 = .ok (.getfield 22, 3) := by decide +kernel
theorem dX8_walk_23 : decode cX8_walk 23 = .ok (.getfield 124, 3) := by decide +kernel
theorem dX8_walk_26 : decode cX8_walk 26 = .ok (.iload_n 1, 1) := by decide +kernel
theorem dX8_walk_27 : decode cX8_walk 27 = .ok (.iaload, 1) := by decide +kernel
theorem dX8_walk_28 : decode cX8_walk 28 = .ok (.ifCond .gt 7, 3) := by decide +kernel
theorem dX8_walk_31 : decode cX8_walk 31 = .ok (.ldc2_w 146, 3) := by decide +kernel
theorem dX8_walk_34 : decode cX8_walk 34 = .ok (.lreturn, 1) := by decide +kernel
theorem dX8_walk_35 : decode cX8_walk 35 = .ok (.aload_n 0, 1) := by decide +kernel
theorem dX8_walk_36 : decode cX8_walk 36 = .ok (.getfield 22, 3) := by decide +kernel
theorem dX8_walk_39 : decode cX8_walk 39 = .ok (.iload_n 1, 1) := by decide +kernel
theorem dX8_walk_40 : decode cX8_walk 40 = .ok (.aload_n 0, 1) := by decide +kernel
theorem dX8_walk_41 : decode cX8_walk 41 = .ok (.getfield 22, 3) := by decide +kernel
theorem dX8_walk_44 : decode cX8_walk 44 = .ok (.getfield 321, 3) := by decide +kernel
theorem dX8_walk_47 : decode cX8_walk 47 = .ok (.aload_n 0, 1) := by decide +kernel
theorem dX8_walk_48 : decode cX8_walk 48 = .ok (.getfield 78, 3) := by decide +kernel
theorem dX8_walk_51 : decode cX8_walk 51 = .ok (.invokevirtual 324, 3) := by decide +kernel
theorem dX8_walk_54 : decode cX8_walk 54 = .ok (.aload_n 0, 1) := by decide +kernel
theorem dX8_walk_55 : decode cX8_walk 55 = .ok (.getfield 78, 3) := by decide +kernel
theorem dX8_walk_58 : decode cX8_walk 58 = .ok (.iload_n 2, 1) := by decide +kernel
theorem dX8_walk_59 : decode cX8_walk 59 = .ok (.invokevirtual 142, 3) := by decide +kernel
theorem dX8_walk_62 : decode cX8_walk 62 = .ok (.lreturn, 1) := by decide +kernel
theorem dX8_more_0 : decode cX8_more 0 = .ok (.aload_n 0, 1) := by decide +kernel
theorem dX8_more_1 : decode cX8_more 1 = .ok (.iload_n 1, 1) := by decide +kernel
theorem dX8_more_2 : decode cX8_more 2 = .ok (.invokevirtual 314, 3) := by decide +kernel
theorem dX8_more_5 : decode cX8_more 5 = .ok (.ifCond .eq 15, 3) := by decide +kernel
theorem dX8_more_8 : decode cX8_more 8 = .ok (.aload_n 0, 1) := by decide +kernel
theorem dX8_more_9 : decode cX8_more 9 = .ok (.getfield 22, 3) := by decide +kernel
theorem dX8_more_12 : decode cX8_more 12 = .ok (.getfield 124, 3) := by decide +kernel
theorem dX8_more_15 : decode cX8_more 15 = .ok (.iload_n 1, 1) := by decide +kernel
theorem dX8_more_16 : decode cX8_more 16 = .ok (.iaload, 1) := by decide +kernel
theorem dX8_more_17 : decode cX8_more 17 = .ok (.ifCond .gt 6, 3) := by decide +kernel
theorem dX8_more_20 : decode cX8_more 20 = .ok (.bipush (-2), 2) := by decide +kernel
theorem dX8_more_22 : decode cX8_more 22 = .ok (.ireturn, 1) := by decide +kernel
theorem dX8_more_23 : decode cX8_more 23 = .ok (.aload_n 0, 1) := by decide +kernel
theorem dX8_more_24 : decode cX8_more 24 = .ok (.iload_n 1, 1) := by decide +kernel
theorem dX8_more_25 : decode cX8_more 25 = .ok (.aload_n 0, 1) := by decide +kernel
theorem dX8_more_26 : decode cX8_more 26 = .ok (.getfield 22, 3) := by decide +kernel
theorem dX8_more_29 : decode cX8_more 29 = .ok (.getfield 321, 3) := by decide +kernel
theorem dX8_more_32 : decode cX8_more 32 = .ok (.invokevirtual 328, 3) := by decide +kernel
theorem dX8_more_35 : decode cX8_more 35 = .ok (.ireturn, 1) := by decide +kernel
theorem dX8_enough_0 : decode cX8_enough 0 = .ok (.aload_n 0, 1) := by decide +kernel
theorem dX8_enough_1 : decode cX8_enough 1 = .ok (.iload_n 1, 1) := by decide +kernel
theorem dX8_enough_2 : decode cX8_enough 2 = .ok (.invokevirtual 314, 3) := by decide +kernel
theorem dX8_enough_5 : decode cX8_enough 5 = .ok (.ifCond .eq 15, 3) := by decide +kernel
theorem dX8_enough_8 : decode cX8_enough 8 = .ok (.aload_n 0, 1) := by decide +kernel
theorem dX8_enough_9 : decode cX8_enough 9 = .ok (.getfield 22, 3) := by decide +kernel
theorem dX8_enough_12 : decode cX8_enough 12 = .ok (.getfield 124, 3) := by decide +kernel
theorem dX8_enough_15 : decode cX8_enough 15 = .ok (.iload_n 1, 1) := by decide +kernel
theorem dX8_enough_16 : decode cX8_enough 16 = .ok (.iaload, 1) := by decide +kernel
theorem dX8_enough_17 : decode cX8_enough 17 = .ok (.ifCond .gt 6, 3) := by decide +kernel
theorem dX8_enough_20 : decode cX8_enough 20 = .ok (.bipush (-2), 2) := by decide +kernel
theorem dX8_enough_22 : decode cX8_enough 22 = .ok (.ireturn, 1) := by decide +kernel
theorem dX8_enough_23 : decode cX8_enough 23 = .ok (.iconst 0, 1) := by decide +kernel
theorem dX8_enough_24 : decode cX8_enough 24 = .ok (.istore_n 2, 1) := by decide +kernel
theorem dX8_enough_25 : decode cX8_enough 25 = .ok (.iload_n 2, 1) := by decide +kernel
theorem dX8_enough_26 : decode cX8_enough 26 = .ok (.bipush 100, 2) := by decide +kernel
theorem dX8_enough_28 : decode cX8_enough 28 = .ok (.if_icmp .gt 20, 3) := by decide +kernel
theorem dX8_enough_31 : decode cX8_enough 31 = .ok (.aload_n 0, 1) := by decide +kernel
theorem dX8_enough_32 : decode cX8_enough 32 = .ok (.iload_n 1, 1) := by decide +kernel
theorem dX8_enough_33 : decode cX8_enough 33 = .ok (.iload_n 2, 1) := by decide +kernel
theorem dX8_enough_34 : decode cX8_enough 34 = .ok (.invokevirtual 328, 3) := by decide +kernel
theorem dX8_enough_37 : decode cX8_enough 37 = .ok (.ifCond .lt 5, 3) := by decide +kernel
theorem dX8_enough_40 : decode cX8_enough 40 = .ok (.iload_n 2, 1) := by decide +kernel
theorem dX8_enough_41 : decode cX8_enough 41 = .ok (.ireturn, 1) := by decide +kernel
theorem dX8_enough_42 : decode cX8_enough 42 = .ok (.iinc 2 1, 3) := by decide +kernel
theorem dX8_enough_45 : decode cX8_enough 45 = .ok (.goto (-20), 3) := by decide +kernel
theorem dX8_enough_48 : decode cX8_enough 48 = .ok (.iconst (-1), 1) := by decide +kernel
theorem dX8_enough_49 : decode cX8_enough 49 = .ok (.ireturn, 1) := by decide +kernel
theorem dX8_walkingAgainstStanding_0 : decode cX8_walkingAgainstStanding 0 = .ok (.aload_n 0, 1) := by decide +kernel
theorem dX8_walkingAgainstStanding_1 : decode cX8_walkingAgainstStanding 1 = .ok (.getfield 22, 3) := by decide +kernel
theorem dX8_walkingAgainstStanding_4 : decode cX8_walkingAgainstStanding 4 = .ok (.iload_n 1, 1) := by decide +kernel
theorem dX8_walkingAgainstStanding_5 : decode cX8_walkingAgainstStanding 5 = .ok (.aload_n 0, 1) := by decide +kernel
theorem dX8_walkingAgainstStanding_6 : decode cX8_walkingAgainstStanding 6 = .ok (.getfield 82, 3) := by decide +kernel
theorem dX8_walkingAgainstStanding_9 : decode cX8_walkingAgainstStanding 9 = .ok (.invokevirtual 317, 3) := by decide +kernel
theorem dX8_walkingAgainstStanding_12 : decode cX8_walkingAgainstStanding 12 = .ok (.aload_n 0, 1) := by decide +kernel
theorem dX8_walkingAgainstStanding_13 : decode cX8_walkingAgainstStanding 13 = .ok (.getfield 22, 3) := by decide +kernel
theorem dX8_walkingAgainstStanding_16 : decode cX8_walkingAgainstStanding 16 = .ok (.iload_n 1, 1) := by decide +kernel
theorem dX8_walkingAgainstStanding_17 : decode cX8_walkingAgainstStanding 17 = .ok (.iload_n 2, 1) := by decide +kernel
theorem dX8_walkingAgainstStanding_18 : decode cX8_walkingAgainstStanding 18 = .ok (.aload_n 0, 1) := by decide +kernel
theorem dX8_walkingAgainstStanding_19 : decode cX8_walkingAgainstStanding 19 = .ok (.getfield 78, 3) := by decide +kernel
theorem dX8_walkingAgainstStanding_22 : decode cX8_walkingAgainstStanding 22 = .ok (.invokevirtual 324, 3) := by decide +kernel
theorem dX8_walkingAgainstStanding_25 : decode cX8_walkingAgainstStanding 25 = .ok (.aload_n 0, 1) := by decide +kernel
theorem dX8_walkingAgainstStanding_26 : decode cX8_walkingAgainstStanding 26 = .ok (.getfield 78, 3) := by decide +kernel
theorem dX8_walkingAgainstStanding_29 : decode cX8_walkingAgainstStanding 29 = .ok (.aload_n 0, 1) := by decide +kernel
theorem dX8_walkingAgainstStanding_30 : decode cX8_walkingAgainstStanding 30 = .ok (.getfield 82, 3) := by decide +kernel
theorem dX8_walkingAgainstStanding_33 : decode cX8_walkingAgainstStanding 33 = .ok (.invokevirtual 182, 3) := by decide +kernel
theorem dX8_walkingAgainstStanding_36 : decode cX8_walkingAgainstStanding 36 = .ok (.ireturn, 1) := by decide +kernel
theorem dX8_hasFlow_0 : decode cX8_hasFlow 0 = .ok (.aload_n 0, 1) := by decide +kernel
theorem dX8_hasFlow_1 : decode cX8_hasFlow 1 = .ok (.getfield 22, 3) := by decide +kernel
theorem dX8_hasFlow_4 : decode cX8_hasFlow 4 = .ok (.iload_n 1, 1) := by decide +kernel
theorem dX8_hasFlow_5 : decode cX8_hasFlow 5 = .ok (.invokevirtual 113, 3) := by decide +kernel
theorem dX8_hasFlow_8 : decode cX8_hasFlow 8 = .ok (.ifCond .eq 17, 3) := by decide +kernel
theorem dX8_hasFlow_11 : decode cX8_hasFlow 11 = .ok (.aload_n 0, 1) := by decide +kernel
theorem dX8_hasFlow_12 : decode cX8_hasFlow 12 = .ok (.getfield 22, 3) := by decide +kernel
theorem dX8_hasFlow_15 : decode cX8_hasFlow 15 = .ok (.getfield 331, 3) := by decide +kernel
theorem dX8_hasFlow_18 : decode cX8_hasFlow 18 = .ok (.ifCond .eq 7, 3) := by decide +kernel
theorem dX8_hasFlow_21 : decode cX8_hasFlow 21 = .ok (.iconst 1, 1) := by decide +kernel
theorem dX8_hasFlow_22 : decode cX8_hasFlow 22 = .ok (.goto 4, 3) := by decide +kernel
theorem dX8_hasFlow_25 : decode cX8_hasFlow 25 = .ok (.iconst 0, 1) := by decide +kernel
theorem dX8_hasFlow_26 : decode cX8_hasFlow 26 = .ok (.ireturn, 1) := by decide +kernel
theorem dX8_crowd_0 : decode cX8_crowd 0 = .ok (.aload_n 0, 1) := by decide +kernel
theorem dX8_crowd_1 : decode cX8_crowd 1 = .ok (.iload_n 1, 1) := by decide +kernel
theorem dX8_crowd_2 : decode cX8_crowd 2 = .ok (.iload_n 2, 1) := by decide +kernel
theorem dX8_crowd_3 : decode cX8_crowd 3 = .ok (.iload_n 3, 1) := by decide +kernel
theorem dX8_crowd_4 : decode cX8_crowd 4 = .ok (.invokevirtual 334, 3) := by decide +kernel
theorem dX8_crowd_7 : decode cX8_crowd 7 = .ok (.istore 4, 2) := by decide +kernel
theorem dX8_crowd_9 : decode cX8_crowd 9 = .ok (.iload 4, 2) := by decide +kernel
theorem dX8_crowd_11 : decode cX8_crowd 11 = .ok (.ifCond .eq 7, 3) := by decide +kernel
theorem dX8_crowd_14 : decode cX8_crowd 14 = .ok (.iload 4, 2) := by decide +kernel
theorem dX8_crowd_16 : decode cX8_crowd 16 = .ok (.i2l, 1) := by decide +kernel
theorem dX8_crowd_17 : decode cX8_crowd 17 = .ok (.lreturn, 1) := by decide +kernel
theorem dX8_crowd_18 : decode cX8_crowd 18 = .ok (.aload_n 0, 1) := by decide +kernel
theorem dX8_crowd_19 : decode cX8_crowd 19 = .ok (.getfield 64, 3) := by decide +kernel
theorem dX8_crowd_22 : decode cX8_crowd 22 = .ok (.getfield 337, 3) := by decide +kernel
theorem dX8_crowd_25 : decode cX8_crowd 25 = .ok (.ifCond .eq 9, 3) := by decide +kernel
theorem dX8_crowd_28 : decode cX8_crowd 28 = .ok (.ldc2_w 146, 3) := by decide +kernel
theorem dX8_crowd_31 : decode cX8_crowd 31 = .ok (.goto 10, 3) := by decide +kernel
theorem dX8_crowd_34 : decode cX8_crowd 34 = .ok (.aload_n 0, 1) := by decide +kernel
theorem dX8_crowd_35 : decode cX8_crowd 35 = .ok (.getfield 64, 3) := by decide +kernel
theorem dX8_crowd_38 : decode cX8_crowd 38 = .ok (.getfield 340, 3) := by decide +kernel
theorem dX8_crowd_41 : decode cX8_crowd 41 = .ok (.lreturn, 1) := by decide +kernel
theorem dX8_clears_0 : decode cX8_clears 0 = .ok (.aload_n 0, 1) := by decide +kernel
theorem dX8_clears_1 : decode cX8_clears 1 = .ok (.iload_n 1, 1) := by decide +kernel
theorem dX8_clears_2 : decode cX8_clears 2 = .ok (.iload_n 2, 1) := by decide +kernel
theorem dX8_clears_3 : decode cX8_clears 3 = .ok (.iload_n 3, 1) := by decide +kernel
theorem dX8_clears_4 : decode cX8_clears 4 = .ok (.invokevirtual 334, 3) := by decide +kernel
theorem dX8_clears_7 : decode cX8_clears 7 = .ok (.istore 4, 2) := by decide +kernel
theorem dX8_clears_9 : decode cX8_clears 9 = .ok (.iload 4, 2) := by decide +kernel
theorem dX8_clears_11 : decode cX8_clears 11 = .ok (.ifCond .eq 6, 3) := by decide +kernel
theorem dX8_clears_14 : decode cX8_clears 14 = .ok (.iload 4, 2) := by decide +kernel
theorem dX8_clears_16 : decode cX8_clears 16 = .ok (.ireturn, 1) := by decide +kernel
theorem dX8_clears_17 : decode cX8_clears 17 = .ok (.aload_n 0, 1) := by decide +kernel
theorem dX8_clears_18 : decode cX8_clears 18 = .ok (.getfield 64, 3) := by decide +kernel
theorem dX8_clears_21 : decode cX8_clears 21 = .ok (.getfield 337, 3) := by decide +kernel
theorem dX8_clears_24 : decode cX8_clears 24 = .ok (.ifCond .eq 7, 3) := by decide +kernel
theorem dX8_clears_27 : decode cX8_clears 27 = .ok (.iconst (-1), 1) := by decide +kernel
theorem dX8_clears_28 : decode cX8_clears 28 = .ok (.goto 10, 3) := by decide +kernel
theorem dX8_clears_31 : decode cX8_clears 31 = .ok (.aload_n 0, 1) := by decide +kernel
theorem dX8_clears_32 : decode cX8_clears 32 = .ok (.getfield 64, 3) := by decide +kernel
theorem dX8_clears_35 : decode cX8_clears 35 = .ok (.getfield 343, 3) := by decide +kernel
theorem dX8_clears_38 : decode cX8_clears 38 = .ok (.ireturn, 1) := by decide +kernel
theorem dX8_openCrowd_0 : decode cX8_openCrowd 0 = .ok (.iload_n 3, 1) := by decide +kernel
theorem dX8_openCrowd_1 : decode cX8_openCrowd 1 = .ok (.invokestatic 117, 3) := by decide +kernel
theorem dX8_openCrowd_4 : decode cX8_openCrowd 4 = .ok (.ifCond .eq 12, 3) := by decide +kernel
theorem dX8_openCrowd_7 : decode cX8_openCrowd 7 = .ok (.aload_n 0, 1) := by decide +kernel
theorem dX8_openCrowd_8 : decode cX8_openCrowd 8 = .ok (.iload_n 1, 1) := by decide +kernel
theorem dX8_openCrowd_9 : decode cX8_openCrowd 9 = .ok (.iload_n 2, 1) := by decide +kernel
theorem dX8_openCrowd_10 : decode cX8_openCrowd 10 = .ok (.invokevirtual 346, 3) := by decide +kernel
theorem dX8_openCrowd_13 : decode cX8_openCrowd 13 = .ok (.goto 5, 3) := by decide +kernel
theorem dX8_openCrowd_16 : decode cX8_openCrowd 16 = .ok (.bipush (-2), 2) := by decide +kernel
theorem dX8_openCrowd_18 : decode cX8_openCrowd 18 = .ok (.istore 4, 2) := by decide +kernel
theorem dX8_openCrowd_20 : decode cX8_openCrowd 20 = .ok (.iload 4, 2) := by decide +kernel
theorem dX8_openCrowd_22 : decode cX8_openCrowd 22 = .ok (.ifCond .eq 6, 3) := by decide +kernel
theorem dX8_openCrowd_25 : decode cX8_openCrowd 25 = .ok (.iload 4, 2) := by decide +kernel
theorem dX8_openCrowd_27 : decode cX8_openCrowd 27 = .ok (.ireturn, 1) := by decide +kernel
theorem dX8_openCrowd_28 : decode cX8_openCrowd 28 = .ok (.aload_n 0, 1) := by decide +kernel
theorem dX8_openCrowd_29 : decode cX8_openCrowd 29 = .ok (.getfield 36, 3) := by decide +kernel
theorem dX8_openCrowd_32 : decode cX8_openCrowd 32 = .ok (.iload_n 1, 1) := by decide +kernel
theorem dX8_openCrowd_33 : decode cX8_openCrowd 33 = .ok (.aaload, 1) := by decide +kernel
theorem dX8_openCrowd_34 : decode cX8_openCrowd 34 = .ok (.iconst 0, 1) := by decide +kernel
theorem dX8_openCrowd_35 : decode cX8_openCrowd 35 = .ok (.iconst 1, 1) := by decide +kernel
theorem dX8_openCrowd_36 : decode cX8_openCrowd 36 = .ok (.lconst 0, 1) := by decide +kernel
theorem dX8_openCrowd_37 : decode cX8_openCrowd 37 = .ok (.ldc2_w 349, 3) := by decide +kernel
theorem dX8_openCrowd_40 : decode cX8_openCrowd 40 = .ok (.invokevirtual 351, 3) := by decide +kernel
theorem dX8_openCrowd_43 : decode cX8_openCrowd 43 = .ok (.ifCond .eq 6, 3) := by decide +kernel
theorem dX8_openCrowd_46 : decode cX8_openCrowd 46 = .ok (.bipush (-2), 2) := by decide +kernel
theorem dX8_openCrowd_48 : decode cX8_openCrowd 48 = .ok (.ireturn, 1) := by decide +kernel
theorem dX8_openCrowd_49 : decode cX8_openCrowd 49 = .ok (.iload_n 3, 1) := by decide +kernel
theorem dX8_openCrowd_50 : decode cX8_openCrowd 50 = .ok (.ifCond .ne 18, 3) := by decide +kernel
theorem dX8_openCrowd_53 : decode cX8_openCrowd 53 = .ok (.aload_n 0, 1) := by decide +kernel
theorem dX8_openCrowd_54 : decode cX8_openCrowd 54 = .ok (.getfield 22, 3) := by decide +kernel
theorem dX8_openCrowd_57 : decode cX8_openCrowd 57 = .ok (.iload_n 2, 1) := by decide +kernel
theorem dX8_openCrowd_58 : decode cX8_openCrowd 58 = .ok (.aload_n 0, 1) := by decide +kernel
theorem dX8_openCrowd_59 : decode cX8_openCrowd 59 = .ok (.getfield 78, 3) := by decide +kernel
theorem dX8_openCrowd_62 : decode cX8_openCrowd 62 = .ok (.invokevirtual 317, 3) := by decide +kernel
theorem dX8_openCrowd_65 : decode cX8_openCrowd 65 = .ok (.goto 22, 3) := by decide +kernel
theorem dX8_openCrowd_68 : decode cX8_openCrowd 68 = .ok (.aload_n 0, 1) := by decide +kernel
theorem dX8_openCrowd_69 : decode cX8_openCrowd 69 = .ok (.getfield 22, 3) := by decide +kernel
theorem dX8_openCrowd_72 : decode cX8_openCrowd 72 = .ok (.iload_n 2, 1) := by decide +kernel
theorem dX8_openCrowd_73 : decode cX8_openCrowd 73 = .ok (.aload_n 0, 1) := by decide +kernel
theorem dX8_openCrowd_74 : decode cX8_openCrowd 74 = .ok (.getfield 22, 3) := by decide +kernel
theorem dX8_openCrowd_77 : decode cX8_openCrowd 77 = .ok (.getfield 321, 3) := by decide +kernel
theorem dX8_openCrowd_80 : decode cX8_openCrowd 80 = .ok (.aload_n 0, 1) := by decide +kernel
theorem dX8_openCrowd_81 : decode cX8_openCrowd 81 = .ok (.getfield 78, 3) := by decide +kernel
theorem dX8_openCrowd_84 : decode cX8_openCrowd 84 = .ok (.invokevirtual 324, 3) := by decide +kernel
theorem dX8_openCrowd_87 : decode cX8_openCrowd 87 = .ok (.aload_n 0, 1) := by decide +kernel
theorem dX8_openCrowd_88 : decode cX8_openCrowd 88 = .ok (.getfield 64, 3) := by decide +kernel
theorem dX8_openCrowd_91 : decode cX8_openCrowd 91 = .ok (.aload_n 0, 1) := by decide +kernel
theorem dX8_openCrowd_92 : decode cX8_openCrowd 92 = .ok (.getfield 36, 3) := by decide +kernel
theorem dX8_openCrowd_95 : decode cX8_openCrowd 95 = .ok (.iload_n 1, 1) := by decide +kernel
theorem dX8_openCrowd_96 : decode cX8_openCrowd 96 = .ok (.aaload, 1) := by decide +kernel
theorem dX8_openCrowd_97 : decode cX8_openCrowd 97 = .ok (.aload_n 0, 1) := by decide +kernel
theorem dX8_openCrowd_98 : decode cX8_openCrowd 98 = .ok (.getfield 78, 3) := by decide +kernel
theorem dX8_openCrowd_101 : decode cX8_openCrowd 101 = .ok (.invokevirtual 355, 3) := by decide +kernel
theorem dX8_openCrowd_104 : decode cX8_openCrowd 104 = .ok (.invokevirtual 359, 3) := by decide +kernel
theorem dX8_openCrowd_107 : decode cX8_openCrowd 107 = .ok (.iconst 0, 1) := by decide +kernel
theorem dX8_openCrowd_108 : decode cX8_openCrowd 108 = .ok (.ireturn, 1) := by decide +kernel
theorem dX8_crowdState_0 : decode cX8_crowdState 0 = .ok (.iload_n 1, 1) := by decide +kernel
theorem dX8_crowdState_1 : decode cX8_crowdState 1 = .ok (.invokestatic 300, 3) := by decide +kernel
theorem dX8_crowdState_4 : decode cX8_crowdState 4 = .ok (.ifCond .eq 23, 3) := by decide +kernel
theorem dX8_crowdState_7 : decode cX8_crowdState 7 = .ok (.aload_n 0, 1) := by decide +kernel
theorem dX8_crowdState_8 : decode cX8_crowdState 8 = .ok (.iload_n 2, 1) := by decide +kernel
theorem dX8_crowdState_9 : decode cX8_crowdState 9 = .ok (.invokevirtual 314, 3) := by decide +kernel
theorem dX8_crowdState_12 : decode cX8_crowdState 12 = .ok (.ifCond .eq 15, 3) := by decide +kernel
theorem dX8_crowdState_15 : decode cX8_crowdState 15 = .ok (.aload_n 0, 1) := by decide +kernel
theorem dX8_crowdState_16 : decode cX8_crowdState 16 = .ok (.getfield 22, 3) := by decide +kernel
theorem dX8_crowdState_19 : decode cX8_crowdState 19 = .ok (.getfield 124, 3) := by decide +kernel
theorem dX8_crowdState_22 : decode cX8_crowdState 22 = .ok (.iload_n 2, 1) := by decide +kernel
theorem dX8_crowdState_23 : decode cX8_crowdState 23 = .ok (.iaload, 1) := by decide +kernel
theorem dX8_crowdState_24 : decode cX8_crowdState 24 = .ok (.ifCond .gt 6, 3) := by decide +kernel
theorem dX8_crowdState_27 : decode cX8_crowdState 27 = .ok (.bipush (-2), 2) := by decide +kernel
theorem dX8_crowdState_29 : decode cX8_crowdState 29 = .ok (.ireturn, 1) := by decide +kernel
theorem dX8_crowdState_30 : decode cX8_crowdState 30 = .ok (.aload_n 0, 1) := by decide +kernel
theorem dX8_crowdState_31 : decode cX8_crowdState 31 = .ok (.getfield 36, 3) := by decide +kernel
theorem dX8_crowdState_34 : decode cX8_crowdState 34 = .ok (.iload_n 1, 1) := by decide +kernel
theorem dX8_crowdState_35 : decode cX8_crowdState 35 = .ok (.aaload, 1) := by decide +kernel
theorem dX8_crowdState_36 : decode cX8_crowdState 36 = .ok (.getfield 303, 3) := by decide +kernel
theorem dX8_crowdState_39 : decode cX8_crowdState 39 = .ok (.ifCond .eq 7, 3) := by decide +kernel
theorem dX8_crowdState_42 : decode cX8_crowdState 42 = .ok (.iconst 0, 1) := by decide +kernel
theorem dX8_crowdState_43 : decode cX8_crowdState 43 = .ok (.goto 5, 3) := by decide +kernel
theorem dX8_crowdState_46 : decode cX8_crowdState 46 = .ok (.bipush (-6), 2) := by decide +kernel
theorem dX8_crowdState_48 : decode cX8_crowdState 48 = .ok (.ireturn, 1) := by decide +kernel
theorem dX8_sides_0 : decode cX8_sides 0 = .ok (.aload_n 0, 1) := by decide +kernel
theorem dX8_sides_1 : decode cX8_sides 1 = .ok (.iload_n 1, 1) := by decide +kernel
theorem dX8_sides_2 : decode cX8_sides 2 = .ok (.iload_n 2, 1) := by decide +kernel
theorem dX8_sides_3 : decode cX8_sides 3 = .ok (.iload_n 3, 1) := by decide +kernel
theorem dX8_sides_4 : decode cX8_sides 4 = .ok (.invokevirtual 363, 3) := by decide +kernel
theorem dX8_sides_7 : decode cX8_sides 7 = .ok (.istore 4, 2) := by decide +kernel
theorem dX8_sides_9 : decode cX8_sides 9 = .ok (.iload 4, 2) := by decide +kernel
theorem dX8_sides_11 : decode cX8_sides 11 = .ok (.ifCond .ne 13, 3) := by decide +kernel
theorem dX8_sides_14 : decode cX8_sides 14 = .ok (.aload_n 0, 1) := by decide +kernel
theorem dX8_sides_15 : decode cX8_sides 15 = .ok (.getfield 64, 3) := by decide +kernel
theorem dX8_sides_18 : decode cX8_sides 18 = .ok (.getfield 366, 3) := by decide +kernel
theorem dX8_sides_21 : decode cX8_sides 21 = .ok (.goto 6, 3) := by decide +kernel
theorem dX8_sides_24 : decode cX8_sides 24 = .ok (.iload 4, 2) := by decide +kernel
theorem dX8_sides_26 : decode cX8_sides 26 = .ok (.i2l, 1) := by decide +kernel
theorem dX8_sides_27 : decode cX8_sides 27 = .ok (.lreturn, 1) := by decide +kernel
theorem dX8_begins_0 : decode cX8_begins 0 = .ok (.aload_n 0, 1) := by decide +kernel
theorem dX8_begins_1 : decode cX8_begins 1 = .ok (.iload_n 1, 1) := by decide +kernel
theorem dX8_begins_2 : decode cX8_begins 2 = .ok (.iload_n 2, 1) := by decide +kernel
theorem dX8_begins_3 : decode cX8_begins 3 = .ok (.iload_n 3, 1) := by decide +kernel
theorem dX8_begins_4 : decode cX8_begins 4 = .ok (.invokevirtual 363, 3) := by decide +kernel
theorem dX8_begins_7 : decode cX8_begins 7 = .ok (.istore 4, 2) := by decide +kernel
theorem dX8_begins_9 : decode cX8_begins 9 = .ok (.iload 4, 2) := by decide +kernel
theorem dX8_begins_11 : decode cX8_begins 11 = .ok (.ifCond .eq 6, 3) := by decide +kernel
theorem dX8_begins_14 : decode cX8_begins 14 = .ok (.iload 4, 2) := by decide +kernel
theorem dX8_begins_16 : decode cX8_begins 16 = .ok (.ireturn, 1) := by decide +kernel
theorem dX8_begins_17 : decode cX8_begins 17 = .ok (.aload_n 0, 1) := by decide +kernel
theorem dX8_begins_18 : decode cX8_begins 18 = .ok (.getfield 64, 3) := by decide +kernel
theorem dX8_begins_21 : decode cX8_begins 21 = .ok (.getfield 366, 3) := by decide +kernel
theorem dX8_begins_24 : decode cX8_begins 24 = .ok (.aload_n 0, 1) := by decide +kernel
theorem dX8_begins_25 : decode cX8_begins 25 = .ok (.getfield 64, 3) := by decide +kernel
theorem dX8_begins_28 : decode cX8_begins 28 = .ok (.getfield 369, 3) := by decide +kernel
theorem dX8_begins_31 : decode cX8_begins 31 = .ok (.lcmp, 1) := by decide +kernel
theorem dX8_begins_32 : decode cX8_begins 32 = .ok (.ifCond .ge 7, 3) := by decide +kernel
theorem dX8_begins_35 : decode cX8_begins 35 = .ok (.iconst 1, 1) := by decide +kernel
theorem dX8_begins_36 : decode cX8_begins 36 = .ok (.goto 4, 3) := by decide +kernel
theorem dX8_begins_39 : decode cX8_begins 39 = .ok (.iconst 0, 1) := by decide +kernel
theorem dX8_begins_40 : decode cX8_begins 40 = .ok (.ireturn, 1) := by decide +kernel
theorem dX8_openSides_0 : decode cX8_openSides 0 = .ok (.iload_n 3, 1) := by decide +kernel
theorem dX8_openSides_1 : decode cX8_openSides 1 = .ok (.i2l, 1) := by decide +kernel
theorem dX8_openSides_2 : decode cX8_openSides 2 = .ok (.lconst 0, 1) := by decide +kernel
theorem dX8_openSides_3 : decode cX8_openSides 3 = .ok (.ldc2_w 372, 3) := by decide +kernel
theorem dX8_openSides_6 : decode cX8_openSides 6 = .ok (.invokestatic 161, 3) := by decide +kernel
theorem dX8_openSides_9 : decode cX8_openSides 9 = .ok (.ifCond .eq 8, 3) := by decide +kernel
theorem dX8_openSides_12 : decode cX8_openSides 12 = .ok (.bipush (-2), 2) := by decide +kernel
theorem dX8_openSides_14 : decode cX8_openSides 14 = .ok (.goto 9, 3) := by decide +kernel
theorem dX8_openSides_17 : decode cX8_openSides 17 = .ok (.aload_n 0, 1) := by decide +kernel
theorem dX8_openSides_18 : decode cX8_openSides 18 = .ok (.iload_n 1, 1) := by decide +kernel
theorem dX8_openSides_19 : decode cX8_openSides 19 = .ok (.iload_n 2, 1) := by decide +kernel
theorem dX8_openSides_20 : decode cX8_openSides 20 = .ok (.invokevirtual 346, 3) := by decide +kernel
theorem dX8_openSides_23 : decode cX8_openSides 23 = .ok (.istore 4, 2) := by decide +kernel
theorem dX8_openSides_25 : decode cX8_openSides 25 = .ok (.iload 4, 2) := by decide +kernel
theorem dX8_openSides_27 : decode cX8_openSides 27 = .ok (.ifCond .eq 6, 3) := by decide +kernel
theorem dX8_openSides_30 : decode cX8_openSides 30 = .ok (.iload 4, 2) := by decide +kernel
theorem dX8_openSides_32 : decode cX8_openSides 32 = .ok (.ireturn, 1) := by decide +kernel
theorem dX8_openSides_33 : decode cX8_openSides 33 = .ok (.aload_n 0, 1) := by decide +kernel
theorem dX8_openSides_34 : decode cX8_openSides 34 = .ok (.getfield 36, 3) := by decide +kernel
theorem dX8_openSides_37 : decode cX8_openSides 37 = .ok (.iload_n 1, 1) := by decide +kernel
theorem dX8_openSides_38 : decode cX8_openSides 38 = .ok (.aaload, 1) := by decide +kernel
theorem dX8_openSides_39 : decode cX8_openSides 39 = .ok (.astore 5, 2) := by decide +kernel
theorem dX8_openSides_41 : decode cX8_openSides 41 = .ok (.aload 5, 2) := by decide +kernel
theorem dX8_openSides_43 : decode cX8_openSides 43 = .ok (.getfield 374, 3) := by decide +kernel
theorem dX8_openSides_46 : decode cX8_openSides 46 = .ok (.iconst 2, 1) := by decide +kernel
theorem dX8_openSides_47 : decode cX8_openSides 47 = .ok (.irem, 1) := by decide +kernel
theorem dX8_openSides_48 : decode cX8_openSides 48 = .ok (.ifCond .ne 31, 3) := by decide +kernel
theorem dX8_openSides_51 : decode cX8_openSides 51 = .ok (.aload 5, 2) := by decide +kernel
theorem dX8_openSides_53 : decode cX8_openSides 53 = .ok (.iconst 0, 1) := by decide +kernel
theorem dX8_openSides_54 : decode cX8_openSides 54 = .ok (.iconst 2, 1) := by decide +kernel
theorem dX8_openSides_55 : decode cX8_openSides 55 = .ok (.lconst 0, 1) := by decide +kernel
theorem dX8_openSides_56 : decode cX8_openSides 56 = .ok (.ldc2_w 349, 3) := by decide +kernel
theorem dX8_openSides_59 : decode cX8_openSides 59 = .ok (.invokevirtual 351, 3) := by decide +kernel
theorem dX8_openSides_62 : decode cX8_openSides 62 = .ok (.ifCond .ne 17, 3) := by decide +kernel
theorem dX8_openSides_65 : decode cX8_openSides 65 = .ok (.aload 5, 2) := by decide +kernel
theorem dX8_openSides_67 : decode cX8_openSides 67 = .ok (.iconst 1, 1) := by decide +kernel
theorem dX8_openSides_68 : decode cX8_openSides 68 = .ok (.iconst 2, 1) := by decide +kernel
theorem dX8_openSides_69 : decode cX8_openSides 69 = .ok (.lconst 0, 1) := by decide +kernel
theorem dX8_openSides_70 : decode cX8_openSides 70 = .ok (.ldc2_w 375, 3) := by decide +kernel
theorem dX8_openSides_73 : decode cX8_openSides 73 = .ok (.invokevirtual 351, 3) := by decide +kernel
theorem dX8_openSides_76 : decode cX8_openSides 76 = .ok (.ifCond .eq 6, 3) := by decide +kernel
theorem dX8_openSides_79 : decode cX8_openSides 79 = .ok (.bipush (-2), 2) := by decide +kernel
theorem dX8_openSides_81 : decode cX8_openSides 81 = .ok (.ireturn, 1) := by decide +kernel
theorem dX8_openSides_82 : decode cX8_openSides 82 = .ok (.aload_n 0, 1) := by decide +kernel
theorem dX8_openSides_83 : decode cX8_openSides 83 = .ok (.getfield 64, 3) := by decide +kernel
theorem dX8_openSides_86 : decode cX8_openSides 86 = .ok (.aload 5, 2) := by decide +kernel
theorem dX8_openSides_88 : decode cX8_openSides 88 = .ok (.aload_n 0, 1) := by decide +kernel
theorem dX8_openSides_89 : decode cX8_openSides 89 = .ok (.getfield 22, 3) := by decide +kernel
theorem dX8_openSides_92 : decode cX8_openSides 92 = .ok (.iload_n 2, 1) := by decide +kernel
theorem dX8_openSides_93 : decode cX8_openSides 93 = .ok (.iload_n 3, 1) := by decide +kernel
theorem dX8_openSides_94 : decode cX8_openSides 94 = .ok (.aload_n 0, 1) := by decide +kernel
theorem dX8_openSides_95 : decode cX8_openSides 95 = .ok (.getfield 78, 3) := by decide +kernel
theorem dX8_openSides_98 : decode cX8_openSides 98 = .ok (.invokevirtual 377, 3) := by decide +kernel
theorem dX8_openSides_101 : decode cX8_openSides 101 = .ok (.iconst 0, 1) := by decide +kernel
theorem dX8_openSides_102 : decode cX8_openSides 102 = .ok (.ireturn, 1) := by decide +kernel
theorem dX8_turn_0 : decode cX8_turn 0 = .ok (.aload_n 0, 1) := by decide +kernel
theorem dX8_turn_1 : decode cX8_turn 1 = .ok (.iload_n 1, 1) := by decide +kernel
theorem dX8_turn_2 : decode cX8_turn 2 = .ok (.iload_n 2, 1) := by decide +kernel
theorem dX8_turn_3 : decode cX8_turn 3 = .ok (.invokevirtual 381, 3) := by decide +kernel
theorem dX8_turn_6 : decode cX8_turn 6 = .ok (.istore_n 3, 1) := by decide +kernel
theorem dX8_turn_7 : decode cX8_turn 7 = .ok (.iload_n 3, 1) := by decide +kernel
theorem dX8_turn_8 : decode cX8_turn 8 = .ok (.ifCond .ne 13, 3) := by decide +kernel
theorem dX8_turn_11 : decode cX8_turn 11 = .ok (.aload_n 0, 1) := by decide +kernel
theorem dX8_turn_12 : decode cX8_turn 12 = .ok (.getfield 71, 3) := by decide +kernel
theorem dX8_turn_15 : decode cX8_turn 15 = .ok (.getfield 384, 3) := by decide +kernel
theorem dX8_turn_18 : decode cX8_turn 18 = .ok (.goto 4, 3) := by decide +kernel
theorem dX8_turn_21 : decode cX8_turn 21 = .ok (.iload_n 3, 1) := by decide +kernel
theorem dX8_turn_22 : decode cX8_turn 22 = .ok (.ireturn, 1) := by decide +kernel
theorem dX8_turned_0 : decode cX8_turned 0 = .ok (.aload_n 0, 1) := by decide +kernel
theorem dX8_turned_1 : decode cX8_turned 1 = .ok (.iload_n 1, 1) := by decide +kernel
theorem dX8_turned_2 : decode cX8_turned 2 = .ok (.iload_n 2, 1) := by decide +kernel
theorem dX8_turned_3 : decode cX8_turned 3 = .ok (.invokevirtual 381, 3) := by decide +kernel
theorem dX8_turned_6 : decode cX8_turned 6 = .ok (.istore 4, 2) := by decide +kernel
theorem dX8_turned_8 : decode cX8_turned 8 = .ok (.iload 4, 2) := by decide +kernel
theorem dX8_turned_10 : decode cX8_turned 10 = .ok (.ifCond .eq 6, 3) := by decide +kernel
theorem dX8_turned_13 : decode cX8_turned 13 = .ok (.iload 4, 2) := by decide +kernel
theorem dX8_turned_15 : decode cX8_turned 15 = .ok (.ireturn, 1) := by decide +kernel
theorem dX8_turned_16 : decode cX8_turned 16 = .ok (.iload_n 3, 1) := by decide +kernel
theorem dX8_turned_17 : decode cX8_turned 17 = .ok (.i2l, 1) := by decide +kernel
theorem dX8_turned_18 : decode cX8_turned 18 = .ok (.lconst 0, 1) := by decide +kernel
theorem dX8_turned_19 : decode cX8_turned 19 = .ok (.aload_n 0, 1) := by decide +kernel
theorem dX8_turned_20 : decode cX8_turned 20 = .ok (.getfield 71, 3) := by decide +kernel
theorem dX8_turned_23 : decode cX8_turned 23 = .ok (.getfield 387, 3) := by decide +kernel
theorem dX8_turned_26 : decode cX8_turned 26 = .ok (.iconst 1, 1) := by decide +kernel
theorem dX8_turned_27 : decode cX8_turned 27 = .ok (.isub, 1) := by decide +kernel
theorem dX8_turned_28 : decode cX8_turned 28 = .ok (.i2l, 1) := by decide +kernel
theorem dX8_turned_29 : decode cX8_turned 29 = .ok (.invokestatic 161, 3) := by decide +kernel
theorem dX8_turned_32 : decode cX8_turned 32 = .ok (.ifCond .eq 7, 3) := by decide +kernel
theorem dX8_turned_35 : decode cX8_turned 35 = .ok (.iconst (-1), 1) := by decide +kernel
theorem dX8_turned_36 : decode cX8_turned 36 = .ok (.goto 12, 3) := by decide +kernel
theorem dX8_turned_39 : decode cX8_turned 39 = .ok (.aload_n 0, 1) := by decide +kernel
theorem dX8_turned_40 : decode cX8_turned 40 = .ok (.getfield 71, 3) := by decide +kernel
theorem dX8_turned_43 : decode cX8_turned 43 = .ok (.getfield 390, 3) := by decide +kernel
theorem dX8_turned_46 : decode cX8_turned 46 = .ok (.iload_n 3, 1) := by decide +kernel
theorem dX8_turned_47 : decode cX8_turned 47 = .ok (.iaload, 1) := by decide +kernel
theorem dX8_turned_48 : decode cX8_turned 48 = .ok (.ireturn, 1) := by decide +kernel
theorem dX8_turnings_0 : decode cX8_turnings 0 = .ok (.aload_n 0, 1) := by decide +kernel
theorem dX8_turnings_1 : decode cX8_turnings 1 = .ok (.iload_n 1, 1) := by decide +kernel
theorem dX8_turnings_2 : decode cX8_turnings 2 = .ok (.iload_n 2, 1) := by decide +kernel
theorem dX8_turnings_3 : decode cX8_turnings 3 = .ok (.invokevirtual 381, 3) := by decide +kernel
theorem dX8_turnings_6 : decode cX8_turnings 6 = .ok (.istore_n 3, 1) := by decide +kernel
theorem dX8_turnings_7 : decode cX8_turnings 7 = .ok (.iload_n 3, 1) := by decide +kernel
theorem dX8_turnings_8 : decode cX8_turnings 8 = .ok (.ifCond .ne 13, 3) := by decide +kernel
theorem dX8_turnings_11 : decode cX8_turnings 11 = .ok (.aload_n 0, 1) := by decide +kernel
theorem dX8_turnings_12 : decode cX8_turnings 12 = .ok (.getfield 71, 3) := by decide +kernel
theorem dX8_turnings_15 : decode cX8_turnings 15 = .ok (.getfield 393, 3) := by decide +kernel
theorem dX8_turnings_18 : decode cX8_turnings 18 = .ok (.goto 4, 3) := by decide +kernel
theorem dX8_turnings_21 : decode cX8_turnings 21 = .ok (.iload_n 3, 1) := by decide +kernel
theorem dX8_turnings_22 : decode cX8_turnings 22 = .ok (.ireturn, 1) := by decide +kernel
theorem dX8_openTurning_0 : decode cX8_openTurning 0 = .ok (.iload_n 1, 1) := by decide +kernel
theorem dX8_openTurning_1 : decode cX8_openTurning 1 = .ok (.invokestatic 300, 3) := by decide +kernel
theorem dX8_openTurning_4 : decode cX8_openTurning 4 = .ok (.ifCond .eq 25, 3) := by decide +kernel
theorem dX8_openTurning_7 : decode cX8_openTurning 7 = .ok (.iload_n 2, 1) := by decide +kernel
theorem dX8_openTurning_8 : decode cX8_openTurning 8 = .ok (.i2l, 1) := by decide +kernel
theorem dX8_openTurning_9 : decode cX8_openTurning 9 = .ok (.lconst 0, 1) := by decide +kernel
theorem dX8_openTurning_10 : decode cX8_openTurning 10 = .ok (.ldc2_w 396, 3) := by decide +kernel
theorem dX8_openTurning_13 : decode cX8_openTurning 13 = .ok (.invokestatic 161, 3) := by decide +kernel
theorem dX8_openTurning_16 : decode cX8_openTurning 16 = .ok (.ifCond .ne 13, 3) := by decide +kernel
theorem dX8_openTurning_19 : decode cX8_openTurning 19 = .ok (.aload_n 0, 1) := by decide +kernel
theorem dX8_openTurning_20 : decode cX8_openTurning 20 = .ok (.getfield 22, 3) := by decide +kernel
theorem dX8_openTurning_23 : decode cX8_openTurning 23 = .ok (.invokevirtual 172, 3) := by decide +kernel
theorem dX8_openTurning_26 : decode cX8_openTurning 26 = .ok (.ifCond .ne 6, 3) := by decide +kernel
theorem dX8_openTurning_29 : decode cX8_openTurning 29 = .ok (.bipush (-2), 2) := by decide +kernel
theorem dX8_openTurning_31 : decode cX8_openTurning 31 = .ok (.ireturn, 1) := by decide +kernel
theorem dX8_openTurning_32 : decode cX8_openTurning 32 = .ok (.aload_n 0, 1) := by decide +kernel
theorem dX8_openTurning_33 : decode cX8_openTurning 33 = .ok (.getfield 36, 3) := by decide +kernel
theorem dX8_openTurning_36 : decode cX8_openTurning 36 = .ok (.iload_n 1, 1) := by decide +kernel
theorem dX8_openTurning_37 : decode cX8_openTurning 37 = .ok (.aaload, 1) := by decide +kernel
theorem dX8_openTurning_38 : decode cX8_openTurning 38 = .ok (.astore_n 3, 1) := by decide +kernel
theorem dX8_openTurning_39 : decode cX8_openTurning 39 = .ok (.aload_n 3, 1) := by decide +kernel
theorem dX8_openTurning_40 : decode cX8_openTurning 40 = .ok (.getfield 303, 3) := by decide +kernel
theorem dX8_openTurning_43 : decode cX8_openTurning 43 = .ok (.ifCond .ne 6, 3) := by decide +kernel
theorem dX8_openTurning_46 : decode cX8_openTurning 46 = .ok (.bipush (-6), 2) := by decide +kernel
theorem dX8_openTurning_48 : decode cX8_openTurning 48 = .ok (.ireturn, 1) := by decide +kernel
theorem dX8_openTurning_49 : decode cX8_openTurning 49 = .ok (.aload_n 3, 1) := by decide +kernel
theorem dX8_openTurning_50 : decode cX8_openTurning 50 = .ok (.getfield 374, 3) := by decide +kernel
theorem dX8_openTurning_53 : decode cX8_openTurning 53 = .ok (.iconst 2, 1) := by decide +kernel
theorem dX8_openTurning_54 : decode cX8_openTurning 54 = .ok (.irem, 1) := by decide +kernel
theorem dX8_openTurning_55 : decode cX8_openTurning 55 = .ok (.ifCond .ne 16, 3) := by decide +kernel
theorem dX8_openTurning_58 : decode cX8_openTurning 58 = .ok (.aload_n 3, 1) := by decide +kernel
theorem dX8_openTurning_59 : decode cX8_openTurning 59 = .ok (.iconst 0, 1) := by decide +kernel
theorem dX8_openTurning_60 : decode cX8_openTurning 60 = .ok (.iconst 1, 1) := by decide +kernel
theorem dX8_openTurning_61 : decode cX8_openTurning 61 = .ok (.lconst 0, 1) := by decide +kernel
theorem dX8_openTurning_62 : decode cX8_openTurning 62 = .ok (.ldc2_w 396, 3) := by decide +kernel
theorem dX8_openTurning_65 : decode cX8_openTurning 65 = .ok (.invokevirtual 351, 3) := by decide +kernel
theorem dX8_openTurning_68 : decode cX8_openTurning 68 = .ok (.ifCond .eq 6, 3) := by decide +kernel
theorem dX8_openTurning_71 : decode cX8_openTurning 71 = .ok (.bipush (-2), 2) := by decide +kernel
theorem dX8_openTurning_73 : decode cX8_openTurning 73 = .ok (.ireturn, 1) := by decide +kernel
theorem dX8_openTurning_74 : decode cX8_openTurning 74 = .ok (.aload_n 0, 1) := by decide +kernel
theorem dX8_openTurning_75 : decode cX8_openTurning 75 = .ok (.getfield 71, 3) := by decide +kernel
theorem dX8_openTurning_78 : decode cX8_openTurning 78 = .ok (.aload_n 3, 1) := by decide +kernel
theorem dX8_openTurning_79 : decode cX8_openTurning 79 = .ok (.aload_n 0, 1) := by decide +kernel
theorem dX8_openTurning_80 : decode cX8_openTurning 80 = .ok (.getfield 22, 3) := by decide +kernel
theorem dX8_openTurning_83 : decode cX8_openTurning 83 = .ok (.iload_n 2, 1) := by decide +kernel
theorem dX8_openTurning_84 : decode cX8_openTurning 84 = .ok (.invokevirtual 398, 3) := by decide +kernel
theorem dX8_openTurning_87 : decode cX8_openTurning 87 = .ok (.iconst 0, 1) := by decide +kernel
theorem dX8_openTurning_88 : decode cX8_openTurning 88 = .ok (.ireturn, 1) := by decide +kernel
theorem dX8_stream_0 : decode cX8_stream 0 = .ok (.iload 4, 2) := by decide +kernel
theorem dX8_stream_2 : decode cX8_stream 2 = .ok (.invokestatic 117, 3) := by decide +kernel
theorem dX8_stream_5 : decode cX8_stream 5 = .ok (.ifCond .eq 13, 3) := by decide +kernel
theorem dX8_stream_8 : decode cX8_stream 8 = .ok (.aload_n 0, 1) := by decide +kernel
theorem dX8_stream_9 : decode cX8_stream 9 = .ok (.iload_n 1, 1) := by decide +kernel
theorem dX8_stream_10 : decode cX8_stream 10 = .ok (.iload_n 2, 1) := by decide +kernel
theorem dX8_stream_11 : decode cX8_stream 11 = .ok (.iload_n 3, 1) := by decide +kernel
theorem dX8_stream_12 : decode cX8_stream 12 = .ok (.invokevirtual 402, 3) := by decide +kernel
theorem dX8_stream_15 : decode cX8_stream 15 = .ok (.goto 5, 3) := by decide +kernel
theorem dX8_stream_18 : decode cX8_stream 18 = .ok (.bipush (-2), 2) := by decide +kernel
theorem dX8_stream_20 : decode cX8_stream 20 = .ok (.istore 5, 2) := by decide +kernel
theorem dX8_stream_22 : decode cX8_stream 22 = .ok (.iload 5, 2) := by decide +kernel
theorem dX8_stream_24 : decode cX8_stream 24 = .ok (.ifCond .ne 15, 3) := by decide +kernel
theorem dX8_stream_27 : decode cX8_stream 27 = .ok (.aload_n 0, 1) := by decide +kernel
theorem dX8_stream_28 : decode cX8_stream 28 = .ok (.getfield 78, 3) := by decide +kernel
theorem dX8_stream_31 : decode cX8_stream 31 = .ok (.iload 4, 2) := by decide +kernel
theorem dX8_stream_33 : decode cX8_stream 33 = .ok (.invokevirtual 142, 3) := by decide +kernel
theorem dX8_stream_36 : decode cX8_stream 36 = .ok (.goto 6, 3) := by decide +kernel
theorem dX8_stream_39 : decode cX8_stream 39 = .ok (.iload 5, 2) := by decide +kernel
theorem dX8_stream_41 : decode cX8_stream 41 = .ok (.i2l, 1) := by decide +kernel
theorem dX8_stream_42 : decode cX8_stream 42 = .ok (.lreturn, 1) := by decide +kernel
theorem dX8_still_0 : decode cX8_still 0 = .ok (.iload 4, 2) := by decide +kernel
theorem dX8_still_2 : decode cX8_still 2 = .ok (.invokestatic 117, 3) := by decide +kernel
theorem dX8_still_5 : decode cX8_still 5 = .ok (.ifCond .eq 13, 3) := by decide +kernel
theorem dX8_still_8 : decode cX8_still 8 = .ok (.aload_n 0, 1) := by decide +kernel
theorem dX8_still_9 : decode cX8_still 9 = .ok (.iload_n 1, 1) := by decide +kernel
theorem dX8_still_10 : decode cX8_still 10 = .ok (.iload_n 2, 1) := by decide +kernel
theorem dX8_still_11 : decode cX8_still 11 = .ok (.iload_n 3, 1) := by decide +kernel
theorem dX8_still_12 : decode cX8_still 12 = .ok (.invokevirtual 402, 3) := by decide +kernel
theorem dX8_still_15 : decode cX8_still 15 = .ok (.goto 5, 3) := by decide +kernel
theorem dX8_still_18 : decode cX8_still 18 = .ok (.bipush (-2), 2) := by decide +kernel
theorem dX8_still_20 : decode cX8_still 20 = .ok (.istore 5, 2) := by decide +kernel
theorem dX8_still_22 : decode cX8_still 22 = .ok (.iload 5, 2) := by decide +kernel
theorem dX8_still_24 : decode cX8_still 24 = .ok (.ifCond .eq 7, 3) := by decide +kernel
theorem dX8_still_27 : decode cX8_still 27 = .ok (.iload 5, 2) := by decide +kernel
theorem dX8_still_29 : decode cX8_still 29 = .ok (.i2l, 1) := by decide +kernel
theorem dX8_still_30 : decode cX8_still 30 = .ok (.lreturn, 1) := by decide +kernel
theorem dX8_still_31 : decode cX8_still 31 = .ok (.aload_n 0, 1) := by decide +kernel
theorem dX8_still_32 : decode cX8_still 32 = .ok (.getfield 78, 3) := by decide +kernel
theorem dX8_still_35 : decode cX8_still 35 = .ok (.ldc2_w 405, 3) := by decide +kernel
theorem dX8_still_38 : decode cX8_still 38 = .ok (.iload_n 1, 1) := by decide +kernel
theorem dX8_still_39 : decode cX8_still 39 = .ok (.i2l, 1) := by decide +kernel
theorem dX8_still_40 : decode cX8_still 40 = .ok (.lmul, 1) := by decide +kernel
theorem dX8_still_41 : decode cX8_still 41 = .ok (.aload_n 0, 1) := by decide +kernel
theorem dX8_still_42 : decode cX8_still 42 = .ok (.getfield 78, 3) := by decide +kernel
theorem dX8_still_45 : decode cX8_still 45 = .ok (.getfield 156, 3) := by decide +kernel
theorem dX8_still_48 : decode cX8_still 48 = .ok (.lmul, 1) := by decide +kernel
theorem dX8_still_49 : decode cX8_still 49 = .ok (.aload_n 0, 1) := by decide +kernel
theorem dX8_still_50 : decode cX8_still 50 = .ok (.getfield 78, 3) := by decide +kernel
theorem dX8_still_53 : decode cX8_still 53 = .ok (.getfield 152, 3) := by decide +kernel
theorem dX8_still_56 : decode cX8_still 56 = .ok (.invokevirtual 148, 3) := by decide +kernel
theorem dX8_still_59 : decode cX8_still 59 = .ok (.aload_n 0, 1) := by decide +kernel
theorem dX8_still_60 : decode cX8_still 60 = .ok (.getfield 78, 3) := by decide +kernel
theorem dX8_still_63 : decode cX8_still 63 = .ok (.iload 4, 2) := by decide +kernel
theorem dX8_still_65 : decode cX8_still 65 = .ok (.invokevirtual 142, 3) := by decide +kernel
theorem dX8_still_68 : decode cX8_still 68 = .ok (.lreturn, 1) := by decide +kernel
theorem dX8_openStream_0 : decode cX8_openStream 0 = .ok (.iload_n 1, 1) := by decide +kernel
theorem dX8_openStream_1 : decode cX8_openStream 1 = .ok (.iload_n 2, 1) := by decide +kernel
theorem dX8_openStream_2 : decode cX8_openStream 2 = .ok (.iload_n 3, 1) := by decide +kernel
theorem dX8_openStream_3 : decode cX8_openStream 3 = .ok (.invokestatic 407, 3) := by decide +kernel
theorem dX8_openStream_6 : decode cX8_openStream 6 = .ok (.ifCond .eq 6, 3) := by decide +kernel
theorem dX8_openStream_9 : decode cX8_openStream 9 = .ok (.bipush (-2), 2) := by decide +kernel
theorem dX8_openStream_11 : decode cX8_openStream 11 = .ok (.ireturn, 1) := by decide +kernel
theorem dX8_openStream_12 : decode cX8_openStream 12 = .ok (.iload_n 2, 1) := by decide +kernel
theorem dX8_openStream_13 : decode cX8_openStream 13 = .ok (.iload_n 3, 1) := by decide +kernel
theorem dX8_openStream_14 : decode cX8_openStream 14 = .ok (.if_icmp .gt 5, 3) := by decide +kernel
theorem dX8_openStream_17 : decode cX8_openStream 17 = .ok (.iconst (-1), 1) := by decide +kernel
theorem dX8_openStream_18 : decode cX8_openStream 18 = .ok (.ireturn, 1) := by decide +kernel
theorem dX8_openStream_19 : decode cX8_openStream 19 = .ok (.aload_n 0, 1) := by decide +kernel
theorem dX8_openStream_20 : decode cX8_openStream 20 = .ok (.getfield 78, 3) := by decide +kernel
theorem dX8_openStream_23 : decode cX8_openStream 23 = .ok (.iload_n 1, 1) := by decide +kernel
theorem dX8_openStream_24 : decode cX8_openStream 24 = .ok (.i2l, 1) := by decide +kernel
theorem dX8_openStream_25 : decode cX8_openStream 25 = .ok (.iload_n 2, 1) := by decide +kernel
theorem dX8_openStream_26 : decode cX8_openStream 26 = .ok (.iload_n 3, 1) := by decide +kernel
theorem dX8_openStream_27 : decode cX8_openStream 27 = .ok (.iadd, 1) := by decide +kernel
theorem dX8_openStream_28 : decode cX8_openStream 28 = .ok (.i2l, 1) := by decide +kernel
theorem dX8_openStream_29 : decode cX8_openStream 29 = .ok (.invokevirtual 148, 3) := by decide +kernel
theorem dX8_openStream_32 : decode cX8_openStream 32 = .ok (.aload_n 0, 1) := by decide +kernel
theorem dX8_openStream_33 : decode cX8_openStream 33 = .ok (.getfield 78, 3) := by decide +kernel
theorem dX8_openStream_36 : decode cX8_openStream 36 = .ok (.iload_n 1, 1) := by decide +kernel
theorem dX8_openStream_37 : decode cX8_openStream 37 = .ok (.i2l, 1) := by decide +kernel
theorem dX8_openStream_38 : decode cX8_openStream 38 = .ok (.iload_n 2, 1) := by decide +kernel
theorem dX8_openStream_39 : decode cX8_openStream 39 = .ok (.iload_n 3, 1) := by decide +kernel
theorem dX8_openStream_40 : decode cX8_openStream 40 = .ok (.isub, 1) := by decide +kernel
theorem dX8_openStream_41 : decode cX8_openStream 41 = .ok (.i2l, 1) := by decide +kernel
theorem dX8_openStream_42 : decode cX8_openStream 42 = .ok (.invokevirtual 194, 3) := by decide +kernel
theorem dX8_openStream_45 : decode cX8_openStream 45 = .ok (.iconst 0, 1) := by decide +kernel
theorem dX8_openStream_46 : decode cX8_openStream 46 = .ok (.ireturn, 1) := by decide +kernel
theorem dX8_ant_0 : decode cX8_ant 0 = .ok (.iload_n 1, 1) := by decide +kernel
theorem dX8_ant_1 : decode cX8_ant 1 = .ok (.iload_n 2, 1) := by decide +kernel
