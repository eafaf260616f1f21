theorem dX9_stair_37 : decode cX9_stair 37 = .ok (.ldc2_w 207, 3) := by decide +kernel
theorem dX9_stair_40 : decode cX9_stair 40 = .ok (.invokevirtual 142, 3) := by decide +kernel
theorem dX9_stair_43 : decode cX9_stair 43 = .ok (.aload_n 0, 1) := by decide +kernel
theorem dX9_stair_44 : decode cX9_stair 44 = .ok (.iconst 0, 1) := by decide +kernel
theorem dX9_stair_45 : decode cX9_stair 45 = .ok (.aload_n 0, 1) := by decide +kernel
theorem dX9_stair_46 : decode cX9_stair 46 = .ok (.ldc2_w 209, 3) := by decide +kernel
theorem dX9_stair_49 : decode cX9_stair 49 = .ok (.iconst 0, 1) := by decide +kernel
theorem dX9_stair_50 : decode cX9_stair 50 = .ok (.bipush 100, 2) := by decide +kernel
theorem dX9_stair_52 : decode cX9_stair 52 = .ok (.invokevirtual 159, 3) := by decide +kernel
theorem dX9_stair_55 : decode cX9_stair 55 = .ok (.invokevirtual 166, 3) := by decide +kernel
theorem dX9_stair_58 : decode cX9_stair 58 = .ok (.goto 7, 3) := by decide +kernel
theorem dX9_stair_61 : decode cX9_stair 61 = .ok (.aload_n 0, 1) := by decide +kernel
theorem dX9_stair_62 : decode cX9_stair 62 = .ok (.invokevirtual 211, 3) := by decide +kernel
theorem dX9_stair_65 : decode cX9_stair 65 = .ok (.aload_n 0, 1) := by decide +kernel
theorem dX9_stair_66 : decode cX9_stair 66 = .ok (.invokevirtual 197, 3) := by decide +kernel
theorem dX9_stair_69 : decode cX9_stair 69 = .ok (.ifCond .eq 7, 3) := by decide +kernel
theorem dX9_stair_72 : decode cX9_stair 72 = .ok (.aload_n 0, 1) := by decide +kernel
theorem dX9_stair_73 : decode cX9_stair 73 = .ok (.invokevirtual 214, 3) := by decide +kernel
theorem dX9_stair_76 : decode cX9_stair 76 = .ok (.aload_n 0, 1) := by decide +kernel
theorem dX9_stair_77 : decode cX9_stair 77 = .ok (.getfield 31, 3) := by decide +kernel
theorem dX9_stair_80 : decode cX9_stair 80 = .ok (.iconst 4, 1) := by decide +kernel
theorem dX9_stair_81 : decode cX9_stair 81 = .ok (.dup2, 1) := by decide +kernel
theorem dX9_stair_82 : decode cX9_stair 82 = .ok (.iaload, 1) := by decide +kernel
theorem dX9_stair_83 : decode cX9_stair 83 = .ok (.iconst 1, 1) := by decide +kernel
theorem dX9_stair_84 : decode cX9_stair 84 = .ok (.iadd, 1) := by decide +kernel
theorem dX9_stair_85 : decode cX9_stair 85 = .ok (.iastore, 1) := by decide +kernel
theorem dX9_stair_86 : decode cX9_stair 86 = .ok (.goto (-73), 3) := by decide +kernel
theorem dX9_stair_89 : decode cX9_stair 89 = .ok (.aload_n 0, 1) := by decide +kernel
theorem dX9_stair_90 : decode cX9_stair 90 = .ok (.invokevirtual 217, 3) := by decide +kernel
theorem dX9_stair_93 : decode cX9_stair 93 = .ok (.aload_n 0, 1) := by decide +kernel
theorem dX9_stair_94 : decode cX9_stair 94 = .ok (.getfield 123, 3) := by decide +kernel
theorem dX9_stair_97 : decode cX9_stair 97 = .ok (.ifCond .eq 6, 3) := by decide +kernel
theorem dX9_stair_100 : decode cX9_stair 100 = .ok (.bipush (-4), 2) := by decide +kernel
theorem dX9_stair_102 : decode cX9_stair 102 = .ok (.ireturn, 1) := by decide +kernel
theorem dX9_stair_103 : decode cX9_stair 103 = .ok (.aload_n 0, 1) := by decide +kernel
theorem dX9_stair_104 : decode cX9_stair 104 = .ok (.iconst 4, 1) := by decide +kernel
theorem dX9_stair_105 : decode cX9_stair 105 = .ok (.iconst 0, 1) := by decide +kernel
theorem dX9_stair_106 : decode cX9_stair 106 = .ok (.invokevirtual 220, 3) := by decide +kernel
theorem dX9_stair_109 : decode cX9_stair 109 = .ok (.aload_n 0, 1) := by decide +kernel
theorem dX9_stair_110 : decode cX9_stair 110 = .ok (.getfield 31, 3) := by decide +kernel
theorem dX9_stair_113 : decode cX9_stair 113 = .ok (.iconst 0, 1) := by decide +kernel
theorem dX9_stair_114 : decode cX9_stair 114 = .ok (.iaload, 1) := by decide +kernel
theorem dX9_stair_115 : decode cX9_stair 115 = .ok (.ireturn, 1) := by decide +kernel
theorem dX9_copyRow_0 : decode cX9_copyRow 0 = .ok (.iconst 0, 1) := by decide +kernel
theorem dX9_copyRow_1 : decode cX9_copyRow 1 = .ok (.istore 4, 2) := by decide +kernel
theorem dX9_copyRow_3 : decode cX9_copyRow 3 = .ok (.iload 4, 2) := by decide +kernel
theorem dX9_copyRow_5 : decode cX9_copyRow 5 = .ok (.iload_n 1, 1) := by decide +kernel
theorem dX9_copyRow_6 : decode cX9_copyRow 6 = .ok (.if_icmp .ge 25, 3) := by decide +kernel
theorem dX9_copyRow_9 : decode cX9_copyRow 9 = .ok (.aload_n 0, 1) := by decide +kernel
theorem dX9_copyRow_10 : decode cX9_copyRow 10 = .ok (.iload_n 1, 1) := by decide +kernel
theorem dX9_copyRow_11 : decode cX9_copyRow 11 = .ok (.iload_n 3, 1) := by decide +kernel
theorem dX9_copyRow_12 : decode cX9_copyRow 12 = .ok (.imul, 1) := by decide +kernel
theorem dX9_copyRow_13 : decode cX9_copyRow 13 = .ok (.iload 4, 2) := by decide +kernel
theorem dX9_copyRow_15 : decode cX9_copyRow 15 = .ok (.iadd, 1) := by decide +kernel
theorem dX9_copyRow_16 : decode cX9_copyRow 16 = .ok (.aload_n 0, 1) := by decide +kernel
theorem dX9_copyRow_17 : decode cX9_copyRow 17 = .ok (.iload_n 1, 1) := by decide +kernel
theorem dX9_copyRow_18 : decode cX9_copyRow 18 = .ok (.iload_n 2, 1) := by decide +kernel
theorem dX9_copyRow_19 : decode cX9_copyRow 19 = .ok (.imul, 1) := by decide +kernel
theorem dX9_copyRow_20 : decode cX9_copyRow 20 = .ok (.iload 4, 2) := by decide +kernel
theorem dX9_copyRow_22 : decode cX9_copyRow 22 = .ok (.iadd, 1) := by decide +kernel
theorem dX9_copyRow_23 : decode cX9_copyRow 23 = .ok (.iaload, 1) := by decide +kernel
theorem dX9_copyRow_24 : decode cX9_copyRow 24 = .ok (.iastore, 1) := by decide +kernel
theorem dX9_copyRow_25 : decode cX9_copyRow 25 = .ok (.iinc 4 1, 3) := by decide +kernel
theorem dX9_copyRow_28 : decode cX9_copyRow 28 = .ok (.goto (-25), 3) := by decide +kernel
theorem dX9_copyRow_31 : decode cX9_copyRow 31 = .ok (.return_, 1) := by decide +kernel
theorem dX9_copyStair_0 : decode cX9_copyStair 0 = .ok (.aload_n 0, 1) := by decide +kernel
theorem dX9_copyStair_1 : decode cX9_copyStair 1 = .ok (.getfield 31, 3) := by decide +kernel
theorem dX9_copyStair_4 : decode cX9_copyStair 4 = .ok (.iconst 1, 1) := by decide +kernel
theorem dX9_copyStair_5 : decode cX9_copyStair 5 = .ok (.iload_n 1, 1) := by decide +kernel
theorem dX9_copyStair_6 : decode cX9_copyStair 6 = .ok (.iload_n 2, 1) := by decide +kernel
theorem dX9_copyStair_7 : decode cX9_copyStair 7 = .ok (.invokestatic 223, 3) := by decide +kernel
theorem dX9_copyStair_10 : decode cX9_copyStair 10 = .ok (.aload_n 0, 1) := by decide +kernel
theorem dX9_copyStair_11 : decode cX9_copyStair 11 = .ok (.getfield 34, 3) := by decide +kernel
theorem dX9_copyStair_14 : decode cX9_copyStair 14 = .ok (.bipush 9, 2) := by decide +kernel
theorem dX9_copyStair_16 : decode cX9_copyStair 16 = .ok (.iload_n 1, 1) := by decide +kernel
theorem dX9_copyStair_17 : decode cX9_copyStair 17 = .ok (.iload_n 2, 1) := by decide +kernel
theorem dX9_copyStair_18 : decode cX9_copyStair 18 = .ok (.invokestatic 223, 3) := by decide +kernel
theorem dX9_copyStair_21 : decode cX9_copyStair 21 = .ok (.aload_n 0, 1) := by decide +kernel
theorem dX9_copyStair_22 : decode cX9_copyStair 22 = .ok (.getfield 37, 3) := by decide +kernel
theorem dX9_copyStair_25 : decode cX9_copyStair 25 = .ok (.bipush 8, 2) := by decide +kernel
theorem dX9_copyStair_27 : decode cX9_copyStair 27 = .ok (.iload_n 1, 1) := by decide +kernel
theorem dX9_copyStair_28 : decode cX9_copyStair 28 = .ok (.iload_n 2, 1) := by decide +kernel
theorem dX9_copyStair_29 : decode cX9_copyStair 29 = .ok (.invokestatic 223, 3) := by decide +kernel
theorem dX9_copyStair_32 : decode cX9_copyStair 32 = .ok (.aload_n 0, 1) := by decide +kernel
theorem dX9_copyStair_33 : decode cX9_copyStair 33 = .ok (.getfield 40, 3) := by decide +kernel
theorem dX9_copyStair_36 : decode cX9_copyStair 36 = .ok (.bipush 8, 2) := by decide +kernel
theorem dX9_copyStair_38 : decode cX9_copyStair 38 = .ok (.iload_n 1, 1) := by decide +kernel
theorem dX9_copyStair_39 : decode cX9_copyStair 39 = .ok (.iload_n 2, 1) := by decide +kernel
theorem dX9_copyStair_40 : decode cX9_copyStair 40 = .ok (.invokestatic 223, 3) := by decide +kernel
theorem dX9_copyStair_43 : decode cX9_copyStair 43 = .ok (.aload_n 0, 1) := by decide +kernel
theorem dX9_copyStair_44 : decode cX9_copyStair 44 = .ok (.getfield 43, 3) := by decide +kernel
theorem dX9_copyStair_47 : decode cX9_copyStair 47 = .ok (.iconst 4, 1) := by decide +kernel
theorem dX9_copyStair_48 : decode cX9_copyStair 48 = .ok (.iload_n 1, 1) := by decide +kernel
theorem dX9_copyStair_49 : decode cX9_copyStair 49 = .ok (.iload_n 2, 1) := by decide +kernel
theorem dX9_copyStair_50 : decode cX9_copyStair 50 = .ok (.invokestatic 223, 3) := by decide +kernel
theorem dX9_copyStair_53 : decode cX9_copyStair 53 = .ok (.aload_n 0, 1) := by decide +kernel
theorem dX9_copyStair_54 : decode cX9_copyStair 54 = .ok (.getfield 46, 3) := by decide +kernel
theorem dX9_copyStair_57 : decode cX9_copyStair 57 = .ok (.bipush 120, 2) := by decide +kernel
theorem dX9_copyStair_59 : decode cX9_copyStair 59 = .ok (.iload_n 1, 1) := by decide +kernel
theorem dX9_copyStair_60 : decode cX9_copyStair 60 = .ok (.iload_n 2, 1) := by decide +kernel
theorem dX9_copyStair_61 : decode cX9_copyStair 61 = .ok (.invokestatic 223, 3) := by decide +kernel
theorem dX9_copyStair_64 : decode cX9_copyStair 64 = .ok (.return_, 1) := by decide +kernel
theorem dX9_isStair_0 : decode cX9_isStair 0 = .ok (.aload_n 0, 1) := by decide +kernel
theorem dX9_isStair_1 : decode cX9_isStair 1 = .ok (.getfield 31, 3) := by decide +kernel
theorem dX9_isStair_4 : decode cX9_isStair 4 = .ok (.iconst 0, 1) := by decide +kernel
theorem dX9_isStair_5 : decode cX9_isStair 5 = .ok (.iaload, 1) := by decide +kernel
theorem dX9_isStair_6 : decode cX9_isStair 6 = .ok (.ifCond .le 7, 3) := by decide +kernel
theorem dX9_isStair_9 : decode cX9_isStair 9 = .ok (.iconst 1, 1) := by decide +kernel
theorem dX9_isStair_10 : decode cX9_isStair 10 = .ok (.goto 4, 3) := by decide +kernel
theorem dX9_isStair_13 : decode cX9_isStair 13 = .ok (.iconst 0, 1) := by decide +kernel
theorem dX9_isStair_14 : decode cX9_isStair 14 = .ok (.ireturn, 1) := by decide +kernel
theorem dX9_isPart_0 : decode cX9_isPart 0 = .ok (.iload_n 1, 1) := by decide +kernel
theorem dX9_isPart_1 : decode cX9_isPart 1 = .ok (.i2l, 1) := by decide +kernel
theorem dX9_isPart_2 : decode cX9_isPart 2 = .ok (.lconst 0, 1) := by decide +kernel
theorem dX9_isPart_3 : decode cX9_isPart 3 = .ok (.aload_n 0, 1) := by decide +kernel
theorem dX9_isPart_4 : decode cX9_isPart 4 = .ok (.getfield 34, 3) := by decide +kernel
theorem dX9_isPart_7 : decode cX9_isPart 7 = .ok (.iconst 1, 1) := by decide +kernel
theorem dX9_isPart_8 : decode cX9_isPart 8 = .ok (.iaload, 1) := by decide +kernel
theorem dX9_isPart_9 : decode cX9_isPart 9 = .ok (.iconst 1, 1) := by decide +kernel
theorem dX9_isPart_10 : decode cX9_isPart 10 = .ok (.isub, 1) := by decide +kernel
theorem dX9_isPart_11 : decode cX9_isPart 11 = .ok (.i2l, 1) := by decide +kernel
theorem dX9_isPart_12 : decode cX9_isPart 12 = .ok (.invokestatic 76, 3) := by decide +kernel
theorem dX9_isPart_15 : decode cX9_isPart 15 = .ok (.ireturn, 1) := by decide +kernel
theorem dX9_isWalker_0 : decode cX9_isWalker 0 = .ok (.iload_n 1, 1) := by decide +kernel
theorem dX9_isWalker_1 : decode cX9_isWalker 1 = .ok (.i2l, 1) := by decide +kernel
theorem dX9_isWalker_2 : decode cX9_isWalker 2 = .ok (.lconst 0, 1) := by decide +kernel
theorem dX9_isWalker_3 : decode cX9_isWalker 3 = .ok (.aload_n 0, 1) := by decide +kernel
theorem dX9_isWalker_4 : decode cX9_isWalker 4 = .ok (.getfield 34, 3) := by decide +kernel
theorem dX9_isWalker_7 : decode cX9_isWalker 7 = .ok (.iconst 2, 1) := by decide +kernel
theorem dX9_isWalker_8 : decode cX9_isWalker 8 = .ok (.iaload, 1) := by decide +kernel
theorem dX9_isWalker_9 : decode cX9_isWalker 9 = .ok (.iconst 1, 1) := by decide +kernel
theorem dX9_isWalker_10 : decode cX9_isWalker 10 = .ok (.isub, 1) := by decide +kernel
theorem dX9_isWalker_11 : decode cX9_isWalker 11 = .ok (.i2l, 1) := by decide +kernel
theorem dX9_isWalker_12 : decode cX9_isWalker 12 = .ok (.invokestatic 76, 3) := by decide +kernel
theorem dX9_isWalker_15 : decode cX9_isWalker 15 = .ok (.ireturn, 1) := by decide +kernel
theorem dX9_isBit_0 : decode cX9_isBit 0 = .ok (.iload_n 0, 1) := by decide +kernel
theorem dX9_isBit_1 : decode cX9_isBit 1 = .ok (.iload_n 1, 1) := by decide +kernel
theorem dX9_isBit_2 : decode cX9_isBit 2 = .ok (.ishr, 1) := by decide +kernel
theorem dX9_isBit_3 : decode cX9_isBit 3 = .ok (.iconst 1, 1) := by decide +kernel
theorem dX9_isBit_4 : decode cX9_isBit 4 = .ok (.iand, 1) := by decide +kernel
theorem dX9_isBit_5 : decode cX9_isBit 5 = .ok (.iconst 1, 1) := by decide +kernel
theorem dX9_isBit_6 : decode cX9_isBit 6 = .ok (.if_icmp .ne 7, 3) := by decide +kernel
theorem dX9_isBit_9 : decode cX9_isBit 9 = .ok (.iconst 1, 1) := by decide +kernel
theorem dX9_isBit_10 : decode cX9_isBit 10 = .ok (.goto 4, 3) := by decide +kernel
theorem dX9_isBit_13 : decode cX9_isBit 13 = .ok (.iconst 0, 1) := by decide +kernel
theorem dX9_isBit_14 : decode cX9_isBit 14 = .ok (.ireturn, 1) := by decide +kernel
theorem dX9_isHalf_0 : decode cX9_isHalf 0 = .ok (.iload_n 0, 1) := by decide +kernel
theorem dX9_isHalf_1 : decode cX9_isHalf 1 = .ok (.i2l, 1) := by decide +kernel
theorem dX9_isHalf_2 : decode cX9_isHalf 2 = .ok (.lconst 0, 1) := by decide +kernel
theorem dX9_isHalf_3 : decode cX9_isHalf 3 = .ok (.lconst 1, 1) := by decide +kernel
theorem dX9_isHalf_4 : decode cX9_isHalf 4 = .ok (.invokestatic 76, 3) := by decide +kernel
theorem dX9_isHalf_7 : decode cX9_isHalf 7 = .ok (.ireturn, 1) := by decide +kernel
theorem dX9_sizeOf_0 : decode cX9_sizeOf 0 = .ok (.iconst 0, 1) := by decide +kernel
theorem dX9_sizeOf_1 : decode cX9_sizeOf 1 = .ok (.istore_n 1, 1) := by decide +kernel
theorem dX9_sizeOf_2 : decode cX9_sizeOf 2 = .ok (.iload_n 0, 1) := by decide +kernel
theorem dX9_sizeOf_3 : decode cX9_sizeOf 3 = .ok (.istore_n 2, 1) := by decide +kernel
theorem dX9_sizeOf_4 : decode cX9_sizeOf 4 = .ok (.iload_n 2, 1) := by decide +kernel
theorem dX9_sizeOf_5 : decode cX9_sizeOf 5 = .ok (.ifCond .eq 15, 3) := by decide +kernel
theorem dX9_sizeOf_8 : decode cX9_sizeOf 8 = .ok (.iinc 1 1, 3) := by decide +kernel
theorem dX9_sizeOf_11 : decode cX9_sizeOf 11 = .ok (.iload_n 2, 1) := by decide +kernel
theorem dX9_sizeOf_12 : decode cX9_sizeOf 12 = .ok (.iload_n 2, 1) := by decide +kernel
theorem dX9_sizeOf_13 : decode cX9_sizeOf 13 = .ok (.iconst 1, 1) := by decide +kernel
theorem dX9_sizeOf_14 : decode cX9_sizeOf 14 = .ok (.isub, 1) := by decide +kernel
theorem dX9_sizeOf_15 : decode cX9_sizeOf 15 = .ok (.iand, 1) := by decide +kernel
theorem dX9_sizeOf_16 : decode cX9_sizeOf 16 = .ok (.istore_n 2, 1) := by decide +kernel
theorem dX9_sizeOf_17 : decode cX9_sizeOf 17 = .ok (.goto (-13), 3) := by decide +kernel
theorem dX9_sizeOf_20 : decode cX9_sizeOf 20 = .ok (.iload_n 1, 1) := by decide +kernel
theorem dX9_sizeOf_21 : decode cX9_sizeOf 21 = .ok (.ireturn, 1) := by decide +kernel
theorem dX9_lays_0 : decode cX9_lays 0 = .ok (.iconst 0, 1) := by decide +kernel
theorem dX9_lays_1 : decode cX9_lays 1 = .ok (.istore_n 1, 1) := by decide +kernel
theorem dX9_lays_2 : decode cX9_lays 2 = .ok (.iload_n 1, 1) := by decide +kernel
theorem dX9_lays_3 : decode cX9_lays 3 = .ok (.aload_n 0, 1) := by decide +kernel
theorem dX9_lays_4 : decode cX9_lays 4 = .ok (.getfield 34, 3) := by decide +kernel
theorem dX9_lays_7 : decode cX9_lays 7 = .ok (.iconst 1, 1) := by decide +kernel
theorem dX9_lays_8 : decode cX9_lays 8 = .ok (.iaload, 1) := by decide +kernel
theorem dX9_lays_9 : decode cX9_lays 9 = .ok (.if_icmp .ge 25, 3) := by decide +kernel
theorem dX9_lays_12 : decode cX9_lays 12 = .ok (.aload_n 0, 1) := by decide +kernel
theorem dX9_lays_13 : decode cX9_lays 13 = .ok (.getfield 53, 3) := by decide +kernel
theorem dX9_lays_16 : decode cX9_lays 16 = .ok (.iload_n 1, 1) := by decide +kernel
theorem dX9_lays_17 : decode cX9_lays 17 = .ok (.aload_n 0, 1) := by decide +kernel
theorem dX9_lays_18 : decode cX9_lays 18 = .ok (.getfield 37, 3) := by decide +kernel
theorem dX9_lays_21 : decode cX9_lays 21 = .ok (.iconst 2, 1) := by decide +kernel
theorem dX9_lays_22 : decode cX9_lays 22 = .ok (.iload_n 1, 1) := by decide +kernel
theorem dX9_lays_23 : decode cX9_lays 23 = .ok (.imul, 1) := by decide +kernel
theorem dX9_lays_24 : decode cX9_lays 24 = .ok (.iconst 1, 1) := by decide +kernel
theorem dX9_lays_25 : decode cX9_lays 25 = .ok (.iadd, 1) := by decide +kernel
theorem dX9_lays_26 : decode cX9_lays 26 = .ok (.iaload, 1) := by decide +kernel
theorem dX9_lays_27 : decode cX9_lays 27 = .ok (.iastore, 1) := by decide +kernel
theorem dX9_lays_28 : decode cX9_lays 28 = .ok (.iinc 1 1, 3) := by decide +kernel
theorem dX9_lays_31 : decode cX9_lays 31 = .ok (.goto (-29), 3) := by decide +kernel
theorem dX9_lays_34 : decode cX9_lays 34 = .ok (.iconst 0, 1) := by decide +kernel
theorem dX9_lays_35 : decode cX9_lays 35 = .ok (.istore_n 1, 1) := by decide +kernel
theorem dX9_lays_36 : decode cX9_lays 36 = .ok (.iload_n 1, 1) := by decide +kernel
theorem dX9_lays_37 : decode cX9_lays 37 = .ok (.aload_n 0, 1) := by decide +kernel
theorem dX9_lays_38 : decode cX9_lays 38 = .ok (.getfield 34, 3) := by decide +kernel
theorem dX9_lays_41 : decode cX9_lays 41 = .ok (.bipush 8, 2) := by decide +kernel
theorem dX9_lays_43 : decode cX9_lays 43 = .ok (.iaload, 1) := by decide +kernel
theorem dX9_lays_44 : decode cX9_lays 44 = .ok (.if_icmp .ge 78, 3) := by decide +kernel
theorem dX9_lays_47 : decode cX9_lays 47 = .ok (.aload_n 0, 1) := by decide +kernel
theorem dX9_lays_48 : decode cX9_lays 48 = .ok (.getfield 46, 3) := by decide +kernel
theorem dX9_lays_51 : decode cX9_lays 51 = .ok (.iconst 2, 1) := by decide +kernel
theorem dX9_lays_52 : decode cX9_lays 52 = .ok (.iload_n 1, 1) := by decide +kernel
theorem dX9_lays_53 : decode cX9_lays 53 = .ok (.imul, 1) := by decide +kernel
theorem dX9_lays_54 : decode cX9_lays 54 = .ok (.iaload, 1) := by decide +kernel
theorem dX9_lays_55 : decode cX9_lays 55 = .ok (.iconst (-1), 1) := by decide +kernel
theorem dX9_lays_56 : decode cX9_lays 56 = .ok (.if_icmp .eq 29, 3) := by decide +kernel
theorem dX9_lays_59 : decode cX9_lays 59 = .ok (.aload_n 0, 1) := by decide +kernel
theorem dX9_lays_60 : decode cX9_lays 60 = .ok (.getfield 53, 3) := by decide +kernel
theorem dX9_lays_63 : decode cX9_lays 63 = .ok (.aload_n 0, 1) := by decide +kernel
theorem dX9_lays_64 : decode cX9_lays 64 = .ok (.getfield 46, 3) := by decide +kernel
theorem dX9_lays_67 : decode cX9_lays 67 = .ok (.iconst 2, 1) := by decide +kernel
theorem dX9_lays_68 : decode cX9_lays 68 = .ok (.iload_n 1, 1) := by decide +kernel
theorem dX9_lays_69 : decode cX9_lays 69 = .ok (.imul, 1) := by decide +kernel
theorem dX9_lays_70 : decode cX9_lays 70 = .ok (.iaload, 1) := by decide +kernel
theorem dX9_lays_71 : decode cX9_lays 71 = .ok (.aload_n 0, 1) := by decide +kernel
theorem dX9_lays_72 : decode cX9_lays 72 = .ok (.getfield 46, 3) := by decide +kernel
theorem dX9_lays_75 : decode cX9_lays 75 = .ok (.iconst 2, 1) := by decide +kernel
theorem dX9_lays_76 : decode cX9_lays 76 = .ok (.iload_n 1, 1) := by decide +kernel
theorem dX9_lays_77 : decode cX9_lays 77 = .ok (.imul, 1) := by decide +kernel
theorem dX9_lays_78 : decode cX9_lays 78 = .ok (.iconst 1, 1) := by decide +kernel
theorem dX9_lays_79 : decode cX9_lays 79 = .ok (.iadd, 1) := by decide +kernel
theorem dX9_lays_80 : decode cX9_lays 80 = .ok (.iaload, 1) := by decide +kernel
theorem dX9_lays_81 : decode cX9_lays 81 = .ok (.iastore, 1) := by decide +kernel
theorem dX9_lays_82 : decode cX9_lays 82 = .ok (.goto 34, 3) := by decide +kernel
theorem dX9_lays_85 : decode cX9_lays 85 = .ok (.iconst 0, 1) := by decide +kernel
theorem dX9_lays_86 : decode cX9_lays 86 = .ok (.istore_n 2, 1) := by decide +kernel
theorem dX9_lays_87 : decode cX9_lays 87 = .ok (.iload_n 2, 1) := by decide +kernel
theorem dX9_lays_88 : decode cX9_lays 88 = .ok (.aload_n 0, 1) := by decide +kernel
theorem dX9_lays_89 : decode cX9_lays 89 = .ok (.getfield 34, 3) := by decide +kernel
theorem dX9_lays_92 : decode cX9_lays 92 = .ok (.iconst 1, 1) := by decide +kernel
theorem dX9_lays_93 : decode cX9_lays 93 = .ok (.iaload, 1) := by decide +kernel
theorem dX9_lays_94 : decode cX9_lays 94 = .ok (.if_icmp .ge 22, 3) := by decide +kernel
theorem dX9_lays_97 : decode cX9_lays 97 = .ok (.aload_n 0, 1) := by decide +kernel
theorem dX9_lays_98 : decode cX9_lays 98 = .ok (.getfield 53, 3) := by decide +kernel
theorem dX9_lays_101 : decode cX9_lays 101 = .ok (.iload_n 2, 1) := by decide +kernel
theorem dX9_lays_102 : decode cX9_lays 102 = .ok (.aload_n 0, 1) := by decide +kernel
theorem dX9_lays_103 : decode cX9_lays 103 = .ok (.getfield 53, 3) := by decide +kernel
theorem dX9_lays_106 : decode cX9_lays 106 = .ok (.iload_n 2, 1) := by decide +kernel
theorem dX9_lays_107 : decode cX9_lays 107 = .ok (.iaload, 1) := by decide +kernel
theorem dX9_lays_108 : decode cX9_lays 108 = .ok (.ineg, 1) := by decide +kernel
theorem dX9_lays_109 : decode cX9_lays 109 = .ok (.iastore, 1) := by decide +kernel
theorem dX9_lays_110 : decode cX9_lays 110 = .ok (.iinc 2 1, 3) := by decide +kernel
theorem dX9_lays_113 : decode cX9_lays 113 = .ok (.goto (-26), 3) := by decide +kernel
theorem dX9_lays_116 : decode cX9_lays 116 = .ok (.iinc 1 1, 3) := by decide +kernel
theorem dX9_lays_119 : decode cX9_lays 119 = .ok (.goto (-83), 3) := by decide +kernel
theorem dX9_lays_122 : decode cX9_lays 122 = .ok (.return_, 1) := by decide +kernel
theorem dX9_stepsOf_0 : decode cX9_stepsOf 0 = .ok (.aload_n 0, 1) := by decide +kernel
theorem dX9_stepsOf_1 : decode cX9_stepsOf 1 = .ok (.getfield 37, 3) := by decide +kernel
theorem dX9_stepsOf_4 : decode cX9_stepsOf 4 = .ok (.iconst 2, 1) := by decide +kernel
theorem dX9_stepsOf_5 : decode cX9_stepsOf 5 = .ok (.iload_n 1, 1) := by decide +kernel
theorem dX9_stepsOf_6 : decode cX9_stepsOf 6 = .ok (.imul, 1) := by decide +kernel
theorem dX9_stepsOf_7 : decode cX9_stepsOf 7 = .ok (.iaload, 1) := by decide +kernel
theorem dX9_stepsOf_8 : decode cX9_stepsOf 8 = .ok (.ireturn, 1) := by decide +kernel
theorem dX9_part_0 : decode cX9_part 0 = .ok (.aload_n 0, 1) := by decide +kernel
theorem dX9_part_1 : decode cX9_part 1 = .ok (.iconst 0, 1) := by decide +kernel
theorem dX9_part_2 : decode cX9_part 2 = .ok (.putfield 71, 3) := by decide +kernel
theorem dX9_part_5 : decode cX9_part 5 = .ok (.aload_n 0, 1) := by decide +kernel
theorem dX9_part_6 : decode cX9_part 6 = .ok (.iload_n 1, 1) := by decide +kernel
theorem dX9_part_7 : decode cX9_part 7 = .ok (.invokevirtual 227, 3) := by decide +kernel
theorem dX9_part_10 : decode cX9_part 10 = .ok (.ifCond .eq 13, 3) := by decide +kernel
theorem dX9_part_13 : decode cX9_part 13 = .ok (.iload_n 2, 1) := by decide +kernel
theorem dX9_part_14 : decode cX9_part 14 = .ok (.i2l, 1) := by decide +kernel
theorem dX9_part_15 : decode cX9_part 15 = .ok (.lconst 0, 1) := by decide +kernel
theorem dX9_part_16 : decode cX9_part 16 = .ok (.lconst 1, 1) := by decide +kernel
theorem dX9_part_17 : decode cX9_part 17 = .ok (.invokestatic 76, 3) := by decide +kernel
theorem dX9_part_20 : decode cX9_part 20 = .ok (.ifCond .ne 7, 3) := by decide +kernel
theorem dX9_part_23 : decode cX9_part 23 = .ok (.sipush (-1000), 3) := by decide +kernel
theorem dX9_part_26 : decode cX9_part 26 = .ok (.ireturn, 1) := by decide +kernel
theorem dX9_part_27 : decode cX9_part 27 = .ok (.aload_n 0, 1) := by decide +kernel
theorem dX9_part_28 : decode cX9_part 28 = .ok (.invokevirtual 230, 3) := by decide +kernel
theorem dX9_part_31 : decode cX9_part 31 = .ok (.iload_n 2, 1) := by decide +kernel
theorem dX9_part_32 : decode cX9_part 32 = .ok (.ifCond .ne 11, 3) := by decide +kernel
theorem dX9_part_35 : decode cX9_part 35 = .ok (.aload_n 0, 1) := by decide +kernel
theorem dX9_part_36 : decode cX9_part 36 = .ok (.iload_n 1, 1) := by decide +kernel
theorem dX9_part_37 : decode cX9_part 37 = .ok (.invokevirtual 233, 3) := by decide +kernel
theorem dX9_part_40 : decode cX9_part 40 = .ok (.goto 9, 3) := by decide +kernel
theorem dX9_part_43 : decode cX9_part 43 = .ok (.aload_n 0, 1) := by decide +kernel
theorem dX9_part_44 : decode cX9_part 44 = .ok (.getfield 53, 3) := by decide +kernel
theorem dX9_part_47 : decode cX9_part 47 = .ok (.iload_n 1, 1) := by decide +kernel
theorem dX9_part_48 : decode cX9_part 48 = .ok (.iaload, 1) := by decide +kernel
theorem dX9_part_49 : decode cX9_part 49 = .ok (.ireturn, 1) := by decide +kernel
theorem dX9_walker_0 : decode cX9_walker 0 = .ok (.aload_n 0, 1) := by decide +kernel
theorem dX9_walker_1 : decode cX9_walker 1 = .ok (.iconst 0, 1) := by decide +kernel
theorem dX9_walker_2 : decode cX9_walker 2 = .ok (.putfield 71, 3) := by decide +kernel
theorem dX9_walker_5 : decode cX9_walker 5 = .ok (.aload_n 0, 1) := by decide +kernel
theorem dX9_walker_6 : decode cX9_walker 6 = .ok (.iload_n 1, 1) := by decide +kernel
theorem dX9_walker_7 : decode cX9_walker 7 = .ok (.invokevirtual 236, 3) := by decide +kernel
theorem dX9_walker_10 : decode cX9_walker 10 = .ok (.ifCond .eq 12, 3) := by decide +kernel
theorem dX9_walker_13 : decode cX9_walker 13 = .ok (.aload_n 0, 1) := by decide +kernel
theorem dX9_walker_14 : decode cX9_walker 14 = .ok (.getfield 40, 3) := by decide +kernel
theorem dX9_walker_17 : decode cX9_walker 17 = .ok (.iload_n 1, 1) := by decide +kernel
theorem dX9_walker_18 : decode cX9_walker 18 = .ok (.iaload, 1) := by decide +kernel
theorem dX9_walker_19 : decode cX9_walker 19 = .ok (.goto 5, 3) := by decide +kernel
theorem dX9_walker_22 : decode cX9_walker 22 = .ok (.bipush (-2), 2) := by decide +kernel
theorem dX9_walker_24 : decode cX9_walker 24 = .ok (.ireturn, 1) := by decide +kernel
theorem dX9_common_0 : decode cX9_common 0 = .ok (.lload_n 2, 1) := by decide +kernel
theorem dX9_common_1 : decode cX9_common 1 = .ok (.lconst 0, 1) := by decide +kernel
theorem dX9_common_2 : decode cX9_common 2 = .ok (.lcmp, 1) := by decide +kernel
theorem dX9_common_3 : decode cX9_common 3 = .ok (.ifCond .ne 18, 3) := by decide +kernel
theorem dX9_common_6 : decode cX9_common 6 = .ok (.lload_n 0, 1) := by decide +kernel
theorem dX9_common_7 : decode cX9_common 7 = .ok (.lconst 0, 1) := by decide +kernel
theorem dX9_common_8 : decode cX9_common 8 = .ok (.lcmp, 1) := by decide +kernel
theorem dX9_common_9 : decode cX9_common 9 = .ok (.ifCond .ge 8, 3) := by decide +kernel
theorem dX9_common_12 : decode cX9_common 12 = .ok (.lload_n 0, 1) := by decide +kernel
theorem dX9_common_13 : decode cX9_common 13 = .ok (.lneg, 1) := by decide +kernel
theorem dX9_common_14 : decode cX9_common 14 = .ok (.goto 14, 3) := by decide +kernel
theorem dX9_common_17 : decode cX9_common 17 = .ok (.lload_n 0, 1) := by decide +kernel
theorem dX9_common_18 : decode cX9_common 18 = .ok (.goto 10, 3) := by decide +kernel
theorem dX9_common_21 : decode cX9_common 21 = .ok (.lload_n 2, 1) := by decide +kernel
theorem dX9_common_22 : decode cX9_common 22 = .ok (.lload_n 0, 1) := by decide +kernel
theorem dX9_common_23 : decode cX9_common 23 = .ok (.lload_n 2, 1) := by decide +kernel
theorem dX9_common_24 : decode cX9_common 24 = .ok (.lrem, 1) := by decide +kernel
theorem dX9_common_25 : decode cX9_common 25 = .ok (.invokestatic 239, 3) := by decide +kernel
theorem dX9_common_28 : decode cX9_common 28 = .ok (.lreturn, 1) := by decide +kernel
theorem dX9_adds_0 : decode cX9_adds 0 = .ok (.aload_n 0, 1) := by decide +kernel
theorem dX9_adds_1 : decode cX9_adds 1 = .ok (.getfield 243, 3) := by decide +kernel
theorem dX9_adds_4 : decode cX9_adds 4 = .ok (.lload_n 3, 1) := by decide +kernel
theorem dX9_adds_5 : decode cX9_adds 5 = .ok (.invokestatic 239, 3) := by decide +kernel
theorem dX9_adds_8 : decode cX9_adds 8 = .ok (.lstore 5, 2) := by decide +kernel
theorem dX9_adds_10 : decode cX9_adds 10 = .ok (.aload_n 0, 1) := by decide +kernel
theorem dX9_adds_11 : decode cX9_adds 11 = .ok (.aload_n 0, 1) := by decide +kernel
theorem dX9_adds_12 : decode cX9_adds 12 = .ok (.getfield 246, 3) := by decide +kernel
theorem dX9_adds_15 : decode cX9_adds 15 = .ok (.lload_n 3, 1) := by decide +kernel
theorem dX9_adds_16 : decode cX9_adds 16 = .ok (.lload 5, 2) := by decide +kernel
theorem dX9_adds_18 : decode cX9_adds 18 = .ok (.ldiv, 1) := by decide +kernel
theorem dX9_adds_19 : decode cX9_adds 19 = .ok (.lmul, 1) := by decide +kernel
theorem dX9_adds_20 : decode cX9_adds 20 = .ok (.lload_n 1, 1) := by decide +kernel
theorem dX9_adds_21 : decode cX9_adds 21 = .ok (.aload_n 0, 1) := by decide +kernel
theorem dX9_adds_22 : decode cX9_adds 22 = .ok (.getfield 243, 3) := by decide +kernel
theorem dX9_adds_25 : decode cX9_adds 25 = .ok (.lload 5, 2) := by decide +kernel
theorem dX9_adds_27 : decode cX9_adds 27 = .ok (.ldiv, 1) := by decide +kernel
theorem dX9_adds_28 : decode cX9_adds 28 = .ok (.lmul, 1) := by decide +kernel
theorem dX9_adds_29 : decode cX9_adds 29 = .ok (.ladd, 1) := by decide +kernel
theorem dX9_adds_30 : decode cX9_adds 30 = .ok (.putfield 246, 3) := by decide +kernel
theorem dX9_adds_33 : decode cX9_adds 33 = .ok (.aload_n 0, 1) := by decide +kernel
theorem dX9_adds_34 : decode cX9_adds 34 = .ok (.aload_n 0, 1) := by decide +kernel
theorem dX9_adds_35 : decode cX9_adds 35 = .ok (.getfield 243, 3) := by decide +kernel
theorem dX9_adds_38 : decode cX9_adds 38 = .ok (.lload 5, 2) := by decide +kernel
theorem dX9_adds_40 : decode cX9_adds 40 = .ok (.ldiv, 1) := by decide +kernel
theorem dX9_adds_41 : decode cX9_adds 41 = .ok (.lload_n 3, 1) := by decide +kernel
theorem dX9_adds_42 : decode cX9_adds 42 = .ok (.lmul, 1) := by decide +kernel
theorem dX9_adds_43 : decode cX9_adds 43 = .ok (.putfield 243, 3) := by decide +kernel
theorem dX9_adds_46 : decode cX9_adds 46 = .ok (.aload_n 0, 1) := by decide +kernel
theorem dX9_adds_47 : decode cX9_adds 47 = .ok (.getfield 246, 3) := by decide +kernel
theorem dX9_adds_50 : decode cX9_adds 50 = .ok (.aload_n 0, 1) := by decide +kernel
theorem dX9_adds_51 : decode cX9_adds 51 = .ok (.getfield 243, 3) := by decide +kernel
theorem dX9_adds_54 : decode cX9_adds 54 = .ok (.invokestatic 239, 3) := by decide +kernel
theorem dX9_adds_57 : decode cX9_adds 57 = .ok (.lstore 5, 2) := by decide +kernel
theorem dX9_adds_59 : decode cX9_adds 59 = .ok (.lload 5, 2) := by decide +kernel
theorem dX9_adds_61 : decode cX9_adds 61 = .ok (.lconst 1, 1) := by decide +kernel
theorem dX9_adds_62 : decode cX9_adds 62 = .ok (.lcmp, 1) := by decide +kernel
theorem dX9_adds_63 : decode cX9_adds 63 = .ok (.ifCond .le 25, 3) := by decide +kernel
theorem dX9_adds_66 : decode cX9_adds 66 = .ok (.aload_n 0, 1) := by decide +kernel
theorem dX9_adds_67 : decode cX9_adds 67 = .ok (.dup, 1) := by decide +kernel
theorem dX9_adds_68 : decode cX9_adds 68 = .ok (.getfield 246, 3) := by decide +kernel
theorem dX9_adds_71 : decode cX9_adds 71 = .ok (.lload 5, 2) := by decide +kernel
theorem dX9_adds_73 : decode cX9_adds 73 = .ok (.ldiv, 1) := by decide +kernel
theorem dX9_adds_74 : decode cX9_adds 74 = .ok (.putfield 246, 3) := by decide +kernel
theorem dX9_adds_77 : decode cX9_adds 77 = .ok (.aload_n 0, 1) := by decide +kernel
theorem dX9_adds_78 : decode cX9_adds 78 = .ok (.dup, 1) := by decide +kernel
theorem dX9_adds_79 : decode cX9_adds 79 = .ok (.getfield 243, 3) := by decide +kernel
theorem dX9_adds_82 : decode cX9_adds 82 = .ok (.lload 5, 2) := by decide +kernel
theorem dX9_adds_84 : decode cX9_adds 84 = .ok (.ldiv, 1) := by decide +kernel
theorem dX9_adds_85 : decode cX9_adds 85 = .ok (.putfield 243, 3) := by decide +kernel
theorem dX9_adds_88 : decode cX9_adds 88 = .ok (.return_, 1) := by decide +kernel
theorem dX9_zero_0 : decode cX9_zero 0 = .ok (.aload_n 0, 1) := by decide +kernel
theorem dX9_zero_1 : decode cX9_zero 1 = .ok (.lconst 0, 1) := by decide +kernel
theorem dX9_zero_2 : decode cX9_zero 2 = .ok (.putfield 246, 3) := by decide +kernel
theorem dX9_zero_5 : decode cX9_zero 5 = .ok (.aload_n 0, 1) := by decide +kernel
theorem dX9_zero_6 : decode cX9_zero 6 = .ok (.lconst 1, 1) := by decide +kernel
theorem dX9_zero_7 : decode cX9_zero 7 = .ok (.putfield 243, 3) := by decide +kernel
theorem dX9_zero_10 : decode cX9_zero 10 = .ok (.return_, 1) := by decide +kernel
theorem dX9_half_0 : decode cX9_half 0 = .ok (.iload_n 1, 1) := by decide +kernel
theorem dX9_half_1 : decode cX9_half 1 = .ok (.ifCond .ne 10, 3) := by decide +kernel
theorem dX9_half_4 : decode cX9_half 4 = .ok (.aload_n 0, 1) := by decide +kernel
theorem dX9_half_5 : decode cX9_half 5 = .ok (.getfield 246, 3) := by decide +kernel
theorem dX9_half_8 : decode cX9_half 8 = .ok (.goto 7, 3) := by decide +kernel
theorem dX9_half_11 : decode cX9_half 11 = .ok (.aload_n 0, 1) := by decide +kernel
theorem dX9_half_12 : decode cX9_half 12 = .ok (.getfield 243, 3) := by decide +kernel
theorem dX9_half_15 : decode cX9_half 15 = .ok (.lreturn, 1) := by decide +kernel
theorem dX9_isLess_0 : decode cX9_isLess 0 = .ok (.lload_n 0, 1) := by decide +kernel
theorem dX9_isLess_1 : decode cX9_isLess 1 = .ok (.lload_n 2, 1) := by decide +kernel
theorem dX9_isLess_2 : decode cX9_isLess 2 = .ok (.ldiv, 1) := by decide +kernel
theorem dX9_isLess_3 : decode cX9_isLess 3 = .ok (.lstore 8, 2) := by decide +kernel
theorem dX9_isLess_5 : decode cX9_isLess 5 = .ok (.lload 4, 2) := by decide +kernel
theorem dX9_isLess_7 : decode cX9_isLess 7 = .ok (.lload 6, 2) := by decide +kernel
theorem dX9_isLess_9 : decode cX9_isLess 9 = .ok (.ldiv, 1) := by decide +kernel
theorem dX9_isLess_10 : decode cX9_isLess 10 = .ok (.lstore 10, 2) := by decide +kernel
theorem dX9_isLess_12 : decode cX9_isLess 12 = .ok (.lload 8, 2) := by decide +kernel
theorem dX9_isLess_14 : decode cX9_isLess 14 = .ok (.lload 10, 2) := by decide +kernel
theorem dX9_isLess_16 : decode cX9_isLess 16 = .ok (.lcmp, 1) := by decide +kernel
theorem dX9_isLess_17 : decode cX9_isLess 17 = .ok (.ifCond .eq 17, 3) := by decide +kernel
theorem dX9_isLess_20 : decode cX9_isLess 20 = .ok (.lload 8, 2) := by decide +kernel
theorem dX9_isLess_22 : decode cX9_isLess 22 = .ok (.lload 10, 2) := by decide +kernel
theorem dX9_isLess_24 : decode cX9_isLess 24 = .ok (.lcmp, 1) := by decide +kernel
theorem dX9_isLess_25 : decode cX9_isLess 25 = .ok (.ifCond .ge 7, 3) := by decide +kernel
theorem dX9_isLess_28 : decode cX9_isLess 28 = .ok (.iconst 1, 1) := by decide +kernel
theorem dX9_isLess_29 : decode cX9_isLess 29 = .ok (.goto 4, 3) := by decide +kernel
theorem dX9_isLess_32 : decode cX9_isLess 32 = .ok (.iconst 0, 1) := by decide +kernel
theorem dX9_isLess_33 : decode cX9_isLess 33 = .ok (.ireturn, 1) := by decide +kernel
theorem dX9_isLess_34 : decode cX9_isLess 34 = .ok (.lload 4, 2) := by decide +kernel
theorem dX9_isLess_36 : decode cX9_isLess 36 = .ok (.lload 6, 2) := by decide +kernel
theorem dX9_isLess_38 : decode cX9_isLess 38 = .ok (.lrem, 1) := by decide +kernel
theorem dX9_isLess_39 : decode cX9_isLess 39 = .ok (.lconst 0, 1) := by decide +kernel
theorem dX9_isLess_40 : decode cX9_isLess 40 = .ok (.lcmp, 1) := by decide +kernel
theorem dX9_isLess_41 : decode cX9_isLess 41 = .ok (.ifCond .ne 5, 3) := by decide +kernel
theorem dX9_isLess_44 : decode cX9_isLess 44 = .ok (.iconst 0, 1) := by decide +kernel
theorem dX9_isLess_45 : decode cX9_isLess 45 = .ok (.ireturn, 1) := by decide +kernel
theorem dX9_isLess_46 : decode cX9_isLess 46 = .ok (.lload_n 0, 1) := by decide +kernel
theorem dX9_isLess_47 : decode cX9_isLess 47 = .ok (.lload_n 2, 1) := by decide +kernel
theorem dX9_isLess_48 : decode cX9_isLess 48 = .ok (.lrem, 1) := by decide +kernel
theorem dX9_isLess_49 : decode cX9_isLess 49 = .ok (.lconst 0, 1) := by decide +kernel
theorem dX9_isLess_50 : decode cX9_isLess 50 = .ok (.lcmp, 1) := by decide +kernel
theorem dX9_isLess_51 : decode cX9_isLess 51 = .ok (.ifCond .eq 20, 3) := by decide +kernel
theorem dX9_isLess_54 : decode cX9_isLess 54 = .ok (.lload 6, 2) := by decide +kernel
theorem dX9_isLess_56 : decode cX9_isLess 56 = .ok (.lload 4, 2) := by decide +kernel
theorem dX9_isLess_58 : decode cX9_isLess 58 = .ok (.lload 6, 2) := by decide +kernel
theorem dX9_isLess_60 : decode cX9_isLess 60 = .ok (.lrem, 1) := by decide +kernel
theorem dX9_isLess_61 : decode cX9_isLess 61 = .ok (.lload_n 2, 1) := by decide +kernel
theorem dX9_isLess_62 : decode cX9_isLess 62 = .ok (.lload_n 0, 1) := by decide +kernel
theorem dX9_isLess_63 : decode cX9_isLess 63 = .ok (.lload_n 2, 1) := by decide +kernel
theorem dX9_isLess_64 : decode cX9_isLess 64 = .ok (.lrem, 1) := by decide +kernel
theorem dX9_isLess_65 : decode cX9_isLess 65 = .ok (.invokestatic 249, 3) := by decide +kernel
theorem dX9_isLess_68 : decode cX9_isLess 68 = .ok (.ifCond .eq 7, 3) := by decide +kernel
theorem dX9_isLess_71 : decode cX9_isLess 71 = .ok (.iconst 1, 1) := by decide +kernel
theorem dX9_isLess_72 : decode cX9_isLess 72 = .ok (.goto 4, 3) := by decide +kernel
theorem dX9_isLess_75 : decode cX9_isLess 75 = .ok (.iconst 0, 1) := by decide +kernel
theorem dX9_isLess_76 : decode cX9_isLess 76 = .ok (.ireturn, 1) := by decide +kernel
theorem dX9_goes_0 : decode cX9_goes 0 = .ok (.aload_n 0, 1) := by decide +kernel
theorem dX9_goes_1 : decode cX9_goes 1 = .ok (.invokevirtual 253, 3) := by decide +kernel
theorem dX9_goes_4 : decode cX9_goes 4 = .ok (.iconst 0, 1) := by decide +kernel
theorem dX9_goes_5 : decode cX9_goes 5 = .ok (.istore_n 3, 1) := by decide +kernel
theorem dX9_goes_6 : decode cX9_goes 6 = .ok (.iload_n 3, 1) := by decide +kernel
theorem dX9_goes_7 : decode cX9_goes 7 = .ok (.aload_n 0, 1) := by decide +kernel
theorem dX9_goes_8 : decode cX9_goes 8 = .ok (.getfield 34, 3) := by decide +kernel
theorem dX9_goes_11 : decode cX9_goes 11 = .ok (.iconst 1, 1) := by decide +kernel
theorem dX9_goes_12 : decode cX9_goes 12 = .ok (.iaload, 1) := by decide +kernel
theorem dX9_goes_13 : decode cX9_goes 13 = .ok (.if_icmp .ge 41, 3) := by decide +kernel
theorem dX9_goes_16 : decode cX9_goes 16 = .ok (.iload_n 1, 1) := by decide +kernel
theorem dX9_goes_17 : decode cX9_goes 17 = .ok (.iload_n 2, 1) := by decide +kernel
theorem dX9_goes_18 : decode cX9_goes 18 = .ok (.aload_n 0, 1) := by decide +kernel
theorem dX9_goes_19 : decode cX9_goes 19 = .ok (.getfield 53, 3) := by decide +kernel
theorem dX9_goes_22 : decode cX9_goes 22 = .ok (.iload_n 3, 1) := by decide +kernel
theorem dX9_goes_23 : decode cX9_goes 23 = .ok (.iaload, 1) := by decide +kernel
theorem dX9_goes_24 : decode cX9_goes 24 = .ok (.imul, 1) := by decide +kernel
theorem dX9_goes_25 : decode cX9_goes 25 = .ok (.iadd, 1) := by decide +kernel
theorem dX9_goes_26 : decode cX9_goes 26 = .ok (.istore 4, 2) := by decide +kernel
theorem dX9_goes_28 : decode cX9_goes 28 = .ok (.iload 4, 2) := by decide +kernel
theorem dX9_goes_30 : decode cX9_goes 30 = .ok (.ifCond .gt 5, 3) := by decide +kernel
theorem dX9_goes_33 : decode cX9_goes 33 = .ok (.iconst 0, 1) := by decide +kernel
theorem dX9_goes_34 : decode cX9_goes 34 = .ok (.ireturn, 1) := by decide +kernel
theorem dX9_goes_35 : decode cX9_goes 35 = .ok (.aload_n 0, 1) := by decide +kernel
theorem dX9_goes_36 : decode cX9_goes 36 = .ok (.aload_n 0, 1) := by decide +kernel
theorem dX9_goes_37 : decode cX9_goes 37 = .ok (.iload_n 3, 1) := by decide +kernel
theorem dX9_goes_38 : decode cX9_goes 38 = .ok (.invokevirtual 233, 3) := by decide +kernel
theorem dX9_goes_41 : decode cX9_goes 41 = .ok (.i2l, 1) := by decide +kernel
theorem dX9_goes_42 : decode cX9_goes 42 = .ok (.iload 4, 2) := by decide +kernel
theorem dX9_goes_44 : decode cX9_goes 44 = .ok (.i2l, 1) := by decide +kernel
theorem dX9_goes_45 : decode cX9_goes 45 = .ok (.invokevirtual 256, 3) := by decide +kernel
theorem dX9_goes_48 : decode cX9_goes 48 = .ok (.iinc 3 1, 3) := by decide +kernel
theorem dX9_goes_51 : decode cX9_goes 51 = .ok (.goto (-45), 3) := by decide +kernel
theorem dX9_goes_54 : decode cX9_goes 54 = .ok (.iconst 1, 1) := by decide +kernel
theorem dX9_goes_55 : decode cX9_goes 55 = .ok (.ireturn, 1) := by decide +kernel
theorem dX9_isWay_0 : decode cX9_isWay 0 = .ok (.aload_n 0, 1) := by decide +kernel
theorem dX9_isWay_1 : decode cX9_isWay 1 = .ok (.iload_n 1, 1) := by decide +kernel
theorem dX9_isWay_2 : decode cX9_isWay 2 = .ok (.invokevirtual 236, 3) := by decide +kernel
theorem dX9_isWay_5 : decode cX9_isWay 5 = .ok (.ifCond .eq 10, 3) := by decide +kernel
theorem dX9_isWay_8 : decode cX9_isWay 8 = .ok (.iload_n 2, 1) := by decide +kernel
theorem dX9_isWay_9 : decode cX9_isWay 9 = .ok (.invokestatic 260, 3) := by decide +kernel
theorem dX9_isWay_12 : decode cX9_isWay 12 = .ok (.ifCond .ne 5, 3) := by decide +kernel
theorem dX9_isWay_15 : decode cX9_isWay 15 = .ok (.iconst 0, 1) := by decide +kernel
theorem dX9_isWay_16 : decode cX9_isWay 16 = .ok (.ireturn, 1) := by decide +kernel
theorem dX9_isWay_17 : decode cX9_isWay 17 = .ok (.aload_n 0, 1) := by decide +kernel
theorem dX9_isWay_18 : decode cX9_isWay 18 = .ok (.invokevirtual 230, 3) := by decide +kernel
theorem dX9_isWay_21 : decode cX9_isWay 21 = .ok (.iconst 1, 1) := by decide +kernel
theorem dX9_isWay_22 : decode cX9_isWay 22 = .ok (.ireturn, 1) := by decide +kernel
theorem dX9_time_0 : decode cX9_time 0 = .ok (.aload_n 0, 1) := by decide +kernel
theorem dX9_time_1 : decode cX9_time 1 = .ok (.iconst 0, 1) := by decide +kernel
theorem dX9_time_2 : decode cX9_time 2 = .ok (.putfield 71, 3) := by decide +kernel
theorem dX9_time_5 : decode cX9_time 5 = .ok (.aload_n 0, 1) := by decide +kernel
theorem dX9_time_6 : decode cX9_time 6 = .ok (.iload_n 1, 1) := by decide +kernel
theorem dX9_time_7 : decode cX9_time 7 = .ok (.iload_n 2, 1) := by decide +kernel
theorem dX9_time_8 : decode cX9_time 8 = .ok (.invokevirtual 263, 3) := by decide +kernel
theorem dX9_time_11 : decode cX9_time 11 = .ok (.ifCond .ne 9, 3) := by decide +kernel
theorem dX9_time_14 : decode cX9_time 14 = .ok (.ldc2_w 267, 3) := by decide +kernel
theorem dX9_time_17 : decode cX9_time 17 = .ok (.goto 28, 3) := by decide +kernel
theorem dX9_time_20 : decode cX9_time 20 = .ok (.aload_n 0, 1) := by decide +kernel
theorem dX9_time_21 : decode cX9_time 21 = .ok (.aload_n 0, 1) := by decide +kernel
theorem dX9_time_22 : decode cX9_time 22 = .ok (.getfield 40, 3) := by decide +kernel
theorem dX9_time_25 : decode cX9_time 25 = .ok (.iload_n 1, 1) := by decide +kernel
theorem dX9_time_26 : decode cX9_time 26 = .ok (.iaload, 1) := by decide +kernel
theorem dX9_time_27 : decode cX9_time 27 = .ok (.iconst 1, 1) := by decide +kernel
theorem dX9_time_28 : decode cX9_time 28 = .ok (.invokevirtual 269, 3) := by decide +kernel
theorem dX9_time_31 : decode cX9_time 31 = .ok (.ifCond .eq 11, 3) := by decide +kernel
theorem dX9_time_34 : decode cX9_time 34 = .ok (.aload_n 0, 1) := by decide +kernel
theorem dX9_time_35 : decode cX9_time 35 = .ok (.iload_n 2, 1) := by decide +kernel
theorem dX9_time_36 : decode cX9_time 36 = .ok (.invokevirtual 272, 3) := by decide +kernel
theorem dX9_time_39 : decode cX9_time 39 = .ok (.goto 6, 3) := by decide +kernel
theorem dX9_time_42 : decode cX9_time 42 = .ok (.ldc2_w 115, 3) := by decide +kernel
theorem dX9_time_45 : decode cX9_time 45 = .ok (.lreturn, 1) := by decide +kernel
theorem dX9_spends_0 : decode cX9_spends 0 = .ok (.aload_n 0, 1) := by decide +kernel
theorem dX9_spends_1 : decode cX9_spends 1 = .ok (.iconst 0, 1) := by decide +kernel
theorem dX9_spends_2 : decode cX9_spends 2 = .ok (.putfield 71, 3) := by decide +kernel
theorem dX9_spends_5 : decode cX9_spends 5 = .ok (.aload_n 0, 1) := by decide +kernel
theorem dX9_spends_6 : decode cX9_spends 6 = .ok (.iload_n 1, 1) := by decide +kernel
theorem dX9_spends_7 : decode cX9_spends 7 = .ok (.iload_n 3, 1) := by decide +kernel
theorem dX9_spends_8 : decode cX9_spends 8 = .ok (.invokevirtual 263, 3) := by decide +kernel
theorem dX9_spends_11 : decode cX9_spends 11 = .ok (.ifCond .eq 11, 3) := by decide +kernel
theorem dX9_spends_14 : decode cX9_spends 14 = .ok (.aload_n 0, 1) := by decide +kernel
theorem dX9_spends_15 : decode cX9_spends 15 = .ok (.iload_n 2, 1) := by decide +kernel
theorem dX9_spends_16 : decode cX9_spends 16 = .ok (.invokevirtual 227, 3) := by decide +kernel
theorem dX9_spends_19 : decode cX9_spends 19 = .ok (.ifCond .ne 7, 3) := by decide +kernel
theorem dX9_spends_22 : decode cX9_spends 22 = .ok (.ldc2_w 267, 3) := by decide +kernel
theorem dX9_spends_25 : decode cX9_spends 25 = .ok (.lreturn, 1) := by decide +kernel
theorem dX9_spends_26 : decode cX9_spends 26 = .ok (.aload_n 0, 1) := by decide +kernel
theorem dX9_spends_27 : decode cX9_spends 27 = .ok (.getfield 40, 3) := by decide +kernel
theorem dX9_spends_30 : decode cX9_spends 30 = .ok (.iload_n 1, 1) := by decide +kernel
theorem dX9_spends_31 : decode cX9_spends 31 = .ok (.iaload, 1) := by decide +kernel
theorem dX9_spends_32 : decode cX9_spends 32 = .ok (.aload_n 0, 1) := by decide +kernel
theorem dX9_spends_33 : decode cX9_spends 33 = .ok (.getfield 53, 3) := by decide +kernel
theorem dX9_spends_36 : decode cX9_spends 36 = .ok (.iload_n 2, 1) := by decide +kernel
theorem dX9_spends_37 : decode cX9_spends 37 = .ok (.iaload, 1) := by decide +kernel
theorem dX9_spends_38 : decode cX9_spends 38 = .ok (.iadd, 1) := by decide +kernel
theorem dX9_spends_39 : decode cX9_spends 39 = .ok (.istore 4, 2) := by decide +kernel
theorem dX9_spends_41 : decode cX9_spends 41 = .ok (.iload 4, 2) := by decide +kernel
theorem dX9_spends_43 : decode cX9_spends 43 = .ok (.ifCond .gt 7, 3) := by decide +kernel
theorem dX9_spends_46 : decode cX9_spends 46 = .ok (.ldc2_w 115, 3) := by decide +kernel
theorem dX9_spends_49 : decode cX9_spends 49 = .ok (.lreturn, 1) := by decide +kernel
theorem dX9_spends_50 : decode cX9_spends 50 = .ok (.aload_n 0, 1) := by decide +kernel
theorem dX9_spends_51 : decode cX9_spends 51 = .ok (.invokevirtual 253, 3) := by decide +kernel
theorem dX9_spends_54 : decode cX9_spends 54 = .ok (.aload_n 0, 1) := by decide +kernel
theorem dX9_spends_55 : decode cX9_spends 55 = .ok (.aload_n 0, 1) := by decide +kernel
theorem dX9_spends_56 : decode cX9_spends 56 = .ok (.iload_n 2, 1) := by decide +kernel
theorem dX9_spends_57 : decode cX9_spends 57 = .ok (.invokevirtual 233, 3) := by decide +kernel
theorem dX9_spends_60 : decode cX9_spends 60 = .ok (.i2l, 1) := by decide +kernel
theorem dX9_spends_61 : decode cX9_spends 61 = .ok (.iload 4, 2) := by decide +kernel
theorem dX9_spends_63 : decode cX9_spends 63 = .ok (.i2l, 1) := by decide +kernel
theorem dX9_spends_64 : decode cX9_spends 64 = .ok (.invokevirtual 256, 3) := by decide +kernel
theorem dX9_spends_67 : decode cX9_spends 67 = .ok (.aload_n 0, 1) := by decide +kernel
theorem dX9_spends_68 : decode cX9_spends 68 = .ok (.iload_n 3, 1) := by decide +kernel
theorem dX9_spends_69 : decode cX9_spends 69 = .ok (.invokevirtual 272, 3) := by decide +kernel
theorem dX9_spends_72 : decode cX9_spends 72 = .ok (.lreturn, 1) := by decide +kernel
theorem dX9_steps_0 : decode cX9_steps 0 = .ok (.aload_n 0, 1) := by decide +kernel
theorem dX9_steps_1 : decode cX9_steps 1 = .ok (.iconst 0, 1) := by decide +kernel
theorem dX9_steps_2 : decode cX9_steps 2 = .ok (.putfield 71, 3) := by decide +kernel
theorem dX9_steps_5 : decode cX9_steps 5 = .ok (.aload_n 0, 1) := by decide +kernel
theorem dX9_steps_6 : decode cX9_steps 6 = .ok (.iload_n 1, 1) := by decide +kernel
theorem dX9_steps_7 : decode cX9_steps 7 = .ok (.iload_n 2, 1) := by decide +kernel
theorem dX9_steps_8 : decode cX9_steps 8 = .ok (.invokevirtual 263, 3) := by decide +kernel
theorem dX9_steps_11 : decode cX9_steps 11 = .ok (.ifCond .ne 7, 3) := by decide +kernel
theorem dX9_steps_14 : decode cX9_steps 14 = .ok (.ldc2_w 267, 3) := by decide +kernel
theorem dX9_steps_17 : decode cX9_steps 17 = .ok (.lreturn, 1) := by decide +kernel
theorem dX9_steps_18 : decode cX9_steps 18 = .ok (.aload_n 0, 1) := by decide +kernel
theorem dX9_steps_19 : decode cX9_steps 19 = .ok (.aload_n 0, 1) := by decide +kernel
theorem dX9_steps_20 : decode cX9_steps 20 = .ok (.getfield 40, 3) := by decide +kernel
theorem dX9_steps_23 : decode cX9_steps 23 = .ok (.iload_n 1, 1) := by decide +kernel
theorem dX9_steps_24 : decode cX9_steps 24 = .ok (.iaload, 1) := by decide +kernel
theorem dX9_steps_25 : decode cX9_steps 25 = .ok (.iconst 1, 1) := by decide +kernel
theorem dX9_steps_26 : decode cX9_steps 26 = .ok (.invokevirtual 269, 3) := by decide +kernel
theorem dX9_steps_29 : decode cX9_steps 29 = .ok (.ifCond .ne 7, 3) := by decide +kernel
theorem dX9_steps_32 : decode cX9_steps 32 = .ok (.ldc2_w 115, 3) := by decide +kernel
theorem dX9_steps_35 : decode cX9_steps 35 = .ok (.lreturn, 1) := by decide +kernel
theorem dX9_steps_36 : decode cX9_steps 36 = .ok (.aload_n 0, 1) := by decide +kernel
theorem dX9_steps_37 : decode cX9_steps 37 = .ok (.invokevirtual 253, 3) := by decide +kernel
theorem dX9_steps_40 : decode cX9_steps 40 = .ok (.iconst 0, 1) := by decide +kernel
theorem dX9_steps_41 : decode cX9_steps 41 = .ok (.istore_n 3, 1) := by decide +kernel
theorem dX9_steps_42 : decode cX9_steps 42 = .ok (.iload_n 3, 1) := by decide +kernel
theorem dX9_steps_43 : decode cX9_steps 43 = .ok (.aload_n 0, 1) := by decide +kernel
theorem dX9_steps_44 : decode cX9_steps 44 = .ok (.getfield 34, 3) := by decide +kernel
theorem dX9_steps_47 : decode cX9_steps 47 = .ok (.iconst 1, 1) := by decide +kernel
theorem dX9_steps_48 : decode cX9_steps 48 = .ok (.iaload, 1) := by decide +kernel
theorem dX9_steps_49 : decode cX9_steps 49 = .ok (.if_icmp .ge 41, 3) := by decide +kernel
theorem dX9_steps_52 : decode cX9_steps 52 = .ok (.aload_n 0, 1) := by decide +kernel
theorem dX9_steps_53 : decode cX9_steps 53 = .ok (.aload_n 0, 1) := by decide +kernel
theorem dX9_steps_54 : decode cX9_steps 54 = .ok (.getfield 40, 3) := by decide +kernel
theorem dX9_steps_57 : decode cX9_steps 57 = .ok (.iload_n 1, 1) := by decide +kernel
theorem dX9_steps_58 : decode cX9_steps 58 = .ok (.iaload, 1) := by decide +kernel
theorem dX9_steps_59 : decode cX9_steps 59 = .ok (.i2l, 1) := by decide +kernel
theorem dX9_steps_60 : decode cX9_steps 60 = .ok (.aload_n 0, 1) := by decide +kernel
theorem dX9_steps_61 : decode cX9_steps 61 = .ok (.iload_n 3, 1) := by decide +kernel
theorem dX9_steps_62 : decode cX9_steps 62 = .ok (.invokevirtual 233, 3) := by decide +kernel
theorem dX9_steps_65 : decode cX9_steps 65 = .ok (.i2l, 1) := by decide +kernel
theorem dX9_steps_66 : decode cX9_steps 66 = .ok (.lmul, 1) := by decide +kernel
theorem dX9_steps_67 : decode cX9_steps 67 = .ok (.aload_n 0, 1) := by decide +kernel
theorem dX9_steps_68 : decode cX9_steps 68 = .ok (.getfield 40, 3) := by decide +kernel
theorem dX9_steps_71 : decode cX9_steps 71 = .ok (.iload_n 1, 1) := by decide +kernel
theorem dX9_steps_72 : decode cX9_steps 72 = .ok (.iaload, 1) := by decide +kernel
theorem dX9_steps_73 : decode cX9_steps 73 = .ok (.aload_n 0, 1) := by decide +kernel
theorem dX9_steps_74 : decode cX9_steps 74 = .ok (.getfield 53, 3) := by decide +kernel
theorem dX9_steps_77 : decode cX9_steps 77 = .ok (.iload_n 3, 1) := by decide +kernel
theorem dX9_steps_78 : decode cX9_steps 78 = .ok (.iaload, 1) := by decide +kernel
theorem dX9_steps_79 : decode cX9_steps 79 = .ok (.iadd, 1) := by decide +kernel
theorem dX9_steps_80 : decode cX9_steps 80 = .ok (.i2l, 1) := by decide +kernel
theorem dX9_steps_81 : decode cX9_steps 81 = .ok (.invokevirtual 256, 3) := by decide +kernel
theorem dX9_steps_84 : decode cX9_steps 84 = .ok (.iinc 3 1, 3) := by decide +kernel
theorem dX9_steps_87 : decode cX9_steps 87 = .ok (.goto (-45), 3) := by decide +kernel
theorem dX9_steps_90 : decode cX9_steps 90 = .ok (.aload_n 0, 1) := by decide +kernel
theorem dX9_steps_91 : decode cX9_steps 91 = .ok (.iload_n 2, 1) := by decide +kernel
theorem dX9_steps_92 : decode cX9_steps 92 = .ok (.invokevirtual 272, 3) := by decide +kernel
theorem dX9_steps_95 : decode cX9_steps 95 = .ok (.lreturn, 1) := by decide +kernel
theorem dX9_comes_0 : decode cX9_comes 0 = .ok (.iconst 0, 1) := by decide +kernel
theorem dX9_comes_1 : decode cX9_comes 1 = .ok (.istore_n 3, 1) := by decide +kernel
theorem dX9_comes_2 : decode cX9_comes 2 = .ok (.aload_n 0, 1) := by decide +kernel
theorem dX9_comes_3 : decode cX9_comes 3 = .ok (.invokevirtual 253, 3) := by decide +kernel
theorem dX9_comes_6 : decode cX9_comes 6 = .ok (.aload_n 0, 1) := by decide +kernel
theorem dX9_comes_7 : decode cX9_comes 7 = .ok (.iload_n 2, 1) := by decide +kernel
theorem dX9_comes_8 : decode cX9_comes 8 = .ok (.i2l, 1) := by decide +kernel
theorem dX9_comes_9 : decode cX9_comes 9 = .ok (.ldc2_w 276, 3) := by decide +kernel
theorem dX9_comes_12 : decode cX9_comes 12 = .ok (.invokevirtual 256, 3) := by decide +kernel
theorem dX9_comes_15 : decode cX9_comes 15 = .ok (.aload_n 0, 1) := by decide +kernel
theorem dX9_comes_16 : decode cX9_comes 16 = .ok (.iconst 0, 1) := by decide +kernel
theorem dX9_comes_17 : decode cX9_comes 17 = .ok (.putfield 278, 3) := by decide +kernel
theorem dX9_comes_20 : decode cX9_comes 20 = .ok (.aload_n 0, 1) := by decide +kernel
theorem dX9_comes_21 : decode cX9_comes 21 = .ok (.getfield 278, 3) := by decide +kernel
theorem dX9_comes_24 : decode cX9_comes 24 = .ok (.aload_n 0, 1) := by decide +kernel
theorem dX9_comes_25 : decode cX9_comes 25 = .ok (.getfield 34, 3) := by decide +kernel
theorem dX9_comes_28 : decode cX9_comes 28 = .ok (.iconst 1, 1) := by decide +kernel
theorem dX9_comes_29 : decode cX9_comes 29 = .ok (.iaload, 1) := by decide +kernel
theorem dX9_comes_30 : decode cX9_comes 30 = .ok (.if_icmp .ge 112, 3) := by decide +kernel
theorem dX9_comes_33 : decode cX9_comes 33 = .ok (.aload_n 0, 1) := by decide +kernel
theorem dX9_comes_34 : decode cX9_comes 34 = .ok (.getfield 40, 3) := by decide +kernel
theorem dX9_comes_37 : decode cX9_comes 37 = .ok (.iload_n 1, 1) := by decide +kernel
theorem dX9_comes_38 : decode cX9_comes 38 = .ok (.iaload, 1) := by decide +kernel
theorem dX9_comes_39 : decode cX9_comes 39 = .ok (.aload_n 0, 1) := by decide +kernel
theorem dX9_comes_40 : decode cX9_comes 40 = .ok (.getfield 53, 3) := by decide +kernel
theorem dX9_comes_43 : decode cX9_comes 43 = .ok (.aload_n 0, 1) := by decide +kernel
theorem dX9_comes_44 : decode cX9_comes 44 = .ok (.getfield 278, 3) := by decide +kernel
theorem dX9_comes_47 : decode cX9_comes 47 = .ok (.iaload, 1) := by decide +kernel
theorem dX9_comes_48 : decode cX9_comes 48 = .ok (.iadd, 1) := by decide +kernel
theorem dX9_comes_49 : decode cX9_comes 49 = .ok (.istore 4, 2) := by decide +kernel
theorem dX9_comes_51 : decode cX9_comes 51 = .ok (.iload 4, 2) := by decide +kernel
theorem dX9_comes_53 : decode cX9_comes 53 = .ok (.ifCond .gt 5, 3) := by decide +kernel
theorem dX9_comes_56 : decode cX9_comes 56 = .ok (.iload_n 3, 1) := by decide +kernel
theorem dX9_comes_57 : decode cX9_comes 57 = .ok (.ireturn, 1) := by decide +kernel
theorem dX9_comes_58 : decode cX9_comes 58 = .ok (.aload_n 0, 1) := by decide +kernel
theorem dX9_comes_59 : decode cX9_comes 59 = .ok (.getfield 246, 3) := by decide +kernel
theorem dX9_comes_62 : decode cX9_comes 62 = .ok (.aload_n 0, 1) := by decide +kernel
theorem dX9_comes_63 : decode cX9_comes 63 = .ok (.getfield 243, 3) := by decide +kernel
theorem dX9_comes_66 : decode cX9_comes 66 = .ok (.aload_n 0, 1) := by decide +kernel
theorem dX9_comes_67 : decode cX9_comes 67 = .ok (.aload_n 0, 1) := by decide +kernel
theorem dX9_comes_68 : decode cX9_comes 68 = .ok (.getfield 278, 3) := by decide +kernel
theorem dX9_comes_71 : decode cX9_comes 71 = .ok (.invokevirtual 233, 3) := by decide +kernel
theorem dX9_comes_74 : decode cX9_comes 74 = .ok (.i2l, 1) := by decide +kernel
theorem dX9_comes_75 : decode cX9_comes 75 = .ok (.iload 4, 2) := by decide +kernel
theorem dX9_comes_77 : decode cX9_comes 77 = .ok (.i2l, 1) := by decide +kernel
theorem dX9_comes_78 : decode cX9_comes 78 = .ok (.invokestatic 249, 3) := by decide +kernel
theorem dX9_comes_81 : decode cX9_comes 81 = .ok (.ifCond .eq 20, 3) := by decide +kernel
theorem dX9_comes_84 : decode cX9_comes 84 = .ok (.iload_n 3, 1) := by decide +kernel
theorem dX9_comes_85 : decode cX9_comes 85 = .ok (.aload_n 0, 1) := by decide +kernel
theorem dX9_comes_86 : decode cX9_comes 86 = .ok (.getfield 246, 3) := by decide +kernel
theorem dX9_comes_89 : decode cX9_comes 89 = .ok (.iload 4, 2) := by decide +kernel
theorem dX9_comes_91 : decode cX9_comes 91 = .ok (.i2l, 1) := by decide +kernel
theorem dX9_comes_92 : decode cX9_comes 92 = .ok (.lmul, 1) := by decide +kernel
theorem dX9_comes_93 : decode cX9_comes 93 = .ok (.aload_n 0, 1) := by decide +kernel
theorem dX9_comes_94 : decode cX9_comes 94 = .ok (.getfield 243, 3) := by decide +kernel
theorem dX9_comes_97 : decode cX9_comes 97 = .ok (.ldiv, 1) := by decide +kernel
theorem dX9_comes_98 : decode cX9_comes 98 = .ok (.l2i, 1) := by decide +kernel
theorem dX9_comes_99 : decode cX9_comes 99 = .ok (.iadd, 1) := by decide +kernel
theorem dX9_comes_100 : decode cX9_comes 100 = .ok (.ireturn, 1) := by decide +kernel
theorem dX9_comes_101 : decode cX9_comes 101 = .ok (.aload_n 0, 1) := by decide +kernel
theorem dX9_comes_102 : decode cX9_comes 102 = .ok (.aload_n 0, 1) := by decide +kernel
theorem dX9_comes_103 : decode cX9_comes 103 = .ok (.aload_n 0, 1) := by decide +kernel
theorem dX9_comes_104 : decode cX9_comes 104 = .ok (.getfield 278, 3) := by decide +kernel
theorem dX9_comes_107 : decode cX9_comes 107 = .ok (.invokevirtual 233, 3) := by decide +kernel
theorem dX9_comes_110 : decode cX9_comes 110 = .ok (.ineg, 1) := by decide +kernel
theorem dX9_comes_111 : decode cX9_comes 111 = .ok (.i2l, 1) := by decide +kernel
theorem dX9_comes_112 : decode cX9_comes 112 = .ok (.iload 4, 2) := by decide +kernel
theorem dX9_comes_114 : decode cX9_comes 114 = .ok (.i2l, 1) := by decide +kernel
theorem dX9_comes_115 : decode cX9_comes 115 = .ok (.invokevirtual 256, 3) := by decide +kernel
theorem dX9_comes_118 : decode cX9_comes 118 = .ok (.iload_n 3, 1) := by decide +kernel
theorem dX9_comes_119 : decode cX9_comes 119 = .ok (.aload_n 0, 1) := by decide +kernel
theorem dX9_comes_120 : decode cX9_comes 120 = .ok (.aload_n 0, 1) := by decide +kernel
theorem dX9_comes_121 : decode cX9_comes 121 = .ok (.getfield 278, 3) := by decide +kernel
theorem dX9_comes_124 : decode cX9_comes 124 = .ok (.invokevirtual 233, 3) := by decide +kernel
theorem dX9_comes_127 : decode cX9_comes 127 = .ok (.iadd, 1) := by decide +kernel
theorem dX9_comes_128 : decode cX9_comes 128 = .ok (.istore_n 3, 1) := by decide +kernel
theorem dX9_comes_129 : decode cX9_comes 129 = .ok (.aload_n 0, 1) := by decide +kernel
theorem dX9_comes_130 : decode cX9_comes 130 = .ok (.dup, 1) := by decide +kernel
theorem dX9_comes_131 : decode cX9_comes 131 = .ok (.getfield 278, 3) := by decide +kernel
theorem dX9_comes_134 : decode cX9_comes 134 = .ok (.iconst 1, 1) := by decide +kernel
theorem dX9_comes_135 : decode cX9_comes 135 = .ok (.iadd, 1) := by decide +kernel
theorem dX9_comes_136 : decode cX9_comes 136 = .ok (.putfield 278, 3) := by decide +kernel
theorem dX9_comes_139 : decode cX9_comes 139 = .ok (.goto (-119), 3) := by decide +kernel
theorem dX9_comes_142 : decode cX9_comes 142 = .ok (.aload_n 0, 1) := by decide +kernel
theorem dX9_comes_143 : decode cX9_comes 143 = .ok (.iconst (-1), 1) := by decide +kernel
theorem dX9_comes_144 : decode cX9_comes 144 = .ok (.putfield 278, 3) := by decide +kernel
theorem dX9_comes_147 : decode cX9_comes 147 = .ok (.iload_n 3, 1) := by decide +kernel
theorem dX9_comes_148 : decode cX9_comes 148 = .ok (.ireturn, 1) := by decide +kernel
theorem dX9_areSeconds_0 : decode cX9_areSeconds 0 = .ok (.aload_n 0, 1) := by decide +kernel
theorem dX9_areSeconds_1 : decode cX9_areSeconds 1 = .ok (.iload_n 1, 1) := by decide +kernel
theorem dX9_areSeconds_2 : decode cX9_areSeconds 2 = .ok (.iconst 0, 1) := by decide +kernel
theorem dX9_areSeconds_3 : decode cX9_areSeconds 3 = .ok (.invokevirtual 263, 3) := by decide +kernel
theorem dX9_areSeconds_6 : decode cX9_areSeconds 6 = .ok (.ifCond .eq 18, 3) := by decide +kernel
theorem dX9_areSeconds_9 : decode cX9_areSeconds 9 = .ok (.iload_n 2, 1) := by decide +kernel
theorem dX9_areSeconds_10 : decode cX9_areSeconds 10 = .ok (.i2l, 1) := by decide +kernel
theorem dX9_areSeconds_11 : decode cX9_areSeconds 11 = .ok (.lconst 0, 1) := by decide +kernel
theorem dX9_areSeconds_12 : decode cX9_areSeconds 12 = .ok (.iload_n 3, 1) := by decide +kernel
theorem dX9_areSeconds_13 : decode cX9_areSeconds 13 = .ok (.i2l, 1) := by decide +kernel
theorem dX9_areSeconds_14 : decode cX9_areSeconds 14 = .ok (.invokestatic 76, 3) := by decide +kernel
theorem dX9_areSeconds_17 : decode cX9_areSeconds 17 = .ok (.ifCond .eq 7, 3) := by decide +kernel
theorem dX9_areSeconds_20 : decode cX9_areSeconds 20 = .ok (.iconst 1, 1) := by decide +kernel
theorem dX9_areSeconds_21 : decode cX9_areSeconds 21 = .ok (.goto 4, 3) := by decide +kernel
theorem dX9_areSeconds_24 : decode cX9_areSeconds 24 = .ok (.iconst 0, 1) := by decide +kernel
theorem dX9_areSeconds_25 : decode cX9_areSeconds 25 = .ok (.ireturn, 1) := by decide +kernel
theorem dX9_at_0 : decode cX9_at 0 = .ok (.aload_n 0, 1) := by decide +kernel
theorem dX9_at_1 : decode cX9_at 1 = .ok (.iconst 0, 1) := by decide +kernel
theorem dX9_at_2 : decode cX9_at 2 = .ok (.putfield 71, 3) := by decide +kernel
theorem dX9_at_5 : decode cX9_at 5 = .ok (.aload_n 0, 1) := by decide +kernel
theorem dX9_at_6 : decode cX9_at 6 = .ok (.iload_n 1, 1) := by decide +kernel
theorem dX9_at_7 : decode cX9_at 7 = .ok (.iload_n 2, 1) := by decide +kernel
theorem dX9_at_8 : decode cX9_at 8 = .ok (.ldc_w 281, 3) := by decide +kernel
theorem dX9_at_11 : decode cX9_at 11 = .ok (.invokevirtual 282, 3) := by decide +kernel
theorem dX9_at_14 : decode cX9_at 14 = .ok (.ifCond .eq 12, 3) := by decide +kernel
theorem dX9_at_17 : decode cX9_at 17 = .ok (.aload_n 0, 1) := by decide +kernel
theorem dX9_at_18 : decode cX9_at 18 = .ok (.iload_n 1, 1) := by decide +kernel
theorem dX9_at_19 : decode cX9_at 19 = .ok (.iload_n 2, 1) := by decide +kernel
theorem dX9_at_20 : decode cX9_at 20 = .ok (.invokevirtual 285, 3) := by decide +kernel
theorem dX9_at_23 : decode cX9_at 23 = .ok (.goto 5, 3) := by decide +kernel
theorem dX9_at_26 : decode cX9_at 26 = .ok (.bipush (-2), 2) := by decide +kernel
theorem dX9_at_28 : decode cX9_at 28 = .ok (.ireturn, 1) := by decide +kernel
theorem dX9_on_0 : decode cX9_on 0 = .ok (.aload_n 0, 1) := by decide +kernel
theorem dX9_on_1 : decode cX9_on 1 = .ok (.iconst 0, 1) := by decide +kernel
theorem dX9_on_2 : decode cX9_on 2 = .ok (.putfield 71, 3) := by decide +kernel
theorem dX9_on_5 : decode cX9_on 5 = .ok (.aload_n 0, 1) := by decide +kernel
theorem dX9_on_6 : decode cX9_on 6 = .ok (.iload_n 1, 1) := by decide +kernel
theorem dX9_on_7 : decode cX9_on 7 = .ok (.iload_n 2, 1) := by decide +kernel
theorem dX9_on_8 : decode cX9_on 8 = .ok (.ldc_w 281, 3) := by decide +kernel
theorem dX9_on_11 : decode cX9_on 11 = .ok (.invokevirtual 282, 3) := by decide +kernel
theorem dX9_on_14 : decode cX9_on 14 = .ok (.ifCond .ne 6, 3) := by decide +kernel
theorem dX9_on_17 : decode cX9_on 17 = .ok (.bipush (-2), 2) := by decide +kernel
theorem dX9_on_19 : decode cX9_on 19 = .ok (.ireturn, 1) := by decide +kernel
theorem dX9_on_20 : decode cX9_on 20 = .ok (.aload_n 0, 1) := by decide +kernel
theorem dX9_on_21 : decode cX9_on 21 = .ok (.iload_n 1, 1) := by decide +kernel
theorem dX9_on_22 : decode cX9_on 22 = .ok (.iload_n 2, 1) := by decide +kernel
theorem dX9_on_23 : decode cX9_on 23 = .ok (.invokevirtual 285, 3) := by decide +kernel
theorem dX9_on_26 : decode cX9_on 26 = .ok (.pop, 1) := by decide +kernel
theorem dX9_on_27 : decode cX9_on 27 = .ok (.aload_n 0, 1) := by decide +kernel
theorem dX9_on_28 : decode cX9_on 28 = .ok (.getfield 278, 3) := by decide +kernel
theorem dX9_on_31 : decode cX9_on 31 = .ok (.ireturn, 1) := by decide +kernel
theorem dX9_keeps_0 : decode cX9_keeps 0 = .ok (.aload_n 0, 1) := by decide +kernel
theorem dX9_keeps_1 : decode cX9_keeps 1 = .ok (.getfield 288, 3) := by decide +kernel
theorem dX9_keeps_4 : decode cX9_keeps 4 = .ok (.iconst (-1), 1) := by decide +kernel
theorem dX9_keeps_5 : decode cX9_keeps 5 = .ok (.if_icmp .eq 26, 3) := by decide +kernel
theorem dX9_keeps_8 : decode cX9_keeps 8 = .ok (.aload_n 0, 1) := by decide +kernel
theorem dX9_keeps_9 : decode cX9_keeps 9 = .ok (.getfield 246, 3) := by decide +kernel
theorem dX9_keeps_12 : decode cX9_keeps 12 = .ok (.aload_n 0, 1) := by decide +kernel
theorem dX9_keeps_13 : decode cX9_keeps 13 = .ok (.getfield 243, 3) := by decide +kernel
theorem dX9_keeps_16 : decode cX9_keeps 16 = .ok (.aload_n 0, 1) := by decide +kernel
theorem dX9_keeps_17 : decode cX9_keeps 17 = .ok (.getfield 291, 3) := by decide +kernel
theorem dX9_keeps_20 : decode cX9_keeps 20 = .ok (.aload_n 0, 1) := by decide +kernel
theorem dX9_keeps_21 : decode cX9_keeps 21 = .ok (.getfield 294, 3) := by decide +kernel
theorem dX9_keeps_24 : decode cX9_keeps 24 = .ok (.invokestatic 249, 3) := by decide +kernel
theorem dX9_keeps_27 : decode cX9_keeps 27 = .ok (.ifCond .ne 4, 3) := by decide +kernel
theorem dX9_keeps_30 : decode cX9_keeps 30 = .ok (.return_, 1) := by decide +kernel
theorem dX9_keeps_31 : decode cX9_keeps 31 = .ok (.aload_n 0, 1) := by decide +kernel
theorem dX9_keeps_32 : decode cX9_keeps 32 = .ok (.aload_n 0, 1) := by decide +kernel
theorem dX9_keeps_33 : decode cX9_keeps 33 = .ok (.getfield 246, 3) := by decide +kernel
theorem dX9_keeps_36 : decode cX9_keeps 36 = .ok (.putfield 291, 3) := by decide +kernel
theorem dX9_keeps_39 : decode cX9_keeps 39 = .ok (.aload_n 0, 1) := by decide +kernel
theorem dX9_keeps_40 : decode cX9_keeps 40 = .ok (.aload_n 0, 1) := by decide +kernel
theorem dX9_keeps_41 : decode cX9_keeps 41 = .ok (.getfield 243, 3) := by decide +kernel
theorem dX9_keeps_44 : decode cX9_keeps 44 = .ok (.putfield 294, 3) := by decide +kernel
theorem dX9_keeps_47 : decode cX9_keeps 47 = .ok (.aload_n 0, 1) := by decide +kernel
theorem dX9_keeps_48 : decode cX9_keeps 48 = .ok (.iload_n 1, 1) := by decide +kernel
theorem dX9_keeps_49 : decode cX9_keeps 49 = .ok (.putfield 288, 3) := by decide +kernel
theorem dX9_keeps_52 : decode cX9_keeps 52 = .ok (.return_, 1) := by decide +kernel
theorem dX9_first_0 : decode cX9_first 0 = .ok (.aload_n 0, 1) := by decide +kernel
theorem dX9_first_1 : decode cX9_first 1 = .ok (.iconst 0, 1) := by decide +kernel
theorem dX9_first_2 : decode cX9_first 2 = .ok (.putfield 71, 3) := by decide +kernel
theorem dX9_first_5 : decode cX9_first 5 = .ok (.aload_n 0, 1) := by decide +kernel
theorem dX9_first_6 : decode cX9_first 6 = .ok (.invokevirtual 297, 3) := by decide +kernel
theorem dX9_first_9 : decode cX9_first 9 = .ok (.ifCond .ne 6, 3) := by decide +kernel
theorem dX9_first_12 : decode cX9_first 12 = .ok (.bipush (-2), 2) := by decide +kernel
theorem dX9_first_14 : decode cX9_first 14 = .ok (.ireturn, 1) := by decide +kernel
theorem dX9_first_15 : decode cX9_first 15 = .ok (.aload_n 0, 1) := by decide +kernel
theorem dX9_first_16 : decode cX9_first 16 = .ok (.invokevirtual 230, 3) := by decide +kernel
theorem dX9_first_19 : decode cX9_first 19 = .ok (.aload_n 0, 1) := by decide +kernel
theorem dX9_first_20 : decode cX9_first 20 = .ok (.iconst (-1), 1) := by decide +kernel
theorem dX9_first_21 : decode cX9_first 21 = .ok (.putfield 288, 3) := by decide +kernel
theorem dX9_first_24 : decode cX9_first 24 = .ok (.iconst 0, 1) := by decide +kernel
theorem dX9_first_25 : decode cX9_first 25 = .ok (.istore_n 1, 1) := by decide +kernel
theorem dX9_first_26 : decode cX9_first 26 = .ok (.iload_n 1, 1) := by decide +kernel
theorem dX9_first_27 : decode cX9_first 27 = .ok (.aload_n 0, 1) := by decide +kernel
theorem dX9_first_28 : decode cX9_first 28 = .ok (.getfield 34, 3) := by decide +kernel
theorem dX9_first_31 : decode cX9_first 31 = .ok (.iconst 2, 1) := by decide +kernel
theorem dX9_first_32 : decode cX9_first 32 = .ok (.iaload, 1) := by decide +kernel
theorem dX9_first_33 : decode cX9_first 33 = .ok (.if_icmp .ge 28, 3) := by decide +kernel
theorem dX9_first_36 : decode cX9_first 36 = .ok (.aload_n 0, 1) := by decide +kernel
theorem dX9_first_37 : decode cX9_first 37 = .ok (.aload_n 0, 1) := by decide +kernel
theorem dX9_first_38 : decode cX9_first 38 = .ok (.getfield 40, 3) := by decide +kernel
theorem dX9_first_41 : decode cX9_first 41 = .ok (.iload_n 1, 1) := by decide +kernel
theorem dX9_first_42 : decode cX9_first 42 = .ok (.iaload, 1) := by decide +kernel
theorem dX9_first_43 : decode cX9_first 43 = .ok (.iconst 1, 1) := by decide +kernel
theorem dX9_first_44 : decode cX9_first 44 = .ok (.invokevirtual 269, 3) := by decide +kernel
theorem dX9_first_47 : decode cX9_first 47 = .ok (.ifCond .eq 8, 3) := by decide +kernel
theorem dX9_first_50 : decode cX9_first 50 = .ok (.aload_n 0, 1) := by decide +kernel
theorem dX9_first_51 : decode cX9_first 51 = .ok (.iload_n 1, 1) := by decide +kernel
theorem dX9_first_52 : decode cX9_first 52 = .ok (.invokevirtual 300, 3) := by decide +kernel
theorem dX9_first_55 : decode cX9_first 55 = .ok (.iinc 1 1, 3) := by decide +kernel
theorem dX9_first_58 : decode cX9_first 58 = .ok (.goto (-32), 3) := by decide +kernel
theorem dX9_first_61 : decode cX9_first 61 = .ok (.aload_n 0, 1) := by decide +kernel
theorem dX9_first_62 : decode cX9_first 62 = .ok (.getfield 288, 3) := by decide +kernel
theorem dX9_first_65 : decode cX9_first 65 = .ok (.ireturn, 1) := by decide +kernel
theorem dX9_never_0 : decode cX9_never 0 = .ok (.aload_n 0, 1) := by decide +kernel
theorem dX9_never_1 : decode cX9_never 1 = .ok (.iconst 0, 1) := by decide +kernel
theorem dX9_never_2 : decode cX9_never 2 = .ok (.putfield 71, 3) := by decide +kernel
theorem dX9_never_5 : decode cX9_never 5 = .ok (.aload_n 0, 1) := by decide +kernel
theorem dX9_never_6 : decode cX9_never 6 = .ok (.invokevirtual 297, 3) := by decide +kernel
theorem dX9_never_9 : decode cX9_never 9 = .ok (.ifCond .ne 6, 3) := by decide +kernel
theorem dX9_never_12 : decode cX9_never 12 = .ok (.bipush (-2), 2) := by decide +kernel
theorem dX9_never_14 : decode cX9_never 14 = .ok (.ireturn, 1) := by decide +kernel
theorem dX9_never_15 : decode cX9_never 15 = .ok (.aload_n 0, 1) := by decide +kernel
theorem dX9_never_16 : decode cX9_never 16 = .ok (.invokevirtual 230, 3) := by decide +kernel
theorem dX9_never_19 : decode cX9_never 19 = .ok (.iconst 0, 1) := by decide +kernel
theorem dX9_never_20 : decode cX9_never 20 = .ok (.istore_n 1, 1) := by decide +kernel
theorem dX9_never_21 : decode cX9_never 21 = .ok (.iconst 0, 1) := by decide +kernel
theorem dX9_never_22 : decode cX9_never 22 = .ok (.istore_n 2, 1) := by decide +kernel
theorem dX9_never_23 : decode cX9_never 23 = .ok (.iload_n 2, 1) := by decide +kernel
theorem dX9_never_24 : decode cX9_never 24 = .ok (.aload_n 0, 1) := by decide +kernel
theorem dX9_never_25 : decode cX9_never 25 = .ok (.getfield 34, 3) := by decide +kernel
theorem dX9_never_28 : decode cX9_never 28 = .ok (.iconst 2, 1) := by decide +kernel
theorem dX9_never_29 : decode cX9_never 29 = .ok (.iaload, 1) := by decide +kernel
theorem dX9_never_30 : decode cX9_never 30 = .ok (.if_icmp .ge 33, 3) := by decide +kernel
theorem dX9_never_33 : decode cX9_never 33 = .ok (.iload_n 1, 1) := by decide +kernel
theorem dX9_never_34 : decode cX9_never 34 = .ok (.aload_n 0, 1) := by decide +kernel
theorem dX9_never_35 : decode cX9_never 35 = .ok (.aload_n 0, 1) := by decide +kernel
theorem dX9_never_36 : decode cX9_never 36 = .ok (.getfield 40, 3) := by decide +kernel
theorem dX9_never_39 : decode cX9_never 39 = .ok (.iload_n 2, 1) := by decide +kernel
theorem dX9_never_40 : decode cX9_never 40 = .ok (.iaload, 1) := by decide +kernel
theorem dX9_never_41 : decode cX9_never 41 = .ok (.iconst 1, 1) := by decide +kernel
theorem dX9_never_42 : decode cX9_never 42 = .ok (.invokevirtual 269, 3) := by decide +kernel
theorem dX9_never_45 : decode cX9_never 45 = .ok (.ifCond .eq 7, 3) := by decide +kernel
theorem dX9_never_48 : decode cX9_never 48 = .ok (.iconst 0, 1) := by decide +kernel
theorem dX9_never_49 : decode cX9_never 49 = .ok (.goto 6, 3) := by decide +kernel
theorem dX9_never_52 : decode cX9_never 52 = .ok (.iconst 1, 1) := by decide +kernel
theorem dX9_never_53 : decode cX9_never 53 = .ok (.iload_n 2, 1) := by decide +kernel
theorem dX9_never_54 : decode cX9_never 54 = .ok (.ishl, 1) := by decide +kernel
theorem dX9_never_55 : decode cX9_never 55 = .ok (.ior, 1) := by decide +kernel
theorem dX9_never_56 : decode cX9_never 56 = .ok (.istore_n 1, 1) := by decide +kernel
theorem dX9_never_57 : decode cX9_never 57 = .ok (.iinc 2 1, 3) := by decide +kernel
theorem dX9_never_60 : decode cX9_never 60 = .ok (.goto (-37), 3) := by decide +kernel
theorem dX9_never_63 : decode cX9_never 63 = .ok (.iload_n 1, 1) := by decide +kernel
theorem dX9_never_64 : decode cX9_never 64 = .ok (.ireturn, 1) := by decide +kernel
theorem dX9_catches_0 : decode cX9_catches 0 = .ok (.aload_n 0, 1) := by decide +kernel
theorem dX9_catches_1 : decode cX9_catches 1 = .ok (.iconst 0, 1) := by decide +kernel
theorem dX9_catches_2 : decode cX9_catches 2 = .ok (.putfield 71, 3) := by decide +kernel
theorem dX9_catches_5 : decode cX9_catches 5 = .ok (.aload_n 0, 1) := by decide +kernel
theorem dX9_catches_6 : decode cX9_catches 6 = .ok (.iload_n 1, 1) := by decide +kernel
theorem dX9_catches_7 : decode cX9_catches 7 = .ok (.iload_n 3, 1) := by decide +kernel
theorem dX9_catches_8 : decode cX9_catches 8 = .ok (.sipush 3600, 3) := by decide +kernel
theorem dX9_catches_11 : decode cX9_catches 11 = .ok (.invokevirtual 282, 3) := by decide +kernel
theorem dX9_catches_14 : decode cX9_catches 14 = .ok (.ifCond .eq 11, 3) := by decide +kernel
theorem dX9_catches_17 : decode cX9_catches 17 = .ok (.aload_n 0, 1) := by decide +kernel
theorem dX9_catches_18 : decode cX9_catches 18 = .ok (.iload_n 2, 1) := by decide +kernel
theorem dX9_catches_19 : decode cX9_catches 19 = .ok (.invokevirtual 236, 3) := by decide +kernel
theorem dX9_catches_22 : decode cX9_catches 22 = .ok (.ifCond .ne 6, 3) := by decide +kernel
theorem dX9_catches_25 : decode cX9_catches 25 = .ok (.bipush (-2), 2) := by decide +kernel
theorem dX9_catches_27 : decode cX9_catches 27 = .ok (.ireturn, 1) := by decide +kernel
theorem dX9_catches_28 : decode cX9_catches 28 = .ok (.aload_n 0, 1) := by decide +kernel
theorem dX9_catches_29 : decode cX9_catches 29 = .ok (.aload_n 0, 1) := by decide +kernel
theorem dX9_catches_30 : decode cX9_catches 30 = .ok (.getfield 40, 3) := by decide +kernel
theorem dX9_catches_33 : decode cX9_catches 33 = .ok (.iload_n 1, 1) := by decide +kernel
theorem dX9_catches_34 : decode cX9_catches 34 = .ok (.iaload, 1) := by decide +kernel
theorem dX9_catches_35 : decode cX9_catches 35 = .ok (.iconst 1, 1) := by decide +kernel
theorem dX9_catches_36 : decode cX9_catches 36 = .ok (.invokevirtual 269, 3) := by decide +kernel
theorem dX9_catches_39 : decode cX9_catches 39 = .ok (.ifCond .ne 5, 3) := by decide +kernel
theorem dX9_catches_42 : decode cX9_catches 42 = .ok (.iconst 0, 1) := by decide +kernel
theorem dX9_catches_43 : decode cX9_catches 43 = .ok (.ireturn, 1) := by decide +kernel
theorem dX9_catches_44 : decode cX9_catches 44 = .ok (.aload_n 0, 1) := by decide +kernel
theorem dX9_catches_45 : decode cX9_catches 45 = .ok (.iload_n 3, 1) := by decide +kernel
theorem dX9_catches_46 : decode cX9_catches 46 = .ok (.i2l, 1) := by decide +kernel
theorem dX9_catches_47 : decode cX9_catches 47 = .ok (.ldc2_w 276, 3) := by decide +kernel
theorem dX9_catches_50 : decode cX9_catches 50 = .ok (.invokevirtual 256, 3) := by decide +kernel
theorem dX9_catches_53 : decode cX9_catches 53 = .ok (.aload_n 0, 1) := by decide +kernel
theorem dX9_catches_54 : decode cX9_catches 54 = .ok (.getfield 246, 3) := by decide +kernel
theorem dX9_catches_57 : decode cX9_catches 57 = .ok (.lstore 4, 2) := by decide +kernel
theorem dX9_catches_59 : decode cX9_catches 59 = .ok (.aload_n 0, 1) := by decide +kernel
theorem dX9_catches_60 : decode cX9_catches 60 = .ok (.getfield 243, 3) := by decide +kernel
theorem dX9_catches_63 : decode cX9_catches 63 = .ok (.lstore 6, 2) := by decide +kernel
theorem dX9_catches_65 : decode cX9_catches 65 = .ok (.aload_n 0, 1) := by decide +kernel
theorem dX9_catches_66 : decode cX9_catches 66 = .ok (.aload_n 0, 1) := by decide +kernel
theorem dX9_catches_67 : decode cX9_catches 67 = .ok (.getfield 40, 3) := by decide +kernel
theorem dX9_catches_70 : decode cX9_catches 70 = .ok (.iload_n 2, 1) := by decide +kernel
theorem dX9_catches_71 : decode cX9_catches 71 = .ok (.iaload, 1) := by decide +kernel
theorem dX9_catches_72 : decode cX9_catches 72 = .ok (.iconst 1, 1) := by decide +kernel
theorem dX9_catches_73 : decode cX9_catches 73 = .ok (.invokevirtual 269, 3) := by decide +kernel
theorem dX9_catches_76 : decode cX9_catches 76 = .ok (.ifCond .eq 21, 3) := by decide +kernel
theorem dX9_catches_79 : decode cX9_catches 79 = .ok (.aload_n 0, 1) := by decide +kernel
theorem dX9_catches_80 : decode cX9_catches 80 = .ok (.getfield 246, 3) := by decide +kernel
theorem dX9_catches_83 : decode cX9_catches 83 = .ok (.aload_n 0, 1) := by decide +kernel
theorem dX9_catches_84 : decode cX9_catches 84 = .ok (.getfield 243, 3) := by decide +kernel
theorem dX9_catches_87 : decode cX9_catches 87 = .ok (.lload 4, 2) := by decide +kernel
theorem dX9_catches_89 : decode cX9_catches 89 = .ok (.lload 6, 2) := by decide +kernel
theorem dX9_catches_91 : decode cX9_catches 91 = .ok (.invokestatic 249, 3) := by decide +kernel
theorem dX9_catches_94 : decode cX9_catches 94 = .ok (.ifCond .ne 7, 3) := by decide +kernel
theorem dX9_catches_97 : decode cX9_catches 97 = .ok (.iconst 1, 1) := by decide +kernel
theorem dX9_catches_98 : decode cX9_catches 98 = .ok (.goto 4, 3) := by decide +kernel
theorem dX9_catches_101 : decode cX9_catches 101 = .ok (.iconst 0, 1) := by decide +kernel
theorem dX9_catches_102 : decode cX9_catches 102 = .ok (.ireturn, 1) := by decide +kernel
theorem dX9_turnsAt_0 : decode cX9_turnsAt 0 = .ok (.aload_n 0, 1) := by decide +kernel
theorem dX9_turnsAt_1 : decode cX9_turnsAt 1 = .ok (.invokevirtual 253, 3) := by decide +kernel
theorem dX9_turnsAt_4 : decode cX9_turnsAt 4 = .ok (.iconst 0, 1) := by decide +kernel
theorem dX9_turnsAt_5 : decode cX9_turnsAt 5 = .ok (.istore 6, 2) := by decide +kernel
theorem dX9_turnsAt_7 : decode cX9_turnsAt 7 = .ok (.iload 6, 2) := by decide +kernel
theorem dX9_turnsAt_9 : decode cX9_turnsAt 9 = .ok (.iload_n 3, 1) := by decide +kernel
theorem dX9_turnsAt_10 : decode cX9_turnsAt 10 = .ok (.if_icmp .ge 41, 3) := by decide +kernel
theorem dX9_turnsAt_13 : decode cX9_turnsAt 13 = .ok (.iload_n 1, 1) := by decide +kernel
theorem dX9_turnsAt_14 : decode cX9_turnsAt 14 = .ok (.aload_n 0, 1) := by decide +kernel
theorem dX9_turnsAt_15 : decode cX9_turnsAt 15 = .ok (.getfield 53, 3) := by decide +kernel
theorem dX9_turnsAt_18 : decode cX9_turnsAt 18 = .ok (.iload 6, 2) := by decide +kernel
theorem dX9_turnsAt_20 : decode cX9_turnsAt 20 = .ok (.iaload, 1) := by decide +kernel
theorem dX9_turnsAt_21 : decode cX9_turnsAt 21 = .ok (.iadd, 1) := by decide +kernel
theorem dX9_turnsAt_22 : decode cX9_turnsAt 22 = .ok (.istore 7, 2) := by decide +kernel
theorem dX9_turnsAt_24 : decode cX9_turnsAt 24 = .ok (.iload 7, 2) := by decide +kernel
theorem dX9_turnsAt_26 : decode cX9_turnsAt 26 = .ok (.ifCond .gt 5, 3) := by decide +kernel
theorem dX9_turnsAt_29 : decode cX9_turnsAt 29 = .ok (.iconst 0, 1) := by decide +kernel
theorem dX9_turnsAt_30 : decode cX9_turnsAt 30 = .ok (.ireturn, 1) := by decide +kernel
theorem dX9_turnsAt_31 : decode cX9_turnsAt 31 = .ok (.aload_n 0, 1) := by decide +kernel
theorem dX9_turnsAt_32 : decode cX9_turnsAt 32 = .ok (.aload_n 0, 1) := by decide +kernel
theorem dX9_turnsAt_33 : decode cX9_turnsAt 33 = .ok (.iload 6, 2) := by decide +kernel
theorem dX9_turnsAt_35 : decode cX9_turnsAt 35 = .ok (.invokevirtual 233, 3) := by decide +kernel
theorem dX9_turnsAt_38 : decode cX9_turnsAt 38 = .ok (.i2l, 1) := by decide +kernel
theorem dX9_turnsAt_39 : decode cX9_turnsAt 39 = .ok (.iload 7, 2) := by decide +kernel
theorem dX9_turnsAt_41 : decode cX9_turnsAt 41 = .ok (.i2l, 1) := by decide +kernel
theorem dX9_turnsAt_42 : decode cX9_turnsAt 42 = .ok (.invokevirtual 256, 3) := by decide +kernel
theorem dX9_turnsAt_45 : decode cX9_turnsAt 45 = .ok (.iinc 6 1, 3) := by decide +kernel
theorem dX9_turnsAt_48 : decode cX9_turnsAt 48 = .ok (.goto (-41), 3) := by decide +kernel
theorem dX9_turnsAt_51 : decode cX9_turnsAt 51 = .ok (.aload_n 0, 1) := by decide +kernel
theorem dX9_turnsAt_52 : decode cX9_turnsAt 52 = .ok (.getfield 246, 3) := by decide +kernel
theorem dX9_turnsAt_55 : decode cX9_turnsAt 55 = .ok (.lstore 6, 2) := by decide +kernel
theorem dX9_turnsAt_57 : decode cX9_turnsAt 57 = .ok (.aload_n 0, 1) := by decide +kernel
theorem dX9_turnsAt_58 : decode cX9_turnsAt 58 = .ok (.getfield 243, 3) := by decide +kernel
theorem dX9_turnsAt_61 : decode cX9_turnsAt 61 = .ok (.lstore 8, 2) := by decide +kernel
theorem dX9_turnsAt_63 : decode cX9_turnsAt 63 = .ok (.aload_n 0, 1) := by decide +kernel
theorem dX9_turnsAt_64 : decode cX9_turnsAt 64 = .ok (.invokevirtual 253, 3) := by decide +kernel
theorem dX9_turnsAt_67 : decode cX9_turnsAt 67 = .ok (.aload_n 0, 1) := by decide +kernel
theorem dX9_turnsAt_68 : decode cX9_turnsAt 68 = .ok (.iload 4, 2) := by decide +kernel
theorem dX9_turnsAt_70 : decode cX9_turnsAt 70 = .ok (.i2l, 1) := by decide +kernel
theorem dX9_turnsAt_71 : decode cX9_turnsAt 71 = .ok (.lconst 1, 1) := by decide +kernel
theorem dX9_turnsAt_72 : decode cX9_turnsAt 72 = .ok (.invokevirtual 256, 3) := by decide +kernel
theorem dX9_turnsAt_75 : decode cX9_turnsAt 75 = .ok (.iload_n 3, 1) := by decide +kernel
theorem dX9_turnsAt_76 : decode cX9_turnsAt 76 = .ok (.istore 10, 2) := by decide +kernel
theorem dX9_turnsAt_78 : decode cX9_turnsAt 78 = .ok (.iconst 0, 1) := by decide +kernel
theorem dX9_turnsAt_79 : decode cX9_turnsAt 79 = .ok (.istore 11, 2) := by decide +kernel
theorem dX9_turnsAt_81 : decode cX9_turnsAt 81 = .ok (.iload 10, 2) := by decide +kernel
theorem dX9_turnsAt_83 : decode cX9_turnsAt 83 = .ok (.aload_n 0, 1) := by decide +kernel
theorem dX9_turnsAt_84 : decode cX9_turnsAt 84 = .ok (.getfield 34, 3) := by decide +kernel
theorem dX9_turnsAt_87 : decode cX9_turnsAt 87 = .ok (.iconst 1, 1) := by decide +kernel
theorem dX9_turnsAt_88 : decode cX9_turnsAt 88 = .ok (.iaload, 1) := by decide +kernel
theorem dX9_turnsAt_89 : decode cX9_turnsAt 89 = .ok (.if_icmp .ge 93, 3) := by decide +kernel
theorem dX9_turnsAt_92 : decode cX9_turnsAt 92 = .ok (.aload_n 0, 1) := by decide +kernel
theorem dX9_turnsAt_93 : decode cX9_turnsAt 93 = .ok (.getfield 246, 3) := by decide +kernel
theorem dX9_turnsAt_96 : decode cX9_turnsAt 96 = .ok (.lconst 0, 1) := by decide +kernel
theorem dX9_turnsAt_97 : decode cX9_turnsAt 97 = .ok (.lcmp, 1) := by decide +kernel
theorem dX9_turnsAt_98 : decode cX9_turnsAt 98 = .ok (.ifCond .le 84, 3) := by decide +kernel
theorem dX9_turnsAt_101 : decode cX9_turnsAt 101 = .ok (.iload 11, 2) := by decide +kernel
theorem dX9_turnsAt_103 : decode cX9_turnsAt 103 = .ok (.ifCond .ne 79, 3) := by decide +kernel
theorem dX9_turnsAt_106 : decode cX9_turnsAt 106 = .ok (.iload_n 2, 1) := by decide +kernel
theorem dX9_turnsAt_107 : decode cX9_turnsAt 107 = .ok (.aload_n 0, 1) := by decide +kernel
theorem dX9_turnsAt_108 : decode cX9_turnsAt 108 = .ok (.getfield 53, 3) := by decide +kernel
theorem dX9_turnsAt_111 : decode cX9_turnsAt 111 = .ok (.iload 10, 2) := by decide +kernel
theorem dX9_turnsAt_113 : decode cX9_turnsAt 113 = .ok (.iaload, 1) := by decide +kernel
theorem dX9_turnsAt_114 : decode cX9_turnsAt 114 = .ok (.iadd, 1) := by decide +kernel
theorem dX9_turnsAt_115 : decode cX9_turnsAt 115 = .ok (.istore 12, 2) := by decide +kernel
theorem dX9_turnsAt_117 : decode cX9_turnsAt 117 = .ok (.iload 12, 2) := by decide +kernel
theorem dX9_turnsAt_119 : decode cX9_turnsAt 119 = .ok (.ifCond .le 27, 3) := by decide +kernel
theorem dX9_turnsAt_122 : decode cX9_turnsAt 122 = .ok (.aload_n 0, 1) := by decide +kernel
theorem dX9_turnsAt_123 : decode cX9_turnsAt 123 = .ok (.getfield 246, 3) := by decide +kernel
theorem dX9_turnsAt_126 : decode cX9_turnsAt 126 = .ok (.aload_n 0, 1) := by decide +kernel
theorem dX9_turnsAt_127 : decode cX9_turnsAt 127 = .ok (.getfield 243, 3) := by decide +kernel
theorem dX9_turnsAt_130 : decode cX9_turnsAt 130 = .ok (.aload_n 0, 1) := by decide +kernel
theorem dX9_turnsAt_131 : decode cX9_turnsAt 131 = .ok (.iload 10, 2) := by decide +kernel
theorem dX9_turnsAt_133 : decode cX9_turnsAt 133 = .ok (.invokevirtual 233, 3) := by decide +kernel
theorem dX9_turnsAt_136 : decode cX9_turnsAt 136 = .ok (.i2l, 1) := by decide +kernel
theorem dX9_turnsAt_137 : decode cX9_turnsAt 137 = .ok (.iload 12, 2) := by decide +kernel
theorem dX9_turnsAt_139 : decode cX9_turnsAt 139 = .ok (.i2l, 1) := by decide +kernel
theorem dX9_turnsAt_140 : decode cX9_turnsAt 140 = .ok (.invokestatic 249, 3) := by decide +kernel
theorem dX9_turnsAt_143 : decode cX9_turnsAt 143 = .ok (.ifCond .eq 7, 3) := by decide +kernel
theorem dX9_turnsAt_146 : decode cX9_turnsAt 146 = .ok (.iconst 1, 1) := by decide +kernel
theorem dX9_turnsAt_147 : decode cX9_turnsAt 147 = .ok (.goto 4, 3) := by decide +kernel
theorem dX9_turnsAt_150 : decode cX9_turnsAt 150 = .ok (.iconst 0, 1) := by decide +kernel
theorem dX9_turnsAt_151 : decode cX9_turnsAt 151 = .ok (.istore 11, 2) := by decide +kernel
theorem dX9_turnsAt_153 : decode cX9_turnsAt 153 = .ok (.iload 11, 2) := by decide +kernel
theorem dX9_turnsAt_155 : decode cX9_turnsAt 155 = .ok (.ifCond .eq 6, 3) := by decide +kernel
theorem dX9_turnsAt_158 : decode cX9_turnsAt 158 = .ok (.goto (-77), 3) := by decide +kernel
theorem dX9_turnsAt_161 : decode cX9_turnsAt 161 = .ok (.aload_n 0, 1) := by decide +kernel
theorem dX9_turnsAt_162 : decode cX9_turnsAt 162 = .ok (.aload_n 0, 1) := by decide +kernel
theorem dX9_turnsAt_163 : decode cX9_turnsAt 163 = .ok (.iload 10, 2) := by decide +kernel
theorem dX9_turnsAt_165 : decode cX9_turnsAt 165 = .ok (.invokevirtual 233, 3) := by decide +kernel
theorem dX9_turnsAt_168 : decode cX9_turnsAt 168 = .ok (.ineg, 1) := by decide +kernel
theorem dX9_turnsAt_169 : decode cX9_turnsAt 169 = .ok (.i2l, 1) := by decide +kernel
theorem dX9_turnsAt_170 : decode cX9_turnsAt 170 = .ok (.iload 12, 2) := by decide +kernel
theorem dX9_turnsAt_172 : decode cX9_turnsAt 172 = .ok (.i2l, 1) := by decide +kernel
theorem dX9_turnsAt_173 : decode cX9_turnsAt 173 = .ok (.invokevirtual 256, 3) := by decide +kernel
theorem dX9_turnsAt_176 : decode cX9_turnsAt 176 = .ok (.iinc 10 1, 3) := by decide +kernel
theorem dX9_turnsAt_179 : decode cX9_turnsAt 179 = .ok (.goto (-98), 3) := by decide +kernel
theorem dX9_turnsAt_182 : decode cX9_turnsAt 182 = .ok (.aload_n 0, 1) := by decide +kernel
theorem dX9_turnsAt_183 : decode cX9_turnsAt 183 = .ok (.getfield 246, 3) := by decide +kernel
theorem dX9_turnsAt_186 : decode cX9_turnsAt 186 = .ok (.lstore 12, 2) := by decide +kernel
theorem dX9_turnsAt_188 : decode cX9_turnsAt 188 = .ok (.aload_n 0, 1) := by decide +kernel
theorem dX9_turnsAt_189 : decode cX9_turnsAt 189 = .ok (.getfield 243, 3) := by decide +kernel
theorem dX9_turnsAt_192 : decode cX9_turnsAt 192 = .ok (.lstore 14, 2) := by decide +kernel
theorem dX9_turnsAt_194 : decode cX9_turnsAt 194 = .ok (.iload 10, 2) := by decide +kernel
theorem dX9_turnsAt_196 : decode cX9_turnsAt 196 = .ok (.aload_n 0, 1) := by decide +kernel
theorem dX9_turnsAt_197 : decode cX9_turnsAt 197 = .ok (.getfield 34, 3) := by decide +kernel
theorem dX9_turnsAt_200 : decode cX9_turnsAt 200 = .ok (.iconst 1, 1) := by decide +kernel
theorem dX9_turnsAt_201 : decode cX9_turnsAt 201 = .ok (.iaload, 1) := by decide +kernel
theorem dX9_turnsAt_202 : decode cX9_turnsAt 202 = .ok (.if_icmp .ne 39, 3) := by decide +kernel
theorem dX9_turnsAt_205 : decode cX9_turnsAt 205 = .ok (.aload_n 0, 1) := by decide +kernel
theorem dX9_turnsAt_206 : decode cX9_turnsAt 206 = .ok (.lload 6, 2) := by decide +kernel
theorem dX9_turnsAt_208 : decode cX9_turnsAt 208 = .ok (.putfield 246, 3) := by decide +kernel
theorem dX9_turnsAt_211 : decode cX9_turnsAt 211 = .ok (.aload_n 0, 1) := by decide +kernel
theorem dX9_turnsAt_212 : decode cX9_turnsAt 212 = .ok (.lload 8, 2) := by decide +kernel
theorem dX9_turnsAt_214 : decode cX9_turnsAt 214 = .ok (.putfield 243, 3) := by decide +kernel
theorem dX9_turnsAt_217 : decode cX9_turnsAt 217 = .ok (.aload_n 0, 1) := by decide +kernel
theorem dX9_turnsAt_218 : decode cX9_turnsAt 218 = .ok (.iload 4, 2) := by decide +kernel
theorem dX9_turnsAt_220 : decode cX9_turnsAt 220 = .ok (.i2l, 1) := by decide +kernel
theorem dX9_turnsAt_221 : decode cX9_turnsAt 221 = .ok (.lconst 1, 1) := by decide +kernel
theorem dX9_turnsAt_222 : decode cX9_turnsAt 222 = .ok (.invokevirtual 256, 3) := by decide +kernel
theorem dX9_turnsAt_225 : decode cX9_turnsAt 225 = .ok (.iload 5, 2) := by decide +kernel
theorem dX9_turnsAt_227 : decode cX9_turnsAt 227 = .ok (.ifCond .ne 12, 3) := by decide +kernel
theorem dX9_turnsAt_230 : decode cX9_turnsAt 230 = .ok (.aload_n 0, 1) := by decide +kernel
theorem dX9_turnsAt_231 : decode cX9_turnsAt 231 = .ok (.lload 12, 2) := by decide +kernel
theorem dX9_turnsAt_233 : decode cX9_turnsAt 233 = .ok (.lneg, 1) := by decide +kernel
theorem dX9_turnsAt_234 : decode cX9_turnsAt 234 = .ok (.lload 14, 2) := by decide +kernel
theorem dX9_turnsAt_236 : decode cX9_turnsAt 236 = .ok (.invokevirtual 256, 3) := by decide +kernel
theorem dX9_turnsAt_239 : decode cX9_turnsAt 239 = .ok (.iconst 1, 1) := by decide +kernel
theorem dX9_turnsAt_240 : decode cX9_turnsAt 240 = .ok (.ireturn, 1) := by decide +kernel
theorem dX9_turnsAt_241 : decode cX9_turnsAt 241 = .ok (.iload_n 1, 1) := by decide +kernel
theorem dX9_turnsAt_242 : decode cX9_turnsAt 242 = .ok (.aload_n 0, 1) := by decide +kernel
theorem dX9_turnsAt_243 : decode cX9_turnsAt 243 = .ok (.getfield 53, 3) := by decide +kernel
theorem dX9_turnsAt_246 : decode cX9_turnsAt 246 = .ok (.iload 10, 2) := by decide +kernel
theorem dX9_turnsAt_248 : decode cX9_turnsAt 248 = .ok (.iaload, 1) := by decide +kernel
theorem dX9_turnsAt_249 : decode cX9_turnsAt 249 = .ok (.iadd, 1) := by decide +kernel
theorem dX9_turnsAt_250 : decode cX9_turnsAt 250 = .ok (.istore 16, 2) := by decide +kernel
theorem dX9_turnsAt_252 : decode cX9_turnsAt 252 = .ok (.iload 16, 2) := by decide +kernel
theorem dX9_turnsAt_254 : decode cX9_turnsAt 254 = .ok (.ifCond .gt 5, 3) := by decide +kernel
theorem dX9_turnsAt_257 : decode cX9_turnsAt 257 = .ok (.iconst 0, 1) := by decide +kernel
theorem dX9_turnsAt_258 : decode cX9_turnsAt 258 = .ok (.ireturn, 1) := by decide +kernel
theorem dX9_turnsAt_259 : decode cX9_turnsAt 259 = .ok (.aload_n 0, 1) := by decide +kernel
theorem dX9_turnsAt_260 : decode cX9_turnsAt 260 = .ok (.invokevirtual 253, 3) := by decide +kernel
theorem dX9_turnsAt_263 : decode cX9_turnsAt 263 = .ok (.aload_n 0, 1) := by decide +kernel
theorem dX9_turnsAt_264 : decode cX9_turnsAt 264 = .ok (.aload_n 0, 1) := by decide +kernel
theorem dX9_turnsAt_265 : decode cX9_turnsAt 265 = .ok (.iload 10, 2) := by decide +kernel
theorem dX9_turnsAt_267 : decode cX9_turnsAt 267 = .ok (.invokevirtual 233, 3) := by decide +kernel
theorem dX9_turnsAt_270 : decode cX9_turnsAt 270 = .ok (.i2l, 1) := by decide +kernel
theorem dX9_turnsAt_271 : decode cX9_turnsAt 271 = .ok (.iload 16, 2) := by decide +kernel
theorem dX9_turnsAt_273 : decode cX9_turnsAt 273 = .ok (.i2l, 1) := by decide +kernel
theorem dX9_turnsAt_274 : decode cX9_turnsAt 274 = .ok (.invokevirtual 256, 3) := by decide +kernel
theorem dX9_turnsAt_277 : decode cX9_turnsAt 277 = .ok (.iload_n 2, 1) := by decide +kernel
theorem dX9_turnsAt_278 : decode cX9_turnsAt 278 = .ok (.aload_n 0, 1) := by decide +kernel
theorem dX9_turnsAt_279 : decode cX9_turnsAt 279 = .ok (.getfield 53, 3) := by decide +kernel
theorem dX9_turnsAt_282 : decode cX9_turnsAt 282 = .ok (.iload 10, 2) := by decide +kernel
theorem dX9_turnsAt_284 : decode cX9_turnsAt 284 = .ok (.iaload, 1) := by decide +kernel
theorem dX9_turnsAt_285 : decode cX9_turnsAt 285 = .ok (.iadd, 1) := by decide +kernel
theorem dX9_turnsAt_286 : decode cX9_turnsAt 286 = .ok (.istore 17, 2) := by decide +kernel
theorem dX9_turnsAt_288 : decode cX9_turnsAt 288 = .ok (.iload 17, 2) := by decide +kernel
theorem dX9_turnsAt_290 : decode cX9_turnsAt 290 = .ok (.ifCond .le 27, 3) := by decide +kernel
theorem dX9_turnsAt_293 : decode cX9_turnsAt 293 = .ok (.lload 12, 2) := by decide +kernel
theorem dX9_turnsAt_295 : decode cX9_turnsAt 295 = .ok (.lconst 0, 1) := by decide +kernel
theorem dX9_turnsAt_296 : decode cX9_turnsAt 296 = .ok (.lcmp, 1) := by decide +kernel
theorem dX9_turnsAt_297 : decode cX9_turnsAt 297 = .ok (.ifCond .le 20, 3) := by decide +kernel
theorem dX9_turnsAt_300 : decode cX9_turnsAt 300 = .ok (.aload_n 0, 1) := by decide +kernel
theorem dX9_turnsAt_301 : decode cX9_turnsAt 301 = .ok (.lload 12, 2) := by decide +kernel
theorem dX9_turnsAt_303 : decode cX9_turnsAt 303 = .ok (.lneg, 1) := by decide +kernel
theorem dX9_turnsAt_304 : decode cX9_turnsAt 304 = .ok (.iload 17, 2) := by decide +kernel
theorem dX9_turnsAt_306 : decode cX9_turnsAt 306 = .ok (.i2l, 1) := by decide +kernel
theorem dX9_turnsAt_307 : decode cX9_turnsAt 307 = .ok (.lmul, 1) := by decide +kernel
theorem dX9_turnsAt_308 : decode cX9_turnsAt 308 = .ok (.lload 14, 2) := by decide +kernel
theorem dX9_turnsAt_310 : decode cX9_turnsAt 310 = .ok (.iload 16, 2) := by decide +kernel
theorem dX9_turnsAt_312 : decode cX9_turnsAt 312 = .ok (.i2l, 1) := by decide +kernel
theorem dX9_turnsAt_313 : decode cX9_turnsAt 313 = .ok (.lmul, 1) := by decide +kernel
theorem dX9_turnsAt_314 : decode cX9_turnsAt 314 = .ok (.invokevirtual 256, 3) := by decide +kernel
theorem dX9_turnsAt_317 : decode cX9_turnsAt 317 = .ok (.aload_n 0, 1) := by decide +kernel
theorem dX9_turnsAt_318 : decode cX9_turnsAt 318 = .ok (.lload 6, 2) := by decide +kernel
theorem dX9_turnsAt_320 : decode cX9_turnsAt 320 = .ok (.lload 8, 2) := by decide +kernel
theorem dX9_turnsAt_322 : decode cX9_turnsAt 322 = .ok (.invokevirtual 256, 3) := by decide +kernel
theorem dX9_turnsAt_325 : decode cX9_turnsAt 325 = .ok (.aload_n 0, 1) := by decide +kernel
theorem dX9_turnsAt_326 : decode cX9_turnsAt 326 = .ok (.iload 4, 2) := by decide +kernel
theorem dX9_turnsAt_328 : decode cX9_turnsAt 328 = .ok (.i2l, 1) := by decide +kernel
theorem dX9_turnsAt_329 : decode cX9_turnsAt 329 = .ok (.lconst 1, 1) := by decide +kernel
theorem dX9_turnsAt_330 : decode cX9_turnsAt 330 = .ok (.invokevirtual 256, 3) := by decide +kernel
theorem dX9_turnsAt_333 : decode cX9_turnsAt 333 = .ok (.iload 10, 2) := by decide +kernel
theorem dX9_turnsAt_335 : decode cX9_turnsAt 335 = .ok (.iconst 1, 1) := by decide +kernel
theorem dX9_turnsAt_336 : decode cX9_turnsAt 336 = .ok (.iadd, 1) := by decide +kernel
theorem dX9_turnsAt_337 : decode cX9_turnsAt 337 = .ok (.istore 18, 2) := by decide +kernel
theorem dX9_turnsAt_339 : decode cX9_turnsAt 339 = .ok (.iload 18, 2) := by decide +kernel
theorem dX9_turnsAt_341 : decode cX9_turnsAt 341 = .ok (.aload_n 0, 1) := by decide +kernel
theorem dX9_turnsAt_342 : decode cX9_turnsAt 342 = .ok (.getfield 34, 3) := by decide +kernel
theorem dX9_turnsAt_345 : decode cX9_turnsAt 345 = .ok (.iconst 1, 1) := by decide +kernel
theorem dX9_turnsAt_346 : decode cX9_turnsAt 346 = .ok (.iaload, 1) := by decide +kernel
theorem dX9_turnsAt_347 : decode cX9_turnsAt 347 = .ok (.if_icmp .ge 41, 3) := by decide +kernel
theorem dX9_turnsAt_350 : decode cX9_turnsAt 350 = .ok (.iload_n 1, 1) := by decide +kernel
theorem dX9_turnsAt_351 : decode cX9_turnsAt 351 = .ok (.aload_n 0, 1) := by decide +kernel
theorem dX9_turnsAt_352 : decode cX9_turnsAt 352 = .ok (.getfield 53, 3) := by decide +kernel
theorem dX9_turnsAt_355 : decode cX9_turnsAt 355 = .ok (.iload 18, 2) := by decide +kernel
theorem dX9_turnsAt_357 : decode cX9_turnsAt 357 = .ok (.iaload, 1) := by decide +kernel
theorem dX9_turnsAt_358 : decode cX9_turnsAt 358 = .ok (.iadd, 1) := by decide +kernel
theorem dX9_turnsAt_359 : decode cX9_turnsAt 359 = .ok (.istore 19, 2) := by decide +kernel
theorem dX9_turnsAt_361 : decode cX9_turnsAt 361 = .ok (.iload 19, 2) := by decide +kernel
theorem dX9_turnsAt_363 : decode cX9_turnsAt 363 = .ok (.ifCond .gt 5, 3) := by decide +kernel
theorem dX9_turnsAt_366 : decode cX9_turnsAt 366 = .ok (.iconst 0, 1) := by decide +kernel
theorem dX9_turnsAt_367 : decode cX9_turnsAt 367 = .ok (.ireturn, 1) := by decide +kernel
theorem dX9_turnsAt_368 : decode cX9_turnsAt 368 = .ok (.aload_n 0, 1) := by decide +kernel
theorem dX9_turnsAt_369 : decode cX9_turnsAt 369 = .ok (.aload_n 0, 1) := by decide +kernel
theorem dX9_turnsAt_370 : decode cX9_turnsAt 370 = .ok (.iload 18, 2) := by decide +kernel
theorem dX9_turnsAt_372 : decode cX9_turnsAt 372 = .ok (.invokevirtual 233, 3) := by decide +kernel
theorem dX9_turnsAt_375 : decode cX9_turnsAt 375 = .ok (.i2l, 1) := by decide +kernel
theorem dX9_turnsAt_376 : decode cX9_turnsAt 376 = .ok (.iload 19, 2) := by decide +kernel
theorem dX9_turnsAt_378 : decode cX9_turnsAt 378 = .ok (.i2l, 1) := by decide +kernel
theorem dX9_turnsAt_379 : decode cX9_turnsAt 379 = .ok (.invokevirtual 256, 3) := by decide +kernel
theorem dX9_turnsAt_382 : decode cX9_turnsAt 382 = .ok (.iinc 18 1, 3) := by decide +kernel
theorem dX9_turnsAt_385 : decode cX9_turnsAt 385 = .ok (.goto (-46), 3) := by decide +kernel
theorem dX9_turnsAt_388 : decode cX9_turnsAt 388 = .ok (.iconst 1, 1) := by decide +kernel
theorem dX9_turnsAt_389 : decode cX9_turnsAt 389 = .ok (.ireturn, 1) := by decide +kernel
theorem dX9_laysTurns_0 : decode cX9_laysTurns 0 = .ok (.aload_n 0, 1) := by decide +kernel
theorem dX9_laysTurns_1 : decode cX9_laysTurns 1 = .ok (.iconst (-1), 1) := by decide +kernel
theorem dX9_laysTurns_2 : decode cX9_laysTurns 2 = .ok (.putfield 288, 3) := by decide +kernel
theorem dX9_laysTurns_5 : decode cX9_laysTurns 5 = .ok (.iconst 0, 1) := by decide +kernel
theorem dX9_laysTurns_6 : decode cX9_laysTurns 6 = .ok (.istore 5, 2) := by decide +kernel
theorem dX9_laysTurns_8 : decode cX9_laysTurns 8 = .ok (.iload 5, 2) := by decide +kernel
theorem dX9_laysTurns_10 : decode cX9_laysTurns 10 = .ok (.aload_n 0, 1) := by decide +kernel
theorem dX9_laysTurns_11 : decode cX9_laysTurns 11 = .ok (.getfield 34, 3) := by decide +kernel
theorem dX9_laysTurns_14 : decode cX9_laysTurns 14 = .ok (.iconst 1, 1) := by decide +kernel
theorem dX9_laysTurns_15 : decode cX9_laysTurns 15 = .ok (.iaload, 1) := by decide +kernel
theorem dX9_laysTurns_16 : decode cX9_laysTurns 16 = .ok (.if_icmp .ge 29, 3) := by decide +kernel
theorem dX9_laysTurns_19 : decode cX9_laysTurns 19 = .ok (.aload_n 0, 1) := by decide +kernel
theorem dX9_laysTurns_20 : decode cX9_laysTurns 20 = .ok (.iload_n 1, 1) := by decide +kernel
theorem dX9_laysTurns_21 : decode cX9_laysTurns 21 = .ok (.iload_n 2, 1) := by decide +kernel
theorem dX9_laysTurns_22 : decode cX9_laysTurns 22 = .ok (.iload 5, 2) := by decide +kernel
theorem dX9_laysTurns_24 : decode cX9_laysTurns 24 = .ok (.iload_n 3, 1) := by decide +kernel
theorem dX9_laysTurns_25 : decode cX9_laysTurns 25 = .ok (.iload 4, 2) := by decide +kernel
theorem dX9_laysTurns_27 : decode cX9_laysTurns 27 = .ok (.invokevirtual 303, 3) := by decide +kernel
theorem dX9_laysTurns_30 : decode cX9_laysTurns 30 = .ok (.ifCond .eq 9, 3) := by decide +kernel
theorem dX9_laysTurns_33 : decode cX9_laysTurns 33 = .ok (.aload_n 0, 1) := by decide +kernel
theorem dX9_laysTurns_34 : decode cX9_laysTurns 34 = .ok (.iload 5, 2) := by decide +kernel
theorem dX9_laysTurns_36 : decode cX9_laysTurns 36 = .ok (.invokevirtual 300, 3) := by decide +kernel
theorem dX9_laysTurns_39 : decode cX9_laysTurns 39 = .ok (.iinc 5 1, 3) := by decide +kernel
theorem dX9_laysTurns_42 : decode cX9_laysTurns 42 = .ok (.goto (-34), 3) := by decide +kernel
theorem dX9_laysTurns_45 : decode cX9_laysTurns 45 = .ok (.return_, 1) := by decide +kernel
theorem dX9_isTurn_0 : decode cX9_isTurn 0 = .ok (.aload_n 0, 1) := by decide +kernel
theorem dX9_isTurn_1 : decode cX9_isTurn 1 = .ok (.iload_n 1, 1) := by decide +kernel
theorem dX9_isTurn_2 : decode cX9_isTurn 2 = .ok (.iload_n 3, 1) := by decide +kernel
theorem dX9_isTurn_3 : decode cX9_isTurn 3 = .ok (.invokevirtual 263, 3) := by decide +kernel
theorem dX9_isTurn_6 : decode cX9_isTurn 6 = .ok (.ifCond .eq 28, 3) := by decide +kernel
theorem dX9_isTurn_9 : decode cX9_isTurn 9 = .ok (.iload_n 2, 1) := by decide +kernel
theorem dX9_isTurn_10 : decode cX9_isTurn 10 = .ok (.i2l, 1) := by decide +kernel
theorem dX9_isTurn_11 : decode cX9_isTurn 11 = .ok (.lconst 0, 1) := by decide +kernel
theorem dX9_isTurn_12 : decode cX9_isTurn 12 = .ok (.ldc2_w 276, 3) := by decide +kernel
theorem dX9_isTurn_15 : decode cX9_isTurn 15 = .ok (.invokestatic 76, 3) := by decide +kernel
theorem dX9_isTurn_18 : decode cX9_isTurn 18 = .ok (.ifCond .eq 16, 3) := by decide +kernel
theorem dX9_isTurn_21 : decode cX9_isTurn 21 = .ok (.aload_n 0, 1) := by decide +kernel
theorem dX9_isTurn_22 : decode cX9_isTurn 22 = .ok (.getfield 34, 3) := by decide +kernel
theorem dX9_isTurn_25 : decode cX9_isTurn 25 = .ok (.iconst 1, 1) := by decide +kernel
theorem dX9_isTurn_26 : decode cX9_isTurn 26 = .ok (.iaload, 1) := by decide +kernel
theorem dX9_isTurn_27 : decode cX9_isTurn 27 = .ok (.ifCond .le 7, 3) := by decide +kernel
theorem dX9_isTurn_30 : decode cX9_isTurn 30 = .ok (.iconst 1, 1) := by decide +kernel
theorem dX9_isTurn_31 : decode cX9_isTurn 31 = .ok (.goto 4, 3) := by decide +kernel
theorem dX9_isTurn_34 : decode cX9_isTurn 34 = .ok (.iconst 0, 1) := by decide +kernel
theorem dX9_isTurn_35 : decode cX9_isTurn 35 = .ok (.ireturn, 1) := by decide +kernel
theorem dX9_lace_0 : decode cX9_lace 0 = .ok (.aload_n 0, 1) := by decide +kernel
theorem dX9_lace_1 : decode cX9_lace 1 = .ok (.iconst 0, 1) := by decide +kernel
theorem dX9_lace_2 : decode cX9_lace 2 = .ok (.putfield 71, 3) := by decide +kernel
theorem dX9_lace_5 : decode cX9_lace 5 = .ok (.aload_n 0, 1) := by decide +kernel
theorem dX9_lace_6 : decode cX9_lace 6 = .ok (.iload_n 1, 1) := by decide +kernel
theorem dX9_lace_7 : decode cX9_lace 7 = .ok (.iload_n 2, 1) := by decide +kernel
theorem dX9_lace_8 : decode cX9_lace 8 = .ok (.iload_n 3, 1) := by decide +kernel
theorem dX9_lace_9 : decode cX9_lace 9 = .ok (.invokevirtual 307, 3) := by decide +kernel
theorem dX9_lace_12 : decode cX9_lace 12 = .ok (.ifCond .ne 7, 3) := by decide +kernel
theorem dX9_lace_15 : decode cX9_lace 15 = .ok (.ldc2_w 267, 3) := by decide +kernel
theorem dX9_lace_18 : decode cX9_lace 18 = .ok (.lreturn, 1) := by decide +kernel
theorem dX9_lace_19 : decode cX9_lace 19 = .ok (.aload_n 0, 1) := by decide +kernel
theorem dX9_lace_20 : decode cX9_lace 20 = .ok (.aload_n 0, 1) := by decide +kernel
theorem dX9_lace_21 : decode cX9_lace 21 = .ok (.getfield 40, 3) := by decide +kernel
theorem dX9_lace_24 : decode cX9_lace 24 = .ok (.iload_n 1, 1) := by decide +kernel
theorem dX9_lace_25 : decode cX9_lace 25 = .ok (.iaload, 1) := by decide +kernel
theorem dX9_lace_26 : decode cX9_lace 26 = .ok (.iconst 0, 1) := by decide +kernel
theorem dX9_lace_27 : decode cX9_lace 27 = .ok (.iload_n 2, 1) := by decide +kernel
theorem dX9_lace_28 : decode cX9_lace 28 = .ok (.iconst 1, 1) := by decide +kernel
theorem dX9_lace_29 : decode cX9_lace 29 = .ok (.invokevirtual 310, 3) := by decide +kernel
theorem dX9_lace_32 : decode cX9_lace 32 = .ok (.aload_n 0, 1) := by decide +kernel
theorem dX9_lace_33 : decode cX9_lace 33 = .ok (.getfield 288, 3) := by decide +kernel
theorem dX9_lace_36 : decode cX9_lace 36 = .ok (.iconst (-1), 1) := by decide +kernel
theorem dX9_lace_37 : decode cX9_lace 37 = .ok (.if_icmp .ne 9, 3) := by decide +kernel
theorem dX9_lace_40 : decode cX9_lace 40 = .ok (.ldc2_w 115, 3) := by decide +kernel
theorem dX9_lace_43 : decode cX9_lace 43 = .ok (.goto 18, 3) := by decide +kernel
theorem dX9_lace_46 : decode cX9_lace 46 = .ok (.iload_n 3, 1) := by decide +kernel
theorem dX9_lace_47 : decode cX9_lace 47 = .ok (.ifCond .ne 10, 3) := by decide +kernel
theorem dX9_lace_50 : decode cX9_lace 50 = .ok (.aload_n 0, 1) := by decide +kernel
theorem dX9_lace_51 : decode cX9_lace 51 = .ok (.getfield 291, 3) := by decide +kernel
theorem dX9_lace_54 : decode cX9_lace 54 = .ok (.goto 7, 3) := by decide +kernel
theorem dX9_lace_57 : decode cX9_lace 57 = .ok (.aload_n 0, 1) := by decide +kernel
theorem dX9_lace_58 : decode cX9_lace 58 = .ok (.getfield 294, 3) := by decide +kernel
theorem dX9_lace_61 : decode cX9_lace 61 = .ok (.lreturn, 1) := by decide +kernel
theorem dX9_ties_0 : decode cX9_ties 0 = .ok (.aload_n 0, 1) := by decide +kernel
theorem dX9_ties_1 : decode cX9_ties 1 = .ok (.iconst 0, 1) := by decide +kernel
theorem dX9_ties_2 : decode cX9_ties 2 = .ok (.putfield 71, 3) := by decide +kernel
theorem dX9_ties_5 : decode cX9_ties 5 = .ok (.aload_n 0, 1) := by decide +kernel
theorem dX9_ties_6 : decode cX9_ties 6 = .ok (.iload_n 1, 1) := by decide +kernel
theorem dX9_ties_7 : decode cX9_ties 7 = .ok (.iload_n 2, 1) := by decide +kernel
theorem dX9_ties_8 : decode cX9_ties 8 = .ok (.iconst 0, 1) := by decide +kernel
theorem dX9_ties_9 : decode cX9_ties 9 = .ok (.invokevirtual 307, 3) := by decide +kernel
theorem dX9_ties_12 : decode cX9_ties 12 = .ok (.ifCond .ne 6, 3) := by decide +kernel
theorem dX9_ties_15 : decode cX9_ties 15 = .ok (.bipush (-2), 2) := by decide +kernel
theorem dX9_ties_17 : decode cX9_ties 17 = .ok (.ireturn, 1) := by decide +kernel
theorem dX9_ties_18 : decode cX9_ties 18 = .ok (.aload_n 0, 1) := by decide +kernel
theorem dX9_ties_19 : decode cX9_ties 19 = .ok (.aload_n 0, 1) := by decide +kernel
theorem dX9_ties_20 : decode cX9_ties 20 = .ok (.getfield 40, 3) := by decide +kernel
theorem dX9_ties_23 : decode cX9_ties 23 = .ok (.iload_n 1, 1) := by decide +kernel
theorem dX9_ties_24 : decode cX9_ties 24 = .ok (.iaload, 1) := by decide +kernel
theorem dX9_ties_25 : decode cX9_ties 25 = .ok (.iconst 0, 1) := by decide +kernel
theorem dX9_ties_26 : decode cX9_ties 26 = .ok (.iload_n 2, 1) := by decide +kernel
theorem dX9_ties_27 : decode cX9_ties 27 = .ok (.iconst 1, 1) := by decide +kernel
theorem dX9_ties_28 : decode cX9_ties 28 = .ok (.invokevirtual 310, 3) := by decide +kernel
theorem dX9_ties_31 : decode cX9_ties 31 = .ok (.aload_n 0, 1) := by decide +kernel
theorem dX9_ties_32 : decode cX9_ties 32 = .ok (.getfield 288, 3) := by decide +kernel
theorem dX9_ties_35 : decode cX9_ties 35 = .ok (.ireturn, 1) := by decide +kernel
theorem dX9_saves_0 : decode cX9_saves 0 = .ok (.aload_n 0, 1) := by decide +kernel
theorem dX9_saves_1 : decode cX9_saves 1 = .ok (.iconst 0, 1) := by decide +kernel
theorem dX9_saves_2 : decode cX9_saves 2 = .ok (.putfield 71, 3) := by decide +kernel
theorem dX9_saves_5 : decode cX9_saves 5 = .ok (.aload_n 0, 1) := by decide +kernel
theorem dX9_saves_6 : decode cX9_saves 6 = .ok (.iload_n 1, 1) := by decide +kernel
theorem dX9_saves_7 : decode cX9_saves 7 = .ok (.iload_n 2, 1) := by decide +kernel
theorem dX9_saves_8 : decode cX9_saves 8 = .ok (.iload_n 3, 1) := by decide +kernel
theorem dX9_saves_9 : decode cX9_saves 9 = .ok (.invokevirtual 307, 3) := by decide +kernel
theorem dX9_saves_12 : decode cX9_saves 12 = .ok (.ifCond .ne 7, 3) := by decide +kernel
theorem dX9_saves_15 : decode cX9_saves 15 = .ok (.ldc2_w 267, 3) := by decide +kernel
theorem dX9_saves_18 : decode cX9_saves 18 = .ok (.lreturn, 1) := by decide +kernel
theorem dX9_saves_19 : decode cX9_saves 19 = .ok (.aload_n 0, 1) := by decide +kernel
theorem dX9_saves_20 : decode cX9_saves 20 = .ok (.aload_n 0, 1) := by decide +kernel
theorem dX9_saves_21 : decode cX9_saves 21 = .ok (.getfield 40, 3) := by decide +kernel
theorem dX9_saves_24 : decode cX9_saves 24 = .ok (.iload_n 1, 1) := by decide +kernel
theorem dX9_saves_25 : decode cX9_saves 25 = .ok (.iaload, 1) := by decide +kernel
theorem dX9_saves_26 : decode cX9_saves 26 = .ok (.iconst 0, 1) := by decide +kernel
theorem dX9_saves_27 : decode cX9_saves 27 = .ok (.iload_n 2, 1) := by decide +kernel
theorem dX9_saves_28 : decode cX9_saves 28 = .ok (.iconst 1, 1) := by decide +kernel
theorem dX9_saves_29 : decode cX9_saves 29 = .ok (.invokevirtual 310, 3) := by decide +kernel
theorem dX9_saves_32 : decode cX9_saves 32 = .ok (.aload_n 0, 1) := by decide +kernel
theorem dX9_saves_33 : decode cX9_saves 33 = .ok (.getfield 288, 3) := by decide +kernel
theorem dX9_saves_36 : decode cX9_saves 36 = .ok (.iconst (-1), 1) := by decide +kernel
theorem dX9_saves_37 : decode cX9_saves 37 = .ok (.if_icmp .eq 17, 3) := by decide +kernel
theorem dX9_saves_40 : decode cX9_saves 40 = .ok (.aload_n 0, 1) := by decide +kernel
theorem dX9_saves_41 : decode cX9_saves 41 = .ok (.aload_n 0, 1) := by decide +kernel
theorem dX9_saves_42 : decode cX9_saves 42 = .ok (.getfield 40, 3) := by decide +kernel
theorem dX9_saves_45 : decode cX9_saves 45 = .ok (.iload_n 1, 1) := by decide +kernel
theorem dX9_saves_46 : decode cX9_saves 46 = .ok (.iaload, 1) := by decide +kernel
theorem dX9_saves_47 : decode cX9_saves 47 = .ok (.iconst 1, 1) := by decide +kernel
theorem dX9_saves_48 : decode cX9_saves 48 = .ok (.invokevirtual 269, 3) := by decide +kernel
theorem dX9_saves_51 : decode cX9_saves 51 = .ok (.ifCond .ne 7, 3) := by decide +kernel
theorem dX9_saves_54 : decode cX9_saves 54 = .ok (.ldc2_w 115, 3) := by decide +kernel
theorem dX9_saves_57 : decode cX9_saves 57 = .ok (.lreturn, 1) := by decide +kernel
theorem dX9_saves_58 : decode cX9_saves 58 = .ok (.aload_n 0, 1) := by decide +kernel
theorem dX9_saves_59 : decode cX9_saves 59 = .ok (.iload_n 2, 1) := by decide +kernel
theorem dX9_saves_60 : decode cX9_saves 60 = .ok (.i2l, 1) := by decide +kernel
theorem dX9_saves_61 : decode cX9_saves 61 = .ok (.lconst 1, 1) := by decide +kernel
theorem dX9_saves_62 : decode cX9_saves 62 = .ok (.invokevirtual 256, 3) := by decide +kernel
theorem dX9_saves_65 : decode cX9_saves 65 = .ok (.aload_n 0, 1) := by decide +kernel
theorem dX9_saves_66 : decode cX9_saves 66 = .ok (.aload_n 0, 1) := by decide +kernel
theorem dX9_saves_67 : decode cX9_saves 67 = .ok (.getfield 291, 3) := by decide +kernel
theorem dX9_saves_70 : decode cX9_saves 70 = .ok (.lneg, 1) := by decide +kernel
theorem dX9_saves_71 : decode cX9_saves 71 = .ok (.aload_n 0, 1) := by decide +kernel
theorem dX9_saves_72 : decode cX9_saves 72 = .ok (.getfield 294, 3) := by decide +kernel
theorem dX9_saves_75 : decode cX9_saves 75 = .ok (.invokevirtual 256, 3) := by decide +kernel
theorem dX9_saves_78 : decode cX9_saves 78 = .ok (.aload_n 0, 1) := by decide +kernel
theorem dX9_saves_79 : decode cX9_saves 79 = .ok (.iload_n 3, 1) := by decide +kernel
theorem dX9_saves_80 : decode cX9_saves 80 = .ok (.invokevirtual 272, 3) := by decide +kernel
theorem dX9_saves_83 : decode cX9_saves 83 = .ok (.lreturn, 1) := by decide +kernel
theorem dX9_spurt_0 : decode cX9_spurt 0 = .ok (.aload_n 0, 1) := by decide +kernel
theorem dX9_spurt_1 : decode cX9_spurt 1 = .ok (.iconst 0, 1) := by decide +kernel
theorem dX9_spurt_2 : decode cX9_spurt 2 = .ok (.putfield 71, 3) := by decide +kernel
theorem dX9_spurt_5 : decode cX9_spurt 5 = .ok (.aload_n 0, 1) := by decide +kernel
theorem dX9_spurt_6 : decode cX9_spurt 6 = .ok (.iload_n 1, 1) := by decide +kernel
theorem dX9_spurt_7 : decode cX9_spurt 7 = .ok (.iload_n 3, 1) := by decide +kernel
theorem dX9_spurt_8 : decode cX9_spurt 8 = .ok (.iload 4, 2) := by decide +kernel
theorem dX9_spurt_10 : decode cX9_spurt 10 = .ok (.invokevirtual 307, 3) := by decide +kernel
theorem dX9_spurt_13 : decode cX9_spurt 13 = .ok (.ifCond .eq 15, 3) := by decide +kernel
theorem dX9_spurt_16 : decode cX9_spurt 16 = .ok (.iload_n 2, 1) := by decide +kernel
theorem dX9_spurt_17 : decode cX9_spurt 17 = .ok (.i2l, 1) := by decide +kernel
theorem dX9_spurt_18 : decode cX9_spurt 18 = .ok (.lconst 0, 1) := by decide +kernel
theorem dX9_spurt_19 : decode cX9_spurt 19 = .ok (.ldc2_w 314, 3) := by decide +kernel
theorem dX9_spurt_22 : decode cX9_spurt 22 = .ok (.invokestatic 76, 3) := by decide +kernel
theorem dX9_spurt_25 : decode cX9_spurt 25 = .ok (.ifCond .ne 7, 3) := by decide +kernel
theorem dX9_spurt_28 : decode cX9_spurt 28 = .ok (.ldc2_w 267, 3) := by decide +kernel
theorem dX9_spurt_31 : decode cX9_spurt 31 = .ok (.lreturn, 1) := by decide +kernel
theorem dX9_spurt_32 : decode cX9_spurt 32 = .ok (.aload_n 0, 1) := by decide +kernel
theorem dX9_spurt_33 : decode cX9_spurt 33 = .ok (.aload_n 0, 1) := by decide +kernel
theorem dX9_spurt_34 : decode cX9_spurt 34 = .ok (.getfield 40, 3) := by decide +kernel
theorem dX9_spurt_37 : decode cX9_spurt 37 = .ok (.iload_n 1, 1) := by decide +kernel
theorem dX9_spurt_38 : decode cX9_spurt 38 = .ok (.iaload, 1) := by decide +kernel
theorem dX9_spurt_39 : decode cX9_spurt 39 = .ok (.aload_n 0, 1) := by decide +kernel
theorem dX9_spurt_40 : decode cX9_spurt 40 = .ok (.getfield 40, 3) := by decide +kernel
theorem dX9_spurt_43 : decode cX9_spurt 43 = .ok (.iload_n 1, 1) := by decide +kernel
theorem dX9_spurt_44 : decode cX9_spurt 44 = .ok (.iaload, 1) := by decide +kernel
theorem dX9_spurt_45 : decode cX9_spurt 45 = .ok (.iload_n 2, 1) := by decide +kernel
theorem dX9_spurt_46 : decode cX9_spurt 46 = .ok (.iadd, 1) := by decide +kernel
theorem dX9_spurt_47 : decode cX9_spurt 47 = .ok (.iload_n 3, 1) := by decide +kernel
theorem dX9_spurt_48 : decode cX9_spurt 48 = .ok (.iconst 0, 1) := by decide +kernel
theorem dX9_spurt_49 : decode cX9_spurt 49 = .ok (.invokevirtual 310, 3) := by decide +kernel
theorem dX9_spurt_52 : decode cX9_spurt 52 = .ok (.aload_n 0, 1) := by decide +kernel
theorem dX9_spurt_53 : decode cX9_spurt 53 = .ok (.getfield 288, 3) := by decide +kernel
theorem dX9_spurt_56 : decode cX9_spurt 56 = .ok (.iconst (-1), 1) := by decide +kernel
theorem dX9_spurt_57 : decode cX9_spurt 57 = .ok (.if_icmp .ne 9, 3) := by decide +kernel
theorem dX9_spurt_60 : decode cX9_spurt 60 = .ok (.ldc2_w 115, 3) := by decide +kernel
theorem dX9_spurt_63 : decode cX9_spurt 63 = .ok (.goto 19, 3) := by decide +kernel
theorem dX9_spurt_66 : decode cX9_spurt 66 = .ok (.iload 4, 2) := by decide +kernel
theorem dX9_spurt_68 : decode cX9_spurt 68 = .ok (.ifCond .ne 10, 3) := by decide +kernel
theorem dX9_spurt_71 : decode cX9_spurt 71 = .ok (.aload_n 0, 1) := by decide +kernel
theorem dX9_spurt_72 : decode cX9_spurt 72 = .ok (.getfield 291, 3) := by decide +kernel
theorem dX9_spurt_75 : decode cX9_spurt 75 = .ok (.goto 7, 3) := by decide +kernel
theorem dX9_spurt_78 : decode cX9_spurt 78 = .ok (.aload_n 0, 1) := by decide +kernel
theorem dX9_spurt_79 : decode cX9_spurt 79 = .ok (.getfield 294, 3) := by decide +kernel
theorem dX9_spurt_82 : decode cX9_spurt 82 = .ok (.lreturn, 1) := by decide +kernel
theorem dX9_runs_0 : decode cX9_runs 0 = .ok (.aload_n 0, 1) := by decide +kernel
theorem dX9_runs_1 : decode cX9_runs 1 = .ok (.iconst 0, 1) := by decide +kernel
theorem dX9_runs_2 : decode cX9_runs 2 = .ok (.putfield 71, 3) := by decide +kernel
theorem dX9_runs_5 : decode cX9_runs 5 = .ok (.aload_n 0, 1) := by decide +kernel
theorem dX9_runs_6 : decode cX9_runs 6 = .ok (.iload_n 1, 1) := by decide +kernel
theorem dX9_runs_7 : decode cX9_runs 7 = .ok (.iload_n 3, 1) := by decide +kernel
theorem dX9_runs_8 : decode cX9_runs 8 = .ok (.iconst 0, 1) := by decide +kernel
theorem dX9_runs_9 : decode cX9_runs 9 = .ok (.invokevirtual 307, 3) := by decide +kernel
theorem dX9_runs_12 : decode cX9_runs 12 = .ok (.ifCond .eq 15, 3) := by decide +kernel
theorem dX9_runs_15 : decode cX9_runs 15 = .ok (.iload_n 2, 1) := by decide +kernel
theorem dX9_runs_16 : decode cX9_runs 16 = .ok (.i2l, 1) := by decide +kernel
theorem dX9_runs_17 : decode cX9_runs 17 = .ok (.lconst 0, 1) := by decide +kernel
theorem dX9_runs_18 : decode cX9_runs 18 = .ok (.ldc2_w 314, 3) := by decide +kernel
theorem dX9_runs_21 : decode cX9_runs 21 = .ok (.invokestatic 76, 3) := by decide +kernel
theorem dX9_runs_24 : decode cX9_runs 24 = .ok (.ifCond .ne 6, 3) := by decide +kernel
theorem dX9_runs_27 : decode cX9_runs 27 = .ok (.bipush (-2), 2) := by decide +kernel
theorem dX9_runs_29 : decode cX9_runs 29 = .ok (.ireturn, 1) := by decide +kernel
theorem dX9_runs_30 : decode cX9_runs 30 = .ok (.aload_n 0, 1) := by decide +kernel
theorem dX9_runs_31 : decode cX9_runs 31 = .ok (.aload_n 0, 1) := by decide +kernel
theorem dX9_runs_32 : decode cX9_runs 32 = .ok (.getfield 40, 3) := by decide +kernel
theorem dX9_runs_35 : decode cX9_runs 35 = .ok (.iload_n 1, 1) := by decide +kernel
theorem dX9_runs_36 : decode cX9_runs 36 = .ok (.iaload, 1) := by decide +kernel
theorem dX9_runs_37 : decode cX9_runs 37 = .ok (.aload_n 0, 1) := by decide +kernel
theorem dX9_runs_38 : decode cX9_runs 38 = .ok (.getfield 40, 3) := by decide +kernel
theorem dX9_runs_41 : decode cX9_runs 41 = .ok (.iload_n 1, 1) := by decide +kernel
theorem dX9_runs_42 : decode cX9_runs 42 = .ok (.iaload, 1) := by decide +kernel
theorem dX9_runs_43 : decode cX9_runs 43 = .ok (.iload_n 2, 1) := by decide +kernel
theorem dX9_runs_44 : decode cX9_runs 44 = .ok (.iadd, 1) := by decide +kernel
theorem dX9_runs_45 : decode cX9_runs 45 = .ok (.iload_n 3, 1) := by decide +kernel
theorem dX9_runs_46 : decode cX9_runs 46 = .ok (.iconst 0, 1) := by decide +kernel
theorem dX9_runs_47 : decode cX9_runs 47 = .ok (.invokevirtual 310, 3) := by decide +kernel
theorem dX9_runs_50 : decode cX9_runs 50 = .ok (.aload_n 0, 1) := by decide +kernel
theorem dX9_runs_51 : decode cX9_runs 51 = .ok (.getfield 288, 3) := by decide +kernel
theorem dX9_runs_54 : decode cX9_runs 54 = .ok (.ireturn, 1) := by decide +kernel
theorem dX9_isTrain_0 : decode cX9_isTrain 0 = .ok (.aload_n 0, 1) := by decide +kernel
theorem dX9_isTrain_1 : decode cX9_isTrain 1 = .ok (.iload_n 1, 1) := by decide +kernel
theorem dX9_isTrain_2 : decode cX9_isTrain 2 = .ok (.iconst 0, 1) := by decide +kernel
theorem dX9_isTrain_3 : decode cX9_isTrain 3 = .ok (.invokevirtual 263, 3) := by decide +kernel
theorem dX9_isTrain_6 : decode cX9_isTrain 6 = .ok (.ifCond .eq 19, 3) := by decide +kernel
theorem dX9_isTrain_9 : decode cX9_isTrain 9 = .ok (.iload_n 2, 1) := by decide +kernel
theorem dX9_isTrain_10 : decode cX9_isTrain 10 = .ok (.i2l, 1) := by decide +kernel
theorem dX9_isTrain_11 : decode cX9_isTrain 11 = .ok (.lconst 0, 1) := by decide +kernel
theorem dX9_isTrain_12 : decode cX9_isTrain 12 = .ok (.ldc2_w 316, 3) := by decide +kernel
theorem dX9_isTrain_15 : decode cX9_isTrain 15 = .ok (.invokestatic 76, 3) := by decide +kernel
theorem dX9_isTrain_18 : decode cX9_isTrain 18 = .ok (.ifCond .eq 7, 3) := by decide +kernel
theorem dX9_isTrain_21 : decode cX9_isTrain 21 = .ok (.iconst 1, 1) := by decide +kernel
theorem dX9_isTrain_22 : decode cX9_isTrain 22 = .ok (.goto 4, 3) := by decide +kernel
theorem dX9_isTrain_25 : decode cX9_isTrain 25 = .ok (.iconst 0, 1) := by decide +kernel
theorem dX9_isTrain_26 : decode cX9_isTrain 26 = .ok (.ireturn, 1) := by decide +kernel
theorem dX9_train_0 : decode cX9_train 0 = .ok (.aload_n 0, 1) := by decide +kernel
theorem dX9_train_1 : decode cX9_train 1 = .ok (.iconst 0, 1) := by decide +kernel
theorem dX9_train_2 : decode cX9_train 2 = .ok (.putfield 71, 3) := by decide +kernel
theorem dX9_train_5 : decode cX9_train 5 = .ok (.aload_n 0, 1) := by decide +kernel
theorem dX9_train_6 : decode cX9_train 6 = .ok (.iload_n 1, 1) := by decide +kernel
theorem dX9_train_7 : decode cX9_train 7 = .ok (.iload_n 2, 1) := by decide +kernel
theorem dX9_train_8 : decode cX9_train 8 = .ok (.invokevirtual 318, 3) := by decide +kernel
theorem dX9_train_11 : decode cX9_train 11 = .ok (.ifCond .ne 6, 3) := by decide +kernel
theorem dX9_train_14 : decode cX9_train 14 = .ok (.bipush (-2), 2) := by decide +kernel
theorem dX9_train_16 : decode cX9_train 16 = .ok (.ireturn, 1) := by decide +kernel
theorem dX9_train_17 : decode cX9_train 17 = .ok (.iconst 0, 1) := by decide +kernel
theorem dX9_train_18 : decode cX9_train 18 = .ok (.istore_n 3, 1) := by decide +kernel
theorem dX9_train_19 : decode cX9_train 19 = .ok (.iload_n 3, 1) := by decide +kernel
theorem dX9_train_20 : decode cX9_train 20 = .ok (.bipush 30, 2) := by decide +kernel
theorem dX9_train_22 : decode cX9_train 22 = .ok (.if_icmp .gt 42, 3) := by decide +kernel
theorem dX9_train_25 : decode cX9_train 25 = .ok (.aload_n 0, 1) := by decide +kernel
theorem dX9_train_26 : decode cX9_train 26 = .ok (.aload_n 0, 1) := by decide +kernel
theorem dX9_train_27 : decode cX9_train 27 = .ok (.getfield 40, 3) := by decide +kernel
theorem dX9_train_30 : decode cX9_train 30 = .ok (.iload_n 1, 1) := by decide +kernel
theorem dX9_train_31 : decode cX9_train 31 = .ok (.iaload, 1) := by decide +kernel
theorem dX9_train_32 : decode cX9_train 32 = .ok (.iload_n 3, 1) := by decide +kernel
theorem dX9_train_33 : decode cX9_train 33 = .ok (.iadd, 1) := by decide +kernel
theorem dX9_train_34 : decode cX9_train 34 = .ok (.iconst 1, 1) := by decide +kernel
theorem dX9_train_35 : decode cX9_train 35 = .ok (.invokevirtual 269, 3) := by decide +kernel
theorem dX9_train_38 : decode cX9_train 38 = .ok (.ifCond .eq 20, 3) := by decide +kernel
theorem dX9_train_41 : decode cX9_train 41 = .ok (.aload_n 0, 1) := by decide +kernel
theorem dX9_train_42 : decode cX9_train 42 = .ok (.getfield 246, 3) := by decide +kernel
theorem dX9_train_45 : decode cX9_train 45 = .ok (.iload_n 2, 1) := by decide +kernel
theorem dX9_train_46 : decode cX9_train 46 = .ok (.i2l, 1) := by decide +kernel
theorem dX9_train_47 : decode cX9_train 47 = .ok (.aload_n 0, 1) := by decide +kernel
theorem dX9_train_48 : decode cX9_train 48 = .ok (.getfield 243, 3) := by decide +kernel
theorem dX9_train_51 : decode cX9_train 51 = .ok (.lmul, 1) := by decide +kernel
theorem dX9_train_52 : decode cX9_train 52 = .ok (.lcmp, 1) := by decide +kernel
theorem dX9_train_53 : decode cX9_train 53 = .ok (.ifCond .gt 5, 3) := by decide +kernel
theorem dX9_train_56 : decode cX9_train 56 = .ok (.iload_n 3, 1) := by decide +kernel
theorem dX9_train_57 : decode cX9_train 57 = .ok (.ireturn, 1) := by decide +kernel
theorem dX9_train_58 : decode cX9_train 58 = .ok (.iinc 3 1, 3) := by decide +kernel
theorem dX9_train_61 : decode cX9_train 61 = .ok (.goto (-42), 3) := by decide +kernel
theorem dX9_train_64 : decode cX9_train 64 = .ok (.iconst (-1), 1) := by decide +kernel
theorem dX9_train_65 : decode cX9_train 65 = .ok (.ireturn, 1) := by decide +kernel
theorem dX9_miss_0 : decode cX9_miss 0 = .ok (.aload_n 0, 1) := by decide +kernel
theorem dX9_miss_1 : decode cX9_miss 1 = .ok (.iconst 0, 1) := by decide +kernel
theorem dX9_miss_2 : decode cX9_miss 2 = .ok (.putfield 71, 3) := by decide +kernel
theorem dX9_miss_5 : decode cX9_miss 5 = .ok (.aload_n 0, 1) := by decide +kernel
theorem dX9_miss_6 : decode cX9_miss 6 = .ok (.iload_n 1, 1) := by decide +kernel
theorem dX9_miss_7 : decode cX9_miss 7 = .ok (.iload_n 2, 1) := by decide +kernel
theorem dX9_miss_8 : decode cX9_miss 8 = .ok (.invokevirtual 318, 3) := by decide +kernel
theorem dX9_miss_11 : decode cX9_miss 11 = .ok (.ifCond .ne 6, 3) := by decide +kernel
theorem dX9_miss_14 : decode cX9_miss 14 = .ok (.bipush (-2), 2) := by decide +kernel
theorem dX9_miss_16 : decode cX9_miss 16 = .ok (.ireturn, 1) := by decide +kernel
theorem dX9_miss_17 : decode cX9_miss 17 = .ok (.aload_n 0, 1) := by decide +kernel
theorem dX9_miss_18 : decode cX9_miss 18 = .ok (.aload_n 0, 1) := by decide +kernel
theorem dX9_miss_19 : decode cX9_miss 19 = .ok (.getfield 40, 3) := by decide +kernel
theorem dX9_miss_22 : decode cX9_miss 22 = .ok (.iload_n 1, 1) := by decide +kernel
theorem dX9_miss_23 : decode cX9_miss 23 = .ok (.iaload, 1) := by decide +kernel
theorem dX9_miss_24 : decode cX9_miss 24 = .ok (.iconst 1, 1) := by decide +kernel
theorem dX9_miss_25 : decode cX9_miss 25 = .ok (.invokevirtual 269, 3) := by decide +kernel
theorem dX9_miss_28 : decode cX9_miss 28 = .ok (.ifCond .ne 5, 3) := by decide +kernel
theorem dX9_miss_31 : decode cX9_miss 31 = .ok (.iconst (-1), 1) := by decide +kernel
theorem dX9_miss_32 : decode cX9_miss 32 = .ok (.ireturn, 1) := by decide +kernel
theorem dX9_miss_33 : decode cX9_miss 33 = .ok (.aload_n 0, 1) := by decide +kernel
theorem dX9_miss_34 : decode cX9_miss 34 = .ok (.getfield 246, 3) := by decide +kernel
theorem dX9_miss_37 : decode cX9_miss 37 = .ok (.iload_n 2, 1) := by decide +kernel
theorem dX9_miss_38 : decode cX9_miss 38 = .ok (.i2l, 1) := by decide +kernel
theorem dX9_miss_39 : decode cX9_miss 39 = .ok (.aload_n 0, 1) := by decide +kernel
theorem dX9_miss_40 : decode cX9_miss 40 = .ok (.getfield 243, 3) := by decide +kernel
theorem dX9_miss_43 : decode cX9_miss 43 = .ok (.lmul, 1) := by decide +kernel
theorem dX9_miss_44 : decode cX9_miss 44 = .ok (.lsub, 1) := by decide +kernel
theorem dX9_miss_45 : decode cX9_miss 45 = .ok (.ldc2_w 276, 3) := by decide +kernel
theorem dX9_miss_48 : decode cX9_miss 48 = .ok (.lmul, 1) := by decide +kernel
theorem dX9_miss_49 : decode cX9_miss 49 = .ok (.lstore_n 3, 1) := by decide +kernel
theorem dX9_miss_50 : decode cX9_miss 50 = .ok (.lload_n 3, 1) := by decide +kernel
theorem dX9_miss_51 : decode cX9_miss 51 = .ok (.lconst 0, 1) := by decide +kernel
theorem dX9_miss_52 : decode cX9_miss 52 = .ok (.lcmp, 1) := by decide +kernel
theorem dX9_miss_53 : decode cX9_miss 53 = .ok (.ifCond .gt 7, 3) := by decide +kernel
theorem dX9_miss_56 : decode cX9_miss 56 = .ok (.iconst 0, 1) := by decide +kernel
theorem dX9_miss_57 : decode cX9_miss 57 = .ok (.goto 17, 3) := by decide +kernel
theorem dX9_miss_60 : decode cX9_miss 60 = .ok (.lload_n 3, 1) := by decide +kernel
theorem dX9_miss_61 : decode cX9_miss 61 = .ok (.aload_n 0, 1) := by decide +kernel
theorem dX9_miss_62 : decode cX9_miss 62 = .ok (.getfield 243, 3) := by decide +kernel
theorem dX9_miss_65 : decode cX9_miss 65 = .ok (.ladd, 1) := by decide +kernel
theorem dX9_miss_66 : decode cX9_miss 66 = .ok (.lconst 1, 1) := by decide +kernel
theorem dX9_miss_67 : decode cX9_miss 67 = .ok (.lsub, 1) := by decide +kernel
theorem dX9_miss_68 : decode cX9_miss 68 = .ok (.aload_n 0, 1) := by decide +kernel
theorem dX9_miss_69 : decode cX9_miss 69 = .ok (.getfield 243, 3) := by decide +kernel
theorem dX9_miss_72 : decode cX9_miss 72 = .ok (.ldiv, 1) := by decide +kernel
theorem dX9_miss_73 : decode cX9_miss 73 = .ok (.l2i, 1) := by decide +kernel
theorem dX9_miss_74 : decode cX9_miss 74 = .ok (.ireturn, 1) := by decide +kernel
theorem dX9_rests_0 : decode cX9_rests 0 = .ok (.aload_n 0, 1) := by decide +kernel
theorem dX9_rests_1 : decode cX9_rests 1 = .ok (.iconst 0, 1) := by decide +kernel
theorem dX9_rests_2 : decode cX9_rests 2 = .ok (.putfield 71, 3) := by decide +kernel
theorem dX9_rests_5 : decode cX9_rests 5 = .ok (.aload_n 0, 1) := by decide +kernel
theorem dX9_rests_6 : decode cX9_rests 6 = .ok (.iload_n 1, 1) := by decide +kernel
theorem dX9_rests_7 : decode cX9_rests 7 = .ok (.iload_n 2, 1) := by decide +kernel
theorem dX9_rests_8 : decode cX9_rests 8 = .ok (.invokevirtual 318, 3) := by decide +kernel
theorem dX9_rests_11 : decode cX9_rests 11 = .ok (.ifCond .eq 12, 3) := by decide +kernel
theorem dX9_rests_14 : decode cX9_rests 14 = .ok (.aload_n 0, 1) := by decide +kernel
theorem dX9_rests_15 : decode cX9_rests 15 = .ok (.getfield 34, 3) := by decide +kernel
theorem dX9_rests_18 : decode cX9_rests 18 = .ok (.iconst 1, 1) := by decide +kernel
theorem dX9_rests_19 : decode cX9_rests 19 = .ok (.iaload, 1) := by decide +kernel
theorem dX9_rests_20 : decode cX9_rests 20 = .ok (.ifCond .ne 6, 3) := by decide +kernel
theorem dX9_rests_23 : decode cX9_rests 23 = .ok (.bipush (-2), 2) := by decide +kernel
theorem dX9_rests_25 : decode cX9_rests 25 = .ok (.ireturn, 1) := by decide +kernel
theorem dX9_rests_26 : decode cX9_rests 26 = .ok (.bipush 60, 2) := by decide +kernel
theorem dX9_rests_28 : decode cX9_rests 28 = .ok (.istore_n 3, 1) := by decide +kernel
theorem dX9_rests_29 : decode cX9_rests 29 = .ok (.iload_n 3, 1) := by decide +kernel
theorem dX9_rests_30 : decode cX9_rests 30 = .ok (.ifCond .lt 47, 3) := by decide +kernel
theorem dX9_rests_33 : decode cX9_rests 33 = .ok (.aload_n 0, 1) := by decide +kernel
theorem dX9_rests_34 : decode cX9_rests 34 = .ok (.aload_n 0, 1) := by decide +kernel
theorem dX9_rests_35 : decode cX9_rests 35 = .ok (.getfield 40, 3) := by decide +kernel
theorem dX9_rests_38 : decode cX9_rests 38 = .ok (.iload_n 1, 1) := by decide +kernel
theorem dX9_rests_39 : decode cX9_rests 39 = .ok (.iaload, 1) := by decide +kernel
theorem dX9_rests_40 : decode cX9_rests 40 = .ok (.iconst 0, 1) := by decide +kernel
theorem dX9_rests_41 : decode cX9_rests 41 = .ok (.iload_n 3, 1) := by decide +kernel
theorem dX9_rests_42 : decode cX9_rests 42 = .ok (.iconst 1, 1) := by decide +kernel
theorem dX9_rests_43 : decode cX9_rests 43 = .ok (.invokevirtual 310, 3) := by decide +kernel
theorem dX9_rests_46 : decode cX9_rests 46 = .ok (.aload_n 0, 1) := by decide +kernel
theorem dX9_rests_47 : decode cX9_rests 47 = .ok (.getfield 288, 3) := by decide +kernel
theorem dX9_rests_50 : decode cX9_rests 50 = .ok (.iconst (-1), 1) := by decide +kernel
theorem dX9_rests_51 : decode cX9_rests 51 = .ok (.if_icmp .eq 20, 3) := by decide +kernel
theorem dX9_rests_54 : decode cX9_rests 54 = .ok (.aload_n 0, 1) := by decide +kernel
theorem dX9_rests_55 : decode cX9_rests 55 = .ok (.getfield 291, 3) := by decide +kernel
theorem dX9_rests_58 : decode cX9_rests 58 = .ok (.iload_n 2, 1) := by decide +kernel
theorem dX9_rests_59 : decode cX9_rests 59 = .ok (.i2l, 1) := by decide +kernel
theorem dX9_rests_60 : decode cX9_rests 60 = .ok (.aload_n 0, 1) := by decide +kernel
theorem dX9_rests_61 : decode cX9_rests 61 = .ok (.getfield 294, 3) := by decide +kernel
theorem dX9_rests_64 : decode cX9_rests 64 = .ok (.lmul, 1) := by decide +kernel
theorem dX9_rests_65 : decode cX9_rests 65 = .ok (.lcmp, 1) := by decide +kernel
theorem dX9_rests_66 : decode cX9_rests 66 = .ok (.ifCond .gt 5, 3) := by decide +kernel
theorem dX9_rests_69 : decode cX9_rests 69 = .ok (.iload_n 3, 1) := by decide +kernel
theorem dX9_rests_70 : decode cX9_rests 70 = .ok (.ireturn, 1) := by decide +kernel
theorem dX9_rests_71 : decode cX9_rests 71 = .ok (.iinc 3 (-1), 3) := by decide +kernel
theorem dX9_rests_74 : decode cX9_rests 74 = .ok (.goto (-45), 3) := by decide +kernel
theorem dX9_rests_77 : decode cX9_rests 77 = .ok (.iconst (-1), 1) := by decide +kernel
theorem dX9_rests_78 : decode cX9_rests 78 = .ok (.ireturn, 1) := by decide +kernel
theorem dX9_back_0 : decode cX9_back 0 = .ok (.aload_n 0, 1) := by decide +kernel
theorem dX9_back_1 : decode cX9_back 1 = .ok (.iconst 0, 1) := by decide +kernel
theorem dX9_back_2 : decode cX9_back 2 = .ok (.putfield 71, 3) := by decide +kernel
theorem dX9_back_5 : decode cX9_back 5 = .ok (.aload_n 0, 1) := by decide +kernel
theorem dX9_back_6 : decode cX9_back 6 = .ok (.iload_n 1, 1) := by decide +kernel
theorem dX9_back_7 : decode cX9_back 7 = .ok (.iload_n 2, 1) := by decide +kernel
theorem dX9_back_8 : decode cX9_back 8 = .ok (.invokevirtual 263, 3) := by decide +kernel
theorem dX9_back_11 : decode cX9_back 11 = .ok (.ifCond .ne 9, 3) := by decide +kernel
theorem dX9_back_14 : decode cX9_back 14 = .ok (.ldc2_w 267, 3) := by decide +kernel
theorem dX9_back_17 : decode cX9_back 17 = .ok (.goto 28, 3) := by decide +kernel
theorem dX9_back_20 : decode cX9_back 20 = .ok (.aload_n 0, 1) := by decide +kernel
theorem dX9_back_21 : decode cX9_back 21 = .ok (.aload_n 0, 1) := by decide +kernel
theorem dX9_back_22 : decode cX9_back 22 = .ok (.getfield 40, 3) := by decide +kernel
theorem dX9_back_25 : decode cX9_back 25 = .ok (.iload_n 1, 1) := by decide +kernel
theorem dX9_back_26 : decode cX9_back 26 = .ok (.iaload, 1) := by decide +kernel
theorem dX9_back_27 : decode cX9_back 27 = .ok (.iconst (-1), 1) := by decide +kernel
theorem dX9_back_28 : decode cX9_back 28 = .ok (.invokevirtual 269, 3) := by decide +kernel
theorem dX9_back_31 : decode cX9_back 31 = .ok (.ifCond .eq 11, 3) := by decide +kernel
theorem dX9_back_34 : decode cX9_back 34 = .ok (.aload_n 0, 1) := by decide +kernel
theorem dX9_back_35 : decode cX9_back 35 = .ok (.iload_n 2, 1) := by decide +kernel
theorem dX9_back_36 : decode cX9_back 36 = .ok (.invokevirtual 272, 3) := by decide +kernel
theorem dX9_back_39 : decode cX9_back 39 = .ok (.goto 6, 3) := by decide +kernel
theorem dX9_back_42 : decode cX9_back 42 = .ok (.ldc2_w 115, 3) := by decide +kernel
theorem dX9_back_45 : decode cX9_back 45 = .ok (.lreturn, 1) := by decide +kernel
theorem dX9_round_0 : decode cX9_round 0 = .ok (.aload_n 0, 1) := by decide +kernel
theorem dX9_round_1 : decode cX9_round 1 = .ok (.iconst 0, 1) := by decide +kernel
theorem dX9_round_2 : decode cX9_round 2 = .ok (.putfield 71, 3) := by decide +kernel
theorem dX9_round_5 : decode cX9_round 5 = .ok (.aload_n 0, 1) := by decide +kernel
theorem dX9_round_6 : decode cX9_round 6 = .ok (.invokevirtual 297, 3) := by decide +kernel
theorem dX9_round_9 : decode cX9_round 9 = .ok (.ifCond .ne 6, 3) := by decide +kernel
theorem dX9_round_12 : decode cX9_round 12 = .ok (.bipush (-2), 2) := by decide +kernel
theorem dX9_round_14 : decode cX9_round 14 = .ok (.ireturn, 1) := by decide +kernel
theorem dX9_round_15 : decode cX9_round 15 = .ok (.aload_n 0, 1) := by decide +kernel
theorem dX9_round_16 : decode cX9_round 16 = .ok (.invokevirtual 230, 3) := by decide +kernel
theorem dX9_round_19 : decode cX9_round 19 = .ok (.aload_n 0, 1) := by decide +kernel
theorem dX9_round_20 : decode cX9_round 20 = .ok (.iconst (-1), 1) := by decide +kernel
theorem dX9_round_21 : decode cX9_round 21 = .ok (.putfield 288, 3) := by decide +kernel
theorem dX9_round_24 : decode cX9_round 24 = .ok (.iconst 0, 1) := by decide +kernel
theorem dX9_round_25 : decode cX9_round 25 = .ok (.istore_n 1, 1) := by decide +kernel
theorem dX9_round_26 : decode cX9_round 26 = .ok (.iload_n 1, 1) := by decide +kernel
theorem dX9_round_27 : decode cX9_round 27 = .ok (.aload_n 0, 1) := by decide +kernel
theorem dX9_round_28 : decode cX9_round 28 = .ok (.getfield 34, 3) := by decide +kernel
theorem dX9_round_31 : decode cX9_round 31 = .ok (.iconst 2, 1) := by decide +kernel
theorem dX9_round_32 : decode cX9_round 32 = .ok (.iaload, 1) := by decide +kernel
theorem dX9_round_33 : decode cX9_round 33 = .ok (.if_icmp .ge 66, 3) := by decide +kernel
theorem dX9_round_36 : decode cX9_round 36 = .ok (.aload_n 0, 1) := by decide +kernel
theorem dX9_round_37 : decode cX9_round 37 = .ok (.aload_n 0, 1) := by decide +kernel
theorem dX9_round_38 : decode cX9_round 38 = .ok (.getfield 40, 3) := by decide +kernel
theorem dX9_round_41 : decode cX9_round 41 = .ok (.iload_n 1, 1) := by decide +kernel
theorem dX9_round_42 : decode cX9_round 42 = .ok (.iaload, 1) := by decide +kernel
theorem dX9_round_43 : decode cX9_round 43 = .ok (.iconst (-1), 1) := by decide +kernel
theorem dX9_round_44 : decode cX9_round 44 = .ok (.invokevirtual 269, 3) := by decide +kernel
theorem dX9_round_47 : decode cX9_round 47 = .ok (.ifCond .ne 6, 3) := by decide +kernel
theorem dX9_round_50 : decode cX9_round 50 = .ok (.goto 43, 3) := by decide +kernel
theorem dX9_round_53 : decode cX9_round 53 = .ok (.aload_n 0, 1) := by decide +kernel
theorem dX9_round_54 : decode cX9_round 54 = .ok (.getfield 246, 3) := by decide +kernel
theorem dX9_round_57 : decode cX9_round 57 = .ok (.lstore_n 2, 1) := by decide +kernel
theorem dX9_round_58 : decode cX9_round 58 = .ok (.aload_n 0, 1) := by decide +kernel
theorem dX9_round_59 : decode cX9_round 59 = .ok (.getfield 243, 3) := by decide +kernel
theorem dX9_round_62 : decode cX9_round 62 = .ok (.lstore 4, 2) := by decide +kernel
theorem dX9_round_64 : decode cX9_round 64 = .ok (.aload_n 0, 1) := by decide +kernel
theorem dX9_round_65 : decode cX9_round 65 = .ok (.aload_n 0, 1) := by decide +kernel
theorem dX9_round_66 : decode cX9_round 66 = .ok (.getfield 40, 3) := by decide +kernel
theorem dX9_round_69 : decode cX9_round 69 = .ok (.iload_n 1, 1) := by decide +kernel
theorem dX9_round_70 : decode cX9_round 70 = .ok (.iaload, 1) := by decide +kernel
theorem dX9_round_71 : decode cX9_round 71 = .ok (.iconst 1, 1) := by decide +kernel
theorem dX9_round_72 : decode cX9_round 72 = .ok (.invokevirtual 269, 3) := by decide +kernel
theorem dX9_round_75 : decode cX9_round 75 = .ok (.ifCond .ne 6, 3) := by decide +kernel
theorem dX9_round_78 : decode cX9_round 78 = .ok (.goto 15, 3) := by decide +kernel
theorem dX9_round_81 : decode cX9_round 81 = .ok (.aload_n 0, 1) := by decide +kernel
theorem dX9_round_82 : decode cX9_round 82 = .ok (.lload_n 2, 1) := by decide +kernel
theorem dX9_round_83 : decode cX9_round 83 = .ok (.lload 4, 2) := by decide +kernel
theorem dX9_round_85 : decode cX9_round 85 = .ok (.invokevirtual 256, 3) := by decide +kernel
theorem dX9_round_88 : decode cX9_round 88 = .ok (.aload_n 0, 1) := by decide +kernel
theorem dX9_round_89 : decode cX9_round 89 = .ok (.iload_n 1, 1) := by decide +kernel
theorem dX9_round_90 : decode cX9_round 90 = .ok (.invokevirtual 300, 3) := by decide +kernel
theorem dX9_round_93 : decode cX9_round 93 = .ok (.iinc 1 1, 3) := by decide +kernel
theorem dX9_round_96 : decode cX9_round 96 = .ok (.goto (-70), 3) := by decide +kernel
theorem dX9_round_99 : decode cX9_round 99 = .ok (.aload_n 0, 1) := by decide +kernel
theorem dX9_round_100 : decode cX9_round 100 = .ok (.getfield 288, 3) := by decide +kernel
theorem dX9_round_103 : decode cX9_round 103 = .ok (.ireturn, 1) := by decide +kernel
theorem dX9_whyNot_0 : decode cX9_whyNot 0 = .ok (.iload_n 1, 1) := by decide +kernel
theorem dX9_whyNot_1 : decode cX9_whyNot 1 = .ok (.invokestatic 80, 3) := by decide +kernel
theorem dX9_whyNot_4 : decode cX9_whyNot 4 = .ok (.ifCond .ne 6, 3) := by decide +kernel
theorem dX9_whyNot_7 : decode cX9_whyNot 7 = .ok (.bipush (-2), 2) := by decide +kernel
theorem dX9_whyNot_9 : decode cX9_whyNot 9 = .ok (.ireturn, 1) := by decide +kernel
theorem dX9_whyNot_10 : decode cX9_whyNot 10 = .ok (.aload_n 0, 1) := by decide +kernel
theorem dX9_whyNot_11 : decode cX9_whyNot 11 = .ok (.getfield 7, 3) := by decide +kernel
theorem dX9_whyNot_14 : decode cX9_whyNot 14 = .ok (.iload_n 1, 1) := by decide +kernel
theorem dX9_whyNot_15 : decode cX9_whyNot 15 = .ok (.iaload, 1) := by decide +kernel
theorem dX9_whyNot_16 : decode cX9_whyNot 16 = .ok (.iconst (-1), 1) := by decide +kernel
theorem dX9_whyNot_17 : decode cX9_whyNot 17 = .ok (.if_icmp .ne 6, 3) := by decide +kernel
theorem dX9_whyNot_20 : decode cX9_whyNot 20 = .ok (.bipush (-6), 2) := by decide +kernel
theorem dX9_whyNot_22 : decode cX9_whyNot 22 = .ok (.ireturn, 1) := by decide +kernel
theorem dX9_whyNot_23 : decode cX9_whyNot 23 = .ok (.aload_n 0, 1) := by decide +kernel
theorem dX9_whyNot_24 : decode cX9_whyNot 24 = .ok (.getfield 13, 3) := by decide +kernel
theorem dX9_whyNot_27 : decode cX9_whyNot 27 = .ok (.iload_n 1, 1) := by decide +kernel
theorem dX9_whyNot_28 : decode cX9_whyNot 28 = .ok (.iaload, 1) := by decide +kernel
theorem dX9_whyNot_29 : decode cX9_whyNot 29 = .ok (.iconst 3, 1) := by decide +kernel
theorem dX9_whyNot_30 : decode cX9_whyNot 30 = .ok (.irem, 1) := by decide +kernel
theorem dX9_whyNot_31 : decode cX9_whyNot 31 = .ok (.ifCond .eq 6, 3) := by decide +kernel
theorem dX9_whyNot_34 : decode cX9_whyNot 34 = .ok (.bipush (-2), 2) := by decide +kernel
theorem dX9_whyNot_36 : decode cX9_whyNot 36 = .ok (.ireturn, 1) := by decide +kernel
theorem dX9_whyNot_37 : decode cX9_whyNot 37 = .ok (.iconst 0, 1) := by decide +kernel
