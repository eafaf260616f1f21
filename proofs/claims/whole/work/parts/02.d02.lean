theorem dX3_changeLaws_23 : decode cX3_changeLaws 23 = .ok (.iconst 2, 1) := by decide +kernel
theorem dX3_changeLaws_24 : decode cX3_changeLaws 24 = .ok (.idiv, 1) := by decide +kernel
theorem dX3_changeLaws_25 : decode cX3_changeLaws 25 = .ok (.invokestatic 70, 3) := by decide +kernel
theorem dX3_changeLaws_28 : decode cX3_changeLaws 28 = .ok (.putfield 29, 3) := by decide +kernel
theorem dX3_changeLaws_31 : decode cX3_changeLaws 31 = .ok (.iconst 0, 1) := by decide +kernel
theorem dX3_changeLaws_32 : decode cX3_changeLaws 32 = .ok (.istore 6, 2) := by decide +kernel
theorem dX3_changeLaws_34 : decode cX3_changeLaws 34 = .ok (.iload 6, 2) := by decide +kernel
theorem dX3_changeLaws_36 : decode cX3_changeLaws 36 = .ok (.aload_n 0, 1) := by decide +kernel
theorem dX3_changeLaws_37 : decode cX3_changeLaws 37 = .ok (.getfield 29, 3) := by decide +kernel
theorem dX3_changeLaws_40 : decode cX3_changeLaws 40 = .ok (.if_icmp .ge 56, 3) := by decide +kernel
theorem dX3_changeLaws_43 : decode cX3_changeLaws 43 = .ok (.aload_n 0, 1) := by decide +kernel
theorem dX3_changeLaws_44 : decode cX3_changeLaws 44 = .ok (.getfield 39, 3) := by decide +kernel
theorem dX3_changeLaws_47 : decode cX3_changeLaws 47 = .ok (.iload 6, 2) := by decide +kernel
theorem dX3_changeLaws_49 : decode cX3_changeLaws 49 = .ok (.aload_n 1, 1) := by decide +kernel
theorem dX3_changeLaws_50 : decode cX3_changeLaws 50 = .ok (.getfield 47, 3) := by decide +kernel
theorem dX3_changeLaws_53 : decode cX3_changeLaws 53 = .ok (.iconst 2, 1) := by decide +kernel
theorem dX3_changeLaws_54 : decode cX3_changeLaws 54 = .ok (.iload 6, 2) := by decide +kernel
theorem dX3_changeLaws_56 : decode cX3_changeLaws 56 = .ok (.imul, 1) := by decide +kernel
theorem dX3_changeLaws_57 : decode cX3_changeLaws 57 = .ok (.laload, 1) := by decide +kernel
theorem dX3_changeLaws_58 : decode cX3_changeLaws 58 = .ok (.lastore, 1) := by decide +kernel
theorem dX3_changeLaws_59 : decode cX3_changeLaws 59 = .ok (.aload_n 2, 1) := by decide +kernel
theorem dX3_changeLaws_60 : decode cX3_changeLaws 60 = .ok (.iload_n 3, 1) := by decide +kernel
theorem dX3_changeLaws_61 : decode cX3_changeLaws 61 = .ok (.aload_n 1, 1) := by decide +kernel
theorem dX3_changeLaws_62 : decode cX3_changeLaws 62 = .ok (.getfield 47, 3) := by decide +kernel
theorem dX3_changeLaws_65 : decode cX3_changeLaws 65 = .ok (.iconst 2, 1) := by decide +kernel
theorem dX3_changeLaws_66 : decode cX3_changeLaws 66 = .ok (.iload 6, 2) := by decide +kernel
theorem dX3_changeLaws_68 : decode cX3_changeLaws 68 = .ok (.imul, 1) := by decide +kernel
theorem dX3_changeLaws_69 : decode cX3_changeLaws 69 = .ok (.iconst 1, 1) := by decide +kernel
theorem dX3_changeLaws_70 : decode cX3_changeLaws 70 = .ok (.iadd, 1) := by decide +kernel
theorem dX3_changeLaws_71 : decode cX3_changeLaws 71 = .ok (.laload, 1) := by decide +kernel
theorem dX3_changeLaws_72 : decode cX3_changeLaws 72 = .ok (.l2i, 1) := by decide +kernel
theorem dX3_changeLaws_73 : decode cX3_changeLaws 73 = .ok (.aload 5, 2) := by decide +kernel
theorem dX3_changeLaws_75 : decode cX3_changeLaws 75 = .ok (.invokevirtual 74, 3) := by decide +kernel
theorem dX3_changeLaws_78 : decode cX3_changeLaws 78 = .ok (.aload_n 0, 1) := by decide +kernel
theorem dX3_changeLaws_79 : decode cX3_changeLaws 79 = .ok (.getfield 35, 3) := by decide +kernel
theorem dX3_changeLaws_82 : decode cX3_changeLaws 82 = .ok (.iload 6, 2) := by decide +kernel
theorem dX3_changeLaws_84 : decode cX3_changeLaws 84 = .ok (.aload 5, 2) := by decide +kernel
theorem dX3_changeLaws_86 : decode cX3_changeLaws 86 = .ok (.invokevirtual 64, 3) := by decide +kernel
theorem dX3_changeLaws_89 : decode cX3_changeLaws 89 = .ok (.lastore, 1) := by decide +kernel
theorem dX3_changeLaws_90 : decode cX3_changeLaws 90 = .ok (.iinc 6 1, 3) := by decide +kernel
theorem dX3_changeLaws_93 : decode cX3_changeLaws 93 = .ok (.goto (-59), 3) := by decide +kernel
theorem dX3_changeLaws_96 : decode cX3_changeLaws 96 = .ok (.aload_n 0, 1) := by decide +kernel
theorem dX3_changeLaws_97 : decode cX3_changeLaws 97 = .ok (.aload_n 0, 1) := by decide +kernel
theorem dX3_changeLaws_98 : decode cX3_changeLaws 98 = .ok (.iconst 0, 1) := by decide +kernel
theorem dX3_changeLaws_99 : decode cX3_changeLaws 99 = .ok (.iconst 0, 1) := by decide +kernel
theorem dX3_changeLaws_100 : decode cX3_changeLaws 100 = .ok (.iload 4, 2) := by decide +kernel
theorem dX3_changeLaws_102 : decode cX3_changeLaws 102 = .ok (.lconst 0, 1) := by decide +kernel
theorem dX3_changeLaws_103 : decode cX3_changeLaws 103 = .ok (.lconst 0, 1) := by decide +kernel
theorem dX3_changeLaws_104 : decode cX3_changeLaws 104 = .ok (.ldc2_w 78, 3) := by decide +kernel
theorem dX3_changeLaws_107 : decode cX3_changeLaws 107 = .ok (.invokevirtual 80, 3) := by decide +kernel
theorem dX3_changeLaws_110 : decode cX3_changeLaws 110 = .ok (.putfield 23, 3) := by decide +kernel
theorem dX3_changeLaws_113 : decode cX3_changeLaws 113 = .ok (.aload_n 0, 1) := by decide +kernel
theorem dX3_changeLaws_114 : decode cX3_changeLaws 114 = .ok (.aload_n 0, 1) := by decide +kernel
theorem dX3_changeLaws_115 : decode cX3_changeLaws 115 = .ok (.iconst 0, 1) := by decide +kernel
theorem dX3_changeLaws_116 : decode cX3_changeLaws 116 = .ok (.iconst 1, 1) := by decide +kernel
theorem dX3_changeLaws_117 : decode cX3_changeLaws 117 = .ok (.iload 4, 2) := by decide +kernel
theorem dX3_changeLaws_119 : decode cX3_changeLaws 119 = .ok (.lconst 0, 1) := by decide +kernel
theorem dX3_changeLaws_120 : decode cX3_changeLaws 120 = .ok (.lconst 0, 1) := by decide +kernel
theorem dX3_changeLaws_121 : decode cX3_changeLaws 121 = .ok (.aload_n 0, 1) := by decide +kernel
theorem dX3_changeLaws_122 : decode cX3_changeLaws 122 = .ok (.getfield 23, 3) := by decide +kernel
theorem dX3_changeLaws_125 : decode cX3_changeLaws 125 = .ok (.invokevirtual 80, 3) := by decide +kernel
theorem dX3_changeLaws_128 : decode cX3_changeLaws 128 = .ok (.putfield 26, 3) := by decide +kernel
theorem dX3_changeLaws_131 : decode cX3_changeLaws 131 = .ok (.return_, 1) := by decide +kernel
theorem dX3_leastWait_0 : decode cX3_leastWait 0 = .ok (.iload_n 1, 1) := by decide +kernel
theorem dX3_leastWait_1 : decode cX3_leastWait 1 = .ok (.aload_n 0, 1) := by decide +kernel
theorem dX3_leastWait_2 : decode cX3_leastWait 2 = .ok (.getfield 29, 3) := by decide +kernel
theorem dX3_leastWait_5 : decode cX3_leastWait 5 = .ok (.if_icmp .ge 11, 3) := by decide +kernel
theorem dX3_leastWait_8 : decode cX3_leastWait 8 = .ok (.lload 6, 2) := by decide +kernel
theorem dX3_leastWait_10 : decode cX3_leastWait 10 = .ok (.lload 8, 2) := by decide +kernel
theorem dX3_leastWait_12 : decode cX3_leastWait 12 = .ok (.lcmp, 1) := by decide +kernel
theorem dX3_leastWait_13 : decode cX3_leastWait 13 = .ok (.ifCond .lt 11, 3) := by decide +kernel
theorem dX3_leastWait_16 : decode cX3_leastWait 16 = .ok (.lload 8, 2) := by decide +kernel
theorem dX3_leastWait_18 : decode cX3_leastWait 18 = .ok (.lload 6, 2) := by decide +kernel
theorem dX3_leastWait_20 : decode cX3_leastWait 20 = .ok (.invokestatic 84, 3) := by decide +kernel
theorem dX3_leastWait_23 : decode cX3_leastWait 23 = .ok (.lreturn, 1) := by decide +kernel
theorem dX3_leastWait_24 : decode cX3_leastWait 24 = .ok (.iload_n 2, 1) := by decide +kernel
theorem dX3_leastWait_25 : decode cX3_leastWait 25 = .ok (.ifCond .ne 10, 3) := by decide +kernel
theorem dX3_leastWait_28 : decode cX3_leastWait 28 = .ok (.aload_n 0, 1) := by decide +kernel
theorem dX3_leastWait_29 : decode cX3_leastWait 29 = .ok (.getfield 32, 3) := by decide +kernel
theorem dX3_leastWait_32 : decode cX3_leastWait 32 = .ok (.goto 9, 3) := by decide +kernel
theorem dX3_leastWait_35 : decode cX3_leastWait 35 = .ok (.aload_n 0, 1) := by decide +kernel
theorem dX3_leastWait_36 : decode cX3_leastWait 36 = .ok (.getfield 35, 3) := by decide +kernel
theorem dX3_leastWait_39 : decode cX3_leastWait 39 = .ok (.iload_n 1, 1) := by decide +kernel
theorem dX3_leastWait_40 : decode cX3_leastWait 40 = .ok (.laload, 1) := by decide +kernel
theorem dX3_leastWait_41 : decode cX3_leastWait 41 = .ok (.lstore 10, 2) := by decide +kernel
theorem dX3_leastWait_43 : decode cX3_leastWait 43 = .ok (.lconst 0, 1) := by decide +kernel
theorem dX3_leastWait_44 : decode cX3_leastWait 44 = .ok (.lload 4, 2) := by decide +kernel
theorem dX3_leastWait_46 : decode cX3_leastWait 46 = .ok (.aload_n 0, 1) := by decide +kernel
theorem dX3_leastWait_47 : decode cX3_leastWait 47 = .ok (.getfield 39, 3) := by decide +kernel
theorem dX3_leastWait_50 : decode cX3_leastWait 50 = .ok (.iload_n 1, 1) := by decide +kernel
theorem dX3_leastWait_51 : decode cX3_leastWait 51 = .ok (.laload, 1) := by decide +kernel
theorem dX3_leastWait_52 : decode cX3_leastWait 52 = .ok (.ladd, 1) := by decide +kernel
theorem dX3_leastWait_53 : decode cX3_leastWait 53 = .ok (.lload 10, 2) := by decide +kernel
theorem dX3_leastWait_55 : decode cX3_leastWait 55 = .ok (.lsub, 1) := by decide +kernel
theorem dX3_leastWait_56 : decode cX3_leastWait 56 = .ok (.invokestatic 50, 3) := by decide +kernel
theorem dX3_leastWait_59 : decode cX3_leastWait 59 = .ok (.lstore 12, 2) := by decide +kernel
theorem dX3_leastWait_61 : decode cX3_leastWait 61 = .ok (.aload_n 0, 1) := by decide +kernel
theorem dX3_leastWait_62 : decode cX3_leastWait 62 = .ok (.iload_n 1, 1) := by decide +kernel
theorem dX3_leastWait_63 : decode cX3_leastWait 63 = .ok (.iconst 1, 1) := by decide +kernel
theorem dX3_leastWait_64 : decode cX3_leastWait 64 = .ok (.iadd, 1) := by decide +kernel
theorem dX3_leastWait_65 : decode cX3_leastWait 65 = .ok (.iload_n 2, 1) := by decide +kernel
theorem dX3_leastWait_66 : decode cX3_leastWait 66 = .ok (.iload_n 3, 1) := by decide +kernel
theorem dX3_leastWait_67 : decode cX3_leastWait 67 = .ok (.lload 12, 2) := by decide +kernel
theorem dX3_leastWait_69 : decode cX3_leastWait 69 = .ok (.lload 6, 2) := by decide +kernel
theorem dX3_leastWait_71 : decode cX3_leastWait 71 = .ok (.lload 12, 2) := by decide +kernel
theorem dX3_leastWait_73 : decode cX3_leastWait 73 = .ok (.ladd, 1) := by decide +kernel
theorem dX3_leastWait_74 : decode cX3_leastWait 74 = .ok (.lload 8, 2) := by decide +kernel
theorem dX3_leastWait_76 : decode cX3_leastWait 76 = .ok (.invokevirtual 80, 3) := by decide +kernel
theorem dX3_leastWait_79 : decode cX3_leastWait 79 = .ok (.lstore 14, 2) := by decide +kernel
theorem dX3_leastWait_81 : decode cX3_leastWait 81 = .ok (.iload_n 3, 1) := by decide +kernel
theorem dX3_leastWait_82 : decode cX3_leastWait 82 = .ok (.ifCond .le 27, 3) := by decide +kernel
theorem dX3_leastWait_85 : decode cX3_leastWait 85 = .ok (.aload_n 0, 1) := by decide +kernel
theorem dX3_leastWait_86 : decode cX3_leastWait 86 = .ok (.iload_n 1, 1) := by decide +kernel
theorem dX3_leastWait_87 : decode cX3_leastWait 87 = .ok (.iconst 1, 1) := by decide +kernel
theorem dX3_leastWait_88 : decode cX3_leastWait 88 = .ok (.iadd, 1) := by decide +kernel
theorem dX3_leastWait_89 : decode cX3_leastWait 89 = .ok (.iconst 1, 1) := by decide +kernel
theorem dX3_leastWait_90 : decode cX3_leastWait 90 = .ok (.iload_n 2, 1) := by decide +kernel
theorem dX3_leastWait_91 : decode cX3_leastWait 91 = .ok (.isub, 1) := by decide +kernel
theorem dX3_leastWait_92 : decode cX3_leastWait 92 = .ok (.iload_n 3, 1) := by decide +kernel
theorem dX3_leastWait_93 : decode cX3_leastWait 93 = .ok (.iconst 1, 1) := by decide +kernel
theorem dX3_leastWait_94 : decode cX3_leastWait 94 = .ok (.isub, 1) := by decide +kernel
theorem dX3_leastWait_95 : decode cX3_leastWait 95 = .ok (.lload 12, 2) := by decide +kernel
theorem dX3_leastWait_97 : decode cX3_leastWait 97 = .ok (.lload 6, 2) := by decide +kernel
theorem dX3_leastWait_99 : decode cX3_leastWait 99 = .ok (.lload 12, 2) := by decide +kernel
theorem dX3_leastWait_101 : decode cX3_leastWait 101 = .ok (.ladd, 1) := by decide +kernel
theorem dX3_leastWait_102 : decode cX3_leastWait 102 = .ok (.lload 14, 2) := by decide +kernel
theorem dX3_leastWait_104 : decode cX3_leastWait 104 = .ok (.invokevirtual 80, 3) := by decide +kernel
theorem dX3_leastWait_107 : decode cX3_leastWait 107 = .ok (.lstore 14, 2) := by decide +kernel
theorem dX3_leastWait_109 : decode cX3_leastWait 109 = .ok (.lload 14, 2) := by decide +kernel
theorem dX3_leastWait_111 : decode cX3_leastWait 111 = .ok (.lreturn, 1) := by decide +kernel
theorem dX4_init_0 : decode cX4_init 0 = .ok (.aload_n 0, 1) := by decide +kernel
theorem dX4_init_1 : decode cX4_init 1 = .ok (.invokespecial 3, 3) := by decide +kernel
theorem dX4_init_4 : decode cX4_init 4 = .ok (.aload_n 0, 1) := by decide +kernel
theorem dX4_init_5 : decode cX4_init 5 = .ok (.iconst 0, 1) := by decide +kernel
theorem dX4_init_6 : decode cX4_init 6 = .ok (.putfield 9, 3) := by decide +kernel
theorem dX4_init_9 : decode cX4_init 9 = .ok (.aload_n 0, 1) := by decide +kernel
theorem dX4_init_10 : decode cX4_init 10 = .ok (.iconst (-1), 1) := by decide +kernel
theorem dX4_init_11 : decode cX4_init 11 = .ok (.putfield 15, 3) := by decide +kernel
theorem dX4_init_14 : decode cX4_init 14 = .ok (.aload_n 0, 1) := by decide +kernel
theorem dX4_init_15 : decode cX4_init 15 = .ok (.sipush 900, 3) := by decide +kernel
theorem dX4_init_18 : decode cX4_init 18 = .ok (.newarray .byte, 2) := by decide +kernel
theorem dX4_init_20 : decode cX4_init 20 = .ok (.putfield 18, 3) := by decide +kernel
theorem dX4_init_23 : decode cX4_init 23 = .ok (.aload_n 0, 1) := by decide +kernel
theorem dX4_init_24 : decode cX4_init 24 = .ok (.new 22, 3) := by decide +kernel
theorem dX4_init_27 : decode cX4_init 27 = .ok (.dup, 1) := by decide +kernel
theorem dX4_init_28 : decode cX4_init 28 = .ok (.invokespecial 24, 3) := by decide +kernel
theorem dX4_init_31 : decode cX4_init 31 = .ok (.putfield 25, 3) := by decide +kernel
theorem dX4_init_34 : decode cX4_init 34 = .ok (.aload_n 0, 1) := by decide +kernel
theorem dX4_init_35 : decode cX4_init 35 = .ok (.iconst 0, 1) := by decide +kernel
theorem dX4_init_36 : decode cX4_init 36 = .ok (.putfield 29, 3) := by decide +kernel
theorem dX4_init_39 : decode cX4_init 39 = .ok (.aload_n 0, 1) := by decide +kernel
theorem dX4_init_40 : decode cX4_init 40 = .ok (.iconst 0, 1) := by decide +kernel
theorem dX4_init_41 : decode cX4_init 41 = .ok (.putfield 32, 3) := by decide +kernel
theorem dX4_init_44 : decode cX4_init 44 = .ok (.aload_n 0, 1) := by decide +kernel
theorem dX4_init_45 : decode cX4_init 45 = .ok (.iconst 0, 1) := by decide +kernel
theorem dX4_init_46 : decode cX4_init 46 = .ok (.putfield 35, 3) := by decide +kernel
theorem dX4_init_49 : decode cX4_init 49 = .ok (.aload_n 0, 1) := by decide +kernel
theorem dX4_init_50 : decode cX4_init 50 = .ok (.iconst 0, 1) := by decide +kernel
theorem dX4_init_51 : decode cX4_init 51 = .ok (.putfield 38, 3) := by decide +kernel
theorem dX4_init_54 : decode cX4_init 54 = .ok (.return_, 1) := by decide +kernel
theorem dX4_read_0 : decode cX4_read 0 = .ok (.aload_n 0, 1) := by decide +kernel
theorem dX4_read_1 : decode cX4_read 1 = .ok (.iload_n 1, 1) := by decide +kernel
theorem dX4_read_2 : decode cX4_read 2 = .ok (.aload_n 0, 1) := by decide +kernel
theorem dX4_read_3 : decode cX4_read 3 = .ok (.getfield 18, 3) := by decide +kernel
theorem dX4_read_6 : decode cX4_read 6 = .ok (.arraylength, 1) := by decide +kernel
theorem dX4_read_7 : decode cX4_read 7 = .ok (.invokestatic 41, 3) := by decide +kernel
theorem dX4_read_10 : decode cX4_read 10 = .ok (.putfield 29, 3) := by decide +kernel
theorem dX4_read_13 : decode cX4_read 13 = .ok (.aload_n 0, 1) := by decide +kernel
theorem dX4_read_14 : decode cX4_read 14 = .ok (.getfield 25, 3) := by decide +kernel
theorem dX4_read_17 : decode cX4_read 17 = .ok (.invokevirtual 47, 3) := by decide +kernel
theorem dX4_read_20 : decode cX4_read 20 = .ok (.aload_n 0, 1) := by decide +kernel
theorem dX4_read_21 : decode cX4_read 21 = .ok (.iconst 0, 1) := by decide +kernel
theorem dX4_read_22 : decode cX4_read 22 = .ok (.putfield 9, 3) := by decide +kernel
theorem dX4_read_25 : decode cX4_read 25 = .ok (.aload_n 0, 1) := by decide +kernel
theorem dX4_read_26 : decode cX4_read 26 = .ok (.iconst (-1), 1) := by decide +kernel
theorem dX4_read_27 : decode cX4_read 27 = .ok (.putfield 15, 3) := by decide +kernel
theorem dX4_read_30 : decode cX4_read 30 = .ok (.aload_n 0, 1) := by decide +kernel
theorem dX4_read_31 : decode cX4_read 31 = .ok (.iconst 0, 1) := by decide +kernel
theorem dX4_read_32 : decode cX4_read 32 = .ok (.putfield 38, 3) := by decide +kernel
theorem dX4_read_35 : decode cX4_read 35 = .ok (.aload_n 0, 1) := by decide +kernel
theorem dX4_read_36 : decode cX4_read 36 = .ok (.invokevirtual 50, 3) := by decide +kernel
theorem dX4_read_39 : decode cX4_read 39 = .ok (.iconst 0, 1) := by decide +kernel
theorem dX4_read_40 : decode cX4_read 40 = .ok (.istore_n 2, 1) := by decide +kernel
theorem dX4_read_41 : decode cX4_read 41 = .ok (.iload_n 2, 1) := by decide +kernel
theorem dX4_read_42 : decode cX4_read 42 = .ok (.aload_n 0, 1) := by decide +kernel
theorem dX4_read_43 : decode cX4_read 43 = .ok (.getfield 29, 3) := by decide +kernel
theorem dX4_read_46 : decode cX4_read 46 = .ok (.if_icmp .gt 27, 3) := by decide +kernel
theorem dX4_read_49 : decode cX4_read 49 = .ok (.aload_n 0, 1) := by decide +kernel
theorem dX4_read_50 : decode cX4_read 50 = .ok (.getfield 32, 3) := by decide +kernel
theorem dX4_read_53 : decode cX4_read 53 = .ok (.ifCond .eq 20, 3) := by decide +kernel
theorem dX4_read_56 : decode cX4_read 56 = .ok (.aload_n 0, 1) := by decide +kernel
theorem dX4_read_57 : decode cX4_read 57 = .ok (.getfield 9, 3) := by decide +kernel
theorem dX4_read_60 : decode cX4_read 60 = .ok (.ifCond .ne 13, 3) := by decide +kernel
theorem dX4_read_63 : decode cX4_read 63 = .ok (.aload_n 0, 1) := by decide +kernel
theorem dX4_read_64 : decode cX4_read 64 = .ok (.invokevirtual 53, 3) := by decide +kernel
theorem dX4_read_67 : decode cX4_read 67 = .ok (.iinc 2 1, 3) := by decide +kernel
theorem dX4_read_70 : decode cX4_read 70 = .ok (.goto (-29), 3) := by decide +kernel
theorem dX4_read_73 : decode cX4_read 73 = .ok (.return_, 1) := by decide +kernel
theorem dX4_readLine_0 : decode cX4_readLine 0 = .ok (.aload_n 0, 1) := by decide +kernel
theorem dX4_readLine_1 : decode cX4_readLine 1 = .ok (.getfield 25, 3) := by decide +kernel
theorem dX4_readLine_4 : decode cX4_readLine 4 = .ok (.getfield 56, 3) := by decide +kernel
theorem dX4_readLine_7 : decode cX4_readLine 7 = .ok (.ifCond .ne 10, 3) := by decide +kernel
theorem dX4_readLine_10 : decode cX4_readLine 10 = .ok (.aload_n 0, 1) := by decide +kernel
theorem dX4_readLine_11 : decode cX4_readLine 11 = .ok (.invokevirtual 59, 3) := by decide +kernel
theorem dX4_readLine_14 : decode cX4_readLine 14 = .ok (.goto 72, 3) := by decide +kernel
theorem dX4_readLine_17 : decode cX4_readLine 17 = .ok (.aload_n 0, 1) := by decide +kernel
theorem dX4_readLine_18 : decode cX4_readLine 18 = .ok (.ldc 62, 2) := by decide +kernel
theorem dX4_readLine_20 : decode cX4_readLine 20 = .ok (.invokevirtual 64, 3) := by decide +kernel
theorem dX4_readLine_23 : decode cX4_readLine 23 = .ok (.ifCond .eq 10, 3) := by decide +kernel
theorem dX4_readLine_26 : decode cX4_readLine 26 = .ok (.aload_n 0, 1) := by decide +kernel
theorem dX4_readLine_27 : decode cX4_readLine 27 = .ok (.invokevirtual 68, 3) := by decide +kernel
theorem dX4_readLine_30 : decode cX4_readLine 30 = .ok (.goto 56, 3) := by decide +kernel
theorem dX4_readLine_33 : decode cX4_readLine 33 = .ok (.aload_n 0, 1) := by decide +kernel
theorem dX4_readLine_34 : decode cX4_readLine 34 = .ok (.ldc 71, 2) := by decide +kernel
theorem dX4_readLine_36 : decode cX4_readLine 36 = .ok (.invokevirtual 64, 3) := by decide +kernel
theorem dX4_readLine_39 : decode cX4_readLine 39 = .ok (.ifCond .eq 10, 3) := by decide +kernel
theorem dX4_readLine_42 : decode cX4_readLine 42 = .ok (.aload_n 0, 1) := by decide +kernel
theorem dX4_readLine_43 : decode cX4_readLine 43 = .ok (.invokevirtual 73, 3) := by decide +kernel
theorem dX4_readLine_46 : decode cX4_readLine 46 = .ok (.goto 40, 3) := by decide +kernel
theorem dX4_readLine_49 : decode cX4_readLine 49 = .ok (.aload_n 0, 1) := by decide +kernel
theorem dX4_readLine_50 : decode cX4_readLine 50 = .ok (.ldc 76, 2) := by decide +kernel
theorem dX4_readLine_52 : decode cX4_readLine 52 = .ok (.invokevirtual 64, 3) := by decide +kernel
theorem dX4_readLine_55 : decode cX4_readLine 55 = .ok (.ifCond .eq 10, 3) := by decide +kernel
theorem dX4_readLine_58 : decode cX4_readLine 58 = .ok (.aload_n 0, 1) := by decide +kernel
theorem dX4_readLine_59 : decode cX4_readLine 59 = .ok (.invokevirtual 78, 3) := by decide +kernel
theorem dX4_readLine_62 : decode cX4_readLine 62 = .ok (.goto 24, 3) := by decide +kernel
theorem dX4_readLine_65 : decode cX4_readLine 65 = .ok (.aload_n 0, 1) := by decide +kernel
theorem dX4_readLine_66 : decode cX4_readLine 66 = .ok (.ldc 81, 2) := by decide +kernel
theorem dX4_readLine_68 : decode cX4_readLine 68 = .ok (.invokevirtual 64, 3) := by decide +kernel
theorem dX4_readLine_71 : decode cX4_readLine 71 = .ok (.ifCond .eq 10, 3) := by decide +kernel
theorem dX4_readLine_74 : decode cX4_readLine 74 = .ok (.aload_n 0, 1) := by decide +kernel
theorem dX4_readLine_75 : decode cX4_readLine 75 = .ok (.invokevirtual 83, 3) := by decide +kernel
theorem dX4_readLine_78 : decode cX4_readLine 78 = .ok (.goto 8, 3) := by decide +kernel
theorem dX4_readLine_81 : decode cX4_readLine 81 = .ok (.aload_n 0, 1) := by decide +kernel
theorem dX4_readLine_82 : decode cX4_readLine 82 = .ok (.iconst 1, 1) := by decide +kernel
theorem dX4_readLine_83 : decode cX4_readLine 83 = .ok (.invokevirtual 86, 3) := by decide +kernel
theorem dX4_readLine_86 : decode cX4_readLine 86 = .ok (.aload_n 0, 1) := by decide +kernel
theorem dX4_readLine_87 : decode cX4_readLine 87 = .ok (.getfield 9, 3) := by decide +kernel
theorem dX4_readLine_90 : decode cX4_readLine 90 = .ok (.ifCond .ne 16, 3) := by decide +kernel
theorem dX4_readLine_93 : decode cX4_readLine 93 = .ok (.aload_n 0, 1) := by decide +kernel
theorem dX4_readLine_94 : decode cX4_readLine 94 = .ok (.getfield 32, 3) := by decide +kernel
theorem dX4_readLine_97 : decode cX4_readLine 97 = .ok (.iconst 3, 1) := by decide +kernel
theorem dX4_readLine_98 : decode cX4_readLine 98 = .ok (.if_icmp .eq 8, 3) := by decide +kernel
theorem dX4_readLine_101 : decode cX4_readLine 101 = .ok (.aload_n 0, 1) := by decide +kernel
theorem dX4_readLine_102 : decode cX4_readLine 102 = .ok (.iconst 1, 1) := by decide +kernel
theorem dX4_readLine_103 : decode cX4_readLine 103 = .ok (.invokevirtual 86, 3) := by decide +kernel
theorem dX4_readLine_106 : decode cX4_readLine 106 = .ok (.aload_n 0, 1) := by decide +kernel
theorem dX4_readLine_107 : decode cX4_readLine 107 = .ok (.getfield 9, 3) := by decide +kernel
theorem dX4_readLine_110 : decode cX4_readLine 110 = .ok (.ifCond .ne 20, 3) := by decide +kernel
theorem dX4_readLine_113 : decode cX4_readLine 113 = .ok (.aload_n 0, 1) := by decide +kernel
theorem dX4_readLine_114 : decode cX4_readLine 114 = .ok (.getfield 25, 3) := by decide +kernel
theorem dX4_readLine_117 : decode cX4_readLine 117 = .ok (.dup, 1) := by decide +kernel
theorem dX4_readLine_118 : decode cX4_readLine 118 = .ok (.getfield 56, 3) := by decide +kernel
theorem dX4_readLine_121 : decode cX4_readLine 121 = .ok (.iconst 1, 1) := by decide +kernel
theorem dX4_readLine_122 : decode cX4_readLine 122 = .ok (.iadd, 1) := by decide +kernel
theorem dX4_readLine_123 : decode cX4_readLine 123 = .ok (.putfield 56, 3) := by decide +kernel
theorem dX4_readLine_126 : decode cX4_readLine 126 = .ok (.aload_n 0, 1) := by decide +kernel
theorem dX4_readLine_127 : decode cX4_readLine 127 = .ok (.invokevirtual 50, 3) := by decide +kernel
theorem dX4_readLine_130 : decode cX4_readLine 130 = .ok (.return_, 1) := by decide +kernel
theorem dX4_readHead_0 : decode cX4_readHead 0 = .ok (.aload_n 0, 1) := by decide +kernel
theorem dX4_readHead_1 : decode cX4_readHead 1 = .ok (.ldc 90, 2) := by decide +kernel
theorem dX4_readHead_3 : decode cX4_readHead 3 = .ok (.invokevirtual 92, 3) := by decide +kernel
theorem dX4_readHead_6 : decode cX4_readHead 6 = .ok (.aload_n 0, 1) := by decide +kernel
theorem dX4_readHead_7 : decode cX4_readHead 7 = .ok (.getfield 25, 3) := by decide +kernel
theorem dX4_readHead_10 : decode cX4_readHead 10 = .ok (.aload_n 0, 1) := by decide +kernel
theorem dX4_readHead_11 : decode cX4_readHead 11 = .ok (.ldc 96, 2) := by decide +kernel
theorem dX4_readHead_13 : decode cX4_readHead 13 = .ok (.iconst 0, 1) := by decide +kernel
theorem dX4_readHead_14 : decode cX4_readHead 14 = .ok (.bipush 100, 2) := by decide +kernel
theorem dX4_readHead_16 : decode cX4_readHead 16 = .ok (.invokevirtual 98, 3) := by decide +kernel
theorem dX4_readHead_19 : decode cX4_readHead 19 = .ok (.putfield 102, 3) := by decide +kernel
theorem dX4_readHead_22 : decode cX4_readHead 22 = .ok (.return_, 1) := by decide +kernel
theorem dX4_readPart_0 : decode cX4_readPart 0 = .ok (.aload_n 0, 1) := by decide +kernel
theorem dX4_readPart_1 : decode cX4_readPart 1 = .ok (.getfield 25, 3) := by decide +kernel
theorem dX4_readPart_4 : decode cX4_readPart 4 = .ok (.getfield 104, 3) := by decide +kernel
theorem dX4_readPart_7 : decode cX4_readPart 7 = .ok (.istore_n 1, 1) := by decide +kernel
theorem dX4_readPart_8 : decode cX4_readPart 8 = .ok (.iload_n 1, 1) := by decide +kernel
theorem dX4_readPart_9 : decode cX4_readPart 9 = .ok (.iconst 4, 1) := by decide +kernel
theorem dX4_readPart_10 : decode cX4_readPart 10 = .ok (.if_icmp .lt 9, 3) := by decide +kernel
theorem dX4_readPart_13 : decode cX4_readPart 13 = .ok (.aload_n 0, 1) := by decide +kernel
theorem dX4_readPart_14 : decode cX4_readPart 14 = .ok (.iconst 3, 1) := by decide +kernel
theorem dX4_readPart_15 : decode cX4_readPart 15 = .ok (.invokevirtual 86, 3) := by decide +kernel
theorem dX4_readPart_18 : decode cX4_readPart 18 = .ok (.return_, 1) := by decide +kernel
theorem dX4_readPart_19 : decode cX4_readPart 19 = .ok (.aload_n 0, 1) := by decide +kernel
theorem dX4_readPart_20 : decode cX4_readPart 20 = .ok (.ldc 62, 2) := by decide +kernel
theorem dX4_readPart_22 : decode cX4_readPart 22 = .ok (.invokevirtual 92, 3) := by decide +kernel
theorem dX4_readPart_25 : decode cX4_readPart 25 = .ok (.aload_n 0, 1) := by decide +kernel
theorem dX4_readPart_26 : decode cX4_readPart 26 = .ok (.getfield 25, 3) := by decide +kernel
theorem dX4_readPart_29 : decode cX4_readPart 29 = .ok (.getfield 107, 3) := by decide +kernel
theorem dX4_readPart_32 : decode cX4_readPart 32 = .ok (.iload_n 1, 1) := by decide +kernel
theorem dX4_readPart_33 : decode cX4_readPart 33 = .ok (.aload_n 0, 1) := by decide +kernel
theorem dX4_readPart_34 : decode cX4_readPart 34 = .ok (.ldc 111, 2) := by decide +kernel
theorem dX4_readPart_36 : decode cX4_readPart 36 = .ok (.iconst 1, 1) := by decide +kernel
theorem dX4_readPart_37 : decode cX4_readPart 37 = .ok (.sipush 200, 3) := by decide +kernel
theorem dX4_readPart_40 : decode cX4_readPart 40 = .ok (.invokevirtual 98, 3) := by decide +kernel
theorem dX4_readPart_43 : decode cX4_readPart 43 = .ok (.iastore, 1) := by decide +kernel
theorem dX4_readPart_44 : decode cX4_readPart 44 = .ok (.aload_n 0, 1) := by decide +kernel
theorem dX4_readPart_45 : decode cX4_readPart 45 = .ok (.getfield 25, 3) := by decide +kernel
theorem dX4_readPart_48 : decode cX4_readPart 48 = .ok (.getfield 112, 3) := by decide +kernel
theorem dX4_readPart_51 : decode cX4_readPart 51 = .ok (.iload_n 1, 1) := by decide +kernel
theorem dX4_readPart_52 : decode cX4_readPart 52 = .ok (.aload_n 0, 1) := by decide +kernel
theorem dX4_readPart_53 : decode cX4_readPart 53 = .ok (.ldc 115, 2) := by decide +kernel
theorem dX4_readPart_55 : decode cX4_readPart 55 = .ok (.iconst 0, 1) := by decide +kernel
theorem dX4_readPart_56 : decode cX4_readPart 56 = .ok (.bipush 30, 2) := by decide +kernel
theorem dX4_readPart_58 : decode cX4_readPart 58 = .ok (.invokevirtual 98, 3) := by decide +kernel
theorem dX4_readPart_61 : decode cX4_readPart 61 = .ok (.iastore, 1) := by decide +kernel
theorem dX4_readPart_62 : decode cX4_readPart 62 = .ok (.aload_n 0, 1) := by decide +kernel
theorem dX4_readPart_63 : decode cX4_readPart 63 = .ok (.getfield 9, 3) := by decide +kernel
theorem dX4_readPart_66 : decode cX4_readPart 66 = .ok (.ifCond .ne 35, 3) := by decide +kernel
theorem dX4_readPart_69 : decode cX4_readPart 69 = .ok (.aload_n 0, 1) := by decide +kernel
theorem dX4_readPart_70 : decode cX4_readPart 70 = .ok (.ldc 117, 2) := by decide +kernel
theorem dX4_readPart_72 : decode cX4_readPart 72 = .ok (.invokevirtual 64, 3) := by decide +kernel
theorem dX4_readPart_75 : decode cX4_readPart 75 = .ok (.ifCond .eq 26, 3) := by decide +kernel
theorem dX4_readPart_78 : decode cX4_readPart 78 = .ok (.aload_n 0, 1) := by decide +kernel
theorem dX4_readPart_79 : decode cX4_readPart 79 = .ok (.getfield 25, 3) := by decide +kernel
theorem dX4_readPart_82 : decode cX4_readPart 82 = .ok (.getfield 112, 3) := by decide +kernel
theorem dX4_readPart_85 : decode cX4_readPart 85 = .ok (.iload_n 1, 1) := by decide +kernel
theorem dX4_readPart_86 : decode cX4_readPart 86 = .ok (.aload_n 0, 1) := by decide +kernel
theorem dX4_readPart_87 : decode cX4_readPart 87 = .ok (.getfield 25, 3) := by decide +kernel
theorem dX4_readPart_90 : decode cX4_readPart 90 = .ok (.getfield 112, 3) := by decide +kernel
theorem dX4_readPart_93 : decode cX4_readPart 93 = .ok (.iload_n 1, 1) := by decide +kernel
theorem dX4_readPart_94 : decode cX4_readPart 94 = .ok (.iaload, 1) := by decide +kernel
theorem dX4_readPart_95 : decode cX4_readPart 95 = .ok (.ineg, 1) := by decide +kernel
theorem dX4_readPart_96 : decode cX4_readPart 96 = .ok (.iastore, 1) := by decide +kernel
theorem dX4_readPart_97 : decode cX4_readPart 97 = .ok (.aload_n 0, 1) := by decide +kernel
theorem dX4_readPart_98 : decode cX4_readPart 98 = .ok (.invokevirtual 50, 3) := by decide +kernel
theorem dX4_readPart_101 : decode cX4_readPart 101 = .ok (.aload_n 0, 1) := by decide +kernel
theorem dX4_readPart_102 : decode cX4_readPart 102 = .ok (.getfield 25, 3) := by decide +kernel
theorem dX4_readPart_105 : decode cX4_readPart 105 = .ok (.dup, 1) := by decide +kernel
theorem dX4_readPart_106 : decode cX4_readPart 106 = .ok (.getfield 104, 3) := by decide +kernel
theorem dX4_readPart_109 : decode cX4_readPart 109 = .ok (.iconst 1, 1) := by decide +kernel
theorem dX4_readPart_110 : decode cX4_readPart 110 = .ok (.iadd, 1) := by decide +kernel
theorem dX4_readPart_111 : decode cX4_readPart 111 = .ok (.putfield 104, 3) := by decide +kernel
theorem dX4_readPart_114 : decode cX4_readPart 114 = .ok (.return_, 1) := by decide +kernel
theorem dX4_readWalker_0 : decode cX4_readWalker 0 = .ok (.aload_n 0, 1) := by decide +kernel
theorem dX4_readWalker_1 : decode cX4_readWalker 1 = .ok (.getfield 25, 3) := by decide +kernel
theorem dX4_readWalker_4 : decode cX4_readWalker 4 = .ok (.getfield 119, 3) := by decide +kernel
theorem dX4_readWalker_7 : decode cX4_readWalker 7 = .ok (.bipush 8, 2) := by decide +kernel
theorem dX4_readWalker_9 : decode cX4_readWalker 9 = .ok (.if_icmp .lt 9, 3) := by decide +kernel
theorem dX4_readWalker_12 : decode cX4_readWalker 12 = .ok (.aload_n 0, 1) := by decide +kernel
theorem dX4_readWalker_13 : decode cX4_readWalker 13 = .ok (.iconst 3, 1) := by decide +kernel
theorem dX4_readWalker_14 : decode cX4_readWalker 14 = .ok (.invokevirtual 86, 3) := by decide +kernel
theorem dX4_readWalker_17 : decode cX4_readWalker 17 = .ok (.return_, 1) := by decide +kernel
theorem dX4_readWalker_18 : decode cX4_readWalker 18 = .ok (.aload_n 0, 1) := by decide +kernel
theorem dX4_readWalker_19 : decode cX4_readWalker 19 = .ok (.ldc 71, 2) := by decide +kernel
theorem dX4_readWalker_21 : decode cX4_readWalker 21 = .ok (.invokevirtual 92, 3) := by decide +kernel
theorem dX4_readWalker_24 : decode cX4_readWalker 24 = .ok (.aload_n 0, 1) := by decide +kernel
theorem dX4_readWalker_25 : decode cX4_readWalker 25 = .ok (.getfield 25, 3) := by decide +kernel
theorem dX4_readWalker_28 : decode cX4_readWalker 28 = .ok (.getfield 122, 3) := by decide +kernel
theorem dX4_readWalker_31 : decode cX4_readWalker 31 = .ok (.aload_n 0, 1) := by decide +kernel
theorem dX4_readWalker_32 : decode cX4_readWalker 32 = .ok (.getfield 25, 3) := by decide +kernel
theorem dX4_readWalker_35 : decode cX4_readWalker 35 = .ok (.getfield 119, 3) := by decide +kernel
theorem dX4_readWalker_38 : decode cX4_readWalker 38 = .ok (.aload_n 0, 1) := by decide +kernel
theorem dX4_readWalker_39 : decode cX4_readWalker 39 = .ok (.ldc 125, 2) := by decide +kernel
theorem dX4_readWalker_41 : decode cX4_readWalker 41 = .ok (.iconst 0, 1) := by decide +kernel
theorem dX4_readWalker_42 : decode cX4_readWalker 42 = .ok (.bipush 30, 2) := by decide +kernel
theorem dX4_readWalker_44 : decode cX4_readWalker 44 = .ok (.invokevirtual 98, 3) := by decide +kernel
theorem dX4_readWalker_47 : decode cX4_readWalker 47 = .ok (.iastore, 1) := by decide +kernel
theorem dX4_readWalker_48 : decode cX4_readWalker 48 = .ok (.aload_n 0, 1) := by decide +kernel
theorem dX4_readWalker_49 : decode cX4_readWalker 49 = .ok (.getfield 25, 3) := by decide +kernel
theorem dX4_readWalker_52 : decode cX4_readWalker 52 = .ok (.dup, 1) := by decide +kernel
theorem dX4_readWalker_53 : decode cX4_readWalker 53 = .ok (.getfield 119, 3) := by decide +kernel
theorem dX4_readWalker_56 : decode cX4_readWalker 56 = .ok (.iconst 1, 1) := by decide +kernel
theorem dX4_readWalker_57 : decode cX4_readWalker 57 = .ok (.iadd, 1) := by decide +kernel
theorem dX4_readWalker_58 : decode cX4_readWalker 58 = .ok (.putfield 119, 3) := by decide +kernel
theorem dX4_readWalker_61 : decode cX4_readWalker 61 = .ok (.return_, 1) := by decide +kernel
theorem dX4_readSides_0 : decode cX4_readSides 0 = .ok (.aload_n 0, 1) := by decide +kernel
theorem dX4_readSides_1 : decode cX4_readSides 1 = .ok (.ldc 76, 2) := by decide +kernel
theorem dX4_readSides_3 : decode cX4_readSides 3 = .ok (.invokevirtual 92, 3) := by decide +kernel
theorem dX4_readSides_6 : decode cX4_readSides 6 = .ok (.aload_n 0, 1) := by decide +kernel
theorem dX4_readSides_7 : decode cX4_readSides 7 = .ok (.getfield 25, 3) := by decide +kernel
theorem dX4_readSides_10 : decode cX4_readSides 10 = .ok (.aload_n 0, 1) := by decide +kernel
theorem dX4_readSides_11 : decode cX4_readSides 11 = .ok (.ldc 127, 2) := by decide +kernel
theorem dX4_readSides_13 : decode cX4_readSides 13 = .ok (.iconst 1, 1) := by decide +kernel
theorem dX4_readSides_14 : decode cX4_readSides 14 = .ok (.bipush 9, 2) := by decide +kernel
theorem dX4_readSides_16 : decode cX4_readSides 16 = .ok (.invokevirtual 98, 3) := by decide +kernel
theorem dX4_readSides_19 : decode cX4_readSides 19 = .ok (.putfield 129, 3) := by decide +kernel
theorem dX4_readSides_22 : decode cX4_readSides 22 = .ok (.aload_n 0, 1) := by decide +kernel
theorem dX4_readSides_23 : decode cX4_readSides 23 = .ok (.getfield 25, 3) := by decide +kernel
theorem dX4_readSides_26 : decode cX4_readSides 26 = .ok (.aload_n 0, 1) := by decide +kernel
theorem dX4_readSides_27 : decode cX4_readSides 27 = .ok (.ldc 132, 2) := by decide +kernel
theorem dX4_readSides_29 : decode cX4_readSides 29 = .ok (.iconst 1, 1) := by decide +kernel
theorem dX4_readSides_30 : decode cX4_readSides 30 = .ok (.bipush 9, 2) := by decide +kernel
theorem dX4_readSides_32 : decode cX4_readSides 32 = .ok (.invokevirtual 98, 3) := by decide +kernel
theorem dX4_readSides_35 : decode cX4_readSides 35 = .ok (.putfield 134, 3) := by decide +kernel
theorem dX4_readSides_38 : decode cX4_readSides 38 = .ok (.aload_n 0, 1) := by decide +kernel
theorem dX4_readSides_39 : decode cX4_readSides 39 = .ok (.getfield 25, 3) := by decide +kernel
theorem dX4_readSides_42 : decode cX4_readSides 42 = .ok (.aload_n 0, 1) := by decide +kernel
theorem dX4_readSides_43 : decode cX4_readSides 43 = .ok (.ldc 125, 2) := by decide +kernel
theorem dX4_readSides_45 : decode cX4_readSides 45 = .ok (.iconst 1, 1) := by decide +kernel
theorem dX4_readSides_46 : decode cX4_readSides 46 = .ok (.bipush 30, 2) := by decide +kernel
theorem dX4_readSides_48 : decode cX4_readSides 48 = .ok (.invokevirtual 98, 3) := by decide +kernel
theorem dX4_readSides_51 : decode cX4_readSides 51 = .ok (.putfield 137, 3) := by decide +kernel
theorem dX4_readSides_54 : decode cX4_readSides 54 = .ok (.aload_n 0, 1) := by decide +kernel
theorem dX4_readSides_55 : decode cX4_readSides 55 = .ok (.getfield 25, 3) := by decide +kernel
theorem dX4_readSides_58 : decode cX4_readSides 58 = .ok (.aload_n 0, 1) := by decide +kernel
theorem dX4_readSides_59 : decode cX4_readSides 59 = .ok (.ldc 140, 2) := by decide +kernel
theorem dX4_readSides_61 : decode cX4_readSides 61 = .ok (.iconst 0, 1) := by decide +kernel
theorem dX4_readSides_62 : decode cX4_readSides 62 = .ok (.bipush 100, 2) := by decide +kernel
theorem dX4_readSides_64 : decode cX4_readSides 64 = .ok (.invokevirtual 98, 3) := by decide +kernel
theorem dX4_readSides_67 : decode cX4_readSides 67 = .ok (.putfield 142, 3) := by decide +kernel
theorem dX4_readSides_70 : decode cX4_readSides 70 = .ok (.aload_n 0, 1) := by decide +kernel
theorem dX4_readSides_71 : decode cX4_readSides 71 = .ok (.getfield 25, 3) := by decide +kernel
theorem dX4_readSides_74 : decode cX4_readSides 74 = .ok (.iconst 1, 1) := by decide +kernel
theorem dX4_readSides_75 : decode cX4_readSides 75 = .ok (.putfield 145, 3) := by decide +kernel
theorem dX4_readSides_78 : decode cX4_readSides 78 = .ok (.return_, 1) := by decide +kernel
theorem dX4_readBand_0 : decode cX4_readBand 0 = .ok (.aload_n 0, 1) := by decide +kernel
theorem dX4_readBand_1 : decode cX4_readBand 1 = .ok (.getfield 25, 3) := by decide +kernel
theorem dX4_readBand_4 : decode cX4_readBand 4 = .ok (.getfield 149, 3) := by decide +kernel
theorem dX4_readBand_7 : decode cX4_readBand 7 = .ok (.iconst 4, 1) := by decide +kernel
theorem dX4_readBand_8 : decode cX4_readBand 8 = .ok (.if_icmp .lt 9, 3) := by decide +kernel
theorem dX4_readBand_11 : decode cX4_readBand 11 = .ok (.aload_n 0, 1) := by decide +kernel
theorem dX4_readBand_12 : decode cX4_readBand 12 = .ok (.iconst 3, 1) := by decide +kernel
theorem dX4_readBand_13 : decode cX4_readBand 13 = .ok (.invokevirtual 86, 3) := by decide +kernel
theorem dX4_readBand_16 : decode cX4_readBand 16 = .ok (.return_, 1) := by decide +kernel
theorem dX4_readBand_17 : decode cX4_readBand 17 = .ok (.aload_n 0, 1) := by decide +kernel
theorem dX4_readBand_18 : decode cX4_readBand 18 = .ok (.ldc 81, 2) := by decide +kernel
theorem dX4_readBand_20 : decode cX4_readBand 20 = .ok (.invokevirtual 92, 3) := by decide +kernel
theorem dX4_readBand_23 : decode cX4_readBand 23 = .ok (.aload_n 0, 1) := by decide +kernel
theorem dX4_readBand_24 : decode cX4_readBand 24 = .ok (.getfield 25, 3) := by decide +kernel
theorem dX4_readBand_27 : decode cX4_readBand 27 = .ok (.getfield 152, 3) := by decide +kernel
theorem dX4_readBand_30 : decode cX4_readBand 30 = .ok (.aload_n 0, 1) := by decide +kernel
theorem dX4_readBand_31 : decode cX4_readBand 31 = .ok (.getfield 25, 3) := by decide +kernel
theorem dX4_readBand_34 : decode cX4_readBand 34 = .ok (.getfield 149, 3) := by decide +kernel
theorem dX4_readBand_37 : decode cX4_readBand 37 = .ok (.aload_n 0, 1) := by decide +kernel
theorem dX4_readBand_38 : decode cX4_readBand 38 = .ok (.iconst 1, 1) := by decide +kernel
theorem dX4_readBand_39 : decode cX4_readBand 39 = .ok (.sipush 9999, 3) := by decide +kernel
theorem dX4_readBand_42 : decode cX4_readBand 42 = .ok (.invokevirtual 155, 3) := by decide +kernel
theorem dX4_readBand_45 : decode cX4_readBand 45 = .ok (.iastore, 1) := by decide +kernel
theorem dX4_readBand_46 : decode cX4_readBand 46 = .ok (.aload_n 0, 1) := by decide +kernel
theorem dX4_readBand_47 : decode cX4_readBand 47 = .ok (.getfield 25, 3) := by decide +kernel
theorem dX4_readBand_50 : decode cX4_readBand 50 = .ok (.dup, 1) := by decide +kernel
theorem dX4_readBand_51 : decode cX4_readBand 51 = .ok (.getfield 149, 3) := by decide +kernel
theorem dX4_readBand_54 : decode cX4_readBand 54 = .ok (.iconst 1, 1) := by decide +kernel
theorem dX4_readBand_55 : decode cX4_readBand 55 = .ok (.iadd, 1) := by decide +kernel
theorem dX4_readBand_56 : decode cX4_readBand 56 = .ok (.putfield 149, 3) := by decide +kernel
theorem dX4_readBand_59 : decode cX4_readBand 59 = .ok (.return_, 1) := by decide +kernel
theorem dX4_namedNumber_0 : decode cX4_namedNumber 0 = .ok (.aload_n 0, 1) := by decide +kernel
theorem dX4_namedNumber_1 : decode cX4_namedNumber 1 = .ok (.aload_n 1, 1) := by decide +kernel
theorem dX4_namedNumber_2 : decode cX4_namedNumber 2 = .ok (.invokevirtual 92, 3) := by decide +kernel
theorem dX4_namedNumber_5 : decode cX4_namedNumber 5 = .ok (.aload_n 0, 1) := by decide +kernel
theorem dX4_namedNumber_6 : decode cX4_namedNumber 6 = .ok (.iload_n 2, 1) := by decide +kernel
theorem dX4_namedNumber_7 : decode cX4_namedNumber 7 = .ok (.iload_n 3, 1) := by decide +kernel
theorem dX4_namedNumber_8 : decode cX4_namedNumber 8 = .ok (.invokevirtual 155, 3) := by decide +kernel
theorem dX4_namedNumber_11 : decode cX4_namedNumber 11 = .ok (.ireturn, 1) := by decide +kernel
theorem dX4_expectWord_0 : decode cX4_expectWord 0 = .ok (.aload_n 0, 1) := by decide +kernel
theorem dX4_expectWord_1 : decode cX4_expectWord 1 = .ok (.getfield 9, 3) := by decide +kernel
theorem dX4_expectWord_4 : decode cX4_expectWord 4 = .ok (.ifCond .eq 4, 3) := by decide +kernel
theorem dX4_expectWord_7 : decode cX4_expectWord 7 = .ok (.return_, 1) := by decide +kernel
theorem dX4_expectWord_8 : decode cX4_expectWord 8 = .ok (.aload_n 0, 1) := by decide +kernel
theorem dX4_expectWord_9 : decode cX4_expectWord 9 = .ok (.aload_n 1, 1) := by decide +kernel
theorem dX4_expectWord_10 : decode cX4_expectWord 10 = .ok (.invokevirtual 64, 3) := by decide +kernel
theorem dX4_expectWord_13 : decode cX4_expectWord 13 = .ok (.ifCond .eq 10, 3) := by decide +kernel
theorem dX4_expectWord_16 : decode cX4_expectWord 16 = .ok (.aload_n 0, 1) := by decide +kernel
theorem dX4_expectWord_17 : decode cX4_expectWord 17 = .ok (.invokevirtual 50, 3) := by decide +kernel
theorem dX4_expectWord_20 : decode cX4_expectWord 20 = .ok (.goto 8, 3) := by decide +kernel
theorem dX4_expectWord_23 : decode cX4_expectWord 23 = .ok (.aload_n 0, 1) := by decide +kernel
theorem dX4_expectWord_24 : decode cX4_expectWord 24 = .ok (.iconst 1, 1) := by decide +kernel
theorem dX4_expectWord_25 : decode cX4_expectWord 25 = .ok (.invokevirtual 86, 3) := by decide +kernel
theorem dX4_expectWord_28 : decode cX4_expectWord 28 = .ok (.return_, 1) := by decide +kernel
theorem dX4_boundedNumber_0 : decode cX4_boundedNumber 0 = .ok (.aload_n 0, 1) := by decide +kernel
theorem dX4_boundedNumber_1 : decode cX4_boundedNumber 1 = .ok (.getfield 9, 3) := by decide +kernel
theorem dX4_boundedNumber_4 : decode cX4_boundedNumber 4 = .ok (.ifCond .eq 5, 3) := by decide +kernel
theorem dX4_boundedNumber_7 : decode cX4_boundedNumber 7 = .ok (.iload_n 1, 1) := by decide +kernel
theorem dX4_boundedNumber_8 : decode cX4_boundedNumber 8 = .ok (.ireturn, 1) := by decide +kernel
theorem dX4_boundedNumber_9 : decode cX4_boundedNumber 9 = .ok (.aload_n 0, 1) := by decide +kernel
theorem dX4_boundedNumber_10 : decode cX4_boundedNumber 10 = .ok (.getfield 32, 3) := by decide +kernel
theorem dX4_boundedNumber_13 : decode cX4_boundedNumber 13 = .ok (.iconst 2, 1) := by decide +kernel
theorem dX4_boundedNumber_14 : decode cX4_boundedNumber 14 = .ok (.if_icmp .eq 10, 3) := by decide +kernel
theorem dX4_boundedNumber_17 : decode cX4_boundedNumber 17 = .ok (.aload_n 0, 1) := by decide +kernel
theorem dX4_boundedNumber_18 : decode cX4_boundedNumber 18 = .ok (.iconst 1, 1) := by decide +kernel
theorem dX4_boundedNumber_19 : decode cX4_boundedNumber 19 = .ok (.invokevirtual 86, 3) := by decide +kernel
theorem dX4_boundedNumber_22 : decode cX4_boundedNumber 22 = .ok (.iload_n 1, 1) := by decide +kernel
theorem dX4_boundedNumber_23 : decode cX4_boundedNumber 23 = .ok (.ireturn, 1) := by decide +kernel
theorem dX4_boundedNumber_24 : decode cX4_boundedNumber 24 = .ok (.aload_n 0, 1) := by decide +kernel
theorem dX4_boundedNumber_25 : decode cX4_boundedNumber 25 = .ok (.invokevirtual 158, 3) := by decide +kernel
theorem dX4_boundedNumber_28 : decode cX4_boundedNumber 28 = .ok (.istore_n 3, 1) := by decide +kernel
theorem dX4_boundedNumber_29 : decode cX4_boundedNumber 29 = .ok (.iload_n 3, 1) := by decide +kernel
theorem dX4_boundedNumber_30 : decode cX4_boundedNumber 30 = .ok (.iload_n 1, 1) := by decide +kernel
theorem dX4_boundedNumber_31 : decode cX4_boundedNumber 31 = .ok (.if_icmp .lt 8, 3) := by decide +kernel
theorem dX4_boundedNumber_34 : decode cX4_boundedNumber 34 = .ok (.iload_n 3, 1) := by decide +kernel
theorem dX4_boundedNumber_35 : decode cX4_boundedNumber 35 = .ok (.iload_n 2, 1) := by decide +kernel
theorem dX4_boundedNumber_36 : decode cX4_boundedNumber 36 = .ok (.if_icmp .le 10, 3) := by decide +kernel
theorem dX4_boundedNumber_39 : decode cX4_boundedNumber 39 = .ok (.aload_n 0, 1) := by decide +kernel
theorem dX4_boundedNumber_40 : decode cX4_boundedNumber 40 = .ok (.iconst 2, 1) := by decide +kernel
theorem dX4_boundedNumber_41 : decode cX4_boundedNumber 41 = .ok (.invokevirtual 86, 3) := by decide +kernel
theorem dX4_boundedNumber_44 : decode cX4_boundedNumber 44 = .ok (.iload_n 1, 1) := by decide +kernel
theorem dX4_boundedNumber_45 : decode cX4_boundedNumber 45 = .ok (.ireturn, 1) := by decide +kernel
theorem dX4_boundedNumber_46 : decode cX4_boundedNumber 46 = .ok (.aload_n 0, 1) := by decide +kernel
theorem dX4_boundedNumber_47 : decode cX4_boundedNumber 47 = .ok (.invokevirtual 50, 3) := by decide +kernel
theorem dX4_boundedNumber_50 : decode cX4_boundedNumber 50 = .ok (.iload_n 3, 1) := by decide +kernel
theorem dX4_boundedNumber_51 : decode cX4_boundedNumber 51 = .ok (.ireturn, 1) := by decide +kernel
theorem dX4_refuse_0 : decode cX4_refuse 0 = .ok (.aload_n 0, 1) := by decide +kernel
theorem dX4_refuse_1 : decode cX4_refuse 1 = .ok (.getfield 9, 3) := by decide +kernel
theorem dX4_refuse_4 : decode cX4_refuse 4 = .ok (.ifCond .ne 16, 3) := by decide +kernel
theorem dX4_refuse_7 : decode cX4_refuse 7 = .ok (.aload_n 0, 1) := by decide +kernel
theorem dX4_refuse_8 : decode cX4_refuse 8 = .ok (.iload_n 1, 1) := by decide +kernel
theorem dX4_refuse_9 : decode cX4_refuse 9 = .ok (.putfield 9, 3) := by decide +kernel
theorem dX4_refuse_12 : decode cX4_refuse 12 = .ok (.aload_n 0, 1) := by decide +kernel
theorem dX4_refuse_13 : decode cX4_refuse 13 = .ok (.aload_n 0, 1) := by decide +kernel
theorem dX4_refuse_14 : decode cX4_refuse 14 = .ok (.getfield 35, 3) := by decide +kernel
theorem dX4_refuse_17 : decode cX4_refuse 17 = .ok (.putfield 15, 3) := by decide +kernel
theorem dX4_refuse_20 : decode cX4_refuse 20 = .ok (.return_, 1) := by decide +kernel
theorem dX4_isWord_0 : decode cX4_isWord 0 = .ok (.aload_n 0, 1) := by decide +kernel
theorem dX4_isWord_1 : decode cX4_isWord 1 = .ok (.getfield 32, 3) := by decide +kernel
theorem dX4_isWord_4 : decode cX4_isWord 4 = .ok (.iconst 1, 1) := by decide +kernel
theorem dX4_isWord_5 : decode cX4_isWord 5 = .ok (.if_icmp .ne 19, 3) := by decide +kernel
theorem dX4_isWord_8 : decode cX4_isWord 8 = .ok (.aload_n 0, 1) := by decide +kernel
theorem dX4_isWord_9 : decode cX4_isWord 9 = .ok (.getfield 38, 3) := by decide +kernel
theorem dX4_isWord_12 : decode cX4_isWord 12 = .ok (.aload_n 0, 1) := by decide +kernel
theorem dX4_isWord_13 : decode cX4_isWord 13 = .ok (.getfield 35, 3) := by decide +kernel
theorem dX4_isWord_16 : decode cX4_isWord 16 = .ok (.isub, 1) := by decide +kernel
theorem dX4_isWord_17 : decode cX4_isWord 17 = .ok (.aload_n 1, 1) := by decide +kernel
theorem dX4_isWord_18 : decode cX4_isWord 18 = .ok (.invokevirtual 162, 3) := by decide +kernel
theorem dX4_isWord_21 : decode cX4_isWord 21 = .ok (.if_icmp .eq 5, 3) := by decide +kernel
theorem dX4_isWord_24 : decode cX4_isWord 24 = .ok (.iconst 0, 1) := by decide +kernel
theorem dX4_isWord_25 : decode cX4_isWord 25 = .ok (.ireturn, 1) := by decide +kernel
theorem dX4_isWord_26 : decode cX4_isWord 26 = .ok (.iconst 0, 1) := by decide +kernel
theorem dX4_isWord_27 : decode cX4_isWord 27 = .ok (.istore_n 2, 1) := by decide +kernel
theorem dX4_isWord_28 : decode cX4_isWord 28 = .ok (.iload_n 2, 1) := by decide +kernel
theorem dX4_isWord_29 : decode cX4_isWord 29 = .ok (.aload_n 1, 1) := by decide +kernel
theorem dX4_isWord_30 : decode cX4_isWord 30 = .ok (.invokevirtual 162, 3) := by decide +kernel
theorem dX4_isWord_33 : decode cX4_isWord 33 = .ok (.if_icmp .ge 43, 3) := by decide +kernel
theorem dX4_isWord_36 : decode cX4_isWord 36 = .ok (.aload_n 0, 1) := by decide +kernel
theorem dX4_isWord_37 : decode cX4_isWord 37 = .ok (.getfield 35, 3) := by decide +kernel
theorem dX4_isWord_40 : decode cX4_isWord 40 = .ok (.iload_n 2, 1) := by decide +kernel
theorem dX4_isWord_41 : decode cX4_isWord 41 = .ok (.iadd, 1) := by decide +kernel
theorem dX4_isWord_42 : decode cX4_isWord 42 = .ok (.aload_n 0, 1) := by decide +kernel
theorem dX4_isWord_43 : decode cX4_isWord 43 = .ok (.getfield 29, 3) := by decide +kernel
theorem dX4_isWord_46 : decode cX4_isWord 46 = .ok (.if_icmp .ge 30, 3) := by decide +kernel
theorem dX4_isWord_49 : decode cX4_isWord 49 = .ok (.aload_n 0, 1) := by decide +kernel
theorem dX4_isWord_50 : decode cX4_isWord 50 = .ok (.getfield 18, 3) := by decide +kernel
theorem dX4_isWord_53 : decode cX4_isWord 53 = .ok (.aload_n 0, 1) := by decide +kernel
theorem dX4_isWord_54 : decode cX4_isWord 54 = .ok (.getfield 35, 3) := by decide +kernel
theorem dX4_isWord_57 : decode cX4_isWord 57 = .ok (.iload_n 2, 1) := by decide +kernel
theorem dX4_isWord_58 : decode cX4_isWord 58 = .ok (.iadd, 1) := by decide +kernel
theorem dX4_isWord_59 : decode cX4_isWord 59 = .ok (.baload, 1) := by decide +kernel
theorem dX4_isWord_60 : decode cX4_isWord 60 = .ok (.aload_n 1, 1) := by decide +kernel
theorem dX4_isWord_61 : decode cX4_isWord 61 = .ok (.iload_n 2, 1) := by decide +kernel
theorem dX4_isWord_62 : decode cX4_isWord 62 = .ok (.invokevirtual 166, 3) := by decide +kernel
theorem dX4_isWord_65 : decode cX4_isWord 65 = .ok (.if_icmp .eq 5, 3) := by decide +kernel
theorem dX4_isWord_68 : decode cX4_isWord 68 = .ok (.iconst 0, 1) := by decide +kernel
theorem dX4_isWord_69 : decode cX4_isWord 69 = .ok (.ireturn, 1) := by decide +kernel
theorem dX4_isWord_70 : decode cX4_isWord 70 = .ok (.iinc 2 1, 3) := by decide +kernel
theorem dX4_isWord_73 : decode cX4_isWord 73 = .ok (.goto (-45), 3) := by decide +kernel
theorem dX4_isWord_76 : decode cX4_isWord 76 = .ok (.iconst 1, 1) := by decide +kernel
theorem dX4_isWord_77 : decode cX4_isWord 77 = .ok (.ireturn, 1) := by decide +kernel
theorem dX4_numberHere_0 : decode cX4_numberHere 0 = .ok (.iconst 0, 1) := by decide +kernel
theorem dX4_numberHere_1 : decode cX4_numberHere 1 = .ok (.istore_n 1, 1) := by decide +kernel
theorem dX4_numberHere_2 : decode cX4_numberHere 2 = .ok (.aload_n 0, 1) := by decide +kernel
theorem dX4_numberHere_3 : decode cX4_numberHere 3 = .ok (.getfield 35, 3) := by decide +kernel
theorem dX4_numberHere_6 : decode cX4_numberHere 6 = .ok (.istore_n 2, 1) := by decide +kernel
theorem dX4_numberHere_7 : decode cX4_numberHere 7 = .ok (.iload_n 2, 1) := by decide +kernel
theorem dX4_numberHere_8 : decode cX4_numberHere 8 = .ok (.aload_n 0, 1) := by decide +kernel
theorem dX4_numberHere_9 : decode cX4_numberHere 9 = .ok (.getfield 38, 3) := by decide +kernel
theorem dX4_numberHere_12 : decode cX4_numberHere 12 = .ok (.if_icmp .ge 37, 3) := by decide +kernel
theorem dX4_numberHere_15 : decode cX4_numberHere 15 = .ok (.iload_n 2, 1) := by decide +kernel
theorem dX4_numberHere_16 : decode cX4_numberHere 16 = .ok (.aload_n 0, 1) := by decide +kernel
theorem dX4_numberHere_17 : decode cX4_numberHere 17 = .ok (.getfield 29, 3) := by decide +kernel
theorem dX4_numberHere_20 : decode cX4_numberHere 20 = .ok (.if_icmp .ge 29, 3) := by decide +kernel
theorem dX4_numberHere_23 : decode cX4_numberHere 23 = .ok (.ldc 170, 2) := by decide +kernel
theorem dX4_numberHere_25 : decode cX4_numberHere 25 = .ok (.iload_n 1, 1) := by decide +kernel
theorem dX4_numberHere_26 : decode cX4_numberHere 26 = .ok (.bipush 10, 2) := by decide +kernel
theorem dX4_numberHere_28 : decode cX4_numberHere 28 = .ok (.imul, 1) := by decide +kernel
theorem dX4_numberHere_29 : decode cX4_numberHere 29 = .ok (.aload_n 0, 1) := by decide +kernel
theorem dX4_numberHere_30 : decode cX4_numberHere 30 = .ok (.getfield 18, 3) := by decide +kernel
theorem dX4_numberHere_33 : decode cX4_numberHere 33 = .ok (.iload_n 2, 1) := by decide +kernel
theorem dX4_numberHere_34 : decode cX4_numberHere 34 = .ok (.baload, 1) := by decide +kernel
theorem dX4_numberHere_35 : decode cX4_numberHere 35 = .ok (.iadd, 1) := by decide +kernel
theorem dX4_numberHere_36 : decode cX4_numberHere 36 = .ok (.bipush 48, 2) := by decide +kernel
theorem dX4_numberHere_38 : decode cX4_numberHere 38 = .ok (.isub, 1) := by decide +kernel
theorem dX4_numberHere_39 : decode cX4_numberHere 39 = .ok (.invokestatic 41, 3) := by decide +kernel
theorem dX4_numberHere_42 : decode cX4_numberHere 42 = .ok (.istore_n 1, 1) := by decide +kernel
theorem dX4_numberHere_43 : decode cX4_numberHere 43 = .ok (.iinc 2 1, 3) := by decide +kernel
theorem dX4_numberHere_46 : decode cX4_numberHere 46 = .ok (.goto (-39), 3) := by decide +kernel
theorem dX4_numberHere_49 : decode cX4_numberHere 49 = .ok (.iload_n 1, 1) := by decide +kernel
theorem dX4_numberHere_50 : decode cX4_numberHere 50 = .ok (.ireturn, 1) := by decide +kernel
theorem dX4_advance_0 : decode cX4_advance 0 = .ok (.aload_n 0, 1) := by decide +kernel
theorem dX4_advance_1 : decode cX4_advance 1 = .ok (.getfield 38, 3) := by decide +kernel
theorem dX4_advance_4 : decode cX4_advance 4 = .ok (.istore_n 1, 1) := by decide +kernel
theorem dX4_advance_5 : decode cX4_advance 5 = .ok (.iload_n 1, 1) := by decide +kernel
theorem dX4_advance_6 : decode cX4_advance 6 = .ok (.aload_n 0, 1) := by decide +kernel
theorem dX4_advance_7 : decode cX4_advance 7 = .ok (.getfield 29, 3) := by decide +kernel
theorem dX4_advance_10 : decode cX4_advance 10 = .ok (.if_icmp .ge 31, 3) := by decide +kernel
theorem dX4_advance_13 : decode cX4_advance 13 = .ok (.aload_n 0, 1) := by decide +kernel
theorem dX4_advance_14 : decode cX4_advance 14 = .ok (.getfield 18, 3) := by decide +kernel
theorem dX4_advance_17 : decode cX4_advance 17 = .ok (.iload_n 1, 1) := by decide +kernel
theorem dX4_advance_18 : decode cX4_advance 18 = .ok (.baload, 1) := by decide +kernel
theorem dX4_advance_19 : decode cX4_advance 19 = .ok (.bipush 32, 2) := by decide +kernel
theorem dX4_advance_21 : decode cX4_advance 21 = .ok (.if_icmp .eq 14, 3) := by decide +kernel
theorem dX4_advance_24 : decode cX4_advance 24 = .ok (.aload_n 0, 1) := by decide +kernel
theorem dX4_advance_25 : decode cX4_advance 25 = .ok (.getfield 18, 3) := by decide +kernel
theorem dX4_advance_28 : decode cX4_advance 28 = .ok (.iload_n 1, 1) := by decide +kernel
theorem dX4_advance_29 : decode cX4_advance 29 = .ok (.baload, 1) := by decide +kernel
theorem dX4_advance_30 : decode cX4_advance 30 = .ok (.bipush 10, 2) := by decide +kernel
theorem dX4_advance_32 : decode cX4_advance 32 = .ok (.if_icmp .ne 9, 3) := by decide +kernel
theorem dX4_advance_35 : decode cX4_advance 35 = .ok (.iinc 1 1, 3) := by decide +kernel
theorem dX4_advance_38 : decode cX4_advance 38 = .ok (.goto (-33), 3) := by decide +kernel
theorem dX4_advance_41 : decode cX4_advance 41 = .ok (.aload_n 0, 1) := by decide +kernel
theorem dX4_advance_42 : decode cX4_advance 42 = .ok (.iload_n 1, 1) := by decide +kernel
theorem dX4_advance_43 : decode cX4_advance 43 = .ok (.putfield 35, 3) := by decide +kernel
theorem dX4_advance_46 : decode cX4_advance 46 = .ok (.aload_n 0, 1) := by decide +kernel
theorem dX4_advance_47 : decode cX4_advance 47 = .ok (.aload_n 0, 1) := by decide +kernel
theorem dX4_advance_48 : decode cX4_advance 48 = .ok (.iload_n 1, 1) := by decide +kernel
theorem dX4_advance_49 : decode cX4_advance 49 = .ok (.invokevirtual 171, 3) := by decide +kernel
theorem dX4_advance_52 : decode cX4_advance 52 = .ok (.putfield 32, 3) := by decide +kernel
theorem dX4_advance_55 : decode cX4_advance 55 = .ok (.aload_n 0, 1) := by decide +kernel
theorem dX4_advance_56 : decode cX4_advance 56 = .ok (.getfield 32, 3) := by decide +kernel
theorem dX4_advance_59 : decode cX4_advance 59 = .ok (.ifCond .eq 6, 3) := by decide +kernel
theorem dX4_advance_62 : decode cX4_advance 62 = .ok (.iinc 1 1, 3) := by decide +kernel
theorem dX4_advance_65 : decode cX4_advance 65 = .ok (.iload_n 1, 1) := by decide +kernel
theorem dX4_advance_66 : decode cX4_advance 66 = .ok (.aload_n 0, 1) := by decide +kernel
theorem dX4_advance_67 : decode cX4_advance 67 = .ok (.getfield 29, 3) := by decide +kernel
theorem dX4_advance_70 : decode cX4_advance 70 = .ok (.if_icmp .ge 37, 3) := by decide +kernel
theorem dX4_advance_73 : decode cX4_advance 73 = .ok (.aload_n 0, 1) := by decide +kernel
theorem dX4_advance_74 : decode cX4_advance 74 = .ok (.getfield 32, 3) := by decide +kernel
theorem dX4_advance_77 : decode cX4_advance 77 = .ok (.iconst 1, 1) := by decide +kernel
theorem dX4_advance_78 : decode cX4_advance 78 = .ok (.if_icmp .eq 11, 3) := by decide +kernel
theorem dX4_advance_81 : decode cX4_advance 81 = .ok (.aload_n 0, 1) := by decide +kernel
theorem dX4_advance_82 : decode cX4_advance 82 = .ok (.getfield 32, 3) := by decide +kernel
theorem dX4_advance_85 : decode cX4_advance 85 = .ok (.iconst 2, 1) := by decide +kernel
theorem dX4_advance_86 : decode cX4_advance 86 = .ok (.if_icmp .ne 21, 3) := by decide +kernel
theorem dX4_advance_89 : decode cX4_advance 89 = .ok (.aload_n 0, 1) := by decide +kernel
theorem dX4_advance_90 : decode cX4_advance 90 = .ok (.iload_n 1, 1) := by decide +kernel
theorem dX4_advance_91 : decode cX4_advance 91 = .ok (.invokevirtual 171, 3) := by decide +kernel
theorem dX4_advance_94 : decode cX4_advance 94 = .ok (.aload_n 0, 1) := by decide +kernel
theorem dX4_advance_95 : decode cX4_advance 95 = .ok (.getfield 32, 3) := by decide +kernel
theorem dX4_advance_98 : decode cX4_advance 98 = .ok (.if_icmp .ne 9, 3) := by decide +kernel
theorem dX4_advance_101 : decode cX4_advance 101 = .ok (.iinc 1 1, 3) := by decide +kernel
theorem dX4_advance_104 : decode cX4_advance 104 = .ok (.goto (-39), 3) := by decide +kernel
theorem dX4_advance_107 : decode cX4_advance 107 = .ok (.aload_n 0, 1) := by decide +kernel
theorem dX4_advance_108 : decode cX4_advance 108 = .ok (.iload_n 1, 1) := by decide +kernel
theorem dX4_advance_109 : decode cX4_advance 109 = .ok (.putfield 38, 3) := by decide +kernel
theorem dX4_advance_112 : decode cX4_advance 112 = .ok (.return_, 1) := by decide +kernel
theorem dX4_kindAt_0 : decode cX4_kindAt 0 = .ok (.iload_n 1, 1) := by decide +kernel
theorem dX4_kindAt_1 : decode cX4_kindAt 1 = .ok (.ifCond .lt 11, 3) := by decide +kernel
theorem dX4_kindAt_4 : decode cX4_kindAt 4 = .ok (.iload_n 1, 1) := by decide +kernel
theorem dX4_kindAt_5 : decode cX4_kindAt 5 = .ok (.aload_n 0, 1) := by decide +kernel
theorem dX4_kindAt_6 : decode cX4_kindAt 6 = .ok (.getfield 29, 3) := by decide +kernel
theorem dX4_kindAt_9 : decode cX4_kindAt 9 = .ok (.if_icmp .lt 5, 3) := by decide +kernel
theorem dX4_kindAt_12 : decode cX4_kindAt 12 = .ok (.iconst 0, 1) := by decide +kernel
theorem dX4_kindAt_13 : decode cX4_kindAt 13 = .ok (.ireturn, 1) := by decide +kernel
theorem dX4_kindAt_14 : decode cX4_kindAt 14 = .ok (.aload_n 0, 1) := by decide +kernel
theorem dX4_kindAt_15 : decode cX4_kindAt 15 = .ok (.getfield 18, 3) := by decide +kernel
theorem dX4_kindAt_18 : decode cX4_kindAt 18 = .ok (.iload_n 1, 1) := by decide +kernel
theorem dX4_kindAt_19 : decode cX4_kindAt 19 = .ok (.baload, 1) := by decide +kernel
theorem dX4_kindAt_20 : decode cX4_kindAt 20 = .ok (.istore_n 2, 1) := by decide +kernel
theorem dX4_kindAt_21 : decode cX4_kindAt 21 = .ok (.iload_n 2, 1) := by decide +kernel
theorem dX4_kindAt_22 : decode cX4_kindAt 22 = .ok (.bipush 97, 2) := by decide +kernel
theorem dX4_kindAt_24 : decode cX4_kindAt 24 = .ok (.if_icmp .lt 11, 3) := by decide +kernel
theorem dX4_kindAt_27 : decode cX4_kindAt 27 = .ok (.iload_n 2, 1) := by decide +kernel
theorem dX4_kindAt_28 : decode cX4_kindAt 28 = .ok (.bipush 122, 2) := by decide +kernel
theorem dX4_kindAt_30 : decode cX4_kindAt 30 = .ok (.if_icmp .gt 5, 3) := by decide +kernel
theorem dX4_kindAt_33 : decode cX4_kindAt 33 = .ok (.iconst 1, 1) := by decide +kernel
theorem dX4_kindAt_34 : decode cX4_kindAt 34 = .ok (.ireturn, 1) := by decide +kernel
theorem dX4_kindAt_35 : decode cX4_kindAt 35 = .ok (.iload_n 2, 1) := by decide +kernel
theorem dX4_kindAt_36 : decode cX4_kindAt 36 = .ok (.bipush 48, 2) := by decide +kernel
theorem dX4_kindAt_38 : decode cX4_kindAt 38 = .ok (.if_icmp .lt 11, 3) := by decide +kernel
theorem dX4_kindAt_41 : decode cX4_kindAt 41 = .ok (.iload_n 2, 1) := by decide +kernel
theorem dX4_kindAt_42 : decode cX4_kindAt 42 = .ok (.bipush 57, 2) := by decide +kernel
theorem dX4_kindAt_44 : decode cX4_kindAt 44 = .ok (.if_icmp .gt 5, 3) := by decide +kernel
theorem dX4_kindAt_47 : decode cX4_kindAt 47 = .ok (.iconst 2, 1) := by decide +kernel
theorem dX4_kindAt_48 : decode cX4_kindAt 48 = .ok (.ireturn, 1) := by decide +kernel
theorem dX4_kindAt_49 : decode cX4_kindAt 49 = .ok (.iload_n 2, 1) := by decide +kernel
theorem dX4_kindAt_50 : decode cX4_kindAt 50 = .ok (.bipush 59, 2) := by decide +kernel
theorem dX4_kindAt_52 : decode cX4_kindAt 52 = .ok (.if_icmp .ne 7, 3) := by decide +kernel
theorem dX4_kindAt_55 : decode cX4_kindAt 55 = .ok (.iconst 3, 1) := by decide +kernel
theorem dX4_kindAt_56 : decode cX4_kindAt 56 = .ok (.goto 4, 3) := by decide +kernel
theorem dX4_kindAt_59 : decode cX4_kindAt 59 = .ok (.iconst 4, 1) := by decide +kernel
theorem dX4_kindAt_60 : decode cX4_kindAt 60 = .ok (.ireturn, 1) := by decide +kernel
theorem dX5_init_0 : decode cX5_init 0 = .ok (.aload_n 0, 1) := by decide +kernel
theorem dX5_init_1 : decode cX5_init 1 = .ok (.invokespecial 3, 3) := by decide +kernel
theorem dX5_init_4 : decode cX5_init 4 = .ok (.aload_n 0, 1) := by decide +kernel
theorem dX5_init_5 : decode cX5_init 5 = .ok (.iconst 0, 1) := by decide +kernel
theorem dX5_init_6 : decode cX5_init 6 = .ok (.putfield 9, 3) := by decide +kernel
theorem dX5_init_9 : decode cX5_init 9 = .ok (.aload_n 0, 1) := by decide +kernel
theorem dX5_init_10 : decode cX5_init 10 = .ok (.iconst 0, 1) := by decide +kernel
theorem dX5_init_11 : decode cX5_init 11 = .ok (.putfield 15, 3) := by decide +kernel
theorem dX5_init_14 : decode cX5_init 14 = .ok (.aload_n 0, 1) := by decide +kernel
theorem dX5_init_15 : decode cX5_init 15 = .ok (.iconst 0, 1) := by decide +kernel
theorem dX5_init_16 : decode cX5_init 16 = .ok (.putfield 19, 3) := by decide +kernel
theorem dX5_init_19 : decode cX5_init 19 = .ok (.aload_n 0, 1) := by decide +kernel
theorem dX5_init_20 : decode cX5_init 20 = .ok (.bipush 60, 2) := by decide +kernel
theorem dX5_init_22 : decode cX5_init 22 = .ok (.newarray .long, 2) := by decide +kernel
theorem dX5_init_24 : decode cX5_init 24 = .ok (.putfield 22, 3) := by decide +kernel
theorem dX5_init_27 : decode cX5_init 27 = .ok (.return_, 1) := by decide +kernel
theorem dX5_begin_0 : decode cX5_begin 0 = .ok (.aload_n 0, 1) := by decide +kernel
theorem dX5_begin_1 : decode cX5_begin 1 = .ok (.iconst 1, 1) := by decide +kernel
theorem dX5_begin_2 : decode cX5_begin 2 = .ok (.putfield 9, 3) := by decide +kernel
theorem dX5_begin_5 : decode cX5_begin 5 = .ok (.aload_n 0, 1) := by decide +kernel
theorem dX5_begin_6 : decode cX5_begin 6 = .ok (.iload_n 1, 1) := by decide +kernel
theorem dX5_begin_7 : decode cX5_begin 7 = .ok (.putfield 15, 3) := by decide +kernel
theorem dX5_begin_10 : decode cX5_begin 10 = .ok (.aload_n 0, 1) := by decide +kernel
theorem dX5_begin_11 : decode cX5_begin 11 = .ok (.iload_n 2, 1) := by decide +kernel
theorem dX5_begin_12 : decode cX5_begin 12 = .ok (.putfield 19, 3) := by decide +kernel
theorem dX5_begin_15 : decode cX5_begin 15 = .ok (.aload_n 0, 1) := by decide +kernel
theorem dX5_begin_16 : decode cX5_begin 16 = .ok (.getfield 22, 3) := by decide +kernel
theorem dX5_begin_19 : decode cX5_begin 19 = .ok (.lconst 0, 1) := by decide +kernel
theorem dX5_begin_20 : decode cX5_begin 20 = .ok (.invokestatic 26, 3) := by decide +kernel
theorem dX5_begin_23 : decode cX5_begin 23 = .ok (.return_, 1) := by decide +kernel
theorem dX5_cut_0 : decode cX5_cut 0 = .ok (.aload_n 0, 1) := by decide +kernel
theorem dX5_cut_1 : decode cX5_cut 1 = .ok (.getfield 15, 3) := by decide +kernel
theorem dX5_cut_4 : decode cX5_cut 4 = .ok (.tableswitch 42 0 2 #[28, 33, 38], 28) := by decide +kernel
theorem dX5_cut_32 : decode cX5_cut 32 = .ok (.lload_n 1, 1) := by decide +kernel
theorem dX5_cut_33 : decode cX5_cut 33 = .ok (.l2i, 1) := by decide +kernel
theorem dX5_cut_34 : decode cX5_cut 34 = .ok (.i2b, 1) := by decide +kernel
theorem dX5_cut_35 : decode cX5_cut 35 = .ok (.i2l, 1) := by decide +kernel
theorem dX5_cut_36 : decode cX5_cut 36 = .ok (.lreturn, 1) := by decide +kernel
theorem dX5_cut_37 : decode cX5_cut 37 = .ok (.lload_n 1, 1) := by decide +kernel
theorem dX5_cut_38 : decode cX5_cut 38 = .ok (.l2i, 1) := by decide +kernel
theorem dX5_cut_39 : decode cX5_cut 39 = .ok (.i2s, 1) := by decide +kernel
theorem dX5_cut_40 : decode cX5_cut 40 = .ok (.i2l, 1) := by decide +kernel
theorem dX5_cut_41 : decode cX5_cut 41 = .ok (.lreturn, 1) := by decide +kernel
theorem dX5_cut_42 : decode cX5_cut 42 = .ok (.lload_n 1, 1) := by decide +kernel
theorem dX5_cut_43 : decode cX5_cut 43 = .ok (.l2i, 1) := by decide +kernel
theorem dX5_cut_44 : decode cX5_cut 44 = .ok (.i2l, 1) := by decide +kernel
theorem dX5_cut_45 : decode cX5_cut 45 = .ok (.lreturn, 1) := by decide +kernel
theorem dX5_cut_46 : decode cX5_cut 46 = .ok (.lload_n 1, 1) := by decide +kernel
theorem dX5_cut_47 : decode cX5_cut 47 = .ok (.lreturn, 1) := by decide +kernel
theorem dX5_hasOut_0 : decode cX5_hasOut 0 = .ok (.iload_n 1, 1) := by decide +kernel
theorem dX5_hasOut_1 : decode cX5_hasOut 1 = .ok (.istore 7, 2) := by decide +kernel
theorem dX5_hasOut_3 : decode cX5_hasOut 3 = .ok (.iload 7, 2) := by decide +kernel
theorem dX5_hasOut_5 : decode cX5_hasOut 5 = .ok (.aload_n 0, 1) := by decide +kernel
theorem dX5_hasOut_6 : decode cX5_hasOut 6 = .ok (.getfield 19, 3) := by decide +kernel
theorem dX5_hasOut_9 : decode cX5_hasOut 9 = .ok (.if_icmp .ge 37, 3) := by decide +kernel
theorem dX5_hasOut_12 : decode cX5_hasOut 12 = .ok (.iload 7, 2) := by decide +kernel
theorem dX5_hasOut_14 : decode cX5_hasOut 14 = .ok (.bipush 60, 2) := by decide +kernel
theorem dX5_hasOut_16 : decode cX5_hasOut 16 = .ok (.if_icmp .ge 30, 3) := by decide +kernel
theorem dX5_hasOut_19 : decode cX5_hasOut 19 = .ok (.aload_n 0, 1) := by decide +kernel
theorem dX5_hasOut_20 : decode cX5_hasOut 20 = .ok (.getfield 22, 3) := by decide +kernel
theorem dX5_hasOut_23 : decode cX5_hasOut 23 = .ok (.iload 7, 2) := by decide +kernel
theorem dX5_hasOut_25 : decode cX5_hasOut 25 = .ok (.laload, 1) := by decide +kernel
theorem dX5_hasOut_26 : decode cX5_hasOut 26 = .ok (.lload_n 3, 1) := by decide +kernel
theorem dX5_hasOut_27 : decode cX5_hasOut 27 = .ok (.lload 5, 2) := by decide +kernel
theorem dX5_hasOut_29 : decode cX5_hasOut 29 = .ok (.invokestatic 32, 3) := by decide +kernel
theorem dX5_hasOut_32 : decode cX5_hasOut 32 = .ok (.ifCond .eq 5, 3) := by decide +kernel
theorem dX5_hasOut_35 : decode cX5_hasOut 35 = .ok (.iconst 1, 1) := by decide +kernel
theorem dX5_hasOut_36 : decode cX5_hasOut 36 = .ok (.ireturn, 1) := by decide +kernel
theorem dX5_hasOut_37 : decode cX5_hasOut 37 = .ok (.iload 7, 2) := by decide +kernel
theorem dX5_hasOut_39 : decode cX5_hasOut 39 = .ok (.iload_n 2, 1) := by decide +kernel
theorem dX5_hasOut_40 : decode cX5_hasOut 40 = .ok (.iadd, 1) := by decide +kernel
theorem dX5_hasOut_41 : decode cX5_hasOut 41 = .ok (.istore 7, 2) := by decide +kernel
theorem dX5_hasOut_43 : decode cX5_hasOut 43 = .ok (.goto (-40), 3) := by decide +kernel
theorem dX5_hasOut_46 : decode cX5_hasOut 46 = .ok (.iconst 0, 1) := by decide +kernel
theorem dX5_hasOut_47 : decode cX5_hasOut 47 = .ok (.ireturn, 1) := by decide +kernel
theorem dX6_init_0 : decode cX6_init 0 = .ok (.aload_n 0, 1) := by decide +kernel
theorem dX6_init_1 : decode cX6_init 1 = .ok (.invokespecial 3, 3) := by decide +kernel
theorem dX6_init_4 : decode cX6_init 4 = .ok (.aload_n 0, 1) := by decide +kernel
theorem dX6_init_5 : decode cX6_init 5 = .ok (.new 9, 3) := by decide +kernel
theorem dX6_init_8 : decode cX6_init 8 = .ok (.dup, 1) := by decide +kernel
theorem dX6_init_9 : decode cX6_init 9 = .ok (.invokespecial 11, 3) := by decide +kernel
theorem dX6_init_12 : decode cX6_init 12 = .ok (.putfield 12, 3) := by decide +kernel
theorem dX6_init_15 : decode cX6_init 15 = .ok (.aload_n 0, 1) := by decide +kernel
theorem dX6_init_16 : decode cX6_init 16 = .ok (.new 9, 3) := by decide +kernel
theorem dX6_init_19 : decode cX6_init 19 = .ok (.dup, 1) := by decide +kernel
theorem dX6_init_20 : decode cX6_init 20 = .ok (.invokespecial 11, 3) := by decide +kernel
theorem dX6_init_23 : decode cX6_init 23 = .ok (.putfield 18, 3) := by decide +kernel
theorem dX6_init_26 : decode cX6_init 26 = .ok (.aload_n 0, 1) := by decide +kernel
theorem dX6_init_27 : decode cX6_init 27 = .ok (.new 9, 3) := by decide +kernel
theorem dX6_init_30 : decode cX6_init 30 = .ok (.dup, 1) := by decide +kernel
theorem dX6_init_31 : decode cX6_init 31 = .ok (.invokespecial 11, 3) := by decide +kernel
theorem dX6_init_34 : decode cX6_init 34 = .ok (.putfield 21, 3) := by decide +kernel
theorem dX6_init_37 : decode cX6_init 37 = .ok (.return_, 1) := by decide +kernel
theorem dX6_crosses_0 : decode cX6_crosses 0 = .ok (.aload_n 0, 1) := by decide +kernel
theorem dX6_crosses_1 : decode cX6_crosses 1 = .ok (.getfield 12, 3) := by decide +kernel
theorem dX6_crosses_4 : decode cX6_crosses 4 = .ok (.lconst 0, 1) := by decide +kernel
theorem dX6_crosses_5 : decode cX6_crosses 5 = .ok (.lconst 1, 1) := by decide +kernel
theorem dX6_crosses_6 : decode cX6_crosses 6 = .ok (.invokevirtual 24, 3) := by decide +kernel
theorem dX6_crosses_9 : decode cX6_crosses 9 = .ok (.aload_n 0, 1) := by decide +kernel
theorem dX6_crosses_10 : decode cX6_crosses 10 = .ok (.aload_n 1, 1) := by decide +kernel
theorem dX6_crosses_11 : decode cX6_crosses 11 = .ok (.iload_n 2, 1) := by decide +kernel
theorem dX6_crosses_12 : decode cX6_crosses 12 = .ok (.iload_n 3, 1) := by decide +kernel
theorem dX6_crosses_13 : decode cX6_crosses 13 = .ok (.iconst 0, 1) := by decide +kernel
theorem dX6_crosses_14 : decode cX6_crosses 14 = .ok (.aload_n 1, 1) := by decide +kernel
theorem dX6_crosses_15 : decode cX6_crosses 15 = .ok (.getfield 28, 3) := by decide +kernel
theorem dX6_crosses_18 : decode cX6_crosses 18 = .ok (.invokevirtual 34, 3) := by decide +kernel
theorem dX6_crosses_21 : decode cX6_crosses 21 = .ok (.ireturn, 1) := by decide +kernel
theorem dX6_addTimes_0 : decode cX6_addTimes 0 = .ok (.iload 4, 2) := by decide +kernel
theorem dX6_addTimes_2 : decode cX6_addTimes 2 = .ok (.istore 6, 2) := by decide +kernel
theorem dX6_addTimes_4 : decode cX6_addTimes 4 = .ok (.iload 6, 2) := by decide +kernel
theorem dX6_addTimes_6 : decode cX6_addTimes 6 = .ok (.iload 5, 2) := by decide +kernel
theorem dX6_addTimes_8 : decode cX6_addTimes 8 = .ok (.if_icmp .ge 68, 3) := by decide +kernel
theorem dX6_addTimes_11 : decode cX6_addTimes 11 = .ok (.iload 6, 2) := by decide +kernel
theorem dX6_addTimes_13 : decode cX6_addTimes 13 = .ok (.aload_n 1, 1) := by decide +kernel
theorem dX6_addTimes_14 : decode cX6_addTimes 14 = .ok (.getfield 28, 3) := by decide +kernel
theorem dX6_addTimes_17 : decode cX6_addTimes 17 = .ok (.if_icmp .ge 59, 3) := by decide +kernel
theorem dX6_addTimes_20 : decode cX6_addTimes 20 = .ok (.iload_n 2, 1) := by decide +kernel
theorem dX6_addTimes_21 : decode cX6_addTimes 21 = .ok (.iload_n 3, 1) := by decide +kernel
theorem dX6_addTimes_22 : decode cX6_addTimes 22 = .ok (.iload 6, 2) := by decide +kernel
theorem dX6_addTimes_24 : decode cX6_addTimes 24 = .ok (.ishr, 1) := by decide +kernel
theorem dX6_addTimes_25 : decode cX6_addTimes 25 = .ok (.iconst 1, 1) := by decide +kernel
theorem dX6_addTimes_26 : decode cX6_addTimes 26 = .ok (.iand, 1) := by decide +kernel
theorem dX6_addTimes_27 : decode cX6_addTimes 27 = .ok (.iconst 1, 1) := by decide +kernel
theorem dX6_addTimes_28 : decode cX6_addTimes 28 = .ok (.if_icmp .ne 7, 3) := by decide +kernel
theorem dX6_addTimes_31 : decode cX6_addTimes 31 = .ok (.iconst 0, 1) := by decide +kernel
theorem dX6_addTimes_32 : decode cX6_addTimes 32 = .ok (.goto 10, 3) := by decide +kernel
theorem dX6_addTimes_35 : decode cX6_addTimes 35 = .ok (.aload_n 1, 1) := by decide +kernel
theorem dX6_addTimes_36 : decode cX6_addTimes 36 = .ok (.getfield 38, 3) := by decide +kernel
theorem dX6_addTimes_39 : decode cX6_addTimes 39 = .ok (.iload 6, 2) := by decide +kernel
theorem dX6_addTimes_41 : decode cX6_addTimes 41 = .ok (.iaload, 1) := by decide +kernel
theorem dX6_addTimes_42 : decode cX6_addTimes 42 = .ok (.iadd, 1) := by decide +kernel
theorem dX6_addTimes_43 : decode cX6_addTimes 43 = .ok (.istore 7, 2) := by decide +kernel
theorem dX6_addTimes_45 : decode cX6_addTimes 45 = .ok (.iload 7, 2) := by decide +kernel
theorem dX6_addTimes_47 : decode cX6_addTimes 47 = .ok (.ifCond .gt 5, 3) := by decide +kernel
theorem dX6_addTimes_50 : decode cX6_addTimes 50 = .ok (.iconst 0, 1) := by decide +kernel
theorem dX6_addTimes_51 : decode cX6_addTimes 51 = .ok (.ireturn, 1) := by decide +kernel
theorem dX6_addTimes_52 : decode cX6_addTimes 52 = .ok (.aload_n 0, 1) := by decide +kernel
theorem dX6_addTimes_53 : decode cX6_addTimes 53 = .ok (.getfield 12, 3) := by decide +kernel
theorem dX6_addTimes_56 : decode cX6_addTimes 56 = .ok (.aload_n 1, 1) := by decide +kernel
theorem dX6_addTimes_57 : decode cX6_addTimes 57 = .ok (.getfield 42, 3) := by decide +kernel
theorem dX6_addTimes_60 : decode cX6_addTimes 60 = .ok (.iload 6, 2) := by decide +kernel
theorem dX6_addTimes_62 : decode cX6_addTimes 62 = .ok (.iaload, 1) := by decide +kernel
theorem dX6_addTimes_63 : decode cX6_addTimes 63 = .ok (.i2l, 1) := by decide +kernel
theorem dX6_addTimes_64 : decode cX6_addTimes 64 = .ok (.iload 7, 2) := by decide +kernel
theorem dX6_addTimes_66 : decode cX6_addTimes 66 = .ok (.i2l, 1) := by decide +kernel
theorem dX6_addTimes_67 : decode cX6_addTimes 67 = .ok (.invokevirtual 45, 3) := by decide +kernel
theorem dX6_addTimes_70 : decode cX6_addTimes 70 = .ok (.iinc 6 1, 3) := by decide +kernel
theorem dX6_addTimes_73 : decode cX6_addTimes 73 = .ok (.goto (-69), 3) := by decide +kernel
theorem dX6_addTimes_76 : decode cX6_addTimes 76 = .ok (.iconst 1, 1) := by decide +kernel
theorem dX6_addTimes_77 : decode cX6_addTimes 77 = .ok (.ireturn, 1) := by decide +kernel
theorem dX6_addReturn_0 : decode cX6_addReturn 0 = .ok (.aload_n 1, 1) := by decide +kernel
theorem dX6_addReturn_1 : decode cX6_addReturn 1 = .ok (.getfield 28, 3) := by decide +kernel
theorem dX6_addReturn_4 : decode cX6_addReturn 4 = .ok (.iconst 1, 1) := by decide +kernel
theorem dX6_addReturn_5 : decode cX6_addReturn 5 = .ok (.isub, 1) := by decide +kernel
theorem dX6_addReturn_6 : decode cX6_addReturn 6 = .ok (.istore_n 3, 1) := by decide +kernel
theorem dX6_addReturn_7 : decode cX6_addReturn 7 = .ok (.iload_n 3, 1) := by decide +kernel
theorem dX6_addReturn_8 : decode cX6_addReturn 8 = .ok (.ifCond .lt 43, 3) := by decide +kernel
theorem dX6_addReturn_11 : decode cX6_addReturn 11 = .ok (.iload_n 2, 1) := by decide +kernel
theorem dX6_addReturn_12 : decode cX6_addReturn 12 = .ok (.aload_n 1, 1) := by decide +kernel
theorem dX6_addReturn_13 : decode cX6_addReturn 13 = .ok (.getfield 38, 3) := by decide +kernel
theorem dX6_addReturn_16 : decode cX6_addReturn 16 = .ok (.iload_n 3, 1) := by decide +kernel
theorem dX6_addReturn_17 : decode cX6_addReturn 17 = .ok (.iaload, 1) := by decide +kernel
theorem dX6_addReturn_18 : decode cX6_addReturn 18 = .ok (.isub, 1) := by decide +kernel
theorem dX6_addReturn_19 : decode cX6_addReturn 19 = .ok (.istore 4, 2) := by decide +kernel
theorem dX6_addReturn_21 : decode cX6_addReturn 21 = .ok (.iload 4, 2) := by decide +kernel
theorem dX6_addReturn_23 : decode cX6_addReturn 23 = .ok (.ifCond .gt 5, 3) := by decide +kernel
theorem dX6_addReturn_26 : decode cX6_addReturn 26 = .ok (.iconst 0, 1) := by decide +kernel
theorem dX6_addReturn_27 : decode cX6_addReturn 27 = .ok (.ireturn, 1) := by decide +kernel
theorem dX6_addReturn_28 : decode cX6_addReturn 28 = .ok (.aload_n 0, 1) := by decide +kernel
theorem dX6_addReturn_29 : decode cX6_addReturn 29 = .ok (.getfield 12, 3) := by decide +kernel
theorem dX6_addReturn_32 : decode cX6_addReturn 32 = .ok (.aload_n 1, 1) := by decide +kernel
theorem dX6_addReturn_33 : decode cX6_addReturn 33 = .ok (.getfield 42, 3) := by decide +kernel
theorem dX6_addReturn_36 : decode cX6_addReturn 36 = .ok (.iload_n 3, 1) := by decide +kernel
theorem dX6_addReturn_37 : decode cX6_addReturn 37 = .ok (.iaload, 1) := by decide +kernel
theorem dX6_addReturn_38 : decode cX6_addReturn 38 = .ok (.i2l, 1) := by decide +kernel
theorem dX6_addReturn_39 : decode cX6_addReturn 39 = .ok (.iload 4, 2) := by decide +kernel
theorem dX6_addReturn_41 : decode cX6_addReturn 41 = .ok (.i2l, 1) := by decide +kernel
theorem dX6_addReturn_42 : decode cX6_addReturn 42 = .ok (.invokevirtual 45, 3) := by decide +kernel
theorem dX6_addReturn_45 : decode cX6_addReturn 45 = .ok (.iinc 3 (-1), 3) := by decide +kernel
theorem dX6_addReturn_48 : decode cX6_addReturn 48 = .ok (.goto (-41), 3) := by decide +kernel
theorem dX6_addReturn_51 : decode cX6_addReturn 51 = .ok (.iconst 1, 1) := by decide +kernel
theorem dX6_addReturn_52 : decode cX6_addReturn 52 = .ok (.ireturn, 1) := by decide +kernel
theorem dX6_isWithin_0 : decode cX6_isWithin 0 = .ok (.aload_n 0, 1) := by decide +kernel
theorem dX6_isWithin_1 : decode cX6_isWithin 1 = .ok (.aload_n 1, 1) := by decide +kernel
theorem dX6_isWithin_2 : decode cX6_isWithin 2 = .ok (.iload_n 2, 1) := by decide +kernel
theorem dX6_isWithin_3 : decode cX6_isWithin 3 = .ok (.iload_n 3, 1) := by decide +kernel
theorem dX6_isWithin_4 : decode cX6_isWithin 4 = .ok (.invokevirtual 48, 3) := by decide +kernel
theorem dX6_isWithin_7 : decode cX6_isWithin 7 = .ok (.ifCond .eq 20, 3) := by decide +kernel
theorem dX6_isWithin_10 : decode cX6_isWithin 10 = .ok (.aload_n 0, 1) := by decide +kernel
theorem dX6_isWithin_11 : decode cX6_isWithin 11 = .ok (.getfield 12, 3) := by decide +kernel
theorem dX6_isWithin_14 : decode cX6_isWithin 14 = .ok (.iload 4, 2) := by decide +kernel
theorem dX6_isWithin_16 : decode cX6_isWithin 16 = .ok (.i2l, 1) := by decide +kernel
theorem dX6_isWithin_17 : decode cX6_isWithin 17 = .ok (.invokevirtual 52, 3) := by decide +kernel
theorem dX6_isWithin_20 : decode cX6_isWithin 20 = .ok (.ifCond .ne 7, 3) := by decide +kernel
theorem dX6_isWithin_23 : decode cX6_isWithin 23 = .ok (.iconst 1, 1) := by decide +kernel
theorem dX6_isWithin_24 : decode cX6_isWithin 24 = .ok (.goto 4, 3) := by decide +kernel
theorem dX6_isWithin_27 : decode cX6_isWithin 27 = .ok (.iconst 0, 1) := by decide +kernel
theorem dX6_isWithin_28 : decode cX6_isWithin 28 = .ok (.ireturn, 1) := by decide +kernel
theorem dX6_partAfter_0 : decode cX6_partAfter 0 = .ok (.aload_n 0, 1) := by decide +kernel
theorem dX6_partAfter_1 : decode cX6_partAfter 1 = .ok (.getfield 21, 3) := by decide +kernel
theorem dX6_partAfter_4 : decode cX6_partAfter 4 = .ok (.iload_n 3, 1) := by decide +kernel
theorem dX6_partAfter_5 : decode cX6_partAfter 5 = .ok (.i2l, 1) := by decide +kernel
theorem dX6_partAfter_6 : decode cX6_partAfter 6 = .ok (.ldc2_w 56, 3) := by decide +kernel
theorem dX6_partAfter_9 : decode cX6_partAfter 9 = .ok (.invokevirtual 24, 3) := by decide +kernel
theorem dX6_partAfter_12 : decode cX6_partAfter 12 = .ok (.aload_n 0, 1) := by decide +kernel
theorem dX6_partAfter_13 : decode cX6_partAfter 13 = .ok (.aload_n 1, 1) := by decide +kernel
theorem dX6_partAfter_14 : decode cX6_partAfter 14 = .ok (.iload_n 2, 1) := by decide +kernel
theorem dX6_partAfter_15 : decode cX6_partAfter 15 = .ok (.iconst 0, 1) := by decide +kernel
theorem dX6_partAfter_16 : decode cX6_partAfter 16 = .ok (.invokevirtual 58, 3) := by decide +kernel
theorem dX6_partAfter_19 : decode cX6_partAfter 19 = .ok (.ireturn, 1) := by decide +kernel
theorem dX6_stepsAfter_0 : decode cX6_stepsAfter 0 = .ok (.aload_n 0, 1) := by decide +kernel
theorem dX6_stepsAfter_1 : decode cX6_stepsAfter 1 = .ok (.aload_n 1, 1) := by decide +kernel
theorem dX6_stepsAfter_2 : decode cX6_stepsAfter 2 = .ok (.iload_n 2, 1) := by decide +kernel
theorem dX6_stepsAfter_3 : decode cX6_stepsAfter 3 = .ok (.iload_n 3, 1) := by decide +kernel
theorem dX6_stepsAfter_4 : decode cX6_stepsAfter 4 = .ok (.invokevirtual 62, 3) := by decide +kernel
theorem dX6_stepsAfter_7 : decode cX6_stepsAfter 7 = .ok (.istore 4, 2) := by decide +kernel
theorem dX6_stepsAfter_9 : decode cX6_stepsAfter 9 = .ok (.aload_n 1, 1) := by decide +kernel
theorem dX6_stepsAfter_10 : decode cX6_stepsAfter 10 = .ok (.iload 4, 2) := by decide +kernel
theorem dX6_stepsAfter_12 : decode cX6_stepsAfter 12 = .ok (.invokevirtual 65, 3) := by decide +kernel
theorem dX6_stepsAfter_15 : decode cX6_stepsAfter 15 = .ok (.istore 5, 2) := by decide +kernel
theorem dX6_stepsAfter_17 : decode cX6_stepsAfter 17 = .ok (.aload_n 1, 1) := by decide +kernel
theorem dX6_stepsAfter_18 : decode cX6_stepsAfter 18 = .ok (.iload 4, 2) := by decide +kernel
theorem dX6_stepsAfter_20 : decode cX6_stepsAfter 20 = .ok (.invokevirtual 69, 3) := by decide +kernel
theorem dX6_stepsAfter_23 : decode cX6_stepsAfter 23 = .ok (.ifCond .ne 6, 3) := by decide +kernel
theorem dX6_stepsAfter_26 : decode cX6_stepsAfter 26 = .ok (.iload 5, 2) := by decide +kernel
theorem dX6_stepsAfter_28 : decode cX6_stepsAfter 28 = .ok (.ireturn, 1) := by decide +kernel
theorem dX6_stepsAfter_29 : decode cX6_stepsAfter 29 = .ok (.iconst 0, 1) := by decide +kernel
theorem dX6_stepsAfter_30 : decode cX6_stepsAfter 30 = .ok (.iload_n 2, 1) := by decide +kernel
theorem dX6_stepsAfter_31 : decode cX6_stepsAfter 31 = .ok (.aload_n 1, 1) := by decide +kernel
theorem dX6_stepsAfter_32 : decode cX6_stepsAfter 32 = .ok (.getfield 38, 3) := by decide +kernel
theorem dX6_stepsAfter_35 : decode cX6_stepsAfter 35 = .ok (.iload 4, 2) := by decide +kernel
theorem dX6_stepsAfter_37 : decode cX6_stepsAfter 37 = .ok (.iaload, 1) := by decide +kernel
theorem dX6_stepsAfter_38 : decode cX6_stepsAfter 38 = .ok (.iadd, 1) := by decide +kernel
theorem dX6_stepsAfter_39 : decode cX6_stepsAfter 39 = .ok (.invokestatic 73, 3) := by decide +kernel
theorem dX6_stepsAfter_42 : decode cX6_stepsAfter 42 = .ok (.istore 6, 2) := by decide +kernel
theorem dX6_stepsAfter_44 : decode cX6_stepsAfter 44 = .ok (.iload 5, 2) := by decide +kernel
theorem dX6_stepsAfter_46 : decode cX6_stepsAfter 46 = .ok (.aload_n 0, 1) := by decide +kernel
theorem dX6_stepsAfter_47 : decode cX6_stepsAfter 47 = .ok (.getfield 21, 3) := by decide +kernel
theorem dX6_stepsAfter_50 : decode cX6_stepsAfter 50 = .ok (.iload 6, 2) := by decide +kernel
theorem dX6_stepsAfter_52 : decode cX6_stepsAfter 52 = .ok (.i2l, 1) := by decide +kernel
theorem dX6_stepsAfter_53 : decode cX6_stepsAfter 53 = .ok (.invokevirtual 79, 3) := by decide +kernel
theorem dX6_stepsAfter_56 : decode cX6_stepsAfter 56 = .ok (.l2i, 1) := by decide +kernel
theorem dX6_stepsAfter_57 : decode cX6_stepsAfter 57 = .ok (.iadd, 1) := by decide +kernel
theorem dX6_stepsAfter_58 : decode cX6_stepsAfter 58 = .ok (.ireturn, 1) := by decide +kernel
theorem dX6_carry_0 : decode cX6_carry 0 = .ok (.iload_n 3, 1) := by decide +kernel
theorem dX6_carry_1 : decode cX6_carry 1 = .ok (.istore 4, 2) := by decide +kernel
theorem dX6_carry_3 : decode cX6_carry 3 = .ok (.iload 4, 2) := by decide +kernel
theorem dX6_carry_5 : decode cX6_carry 5 = .ok (.aload_n 1, 1) := by decide +kernel
theorem dX6_carry_6 : decode cX6_carry 6 = .ok (.getfield 28, 3) := by decide +kernel
theorem dX6_carry_9 : decode cX6_carry 9 = .ok (.if_icmp .ge 78, 3) := by decide +kernel
theorem dX6_carry_12 : decode cX6_carry 12 = .ok (.iload_n 2, 1) := by decide +kernel
theorem dX6_carry_13 : decode cX6_carry 13 = .ok (.aload_n 1, 1) := by decide +kernel
theorem dX6_carry_14 : decode cX6_carry 14 = .ok (.getfield 38, 3) := by decide +kernel
theorem dX6_carry_17 : decode cX6_carry 17 = .ok (.iload 4, 2) := by decide +kernel
theorem dX6_carry_19 : decode cX6_carry 19 = .ok (.iaload, 1) := by decide +kernel
theorem dX6_carry_20 : decode cX6_carry 20 = .ok (.iadd, 1) := by decide +kernel
theorem dX6_carry_21 : decode cX6_carry 21 = .ok (.istore 5, 2) := by decide +kernel
theorem dX6_carry_23 : decode cX6_carry 23 = .ok (.iload 5, 2) := by decide +kernel
theorem dX6_carry_25 : decode cX6_carry 25 = .ok (.ifCond .le 34, 3) := by decide +kernel
theorem dX6_carry_28 : decode cX6_carry 28 = .ok (.iload 5, 2) := by decide +kernel
theorem dX6_carry_30 : decode cX6_carry 30 = .ok (.i2l, 1) := by decide +kernel
theorem dX6_carry_31 : decode cX6_carry 31 = .ok (.aload_n 0, 1) := by decide +kernel
theorem dX6_carry_32 : decode cX6_carry 32 = .ok (.getfield 21, 3) := by decide +kernel
theorem dX6_carry_35 : decode cX6_carry 35 = .ok (.getfield 83, 3) := by decide +kernel
theorem dX6_carry_38 : decode cX6_carry 38 = .ok (.lmul, 1) := by decide +kernel
theorem dX6_carry_39 : decode cX6_carry 39 = .ok (.aload_n 1, 1) := by decide +kernel
theorem dX6_carry_40 : decode cX6_carry 40 = .ok (.getfield 42, 3) := by decide +kernel
theorem dX6_carry_43 : decode cX6_carry 43 = .ok (.iload 4, 2) := by decide +kernel
theorem dX6_carry_45 : decode cX6_carry 45 = .ok (.iaload, 1) := by decide +kernel
theorem dX6_carry_46 : decode cX6_carry 46 = .ok (.i2l, 1) := by decide +kernel
theorem dX6_carry_47 : decode cX6_carry 47 = .ok (.aload_n 0, 1) := by decide +kernel
theorem dX6_carry_48 : decode cX6_carry 48 = .ok (.getfield 21, 3) := by decide +kernel
theorem dX6_carry_51 : decode cX6_carry 51 = .ok (.getfield 87, 3) := by decide +kernel
theorem dX6_carry_54 : decode cX6_carry 54 = .ok (.lmul, 1) := by decide +kernel
theorem dX6_carry_55 : decode cX6_carry 55 = .ok (.lcmp, 1) := by decide +kernel
theorem dX6_carry_56 : decode cX6_carry 56 = .ok (.ifCond .ge 6, 3) := by decide +kernel
theorem dX6_carry_59 : decode cX6_carry 59 = .ok (.iload 4, 2) := by decide +kernel
theorem dX6_carry_61 : decode cX6_carry 61 = .ok (.ireturn, 1) := by decide +kernel
theorem dX6_carry_62 : decode cX6_carry 62 = .ok (.aload_n 0, 1) := by decide +kernel
theorem dX6_carry_63 : decode cX6_carry 63 = .ok (.getfield 21, 3) := by decide +kernel
theorem dX6_carry_66 : decode cX6_carry 66 = .ok (.aload_n 1, 1) := by decide +kernel
theorem dX6_carry_67 : decode cX6_carry 67 = .ok (.getfield 42, 3) := by decide +kernel
theorem dX6_carry_70 : decode cX6_carry 70 = .ok (.iload 4, 2) := by decide +kernel
theorem dX6_carry_72 : decode cX6_carry 72 = .ok (.iaload, 1) := by decide +kernel
theorem dX6_carry_73 : decode cX6_carry 73 = .ok (.ineg, 1) := by decide +kernel
theorem dX6_carry_74 : decode cX6_carry 74 = .ok (.i2l, 1) := by decide +kernel
theorem dX6_carry_75 : decode cX6_carry 75 = .ok (.iload 5, 2) := by decide +kernel
theorem dX6_carry_77 : decode cX6_carry 77 = .ok (.i2l, 1) := by decide +kernel
theorem dX6_carry_78 : decode cX6_carry 78 = .ok (.invokevirtual 45, 3) := by decide +kernel
theorem dX6_carry_81 : decode cX6_carry 81 = .ok (.iinc 4 1, 3) := by decide +kernel
theorem dX6_carry_84 : decode cX6_carry 84 = .ok (.goto (-81), 3) := by decide +kernel
theorem dX6_carry_87 : decode cX6_carry 87 = .ok (.iload 4, 2) := by decide +kernel
theorem dX6_carry_89 : decode cX6_carry 89 = .ok (.ireturn, 1) := by decide +kernel
theorem dX6_bestChange_0 : decode cX6_bestChange 0 = .ok (.iconst (-1), 1) := by decide +kernel
theorem dX6_bestChange_1 : decode cX6_bestChange 1 = .ok (.istore 6, 2) := by decide +kernel
theorem dX6_bestChange_3 : decode cX6_bestChange 3 = .ok (.iconst 0, 1) := by decide +kernel
theorem dX6_bestChange_4 : decode cX6_bestChange 4 = .ok (.istore 7, 2) := by decide +kernel
theorem dX6_bestChange_6 : decode cX6_bestChange 6 = .ok (.iload 7, 2) := by decide +kernel
theorem dX6_bestChange_8 : decode cX6_bestChange 8 = .ok (.aload_n 1, 1) := by decide +kernel
theorem dX6_bestChange_9 : decode cX6_bestChange 9 = .ok (.getfield 28, 3) := by decide +kernel
theorem dX6_bestChange_12 : decode cX6_bestChange 12 = .ok (.if_icmp .ge 60, 3) := by decide +kernel
theorem dX6_bestChange_15 : decode cX6_bestChange 15 = .ok (.aload_n 0, 1) := by decide +kernel
theorem dX6_bestChange_16 : decode cX6_bestChange 16 = .ok (.aload_n 1, 1) := by decide +kernel
theorem dX6_bestChange_17 : decode cX6_bestChange 17 = .ok (.iload_n 2, 1) := by decide +kernel
theorem dX6_bestChange_18 : decode cX6_bestChange 18 = .ok (.iload_n 3, 1) := by decide +kernel
theorem dX6_bestChange_19 : decode cX6_bestChange 19 = .ok (.iload 4, 2) := by decide +kernel
theorem dX6_bestChange_21 : decode cX6_bestChange 21 = .ok (.iload 5, 2) := by decide +kernel
theorem dX6_bestChange_23 : decode cX6_bestChange 23 = .ok (.iload 7, 2) := by decide +kernel
theorem dX6_bestChange_25 : decode cX6_bestChange 25 = .ok (.invokevirtual 90, 3) := by decide +kernel
theorem dX6_bestChange_28 : decode cX6_bestChange 28 = .ok (.ifCond .eq 38, 3) := by decide +kernel
theorem dX6_bestChange_31 : decode cX6_bestChange 31 = .ok (.iload 6, 2) := by decide +kernel
theorem dX6_bestChange_33 : decode cX6_bestChange 33 = .ok (.iconst (-1), 1) := by decide +kernel
theorem dX6_bestChange_34 : decode cX6_bestChange 34 = .ok (.if_icmp .eq 17, 3) := by decide +kernel
theorem dX6_bestChange_37 : decode cX6_bestChange 37 = .ok (.aload_n 0, 1) := by decide +kernel
theorem dX6_bestChange_38 : decode cX6_bestChange 38 = .ok (.getfield 12, 3) := by decide +kernel
theorem dX6_bestChange_41 : decode cX6_bestChange 41 = .ok (.aload_n 0, 1) := by decide +kernel
theorem dX6_bestChange_42 : decode cX6_bestChange 42 = .ok (.getfield 18, 3) := by decide +kernel
theorem dX6_bestChange_45 : decode cX6_bestChange 45 = .ok (.invokevirtual 94, 3) := by decide +kernel
theorem dX6_bestChange_48 : decode cX6_bestChange 48 = .ok (.ifCond .ge 18, 3) := by decide +kernel
theorem dX6_bestChange_51 : decode cX6_bestChange 51 = .ok (.aload_n 0, 1) := by decide +kernel
theorem dX6_bestChange_52 : decode cX6_bestChange 52 = .ok (.getfield 18, 3) := by decide +kernel
theorem dX6_bestChange_55 : decode cX6_bestChange 55 = .ok (.aload_n 0, 1) := by decide +kernel
theorem dX6_bestChange_56 : decode cX6_bestChange 56 = .ok (.getfield 12, 3) := by decide +kernel
theorem dX6_bestChange_59 : decode cX6_bestChange 59 = .ok (.invokevirtual 98, 3) := by decide +kernel
theorem dX6_bestChange_62 : decode cX6_bestChange 62 = .ok (.iload 7, 2) := by decide +kernel
theorem dX6_bestChange_64 : decode cX6_bestChange 64 = .ok (.istore 6, 2) := by decide +kernel
theorem dX6_bestChange_66 : decode cX6_bestChange 66 = .ok (.iinc 7 1, 3) := by decide +kernel
theorem dX6_bestChange_69 : decode cX6_bestChange 69 = .ok (.goto (-63), 3) := by decide +kernel
theorem dX6_bestChange_72 : decode cX6_bestChange 72 = .ok (.iload 6, 2) := by decide +kernel
theorem dX6_bestChange_74 : decode cX6_bestChange 74 = .ok (.ireturn, 1) := by decide +kernel
theorem dX6_changes_0 : decode cX6_changes 0 = .ok (.aload_n 0, 1) := by decide +kernel
theorem dX6_changes_1 : decode cX6_changes 1 = .ok (.getfield 12, 3) := by decide +kernel
theorem dX6_changes_4 : decode cX6_changes 4 = .ok (.lconst 0, 1) := by decide +kernel
theorem dX6_changes_5 : decode cX6_changes 5 = .ok (.lconst 1, 1) := by decide +kernel
theorem dX6_changes_6 : decode cX6_changes 6 = .ok (.invokevirtual 24, 3) := by decide +kernel
theorem dX6_changes_9 : decode cX6_changes 9 = .ok (.aload_n 0, 1) := by decide +kernel
theorem dX6_changes_10 : decode cX6_changes 10 = .ok (.aload_n 1, 1) := by decide +kernel
theorem dX6_changes_11 : decode cX6_changes 11 = .ok (.iload_n 2, 1) := by decide +kernel
theorem dX6_changes_12 : decode cX6_changes 12 = .ok (.iconst 0, 1) := by decide +kernel
theorem dX6_changes_13 : decode cX6_changes 13 = .ok (.iconst 0, 1) := by decide +kernel
theorem dX6_changes_14 : decode cX6_changes 14 = .ok (.iload 6, 2) := by decide +kernel
theorem dX6_changes_16 : decode cX6_changes 16 = .ok (.invokevirtual 34, 3) := by decide +kernel
theorem dX6_changes_19 : decode cX6_changes 19 = .ok (.ifCond .ne 5, 3) := by decide +kernel
theorem dX6_changes_22 : decode cX6_changes 22 = .ok (.iconst 0, 1) := by decide +kernel
theorem dX6_changes_23 : decode cX6_changes 23 = .ok (.ireturn, 1) := by decide +kernel
theorem dX6_changes_24 : decode cX6_changes 24 = .ok (.aload_n 0, 1) := by decide +kernel
theorem dX6_changes_25 : decode cX6_changes 25 = .ok (.getfield 21, 3) := by decide +kernel
theorem dX6_changes_28 : decode cX6_changes 28 = .ok (.iload 4, 2) := by decide +kernel
theorem dX6_changes_30 : decode cX6_changes 30 = .ok (.i2l, 1) := by decide +kernel
theorem dX6_changes_31 : decode cX6_changes 31 = .ok (.lconst 1, 1) := by decide +kernel
theorem dX6_changes_32 : decode cX6_changes 32 = .ok (.invokevirtual 24, 3) := by decide +kernel
theorem dX6_changes_35 : decode cX6_changes 35 = .ok (.aload_n 0, 1) := by decide +kernel
theorem dX6_changes_36 : decode cX6_changes 36 = .ok (.aload_n 1, 1) := by decide +kernel
theorem dX6_changes_37 : decode cX6_changes 37 = .ok (.iload_n 3, 1) := by decide +kernel
theorem dX6_changes_38 : decode cX6_changes 38 = .ok (.iload 6, 2) := by decide +kernel
theorem dX6_changes_40 : decode cX6_changes 40 = .ok (.invokevirtual 58, 3) := by decide +kernel
theorem dX6_changes_43 : decode cX6_changes 43 = .ok (.istore 7, 2) := by decide +kernel
theorem dX6_changes_45 : decode cX6_changes 45 = .ok (.aload_n 0, 1) := by decide +kernel
theorem dX6_changes_46 : decode cX6_changes 46 = .ok (.getfield 12, 3) := by decide +kernel
theorem dX6_changes_49 : decode cX6_changes 49 = .ok (.iload 4, 2) := by decide +kernel
theorem dX6_changes_51 : decode cX6_changes 51 = .ok (.i2l, 1) := by decide +kernel
theorem dX6_changes_52 : decode cX6_changes 52 = .ok (.lconst 1, 1) := by decide +kernel
theorem dX6_changes_53 : decode cX6_changes 53 = .ok (.invokevirtual 45, 3) := by decide +kernel
theorem dX6_changes_56 : decode cX6_changes 56 = .ok (.aload_n 1, 1) := by decide +kernel
theorem dX6_changes_57 : decode cX6_changes 57 = .ok (.iload 7, 2) := by decide +kernel
theorem dX6_changes_59 : decode cX6_changes 59 = .ok (.invokevirtual 69, 3) := by decide +kernel
theorem dX6_changes_62 : decode cX6_changes 62 = .ok (.ifCond .ne 32, 3) := by decide +kernel
theorem dX6_changes_65 : decode cX6_changes 65 = .ok (.iload 5, 2) := by decide +kernel
theorem dX6_changes_67 : decode cX6_changes 67 = .ok (.ifCond .ne 25, 3) := by decide +kernel
theorem dX6_changes_70 : decode cX6_changes 70 = .ok (.aload_n 0, 1) := by decide +kernel
theorem dX6_changes_71 : decode cX6_changes 71 = .ok (.getfield 12, 3) := by decide +kernel
theorem dX6_changes_74 : decode cX6_changes 74 = .ok (.aload_n 0, 1) := by decide +kernel
theorem dX6_changes_75 : decode cX6_changes 75 = .ok (.getfield 21, 3) := by decide +kernel
theorem dX6_changes_78 : decode cX6_changes 78 = .ok (.getfield 83, 3) := by decide +kernel
theorem dX6_changes_81 : decode cX6_changes 81 = .ok (.lneg, 1) := by decide +kernel
theorem dX6_changes_82 : decode cX6_changes 82 = .ok (.aload_n 0, 1) := by decide +kernel
theorem dX6_changes_83 : decode cX6_changes 83 = .ok (.getfield 21, 3) := by decide +kernel
theorem dX6_changes_86 : decode cX6_changes 86 = .ok (.getfield 87, 3) := by decide +kernel
theorem dX6_changes_89 : decode cX6_changes 89 = .ok (.invokevirtual 45, 3) := by decide +kernel
theorem dX6_changes_92 : decode cX6_changes 92 = .ok (.iconst 1, 1) := by decide +kernel
theorem dX6_changes_93 : decode cX6_changes 93 = .ok (.ireturn, 1) := by decide +kernel
theorem dX6_changes_94 : decode cX6_changes 94 = .ok (.iload_n 2, 1) := by decide +kernel
theorem dX6_changes_95 : decode cX6_changes 95 = .ok (.aload_n 1, 1) := by decide +kernel
theorem dX6_changes_96 : decode cX6_changes 96 = .ok (.getfield 38, 3) := by decide +kernel
theorem dX6_changes_99 : decode cX6_changes 99 = .ok (.iload 7, 2) := by decide +kernel
theorem dX6_changes_101 : decode cX6_changes 101 = .ok (.iaload, 1) := by decide +kernel
theorem dX6_changes_102 : decode cX6_changes 102 = .ok (.iadd, 1) := by decide +kernel
theorem dX6_changes_103 : decode cX6_changes 103 = .ok (.istore 8, 2) := by decide +kernel
theorem dX6_changes_105 : decode cX6_changes 105 = .ok (.iload 8, 2) := by decide +kernel
theorem dX6_changes_107 : decode cX6_changes 107 = .ok (.ifCond .gt 5, 3) := by decide +kernel
theorem dX6_changes_110 : decode cX6_changes 110 = .ok (.iconst 0, 1) := by decide +kernel
theorem dX6_changes_111 : decode cX6_changes 111 = .ok (.ireturn, 1) := by decide +kernel
theorem dX6_changes_112 : decode cX6_changes 112 = .ok (.iconst 0, 1) := by decide +kernel
theorem dX6_changes_113 : decode cX6_changes 113 = .ok (.iload_n 3, 1) := by decide +kernel
theorem dX6_changes_114 : decode cX6_changes 114 = .ok (.aload_n 1, 1) := by decide +kernel
theorem dX6_changes_115 : decode cX6_changes 115 = .ok (.getfield 38, 3) := by decide +kernel
theorem dX6_changes_118 : decode cX6_changes 118 = .ok (.iload 7, 2) := by decide +kernel
theorem dX6_changes_120 : decode cX6_changes 120 = .ok (.iaload, 1) := by decide +kernel
theorem dX6_changes_121 : decode cX6_changes 121 = .ok (.iadd, 1) := by decide +kernel
theorem dX6_changes_122 : decode cX6_changes 122 = .ok (.invokestatic 73, 3) := by decide +kernel
theorem dX6_changes_125 : decode cX6_changes 125 = .ok (.i2l, 1) := by decide +kernel
theorem dX6_changes_126 : decode cX6_changes 126 = .ok (.aload_n 0, 1) := by decide +kernel
theorem dX6_changes_127 : decode cX6_changes 127 = .ok (.getfield 21, 3) := by decide +kernel
theorem dX6_changes_130 : decode cX6_changes 130 = .ok (.getfield 83, 3) := by decide +kernel
theorem dX6_changes_133 : decode cX6_changes 133 = .ok (.lmul, 1) := by decide +kernel
theorem dX6_changes_134 : decode cX6_changes 134 = .ok (.lstore 9, 2) := by decide +kernel
theorem dX6_changes_136 : decode cX6_changes 136 = .ok (.aload_n 1, 1) := by decide +kernel
theorem dX6_changes_137 : decode cX6_changes 137 = .ok (.getfield 42, 3) := by decide +kernel
theorem dX6_changes_140 : decode cX6_changes 140 = .ok (.iload 7, 2) := by decide +kernel
theorem dX6_changes_142 : decode cX6_changes 142 = .ok (.iaload, 1) := by decide +kernel
theorem dX6_changes_143 : decode cX6_changes 143 = .ok (.i2l, 1) := by decide +kernel
theorem dX6_changes_144 : decode cX6_changes 144 = .ok (.aload_n 0, 1) := by decide +kernel
theorem dX6_changes_145 : decode cX6_changes 145 = .ok (.getfield 21, 3) := by decide +kernel
theorem dX6_changes_148 : decode cX6_changes 148 = .ok (.getfield 87, 3) := by decide +kernel
theorem dX6_changes_151 : decode cX6_changes 151 = .ok (.lmul, 1) := by decide +kernel
theorem dX6_changes_152 : decode cX6_changes 152 = .ok (.lstore 11, 2) := by decide +kernel
theorem dX6_changes_154 : decode cX6_changes 154 = .ok (.aload_n 0, 1) := by decide +kernel
theorem dX6_changes_155 : decode cX6_changes 155 = .ok (.getfield 12, 3) := by decide +kernel
theorem dX6_changes_158 : decode cX6_changes 158 = .ok (.lload 11, 2) := by decide +kernel
theorem dX6_changes_160 : decode cX6_changes 160 = .ok (.lload 9, 2) := by decide +kernel
theorem dX6_changes_162 : decode cX6_changes 162 = .ok (.lsub, 1) := by decide +kernel
theorem dX6_changes_163 : decode cX6_changes 163 = .ok (.aload_n 0, 1) := by decide +kernel
theorem dX6_changes_164 : decode cX6_changes 164 = .ok (.getfield 21, 3) := by decide +kernel
theorem dX6_changes_167 : decode cX6_changes 167 = .ok (.getfield 87, 3) := by decide +kernel
theorem dX6_changes_170 : decode cX6_changes 170 = .ok (.iload 8, 2) := by decide +kernel
theorem dX6_changes_172 : decode cX6_changes 172 = .ok (.i2l, 1) := by decide +kernel
theorem dX6_changes_173 : decode cX6_changes 173 = .ok (.lmul, 1) := by decide +kernel
theorem dX6_changes_174 : decode cX6_changes 174 = .ok (.invokevirtual 45, 3) := by decide +kernel
theorem dX6_changes_177 : decode cX6_changes 177 = .ok (.aload_n 0, 1) := by decide +kernel
theorem dX6_changes_178 : decode cX6_changes 178 = .ok (.aload_n 1, 1) := by decide +kernel
theorem dX6_changes_179 : decode cX6_changes 179 = .ok (.iload_n 2, 1) := by decide +kernel
theorem dX6_changes_180 : decode cX6_changes 180 = .ok (.iconst 0, 1) := by decide +kernel
theorem dX6_changes_181 : decode cX6_changes 181 = .ok (.iload 7, 2) := by decide +kernel
theorem dX6_changes_183 : decode cX6_changes 183 = .ok (.iconst 1, 1) := by decide +kernel
theorem dX6_changes_184 : decode cX6_changes 184 = .ok (.iadd, 1) := by decide +kernel
theorem dX6_changes_185 : decode cX6_changes 185 = .ok (.aload_n 1, 1) := by decide +kernel
theorem dX6_changes_186 : decode cX6_changes 186 = .ok (.getfield 28, 3) := by decide +kernel
theorem dX6_changes_189 : decode cX6_changes 189 = .ok (.invokevirtual 34, 3) := by decide +kernel
theorem dX6_changes_192 : decode cX6_changes 192 = .ok (.ireturn, 1) := by decide +kernel
theorem dX7_init_0 : decode cX7_init 0 = .ok (.aload_n 0, 1) := by decide +kernel
theorem dX7_init_1 : decode cX7_init 1 = .ok (.invokespecial 3, 3) := by decide +kernel
theorem dX7_init_4 : decode cX7_init 4 = .ok (.aload_n 0, 1) := by decide +kernel
theorem dX7_init_5 : decode cX7_init 5 = .ok (.iconst 0, 1) := by decide +kernel
theorem dX7_init_6 : decode cX7_init 6 = .ok (.putfield 9, 3) := by decide +kernel
theorem dX7_init_9 : decode cX7_init 9 = .ok (.aload_n 0, 1) := by decide +kernel
theorem dX7_init_10 : decode cX7_init 10 = .ok (.iconst 0, 1) := by decide +kernel
theorem dX7_init_11 : decode cX7_init 11 = .ok (.putfield 15, 3) := by decide +kernel
theorem dX7_init_14 : decode cX7_init 14 = .ok (.aload_n 0, 1) := by decide +kernel
theorem dX7_init_15 : decode cX7_init 15 = .ok (.iconst 0, 1) := by decide +kernel
theorem dX7_init_16 : decode cX7_init 16 = .ok (.putfield 18, 3) := by decide +kernel
theorem dX7_init_19 : decode cX7_init 19 = .ok (.aload_n 0, 1) := by decide +kernel
theorem dX7_init_20 : decode cX7_init 20 = .ok (.bipush 30, 2) := by decide +kernel
theorem dX7_init_22 : decode cX7_init 22 = .ok (.newarray .int, 2) := by decide +kernel
theorem dX7_init_24 : decode cX7_init 24 = .ok (.putfield 21, 3) := by decide +kernel
theorem dX7_init_27 : decode cX7_init 27 = .ok (.aload_n 0, 1) := by decide +kernel
theorem dX7_init_28 : decode cX7_init 28 = .ok (.iconst 1, 1) := by decide +kernel
theorem dX7_init_29 : decode cX7_init 29 = .ok (.putfield 25, 3) := by decide +kernel
theorem dX7_init_32 : decode cX7_init 32 = .ok (.aload_n 0, 1) := by decide +kernel
theorem dX7_init_33 : decode cX7_init 33 = .ok (.iconst 0, 1) := by decide +kernel
theorem dX7_init_34 : decode cX7_init 34 = .ok (.putfield 28, 3) := by decide +kernel
theorem dX7_init_37 : decode cX7_init 37 = .ok (.aload_n 0, 1) := by decide +kernel
theorem dX7_init_38 : decode cX7_init 38 = .ok (.bipush 16, 2) := by decide +kernel
theorem dX7_init_40 : decode cX7_init 40 = .ok (.newarray .int, 2) := by decide +kernel
theorem dX7_init_42 : decode cX7_init 42 = .ok (.putfield 31, 3) := by decide +kernel
theorem dX7_init_45 : decode cX7_init 45 = .ok (.aload_n 0, 1) := by decide +kernel
theorem dX7_init_46 : decode cX7_init 46 = .ok (.bipush 30, 2) := by decide +kernel
theorem dX7_init_48 : decode cX7_init 48 = .ok (.bipush 16, 2) := by decide +kernel
theorem dX7_init_50 : decode cX7_init 50 = .ok (.multianewarray 34 2, 4) := by decide +kernel
theorem dX7_init_54 : decode cX7_init 54 = .ok (.putfield 36, 3) := by decide +kernel
theorem dX7_init_57 : decode cX7_init 57 = .ok (.return_, 1) := by decide +kernel
theorem dX7_plan_0 : decode cX7_plan 0 = .ok (.aload_n 0, 1) := by decide +kernel
theorem dX7_plan_1 : decode cX7_plan 1 = .ok (.bipush 30, 2) := by decide +kernel
theorem dX7_plan_3 : decode cX7_plan 3 = .ok (.aload_n 1, 1) := by decide +kernel
theorem dX7_plan_4 : decode cX7_plan 4 = .ok (.getfield 39, 3) := by decide +kernel
theorem dX7_plan_7 : decode cX7_plan 7 = .ok (.iconst 2, 1) := by decide +kernel
theorem dX7_plan_8 : decode cX7_plan 8 = .ok (.idiv, 1) := by decide +kernel
theorem dX7_plan_9 : decode cX7_plan 9 = .ok (.invokestatic 44, 3) := by decide +kernel
theorem dX7_plan_12 : decode cX7_plan 12 = .ok (.putfield 9, 3) := by decide +kernel
theorem dX7_plan_15 : decode cX7_plan 15 = .ok (.aload_n 0, 1) := by decide +kernel
theorem dX7_plan_16 : decode cX7_plan 16 = .ok (.iconst 1, 1) := by decide +kernel
theorem dX7_plan_17 : decode cX7_plan 17 = .ok (.aload_n 2, 1) := by decide +kernel
theorem dX7_plan_18 : decode cX7_plan 18 = .ok (.getfield 50, 3) := by decide +kernel
theorem dX7_plan_21 : decode cX7_plan 21 = .ok (.ishl, 1) := by decide +kernel
theorem dX7_plan_22 : decode cX7_plan 22 = .ok (.putfield 25, 3) := by decide +kernel
theorem dX7_plan_25 : decode cX7_plan 25 = .ok (.aload_n 0, 1) := by decide +kernel
theorem dX7_plan_26 : decode cX7_plan 26 = .ok (.iload_n 3, 1) := by decide +kernel
theorem dX7_plan_27 : decode cX7_plan 27 = .ok (.putfield 28, 3) := by decide +kernel
theorem dX7_plan_30 : decode cX7_plan 30 = .ok (.iconst 0, 1) := by decide +kernel
theorem dX7_plan_31 : decode cX7_plan 31 = .ok (.istore 4, 2) := by decide +kernel
theorem dX7_plan_33 : decode cX7_plan 33 = .ok (.iload 4, 2) := by decide +kernel
theorem dX7_plan_35 : decode cX7_plan 35 = .ok (.aload_n 0, 1) := by decide +kernel
theorem dX7_plan_36 : decode cX7_plan 36 = .ok (.getfield 25, 3) := by decide +kernel
theorem dX7_plan_39 : decode cX7_plan 39 = .ok (.if_icmp .ge 67, 3) := by decide +kernel
theorem dX7_plan_42 : decode cX7_plan 42 = .ok (.aload_n 0, 1) := by decide +kernel
theorem dX7_plan_43 : decode cX7_plan 43 = .ok (.getfield 31, 3) := by decide +kernel
theorem dX7_plan_46 : decode cX7_plan 46 = .ok (.iload 4, 2) := by decide +kernel
theorem dX7_plan_48 : decode cX7_plan 48 = .ok (.iconst 0, 1) := by decide +kernel
theorem dX7_plan_49 : decode cX7_plan 49 = .ok (.iastore, 1) := by decide +kernel
theorem dX7_plan_50 : decode cX7_plan 50 = .ok (.iconst 0, 1) := by decide +kernel
theorem dX7_plan_51 : decode cX7_plan 51 = .ok (.istore 5, 2) := by decide +kernel
theorem dX7_plan_53 : decode cX7_plan 53 = .ok (.iload 5, 2) := by decide +kernel
theorem dX7_plan_55 : decode cX7_plan 55 = .ok (.aload_n 2, 1) := by decide +kernel
theorem dX7_plan_56 : decode cX7_plan 56 = .ok (.getfield 50, 3) := by decide +kernel
theorem dX7_plan_59 : decode cX7_plan 59 = .ok (.if_icmp .ge 41, 3) := by decide +kernel
theorem dX7_plan_62 : decode cX7_plan 62 = .ok (.aload_n 0, 1) := by decide +kernel
theorem dX7_plan_63 : decode cX7_plan 63 = .ok (.getfield 31, 3) := by decide +kernel
theorem dX7_plan_66 : decode cX7_plan 66 = .ok (.iload 4, 2) := by decide +kernel
theorem dX7_plan_68 : decode cX7_plan 68 = .ok (.dup2, 1) := by decide +kernel
theorem dX7_plan_69 : decode cX7_plan 69 = .ok (.iaload, 1) := by decide +kernel
theorem dX7_plan_70 : decode cX7_plan 70 = .ok (.iload 4, 2) := by decide +kernel
theorem dX7_plan_72 : decode cX7_plan 72 = .ok (.iload 5, 2) := by decide +kernel
theorem dX7_plan_74 : decode cX7_plan 74 = .ok (.ishr, 1) := by decide +kernel
theorem dX7_plan_75 : decode cX7_plan 75 = .ok (.iconst 1, 1) := by decide +kernel
theorem dX7_plan_76 : decode cX7_plan 76 = .ok (.iand, 1) := by decide +kernel
theorem dX7_plan_77 : decode cX7_plan 77 = .ok (.iconst 1, 1) := by decide +kernel
theorem dX7_plan_78 : decode cX7_plan 78 = .ok (.if_icmp .ne 13, 3) := by decide +kernel
theorem dX7_plan_81 : decode cX7_plan 81 = .ok (.aload_n 2, 1) := by decide +kernel
theorem dX7_plan_82 : decode cX7_plan 82 = .ok (.getfield 55, 3) := by decide +kernel
theorem dX7_plan_85 : decode cX7_plan 85 = .ok (.iload 5, 2) := by decide +kernel
theorem dX7_plan_87 : decode cX7_plan 87 = .ok (.iaload, 1) := by decide +kernel
theorem dX7_plan_88 : decode cX7_plan 88 = .ok (.goto 4, 3) := by decide +kernel
theorem dX7_plan_91 : decode cX7_plan 91 = .ok (.iconst 0, 1) := by decide +kernel
theorem dX7_plan_92 : decode cX7_plan 92 = .ok (.iadd, 1) := by decide +kernel
theorem dX7_plan_93 : decode cX7_plan 93 = .ok (.iastore, 1) := by decide +kernel
theorem dX7_plan_94 : decode cX7_plan 94 = .ok (.iinc 5 1, 3) := by decide +kernel
theorem dX7_plan_97 : decode cX7_plan 97 = .ok (.goto (-44), 3) := by decide +kernel
theorem dX7_plan_100 : decode cX7_plan 100 = .ok (.iinc 4 1, 3) := by decide +kernel
theorem dX7_plan_103 : decode cX7_plan 103 = .ok (.goto (-70), 3) := by decide +kernel
theorem dX7_plan_106 : decode cX7_plan 106 = .ok (.aload_n 0, 1) := by decide +kernel
theorem dX7_plan_107 : decode cX7_plan 107 = .ok (.getfield 9, 3) := by decide +kernel
theorem dX7_plan_110 : decode cX7_plan 110 = .ok (.iconst 1, 1) := by decide +kernel
theorem dX7_plan_111 : decode cX7_plan 111 = .ok (.isub, 1) := by decide +kernel
theorem dX7_plan_112 : decode cX7_plan 112 = .ok (.istore 4, 2) := by decide +kernel
theorem dX7_plan_114 : decode cX7_plan 114 = .ok (.iload 4, 2) := by decide +kernel
theorem dX7_plan_116 : decode cX7_plan 116 = .ok (.ifCond .lt 37, 3) := by decide +kernel
theorem dX7_plan_119 : decode cX7_plan 119 = .ok (.aload_n 0, 1) := by decide +kernel
theorem dX7_plan_120 : decode cX7_plan 120 = .ok (.iload 4, 2) := by decide +kernel
theorem dX7_plan_122 : decode cX7_plan 122 = .ok (.aload_n 1, 1) := by decide +kernel
theorem dX7_plan_123 : decode cX7_plan 123 = .ok (.getfield 58, 3) := by decide +kernel
theorem dX7_plan_126 : decode cX7_plan 126 = .ok (.iconst 2, 1) := by decide +kernel
theorem dX7_plan_127 : decode cX7_plan 127 = .ok (.iload 4, 2) := by decide +kernel
theorem dX7_plan_129 : decode cX7_plan 129 = .ok (.imul, 1) := by decide +kernel
theorem dX7_plan_130 : decode cX7_plan 130 = .ok (.laload, 1) := by decide +kernel
theorem dX7_plan_131 : decode cX7_plan 131 = .ok (.l2i, 1) := by decide +kernel
theorem dX7_plan_132 : decode cX7_plan 132 = .ok (.aload_n 1, 1) := by decide +kernel
theorem dX7_plan_133 : decode cX7_plan 133 = .ok (.getfield 58, 3) := by decide +kernel
theorem dX7_plan_136 : decode cX7_plan 136 = .ok (.iconst 2, 1) := by decide +kernel
theorem dX7_plan_137 : decode cX7_plan 137 = .ok (.iload 4, 2) := by decide +kernel
theorem dX7_plan_139 : decode cX7_plan 139 = .ok (.imul, 1) := by decide +kernel
theorem dX7_plan_140 : decode cX7_plan 140 = .ok (.iconst 1, 1) := by decide +kernel
theorem dX7_plan_141 : decode cX7_plan 141 = .ok (.iadd, 1) := by decide +kernel
theorem dX7_plan_142 : decode cX7_plan 142 = .ok (.laload, 1) := by decide +kernel
theorem dX7_plan_143 : decode cX7_plan 143 = .ok (.l2i, 1) := by decide +kernel
theorem dX7_plan_144 : decode cX7_plan 144 = .ok (.invokevirtual 62, 3) := by decide +kernel
theorem dX7_plan_147 : decode cX7_plan 147 = .ok (.iinc 4 (-1), 3) := by decide +kernel
theorem dX7_plan_150 : decode cX7_plan 150 = .ok (.goto (-36), 3) := by decide +kernel
theorem dX7_plan_153 : decode cX7_plan 153 = .ok (.aload_n 0, 1) := by decide +kernel
theorem dX7_plan_154 : decode cX7_plan 154 = .ok (.invokevirtual 66, 3) := by decide +kernel
theorem dX7_plan_157 : decode cX7_plan 157 = .ok (.return_, 1) := by decide +kernel
theorem dX7_fillHour_0 : decode cX7_fillHour 0 = .ok (.iconst 0, 1) := by decide +kernel
theorem dX7_fillHour_1 : decode cX7_fillHour 1 = .ok (.istore 4, 2) := by decide +kernel
theorem dX7_fillHour_3 : decode cX7_fillHour 3 = .ok (.iload 4, 2) := by decide +kernel
theorem dX7_fillHour_5 : decode cX7_fillHour 5 = .ok (.aload_n 0, 1) := by decide +kernel
theorem dX7_fillHour_6 : decode cX7_fillHour 6 = .ok (.getfield 25, 3) := by decide +kernel
theorem dX7_fillHour_9 : decode cX7_fillHour 9 = .ok (.if_icmp .ge 93, 3) := by decide +kernel
theorem dX7_fillHour_12 : decode cX7_fillHour 12 = .ok (.iconst 0, 1) := by decide +kernel
theorem dX7_fillHour_13 : decode cX7_fillHour 13 = .ok (.iload_n 2, 1) := by decide +kernel
theorem dX7_fillHour_14 : decode cX7_fillHour 14 = .ok (.aload_n 0, 1) := by decide +kernel
theorem dX7_fillHour_15 : decode cX7_fillHour 15 = .ok (.getfield 31, 3) := by decide +kernel
theorem dX7_fillHour_18 : decode cX7_fillHour 18 = .ok (.iload 4, 2) := by decide +kernel
theorem dX7_fillHour_20 : decode cX7_fillHour 20 = .ok (.iaload, 1) := by decide +kernel
theorem dX7_fillHour_21 : decode cX7_fillHour 21 = .ok (.isub, 1) := by decide +kernel
theorem dX7_fillHour_22 : decode cX7_fillHour 22 = .ok (.invokestatic 69, 3) := by decide +kernel
theorem dX7_fillHour_25 : decode cX7_fillHour 25 = .ok (.iconst 0, 1) := by decide +kernel
theorem dX7_fillHour_26 : decode cX7_fillHour 26 = .ok (.iload_n 3, 1) := by decide +kernel
theorem dX7_fillHour_27 : decode cX7_fillHour 27 = .ok (.aload_n 0, 1) := by decide +kernel
theorem dX7_fillHour_28 : decode cX7_fillHour 28 = .ok (.getfield 31, 3) := by decide +kernel
theorem dX7_fillHour_31 : decode cX7_fillHour 31 = .ok (.aload_n 0, 1) := by decide +kernel
theorem dX7_fillHour_32 : decode cX7_fillHour 32 = .ok (.getfield 25, 3) := by decide +kernel
theorem dX7_fillHour_35 : decode cX7_fillHour 35 = .ok (.iconst 1, 1) := by decide +kernel
theorem dX7_fillHour_36 : decode cX7_fillHour 36 = .ok (.isub, 1) := by decide +kernel
theorem dX7_fillHour_37 : decode cX7_fillHour 37 = .ok (.iload 4, 2) := by decide +kernel
theorem dX7_fillHour_39 : decode cX7_fillHour 39 = .ok (.isub, 1) := by decide +kernel
theorem dX7_fillHour_40 : decode cX7_fillHour 40 = .ok (.iaload, 1) := by decide +kernel
theorem dX7_fillHour_41 : decode cX7_fillHour 41 = .ok (.isub, 1) := by decide +kernel
theorem dX7_fillHour_42 : decode cX7_fillHour 42 = .ok (.invokestatic 69, 3) := by decide +kernel
theorem dX7_fillHour_45 : decode cX7_fillHour 45 = .ok (.iadd, 1) := by decide +kernel
theorem dX7_fillHour_46 : decode cX7_fillHour 46 = .ok (.istore 5, 2) := by decide +kernel
theorem dX7_fillHour_48 : decode cX7_fillHour 48 = .ok (.iload_n 1, 1) := by decide +kernel
theorem dX7_fillHour_49 : decode cX7_fillHour 49 = .ok (.iconst 1, 1) := by decide +kernel
theorem dX7_fillHour_50 : decode cX7_fillHour 50 = .ok (.iadd, 1) := by decide +kernel
theorem dX7_fillHour_51 : decode cX7_fillHour 51 = .ok (.aload_n 0, 1) := by decide +kernel
theorem dX7_fillHour_52 : decode cX7_fillHour 52 = .ok (.getfield 9, 3) := by decide +kernel
theorem dX7_fillHour_55 : decode cX7_fillHour 55 = .ok (.if_icmp .ge 30, 3) := by decide +kernel
theorem dX7_fillHour_58 : decode cX7_fillHour 58 = .ok (.aload_n 0, 1) := by decide +kernel
theorem dX7_fillHour_59 : decode cX7_fillHour 59 = .ok (.iload_n 1, 1) := by decide +kernel
theorem dX7_fillHour_60 : decode cX7_fillHour 60 = .ok (.iconst 1, 1) := by decide +kernel
theorem dX7_fillHour_61 : decode cX7_fillHour 61 = .ok (.iadd, 1) := by decide +kernel
theorem dX7_fillHour_62 : decode cX7_fillHour 62 = .ok (.iload 4, 2) := by decide +kernel
theorem dX7_fillHour_64 : decode cX7_fillHour 64 = .ok (.invokevirtual 72, 3) := by decide +kernel
theorem dX7_fillHour_67 : decode cX7_fillHour 67 = .ok (.istore 6, 2) := by decide +kernel
theorem dX7_fillHour_69 : decode cX7_fillHour 69 = .ok (.iload 5, 2) := by decide +kernel
theorem dX7_fillHour_71 : decode cX7_fillHour 71 = .ok (.aload_n 0, 1) := by decide +kernel
theorem dX7_fillHour_72 : decode cX7_fillHour 72 = .ok (.iload_n 1, 1) := by decide +kernel
theorem dX7_fillHour_73 : decode cX7_fillHour 73 = .ok (.iconst 1, 1) := by decide +kernel
theorem dX7_fillHour_74 : decode cX7_fillHour 74 = .ok (.iadd, 1) := by decide +kernel
theorem dX7_fillHour_75 : decode cX7_fillHour 75 = .ok (.iload 4, 2) := by decide +kernel
theorem dX7_fillHour_77 : decode cX7_fillHour 77 = .ok (.iload 6, 2) := by decide +kernel
theorem dX7_fillHour_79 : decode cX7_fillHour 79 = .ok (.invokevirtual 75, 3) := by decide +kernel
theorem dX7_fillHour_82 : decode cX7_fillHour 82 = .ok (.iadd, 1) := by decide +kernel
theorem dX7_fillHour_83 : decode cX7_fillHour 83 = .ok (.istore 5, 2) := by decide +kernel
theorem dX7_fillHour_85 : decode cX7_fillHour 85 = .ok (.aload_n 0, 1) := by decide +kernel
theorem dX7_fillHour_86 : decode cX7_fillHour 86 = .ok (.getfield 36, 3) := by decide +kernel
theorem dX7_fillHour_89 : decode cX7_fillHour 89 = .ok (.iload_n 1, 1) := by decide +kernel
theorem dX7_fillHour_90 : decode cX7_fillHour 90 = .ok (.aaload, 1) := by decide +kernel
theorem dX7_fillHour_91 : decode cX7_fillHour 91 = .ok (.iload 4, 2) := by decide +kernel
theorem dX7_fillHour_93 : decode cX7_fillHour 93 = .ok (.iload 5, 2) := by decide +kernel
theorem dX7_fillHour_95 : decode cX7_fillHour 95 = .ok (.iastore, 1) := by decide +kernel
theorem dX7_fillHour_96 : decode cX7_fillHour 96 = .ok (.iinc 4 1, 3) := by decide +kernel
theorem dX7_fillHour_99 : decode cX7_fillHour 99 = .ok (.goto (-96), 3) := by decide +kernel
theorem dX7_fillHour_102 : decode cX7_fillHour 102 = .ok (.return_, 1) := by decide +kernel
theorem dX7_bestAfter_0 : decode cX7_bestAfter 0 = .ok (.iconst 0, 1) := by decide +kernel
theorem dX7_bestAfter_1 : decode cX7_bestAfter 1 = .ok (.istore_n 3, 1) := by decide +kernel
theorem dX7_bestAfter_2 : decode cX7_bestAfter 2 = .ok (.iconst 1, 1) := by decide +kernel
theorem dX7_bestAfter_3 : decode cX7_bestAfter 3 = .ok (.istore 4, 2) := by decide +kernel
theorem dX7_bestAfter_5 : decode cX7_bestAfter 5 = .ok (.iload 4, 2) := by decide +kernel
theorem dX7_bestAfter_7 : decode cX7_bestAfter 7 = .ok (.aload_n 0, 1) := by decide +kernel
theorem dX7_bestAfter_8 : decode cX7_bestAfter 8 = .ok (.getfield 25, 3) := by decide +kernel
theorem dX7_bestAfter_11 : decode cX7_bestAfter 11 = .ok (.if_icmp .ge 30, 3) := by decide +kernel
theorem dX7_bestAfter_14 : decode cX7_bestAfter 14 = .ok (.aload_n 0, 1) := by decide +kernel
theorem dX7_bestAfter_15 : decode cX7_bestAfter 15 = .ok (.iload_n 1, 1) := by decide +kernel
theorem dX7_bestAfter_16 : decode cX7_bestAfter 16 = .ok (.iload_n 2, 1) := by decide +kernel
theorem dX7_bestAfter_17 : decode cX7_bestAfter 17 = .ok (.iload 4, 2) := by decide +kernel
theorem dX7_bestAfter_19 : decode cX7_bestAfter 19 = .ok (.invokevirtual 75, 3) := by decide +kernel
theorem dX7_bestAfter_22 : decode cX7_bestAfter 22 = .ok (.aload_n 0, 1) := by decide +kernel
theorem dX7_bestAfter_23 : decode cX7_bestAfter 23 = .ok (.iload_n 1, 1) := by decide +kernel
theorem dX7_bestAfter_24 : decode cX7_bestAfter 24 = .ok (.iload_n 2, 1) := by decide +kernel
theorem dX7_bestAfter_25 : decode cX7_bestAfter 25 = .ok (.iload_n 3, 1) := by decide +kernel
theorem dX7_bestAfter_26 : decode cX7_bestAfter 26 = .ok (.invokevirtual 75, 3) := by decide +kernel
theorem dX7_bestAfter_29 : decode cX7_bestAfter 29 = .ok (.if_icmp .ge 6, 3) := by decide +kernel
theorem dX7_bestAfter_32 : decode cX7_bestAfter 32 = .ok (.iload 4, 2) := by decide +kernel
theorem dX7_bestAfter_34 : decode cX7_bestAfter 34 = .ok (.istore_n 3, 1) := by decide +kernel
theorem dX7_bestAfter_35 : decode cX7_bestAfter 35 = .ok (.iinc 4 1, 3) := by decide +kernel
theorem dX7_bestAfter_38 : decode cX7_bestAfter 38 = .ok (.goto (-33), 3) := by decide +kernel
theorem dX7_bestAfter_41 : decode cX7_bestAfter 41 = .ok (.iload_n 3, 1) := by decide +kernel
theorem dX7_bestAfter_42 : decode cX7_bestAfter 42 = .ok (.ireturn, 1) := by decide +kernel
theorem dX7_priceOf_0 : decode cX7_priceOf 0 = .ok (.aload_n 0, 1) := by decide +kernel
theorem dX7_priceOf_1 : decode cX7_priceOf 1 = .ok (.getfield 36, 3) := by decide +kernel
theorem dX7_priceOf_4 : decode cX7_priceOf 4 = .ok (.iload_n 1, 1) := by decide +kernel
theorem dX7_priceOf_5 : decode cX7_priceOf 5 = .ok (.aaload, 1) := by decide +kernel
theorem dX7_priceOf_6 : decode cX7_priceOf 6 = .ok (.iload_n 3, 1) := by decide +kernel
theorem dX7_priceOf_7 : decode cX7_priceOf 7 = .ok (.iaload, 1) := by decide +kernel
theorem dX7_priceOf_8 : decode cX7_priceOf 8 = .ok (.aload_n 0, 1) := by decide +kernel
theorem dX7_priceOf_9 : decode cX7_priceOf 9 = .ok (.getfield 28, 3) := by decide +kernel
theorem dX7_priceOf_12 : decode cX7_priceOf 12 = .ok (.iload_n 2, 1) := by decide +kernel
theorem dX7_priceOf_13 : decode cX7_priceOf 13 = .ok (.iload_n 3, 1) := by decide +kernel
theorem dX7_priceOf_14 : decode cX7_priceOf 14 = .ok (.ixor, 1) := by decide +kernel
theorem dX7_priceOf_15 : decode cX7_priceOf 15 = .ok (.invokestatic 79, 3) := by decide +kernel
theorem dX7_priceOf_18 : decode cX7_priceOf 18 = .ok (.imul, 1) := by decide +kernel
theorem dX7_priceOf_19 : decode cX7_priceOf 19 = .ok (.iadd, 1) := by decide +kernel
theorem dX7_priceOf_20 : decode cX7_priceOf 20 = .ok (.ireturn, 1) := by decide +kernel
theorem dX7_choose_0 : decode cX7_choose 0 = .ok (.aload_n 0, 1) := by decide +kernel
theorem dX7_choose_1 : decode cX7_choose 1 = .ok (.iconst 0, 1) := by decide +kernel
theorem dX7_choose_2 : decode cX7_choose 2 = .ok (.putfield 15, 3) := by decide +kernel
theorem dX7_choose_5 : decode cX7_choose 5 = .ok (.aload_n 0, 1) := by decide +kernel
theorem dX7_choose_6 : decode cX7_choose 6 = .ok (.iconst 0, 1) := by decide +kernel
theorem dX7_choose_7 : decode cX7_choose 7 = .ok (.putfield 18, 3) := by decide +kernel
theorem dX7_choose_10 : decode cX7_choose 10 = .ok (.aload_n 0, 1) := by decide +kernel
theorem dX7_choose_11 : decode cX7_choose 11 = .ok (.getfield 9, 3) := by decide +kernel
theorem dX7_choose_14 : decode cX7_choose 14 = .ok (.ifCond .ne 4, 3) := by decide +kernel
theorem dX7_choose_17 : decode cX7_choose 17 = .ok (.return_, 1) := by decide +kernel
theorem dX7_choose_18 : decode cX7_choose 18 = .ok (.aload_n 0, 1) := by decide +kernel
theorem dX7_choose_19 : decode cX7_choose 19 = .ok (.getfield 21, 3) := by decide +kernel
theorem dX7_choose_22 : decode cX7_choose 22 = .ok (.iconst 0, 1) := by decide +kernel
theorem dX7_choose_23 : decode cX7_choose 23 = .ok (.iconst 0, 1) := by decide +kernel
theorem dX7_choose_24 : decode cX7_choose 24 = .ok (.iastore, 1) := by decide +kernel
theorem dX7_choose_25 : decode cX7_choose 25 = .ok (.iconst 1, 1) := by decide +kernel
theorem dX7_choose_26 : decode cX7_choose 26 = .ok (.istore_n 1, 1) := by decide +kernel
theorem dX7_choose_27 : decode cX7_choose 27 = .ok (.iload_n 1, 1) := by decide +kernel
theorem dX7_choose_28 : decode cX7_choose 28 = .ok (.aload_n 0, 1) := by decide +kernel
theorem dX7_choose_29 : decode cX7_choose 29 = .ok (.getfield 25, 3) := by decide +kernel
theorem dX7_choose_32 : decode cX7_choose 32 = .ok (.if_icmp .ge 40, 3) := by decide +kernel
theorem dX7_choose_35 : decode cX7_choose 35 = .ok (.aload_n 0, 1) := by decide +kernel
theorem dX7_choose_36 : decode cX7_choose 36 = .ok (.getfield 36, 3) := by decide +kernel
theorem dX7_choose_39 : decode cX7_choose 39 = .ok (.iconst 0, 1) := by decide +kernel
theorem dX7_choose_40 : decode cX7_choose 40 = .ok (.aaload, 1) := by decide +kernel
theorem dX7_choose_41 : decode cX7_choose 41 = .ok (.iload_n 1, 1) := by decide +kernel
theorem dX7_choose_42 : decode cX7_choose 42 = .ok (.iaload, 1) := by decide +kernel
theorem dX7_choose_43 : decode cX7_choose 43 = .ok (.aload_n 0, 1) := by decide +kernel
theorem dX7_choose_44 : decode cX7_choose 44 = .ok (.getfield 36, 3) := by decide +kernel
theorem dX7_choose_47 : decode cX7_choose 47 = .ok (.iconst 0, 1) := by decide +kernel
theorem dX7_choose_48 : decode cX7_choose 48 = .ok (.aaload, 1) := by decide +kernel
theorem dX7_choose_49 : decode cX7_choose 49 = .ok (.aload_n 0, 1) := by decide +kernel
theorem dX7_choose_50 : decode cX7_choose 50 = .ok (.getfield 21, 3) := by decide +kernel
theorem dX7_choose_53 : decode cX7_choose 53 = .ok (.iconst 0, 1) := by decide +kernel
theorem dX7_choose_54 : decode cX7_choose 54 = .ok (.iaload, 1) := by decide +kernel
theorem dX7_choose_55 : decode cX7_choose 55 = .ok (.iaload, 1) := by decide +kernel
theorem dX7_choose_56 : decode cX7_choose 56 = .ok (.if_icmp .ge 10, 3) := by decide +kernel
theorem dX7_choose_59 : decode cX7_choose 59 = .ok (.aload_n 0, 1) := by decide +kernel
theorem dX7_choose_60 : decode cX7_choose 60 = .ok (.getfield 21, 3) := by decide +kernel
theorem dX7_choose_63 : decode cX7_choose 63 = .ok (.iconst 0, 1) := by decide +kernel
theorem dX7_choose_64 : decode cX7_choose 64 = .ok (.iload_n 1, 1) := by decide +kernel
theorem dX7_choose_65 : decode cX7_choose 65 = .ok (.iastore, 1) := by decide +kernel
theorem dX7_choose_66 : decode cX7_choose 66 = .ok (.iinc 1 1, 3) := by decide +kernel
theorem dX7_choose_69 : decode cX7_choose 69 = .ok (.goto (-42), 3) := by decide +kernel
theorem dX7_choose_72 : decode cX7_choose 72 = .ok (.aload_n 0, 1) := by decide +kernel
theorem dX7_choose_73 : decode cX7_choose 73 = .ok (.aload_n 0, 1) := by decide +kernel
theorem dX7_choose_74 : decode cX7_choose 74 = .ok (.getfield 36, 3) := by decide +kernel
theorem dX7_choose_77 : decode cX7_choose 77 = .ok (.iconst 0, 1) := by decide +kernel
theorem dX7_choose_78 : decode cX7_choose 78 = .ok (.aaload, 1) := by decide +kernel
theorem dX7_choose_79 : decode cX7_choose 79 = .ok (.aload_n 0, 1) := by decide +kernel
theorem dX7_choose_80 : decode cX7_choose 80 = .ok (.getfield 21, 3) := by decide +kernel
theorem dX7_choose_83 : decode cX7_choose 83 = .ok (.iconst 0, 1) := by decide +kernel
theorem dX7_choose_84 : decode cX7_choose 84 = .ok (.iaload, 1) := by decide +kernel
theorem dX7_choose_85 : decode cX7_choose 85 = .ok (.iaload, 1) := by decide +kernel
theorem dX7_choose_86 : decode cX7_choose 86 = .ok (.putfield 15, 3) := by decide +kernel
theorem dX7_choose_89 : decode cX7_choose 89 = .ok (.iconst 1, 1) := by decide +kernel
theorem dX7_choose_90 : decode cX7_choose 90 = .ok (.istore_n 1, 1) := by decide +kernel
theorem dX7_choose_91 : decode cX7_choose 91 = .ok (.iload_n 1, 1) := by decide +kernel
theorem dX7_choose_92 : decode cX7_choose 92 = .ok (.aload_n 0, 1) := by decide +kernel
theorem dX7_choose_93 : decode cX7_choose 93 = .ok (.getfield 9, 3) := by decide +kernel
theorem dX7_choose_96 : decode cX7_choose 96 = .ok (.if_icmp .ge 55, 3) := by decide +kernel
theorem dX7_choose_99 : decode cX7_choose 99 = .ok (.aload_n 0, 1) := by decide +kernel
theorem dX7_choose_100 : decode cX7_choose 100 = .ok (.getfield 21, 3) := by decide +kernel
theorem dX7_choose_103 : decode cX7_choose 103 = .ok (.iload_n 1, 1) := by decide +kernel
theorem dX7_choose_104 : decode cX7_choose 104 = .ok (.aload_n 0, 1) := by decide +kernel
theorem dX7_choose_105 : decode cX7_choose 105 = .ok (.iload_n 1, 1) := by decide +kernel
theorem dX7_choose_106 : decode cX7_choose 106 = .ok (.aload_n 0, 1) := by decide +kernel
theorem dX7_choose_107 : decode cX7_choose 107 = .ok (.getfield 21, 3) := by decide +kernel
theorem dX7_choose_110 : decode cX7_choose 110 = .ok (.iload_n 1, 1) := by decide +kernel
theorem dX7_choose_111 : decode cX7_choose 111 = .ok (.iconst 1, 1) := by decide +kernel
theorem dX7_choose_112 : decode cX7_choose 112 = .ok (.isub, 1) := by decide +kernel
theorem dX7_choose_113 : decode cX7_choose 113 = .ok (.iaload, 1) := by decide +kernel
theorem dX7_choose_114 : decode cX7_choose 114 = .ok (.invokevirtual 72, 3) := by decide +kernel
theorem dX7_choose_117 : decode cX7_choose 117 = .ok (.iastore, 1) := by decide +kernel
theorem dX7_choose_118 : decode cX7_choose 118 = .ok (.aload_n 0, 1) := by decide +kernel
theorem dX7_choose_119 : decode cX7_choose 119 = .ok (.dup, 1) := by decide +kernel
theorem dX7_choose_120 : decode cX7_choose 120 = .ok (.getfield 18, 3) := by decide +kernel
theorem dX7_choose_123 : decode cX7_choose 123 = .ok (.aload_n 0, 1) := by decide +kernel
theorem dX7_choose_124 : decode cX7_choose 124 = .ok (.getfield 21, 3) := by decide +kernel
theorem dX7_choose_127 : decode cX7_choose 127 = .ok (.iload_n 1, 1) := by decide +kernel
theorem dX7_choose_128 : decode cX7_choose 128 = .ok (.iaload, 1) := by decide +kernel
theorem dX7_choose_129 : decode cX7_choose 129 = .ok (.aload_n 0, 1) := by decide +kernel
theorem dX7_choose_130 : decode cX7_choose 130 = .ok (.getfield 21, 3) := by decide +kernel
theorem dX7_choose_133 : decode cX7_choose 133 = .ok (.iload_n 1, 1) := by decide +kernel
theorem dX7_choose_134 : decode cX7_choose 134 = .ok (.iconst 1, 1) := by decide +kernel
theorem dX7_choose_135 : decode cX7_choose 135 = .ok (.isub, 1) := by decide +kernel
theorem dX7_choose_136 : decode cX7_choose 136 = .ok (.iaload, 1) := by decide +kernel
theorem dX7_choose_137 : decode cX7_choose 137 = .ok (.ixor, 1) := by decide +kernel
theorem dX7_choose_138 : decode cX7_choose 138 = .ok (.invokestatic 79, 3) := by decide +kernel
theorem dX7_choose_141 : decode cX7_choose 141 = .ok (.iadd, 1) := by decide +kernel
theorem dX7_choose_142 : decode cX7_choose 142 = .ok (.putfield 18, 3) := by decide +kernel
theorem dX7_choose_145 : decode cX7_choose 145 = .ok (.iinc 1 1, 3) := by decide +kernel
theorem dX7_choose_148 : decode cX7_choose 148 = .ok (.goto (-57), 3) := by decide +kernel
theorem dX7_choose_151 : decode cX7_choose 151 = .ok (.return_, 1) := by decide +kernel
theorem dX8_init_0 : decode cX8_init 0 = .ok (.aload_n 0, 1) := by decide +kernel
theorem dX8_init_1 : decode cX8_init 1 = .ok (.invokespecial 1, 3) := by decide +kernel
theorem dX8_init_4 : decode cX8_init 4 = .ok (.aload_n 0, 1) := by decide +kernel
theorem dX8_init_5 : decode cX8_init 5 = .ok (.iconst 0, 1) := by decide +kernel
theorem dX8_init_6 : decode cX8_init 6 = .ok (.putfield 7, 3) := by decide +kernel
theorem dX8_init_9 : decode cX8_init 9 = .ok (.aload_n 0, 1) := by decide +kernel
theorem dX8_init_10 : decode cX8_init 10 = .ok (.iconst 0, 1) := by decide +kernel
theorem dX8_init_11 : decode cX8_init 11 = .ok (.putfield 13, 3) := by decide +kernel
theorem dX8_init_14 : decode cX8_init 14 = .ok (.aload_n 0, 1) := by decide +kernel
theorem dX8_init_15 : decode cX8_init 15 = .ok (.iconst (-1), 1) := by decide +kernel
theorem dX8_init_16 : decode cX8_init 16 = .ok (.putfield 16, 3) := by decide +kernel
theorem dX8_init_19 : decode cX8_init 19 = .ok (.aload_n 0, 1) := by decide +kernel
theorem dX8_init_20 : decode cX8_init 20 = .ok (.new 19, 3) := by decide +kernel
theorem dX8_init_23 : decode cX8_init 23 = .ok (.dup, 1) := by decide +kernel
theorem dX8_init_24 : decode cX8_init 24 = .ok (.invokespecial 21, 3) := by decide +kernel
theorem dX8_init_27 : decode cX8_init 27 = .ok (.putfield 22, 3) := by decide +kernel
theorem dX8_init_30 : decode cX8_init 30 = .ok (.aload_n 0, 1) := by decide +kernel
theorem dX8_init_31 : decode cX8_init 31 = .ok (.iconst 3, 1) := by decide +kernel
theorem dX8_init_32 : decode cX8_init 32 = .ok (.anewarray 19, 3) := by decide +kernel
theorem dX8_init_35 : decode cX8_init 35 = .ok (.putfield 26, 3) := by decide +kernel
theorem dX8_init_38 : decode cX8_init 38 = .ok (.aload_n 0, 1) := by decide +kernel
theorem dX8_init_39 : decode cX8_init 39 = .ok (.iconst 3, 1) := by decide +kernel
theorem dX8_init_40 : decode cX8_init 40 = .ok (.newarray .boolean, 2) := by decide +kernel
theorem dX8_init_42 : decode cX8_init 42 = .ok (.putfield 30, 3) := by decide +kernel
theorem dX8_init_45 : decode cX8_init 45 = .ok (.aload_n 0, 1) := by decide +kernel
theorem dX8_init_46 : decode cX8_init 46 = .ok (.iconst 4, 1) := by decide +kernel
theorem dX8_init_47 : decode cX8_init 47 = .ok (.anewarray 34, 3) := by decide +kernel
theorem dX8_init_50 : decode cX8_init 50 = .ok (.putfield 36, 3) := by decide +kernel
theorem dX8_init_53 : decode cX8_init 53 = .ok (.aload_n 0, 1) := by decide +kernel
theorem dX8_init_54 : decode cX8_init 54 = .ok (.new 40, 3) := by decide +kernel
theorem dX8_init_57 : decode cX8_init 57 = .ok (.dup, 1) := by decide +kernel
theorem dX8_init_58 : decode cX8_init 58 = .ok (.invokespecial 42, 3) := by decide +kernel
theorem dX8_init_61 : decode cX8_init 61 = .ok (.putfield 43, 3) := by decide +kernel
theorem dX8_init_64 : decode cX8_init 64 = .ok (.aload_n 0, 1) := by decide +kernel
theorem dX8_init_65 : decode cX8_init 65 = .ok (.new 47, 3) := by decide +kernel
theorem dX8_init_68 : decode cX8_init 68 = .ok (.dup, 1) := by decide +kernel
theorem dX8_init_69 : decode cX8_init 69 = .ok (.invokespecial 49, 3) := by decide +kernel
theorem dX8_init_72 : decode cX8_init 72 = .ok (.putfield 50, 3) := by decide +kernel
theorem dX8_init_75 : decode cX8_init 75 = .ok (.aload_n 0, 1) := by decide +kernel
theorem dX8_init_76 : decode cX8_init 76 = .ok (.new 54, 3) := by decide +kernel
theorem dX8_init_79 : decode cX8_init 79 = .ok (.dup, 1) := by decide +kernel
theorem dX8_init_80 : decode cX8_init 80 = .ok (.invokespecial 56, 3) := by decide +kernel
theorem dX8_init_83 : decode cX8_init 83 = .ok (.putfield 57, 3) := by decide +kernel
theorem dX8_init_86 : decode cX8_init 86 = .ok (.aload_n 0, 1) := by decide +kernel
theorem dX8_init_87 : decode cX8_init 87 = .ok (.new 61, 3) := by decide +kernel
theorem dX8_init_90 : decode cX8_init 90 = .ok (.dup, 1) := by decide +kernel
theorem dX8_init_91 : decode cX8_init 91 = .ok (.invokespecial 63, 3) := by decide +kernel
theorem dX8_init_94 : decode cX8_init 94 = .ok (.putfield 64, 3) := by decide +kernel
theorem dX8_init_97 : decode cX8_init 97 = .ok (.aload_n 0, 1) := by decide +kernel
theorem dX8_init_98 : decode cX8_init 98 = .ok (.new 68, 3) := by decide +kernel
theorem dX8_init_101 : decode cX8_init 101 = .ok (.dup, 1) := by decide +kernel
theorem dX8_init_102 : decode cX8_init 102 = .ok (.invokespecial 70, 3) := by decide +kernel
theorem dX8_init_105 : decode cX8_init 105 = .ok (.putfield 71, 3) := by decide +kernel
theorem dX8_init_108 : decode cX8_init 108 = .ok (.aload_n 0, 1) := by decide +kernel
theorem dX8_init_109 : decode cX8_init 109 = .ok (.new 75, 3) := by decide +kernel
theorem dX8_init_112 : decode cX8_init 112 = .ok (.dup, 1) := by decide +kernel
theorem dX8_init_113 : decode cX8_init 113 = .ok (.invokespecial 77, 3) := by decide +kernel
theorem dX8_init_116 : decode cX8_init 116 = .ok (.putfield 78, 3) := by decide +kernel
theorem dX8_init_119 : decode cX8_init 119 = .ok (.aload_n 0, 1) := by decide +kernel
theorem dX8_init_120 : decode cX8_init 120 = .ok (.new 75, 3) := by decide +kernel
theorem dX8_init_123 : decode cX8_init 123 = .ok (.dup, 1) := by decide +kernel
theorem dX8_init_124 : decode cX8_init 124 = .ok (.invokespecial 77, 3) := by decide +kernel
theorem dX8_init_127 : decode cX8_init 127 = .ok (.putfield 82, 3) := by decide +kernel
theorem dX8_init_130 : decode cX8_init 130 = .ok (.iconst 0, 1) := by decide +kernel
theorem dX8_init_131 : decode cX8_init 131 = .ok (.istore_n 1, 1) := by decide +kernel
theorem dX8_init_132 : decode cX8_init 132 = .ok (.iload_n 1, 1) := by decide +kernel
theorem dX8_init_133 : decode cX8_init 133 = .ok (.iconst 3, 1) := by decide +kernel
theorem dX8_init_134 : decode cX8_init 134 = .ok (.if_icmp .ge 22, 3) := by decide +kernel
theorem dX8_init_137 : decode cX8_init 137 = .ok (.aload_n 0, 1) := by decide +kernel
theorem dX8_init_138 : decode cX8_init 138 = .ok (.getfield 26, 3) := by decide +kernel
theorem dX8_init_141 : decode cX8_init 141 = .ok (.iload_n 1, 1) := by decide +kernel
theorem dX8_init_142 : decode cX8_init 142 = .ok (.new 19, 3) := by decide +kernel
theorem dX8_init_145 : decode cX8_init 145 = .ok (.dup, 1) := by decide +kernel
theorem dX8_init_146 : decode cX8_init 146 = .ok (.invokespecial 21, 3) := by decide +kernel
theorem dX8_init_149 : decode cX8_init 149 = .ok (.aastore, 1) := by decide +kernel
theorem dX8_init_150 : decode cX8_init 150 = .ok (.iinc 1 1, 3) := by decide +kernel
theorem dX8_init_153 : decode cX8_init 153 = .ok (.goto (-21), 3) := by decide +kernel
theorem dX8_init_156 : decode cX8_init 156 = .ok (.iconst 0, 1) := by decide +kernel
theorem dX8_init_157 : decode cX8_init 157 = .ok (.istore_n 1, 1) := by decide +kernel
theorem dX8_init_158 : decode cX8_init 158 = .ok (.iload_n 1, 1) := by decide +kernel
theorem dX8_init_159 : decode cX8_init 159 = .ok (.iconst 4, 1) := by decide +kernel
theorem dX8_init_160 : decode cX8_init 160 = .ok (.if_icmp .ge 22, 3) := by decide +kernel
theorem dX8_init_163 : decode cX8_init 163 = .ok (.aload_n 0, 1) := by decide +kernel
theorem dX8_init_164 : decode cX8_init 164 = .ok (.getfield 36, 3) := by decide +kernel
theorem dX8_init_167 : decode cX8_init 167 = .ok (.iload_n 1, 1) := by decide +kernel
theorem dX8_init_168 : decode cX8_init 168 = .ok (.new 34, 3) := by decide +kernel
theorem dX8_init_171 : decode cX8_init 171 = .ok (.dup, 1) := by decide +kernel
theorem dX8_init_172 : decode cX8_init 172 = .ok (.invokespecial 85, 3) := by decide +kernel
theorem dX8_init_175 : decode cX8_init 175 = .ok (.aastore, 1) := by decide +kernel
theorem dX8_init_176 : decode cX8_init 176 = .ok (.iinc 1 1, 3) := by decide +kernel
theorem dX8_init_179 : decode cX8_init 179 = .ok (.goto (-21), 3) := by decide +kernel
theorem dX8_init_182 : decode cX8_init 182 = .ok (.return_, 1) := by decide +kernel
theorem dX8_feed_0 : decode cX8_feed 0 = .ok (.aload_n 0, 1) := by decide +kernel
theorem dX8_feed_1 : decode cX8_feed 1 = .ok (.getfield 7, 3) := by decide +kernel
theorem dX8_feed_4 : decode cX8_feed 4 = .ok (.bipush 20, 2) := by decide +kernel
theorem dX8_feed_6 : decode cX8_feed 6 = .ok (.iadd, 1) := by decide +kernel
theorem dX8_feed_7 : decode cX8_feed 7 = .ok (.sipush 900, 3) := by decide +kernel
theorem dX8_feed_10 : decode cX8_feed 10 = .ok (.if_icmp .le 5, 3) := by decide +kernel
theorem dX8_feed_13 : decode cX8_feed 13 = .ok (.iconst (-1), 1) := by decide +kernel
theorem dX8_feed_14 : decode cX8_feed 14 = .ok (.ireturn, 1) := by decide +kernel
theorem dX8_feed_15 : decode cX8_feed 15 = .ok (.aload_n 0, 1) := by decide +kernel
theorem dX8_feed_16 : decode cX8_feed 16 = .ok (.iload_n 1, 1) := by decide +kernel
theorem dX8_feed_17 : decode cX8_feed 17 = .ok (.invokevirtual 86, 3) := by decide +kernel
theorem dX8_feed_20 : decode cX8_feed 20 = .ok (.aload_n 0, 1) := by decide +kernel
theorem dX8_feed_21 : decode cX8_feed 21 = .ok (.iload_n 2, 1) := by decide +kernel
theorem dX8_feed_22 : decode cX8_feed 22 = .ok (.invokevirtual 86, 3) := by decide +kernel
theorem dX8_feed_25 : decode cX8_feed 25 = .ok (.aload_n 0, 1) := by decide +kernel
theorem dX8_feed_26 : decode cX8_feed 26 = .ok (.iload_n 3, 1) := by decide +kernel
theorem dX8_feed_27 : decode cX8_feed 27 = .ok (.invokevirtual 86, 3) := by decide +kernel
theorem dX8_feed_30 : decode cX8_feed 30 = .ok (.aload_n 0, 1) := by decide +kernel
theorem dX8_feed_31 : decode cX8_feed 31 = .ok (.iload 4, 2) := by decide +kernel
theorem dX8_feed_33 : decode cX8_feed 33 = .ok (.invokevirtual 86, 3) := by decide +kernel
theorem dX8_feed_36 : decode cX8_feed 36 = .ok (.aload_n 0, 1) := by decide +kernel
theorem dX8_feed_37 : decode cX8_feed 37 = .ok (.iload 5, 2) := by decide +kernel
theorem dX8_feed_39 : decode cX8_feed 39 = .ok (.invokevirtual 86, 3) := by decide +kernel
theorem dX8_feed_42 : decode cX8_feed 42 = .ok (.aload_n 0, 1) := by decide +kernel
theorem dX8_feed_43 : decode cX8_feed 43 = .ok (.getfield 7, 3) := by decide +kernel
theorem dX8_feed_46 : decode cX8_feed 46 = .ok (.ireturn, 1) := by decide +kernel
theorem dX8_putBytes_0 : decode cX8_putBytes 0 = .ok (.bipush 24, 2) := by decide +kernel
theorem dX8_putBytes_2 : decode cX8_putBytes 2 = .ok (.istore_n 2, 1) := by decide +kernel
theorem dX8_putBytes_3 : decode cX8_putBytes 3 = .ok (.iload_n 2, 1) := by decide +kernel
theorem dX8_putBytes_4 : decode cX8_putBytes 4 = .ok (.ifCond .lt 45, 3) := by decide +kernel
theorem dX8_putBytes_7 : decode cX8_putBytes 7 = .ok (.aload_n 0, 1) := by decide +kernel
theorem dX8_putBytes_8 : decode cX8_putBytes 8 = .ok (.getfield 7, 3) := by decide +kernel
theorem dX8_putBytes_11 : decode cX8_putBytes 11 = .ok (.sipush 900, 3) := by decide +kernel
theorem dX8_putBytes_14 : decode cX8_putBytes 14 = .ok (.if_icmp .ge 35, 3) := by decide +kernel
theorem dX8_putBytes_17 : decode cX8_putBytes 17 = .ok (.aload_n 0, 1) := by decide +kernel
theorem dX8_putBytes_18 : decode cX8_putBytes 18 = .ok (.getfield 43, 3) := by decide +kernel
theorem dX8_putBytes_21 : decode cX8_putBytes 21 = .ok (.getfield 90, 3) := by decide +kernel
theorem dX8_putBytes_24 : decode cX8_putBytes 24 = .ok (.aload_n 0, 1) := by decide +kernel
theorem dX8_putBytes_25 : decode cX8_putBytes 25 = .ok (.getfield 7, 3) := by decide +kernel
theorem dX8_putBytes_28 : decode cX8_putBytes 28 = .ok (.iload_n 1, 1) := by decide +kernel
theorem dX8_putBytes_29 : decode cX8_putBytes 29 = .ok (.iload_n 2, 1) := by decide +kernel
theorem dX8_putBytes_30 : decode cX8_putBytes 30 = .ok (.ishr, 1) := by decide +kernel
theorem dX8_putBytes_31 : decode cX8_putBytes 31 = .ok (.i2b, 1) := by decide +kernel
theorem dX8_putBytes_32 : decode cX8_putBytes 32 = .ok (.bastore, 1) := by decide +kernel
theorem dX8_putBytes_33 : decode cX8_putBytes 33 = .ok (.aload_n 0, 1) := by decide +kernel
theorem dX8_putBytes_34 : decode cX8_putBytes 34 = .ok (.dup, 1) := by decide +kernel
theorem dX8_putBytes_35 : decode cX8_putBytes 35 = .ok (.getfield 7, 3) := by decide +kernel
theorem dX8_putBytes_38 : decode cX8_putBytes 38 = .ok (.iconst 1, 1) := by decide +kernel
theorem dX8_putBytes_39 : decode cX8_putBytes 39 = .ok (.iadd, 1) := by decide +kernel
theorem dX8_putBytes_40 : decode cX8_putBytes 40 = .ok (.putfield 7, 3) := by decide +kernel
theorem dX8_putBytes_43 : decode cX8_putBytes 43 = .ok (.iinc 2 (-8), 3) := by decide +kernel
theorem dX8_putBytes_46 : decode cX8_putBytes 46 = .ok (.goto (-43), 3) := by decide +kernel
theorem dX8_putBytes_49 : decode cX8_putBytes 49 = .ok (.return_, 1) := by decide +kernel
theorem dX8_end_0 : decode cX8_end 0 = .ok (.iload_n 1, 1) := by decide +kernel
theorem dX8_end_1 : decode cX8_end 1 = .ok (.ifCond .lt 11, 3) := by decide +kernel
theorem dX8_end_4 : decode cX8_end 4 = .ok (.iload_n 1, 1) := by decide +kernel
theorem dX8_end_5 : decode cX8_end 5 = .ok (.aload_n 0, 1) := by decide +kernel
theorem dX8_end_6 : decode cX8_end 6 = .ok (.getfield 7, 3) := by decide +kernel
theorem dX8_end_9 : decode cX8_end 9 = .ok (.if_icmp .le 5, 3) := by decide +kernel
theorem dX8_end_12 : decode cX8_end 12 = .ok (.iconst (-1), 1) := by decide +kernel
theorem dX8_end_13 : decode cX8_end 13 = .ok (.ireturn, 1) := by decide +kernel
theorem dX8_end_14 : decode cX8_end 14 = .ok (.aload_n 0, 1) := by decide +kernel
theorem dX8_end_15 : decode cX8_end 15 = .ok (.iload_n 1, 1) := by decide +kernel
theorem dX8_end_16 : decode cX8_end 16 = .ok (.putfield 7, 3) := by decide +kernel
theorem dX8_end_19 : decode cX8_end 19 = .ok (.iload_n 1, 1) := by decide +kernel
theorem dX8_end_20 : decode cX8_end 20 = .ok (.ireturn, 1) := by decide +kernel
theorem dX8_stair_0 : decode cX8_stair 0 = .ok (.aload_n 0, 1) := by decide +kernel
theorem dX8_stair_1 : decode cX8_stair 1 = .ok (.getfield 43, 3) := by decide +kernel
theorem dX8_stair_4 : decode cX8_stair 4 = .ok (.aload_n 0, 1) := by decide +kernel
theorem dX8_stair_5 : decode cX8_stair 5 = .ok (.getfield 7, 3) := by decide +kernel
theorem dX8_stair_8 : decode cX8_stair 8 = .ok (.invokevirtual 94, 3) := by decide +kernel
theorem dX8_stair_11 : decode cX8_stair 11 = .ok (.aload_n 0, 1) := by decide +kernel
theorem dX8_stair_12 : decode cX8_stair 12 = .ok (.iconst 0, 1) := by decide +kernel
theorem dX8_stair_13 : decode cX8_stair 13 = .ok (.putfield 7, 3) := by decide +kernel
theorem dX8_stair_16 : decode cX8_stair 16 = .ok (.aload_n 0, 1) := by decide +kernel
theorem dX8_stair_17 : decode cX8_stair 17 = .ok (.aload_n 0, 1) := by decide +kernel
theorem dX8_stair_18 : decode cX8_stair 18 = .ok (.getfield 43, 3) := by decide +kernel
theorem dX8_stair_21 : decode cX8_stair 21 = .ok (.getfield 97, 3) := by decide +kernel
theorem dX8_stair_24 : decode cX8_stair 24 = .ok (.putfield 13, 3) := by decide +kernel
theorem dX8_stair_27 : decode cX8_stair 27 = .ok (.aload_n 0, 1) := by decide +kernel
theorem dX8_stair_28 : decode cX8_stair 28 = .ok (.aload_n 0, 1) := by decide +kernel
theorem dX8_stair_29 : decode cX8_stair 29 = .ok (.getfield 43, 3) := by decide +kernel
theorem dX8_stair_32 : decode cX8_stair 32 = .ok (.getfield 100, 3) := by decide +kernel
theorem dX8_stair_35 : decode cX8_stair 35 = .ok (.putfield 16, 3) := by decide +kernel
